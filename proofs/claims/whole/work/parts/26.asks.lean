def F_X1_give (k2 : Nat) (x1 : Int32) : Nat → mm_g → Int32 → Int32 → Int32 × mm_g
  | 0, g, x2, x3 => (0, g)
  | n + 1, g, x2, x3 => (if x3 ≤ 12 then (if x2 = 10 then ((F_X2_stockOf (F_X1_leave g x2) k2 x1), (F_X1_leave g x2)) else (if x2 = 11 then (((F_X1_give k2 x1 n (F_X1_leave g x2) 10 (x3 + 1)).1 + (F_X1_give k2 x1 n ((F_X1_give k2 x1 n (F_X1_leave g x2) 10 (x3 + 1)).2) (F_X1_markBody (F_X2_kindOf (F_X1_leave g x2) k2 x1)) (x3 + 1)).1), (F_X1_give k2 x1 n ((F_X1_give k2 x1 n (F_X1_leave g x2) 10 (x3 + 1)).2) (F_X1_markBody (F_X2_kindOf (F_X1_leave g x2) k2 x1)) (x3 + 1)).2) else (if x2 = 12 then ((-((F_X1_give k2 x1 n (F_X1_leave g x2) 11 (x3 + 1)).1)), (F_X1_give k2 x1 n (F_X1_leave g x2) 11 (x3 + 1)).2) else (if x2 = 13 then (((F_X1_give k2 x1 n (F_X1_leave g x2) 10 (x3 + 1)).1 - 100), (F_X1_give k2 x1 n (F_X1_leave g x2) 10 (x3 + 1)).2) else (if x2 = 14 then ((2 * (F_X1_give k2 x1 n (F_X1_leave g x2) 13 (x3 + 1)).1), (F_X1_give k2 x1 n (F_X1_leave g x2) 13 (x3 + 1)).2) else (if x2 = 15 then (0, (F_X1_leave g x2)) else (if x2 = 16 then (0, (F_X1_leave g x2)) else (if x2 = 17 then (0, (F_X1_leave g x2)) else (if x2 = 18 then (0, (F_X1_leave g x2)) else (if x2 = 19 then (0, (F_X1_leave g x2)) else (if x2 = 20 then (x1, (F_X1_leave g x2)) else (if x2 = 21 then (((F_X1_give k2 x1 n (F_X1_leave g x2) 20 (x3 + 1)).1 + (F_X2_warmOf ((F_X1_give k2 x1 n (F_X1_leave g x2) 20 (x3 + 1)).2) k2 x1)), (F_X1_give k2 x1 n (F_X1_leave g x2) 20 (x3 + 1)).2) else (if x2 = 22 then (((F_X1_give k2 x1 n (F_X1_leave g x2) 21 (x3 + 1)).1 - 1000), (F_X1_give k2 x1 n (F_X1_leave g x2) 21 (x3 + 1)).2) else (if x2 = 23 then (((F_X1_give k2 x1 n (F_X1_leave g x2) 20 (x3 + 1)).1 - (F_X1_give k2 x1 n ((F_X1_give k2 x1 n (F_X1_leave g x2) 20 (x3 + 1)).2) (F_X1_sizeBody (F_X2_kindOf (F_X1_leave g x2) k2 x1)) (x3 + 1)).1), (F_X1_give k2 x1 n ((F_X1_give k2 x1 n (F_X1_leave g x2) 20 (x3 + 1)).2) (F_X1_sizeBody (F_X2_kindOf (F_X1_leave g x2) k2 x1)) (x3 + 1)).2) else (if x2 = 24 then ((2 * (F_X1_give k2 x1 n (F_X1_leave g x2) 21 (x3 + 1)).1), (F_X1_give k2 x1 n (F_X1_leave g x2) 21 (x3 + 1)).2) else (0, (F_X1_leave g x2))))))))))))))))) else (0, g))
theorem give_d {x : Int32} {n : Nat} (h : (13 : Int) ≤ x.toInt + (n + 1 : Nat)) (c : x ≤ 12) : (13 : Int) ≤ (x + 1).toInt + n := by
  rw [toI_le] at c
  have e12 : (12 : Int32).toInt = 12 := rfl
  have e1 : (1 : Int32).toInt = 1 := rfl
  have b1 := Int32.le_toInt x
  rw [Int32.toInt_add, e1, Int.bmod_eq_of_le_mul_two (by omega) (by omega)]
  omega
set_option maxRecDepth 100000 in
set_option maxHeartbeats 4000000 in
theorem k_X1_give (l : Launch) (G : mm_G) {pr : Nat → Nat → Prop} {ad : Nat → Nat → Nat → Nat} (hw : mm_W pr) {k2 : Nat} (hk2 : pr 2 k2) (x1 : Int32) : ∀ (n : Nat) (g : mm_g) (x2 x3 : Int32) (hd : (13 : Int) ≤ x3.toInt + (n : Nat)), Mt l G yX1_give cX1_give 7 (some .int) (rmk (n + 3) (110 + 26 * n)) [.ref (ad 1 0 0), .ref (ad 2 k2 0), .int x1, .int x2, .int x3] pr ad g (qM pr ad (F_X1_give k2 x1 n g x2 x3)) 0 0 := by
  intro n
  induction n with
  | zero =>
      intro g x2 x3 hd
      refine Mt_of (by decide) (Nat.le_of_ble_eq_true rfl) ?_
      show V l G RX1 cX1_give 7 (some .int) _ _ 0 0 0 0 0 [(0, .ref (ad 1 0 0)), (1, .ref (ad 2 k2 0)), (2, .int x1), (3, .int x2), (4, .int x3)] [] pr ad g
      refine V_iload dX1_give_0 4 rfl ?_
      refine V_bipush (v := 12) dX1_give_2 (by decide) ?_
      refine V_ic_le (tgt := 9) dX1_give_4 (by decide) (fun c_4 => ?_) (fun c_4 => ?_)
      · exact absurd (show x3.toInt ≤ 12 from toI_le.mp c_4) (by omega)
      · refine V_iconst (v := 0) dX1_give_7 (by decide) ?_
        exact V_iret dX1_give_8 rfl (lfM (by rfl))
  | succ n ih =>
      intro g x2 x3 hd
      refine Mt_of (by decide) (Nat.le_of_ble_eq_true rfl) ?_
      show V l G RX1 cX1_give 7 (some .int) _ _ 0 0 0 0 0 [(0, .ref (ad 1 0 0)), (1, .ref (ad 2 k2 0)), (2, .int x1), (3, .int x2), (4, .int x3)] [] pr ad g
      refine V_iload dX1_give_0 4 rfl ?_
      refine V_bipush (v := 12) dX1_give_2 (by decide) ?_
      refine V_ic_le (tgt := 9) dX1_give_4 (by decide) (fun c_4 => ?_) (fun c_4 => ?_)
      · refine V_aload_n dX1_give_9 0 rfl ?_
        refine V_iload_n dX1_give_10 3 rfl ?_
        refine V_cV (k_X1_leave l G hw g  x2 ) hy_X1_leave hi_X1_leave hs_X1_leave q_962 rfl rfl (W_1 hw) rfl rfl rfl rfl rfl ⟨by dsimp only [rmk]; omega, by dsimp only [rmk]; omega⟩ (Nat.le_of_ble_eq_true rfl) ⟨Nat.le_refl 0, Nat.le_refl 0⟩ dX1_give_11 (V_kN ?_)
        refine V_iload dX1_give_14 4 rfl ?_
        refine V_iconst (v := 1) dX1_give_16 (by decide) ?_
        refine V_iadd dX1_give_17 ?_
        refine V_istore (L2 := [(5, .int (x3 + 1)), (0, .ref (ad 1 0 0)), (1, .ref (ad 2 k2 0)), (2, .int x1), (3, .int x2), (4, .int x3)]) dX1_give_18 (by decide) rfl ?_
        refine V_aload_n dX1_give_20 2 rfl ?_
        refine V_iload_n dX1_give_21 3 rfl ?_
        refine V_cV (k_X2_kindOf l G hw (F_X1_leave g x2) hk2 x1 ) hy_X2_kindOf hi_X2_kindOf hs_X2_kindOf q_950 rfl rfl hk2 rfl rfl rfl rfl rfl ⟨by dsimp only [rmk]; omega, by dsimp only [rmk]; omega⟩ (Nat.le_of_ble_eq_true rfl) ⟨Nat.le_refl 0, Nat.le_refl 0⟩ dX1_give_22 (V_kI ?_)
        refine V_istore (L2 := [(6, .int (F_X2_kindOf (F_X1_leave g x2) k2 x1)), (5, .int (x3 + 1)), (0, .ref (ad 1 0 0)), (1, .ref (ad 2 k2 0)), (2, .int x1), (3, .int x2), (4, .int x3)]) dX1_give_25 (by decide) rfl ?_
        refine V_iload_n dX1_give_27 5 rfl ?_
        by_cases s_28_0 : x2 = 10
        · refine V_tabI (v := 10) (off := 76) (tgt := 104) dX1_give_28 s_28_0 (by decide) (by decide) rfl (by decide) ?_
          refine V_aload_n dX1_give_104 3 rfl ?_
          refine V_iload_n dX1_give_105 4 rfl ?_
          refine V_cV (k_X2_stockOf l G hw (F_X1_leave g x2) hk2 x1 ) hy_X2_stockOf hi_X2_stockOf hs_X2_stockOf q_966 rfl rfl hk2 rfl rfl rfl rfl rfl ⟨by dsimp only [rmk]; omega, by dsimp only [rmk]; omega⟩ (Nat.le_of_ble_eq_true rfl) ⟨Nat.le_refl 0, Nat.le_refl 0⟩ dX1_give_106 (V_kI ?_)
          exact V_iret dX1_give_109 rfl (lfM (by simp only [F_X1_give, if_pos c_4, if_pos s_28_0]))
        by_cases s_28_1 : x2 = 11
        · refine V_tabI (v := 11) (off := 82) (tgt := 110) dX1_give_28 s_28_1 (by decide) (by decide) rfl (by decide) ?_
          refine V_aload_n dX1_give_110 2 rfl ?_
          refine V_aload_n dX1_give_111 3 rfl ?_
          refine V_iload_n dX1_give_112 4 rfl ?_
          refine V_bipush (v := 10) dX1_give_113 (by decide) ?_
          refine V_iload dX1_give_115 1 rfl ?_
          refine V_cS (ih (F_X1_leave g x2) 10 (x3 + 1) (by exact give_d hd c_4)) hy_X1_give hz_X1_give q_959 rfl rfl rfl rfl ⟨by dsimp only [rmk]; omega, by dsimp only [rmk]; omega⟩ (Nat.le_of_ble_eq_true rfl) ⟨Nat.le_refl 0, Nat.le_refl 0⟩ dX1_give_117 (V_kM ?_)
          refine V_aload_n dX1_give_120 2 rfl ?_
          refine V_aload_n dX1_give_121 3 rfl ?_
          refine V_iload_n dX1_give_122 4 rfl ?_
          refine V_iload dX1_give_123 0 rfl ?_
          refine V_cS (k_X1_markBody l G hw ((F_X1_give k2 x1 n (F_X1_leave g x2) 10 (x3 + 1)).2)  (F_X2_kindOf (F_X1_leave g x2) k2 x1) ) hy_X1_markBody hz_X1_markBody q_955 rfl rfl rfl rfl ⟨by dsimp only [rmk]; omega, by dsimp only [rmk]; omega⟩ (Nat.le_of_ble_eq_true rfl) ⟨Nat.le_refl 0, Nat.le_refl 0⟩ dX1_give_125 (V_kI ?_)
          refine V_iload dX1_give_128 1 rfl ?_
          refine V_cS (ih ((F_X1_give k2 x1 n (F_X1_leave g x2) 10 (x3 + 1)).2) (F_X1_markBody (F_X2_kindOf (F_X1_leave g x2) k2 x1)) (x3 + 1) (by exact give_d hd c_4)) hy_X1_give hz_X1_give q_959 rfl rfl rfl rfl ⟨by dsimp only [rmk]; omega, by dsimp only [rmk]; omega⟩ (Nat.le_of_ble_eq_true rfl) ⟨Nat.le_refl 0, Nat.le_refl 0⟩ dX1_give_130 (V_kM ?_)
          refine V_iadd dX1_give_133 ?_
          exact V_iret dX1_give_134 rfl (lfM (by simp only [F_X1_give, if_pos c_4, if_neg s_28_0, if_pos s_28_1]))
        by_cases s_28_2 : x2 = 12
        · refine V_tabI (v := 12) (off := 107) (tgt := 135) dX1_give_28 s_28_2 (by decide) (by decide) rfl (by decide) ?_
          refine V_aload_n dX1_give_135 2 rfl ?_
          refine V_aload_n dX1_give_136 3 rfl ?_
          refine V_iload_n dX1_give_137 4 rfl ?_
          refine V_bipush (v := 11) dX1_give_138 (by decide) ?_
          refine V_iload dX1_give_140 1 rfl ?_
          refine V_cS (ih (F_X1_leave g x2) 11 (x3 + 1) (by exact give_d hd c_4)) hy_X1_give hz_X1_give q_959 rfl rfl rfl rfl ⟨by dsimp only [rmk]; omega, by dsimp only [rmk]; omega⟩ (Nat.le_of_ble_eq_true rfl) ⟨Nat.le_refl 0, Nat.le_refl 0⟩ dX1_give_142 (V_kM ?_)
          refine V_ineg dX1_give_145 ?_
          exact V_iret dX1_give_146 rfl (lfM (by simp only [F_X1_give, if_pos c_4, if_neg s_28_0, if_neg s_28_1, if_pos s_28_2]))
        by_cases s_28_3 : x2 = 13
        · refine V_tabI (v := 13) (off := 119) (tgt := 147) dX1_give_28 s_28_3 (by decide) (by decide) rfl (by decide) ?_
          refine V_aload_n dX1_give_147 2 rfl ?_
          refine V_aload_n dX1_give_148 3 rfl ?_
          refine V_iload_n dX1_give_149 4 rfl ?_
          refine V_bipush (v := 10) dX1_give_150 (by decide) ?_
          refine V_iload dX1_give_152 1 rfl ?_
          refine V_cS (ih (F_X1_leave g x2) 10 (x3 + 1) (by exact give_d hd c_4)) hy_X1_give hz_X1_give q_959 rfl rfl rfl rfl ⟨by dsimp only [rmk]; omega, by dsimp only [rmk]; omega⟩ (Nat.le_of_ble_eq_true rfl) ⟨Nat.le_refl 0, Nat.le_refl 0⟩ dX1_give_154 (V_kM ?_)
          refine V_bipush (v := 100) dX1_give_157 (by decide) ?_
          refine V_isub dX1_give_159 ?_
          exact V_iret dX1_give_160 rfl (lfM (by simp only [F_X1_give, if_pos c_4, if_neg s_28_0, if_neg s_28_1, if_neg s_28_2, if_pos s_28_3]))
        by_cases s_28_4 : x2 = 14
        · refine V_tabI (v := 14) (off := 133) (tgt := 161) dX1_give_28 s_28_4 (by decide) (by decide) rfl (by decide) ?_
          refine V_iconst (v := 2) dX1_give_161 (by decide) ?_
          refine V_aload_n dX1_give_162 2 rfl ?_
          refine V_aload_n dX1_give_163 3 rfl ?_
          refine V_iload_n dX1_give_164 4 rfl ?_
          refine V_bipush (v := 13) dX1_give_165 (by decide) ?_
          refine V_iload dX1_give_167 1 rfl ?_
          refine V_cS (ih (F_X1_leave g x2) 13 (x3 + 1) (by exact give_d hd c_4)) hy_X1_give hz_X1_give q_959 rfl rfl rfl rfl ⟨by dsimp only [rmk]; omega, by dsimp only [rmk]; omega⟩ (Nat.le_of_ble_eq_true rfl) ⟨Nat.le_refl 0, Nat.le_refl 0⟩ dX1_give_169 (V_kM ?_)
          refine V_imul dX1_give_172 ?_
          exact V_iret dX1_give_173 rfl (lfM (by simp only [F_X1_give, if_pos c_4, if_neg s_28_0, if_neg s_28_1, if_neg s_28_2, if_neg s_28_3, if_pos s_28_4]))
        by_cases s_28_5 : x2 = 15
        · refine V_tabI (v := 15) (off := 218) (tgt := 246) dX1_give_28 s_28_5 (by decide) (by decide) rfl (by decide) ?_
          refine V_iconst (v := 0) dX1_give_246 (by decide) ?_
          exact V_iret dX1_give_247 rfl (lfM (by simp only [F_X1_give, if_pos c_4, if_neg s_28_0, if_neg s_28_1, if_neg s_28_2, if_neg s_28_3, if_neg s_28_4, if_pos s_28_5]))
        by_cases s_28_6 : x2 = 16
        · refine V_tabI (v := 16) (off := 218) (tgt := 246) dX1_give_28 s_28_6 (by decide) (by decide) rfl (by decide) ?_
          refine V_iconst (v := 0) dX1_give_246 (by decide) ?_
          exact V_iret dX1_give_247 rfl (lfM (by simp only [F_X1_give, if_pos c_4, if_neg s_28_0, if_neg s_28_1, if_neg s_28_2, if_neg s_28_3, if_neg s_28_4, if_neg s_28_5, if_pos s_28_6]))
        by_cases s_28_7 : x2 = 17
        · refine V_tabI (v := 17) (off := 218) (tgt := 246) dX1_give_28 s_28_7 (by decide) (by decide) rfl (by decide) ?_
          refine V_iconst (v := 0) dX1_give_246 (by decide) ?_
          exact V_iret dX1_give_247 rfl (lfM (by simp only [F_X1_give, if_pos c_4, if_neg s_28_0, if_neg s_28_1, if_neg s_28_2, if_neg s_28_3, if_neg s_28_4, if_neg s_28_5, if_neg s_28_6, if_pos s_28_7]))
        by_cases s_28_8 : x2 = 18
        · refine V_tabI (v := 18) (off := 218) (tgt := 246) dX1_give_28 s_28_8 (by decide) (by decide) rfl (by decide) ?_
          refine V_iconst (v := 0) dX1_give_246 (by decide) ?_
          exact V_iret dX1_give_247 rfl (lfM (by simp only [F_X1_give, if_pos c_4, if_neg s_28_0, if_neg s_28_1, if_neg s_28_2, if_neg s_28_3, if_neg s_28_4, if_neg s_28_5, if_neg s_28_6, if_neg s_28_7, if_pos s_28_8]))
        by_cases s_28_9 : x2 = 19
        · refine V_tabI (v := 19) (off := 218) (tgt := 246) dX1_give_28 s_28_9 (by decide) (by decide) rfl (by decide) ?_
          refine V_iconst (v := 0) dX1_give_246 (by decide) ?_
          exact V_iret dX1_give_247 rfl (lfM (by simp only [F_X1_give, if_pos c_4, if_neg s_28_0, if_neg s_28_1, if_neg s_28_2, if_neg s_28_3, if_neg s_28_4, if_neg s_28_5, if_neg s_28_6, if_neg s_28_7, if_neg s_28_8, if_pos s_28_9]))
        by_cases s_28_10 : x2 = 20
        · refine V_tabI (v := 20) (off := 146) (tgt := 174) dX1_give_28 s_28_10 (by decide) (by decide) rfl (by decide) ?_
          refine V_iload_n dX1_give_174 4 rfl ?_
          exact V_iret dX1_give_175 rfl (lfM (by simp only [F_X1_give, if_pos c_4, if_neg s_28_0, if_neg s_28_1, if_neg s_28_2, if_neg s_28_3, if_neg s_28_4, if_neg s_28_5, if_neg s_28_6, if_neg s_28_7, if_neg s_28_8, if_neg s_28_9, if_pos s_28_10]))
        by_cases s_28_11 : x2 = 21
        · refine V_tabI (v := 21) (off := 148) (tgt := 176) dX1_give_28 s_28_11 (by decide) (by decide) rfl (by decide) ?_
          refine V_aload_n dX1_give_176 2 rfl ?_
          refine V_aload_n dX1_give_177 3 rfl ?_
          refine V_iload_n dX1_give_178 4 rfl ?_
          refine V_bipush (v := 20) dX1_give_179 (by decide) ?_
          refine V_iload dX1_give_181 1 rfl ?_
          refine V_cS (ih (F_X1_leave g x2) 20 (x3 + 1) (by exact give_d hd c_4)) hy_X1_give hz_X1_give q_959 rfl rfl rfl rfl ⟨by dsimp only [rmk]; omega, by dsimp only [rmk]; omega⟩ (Nat.le_of_ble_eq_true rfl) ⟨Nat.le_refl 0, Nat.le_refl 0⟩ dX1_give_183 (V_kM ?_)
          refine V_aload_n dX1_give_186 3 rfl ?_
          refine V_iload_n dX1_give_187 4 rfl ?_
          refine V_cV (k_X2_warmOf l G hw ((F_X1_give k2 x1 n (F_X1_leave g x2) 20 (x3 + 1)).2) hk2 x1 ) hy_X2_warmOf hi_X2_warmOf hs_X2_warmOf q_967 rfl rfl hk2 rfl rfl rfl rfl rfl ⟨by dsimp only [rmk]; omega, by dsimp only [rmk]; omega⟩ (Nat.le_of_ble_eq_true rfl) ⟨Nat.le_refl 0, Nat.le_refl 0⟩ dX1_give_188 (V_kI ?_)
          refine V_iadd dX1_give_191 ?_
          exact V_iret dX1_give_192 rfl (lfM (by simp only [F_X1_give, if_pos c_4, if_neg s_28_0, if_neg s_28_1, if_neg s_28_2, if_neg s_28_3, if_neg s_28_4, if_neg s_28_5, if_neg s_28_6, if_neg s_28_7, if_neg s_28_8, if_neg s_28_9, if_neg s_28_10, if_pos s_28_11]))
        by_cases s_28_12 : x2 = 22
        · refine V_tabI (v := 22) (off := 165) (tgt := 193) dX1_give_28 s_28_12 (by decide) (by decide) rfl (by decide) ?_
          refine V_aload_n dX1_give_193 2 rfl ?_
          refine V_aload_n dX1_give_194 3 rfl ?_
          refine V_iload_n dX1_give_195 4 rfl ?_
          refine V_bipush (v := 21) dX1_give_196 (by decide) ?_
          refine V_iload dX1_give_198 1 rfl ?_
          refine V_cS (ih (F_X1_leave g x2) 21 (x3 + 1) (by exact give_d hd c_4)) hy_X1_give hz_X1_give q_959 rfl rfl rfl rfl ⟨by dsimp only [rmk]; omega, by dsimp only [rmk]; omega⟩ (Nat.le_of_ble_eq_true rfl) ⟨Nat.le_refl 0, Nat.le_refl 0⟩ dX1_give_200 (V_kM ?_)
          refine V_sipush (v := 1000) dX1_give_203 (by decide) ?_
          refine V_isub dX1_give_206 ?_
          exact V_iret dX1_give_207 rfl (lfM (by simp only [F_X1_give, if_pos c_4, if_neg s_28_0, if_neg s_28_1, if_neg s_28_2, if_neg s_28_3, if_neg s_28_4, if_neg s_28_5, if_neg s_28_6, if_neg s_28_7, if_neg s_28_8, if_neg s_28_9, if_neg s_28_10, if_neg s_28_11, if_pos s_28_12]))
        by_cases s_28_13 : x2 = 23
        · refine V_tabI (v := 23) (off := 180) (tgt := 208) dX1_give_28 s_28_13 (by decide) (by decide) rfl (by decide) ?_
          refine V_aload_n dX1_give_208 2 rfl ?_
          refine V_aload_n dX1_give_209 3 rfl ?_
          refine V_iload_n dX1_give_210 4 rfl ?_
          refine V_bipush (v := 20) dX1_give_211 (by decide) ?_
          refine V_iload dX1_give_213 1 rfl ?_
          refine V_cS (ih (F_X1_leave g x2) 20 (x3 + 1) (by exact give_d hd c_4)) hy_X1_give hz_X1_give q_959 rfl rfl rfl rfl ⟨by dsimp only [rmk]; omega, by dsimp only [rmk]; omega⟩ (Nat.le_of_ble_eq_true rfl) ⟨Nat.le_refl 0, Nat.le_refl 0⟩ dX1_give_215 (V_kM ?_)
          refine V_aload_n dX1_give_218 2 rfl ?_
          refine V_aload_n dX1_give_219 3 rfl ?_
          refine V_iload_n dX1_give_220 4 rfl ?_
          refine V_iload dX1_give_221 0 rfl ?_
          refine V_cS (k_X1_sizeBody l G hw ((F_X1_give k2 x1 n (F_X1_leave g x2) 20 (x3 + 1)).2)  (F_X2_kindOf (F_X1_leave g x2) k2 x1) ) hy_X1_sizeBody hz_X1_sizeBody q_951 rfl rfl rfl rfl ⟨by dsimp only [rmk]; omega, by dsimp only [rmk]; omega⟩ (Nat.le_of_ble_eq_true rfl) ⟨Nat.le_refl 0, Nat.le_refl 0⟩ dX1_give_223 (V_kI ?_)
          refine V_iload dX1_give_226 1 rfl ?_
          refine V_cS (ih ((F_X1_give k2 x1 n (F_X1_leave g x2) 20 (x3 + 1)).2) (F_X1_sizeBody (F_X2_kindOf (F_X1_leave g x2) k2 x1)) (x3 + 1) (by exact give_d hd c_4)) hy_X1_give hz_X1_give q_959 rfl rfl rfl rfl ⟨by dsimp only [rmk]; omega, by dsimp only [rmk]; omega⟩ (Nat.le_of_ble_eq_true rfl) ⟨Nat.le_refl 0, Nat.le_refl 0⟩ dX1_give_228 (V_kM ?_)
          refine V_isub dX1_give_231 ?_
          exact V_iret dX1_give_232 rfl (lfM (by simp only [F_X1_give, if_pos c_4, if_neg s_28_0, if_neg s_28_1, if_neg s_28_2, if_neg s_28_3, if_neg s_28_4, if_neg s_28_5, if_neg s_28_6, if_neg s_28_7, if_neg s_28_8, if_neg s_28_9, if_neg s_28_10, if_neg s_28_11, if_neg s_28_12, if_pos s_28_13]))
        by_cases s_28_14 : x2 = 24
        · refine V_tabI (v := 24) (off := 205) (tgt := 233) dX1_give_28 s_28_14 (by decide) (by decide) rfl (by decide) ?_
          refine V_iconst (v := 2) dX1_give_233 (by decide) ?_
          refine V_aload_n dX1_give_234 2 rfl ?_
          refine V_aload_n dX1_give_235 3 rfl ?_
          refine V_iload_n dX1_give_236 4 rfl ?_
          refine V_bipush (v := 21) dX1_give_237 (by decide) ?_
          refine V_iload dX1_give_239 1 rfl ?_
          refine V_cS (ih (F_X1_leave g x2) 21 (x3 + 1) (by exact give_d hd c_4)) hy_X1_give hz_X1_give q_959 rfl rfl rfl rfl ⟨by dsimp only [rmk]; omega, by dsimp only [rmk]; omega⟩ (Nat.le_of_ble_eq_true rfl) ⟨Nat.le_refl 0, Nat.le_refl 0⟩ dX1_give_241 (V_kM ?_)
          refine V_imul dX1_give_244 ?_
          exact V_iret dX1_give_245 rfl (lfM (by simp only [F_X1_give, if_pos c_4, if_neg s_28_0, if_neg s_28_1, if_neg s_28_2, if_neg s_28_3, if_neg s_28_4, if_neg s_28_5, if_neg s_28_6, if_neg s_28_7, if_neg s_28_8, if_neg s_28_9, if_neg s_28_10, if_neg s_28_11, if_neg s_28_12, if_neg s_28_13, if_pos s_28_14]))
        refine V_tabO (tgt := 246) dX1_give_28 (by have e0 := mm_ne s_28_0 (n := 10) (by decide); have e1 := mm_ne s_28_1 (n := 11) (by decide); have e2 := mm_ne s_28_2 (n := 12) (by decide); have e3 := mm_ne s_28_3 (n := 13) (by decide); have e4 := mm_ne s_28_4 (n := 14) (by decide); have e5 := mm_ne s_28_5 (n := 15) (by decide); have e6 := mm_ne s_28_6 (n := 16) (by decide); have e7 := mm_ne s_28_7 (n := 17) (by decide); have e8 := mm_ne s_28_8 (n := 18) (by decide); have e9 := mm_ne s_28_9 (n := 19) (by decide); have e10 := mm_ne s_28_10 (n := 20) (by decide); have e11 := mm_ne s_28_11 (n := 21) (by decide); have e12 := mm_ne s_28_12 (n := 22) (by decide); have e13 := mm_ne s_28_13 (n := 23) (by decide); have e14 := mm_ne s_28_14 (n := 24) (by decide); omega) (by decide) ?_
        refine V_iconst (v := 0) dX1_give_246 (by decide) ?_
        exact V_iret dX1_give_247 rfl (lfM (by simp only [F_X1_give, if_pos c_4, if_neg s_28_0, if_neg s_28_1, if_neg s_28_2, if_neg s_28_3, if_neg s_28_4, if_neg s_28_5, if_neg s_28_6, if_neg s_28_7, if_neg s_28_8, if_neg s_28_9, if_neg s_28_10, if_neg s_28_11, if_neg s_28_12, if_neg s_28_13, if_neg s_28_14]))
      · refine V_iconst (v := 0) dX1_give_7 (by decide) ?_
        exact V_iret dX1_give_8 rfl (lfM (by simp only [F_X1_give, if_neg c_4]))
def F_X1_answer (g : mm_g) (k2 : Nat) (x1 : Int32) (x2 : Int32) : Int32 × mm_g := (if x2 = 0 then ((F_X1_give k2 x1 13 (wr g 1 0 0 0) (F_X1_sizeBody (F_X2_kindOf (wr g 1 0 0 0) k2 x1)) 0).1, (F_X1_give k2 x1 13 (wr g 1 0 0 0) (F_X1_sizeBody (F_X2_kindOf (wr g 1 0 0 0) k2 x1)) 0).2) else ((F_X1_give k2 x1 13 (wr g 1 0 0 0) (F_X1_markBody (F_X2_kindOf (wr g 1 0 0 0) k2 x1)) 0).1, (F_X1_give k2 x1 13 (wr g 1 0 0 0) (F_X1_markBody (F_X2_kindOf (wr g 1 0 0 0) k2 x1)) 0).2))
set_option maxRecDepth 100000 in
set_option maxHeartbeats 4000000 in
theorem k_X1_answer (l : Launch) (G : mm_G) {pr : Nat → Nat → Prop} {ad : Nat → Nat → Nat → Nat} (hw : mm_W pr) (g : mm_g) {k2 : Nat} (hk2 : pr 2 k2) (x1 : Int32) (x2 : Int32)  : Mt l G yX1_answer cX1_answer 5 (some .int) (rmk 17 474) [.ref (ad 1 0 0), .ref (ad 2 k2 0), .int x1, .int x2] pr ad g (qM pr ad (F_X1_answer g k2 x1 x2)) 0 0 := by
  refine Mt_of (by decide) (Nat.le_of_ble_eq_true rfl) ?_
  show V l G RX1 cX1_answer 5 (some .int) _ _ 0 0 0 0 0 [(0, .ref (ad 1 0 0)), (1, .ref (ad 2 k2 0)), (2, .int x1), (3, .int x2)] [] pr ad g
  refine V_aload_n dX1_answer_0 0 rfl ?_
  refine V_iconst (v := 0) dX1_answer_1 (by decide) ?_
  refine P_1_1 (W_1 hw) q_86 dX1_answer_2 ?_
  refine V_aload_n dX1_answer_5 1 rfl ?_
  refine V_iload_n dX1_answer_6 2 rfl ?_
  refine V_cV (k_X2_kindOf l G hw (wr g 1 0 0 0) hk2 x1 ) hy_X2_kindOf hi_X2_kindOf hs_X2_kindOf q_950 rfl rfl hk2 rfl rfl rfl rfl rfl ⟨by decide, by decide⟩ (Nat.le_of_ble_eq_true rfl) ⟨by decide, by decide⟩ dX1_answer_7 (V_kI ?_)
  refine V_istore (L2 := [(4, .int (F_X2_kindOf (wr g 1 0 0 0) k2 x1)), (0, .ref (ad 1 0 0)), (1, .ref (ad 2 k2 0)), (2, .int x1), (3, .int x2)]) dX1_answer_10 (by decide) rfl ?_
  refine V_aload_n dX1_answer_12 1 rfl ?_
  refine V_aload_n dX1_answer_13 2 rfl ?_
  refine V_iload_n dX1_answer_14 3 rfl ?_
  refine V_iload_n dX1_answer_15 4 rfl ?_
  refine V_if_ne (tgt := 27) dX1_answer_16 (by decide) (fun c_16 => ?_) (fun c_16 => ?_)
  · refine V_iload dX1_answer_27 0 rfl ?_
    refine V_cS (k_X1_markBody l G hw (wr g 1 0 0 0)  (F_X2_kindOf (wr g 1 0 0 0) k2 x1) ) hy_X1_markBody hz_X1_markBody q_955 rfl rfl rfl rfl ⟨by decide, by decide⟩ (Nat.le_of_ble_eq_true rfl) ⟨by decide, by decide⟩ dX1_answer_29 (V_kI ?_)
    refine V_iconst (v := 0) dX1_answer_32 (by decide) ?_
    refine V_cS (k_X1_give l G hw hk2 x1 13 (wr g 1 0 0 0) (F_X1_markBody (F_X2_kindOf (wr g 1 0 0 0) k2 x1)) 0 (by decide)) hy_X1_give hz_X1_give q_959 rfl rfl rfl rfl ⟨by decide, by decide⟩ (Nat.le_of_ble_eq_true rfl) ⟨by decide, by decide⟩ dX1_answer_33 (V_kM ?_)
    exact V_iret dX1_answer_36 rfl (lfM (by simp only [F_X1_answer, if_neg c_16]))
  · refine V_iload dX1_answer_19 0 rfl ?_
    refine V_cS (k_X1_sizeBody l G hw (wr g 1 0 0 0)  (F_X2_kindOf (wr g 1 0 0 0) k2 x1) ) hy_X1_sizeBody hz_X1_sizeBody q_951 rfl rfl rfl rfl ⟨by decide, by decide⟩ (Nat.le_of_ble_eq_true rfl) ⟨by decide, by decide⟩ dX1_answer_21 (V_kI ?_)
    refine V_goto (tgt := 32) dX1_answer_24 (by decide) ?_
    refine V_iconst (v := 0) dX1_answer_32 (by decide) ?_
    refine V_cS (k_X1_give l G hw hk2 x1 13 (wr g 1 0 0 0) (F_X1_sizeBody (F_X2_kindOf (wr g 1 0 0 0) k2 x1)) 0 (by decide)) hy_X1_give hz_X1_give q_959 rfl rfl rfl rfl ⟨by decide, by decide⟩ (Nat.le_of_ble_eq_true rfl) ⟨by decide, by decide⟩ dX1_answer_33 (V_kM ?_)
    exact V_iret dX1_answer_36 rfl (lfM (by simp only [F_X1_answer, if_pos c_16]))
