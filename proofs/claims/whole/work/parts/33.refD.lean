def F_X7_isSo_6 (x1 : Int32) (x2 : Int32) (x3 : Int32) (K : Int32 → Nat → mm_g → Int32 × mm_g) : Nat → Int32 → Nat → mm_g → Int32 × mm_g
  | 0, a, j, s => K a j s
  | n + 1, a, j, s => (if x3 ≤ (nI j) then K a j s else (if a = 0 then F_X7_isSo_6 x1 x2 x3 K n 0 (j + 1) (F_X7_oneTide s) else (if ((F_X7_oneTide s) 7 3 (x2 + (nI j)).toNatClampNeg) = ((F_X7_oneTide s) 7 4 (18 + x1).toNatClampNeg) then F_X7_isSo_6 x1 x2 x3 K n 1 (j + 1) (F_X7_oneTide s) else F_X7_isSo_6 x1 x2 x3 K n 0 (j + 1) (F_X7_oneTide s))))
def F_X7_isSo (g : mm_g) (x1 : Int32) (x2 : Int32) (x3 : Int32) : Int32 × mm_g := (F_X7_isSo_6 x1 x2 x3 (fun (a6 : Int32) (j6 : Nat) (s6 : mm_g) => (a6, (F_X7_takeBack s6))) (x3.toInt.toNat + 1) 1 0 g)
set_option maxRecDepth 100000 in
set_option maxHeartbeats 4000000 in
theorem w_X7_isSo_6 (l : Launch) (G : mm_G) {pr : Nat → Nat → Prop} {ad : Nat → Nat → Nat → Nat} (hw : mm_W pr) (x1 : Int32) (x2 : Int32) (x3 : Int32)  (hx : vp_in x1 9) (ht : 0 ≤ x2.toInt ∧ x2.toInt + x3.toInt ≤ 320) (K : Int32 → Nat → mm_g → Int32 × mm_g) (hK : ∀ (a : Int32) (j : Nat) (s : mm_g) (hj : j ≤ x3.toInt.toNat) (hB : okB s) (h01 : a = 0 ∨ a = 1), V l G RX7 cX7_isSo 6 (some .boolean) (rmk 5 152) (qM pr ad (K a j s)) 0 0 0 0 55 [(0, .ref (ad 7 0 0)), (1, .int x1), (2, .int x2), (3, .int x3), (4, .int a), (5, .int (nI j))] [] pr ad s) : ∀ (n : Nat) (a : Int32) (j : Nat) (s : mm_g) (hj : j ≤ x3.toInt.toNat) (hB : okB s) (h01 : a = 0 ∨ a = 1) (hm : x3.toInt.toNat - j < n), V l G RX7 cX7_isSo 6 (some .boolean) (rmk 5 152) (qM pr ad (F_X7_isSo_6 x1 x2 x3 K n a j s)) 0 0 0 0 6 [(0, .ref (ad 7 0 0)), (1, .int x1), (2, .int x2), (3, .int x3), (4, .int a), (5, .int (nI j))] [] pr ad s := by
  intro n
  induction n with
  | zero => intro a j s hj hB h01 hm; exact absurd hm (Nat.not_lt_zero _)
  | succ n ih =>
      intro a j s hj hB h01 hm
      refine V_iload dX7_isSo_6 5 rfl ?_
      refine V_iload_n dX7_isSo_8 3 rfl ?_
      refine V_ic_ge (tgt := 55) dX7_isSo_9 (by decide) (fun c_9 => ?_) (fun c_9 => ?_)
      · refine V_rp (R2 := K a j s) (by simp only [F_X7_isSo_6, if_pos c_9]) ?_
        refine V_lp [0, 1, 2, 3, 4, 5] rfl ?_
        exact hK a j s (by assumption) (by assumption) (by assumption)
      · refine V_aload_n dX7_isSo_12 0 rfl ?_
        refine V_cV (k_X7_oneTide l G hw s   hB) hy_X7_oneTide hi_X7_oneTide hs_X7_oneTide q_438 rfl rfl (W_7 hw) rfl rfl rfl rfl rfl ⟨by decide, by decide⟩ (Nat.le_of_ble_eq_true rfl) ⟨by decide, by decide⟩ dX7_isSo_13 (V_kN ?_)
        refine V_iload dX7_isSo_16 4 rfl ?_
        refine V_if_eq (tgt := 46) dX7_isSo_18 (by decide) (fun c_18 => ?_) (fun c_18 => ?_)
        · refine V_iconst (v := 0) dX7_isSo_46 (by decide) ?_
          refine V_istore (L2 := [(4, .int 0), (0, .ref (ad 7 0 0)), (1, .int x1), (2, .int x2), (3, .int x3), (5, .int (nI j))]) dX7_isSo_47 (by decide) rfl ?_
          refine V_iinc (v := (nI (j + 1))) (L2 := [(5, .int (nI (j + 1))), (4, .int 0), (0, .ref (ad 7 0 0)), (1, .int x1), (2, .int x2), (3, .int x3)]) dX7_isSo_49 5 rfl (nI_1 _) (by decide) rfl ?_
          refine V_goto (tgt := 6) dX7_isSo_52 (by decide) ?_
          refine V_rp (R2 := F_X7_isSo_6 x1 x2 x3 K n 0 (j + 1) (F_X7_oneTide s)) (by simp only [F_X7_isSo_6, if_neg c_9, if_pos c_18]) ?_
          refine V_lp [2, 3, 4, 5, 1, 0] rfl ?_
          exact ih 0 (j + 1) (F_X7_oneTide s) (by exact (lp_up hj c_9 hm).1) (by exact okB_tide hB) (by first | exact Or.inl rfl | exact Or.inr rfl) (by exact (lp_up hj c_9 hm).2) 
        · refine V_aload_n dX7_isSo_21 0 rfl ?_
          refine V_get (i := 2) inlX7 rfl (W_7 hw) rfl (by decide) q_93 rfl dX7_isSo_22 ?_
          refine V_iload_n dX7_isSo_25 2 rfl ?_
          refine V_iload dX7_isSo_26 5 rfl ?_
          refine V_iadd dX7_isSo_28 ?_
          refine L_7_3 (W_7 hw) (by exact ix_it ht hj c_9) dX7_isSo_29 ?_
          refine V_aload_n dX7_isSo_30 0 rfl ?_
          refine V_get (i := 5) inlX7 rfl (W_7 hw) rfl (by decide) q_94 rfl dX7_isSo_31 ?_
          refine V_bipush (v := 18) dX7_isSo_34 (by decide) ?_
          refine V_iload_n dX7_isSo_36 1 rfl ?_
          refine V_iadd dX7_isSo_37 ?_
          refine L_7_4 (W_7 hw) (by exact ix_18 hx) dX7_isSo_38 ?_
          refine V_ic_ne (tgt := 46) dX7_isSo_39 (by decide) (fun c_39 => ?_) (fun c_39 => ?_)
          · refine V_iconst (v := 0) dX7_isSo_46 (by decide) ?_
            refine V_istore (L2 := [(4, .int 0), (0, .ref (ad 7 0 0)), (1, .int x1), (2, .int x2), (3, .int x3), (5, .int (nI j))]) dX7_isSo_47 (by decide) rfl ?_
            refine V_iinc (v := (nI (j + 1))) (L2 := [(5, .int (nI (j + 1))), (4, .int 0), (0, .ref (ad 7 0 0)), (1, .int x1), (2, .int x2), (3, .int x3)]) dX7_isSo_49 5 rfl (nI_1 _) (by decide) rfl ?_
            refine V_goto (tgt := 6) dX7_isSo_52 (by decide) ?_
            refine V_rp (R2 := F_X7_isSo_6 x1 x2 x3 K n 0 (j + 1) (F_X7_oneTide s)) (by simp only [F_X7_isSo_6, if_neg c_9, if_neg c_18, if_neg c_39]) ?_
            refine V_lp [2, 3, 4, 5, 1, 0] rfl ?_
            exact ih 0 (j + 1) (F_X7_oneTide s) (by exact (lp_up hj c_9 hm).1) (by exact okB_tide hB) (by first | exact Or.inl rfl | exact Or.inr rfl) (by exact (lp_up hj c_9 hm).2) 
          · refine V_iconst (v := 1) dX7_isSo_42 (by decide) ?_
            refine V_goto (tgt := 47) dX7_isSo_43 (by decide) ?_
            refine V_istore (L2 := [(4, .int 1), (0, .ref (ad 7 0 0)), (1, .int x1), (2, .int x2), (3, .int x3), (5, .int (nI j))]) dX7_isSo_47 (by decide) rfl ?_
            refine V_iinc (v := (nI (j + 1))) (L2 := [(5, .int (nI (j + 1))), (4, .int 1), (0, .ref (ad 7 0 0)), (1, .int x1), (2, .int x2), (3, .int x3)]) dX7_isSo_49 5 rfl (nI_1 _) (by decide) rfl ?_
            refine V_goto (tgt := 6) dX7_isSo_52 (by decide) ?_
            refine V_rp (R2 := F_X7_isSo_6 x1 x2 x3 K n 1 (j + 1) (F_X7_oneTide s)) (by simp only [F_X7_isSo_6, if_neg c_9, if_neg c_18, if_pos c_39]) ?_
            refine V_lp [2, 3, 4, 5, 1, 0] rfl ?_
            exact ih 1 (j + 1) (F_X7_oneTide s) (by exact (lp_up hj c_9 hm).1) (by exact okB_tide hB) (by first | exact Or.inl rfl | exact Or.inr rfl) (by exact (lp_up hj c_9 hm).2) 
set_option maxRecDepth 100000 in
set_option maxHeartbeats 4000000 in
theorem k_X7_isSo (l : Launch) (G : mm_G) {pr : Nat → Nat → Prop} {ad : Nat → Nat → Nat → Nat} (hw : mm_W pr) (g : mm_g) (x1 : Int32) (x2 : Int32) (x3 : Int32) (hB : okB g) (hx : vp_in x1 9) (ht : 0 ≤ x2.toInt ∧ x2.toInt + x3.toInt ≤ 320)  : Mt l G yX7_isSo cX7_isSo 6 (some .boolean) (rmk 5 152) [.ref (ad 7 0 0), .int x1, .int x2, .int x3] pr ad g (qM pr ad (F_X7_isSo g x1 x2 x3)) 0 0 := by
  refine Mt_of (by decide) (Nat.le_of_ble_eq_true rfl) ?_
  show V l G RX7 cX7_isSo 6 (some .boolean) _ _ 0 0 0 0 0 [(0, .ref (ad 7 0 0)), (1, .int x1), (2, .int x2), (3, .int x3)] [] pr ad g
  refine V_iconst (v := 1) dX7_isSo_0 (by decide) ?_
  refine V_istore (L2 := [(4, .int 1), (0, .ref (ad 7 0 0)), (1, .int x1), (2, .int x2), (3, .int x3)]) dX7_isSo_1 (by decide) rfl ?_
  refine V_iconst (v := 0) dX7_isSo_3 (by decide) ?_
  refine V_istore (L2 := [(5, .int 0), (4, .int 1), (0, .ref (ad 7 0 0)), (1, .int x1), (2, .int x2), (3, .int x3)]) dX7_isSo_4 (by decide) rfl ?_
  refine V_rp (R2 := F_X7_isSo_6 x1 x2 x3 (fun (a6 : Int32) (j6 : Nat) (s6 : mm_g) => (a6, (F_X7_takeBack s6))) (x3.toInt.toNat + 1) 1 0 g) (by simp only [F_X7_isSo]) ?_
  refine V_lp [2, 3, 4, 5, 1, 0] rfl ?_
  refine w_X7_isSo_6 l G hw x1 x2 x3  (by exact hx) (by exact ht) _ (fun a6 j6 s6 hj6 hB6 h016 => ?_) (x3.toInt.toNat + 1) 1 0 g (by first | exact Nat.zero_le _ | decide) (by exact hB) (by exact Or.inr rfl) (by omega)
  refine V_aload_n dX7_isSo_55 0 rfl ?_
  refine V_cV (k_X7_takeBack l G hw s6   ) hy_X7_takeBack hi_X7_takeBack hs_X7_takeBack q_597 rfl rfl (W_7 hw) rfl rfl rfl rfl rfl ⟨by decide, by decide⟩ (Nat.le_of_ble_eq_true rfl) ⟨by decide, by decide⟩ dX7_isSo_56 (V_kN ?_)
  refine V_iload dX7_isSo_59 4 rfl ?_
  exact V_zret dX7_isSo_61 rfl (nz01 h016) (lfM (by rfl))
theorem isSo_6 {P : mm_g → Prop} {Q : Int32 × mm_g → Prop} {x1 x2 x3 : Int32} (hP : ∀ s, P s → P (F_X7_oneTide s)) {K : Int32 → Nat → mm_g → Int32 × mm_g} (hK : ∀ a j s, P s → Q (K a j s)) : ∀ (n : Nat) (a : Int32) (j : Nat) (s : mm_g), P s → Q (F_X7_isSo_6 x1 x2 x3 K n a j s)
  | 0, a, j, s, h => hK a j s h
  | n + 1, a, j, s, h => by
    unfold F_X7_isSo_6
    repeat' split
    all_goals first | exact hK _ _ _ h | exact isSo_6 hP hK n _ _ _ (hP _ h)
theorem okC_isSo {g : mm_g} {x1 x2 x3 : Int32} (h : okC g) : okC (F_X7_isSo g x1 x2 x3).2 := by
  unfold F_X7_isSo
  refine isSo_6 (P := okC) (Q := fun r => okC r.2) (fun s q => okC_tide q) ?_ _ _ _ _ h
  intro a j s q
  exact okC_take q
def F_X7_grown_109 (x1 : Int32) (x2 : Int32) (x3 : Int32) (x4 : Int32) (x5 : Int32) (f6 : Int32) (f7 : Int32) (K : Int32 → Nat → mm_g → Int32 × mm_g) : Nat → Int32 → Nat → mm_g → Int32 × mm_g
  | 0, a, j, s => K a j s
  | n + 1, a, j, s => (if x2 = 0 then (if 5 < (nI j) then K a j s else (if (F_X7_isSo (wr s 7 4 f7.toNatClampNeg (nI j)) x1 ((40 * x3) + x4) x5).1 = 0 then F_X7_grown_109 x1 x2 x3 x4 x5 f6 f7 K n (a ||| 0) (j + 1) ((F_X7_isSo (wr s 7 4 f7.toNatClampNeg (nI j)) x1 ((40 * x3) + x4) x5).2) else F_X7_grown_109 x1 x2 x3 x4 x5 f6 f7 K n (a ||| ((1 : Int32) <<< ((nI j) &&& 31))) (j + 1) ((F_X7_isSo (wr s 7 4 f7.toNatClampNeg (nI j)) x1 ((40 * x3) + x4) x5).2))) else (if 9 < (nI j) then K a j s else (if (F_X7_isSo (wr s 7 4 f7.toNatClampNeg (nI j)) x1 ((40 * x3) + x4) x5).1 = 0 then F_X7_grown_109 x1 x2 x3 x4 x5 f6 f7 K n (a ||| 0) (j + 1) ((F_X7_isSo (wr s 7 4 f7.toNatClampNeg (nI j)) x1 ((40 * x3) + x4) x5).2) else F_X7_grown_109 x1 x2 x3 x4 x5 f6 f7 K n (a ||| ((1 : Int32) <<< ((nI j) &&& 31))) (j + 1) ((F_X7_isSo (wr s 7 4 f7.toNatClampNeg (nI j)) x1 ((40 * x3) + x4) x5).2))))
def F_X7_grown (g : mm_g) (x1 : Int32) (x2 : Int32) (x3 : Int32) (x4 : Int32) (x5 : Int32) : Int32 × mm_g := (if (F_X7_isBed g x1) = 0 then ((-1000001), g) else (if (F_X7_in (x2.toInt64) 0 2) = 0 then ((-1000001), g) else (if (F_X7_isRow x3) = 0 then ((-1000001), g) else (if (F_X7_in (x5.toInt64) 1 12) = 0 then ((-1000001), g) else (if 0 ≤ (F_X7_lacks g x3 x4 x5).1 then (if x2 = 0 then (if x2 = 1 then (F_X7_grown_109 x1 x2 x3 x4 x5 ((F_X7_lacks g x3 x4 x5).1) (9 + x1) (fun (a109 : Int32) (j109 : Nat) (s109 : mm_g) => ((F_X7_well s109 a109).1, (F_X7_well s109 a109).2)) 12 0 0 (F_X7_putAside ((F_X7_lacks g x3 x4 x5).2))) else (F_X7_grown_109 x1 x2 x3 x4 x5 ((F_X7_lacks g x3 x4 x5).1) (9 + x1) (fun (a109 : Int32) (j109 : Nat) (s109 : mm_g) => ((F_X7_well s109 a109).1, (F_X7_well s109 a109).2)) 12 0 1 (F_X7_putAside ((F_X7_lacks g x3 x4 x5).2)))) else (if x2 = 1 then (F_X7_grown_109 x1 x2 x3 x4 x5 ((F_X7_lacks g x3 x4 x5).1) (27 + x1) (fun (a109 : Int32) (j109 : Nat) (s109 : mm_g) => ((F_X7_well s109 a109).1, (F_X7_well s109 a109).2)) 12 0 0 (F_X7_putAside ((F_X7_lacks g x3 x4 x5).2))) else (F_X7_grown_109 x1 x2 x3 x4 x5 ((F_X7_lacks g x3 x4 x5).1) 3 (fun (a109 : Int32) (j109 : Nat) (s109 : mm_g) => ((F_X7_well s109 a109).1, (F_X7_well s109 a109).2)) 12 0 1 (F_X7_putAside ((F_X7_lacks g x3 x4 x5).2))))) else ((F_X7_lacks g x3 x4 x5).1, (F_X7_lacks g x3 x4 x5).2))))))
set_option maxRecDepth 100000 in
set_option maxHeartbeats 4000000 in
theorem w_X7_grown_109 (l : Launch) (G : mm_G) {pr : Nat → Nat → Prop} {ad : Nat → Nat → Nat → Nat} (hw : mm_W pr) (x1 : Int32) (x2 : Int32) (x3 : Int32) (x4 : Int32) (x5 : Int32) (f6 : Int32) (f7 : Int32)  (hx : vp_in x1 9) (ht : 0 ≤ (40 * x3 + x4).toInt ∧ (40 * x3 + x4).toInt + x5.toInt ≤ 320) (h7 : vp_in f7 36 ∧ f7.toNatClampNeg ≠ 0) (K : Int32 → Nat → mm_g → Int32 × mm_g) (hK : ∀ (a : Int32) (j : Nat) (s : mm_g) (hj : j ≤ 10) (hC : okC s), V l G RX7 cX7_grown 10 (some .int) (rmk 6 177) (qM pr ad (K a j s)) 0 0 0 0 169 [(0, .ref (ad 7 0 0)), (1, .int x1), (2, .int x2), (3, .int x3), (4, .int x4), (5, .int x5), (6, .int f6), (7, .int f7), (8, .int a), (9, .int (nI j))] [] pr ad s) : ∀ (n : Nat) (a : Int32) (j : Nat) (s : mm_g) (hj : j ≤ 10) (hC : okC s) (hm : 10 - j < n), V l G RX7 cX7_grown 10 (some .int) (rmk 6 177) (qM pr ad (F_X7_grown_109 x1 x2 x3 x4 x5 f6 f7 K n a j s)) 0 0 0 0 109 [(0, .ref (ad 7 0 0)), (1, .int x1), (2, .int x2), (3, .int x3), (4, .int x4), (5, .int x5), (6, .int f6), (7, .int f7), (8, .int a), (9, .int (nI j))] [] pr ad s := by
  intro n
  induction n with
  | zero => intro a j s hj hC hm; exact absurd hm (Nat.not_lt_zero _)
  | succ n ih =>
      intro a j s hj hC hm
      refine V_iload dX7_grown_109 9 rfl ?_
      refine V_iload_n dX7_grown_111 2 rfl ?_
      refine V_if_ne (tgt := 119) dX7_grown_112 (by decide) (fun c_112 => ?_) (fun c_112 => ?_)
      · refine V_bipush (v := 9) dX7_grown_119 (by decide) ?_
        refine V_ic_gt (tgt := 169) dX7_grown_121 (by decide) (fun c_121 => ?_) (fun c_121 => ?_)
        · refine V_rp (R2 := K a j s) (by simp only [F_X7_grown_109, if_neg c_112, if_pos c_121]) ?_
          refine V_lp [0, 1, 2, 3, 4, 5, 6, 7, 8, 9] rfl ?_
          exact hK a j s (by assumption) (by assumption)
        · refine V_aload_n dX7_grown_124 0 rfl ?_
          refine V_get (i := 5) inlX7 rfl (W_7 hw) rfl (by decide) q_94 rfl dX7_grown_125 ?_
          refine V_iload dX7_grown_128 7 rfl ?_
          refine V_iload dX7_grown_130 9 rfl ?_
          refine S_7_4 (W_7 hw) (by exact h7.1) dX7_grown_132 ?_
          refine V_iload dX7_grown_133 8 rfl ?_
          refine V_aload_n dX7_grown_135 0 rfl ?_
          refine V_iload_n dX7_grown_136 1 rfl ?_
          refine V_bipush (v := 40) dX7_grown_137 (by decide) ?_
          refine V_iload_n dX7_grown_139 3 rfl ?_
          refine V_imul dX7_grown_140 ?_
          refine V_iload dX7_grown_141 4 rfl ?_
          refine V_iadd dX7_grown_143 ?_
          refine V_iload dX7_grown_144 5 rfl ?_
          refine V_cV (k_X7_isSo l G hw (wr s 7 4 f7.toNatClampNeg (nI j))  x1 ((40 * x3) + x4) x5 (okB_j h7.2 hC.1) hx ht) hy_X7_isSo hi_X7_isSo hs_X7_isSo q_829 rfl rfl (W_7 hw) rfl rfl rfl rfl rfl ⟨by decide, by decide⟩ (Nat.le_of_ble_eq_true rfl) ⟨by decide, by decide⟩ dX7_grown_146 (V_kM ?_)
          refine V_if_eq (tgt := 159) dX7_grown_149 (by decide) (fun c_149 => ?_) (fun c_149 => ?_)
          · refine V_iconst (v := 0) dX7_grown_159 (by decide) ?_
            refine V_ior dX7_grown_160 ?_
            refine V_istore (L2 := [(8, .int (a ||| 0)), (0, .ref (ad 7 0 0)), (1, .int x1), (2, .int x2), (3, .int x3), (4, .int x4), (5, .int x5), (6, .int f6), (7, .int f7), (9, .int (nI j))]) dX7_grown_161 (by decide) rfl ?_
            refine V_iinc (v := (nI (j + 1))) (L2 := [(9, .int (nI (j + 1))), (8, .int (a ||| 0)), (0, .ref (ad 7 0 0)), (1, .int x1), (2, .int x2), (3, .int x3), (4, .int x4), (5, .int x5), (6, .int f6), (7, .int f7)]) dX7_grown_163 9 rfl (nI_1 _) (by decide) rfl ?_
            refine V_goto (tgt := 109) dX7_grown_166 (by decide) ?_
            refine V_rp (R2 := F_X7_grown_109 x1 x2 x3 x4 x5 f6 f7 K n (a ||| 0) (j + 1) ((F_X7_isSo (wr s 7 4 f7.toNatClampNeg (nI j)) x1 ((40 * x3) + x4) x5).2)) (by simp only [F_X7_grown_109, if_neg c_112, if_neg c_121, if_pos c_149]) ?_
            refine V_lp [2, 3, 4, 5, 6, 7, 8, 9, 1, 0] rfl ?_
            exact ih (a ||| 0) (j + 1) ((F_X7_isSo (wr s 7 4 f7.toNatClampNeg (nI j)) x1 ((40 * x3) + x4) x5).2) (by first | exact (lp_ul (x := 9) (n := n) (by decide) hj c_121 (by decide) hm).1 | exact (lp_ul (x := 9) (n := n) (by decide) hj (lt_59 c_121) (by decide) hm).1) (by exact okC_isSo (okC_j h7.2 hC)) (by first | exact (lp_ul (x := 9) (n := n) (by decide) hj c_121 (by decide) hm).2 | exact (lp_ul (x := 9) (n := n) (by decide) hj (lt_59 c_121) (by decide) hm).2) 
          · refine V_iconst (v := 1) dX7_grown_152 (by decide) ?_
            refine V_iload dX7_grown_153 9 rfl ?_
            refine V_ishl dX7_grown_155 ?_
            refine V_goto (tgt := 160) dX7_grown_156 (by decide) ?_
            refine V_ior dX7_grown_160 ?_
            refine V_istore (L2 := [(8, .int (a ||| ((1 : Int32) <<< ((nI j) &&& 31)))), (0, .ref (ad 7 0 0)), (1, .int x1), (2, .int x2), (3, .int x3), (4, .int x4), (5, .int x5), (6, .int f6), (7, .int f7), (9, .int (nI j))]) dX7_grown_161 (by decide) rfl ?_
            refine V_iinc (v := (nI (j + 1))) (L2 := [(9, .int (nI (j + 1))), (8, .int (a ||| ((1 : Int32) <<< ((nI j) &&& 31)))), (0, .ref (ad 7 0 0)), (1, .int x1), (2, .int x2), (3, .int x3), (4, .int x4), (5, .int x5), (6, .int f6), (7, .int f7)]) dX7_grown_163 9 rfl (nI_1 _) (by decide) rfl ?_
            refine V_goto (tgt := 109) dX7_grown_166 (by decide) ?_
            refine V_rp (R2 := F_X7_grown_109 x1 x2 x3 x4 x5 f6 f7 K n (a ||| ((1 : Int32) <<< ((nI j) &&& 31))) (j + 1) ((F_X7_isSo (wr s 7 4 f7.toNatClampNeg (nI j)) x1 ((40 * x3) + x4) x5).2)) (by simp only [F_X7_grown_109, if_neg c_112, if_neg c_121, if_neg c_149]) ?_
            refine V_lp [2, 3, 4, 5, 6, 7, 8, 9, 1, 0] rfl ?_
            exact ih (a ||| ((1 : Int32) <<< ((nI j) &&& 31))) (j + 1) ((F_X7_isSo (wr s 7 4 f7.toNatClampNeg (nI j)) x1 ((40 * x3) + x4) x5).2) (by first | exact (lp_ul (x := 9) (n := n) (by decide) hj c_121 (by decide) hm).1 | exact (lp_ul (x := 9) (n := n) (by decide) hj (lt_59 c_121) (by decide) hm).1) (by exact okC_isSo (okC_j h7.2 hC)) (by first | exact (lp_ul (x := 9) (n := n) (by decide) hj c_121 (by decide) hm).2 | exact (lp_ul (x := 9) (n := n) (by decide) hj (lt_59 c_121) (by decide) hm).2) 
      · refine V_iconst (v := 5) dX7_grown_115 (by decide) ?_
        refine V_goto (tgt := 121) dX7_grown_116 (by decide) ?_
        refine V_ic_gt (tgt := 169) dX7_grown_121 (by decide) (fun c_121 => ?_) (fun c_121 => ?_)
        · refine V_rp (R2 := K a j s) (by simp only [F_X7_grown_109, if_pos c_112, if_pos c_121]) ?_
          refine V_lp [0, 1, 2, 3, 4, 5, 6, 7, 8, 9] rfl ?_
          exact hK a j s (by assumption) (by assumption)
        · refine V_aload_n dX7_grown_124 0 rfl ?_
          refine V_get (i := 5) inlX7 rfl (W_7 hw) rfl (by decide) q_94 rfl dX7_grown_125 ?_
          refine V_iload dX7_grown_128 7 rfl ?_
          refine V_iload dX7_grown_130 9 rfl ?_
          refine S_7_4 (W_7 hw) (by exact h7.1) dX7_grown_132 ?_
          refine V_iload dX7_grown_133 8 rfl ?_
          refine V_aload_n dX7_grown_135 0 rfl ?_
          refine V_iload_n dX7_grown_136 1 rfl ?_
          refine V_bipush (v := 40) dX7_grown_137 (by decide) ?_
          refine V_iload_n dX7_grown_139 3 rfl ?_
          refine V_imul dX7_grown_140 ?_
          refine V_iload dX7_grown_141 4 rfl ?_
          refine V_iadd dX7_grown_143 ?_
          refine V_iload dX7_grown_144 5 rfl ?_
          refine V_cV (k_X7_isSo l G hw (wr s 7 4 f7.toNatClampNeg (nI j))  x1 ((40 * x3) + x4) x5 (okB_j h7.2 hC.1) hx ht) hy_X7_isSo hi_X7_isSo hs_X7_isSo q_829 rfl rfl (W_7 hw) rfl rfl rfl rfl rfl ⟨by decide, by decide⟩ (Nat.le_of_ble_eq_true rfl) ⟨by decide, by decide⟩ dX7_grown_146 (V_kM ?_)
          refine V_if_eq (tgt := 159) dX7_grown_149 (by decide) (fun c_149 => ?_) (fun c_149 => ?_)
          · refine V_iconst (v := 0) dX7_grown_159 (by decide) ?_
            refine V_ior dX7_grown_160 ?_
            refine V_istore (L2 := [(8, .int (a ||| 0)), (0, .ref (ad 7 0 0)), (1, .int x1), (2, .int x2), (3, .int x3), (4, .int x4), (5, .int x5), (6, .int f6), (7, .int f7), (9, .int (nI j))]) dX7_grown_161 (by decide) rfl ?_
            refine V_iinc (v := (nI (j + 1))) (L2 := [(9, .int (nI (j + 1))), (8, .int (a ||| 0)), (0, .ref (ad 7 0 0)), (1, .int x1), (2, .int x2), (3, .int x3), (4, .int x4), (5, .int x5), (6, .int f6), (7, .int f7)]) dX7_grown_163 9 rfl (nI_1 _) (by decide) rfl ?_
            refine V_goto (tgt := 109) dX7_grown_166 (by decide) ?_
            refine V_rp (R2 := F_X7_grown_109 x1 x2 x3 x4 x5 f6 f7 K n (a ||| 0) (j + 1) ((F_X7_isSo (wr s 7 4 f7.toNatClampNeg (nI j)) x1 ((40 * x3) + x4) x5).2)) (by simp only [F_X7_grown_109, if_pos c_112, if_neg c_121, if_pos c_149]) ?_
            refine V_lp [2, 3, 4, 5, 6, 7, 8, 9, 1, 0] rfl ?_
            exact ih (a ||| 0) (j + 1) ((F_X7_isSo (wr s 7 4 f7.toNatClampNeg (nI j)) x1 ((40 * x3) + x4) x5).2) (by first | exact (lp_ul (x := 9) (n := n) (by decide) hj c_121 (by decide) hm).1 | exact (lp_ul (x := 9) (n := n) (by decide) hj (lt_59 c_121) (by decide) hm).1) (by exact okC_isSo (okC_j h7.2 hC)) (by first | exact (lp_ul (x := 9) (n := n) (by decide) hj c_121 (by decide) hm).2 | exact (lp_ul (x := 9) (n := n) (by decide) hj (lt_59 c_121) (by decide) hm).2) 
          · refine V_iconst (v := 1) dX7_grown_152 (by decide) ?_
            refine V_iload dX7_grown_153 9 rfl ?_
            refine V_ishl dX7_grown_155 ?_
            refine V_goto (tgt := 160) dX7_grown_156 (by decide) ?_
            refine V_ior dX7_grown_160 ?_
            refine V_istore (L2 := [(8, .int (a ||| ((1 : Int32) <<< ((nI j) &&& 31)))), (0, .ref (ad 7 0 0)), (1, .int x1), (2, .int x2), (3, .int x3), (4, .int x4), (5, .int x5), (6, .int f6), (7, .int f7), (9, .int (nI j))]) dX7_grown_161 (by decide) rfl ?_
            refine V_iinc (v := (nI (j + 1))) (L2 := [(9, .int (nI (j + 1))), (8, .int (a ||| ((1 : Int32) <<< ((nI j) &&& 31)))), (0, .ref (ad 7 0 0)), (1, .int x1), (2, .int x2), (3, .int x3), (4, .int x4), (5, .int x5), (6, .int f6), (7, .int f7)]) dX7_grown_163 9 rfl (nI_1 _) (by decide) rfl ?_
            refine V_goto (tgt := 109) dX7_grown_166 (by decide) ?_
            refine V_rp (R2 := F_X7_grown_109 x1 x2 x3 x4 x5 f6 f7 K n (a ||| ((1 : Int32) <<< ((nI j) &&& 31))) (j + 1) ((F_X7_isSo (wr s 7 4 f7.toNatClampNeg (nI j)) x1 ((40 * x3) + x4) x5).2)) (by simp only [F_X7_grown_109, if_pos c_112, if_neg c_121, if_neg c_149]) ?_
            refine V_lp [2, 3, 4, 5, 6, 7, 8, 9, 1, 0] rfl ?_
            exact ih (a ||| ((1 : Int32) <<< ((nI j) &&& 31))) (j + 1) ((F_X7_isSo (wr s 7 4 f7.toNatClampNeg (nI j)) x1 ((40 * x3) + x4) x5).2) (by first | exact (lp_ul (x := 9) (n := n) (by decide) hj c_121 (by decide) hm).1 | exact (lp_ul (x := 9) (n := n) (by decide) hj (lt_59 c_121) (by decide) hm).1) (by exact okC_isSo (okC_j h7.2 hC)) (by first | exact (lp_ul (x := 9) (n := n) (by decide) hj c_121 (by decide) hm).2 | exact (lp_ul (x := 9) (n := n) (by decide) hj (lt_59 c_121) (by decide) hm).2) 
set_option maxRecDepth 100000 in
set_option maxHeartbeats 4000000 in
theorem k_X7_grown (l : Launch) (G : mm_G) {pr : Nat → Nat → Prop} {ad : Nat → Nat → Nat → Nat} (hw : mm_W pr) (g : mm_g) (x1 : Int32) (x2 : Int32) (x3 : Int32) (x4 : Int32) (x5 : Int32) (hB : okB g) (hR : okR7 g)  : Mt l G yX7_grown cX7_grown 10 (some .int) (rmk 6 177) [.ref (ad 7 0 0), .int x1, .int x2, .int x3, .int x4, .int x5] pr ad g (qM pr ad (F_X7_grown g x1 x2 x3 x4 x5)) 0 0 := by
  refine Mt_of (by decide) (Nat.le_of_ble_eq_true rfl) ?_
  show V l G RX7 cX7_grown 10 (some .int) _ _ 0 0 0 0 0 [(0, .ref (ad 7 0 0)), (1, .int x1), (2, .int x2), (3, .int x3), (4, .int x4), (5, .int x5)] [] pr ad g
  refine V_aload_n dX7_grown_0 0 rfl ?_
  refine V_iload_n dX7_grown_1 1 rfl ?_
  refine V_cV (k_X7_isBed l G hw g  x1 ) hy_X7_isBed hi_X7_isBed hs_X7_isBed q_480 rfl rfl (W_7 hw) rfl rfl rfl rfl rfl ⟨by decide, by decide⟩ (Nat.le_of_ble_eq_true rfl) ⟨by decide, by decide⟩ dX7_grown_2 (V_kI ?_)
  refine V_if_eq (tgt := 40) dX7_grown_5 (by decide) (fun c_5 => ?_) (fun c_5 => ?_)
  · refine V_ldc q_130 dX7_grown_40 ?_
    refine V_goto (tgt := 54) dX7_grown_42 (by decide) ?_
    refine V_istore (L2 := [(6, .int (-1000001)), (0, .ref (ad 7 0 0)), (1, .int x1), (2, .int x2), (3, .int x3), (4, .int x4), (5, .int x5)]) dX7_grown_54 (by decide) rfl ?_
    refine V_iload dX7_grown_56 0 rfl ?_
    refine V_if_ge (tgt := 64) dX7_grown_58 (by decide) (fun c_58 => ?_) (fun c_58 => ?_)
    · exact absurd c_58 (by decide)
    · refine V_iload dX7_grown_61 0 rfl ?_
      exact V_iret dX7_grown_63 rfl (lfM (by simp only [F_X7_grown, if_pos c_5]))
  · refine V_iload_n dX7_grown_8 2 rfl ?_
    refine V_i2l dX7_grown_9 ?_
    refine V_lconst (v := 0) dX7_grown_10 (by decide) ?_
    refine V_ldc2 q_129 dX7_grown_11 ?_
    refine V_cS (k_X7_in l G hw g  (x2.toInt64) 0 2 ) hy_X7_in hz_X7_in q_135 rfl rfl rfl rfl ⟨by decide, by decide⟩ (Nat.le_of_ble_eq_true rfl) ⟨by decide, by decide⟩ dX7_grown_14 (V_kI ?_)
    refine V_if_eq (tgt := 40) dX7_grown_17 (by decide) (fun c_17 => ?_) (fun c_17 => ?_)
    · refine V_ldc q_130 dX7_grown_40 ?_
      refine V_goto (tgt := 54) dX7_grown_42 (by decide) ?_
      refine V_istore (L2 := [(6, .int (-1000001)), (0, .ref (ad 7 0 0)), (1, .int x1), (2, .int x2), (3, .int x3), (4, .int x4), (5, .int x5)]) dX7_grown_54 (by decide) rfl ?_
      refine V_iload dX7_grown_56 0 rfl ?_
      refine V_if_ge (tgt := 64) dX7_grown_58 (by decide) (fun c_58 => ?_) (fun c_58 => ?_)
      · exact absurd c_58 (by decide)
      · refine V_iload dX7_grown_61 0 rfl ?_
        exact V_iret dX7_grown_63 rfl (lfM (by simp only [F_X7_grown, if_neg c_5, if_pos c_17]))
    · refine V_iload_n dX7_grown_20 3 rfl ?_
      refine V_cS (k_X7_isRow l G hw g  x3 ) hy_X7_isRow hz_X7_isRow q_131 rfl rfl rfl rfl ⟨by decide, by decide⟩ (Nat.le_of_ble_eq_true rfl) ⟨by decide, by decide⟩ dX7_grown_21 (V_kI ?_)
      refine V_if_eq (tgt := 40) dX7_grown_24 (by decide) (fun c_24 => ?_) (fun c_24 => ?_)
      · refine V_ldc q_130 dX7_grown_40 ?_
        refine V_goto (tgt := 54) dX7_grown_42 (by decide) ?_
        refine V_istore (L2 := [(6, .int (-1000001)), (0, .ref (ad 7 0 0)), (1, .int x1), (2, .int x2), (3, .int x3), (4, .int x4), (5, .int x5)]) dX7_grown_54 (by decide) rfl ?_
        refine V_iload dX7_grown_56 0 rfl ?_
        refine V_if_ge (tgt := 64) dX7_grown_58 (by decide) (fun c_58 => ?_) (fun c_58 => ?_)
        · exact absurd c_58 (by decide)
        · refine V_iload dX7_grown_61 0 rfl ?_
          exact V_iret dX7_grown_63 rfl (lfM (by simp only [F_X7_grown, if_neg c_5, if_neg c_17, if_pos c_24]))
      · refine V_iload dX7_grown_27 5 rfl ?_
        refine V_i2l dX7_grown_29 ?_
        refine V_lconst (v := 1) dX7_grown_30 (by decide) ?_
        refine V_ldc2 q_824 dX7_grown_31 ?_
        refine V_cS (k_X7_in l G hw g  (x5.toInt64) 1 12 ) hy_X7_in hz_X7_in q_135 rfl rfl rfl rfl ⟨by decide, by decide⟩ (Nat.le_of_ble_eq_true rfl) ⟨by decide, by decide⟩ dX7_grown_34 (V_kI ?_)
        refine V_if_ne (tgt := 45) dX7_grown_37 (by decide) (fun c_37 => ?_) (fun c_37 => ?_)
        · refine V_aload_n dX7_grown_45 0 rfl ?_
          refine V_iload_n dX7_grown_46 3 rfl ?_
          refine V_iload dX7_grown_47 4 rfl ?_
          refine V_iload dX7_grown_49 5 rfl ?_
          refine V_cV (k_X7_lacks l G hw g  x3 x4 x5 (ix_row c_24)) hy_X7_lacks hi_X7_lacks hs_X7_lacks q_825 rfl rfl (W_7 hw) rfl rfl rfl rfl rfl ⟨by decide, by decide⟩ (Nat.le_of_ble_eq_true rfl) ⟨by decide, by decide⟩ dX7_grown_51 (V_kM ?_)
          refine V_istore (L2 := [(6, .int ((F_X7_lacks g x3 x4 x5).1)), (0, .ref (ad 7 0 0)), (1, .int x1), (2, .int x2), (3, .int x3), (4, .int x4), (5, .int x5)]) dX7_grown_54 (by decide) rfl ?_
          refine V_iload dX7_grown_56 0 rfl ?_
          refine V_if_ge (tgt := 64) dX7_grown_58 (by decide) (fun c_58 => ?_) (fun c_58 => ?_)
          · refine V_aload_n dX7_grown_64 1 rfl ?_
            refine V_cV (k_X7_putAside l G hw ((F_X7_lacks g x3 x4 x5).2)   ) hy_X7_putAside hi_X7_putAside hs_X7_putAside q_589 rfl rfl (W_7 hw) rfl rfl rfl rfl rfl ⟨by decide, by decide⟩ (Nat.le_of_ble_eq_true rfl) ⟨by decide, by decide⟩ dX7_grown_65 (V_kN ?_)
            refine V_iload_n dX7_grown_68 3 rfl ?_
            refine V_if_ne (tgt := 79) dX7_grown_69 (by decide) (fun c_69 => ?_) (fun c_69 => ?_)
            · refine V_iload_n dX7_grown_79 3 rfl ?_
              refine V_iconst (v := 1) dX7_grown_80 (by decide) ?_
              refine V_ic_ne (tgt := 91) dX7_grown_81 (by decide) (fun c_81 => ?_) (fun c_81 => ?_)
              · refine V_iconst (v := 3) dX7_grown_91 (by decide) ?_
                refine V_istore (L2 := [(7, .int 3), (6, .int ((F_X7_lacks g x3 x4 x5).1)), (0, .ref (ad 7 0 0)), (1, .int x1), (2, .int x2), (3, .int x3), (4, .int x4), (5, .int x5)]) dX7_grown_92 (by decide) rfl ?_
                refine V_iconst (v := 0) dX7_grown_94 (by decide) ?_
                refine V_istore (L2 := [(8, .int 0), (7, .int 3), (6, .int ((F_X7_lacks g x3 x4 x5).1)), (0, .ref (ad 7 0 0)), (1, .int x1), (2, .int x2), (3, .int x3), (4, .int x4), (5, .int x5)]) dX7_grown_95 (by decide) rfl ?_
                refine V_iload_n dX7_grown_97 5 rfl ?_
                refine V_iconst (v := 1) dX7_grown_98 (by decide) ?_
                refine V_ic_ne (tgt := 106) dX7_grown_99 (by decide) (fun c_99 => ?_) (fun c_99 => ?_)
                · refine V_iconst (v := 1) dX7_grown_106 (by decide) ?_
                  refine V_istore (L2 := [(9, .int 1), (8, .int 0), (7, .int 3), (6, .int ((F_X7_lacks g x3 x4 x5).1)), (0, .ref (ad 7 0 0)), (1, .int x1), (2, .int x2), (3, .int x3), (4, .int x4), (5, .int x5)]) dX7_grown_107 (by decide) rfl ?_
                  refine V_rp (R2 := F_X7_grown_109 x1 x2 x3 x4 x5 ((F_X7_lacks g x3 x4 x5).1) 3 (fun (a109 : Int32) (j109 : Nat) (s109 : mm_g) => ((F_X7_well s109 a109).1, (F_X7_well s109 a109).2)) 12 0 1 (F_X7_putAside ((F_X7_lacks g x3 x4 x5).2))) (by simp only [F_X7_grown, if_neg c_5, if_neg c_17, if_neg c_24, if_neg c_37, if_pos c_58, if_neg c_69, if_neg c_81]) ?_
                  refine V_lp [4, 5, 6, 7, 8, 9, 3, 2, 1, 0] rfl ?_
                  refine w_X7_grown_109 l G hw x1 x2 x3 x4 x5 ((F_X7_lacks g x3 x4 x5).1) 3  (by exact ix_bed hB c_5) (by exact lk_1 hR (ix_row c_24) c_58 (in_n c_37)) (by first | with_reducible exact h7_9 (ix_bed hB c_5) | with_reducible exact h7_27 (ix_bed hB c_5) | exact h7_3) _ (fun a109 j109 s109 hj109 hC109 => ?_) 12 0 1 (F_X7_putAside ((F_X7_lacks g x3 x4 x5).2)) (by decide) (by exact okC_aside (okB_lacks hB)) (by decide)
                  refine V_aload_n dX7_grown_169 0 rfl ?_
                  refine V_iload dX7_grown_170 8 rfl ?_
                  refine V_cV (k_X7_well l G hw s109  a109 ) hy_X7_well hi_X7_well hs_X7_well q_144 rfl rfl (W_7 hw) rfl rfl rfl rfl rfl ⟨by decide, by decide⟩ (Nat.le_of_ble_eq_true rfl) ⟨by decide, by decide⟩ dX7_grown_172 (V_kM ?_)
                  exact V_iret dX7_grown_175 rfl (lfM (by rfl))
                · exact absurd c_99 c_81
              · refine V_bipush (v := 27) dX7_grown_84 (by decide) ?_
                refine V_iload_n dX7_grown_86 2 rfl ?_
                refine V_iadd dX7_grown_87 ?_
                refine V_goto (tgt := 92) dX7_grown_88 (by decide) ?_
                refine V_istore (L2 := [(7, .int (27 + x1)), (6, .int ((F_X7_lacks g x3 x4 x5).1)), (0, .ref (ad 7 0 0)), (1, .int x1), (2, .int x2), (3, .int x3), (4, .int x4), (5, .int x5)]) dX7_grown_92 (by decide) rfl ?_
                refine V_iconst (v := 0) dX7_grown_94 (by decide) ?_
                refine V_istore (L2 := [(8, .int 0), (7, .int (27 + x1)), (6, .int ((F_X7_lacks g x3 x4 x5).1)), (0, .ref (ad 7 0 0)), (1, .int x1), (2, .int x2), (3, .int x3), (4, .int x4), (5, .int x5)]) dX7_grown_95 (by decide) rfl ?_
                refine V_iload_n dX7_grown_97 5 rfl ?_
                refine V_iconst (v := 1) dX7_grown_98 (by decide) ?_
                refine V_ic_ne (tgt := 106) dX7_grown_99 (by decide) (fun c_99 => ?_) (fun c_99 => ?_)
                · exact absurd c_81 c_99
                · refine V_iconst (v := 0) dX7_grown_102 (by decide) ?_
                  refine V_goto (tgt := 107) dX7_grown_103 (by decide) ?_
                  refine V_istore (L2 := [(9, .int 0), (8, .int 0), (7, .int (27 + x1)), (6, .int ((F_X7_lacks g x3 x4 x5).1)), (0, .ref (ad 7 0 0)), (1, .int x1), (2, .int x2), (3, .int x3), (4, .int x4), (5, .int x5)]) dX7_grown_107 (by decide) rfl ?_
                  refine V_rp (R2 := F_X7_grown_109 x1 x2 x3 x4 x5 ((F_X7_lacks g x3 x4 x5).1) (27 + x1) (fun (a109 : Int32) (j109 : Nat) (s109 : mm_g) => ((F_X7_well s109 a109).1, (F_X7_well s109 a109).2)) 12 0 0 (F_X7_putAside ((F_X7_lacks g x3 x4 x5).2))) (by simp only [F_X7_grown, if_neg c_5, if_neg c_17, if_neg c_24, if_neg c_37, if_pos c_58, if_neg c_69, if_pos c_81]) ?_
                  refine V_lp [4, 5, 6, 7, 8, 9, 3, 2, 1, 0] rfl ?_
                  refine w_X7_grown_109 l G hw x1 x2 x3 x4 x5 ((F_X7_lacks g x3 x4 x5).1) (27 + x1)  (by exact ix_bed hB c_5) (by exact lk_1 hR (ix_row c_24) c_58 (in_n c_37)) (by first | with_reducible exact h7_9 (ix_bed hB c_5) | with_reducible exact h7_27 (ix_bed hB c_5) | exact h7_3) _ (fun a109 j109 s109 hj109 hC109 => ?_) 12 0 0 (F_X7_putAside ((F_X7_lacks g x3 x4 x5).2)) (by decide) (by exact okC_aside (okB_lacks hB)) (by decide)
                  refine V_aload_n dX7_grown_169 0 rfl ?_
                  refine V_iload dX7_grown_170 8 rfl ?_
                  refine V_cV (k_X7_well l G hw s109  a109 ) hy_X7_well hi_X7_well hs_X7_well q_144 rfl rfl (W_7 hw) rfl rfl rfl rfl rfl ⟨by decide, by decide⟩ (Nat.le_of_ble_eq_true rfl) ⟨by decide, by decide⟩ dX7_grown_172 (V_kM ?_)
                  exact V_iret dX7_grown_175 rfl (lfM (by rfl))
            · refine V_bipush (v := 9) dX7_grown_72 (by decide) ?_
              refine V_iload_n dX7_grown_74 2 rfl ?_
              refine V_iadd dX7_grown_75 ?_
              refine V_goto (tgt := 92) dX7_grown_76 (by decide) ?_
              refine V_istore (L2 := [(7, .int (9 + x1)), (6, .int ((F_X7_lacks g x3 x4 x5).1)), (0, .ref (ad 7 0 0)), (1, .int x1), (2, .int x2), (3, .int x3), (4, .int x4), (5, .int x5)]) dX7_grown_92 (by decide) rfl ?_
              refine V_iconst (v := 0) dX7_grown_94 (by decide) ?_
              refine V_istore (L2 := [(8, .int 0), (7, .int (9 + x1)), (6, .int ((F_X7_lacks g x3 x4 x5).1)), (0, .ref (ad 7 0 0)), (1, .int x1), (2, .int x2), (3, .int x3), (4, .int x4), (5, .int x5)]) dX7_grown_95 (by decide) rfl ?_
              refine V_iload_n dX7_grown_97 5 rfl ?_
              refine V_iconst (v := 1) dX7_grown_98 (by decide) ?_
              refine V_ic_ne (tgt := 106) dX7_grown_99 (by decide) (fun c_99 => ?_) (fun c_99 => ?_)
              · refine V_iconst (v := 1) dX7_grown_106 (by decide) ?_
                refine V_istore (L2 := [(9, .int 1), (8, .int 0), (7, .int (9 + x1)), (6, .int ((F_X7_lacks g x3 x4 x5).1)), (0, .ref (ad 7 0 0)), (1, .int x1), (2, .int x2), (3, .int x3), (4, .int x4), (5, .int x5)]) dX7_grown_107 (by decide) rfl ?_
                refine V_rp (R2 := F_X7_grown_109 x1 x2 x3 x4 x5 ((F_X7_lacks g x3 x4 x5).1) (9 + x1) (fun (a109 : Int32) (j109 : Nat) (s109 : mm_g) => ((F_X7_well s109 a109).1, (F_X7_well s109 a109).2)) 12 0 1 (F_X7_putAside ((F_X7_lacks g x3 x4 x5).2))) (by simp only [F_X7_grown, if_neg c_5, if_neg c_17, if_neg c_24, if_neg c_37, if_pos c_58, if_pos c_69, if_neg c_99]) ?_
                refine V_lp [4, 5, 6, 7, 8, 9, 3, 2, 1, 0] rfl ?_
                refine w_X7_grown_109 l G hw x1 x2 x3 x4 x5 ((F_X7_lacks g x3 x4 x5).1) (9 + x1)  (by exact ix_bed hB c_5) (by exact lk_1 hR (ix_row c_24) c_58 (in_n c_37)) (by first | with_reducible exact h7_9 (ix_bed hB c_5) | with_reducible exact h7_27 (ix_bed hB c_5) | exact h7_3) _ (fun a109 j109 s109 hj109 hC109 => ?_) 12 0 1 (F_X7_putAside ((F_X7_lacks g x3 x4 x5).2)) (by decide) (by exact okC_aside (okB_lacks hB)) (by decide)
                refine V_aload_n dX7_grown_169 0 rfl ?_
                refine V_iload dX7_grown_170 8 rfl ?_
                refine V_cV (k_X7_well l G hw s109  a109 ) hy_X7_well hi_X7_well hs_X7_well q_144 rfl rfl (W_7 hw) rfl rfl rfl rfl rfl ⟨by decide, by decide⟩ (Nat.le_of_ble_eq_true rfl) ⟨by decide, by decide⟩ dX7_grown_172 (V_kM ?_)
                exact V_iret dX7_grown_175 rfl (lfM (by rfl))
              · refine V_iconst (v := 0) dX7_grown_102 (by decide) ?_
                refine V_goto (tgt := 107) dX7_grown_103 (by decide) ?_
                refine V_istore (L2 := [(9, .int 0), (8, .int 0), (7, .int (9 + x1)), (6, .int ((F_X7_lacks g x3 x4 x5).1)), (0, .ref (ad 7 0 0)), (1, .int x1), (2, .int x2), (3, .int x3), (4, .int x4), (5, .int x5)]) dX7_grown_107 (by decide) rfl ?_
                refine V_rp (R2 := F_X7_grown_109 x1 x2 x3 x4 x5 ((F_X7_lacks g x3 x4 x5).1) (9 + x1) (fun (a109 : Int32) (j109 : Nat) (s109 : mm_g) => ((F_X7_well s109 a109).1, (F_X7_well s109 a109).2)) 12 0 0 (F_X7_putAside ((F_X7_lacks g x3 x4 x5).2))) (by simp only [F_X7_grown, if_neg c_5, if_neg c_17, if_neg c_24, if_neg c_37, if_pos c_58, if_pos c_69, if_pos c_99]) ?_
                refine V_lp [4, 5, 6, 7, 8, 9, 3, 2, 1, 0] rfl ?_
                refine w_X7_grown_109 l G hw x1 x2 x3 x4 x5 ((F_X7_lacks g x3 x4 x5).1) (9 + x1)  (by exact ix_bed hB c_5) (by exact lk_1 hR (ix_row c_24) c_58 (in_n c_37)) (by first | with_reducible exact h7_9 (ix_bed hB c_5) | with_reducible exact h7_27 (ix_bed hB c_5) | exact h7_3) _ (fun a109 j109 s109 hj109 hC109 => ?_) 12 0 0 (F_X7_putAside ((F_X7_lacks g x3 x4 x5).2)) (by decide) (by exact okC_aside (okB_lacks hB)) (by decide)
                refine V_aload_n dX7_grown_169 0 rfl ?_
                refine V_iload dX7_grown_170 8 rfl ?_
                refine V_cV (k_X7_well l G hw s109  a109 ) hy_X7_well hi_X7_well hs_X7_well q_144 rfl rfl (W_7 hw) rfl rfl rfl rfl rfl ⟨by decide, by decide⟩ (Nat.le_of_ble_eq_true rfl) ⟨by decide, by decide⟩ dX7_grown_172 (V_kM ?_)
                exact V_iret dX7_grown_175 rfl (lfM (by rfl))
          · refine V_iload dX7_grown_61 0 rfl ?_
            exact V_iret dX7_grown_63 rfl (lfM (by simp only [F_X7_grown, if_neg c_5, if_neg c_17, if_neg c_24, if_neg c_37, if_neg c_58]))
        · refine V_ldc q_130 dX7_grown_40 ?_
          refine V_goto (tgt := 54) dX7_grown_42 (by decide) ?_
          refine V_istore (L2 := [(6, .int (-1000001)), (0, .ref (ad 7 0 0)), (1, .int x1), (2, .int x2), (3, .int x3), (4, .int x4), (5, .int x5)]) dX7_grown_54 (by decide) rfl ?_
          refine V_iload dX7_grown_56 0 rfl ?_
          refine V_if_ge (tgt := 64) dX7_grown_58 (by decide) (fun c_58 => ?_) (fun c_58 => ?_)
          · exact absurd c_58 (by decide)
          · refine V_iload dX7_grown_61 0 rfl ?_
            exact V_iret dX7_grown_63 rfl (lfM (by simp only [F_X7_grown, if_neg c_5, if_neg c_17, if_neg c_24, if_pos c_37]))
def F_X7_lain_90 (g90 : mm_g) (x1 : Int32) (x2 : Int32) (x3 : Int32) (f4 : Int32) (f5 : Int32) (a : Int32) (j : Nat) (K : Int32 → Nat → Int32 × mm_g) : Nat → Int32 → Nat → Int32 × mm_g
  | 0, c, i => K c i
  | n + 1, c, i => (if (g90 7 4 0) ≤ (nI i) then K c i else (if c = 0 then F_X7_lain_90 g90 x1 x2 x3 f4 f5 a j K n 0 (i + 1) else (if (g90 7 3 (((40 * x2) + x3) + (nI i)).toNatClampNeg) = (F_X7_lies g90 (nI i)) then F_X7_lain_90 g90 x1 x2 x3 f4 f5 a j K n 1 (i + 1) else F_X7_lain_90 g90 x1 x2 x3 f4 f5 a j K n 0 (i + 1))))
def F_X7_lain_67 (x1 : Int32) (x2 : Int32) (x3 : Int32) (f4 : Int32) (f5 : Int32) (K : Int32 → Nat → mm_g → Int32 × mm_g) : Nat → Int32 → Nat → mm_g → Int32 × mm_g
  | 0, a, j, s => K a j s
  | n + 1, a, j, s => (if 9 ≤ (nI j) then K a j s else (F_X7_lain_90 (wr s 7 4 (1 + x1).toNatClampNeg (nI j)) x1 x2 x3 f4 f5 a j (fun (c90 : Int32) (i90 : Nat) => (if c90 = 0 then F_X7_lain_67 x1 x2 x3 f4 f5 K n (a ||| 0) (j + 1) (wr s 7 4 (1 + x1).toNatClampNeg (nI j)) else F_X7_lain_67 x1 x2 x3 f4 f5 K n (a ||| ((1 : Int32) <<< ((nI j) &&& 31))) (j + 1) (wr s 7 4 (1 + x1).toNatClampNeg (nI j)))) (((wr s 7 4 (1 + x1).toNatClampNeg (nI j)) 7 4 0).toInt.toNat + 1) 1 0))
def F_X7_lain (g : mm_g) (x1 : Int32) (x2 : Int32) (x3 : Int32) : Int32 × mm_g := (if (g 7 0 1) = 0 then ((-1000002), g) else (if (F_X7_isWho x1) = 0 then ((-1000001), g) else (if (F_X7_isRow x2) = 0 then ((-1000001), g) else (if 0 ≤ (F_X7_lacks g x2 x3 (g 7 4 0)).1 then (F_X7_lain_67 x1 x2 x3 ((F_X7_lacks g x2 x3 (g 7 4 0)).1) (((F_X7_lacks g x2 x3 (g 7 4 0)).2) 7 4 (1 + x1).toNatClampNeg) (fun (a67 : Int32) (j67 : Nat) (s67 : mm_g) => ((F_X7_well (wr s67 7 4 (1 + x1).toNatClampNeg (((F_X7_lacks g x2 x3 (g 7 4 0)).2) 7 4 (1 + x1).toNatClampNeg)) a67).1, (F_X7_well (wr s67 7 4 (1 + x1).toNatClampNeg (((F_X7_lacks g x2 x3 (g 7 4 0)).2) 7 4 (1 + x1).toNatClampNeg)) a67).2)) ((9 : Int32).toInt.toNat + 1) 0 0 ((F_X7_lacks g x2 x3 (g 7 4 0)).2)) else ((F_X7_lacks g x2 x3 (g 7 4 0)).1, (F_X7_lacks g x2 x3 (g 7 4 0)).2)))))
set_option maxRecDepth 100000 in
set_option maxHeartbeats 4000000 in
theorem w_X7_lain_90 (l : Launch) (G : mm_G) {pr : Nat → Nat → Prop} {ad : Nat → Nat → Nat → Nat} (hw : mm_W pr) (g90 : mm_g) (x1 : Int32) (x2 : Int32) (x3 : Int32) (f4 : Int32) (f5 : Int32) (a : Int32) (j : Nat)  (hB : okB g90) (hl : 0 ≤ x3.toInt ∧ x3.toInt + (g90 7 4 0).toInt ≤ 40) (h2 : vp_in x2 8) (K : Int32 → Nat → Int32 × mm_g) (hK : ∀ (c : Int32) (i : Nat) (hi : i ≤ (g90 7 4 0).toInt.toNat), V l G RX7 cX7_lain 10 (some .int) (rmk 4 129) (qM pr ad (K c i)) 0 0 0 0 142 [(0, .ref (ad 7 0 0)), (1, .int x1), (2, .int x2), (3, .int x3), (4, .int f4), (5, .int f5), (6, .int a), (7, .int (nI j)), (8, .int c), (9, .int (nI i))] [] pr ad g90) : ∀ (n : Nat) (c : Int32) (i : Nat) (hi : i ≤ (g90 7 4 0).toInt.toNat) (hm : (g90 7 4 0).toInt.toNat - i < n), V l G RX7 cX7_lain 10 (some .int) (rmk 4 129) (qM pr ad (F_X7_lain_90 g90 x1 x2 x3 f4 f5 a j K n c i)) 0 0 0 0 90 [(0, .ref (ad 7 0 0)), (1, .int x1), (2, .int x2), (3, .int x3), (4, .int f4), (5, .int f5), (6, .int a), (7, .int (nI j)), (8, .int c), (9, .int (nI i))] [] pr ad g90 := by
  intro n
  induction n with
  | zero => intro c i hi hm; exact absurd hm (Nat.not_lt_zero _)
  | succ n ih =>
      intro c i hi hm
      refine V_iload dX7_lain_90 9 rfl ?_
      refine V_aload_n dX7_lain_92 0 rfl ?_
      refine V_get (i := 5) inlX7 rfl (W_7 hw) rfl (by decide) q_94 rfl dX7_lain_93 ?_
      refine V_iconst (v := 0) dX7_lain_96 (by decide) ?_
      refine L_7_4_l 0 rfl (W_7 hw) (by unfold vp_in; decide) dX7_lain_97 ?_
      refine V_ic_ge (tgt := 142) dX7_lain_98 (by decide) (fun c_98 => ?_) (fun c_98 => ?_)
      · refine V_rp (R2 := K c i) (by simp only [F_X7_lain_90, if_pos c_98]) ?_
        refine V_lp [0, 1, 2, 3, 4, 5, 6, 7, 8, 9] rfl ?_
        exact hK c i (by assumption)
      · refine V_iload dX7_lain_101 8 rfl ?_
        refine V_if_eq (tgt := 133) dX7_lain_103 (by decide) (fun c_103 => ?_) (fun c_103 => ?_)
        · refine V_iconst (v := 0) dX7_lain_133 (by decide) ?_
          refine V_istore (L2 := [(8, .int 0), (0, .ref (ad 7 0 0)), (1, .int x1), (2, .int x2), (3, .int x3), (4, .int f4), (5, .int f5), (6, .int a), (7, .int (nI j)), (9, .int (nI i))]) dX7_lain_134 (by decide) rfl ?_
          refine V_iinc (v := (nI (i + 1))) (L2 := [(9, .int (nI (i + 1))), (8, .int 0), (0, .ref (ad 7 0 0)), (1, .int x1), (2, .int x2), (3, .int x3), (4, .int f4), (5, .int f5), (6, .int a), (7, .int (nI j))]) dX7_lain_136 9 rfl (nI_1 _) (by decide) rfl ?_
          refine V_goto (tgt := 90) dX7_lain_139 (by decide) ?_
          refine V_rp (R2 := F_X7_lain_90 g90 x1 x2 x3 f4 f5 a j K n 0 (i + 1)) (by simp only [F_X7_lain_90, if_neg c_98, if_pos c_103]) ?_
          refine V_lp [2, 3, 4, 5, 6, 7, 8, 9, 1, 0] rfl ?_
          exact ih 0 (i + 1) (by exact (lp_up hi c_98 hm).1) (by exact (lp_up hi c_98 hm).2) 
        · refine V_aload_n dX7_lain_106 0 rfl ?_
          refine V_get (i := 2) inlX7 rfl (W_7 hw) rfl (by decide) q_93 rfl dX7_lain_107 ?_
          refine V_bipush (v := 40) dX7_lain_110 (by decide) ?_
          refine V_iload_n dX7_lain_112 2 rfl ?_
          refine V_imul dX7_lain_113 ?_
          refine V_iload_n dX7_lain_114 3 rfl ?_
          refine V_iadd dX7_lain_115 ?_
          refine V_iload dX7_lain_116 9 rfl ?_
          refine V_iadd dX7_lain_118 ?_
          refine L_7_3 (W_7 hw) (by exact ix_cp h2 hl hi c_98) dX7_lain_119 ?_
          refine V_aload_n dX7_lain_120 0 rfl ?_
          refine V_iload dX7_lain_121 9 rfl ?_
          refine V_cV (k_X7_lies l G hw g90  (nI i) (ix_x hi c_98 (okB_9 hB))) hy_X7_lies hi_X7_lies hs_X7_lies q_442 rfl rfl (W_7 hw) rfl rfl rfl rfl rfl ⟨by decide, by decide⟩ (Nat.le_of_ble_eq_true rfl) ⟨by decide, by decide⟩ dX7_lain_123 (V_kI ?_)
          refine V_ic_ne (tgt := 133) dX7_lain_126 (by decide) (fun c_126 => ?_) (fun c_126 => ?_)
          · refine V_iconst (v := 0) dX7_lain_133 (by decide) ?_
            refine V_istore (L2 := [(8, .int 0), (0, .ref (ad 7 0 0)), (1, .int x1), (2, .int x2), (3, .int x3), (4, .int f4), (5, .int f5), (6, .int a), (7, .int (nI j)), (9, .int (nI i))]) dX7_lain_134 (by decide) rfl ?_
            refine V_iinc (v := (nI (i + 1))) (L2 := [(9, .int (nI (i + 1))), (8, .int 0), (0, .ref (ad 7 0 0)), (1, .int x1), (2, .int x2), (3, .int x3), (4, .int f4), (5, .int f5), (6, .int a), (7, .int (nI j))]) dX7_lain_136 9 rfl (nI_1 _) (by decide) rfl ?_
            refine V_goto (tgt := 90) dX7_lain_139 (by decide) ?_
            refine V_rp (R2 := F_X7_lain_90 g90 x1 x2 x3 f4 f5 a j K n 0 (i + 1)) (by simp only [F_X7_lain_90, if_neg c_98, if_neg c_103, if_neg c_126]) ?_
            refine V_lp [2, 3, 4, 5, 6, 7, 8, 9, 1, 0] rfl ?_
            exact ih 0 (i + 1) (by exact (lp_up hi c_98 hm).1) (by exact (lp_up hi c_98 hm).2) 
          · refine V_iconst (v := 1) dX7_lain_129 (by decide) ?_
            refine V_goto (tgt := 134) dX7_lain_130 (by decide) ?_
            refine V_istore (L2 := [(8, .int 1), (0, .ref (ad 7 0 0)), (1, .int x1), (2, .int x2), (3, .int x3), (4, .int f4), (5, .int f5), (6, .int a), (7, .int (nI j)), (9, .int (nI i))]) dX7_lain_134 (by decide) rfl ?_
            refine V_iinc (v := (nI (i + 1))) (L2 := [(9, .int (nI (i + 1))), (8, .int 1), (0, .ref (ad 7 0 0)), (1, .int x1), (2, .int x2), (3, .int x3), (4, .int f4), (5, .int f5), (6, .int a), (7, .int (nI j))]) dX7_lain_136 9 rfl (nI_1 _) (by decide) rfl ?_
            refine V_goto (tgt := 90) dX7_lain_139 (by decide) ?_
            refine V_rp (R2 := F_X7_lain_90 g90 x1 x2 x3 f4 f5 a j K n 1 (i + 1)) (by simp only [F_X7_lain_90, if_neg c_98, if_neg c_103, if_pos c_126]) ?_
            refine V_lp [2, 3, 4, 5, 6, 7, 8, 9, 1, 0] rfl ?_
            exact ih 1 (i + 1) (by exact (lp_up hi c_98 hm).1) (by exact (lp_up hi c_98 hm).2) 
set_option maxRecDepth 100000 in
set_option maxHeartbeats 4000000 in
theorem w_X7_lain_67 (l : Launch) (G : mm_G) {pr : Nat → Nat → Prop} {ad : Nat → Nat → Nat → Nat} (hw : mm_W pr) (x1 : Int32) (x2 : Int32) (x3 : Int32) (f4 : Int32) (f5 : Int32)  (hv : vp_in x1 2) (h2 : vp_in x2 8) (K : Int32 → Nat → mm_g → Int32 × mm_g) (hK : ∀ (a : Int32) (j : Nat) (s : mm_g) (hj : j ≤ (9 : Int32).toInt.toNat) (hB : okB s) (hl : 0 ≤ x3.toInt ∧ x3.toInt + (s 7 4 0).toInt ≤ 40), V l G RX7 cX7_lain 10 (some .int) (rmk 4 129) (qM pr ad (K a j s)) 0 0 0 0 166 [(0, .ref (ad 7 0 0)), (1, .int x1), (2, .int x2), (3, .int x3), (4, .int f4), (5, .int f5), (6, .int a), (7, .int (nI j))] [] pr ad s) : ∀ (n : Nat) (a : Int32) (j : Nat) (s : mm_g) (hj : j ≤ (9 : Int32).toInt.toNat) (hB : okB s) (hl : 0 ≤ x3.toInt ∧ x3.toInt + (s 7 4 0).toInt ≤ 40) (hm : (9 : Int32).toInt.toNat - j < n), V l G RX7 cX7_lain 10 (some .int) (rmk 4 129) (qM pr ad (F_X7_lain_67 x1 x2 x3 f4 f5 K n a j s)) 0 0 0 0 67 [(0, .ref (ad 7 0 0)), (1, .int x1), (2, .int x2), (3, .int x3), (4, .int f4), (5, .int f5), (6, .int a), (7, .int (nI j))] [] pr ad s := by
  intro n
  induction n with
  | zero => intro a j s hj hB hl hm; exact absurd hm (Nat.not_lt_zero _)
  | succ n ih =>
      intro a j s hj hB hl hm
      refine V_iload dX7_lain_67 7 rfl ?_
      refine V_bipush (v := 9) dX7_lain_69 (by decide) ?_
      refine V_ic_ge (tgt := 166) dX7_lain_71 (by decide) (fun c_71 => ?_) (fun c_71 => ?_)
      · refine V_rp (R2 := K a j s) (by simp only [F_X7_lain_67, if_pos c_71]) ?_
        refine V_lp [0, 1, 2, 3, 4, 5, 6, 7] rfl ?_
        exact hK a j s (by assumption) (by assumption) (by assumption)
      · refine V_aload_n dX7_lain_74 0 rfl ?_
        refine V_get (i := 5) inlX7 rfl (W_7 hw) rfl (by decide) q_94 rfl dX7_lain_75 ?_
        refine V_iconst (v := 1) dX7_lain_78 (by decide) ?_
        refine V_iload_n dX7_lain_79 1 rfl ?_
        refine V_iadd dX7_lain_80 ?_
        refine V_iload dX7_lain_81 7 rfl ?_
        refine S_7_4 (W_7 hw) (by exact ix_1 hv) dX7_lain_83 ?_
        refine V_iconst (v := 1) dX7_lain_84 (by decide) ?_
        refine V_istore (L2 := [(8, .int 1), (0, .ref (ad 7 0 0)), (1, .int x1), (2, .int x2), (3, .int x3), (4, .int f4), (5, .int f5), (6, .int a), (7, .int (nI j))]) dX7_lain_85 (by decide) rfl ?_
        refine V_iconst (v := 0) dX7_lain_87 (by decide) ?_
        refine V_istore (L2 := [(9, .int 0), (8, .int 1), (0, .ref (ad 7 0 0)), (1, .int x1), (2, .int x2), (3, .int x3), (4, .int f4), (5, .int f5), (6, .int a), (7, .int (nI j))]) dX7_lain_88 (by decide) rfl ?_
        refine V_rp (R2 := F_X7_lain_90 (wr s 7 4 (1 + x1).toNatClampNeg (nI j)) x1 x2 x3 f4 f5 a j (fun (c90 : Int32) (i90 : Nat) => (if c90 = 0 then F_X7_lain_67 x1 x2 x3 f4 f5 K n (a ||| 0) (j + 1) (wr s 7 4 (1 + x1).toNatClampNeg (nI j)) else F_X7_lain_67 x1 x2 x3 f4 f5 K n (a ||| ((1 : Int32) <<< ((nI j) &&& 31))) (j + 1) (wr s 7 4 (1 + x1).toNatClampNeg (nI j)))) (((wr s 7 4 (1 + x1).toNatClampNeg (nI j)) 7 4 0).toInt.toNat + 1) 1 0) (by simp only [F_X7_lain_67, if_neg c_71]) ?_
        refine V_lp [2, 3, 4, 5, 6, 7, 8, 9, 1, 0] rfl ?_
        refine w_X7_lain_90 l G hw (wr s 7 4 (1 + x1).toNatClampNeg (nI j)) x1 x2 x3 f4 f5 a j  (by exact okB_1 hv hB) (by rw [wr_1 hv]; exact hl) (by exact h2) _ (fun c90 i90 hi90 => ?_) (((wr s 7 4 (1 + x1).toNatClampNeg (nI j)) 7 4 0).toInt.toNat + 1) 1 0 (by first | exact Nat.zero_le _ | decide) (by omega)
        refine V_iload dX7_lain_142 6 rfl ?_
        refine V_iload dX7_lain_144 8 rfl ?_
        refine V_if_eq (tgt := 156) dX7_lain_146 (by decide) (fun c_146 => ?_) (fun c_146 => ?_)
        · refine V_iconst (v := 0) dX7_lain_156 (by decide) ?_
          refine V_ior dX7_lain_157 ?_
          refine V_istore (L2 := [(6, .int (a ||| 0)), (0, .ref (ad 7 0 0)), (1, .int x1), (2, .int x2), (3, .int x3), (4, .int f4), (5, .int f5), (7, .int (nI j)), (8, .int c90), (9, .int (nI i90))]) dX7_lain_158 (by decide) rfl ?_
          refine V_iinc (v := (nI (j + 1))) (L2 := [(7, .int (nI (j + 1))), (6, .int (a ||| 0)), (0, .ref (ad 7 0 0)), (1, .int x1), (2, .int x2), (3, .int x3), (4, .int f4), (5, .int f5), (8, .int c90), (9, .int (nI i90))]) dX7_lain_160 7 rfl (nI_1 _) (by decide) rfl ?_
          refine V_goto (tgt := 67) dX7_lain_163 (by decide) ?_
          refine V_rp (R2 := F_X7_lain_67 x1 x2 x3 f4 f5 K n (a ||| 0) (j + 1) (wr s 7 4 (1 + x1).toNatClampNeg (nI j))) (by simp only [if_pos c_146]) ?_
          refine V_lp [2, 3, 4, 5, 6, 7, 1, 0] rfl ?_
          exact ih (a ||| 0) (j + 1) (wr s 7 4 (1 + x1).toNatClampNeg (nI j)) (by exact (lp_up hj c_71 hm).1) (by exact okB_1 hv hB) (by rw [wr_1 hv]; exact hl) (by exact (lp_up hj c_71 hm).2) 
        · refine V_iconst (v := 1) dX7_lain_149 (by decide) ?_
          refine V_iload dX7_lain_150 7 rfl ?_
          refine V_ishl dX7_lain_152 ?_
          refine V_goto (tgt := 157) dX7_lain_153 (by decide) ?_
          refine V_ior dX7_lain_157 ?_
          refine V_istore (L2 := [(6, .int (a ||| ((1 : Int32) <<< ((nI j) &&& 31)))), (0, .ref (ad 7 0 0)), (1, .int x1), (2, .int x2), (3, .int x3), (4, .int f4), (5, .int f5), (7, .int (nI j)), (8, .int c90), (9, .int (nI i90))]) dX7_lain_158 (by decide) rfl ?_
          refine V_iinc (v := (nI (j + 1))) (L2 := [(7, .int (nI (j + 1))), (6, .int (a ||| ((1 : Int32) <<< ((nI j) &&& 31)))), (0, .ref (ad 7 0 0)), (1, .int x1), (2, .int x2), (3, .int x3), (4, .int f4), (5, .int f5), (8, .int c90), (9, .int (nI i90))]) dX7_lain_160 7 rfl (nI_1 _) (by decide) rfl ?_
          refine V_goto (tgt := 67) dX7_lain_163 (by decide) ?_
          refine V_rp (R2 := F_X7_lain_67 x1 x2 x3 f4 f5 K n (a ||| ((1 : Int32) <<< ((nI j) &&& 31))) (j + 1) (wr s 7 4 (1 + x1).toNatClampNeg (nI j))) (by simp only [if_neg c_146]) ?_
          refine V_lp [2, 3, 4, 5, 6, 7, 1, 0] rfl ?_
          exact ih (a ||| ((1 : Int32) <<< ((nI j) &&& 31))) (j + 1) (wr s 7 4 (1 + x1).toNatClampNeg (nI j)) (by exact (lp_up hj c_71 hm).1) (by exact okB_1 hv hB) (by rw [wr_1 hv]; exact hl) (by exact (lp_up hj c_71 hm).2) 
set_option maxRecDepth 100000 in
set_option maxHeartbeats 4000000 in
theorem k_X7_lain (l : Launch) (G : mm_G) {pr : Nat → Nat → Prop} {ad : Nat → Nat → Nat → Nat} (hw : mm_W pr) (g : mm_g) (x1 : Int32) (x2 : Int32) (x3 : Int32) (hB : okB g) (hR : okR7 g)  : Mt l G yX7_lain cX7_lain 10 (some .int) (rmk 4 129) [.ref (ad 7 0 0), .int x1, .int x2, .int x3] pr ad g (qM pr ad (F_X7_lain g x1 x2 x3)) 0 0 := by
  refine Mt_of (by decide) (Nat.le_of_ble_eq_true rfl) ?_
  show V l G RX7 cX7_lain 10 (some .int) _ _ 0 0 0 0 0 [(0, .ref (ad 7 0 0)), (1, .int x1), (2, .int x2), (3, .int x3)] [] pr ad g
  refine V_aload_n dX7_lain_0 0 rfl ?_
  refine V_get (i := 4) inlX7 rfl (W_7 hw) rfl (by decide) q_309 rfl dX7_lain_1 ?_
  refine V_if_ne (tgt := 10) dX7_lain_4 (by decide) (fun c_4 => ?_) (fun c_4 => ?_)
  · refine V_iload_n dX7_lain_10 1 rfl ?_
    refine V_cS (k_X7_isWho l G hw g  x1 ) hy_X7_isWho hz_X7_isWho q_540 rfl rfl rfl rfl ⟨by decide, by decide⟩ (Nat.le_of_ble_eq_true rfl) ⟨by decide, by decide⟩ dX7_lain_11 (V_kI ?_)
    refine V_if_eq (tgt := 24) dX7_lain_14 (by decide) (fun c_14 => ?_) (fun c_14 => ?_)
    · refine V_ldc q_130 dX7_lain_24 ?_
      refine V_goto (tgt := 41) dX7_lain_26 (by decide) ?_
      refine V_istore (L2 := [(4, .int (-1000001)), (0, .ref (ad 7 0 0)), (1, .int x1), (2, .int x2), (3, .int x3)]) dX7_lain_41 (by decide) rfl ?_
      refine V_iload dX7_lain_43 0 rfl ?_
      refine V_if_ge (tgt := 51) dX7_lain_45 (by decide) (fun c_45 => ?_) (fun c_45 => ?_)
      · exact absurd c_45 (by decide)
      · refine V_iload dX7_lain_48 0 rfl ?_
        exact V_iret dX7_lain_50 rfl (lfM (by simp only [F_X7_lain, if_neg c_4, if_pos c_14]))
    · refine V_iload_n dX7_lain_17 2 rfl ?_
      refine V_cS (k_X7_isRow l G hw g  x2 ) hy_X7_isRow hz_X7_isRow q_131 rfl rfl rfl rfl ⟨by decide, by decide⟩ (Nat.le_of_ble_eq_true rfl) ⟨by decide, by decide⟩ dX7_lain_18 (V_kI ?_)
      refine V_if_ne (tgt := 29) dX7_lain_21 (by decide) (fun c_21 => ?_) (fun c_21 => ?_)
      · refine V_aload_n dX7_lain_29 0 rfl ?_
        refine V_iload_n dX7_lain_30 2 rfl ?_
        refine V_iload_n dX7_lain_31 3 rfl ?_
        refine V_aload_n dX7_lain_32 0 rfl ?_
        refine V_get (i := 5) inlX7 rfl (W_7 hw) rfl (by decide) q_94 rfl dX7_lain_33 ?_
        refine V_iconst (v := 0) dX7_lain_36 (by decide) ?_
        refine L_7_4_l 0 rfl (W_7 hw) (by unfold vp_in; decide) dX7_lain_37 ?_
        refine V_cV (k_X7_lacks l G hw g  x2 x3 (g 7 4 0) (ix_row c_21)) hy_X7_lacks hi_X7_lacks hs_X7_lacks q_825 rfl rfl (W_7 hw) rfl rfl rfl rfl rfl ⟨by decide, by decide⟩ (Nat.le_of_ble_eq_true rfl) ⟨by decide, by decide⟩ dX7_lain_38 (V_kM ?_)
        refine V_istore (L2 := [(4, .int ((F_X7_lacks g x2 x3 (g 7 4 0)).1)), (0, .ref (ad 7 0 0)), (1, .int x1), (2, .int x2), (3, .int x3)]) dX7_lain_41 (by decide) rfl ?_
        refine V_iload dX7_lain_43 0 rfl ?_
        refine V_if_ge (tgt := 51) dX7_lain_45 (by decide) (fun c_45 => ?_) (fun c_45 => ?_)
        · refine V_aload_n dX7_lain_51 1 rfl ?_
          refine V_get (i := 5) inlX7 rfl (W_7 hw) rfl (by decide) q_94 rfl dX7_lain_52 ?_
          refine V_iconst (v := 1) dX7_lain_55 (by decide) ?_
          refine V_iload_n dX7_lain_56 2 rfl ?_
          refine V_iadd dX7_lain_57 ?_
          refine L_7_4 (W_7 hw) (by exact ix_1 (ix_who c_14)) dX7_lain_58 ?_
          refine V_istore (L2 := [(5, .int (((F_X7_lacks g x2 x3 (g 7 4 0)).2) 7 4 (1 + x1).toNatClampNeg)), (4, .int ((F_X7_lacks g x2 x3 (g 7 4 0)).1)), (0, .ref (ad 7 0 0)), (1, .int x1), (2, .int x2), (3, .int x3)]) dX7_lain_59 (by decide) rfl ?_
          refine V_iconst (v := 0) dX7_lain_61 (by decide) ?_
          refine V_istore (L2 := [(6, .int 0), (5, .int (((F_X7_lacks g x2 x3 (g 7 4 0)).2) 7 4 (1 + x1).toNatClampNeg)), (4, .int ((F_X7_lacks g x2 x3 (g 7 4 0)).1)), (0, .ref (ad 7 0 0)), (1, .int x1), (2, .int x2), (3, .int x3)]) dX7_lain_62 (by decide) rfl ?_
          refine V_iconst (v := 0) dX7_lain_64 (by decide) ?_
          refine V_istore (L2 := [(7, .int 0), (6, .int 0), (5, .int (((F_X7_lacks g x2 x3 (g 7 4 0)).2) 7 4 (1 + x1).toNatClampNeg)), (4, .int ((F_X7_lacks g x2 x3 (g 7 4 0)).1)), (0, .ref (ad 7 0 0)), (1, .int x1), (2, .int x2), (3, .int x3)]) dX7_lain_65 (by decide) rfl ?_
          refine V_rp (R2 := F_X7_lain_67 x1 x2 x3 ((F_X7_lacks g x2 x3 (g 7 4 0)).1) (((F_X7_lacks g x2 x3 (g 7 4 0)).2) 7 4 (1 + x1).toNatClampNeg) (fun (a67 : Int32) (j67 : Nat) (s67 : mm_g) => ((F_X7_well (wr s67 7 4 (1 + x1).toNatClampNeg (((F_X7_lacks g x2 x3 (g 7 4 0)).2) 7 4 (1 + x1).toNatClampNeg)) a67).1, (F_X7_well (wr s67 7 4 (1 + x1).toNatClampNeg (((F_X7_lacks g x2 x3 (g 7 4 0)).2) 7 4 (1 + x1).toNatClampNeg)) a67).2)) ((9 : Int32).toInt.toNat + 1) 0 0 ((F_X7_lacks g x2 x3 (g 7 4 0)).2)) (by simp only [F_X7_lain, if_neg c_4, if_neg c_14, if_neg c_21, if_pos c_45]) ?_
          refine V_lp [4, 5, 6, 7, 3, 2, 1, 0] rfl ?_
          refine w_X7_lain_67 l G hw x1 x2 x3 ((F_X7_lacks g x2 x3 (g 7 4 0)).1) (((F_X7_lacks g x2 x3 (g 7 4 0)).2) 7 4 (1 + x1).toNatClampNeg)  (by exact ix_who c_14) (by exact ix_row c_21) _ (fun a67 j67 s67 hj67 hB67 hl67 => ?_) ((9 : Int32).toInt.toNat + 1) 0 0 ((F_X7_lacks g x2 x3 (g 7 4 0)).2) (by first | exact Nat.zero_le _ | decide) (by exact okB_lacks hB) (by rw [lacks_4]; exact lk_2 hR (ix_row c_21) c_45) (by omega)
          refine V_aload_n dX7_lain_166 0 rfl ?_
          refine V_get (i := 5) inlX7 rfl (W_7 hw) rfl (by decide) q_94 rfl dX7_lain_167 ?_
          refine V_iconst (v := 1) dX7_lain_170 (by decide) ?_
          refine V_iload_n dX7_lain_171 1 rfl ?_
          refine V_iadd dX7_lain_172 ?_
          refine V_iload dX7_lain_173 5 rfl ?_
          refine S_7_4 (W_7 hw) (by exact ix_1 (ix_who c_14)) dX7_lain_175 ?_
          refine V_aload_n dX7_lain_176 0 rfl ?_
          refine V_iload dX7_lain_177 6 rfl ?_
          refine V_cV (k_X7_well l G hw (wr s67 7 4 (1 + x1).toNatClampNeg (((F_X7_lacks g x2 x3 (g 7 4 0)).2) 7 4 (1 + x1).toNatClampNeg))  a67 ) hy_X7_well hi_X7_well hs_X7_well q_144 rfl rfl (W_7 hw) rfl rfl rfl rfl rfl ⟨by decide, by decide⟩ (Nat.le_of_ble_eq_true rfl) ⟨by decide, by decide⟩ dX7_lain_179 (V_kM ?_)
          exact V_iret dX7_lain_182 rfl (lfM (by rfl))
        · refine V_iload dX7_lain_48 0 rfl ?_
          exact V_iret dX7_lain_50 rfl (lfM (by simp only [F_X7_lain, if_neg c_4, if_neg c_14, if_neg c_21, if_neg c_45]))
      · refine V_ldc q_130 dX7_lain_24 ?_
        refine V_goto (tgt := 41) dX7_lain_26 (by decide) ?_
        refine V_istore (L2 := [(4, .int (-1000001)), (0, .ref (ad 7 0 0)), (1, .int x1), (2, .int x2), (3, .int x3)]) dX7_lain_41 (by decide) rfl ?_
        refine V_iload dX7_lain_43 0 rfl ?_
        refine V_if_ge (tgt := 51) dX7_lain_45 (by decide) (fun c_45 => ?_) (fun c_45 => ?_)
        · exact absurd c_45 (by decide)
        · refine V_iload dX7_lain_48 0 rfl ?_
          exact V_iret dX7_lain_50 rfl (lfM (by simp only [F_X7_lain, if_neg c_4, if_neg c_14, if_pos c_21]))
  · refine V_ldc q_371 dX7_lain_7 ?_
    exact V_iret dX7_lain_9 rfl (lfM (by simp only [F_X7_lain, if_pos c_4]))
def F_X7_drawn_60 (x1 : Int32) (x2 : Int32) (x3 : Int32) (K : Int64 → Nat → mm_g → Int32 × mm_g) : Nat → Int64 → Nat → mm_g → Int32 × mm_g
  | 0, y, j, s => K y j s
  | n + 1, y, j, s => (if x1 ≤ (nI j) then K y j s else (if (lg_cmp (((y * 16807) - (y * 16807) / 2147483647 * 2147483647) - ((y * 16807) - (y * 16807) / 2147483647 * 2147483647) / 2 * 2) 0) = 0 then (if (lg_cmp (((y * 16807) - (y * 16807) / 2147483647 * 2147483647) - ((y * 16807) - (y * 16807) / 2147483647 * 2147483647) / 3 * 3) 0) = 0 then (if (F_X7_hasVeto (F_X7_oneTide (wr (wr s 7 4 ((1 : Int32) + 0).toNatClampNeg ((((y * 16807) - (y * 16807) / 2147483647 * 2147483647) - ((y * 16807) - (y * 16807) / 2147483647 * 2147483647) / 9 * 9).toInt32)) 7 4 (27 + ((((y * 16807) - (y * 16807) / 2147483647 * 2147483647) - ((y * 16807) - (y * 16807) / 2147483647 * 2147483647) / ((s 7 4 0).toInt64) * ((s 7 4 0).toInt64)).toInt32)).toNatClampNeg ((((y * 16807) - (y * 16807) / 2147483647 * 2147483647) - ((y * 16807) - (y * 16807) / 2147483647 * 2147483647) / 10 * 10).toInt32))) ((((y * 16807) - (y * 16807) / 2147483647 * 2147483647) - ((y * 16807) - (y * 16807) / 2147483647 * 2147483647) / ((s 7 4 0).toInt64) * ((s 7 4 0).toInt64)).toInt32)) = 0 then F_X7_drawn_60 x1 x2 x3 K n ((y * 16807) - (y * 16807) / 2147483647 * 2147483647) (j + 1) (F_X7_rakeBy (F_X7_oneTide (wr (wr s 7 4 ((1 : Int32) + 0).toNatClampNeg ((((y * 16807) - (y * 16807) / 2147483647 * 2147483647) - ((y * 16807) - (y * 16807) / 2147483647 * 2147483647) / 9 * 9).toInt32)) 7 4 (27 + ((((y * 16807) - (y * 16807) / 2147483647 * 2147483647) - ((y * 16807) - (y * 16807) / 2147483647 * 2147483647) / ((s 7 4 0).toInt64) * ((s 7 4 0).toInt64)).toInt32)).toNatClampNeg ((((y * 16807) - (y * 16807) / 2147483647 * 2147483647) - ((y * 16807) - (y * 16807) / 2147483647 * 2147483647) / 10 * 10).toInt32))) ((((y * 16807) - (y * 16807) / 2147483647 * 2147483647) - ((y * 16807) - (y * 16807) / 2147483647 * 2147483647) / ((s 7 4 0).toInt64) * ((s 7 4 0).toInt64)).toInt32) ((F_X7_oneTide (wr (wr s 7 4 ((1 : Int32) + 0).toNatClampNeg ((((y * 16807) - (y * 16807) / 2147483647 * 2147483647) - ((y * 16807) - (y * 16807) / 2147483647 * 2147483647) / 9 * 9).toInt32)) 7 4 (27 + ((((y * 16807) - (y * 16807) / 2147483647 * 2147483647) - ((y * 16807) - (y * 16807) / 2147483647 * 2147483647) / ((s 7 4 0).toInt64) * ((s 7 4 0).toInt64)).toInt32)).toNatClampNeg ((((y * 16807) - (y * 16807) / 2147483647 * 2147483647) - ((y * 16807) - (y * 16807) / 2147483647 * 2147483647) / 10 * 10).toInt32))) 7 4 (18 + ((((y * 16807) - (y * 16807) / 2147483647 * 2147483647) - ((y * 16807) - (y * 16807) / 2147483647 * 2147483647) / ((s 7 4 0).toInt64) * ((s 7 4 0).toInt64)).toInt32)).toNatClampNeg)) else F_X7_drawn_60 x1 x2 x3 K n ((y * 16807) - (y * 16807) / 2147483647 * 2147483647) (j + 1) (F_X7_oneTide (wr (wr s 7 4 ((1 : Int32) + 0).toNatClampNeg ((((y * 16807) - (y * 16807) / 2147483647 * 2147483647) - ((y * 16807) - (y * 16807) / 2147483647 * 2147483647) / 9 * 9).toInt32)) 7 4 (27 + ((((y * 16807) - (y * 16807) / 2147483647 * 2147483647) - ((y * 16807) - (y * 16807) / 2147483647 * 2147483647) / ((s 7 4 0).toInt64) * ((s 7 4 0).toInt64)).toInt32)).toNatClampNeg ((((y * 16807) - (y * 16807) / 2147483647 * 2147483647) - ((y * 16807) - (y * 16807) / 2147483647 * 2147483647) / 10 * 10).toInt32)))) else (if (F_X7_hasVeto (F_X7_oneTide (wr s 7 4 ((1 : Int32) + 0).toNatClampNeg ((((y * 16807) - (y * 16807) / 2147483647 * 2147483647) - ((y * 16807) - (y * 16807) / 2147483647 * 2147483647) / 9 * 9).toInt32))) ((((y * 16807) - (y * 16807) / 2147483647 * 2147483647) - ((y * 16807) - (y * 16807) / 2147483647 * 2147483647) / ((s 7 4 0).toInt64) * ((s 7 4 0).toInt64)).toInt32)) = 0 then F_X7_drawn_60 x1 x2 x3 K n ((y * 16807) - (y * 16807) / 2147483647 * 2147483647) (j + 1) (F_X7_rakeBy (F_X7_oneTide (wr s 7 4 ((1 : Int32) + 0).toNatClampNeg ((((y * 16807) - (y * 16807) / 2147483647 * 2147483647) - ((y * 16807) - (y * 16807) / 2147483647 * 2147483647) / 9 * 9).toInt32))) ((((y * 16807) - (y * 16807) / 2147483647 * 2147483647) - ((y * 16807) - (y * 16807) / 2147483647 * 2147483647) / ((s 7 4 0).toInt64) * ((s 7 4 0).toInt64)).toInt32) ((F_X7_oneTide (wr s 7 4 ((1 : Int32) + 0).toNatClampNeg ((((y * 16807) - (y * 16807) / 2147483647 * 2147483647) - ((y * 16807) - (y * 16807) / 2147483647 * 2147483647) / 9 * 9).toInt32))) 7 4 (18 + ((((y * 16807) - (y * 16807) / 2147483647 * 2147483647) - ((y * 16807) - (y * 16807) / 2147483647 * 2147483647) / ((s 7 4 0).toInt64) * ((s 7 4 0).toInt64)).toInt32)).toNatClampNeg)) else F_X7_drawn_60 x1 x2 x3 K n ((y * 16807) - (y * 16807) / 2147483647 * 2147483647) (j + 1) (F_X7_oneTide (wr s 7 4 ((1 : Int32) + 0).toNatClampNeg ((((y * 16807) - (y * 16807) / 2147483647 * 2147483647) - ((y * 16807) - (y * 16807) / 2147483647 * 2147483647) / 9 * 9).toInt32))))) else (if (lg_cmp (((y * 16807) - (y * 16807) / 2147483647 * 2147483647) - ((y * 16807) - (y * 16807) / 2147483647 * 2147483647) / 3 * 3) 0) = 0 then (if (F_X7_hasVeto (F_X7_oneTide (wr (wr s 7 4 ((1 : Int32) + 1).toNatClampNeg ((((y * 16807) - (y * 16807) / 2147483647 * 2147483647) - ((y * 16807) - (y * 16807) / 2147483647 * 2147483647) / 9 * 9).toInt32)) 7 4 (27 + ((((y * 16807) - (y * 16807) / 2147483647 * 2147483647) - ((y * 16807) - (y * 16807) / 2147483647 * 2147483647) / ((s 7 4 0).toInt64) * ((s 7 4 0).toInt64)).toInt32)).toNatClampNeg ((((y * 16807) - (y * 16807) / 2147483647 * 2147483647) - ((y * 16807) - (y * 16807) / 2147483647 * 2147483647) / 10 * 10).toInt32))) ((((y * 16807) - (y * 16807) / 2147483647 * 2147483647) - ((y * 16807) - (y * 16807) / 2147483647 * 2147483647) / ((s 7 4 0).toInt64) * ((s 7 4 0).toInt64)).toInt32)) = 0 then F_X7_drawn_60 x1 x2 x3 K n ((y * 16807) - (y * 16807) / 2147483647 * 2147483647) (j + 1) (F_X7_rakeBy (F_X7_oneTide (wr (wr s 7 4 ((1 : Int32) + 1).toNatClampNeg ((((y * 16807) - (y * 16807) / 2147483647 * 2147483647) - ((y * 16807) - (y * 16807) / 2147483647 * 2147483647) / 9 * 9).toInt32)) 7 4 (27 + ((((y * 16807) - (y * 16807) / 2147483647 * 2147483647) - ((y * 16807) - (y * 16807) / 2147483647 * 2147483647) / ((s 7 4 0).toInt64) * ((s 7 4 0).toInt64)).toInt32)).toNatClampNeg ((((y * 16807) - (y * 16807) / 2147483647 * 2147483647) - ((y * 16807) - (y * 16807) / 2147483647 * 2147483647) / 10 * 10).toInt32))) ((((y * 16807) - (y * 16807) / 2147483647 * 2147483647) - ((y * 16807) - (y * 16807) / 2147483647 * 2147483647) / ((s 7 4 0).toInt64) * ((s 7 4 0).toInt64)).toInt32) ((F_X7_oneTide (wr (wr s 7 4 ((1 : Int32) + 1).toNatClampNeg ((((y * 16807) - (y * 16807) / 2147483647 * 2147483647) - ((y * 16807) - (y * 16807) / 2147483647 * 2147483647) / 9 * 9).toInt32)) 7 4 (27 + ((((y * 16807) - (y * 16807) / 2147483647 * 2147483647) - ((y * 16807) - (y * 16807) / 2147483647 * 2147483647) / ((s 7 4 0).toInt64) * ((s 7 4 0).toInt64)).toInt32)).toNatClampNeg ((((y * 16807) - (y * 16807) / 2147483647 * 2147483647) - ((y * 16807) - (y * 16807) / 2147483647 * 2147483647) / 10 * 10).toInt32))) 7 4 (18 + ((((y * 16807) - (y * 16807) / 2147483647 * 2147483647) - ((y * 16807) - (y * 16807) / 2147483647 * 2147483647) / ((s 7 4 0).toInt64) * ((s 7 4 0).toInt64)).toInt32)).toNatClampNeg)) else F_X7_drawn_60 x1 x2 x3 K n ((y * 16807) - (y * 16807) / 2147483647 * 2147483647) (j + 1) (F_X7_oneTide (wr (wr s 7 4 ((1 : Int32) + 1).toNatClampNeg ((((y * 16807) - (y * 16807) / 2147483647 * 2147483647) - ((y * 16807) - (y * 16807) / 2147483647 * 2147483647) / 9 * 9).toInt32)) 7 4 (27 + ((((y * 16807) - (y * 16807) / 2147483647 * 2147483647) - ((y * 16807) - (y * 16807) / 2147483647 * 2147483647) / ((s 7 4 0).toInt64) * ((s 7 4 0).toInt64)).toInt32)).toNatClampNeg ((((y * 16807) - (y * 16807) / 2147483647 * 2147483647) - ((y * 16807) - (y * 16807) / 2147483647 * 2147483647) / 10 * 10).toInt32)))) else (if (F_X7_hasVeto (F_X7_oneTide (wr s 7 4 ((1 : Int32) + 1).toNatClampNeg ((((y * 16807) - (y * 16807) / 2147483647 * 2147483647) - ((y * 16807) - (y * 16807) / 2147483647 * 2147483647) / 9 * 9).toInt32))) ((((y * 16807) - (y * 16807) / 2147483647 * 2147483647) - ((y * 16807) - (y * 16807) / 2147483647 * 2147483647) / ((s 7 4 0).toInt64) * ((s 7 4 0).toInt64)).toInt32)) = 0 then F_X7_drawn_60 x1 x2 x3 K n ((y * 16807) - (y * 16807) / 2147483647 * 2147483647) (j + 1) (F_X7_rakeBy (F_X7_oneTide (wr s 7 4 ((1 : Int32) + 1).toNatClampNeg ((((y * 16807) - (y * 16807) / 2147483647 * 2147483647) - ((y * 16807) - (y * 16807) / 2147483647 * 2147483647) / 9 * 9).toInt32))) ((((y * 16807) - (y * 16807) / 2147483647 * 2147483647) - ((y * 16807) - (y * 16807) / 2147483647 * 2147483647) / ((s 7 4 0).toInt64) * ((s 7 4 0).toInt64)).toInt32) ((F_X7_oneTide (wr s 7 4 ((1 : Int32) + 1).toNatClampNeg ((((y * 16807) - (y * 16807) / 2147483647 * 2147483647) - ((y * 16807) - (y * 16807) / 2147483647 * 2147483647) / 9 * 9).toInt32))) 7 4 (18 + ((((y * 16807) - (y * 16807) / 2147483647 * 2147483647) - ((y * 16807) - (y * 16807) / 2147483647 * 2147483647) / ((s 7 4 0).toInt64) * ((s 7 4 0).toInt64)).toInt32)).toNatClampNeg)) else F_X7_drawn_60 x1 x2 x3 K n ((y * 16807) - (y * 16807) / 2147483647 * 2147483647) (j + 1) (F_X7_oneTide (wr s 7 4 ((1 : Int32) + 1).toNatClampNeg ((((y * 16807) - (y * 16807) / 2147483647 * 2147483647) - ((y * 16807) - (y * 16807) / 2147483647 * 2147483647) / 9 * 9).toInt32)))))))
def F_X7_drawn (g : mm_g) (x1 : Int32) (x2 : Int32) (x3 : Int32) : Int32 × mm_g := (if (g 7 0 1) = 0 then ((-1000002), g) else (if (F_X7_in (x1.toInt64) 0 60) = 0 then ((-1000001), g) else (if (F_X7_in (x2.toInt64) 1 999999) = 0 then ((-1000001), g) else (if (F_X7_in (x3.toInt64) 0 2) = 0 then ((-1000001), g) else (F_X7_drawn_60 x1 x2 x3 (fun (y60 : Int64) (j60 : Nat) (s60 : mm_g) => ((s60 7 4 (6 + x3).toNatClampNeg), (F_X7_takeBack s60))) (x1.toInt.toNat + 1) (x2.toInt64) 0 (F_X7_putAside g))))))
set_option maxRecDepth 100000 in
set_option maxHeartbeats 4000000 in
theorem w_X7_drawn_60 (l : Launch) (G : mm_G) {pr : Nat → Nat → Prop} {ad : Nat → Nat → Nat → Nat} (hw : mm_W pr) (x1 : Int32) (x2 : Int32) (x3 : Int32)  (K : Int64 → Nat → mm_g → Int32 × mm_g) (hK : ∀ (y : Int64) (j : Nat) (s : mm_g) (hj : j ≤ x1.toInt.toNat) (hB : okB s) (hb : 1 ≤ s 7 4 0) (hy : 0 ≤ y.toInt ∧ y.toInt < 2147483648), V l G RX7 cX7_drawn 8 (some .int) (rmk 5 152) (qM pr ad (K y j s)) 0 0 0 0 184 [(0, .ref (ad 7 0 0)), (1, .int x1), (2, .int x2), (3, .int x3), (4, .long y), (6, .int (nI j))] [] pr ad s) : ∀ (n : Nat) (y : Int64) (j : Nat) (s : mm_g) (hj : j ≤ x1.toInt.toNat) (hB : okB s) (hb : 1 ≤ s 7 4 0) (hy : 0 ≤ y.toInt ∧ y.toInt < 2147483648) (hm : x1.toInt.toNat - j < n), V l G RX7 cX7_drawn 8 (some .int) (rmk 5 152) (qM pr ad (F_X7_drawn_60 x1 x2 x3 K n y j s)) 0 0 0 0 60 [(0, .ref (ad 7 0 0)), (1, .int x1), (2, .int x2), (3, .int x3), (4, .long y), (6, .int (nI j))] [] pr ad s := by
  intro n
  induction n with
  | zero => intro y j s hj hB hb hy hm; exact absurd hm (Nat.not_lt_zero _)
  | succ n ih =>
      intro y j s hj hB hb hy hm
      refine V_iload dX7_drawn_60 5 rfl ?_
      refine V_iload_n dX7_drawn_62 1 rfl ?_
      refine V_ic_ge (tgt := 184) dX7_drawn_63 (by decide) (fun c_63 => ?_) (fun c_63 => ?_)
      · refine V_rp (R2 := K y j s) (by simp only [F_X7_drawn_60, if_pos c_63]) ?_
        refine V_lp [0, 1, 2, 3, 4, 5] rfl ?_
        exact hK y j s (by assumption) (by assumption) (by assumption) (by assumption)
      · refine V_lload dX7_drawn_66 4 rfl ?_
        refine V_ldc2 q_897 dX7_drawn_68 ?_
        refine V_lmul dX7_drawn_71 ?_
        refine V_ldc2 q_898 dX7_drawn_72 ?_
        refine V_lrem dX7_drawn_75 (by decide) ?_
        refine V_lstore (L2 := [(4, .long ((y * 16807) - (y * 16807) / 2147483647 * 2147483647)), (0, .ref (ad 7 0 0)), (1, .int x1), (2, .int x2), (3, .int x3), (6, .int (nI j))]) dX7_drawn_76 (by decide) rfl ?_
        refine V_lload dX7_drawn_78 0 rfl ?_
        refine V_aload_n dX7_drawn_80 1 rfl ?_
        refine V_get (i := 5) inlX7 rfl (W_7 hw) rfl (by decide) q_94 rfl dX7_drawn_81 ?_
        refine V_iconst (v := 0) dX7_drawn_84 (by decide) ?_
        refine L_7_4_l 0 rfl (W_7 hw) (by unfold vp_in; decide) dX7_drawn_85 ?_
        refine V_i2l dX7_drawn_86 ?_
        refine V_lrem dX7_drawn_87 (by exact ne_i2l hb) ?_
        refine V_l2i dX7_drawn_88 ?_
        refine V_istore (L2 := [(7, .int ((((y * 16807) - (y * 16807) / 2147483647 * 2147483647) - ((y * 16807) - (y * 16807) / 2147483647 * 2147483647) / ((s 7 4 0).toInt64) * ((s 7 4 0).toInt64)).toInt32)), (4, .long ((y * 16807) - (y * 16807) / 2147483647 * 2147483647)), (0, .ref (ad 7 0 0)), (1, .int x1), (2, .int x2), (3, .int x3), (6, .int (nI j))]) dX7_drawn_89 (by decide) rfl ?_
        refine V_aload_n dX7_drawn_91 2 rfl ?_
        refine V_get (i := 5) inlX7 rfl (W_7 hw) rfl (by decide) q_94 rfl dX7_drawn_92 ?_
        refine V_iconst (v := 1) dX7_drawn_95 (by decide) ?_
        refine V_lload dX7_drawn_96 1 rfl ?_
        refine V_ldc2 q_129 dX7_drawn_98 ?_
        refine V_lrem dX7_drawn_101 (by decide) ?_
        refine V_lconst (v := 0) dX7_drawn_102 (by decide) ?_
        refine V_lcmp dX7_drawn_103 ?_
        refine V_if_ne (tgt := 111) dX7_drawn_104 (by decide) (fun c_104 => ?_) (fun c_104 => ?_)
        · refine V_iconst (v := 1) dX7_drawn_111 (by decide) ?_
          refine V_iadd dX7_drawn_112 ?_
          refine V_lload dX7_drawn_113 1 rfl ?_
          refine V_ldc2 q_511 dX7_drawn_115 ?_
          refine V_lrem dX7_drawn_118 (by decide) ?_
          refine V_l2i dX7_drawn_119 ?_
          refine S_7_4 (W_7 hw) (by unfold vp_in; decide) dX7_drawn_120 ?_
          refine V_lload dX7_drawn_121 1 rfl ?_
          refine V_ldc2 q_556 dX7_drawn_123 ?_
          refine V_lrem dX7_drawn_126 (by decide) ?_
          refine V_lconst (v := 0) dX7_drawn_127 (by decide) ?_
          refine V_lcmp dX7_drawn_128 ?_
          refine V_if_ne (tgt := 149) dX7_drawn_129 (by decide) (fun c_129 => ?_) (fun c_129 => ?_)
          · refine V_aload_n dX7_drawn_149 2 rfl ?_
            refine V_cV (k_X7_oneTide l G hw (wr s 7 4 ((1 : Int32) + 1).toNatClampNeg ((((y * 16807) - (y * 16807) / 2147483647 * 2147483647) - ((y * 16807) - (y * 16807) / 2147483647 * 2147483647) / 9 * 9).toInt32))   (by first | with_reducible exact (okB_27 (bi_9 (rem_y hy) hB hb) (okB_1 (by unfold vp_in; decide) hB)) | with_reducible exact (okB_1 (by unfold vp_in; decide) hB))) hy_X7_oneTide hi_X7_oneTide hs_X7_oneTide q_438 rfl rfl (W_7 hw) rfl rfl rfl rfl rfl ⟨by decide, by decide⟩ (Nat.le_of_ble_eq_true rfl) ⟨by decide, by decide⟩ dX7_drawn_150 (V_kN ?_)
            refine V_aload_n dX7_drawn_153 2 rfl ?_
            refine V_iload dX7_drawn_154 0 rfl ?_
            refine V_cV (k_X7_hasVeto l G hw (F_X7_oneTide (wr s 7 4 ((1 : Int32) + 1).toNatClampNeg ((((y * 16807) - (y * 16807) / 2147483647 * 2147483647) - ((y * 16807) - (y * 16807) / 2147483647 * 2147483647) / 9 * 9).toInt32)))  ((((y * 16807) - (y * 16807) / 2147483647 * 2147483647) - ((y * 16807) - (y * 16807) / 2147483647 * 2147483647) / ((s 7 4 0).toInt64) * ((s 7 4 0).toInt64)).toInt32) ) hy_X7_hasVeto hi_X7_hasVeto hs_X7_hasVeto q_484 rfl rfl (W_7 hw) rfl rfl rfl rfl rfl ⟨by decide, by decide⟩ (Nat.le_of_ble_eq_true rfl) ⟨by decide, by decide⟩ dX7_drawn_156 (V_kI ?_)
            refine V_if_ne (tgt := 178) dX7_drawn_159 (by decide) (fun c_159 => ?_) (fun c_159 => ?_)
            · refine V_iinc (v := (nI (j + 1))) (L2 := [(6, .int (nI (j + 1))), (7, .int ((((y * 16807) - (y * 16807) / 2147483647 * 2147483647) - ((y * 16807) - (y * 16807) / 2147483647 * 2147483647) / ((s 7 4 0).toInt64) * ((s 7 4 0).toInt64)).toInt32)), (4, .long ((y * 16807) - (y * 16807) / 2147483647 * 2147483647)), (0, .ref (ad 7 0 0)), (1, .int x1), (2, .int x2), (3, .int x3)]) dX7_drawn_178 6 rfl (nI_1 _) (by decide) rfl ?_
              refine V_goto (tgt := 60) dX7_drawn_181 (by decide) ?_
              refine V_rp (R2 := F_X7_drawn_60 x1 x2 x3 K n ((y * 16807) - (y * 16807) / 2147483647 * 2147483647) (j + 1) (F_X7_oneTide (wr s 7 4 ((1 : Int32) + 1).toNatClampNeg ((((y * 16807) - (y * 16807) / 2147483647 * 2147483647) - ((y * 16807) - (y * 16807) / 2147483647 * 2147483647) / 9 * 9).toInt32)))) (by simp only [F_X7_drawn_60, if_neg c_63, if_neg c_104, if_neg c_129, if_neg c_159]) ?_
              refine V_lp [3, 4, 5, 6, 2, 0] rfl ?_
              exact ih ((y * 16807) - (y * 16807) / 2147483647 * 2147483647) (j + 1) (F_X7_oneTide (wr s 7 4 ((1 : Int32) + 1).toNatClampNeg ((((y * 16807) - (y * 16807) / 2147483647 * 2147483647) - ((y * 16807) - (y * 16807) / 2147483647 * 2147483647) / 9 * 9).toInt32))) (by exact (lp_up hj c_63 hm).1) (by first | with_reducible exact okB_rk (bi_9 (rem_y hy) hB hb) (okB_tide (okB_27 (bi_9 (rem_y hy) hB hb) (okB_1 (by unfold vp_in; decide) hB))) | with_reducible exact okB_tide (okB_27 (bi_9 (rem_y hy) hB hb) (okB_1 (by unfold vp_in; decide) hB)) | with_reducible exact okB_rk (bi_9 (rem_y hy) hB hb) (okB_tide (okB_1 (by unfold vp_in; decide) hB)) | with_reducible exact okB_tide (okB_1 (by unfold vp_in; decide) hB)) (by first | (rw [rk_0 (bi_9 (rem_y hy) hB hb), F_X7_oneTide_0 (okB_27 (bi_9 (rem_y hy) hB hb) (okB_1 (by unfold vp_in; decide) hB)), wr_27 (bi_9 (rem_y hy) hB hb), wr_1 (by unfold vp_in; decide)]; exact hb) | (rw [F_X7_oneTide_0 (okB_27 (bi_9 (rem_y hy) hB hb) (okB_1 (by unfold vp_in; decide) hB)), wr_27 (bi_9 (rem_y hy) hB hb), wr_1 (by unfold vp_in; decide)]; exact hb) | (rw [rk_0 (bi_9 (rem_y hy) hB hb), F_X7_oneTide_0 (okB_1 (by unfold vp_in; decide) hB), wr_1 (by unfold vp_in; decide)]; exact hb) | (rw [F_X7_oneTide_0 (okB_1 (by unfold vp_in; decide) hB), wr_1 (by unfold vp_in; decide)]; exact hb)) (by exact rem_y hy) (by exact (lp_up hj c_63 hm).2) 
            · refine V_aload_n dX7_drawn_162 2 rfl ?_
              refine V_iload dX7_drawn_163 0 rfl ?_
              refine V_aload_n dX7_drawn_165 2 rfl ?_
              refine V_get (i := 5) inlX7 rfl (W_7 hw) rfl (by decide) q_94 rfl dX7_drawn_166 ?_
              refine V_bipush (v := 18) dX7_drawn_169 (by decide) ?_
              refine V_iload dX7_drawn_171 0 rfl ?_
              refine V_iadd dX7_drawn_173 ?_
              refine L_7_4 (W_7 hw) (by exact ix_18 (bi_9 (rem_y hy) hB hb)) dX7_drawn_174 ?_
              refine V_cV (k_X7_rakeBy l G hw (F_X7_oneTide (wr s 7 4 ((1 : Int32) + 1).toNatClampNeg ((((y * 16807) - (y * 16807) / 2147483647 * 2147483647) - ((y * 16807) - (y * 16807) / 2147483647 * 2147483647) / 9 * 9).toInt32)))  ((((y * 16807) - (y * 16807) / 2147483647 * 2147483647) - ((y * 16807) - (y * 16807) / 2147483647 * 2147483647) / ((s 7 4 0).toInt64) * ((s 7 4 0).toInt64)).toInt32) ((F_X7_oneTide (wr s 7 4 ((1 : Int32) + 1).toNatClampNeg ((((y * 16807) - (y * 16807) / 2147483647 * 2147483647) - ((y * 16807) - (y * 16807) / 2147483647 * 2147483647) / 9 * 9).toInt32))) 7 4 (18 + ((((y * 16807) - (y * 16807) / 2147483647 * 2147483647) - ((y * 16807) - (y * 16807) / 2147483647 * 2147483647) / ((s 7 4 0).toInt64) * ((s 7 4 0).toInt64)).toInt32)).toNatClampNeg) (bi_9 (rem_y hy) hB hb)) hy_X7_rakeBy hi_X7_rakeBy hs_X7_rakeBy q_491 rfl rfl (W_7 hw) rfl rfl rfl rfl rfl ⟨by decide, by decide⟩ (Nat.le_of_ble_eq_true rfl) ⟨by decide, by decide⟩ dX7_drawn_175 (V_kN ?_)
              refine V_iinc (v := (nI (j + 1))) (L2 := [(6, .int (nI (j + 1))), (7, .int ((((y * 16807) - (y * 16807) / 2147483647 * 2147483647) - ((y * 16807) - (y * 16807) / 2147483647 * 2147483647) / ((s 7 4 0).toInt64) * ((s 7 4 0).toInt64)).toInt32)), (4, .long ((y * 16807) - (y * 16807) / 2147483647 * 2147483647)), (0, .ref (ad 7 0 0)), (1, .int x1), (2, .int x2), (3, .int x3)]) dX7_drawn_178 6 rfl (nI_1 _) (by decide) rfl ?_
              refine V_goto (tgt := 60) dX7_drawn_181 (by decide) ?_
              refine V_rp (R2 := F_X7_drawn_60 x1 x2 x3 K n ((y * 16807) - (y * 16807) / 2147483647 * 2147483647) (j + 1) (F_X7_rakeBy (F_X7_oneTide (wr s 7 4 ((1 : Int32) + 1).toNatClampNeg ((((y * 16807) - (y * 16807) / 2147483647 * 2147483647) - ((y * 16807) - (y * 16807) / 2147483647 * 2147483647) / 9 * 9).toInt32))) ((((y * 16807) - (y * 16807) / 2147483647 * 2147483647) - ((y * 16807) - (y * 16807) / 2147483647 * 2147483647) / ((s 7 4 0).toInt64) * ((s 7 4 0).toInt64)).toInt32) ((F_X7_oneTide (wr s 7 4 ((1 : Int32) + 1).toNatClampNeg ((((y * 16807) - (y * 16807) / 2147483647 * 2147483647) - ((y * 16807) - (y * 16807) / 2147483647 * 2147483647) / 9 * 9).toInt32))) 7 4 (18 + ((((y * 16807) - (y * 16807) / 2147483647 * 2147483647) - ((y * 16807) - (y * 16807) / 2147483647 * 2147483647) / ((s 7 4 0).toInt64) * ((s 7 4 0).toInt64)).toInt32)).toNatClampNeg))) (by simp only [F_X7_drawn_60, if_neg c_63, if_neg c_104, if_neg c_129, if_pos c_159]) ?_
              refine V_lp [3, 4, 5, 6, 2, 0] rfl ?_
              exact ih ((y * 16807) - (y * 16807) / 2147483647 * 2147483647) (j + 1) (F_X7_rakeBy (F_X7_oneTide (wr s 7 4 ((1 : Int32) + 1).toNatClampNeg ((((y * 16807) - (y * 16807) / 2147483647 * 2147483647) - ((y * 16807) - (y * 16807) / 2147483647 * 2147483647) / 9 * 9).toInt32))) ((((y * 16807) - (y * 16807) / 2147483647 * 2147483647) - ((y * 16807) - (y * 16807) / 2147483647 * 2147483647) / ((s 7 4 0).toInt64) * ((s 7 4 0).toInt64)).toInt32) ((F_X7_oneTide (wr s 7 4 ((1 : Int32) + 1).toNatClampNeg ((((y * 16807) - (y * 16807) / 2147483647 * 2147483647) - ((y * 16807) - (y * 16807) / 2147483647 * 2147483647) / 9 * 9).toInt32))) 7 4 (18 + ((((y * 16807) - (y * 16807) / 2147483647 * 2147483647) - ((y * 16807) - (y * 16807) / 2147483647 * 2147483647) / ((s 7 4 0).toInt64) * ((s 7 4 0).toInt64)).toInt32)).toNatClampNeg)) (by exact (lp_up hj c_63 hm).1) (by first | with_reducible exact okB_rk (bi_9 (rem_y hy) hB hb) (okB_tide (okB_27 (bi_9 (rem_y hy) hB hb) (okB_1 (by unfold vp_in; decide) hB))) | with_reducible exact okB_tide (okB_27 (bi_9 (rem_y hy) hB hb) (okB_1 (by unfold vp_in; decide) hB)) | with_reducible exact okB_rk (bi_9 (rem_y hy) hB hb) (okB_tide (okB_1 (by unfold vp_in; decide) hB)) | with_reducible exact okB_tide (okB_1 (by unfold vp_in; decide) hB)) (by first | (rw [rk_0 (bi_9 (rem_y hy) hB hb), F_X7_oneTide_0 (okB_27 (bi_9 (rem_y hy) hB hb) (okB_1 (by unfold vp_in; decide) hB)), wr_27 (bi_9 (rem_y hy) hB hb), wr_1 (by unfold vp_in; decide)]; exact hb) | (rw [F_X7_oneTide_0 (okB_27 (bi_9 (rem_y hy) hB hb) (okB_1 (by unfold vp_in; decide) hB)), wr_27 (bi_9 (rem_y hy) hB hb), wr_1 (by unfold vp_in; decide)]; exact hb) | (rw [rk_0 (bi_9 (rem_y hy) hB hb), F_X7_oneTide_0 (okB_1 (by unfold vp_in; decide) hB), wr_1 (by unfold vp_in; decide)]; exact hb) | (rw [F_X7_oneTide_0 (okB_1 (by unfold vp_in; decide) hB), wr_1 (by unfold vp_in; decide)]; exact hb)) (by exact rem_y hy) (by exact (lp_up hj c_63 hm).2) 
          · refine V_aload_n dX7_drawn_132 2 rfl ?_
            refine V_get (i := 5) inlX7 rfl (W_7 hw) rfl (by decide) q_94 rfl dX7_drawn_133 ?_
            refine V_bipush (v := 27) dX7_drawn_136 (by decide) ?_
            refine V_iload dX7_drawn_138 0 rfl ?_
            refine V_iadd dX7_drawn_140 ?_
            refine V_lload dX7_drawn_141 1 rfl ?_
            refine V_ldc2 q_875 dX7_drawn_143 ?_
            refine V_lrem dX7_drawn_146 (by decide) ?_
            refine V_l2i dX7_drawn_147 ?_
            refine S_7_4 (W_7 hw) (by exact ix_27 (bi_9 (rem_y hy) hB hb)) dX7_drawn_148 ?_
            refine V_aload_n dX7_drawn_149 2 rfl ?_
            refine V_cV (k_X7_oneTide l G hw (wr (wr s 7 4 ((1 : Int32) + 1).toNatClampNeg ((((y * 16807) - (y * 16807) / 2147483647 * 2147483647) - ((y * 16807) - (y * 16807) / 2147483647 * 2147483647) / 9 * 9).toInt32)) 7 4 (27 + ((((y * 16807) - (y * 16807) / 2147483647 * 2147483647) - ((y * 16807) - (y * 16807) / 2147483647 * 2147483647) / ((s 7 4 0).toInt64) * ((s 7 4 0).toInt64)).toInt32)).toNatClampNeg ((((y * 16807) - (y * 16807) / 2147483647 * 2147483647) - ((y * 16807) - (y * 16807) / 2147483647 * 2147483647) / 10 * 10).toInt32))   (by first | with_reducible exact (okB_27 (bi_9 (rem_y hy) hB hb) (okB_1 (by unfold vp_in; decide) hB)) | with_reducible exact (okB_1 (by unfold vp_in; decide) hB))) hy_X7_oneTide hi_X7_oneTide hs_X7_oneTide q_438 rfl rfl (W_7 hw) rfl rfl rfl rfl rfl ⟨by decide, by decide⟩ (Nat.le_of_ble_eq_true rfl) ⟨by decide, by decide⟩ dX7_drawn_150 (V_kN ?_)
            refine V_aload_n dX7_drawn_153 2 rfl ?_
            refine V_iload dX7_drawn_154 0 rfl ?_
            refine V_cV (k_X7_hasVeto l G hw (F_X7_oneTide (wr (wr s 7 4 ((1 : Int32) + 1).toNatClampNeg ((((y * 16807) - (y * 16807) / 2147483647 * 2147483647) - ((y * 16807) - (y * 16807) / 2147483647 * 2147483647) / 9 * 9).toInt32)) 7 4 (27 + ((((y * 16807) - (y * 16807) / 2147483647 * 2147483647) - ((y * 16807) - (y * 16807) / 2147483647 * 2147483647) / ((s 7 4 0).toInt64) * ((s 7 4 0).toInt64)).toInt32)).toNatClampNeg ((((y * 16807) - (y * 16807) / 2147483647 * 2147483647) - ((y * 16807) - (y * 16807) / 2147483647 * 2147483647) / 10 * 10).toInt32)))  ((((y * 16807) - (y * 16807) / 2147483647 * 2147483647) - ((y * 16807) - (y * 16807) / 2147483647 * 2147483647) / ((s 7 4 0).toInt64) * ((s 7 4 0).toInt64)).toInt32) ) hy_X7_hasVeto hi_X7_hasVeto hs_X7_hasVeto q_484 rfl rfl (W_7 hw) rfl rfl rfl rfl rfl ⟨by decide, by decide⟩ (Nat.le_of_ble_eq_true rfl) ⟨by decide, by decide⟩ dX7_drawn_156 (V_kI ?_)
            refine V_if_ne (tgt := 178) dX7_drawn_159 (by decide) (fun c_159 => ?_) (fun c_159 => ?_)
            · refine V_iinc (v := (nI (j + 1))) (L2 := [(6, .int (nI (j + 1))), (7, .int ((((y * 16807) - (y * 16807) / 2147483647 * 2147483647) - ((y * 16807) - (y * 16807) / 2147483647 * 2147483647) / ((s 7 4 0).toInt64) * ((s 7 4 0).toInt64)).toInt32)), (4, .long ((y * 16807) - (y * 16807) / 2147483647 * 2147483647)), (0, .ref (ad 7 0 0)), (1, .int x1), (2, .int x2), (3, .int x3)]) dX7_drawn_178 6 rfl (nI_1 _) (by decide) rfl ?_
              refine V_goto (tgt := 60) dX7_drawn_181 (by decide) ?_
              refine V_rp (R2 := F_X7_drawn_60 x1 x2 x3 K n ((y * 16807) - (y * 16807) / 2147483647 * 2147483647) (j + 1) (F_X7_oneTide (wr (wr s 7 4 ((1 : Int32) + 1).toNatClampNeg ((((y * 16807) - (y * 16807) / 2147483647 * 2147483647) - ((y * 16807) - (y * 16807) / 2147483647 * 2147483647) / 9 * 9).toInt32)) 7 4 (27 + ((((y * 16807) - (y * 16807) / 2147483647 * 2147483647) - ((y * 16807) - (y * 16807) / 2147483647 * 2147483647) / ((s 7 4 0).toInt64) * ((s 7 4 0).toInt64)).toInt32)).toNatClampNeg ((((y * 16807) - (y * 16807) / 2147483647 * 2147483647) - ((y * 16807) - (y * 16807) / 2147483647 * 2147483647) / 10 * 10).toInt32)))) (by simp only [F_X7_drawn_60, if_neg c_63, if_neg c_104, if_pos c_129, if_neg c_159]) ?_
              refine V_lp [3, 4, 5, 6, 2, 0] rfl ?_
              exact ih ((y * 16807) - (y * 16807) / 2147483647 * 2147483647) (j + 1) (F_X7_oneTide (wr (wr s 7 4 ((1 : Int32) + 1).toNatClampNeg ((((y * 16807) - (y * 16807) / 2147483647 * 2147483647) - ((y * 16807) - (y * 16807) / 2147483647 * 2147483647) / 9 * 9).toInt32)) 7 4 (27 + ((((y * 16807) - (y * 16807) / 2147483647 * 2147483647) - ((y * 16807) - (y * 16807) / 2147483647 * 2147483647) / ((s 7 4 0).toInt64) * ((s 7 4 0).toInt64)).toInt32)).toNatClampNeg ((((y * 16807) - (y * 16807) / 2147483647 * 2147483647) - ((y * 16807) - (y * 16807) / 2147483647 * 2147483647) / 10 * 10).toInt32))) (by exact (lp_up hj c_63 hm).1) (by first | with_reducible exact okB_rk (bi_9 (rem_y hy) hB hb) (okB_tide (okB_27 (bi_9 (rem_y hy) hB hb) (okB_1 (by unfold vp_in; decide) hB))) | with_reducible exact okB_tide (okB_27 (bi_9 (rem_y hy) hB hb) (okB_1 (by unfold vp_in; decide) hB)) | with_reducible exact okB_rk (bi_9 (rem_y hy) hB hb) (okB_tide (okB_1 (by unfold vp_in; decide) hB)) | with_reducible exact okB_tide (okB_1 (by unfold vp_in; decide) hB)) (by first | (rw [rk_0 (bi_9 (rem_y hy) hB hb), F_X7_oneTide_0 (okB_27 (bi_9 (rem_y hy) hB hb) (okB_1 (by unfold vp_in; decide) hB)), wr_27 (bi_9 (rem_y hy) hB hb), wr_1 (by unfold vp_in; decide)]; exact hb) | (rw [F_X7_oneTide_0 (okB_27 (bi_9 (rem_y hy) hB hb) (okB_1 (by unfold vp_in; decide) hB)), wr_27 (bi_9 (rem_y hy) hB hb), wr_1 (by unfold vp_in; decide)]; exact hb) | (rw [rk_0 (bi_9 (rem_y hy) hB hb), F_X7_oneTide_0 (okB_1 (by unfold vp_in; decide) hB), wr_1 (by unfold vp_in; decide)]; exact hb) | (rw [F_X7_oneTide_0 (okB_1 (by unfold vp_in; decide) hB), wr_1 (by unfold vp_in; decide)]; exact hb)) (by exact rem_y hy) (by exact (lp_up hj c_63 hm).2) 
            · refine V_aload_n dX7_drawn_162 2 rfl ?_
              refine V_iload dX7_drawn_163 0 rfl ?_
              refine V_aload_n dX7_drawn_165 2 rfl ?_
              refine V_get (i := 5) inlX7 rfl (W_7 hw) rfl (by decide) q_94 rfl dX7_drawn_166 ?_
              refine V_bipush (v := 18) dX7_drawn_169 (by decide) ?_
              refine V_iload dX7_drawn_171 0 rfl ?_
              refine V_iadd dX7_drawn_173 ?_
              refine L_7_4 (W_7 hw) (by exact ix_18 (bi_9 (rem_y hy) hB hb)) dX7_drawn_174 ?_
              refine V_cV (k_X7_rakeBy l G hw (F_X7_oneTide (wr (wr s 7 4 ((1 : Int32) + 1).toNatClampNeg ((((y * 16807) - (y * 16807) / 2147483647 * 2147483647) - ((y * 16807) - (y * 16807) / 2147483647 * 2147483647) / 9 * 9).toInt32)) 7 4 (27 + ((((y * 16807) - (y * 16807) / 2147483647 * 2147483647) - ((y * 16807) - (y * 16807) / 2147483647 * 2147483647) / ((s 7 4 0).toInt64) * ((s 7 4 0).toInt64)).toInt32)).toNatClampNeg ((((y * 16807) - (y * 16807) / 2147483647 * 2147483647) - ((y * 16807) - (y * 16807) / 2147483647 * 2147483647) / 10 * 10).toInt32)))  ((((y * 16807) - (y * 16807) / 2147483647 * 2147483647) - ((y * 16807) - (y * 16807) / 2147483647 * 2147483647) / ((s 7 4 0).toInt64) * ((s 7 4 0).toInt64)).toInt32) ((F_X7_oneTide (wr (wr s 7 4 ((1 : Int32) + 1).toNatClampNeg ((((y * 16807) - (y * 16807) / 2147483647 * 2147483647) - ((y * 16807) - (y * 16807) / 2147483647 * 2147483647) / 9 * 9).toInt32)) 7 4 (27 + ((((y * 16807) - (y * 16807) / 2147483647 * 2147483647) - ((y * 16807) - (y * 16807) / 2147483647 * 2147483647) / ((s 7 4 0).toInt64) * ((s 7 4 0).toInt64)).toInt32)).toNatClampNeg ((((y * 16807) - (y * 16807) / 2147483647 * 2147483647) - ((y * 16807) - (y * 16807) / 2147483647 * 2147483647) / 10 * 10).toInt32))) 7 4 (18 + ((((y * 16807) - (y * 16807) / 2147483647 * 2147483647) - ((y * 16807) - (y * 16807) / 2147483647 * 2147483647) / ((s 7 4 0).toInt64) * ((s 7 4 0).toInt64)).toInt32)).toNatClampNeg) (bi_9 (rem_y hy) hB hb)) hy_X7_rakeBy hi_X7_rakeBy hs_X7_rakeBy q_491 rfl rfl (W_7 hw) rfl rfl rfl rfl rfl ⟨by decide, by decide⟩ (Nat.le_of_ble_eq_true rfl) ⟨by decide, by decide⟩ dX7_drawn_175 (V_kN ?_)
              refine V_iinc (v := (nI (j + 1))) (L2 := [(6, .int (nI (j + 1))), (7, .int ((((y * 16807) - (y * 16807) / 2147483647 * 2147483647) - ((y * 16807) - (y * 16807) / 2147483647 * 2147483647) / ((s 7 4 0).toInt64) * ((s 7 4 0).toInt64)).toInt32)), (4, .long ((y * 16807) - (y * 16807) / 2147483647 * 2147483647)), (0, .ref (ad 7 0 0)), (1, .int x1), (2, .int x2), (3, .int x3)]) dX7_drawn_178 6 rfl (nI_1 _) (by decide) rfl ?_
              refine V_goto (tgt := 60) dX7_drawn_181 (by decide) ?_
              refine V_rp (R2 := F_X7_drawn_60 x1 x2 x3 K n ((y * 16807) - (y * 16807) / 2147483647 * 2147483647) (j + 1) (F_X7_rakeBy (F_X7_oneTide (wr (wr s 7 4 ((1 : Int32) + 1).toNatClampNeg ((((y * 16807) - (y * 16807) / 2147483647 * 2147483647) - ((y * 16807) - (y * 16807) / 2147483647 * 2147483647) / 9 * 9).toInt32)) 7 4 (27 + ((((y * 16807) - (y * 16807) / 2147483647 * 2147483647) - ((y * 16807) - (y * 16807) / 2147483647 * 2147483647) / ((s 7 4 0).toInt64) * ((s 7 4 0).toInt64)).toInt32)).toNatClampNeg ((((y * 16807) - (y * 16807) / 2147483647 * 2147483647) - ((y * 16807) - (y * 16807) / 2147483647 * 2147483647) / 10 * 10).toInt32))) ((((y * 16807) - (y * 16807) / 2147483647 * 2147483647) - ((y * 16807) - (y * 16807) / 2147483647 * 2147483647) / ((s 7 4 0).toInt64) * ((s 7 4 0).toInt64)).toInt32) ((F_X7_oneTide (wr (wr s 7 4 ((1 : Int32) + 1).toNatClampNeg ((((y * 16807) - (y * 16807) / 2147483647 * 2147483647) - ((y * 16807) - (y * 16807) / 2147483647 * 2147483647) / 9 * 9).toInt32)) 7 4 (27 + ((((y * 16807) - (y * 16807) / 2147483647 * 2147483647) - ((y * 16807) - (y * 16807) / 2147483647 * 2147483647) / ((s 7 4 0).toInt64) * ((s 7 4 0).toInt64)).toInt32)).toNatClampNeg ((((y * 16807) - (y * 16807) / 2147483647 * 2147483647) - ((y * 16807) - (y * 16807) / 2147483647 * 2147483647) / 10 * 10).toInt32))) 7 4 (18 + ((((y * 16807) - (y * 16807) / 2147483647 * 2147483647) - ((y * 16807) - (y * 16807) / 2147483647 * 2147483647) / ((s 7 4 0).toInt64) * ((s 7 4 0).toInt64)).toInt32)).toNatClampNeg))) (by simp only [F_X7_drawn_60, if_neg c_63, if_neg c_104, if_pos c_129, if_pos c_159]) ?_
              refine V_lp [3, 4, 5, 6, 2, 0] rfl ?_
              exact ih ((y * 16807) - (y * 16807) / 2147483647 * 2147483647) (j + 1) (F_X7_rakeBy (F_X7_oneTide (wr (wr s 7 4 ((1 : Int32) + 1).toNatClampNeg ((((y * 16807) - (y * 16807) / 2147483647 * 2147483647) - ((y * 16807) - (y * 16807) / 2147483647 * 2147483647) / 9 * 9).toInt32)) 7 4 (27 + ((((y * 16807) - (y * 16807) / 2147483647 * 2147483647) - ((y * 16807) - (y * 16807) / 2147483647 * 2147483647) / ((s 7 4 0).toInt64) * ((s 7 4 0).toInt64)).toInt32)).toNatClampNeg ((((y * 16807) - (y * 16807) / 2147483647 * 2147483647) - ((y * 16807) - (y * 16807) / 2147483647 * 2147483647) / 10 * 10).toInt32))) ((((y * 16807) - (y * 16807) / 2147483647 * 2147483647) - ((y * 16807) - (y * 16807) / 2147483647 * 2147483647) / ((s 7 4 0).toInt64) * ((s 7 4 0).toInt64)).toInt32) ((F_X7_oneTide (wr (wr s 7 4 ((1 : Int32) + 1).toNatClampNeg ((((y * 16807) - (y * 16807) / 2147483647 * 2147483647) - ((y * 16807) - (y * 16807) / 2147483647 * 2147483647) / 9 * 9).toInt32)) 7 4 (27 + ((((y * 16807) - (y * 16807) / 2147483647 * 2147483647) - ((y * 16807) - (y * 16807) / 2147483647 * 2147483647) / ((s 7 4 0).toInt64) * ((s 7 4 0).toInt64)).toInt32)).toNatClampNeg ((((y * 16807) - (y * 16807) / 2147483647 * 2147483647) - ((y * 16807) - (y * 16807) / 2147483647 * 2147483647) / 10 * 10).toInt32))) 7 4 (18 + ((((y * 16807) - (y * 16807) / 2147483647 * 2147483647) - ((y * 16807) - (y * 16807) / 2147483647 * 2147483647) / ((s 7 4 0).toInt64) * ((s 7 4 0).toInt64)).toInt32)).toNatClampNeg)) (by exact (lp_up hj c_63 hm).1) (by first | with_reducible exact okB_rk (bi_9 (rem_y hy) hB hb) (okB_tide (okB_27 (bi_9 (rem_y hy) hB hb) (okB_1 (by unfold vp_in; decide) hB))) | with_reducible exact okB_tide (okB_27 (bi_9 (rem_y hy) hB hb) (okB_1 (by unfold vp_in; decide) hB)) | with_reducible exact okB_rk (bi_9 (rem_y hy) hB hb) (okB_tide (okB_1 (by unfold vp_in; decide) hB)) | with_reducible exact okB_tide (okB_1 (by unfold vp_in; decide) hB)) (by first | (rw [rk_0 (bi_9 (rem_y hy) hB hb), F_X7_oneTide_0 (okB_27 (bi_9 (rem_y hy) hB hb) (okB_1 (by unfold vp_in; decide) hB)), wr_27 (bi_9 (rem_y hy) hB hb), wr_1 (by unfold vp_in; decide)]; exact hb) | (rw [F_X7_oneTide_0 (okB_27 (bi_9 (rem_y hy) hB hb) (okB_1 (by unfold vp_in; decide) hB)), wr_27 (bi_9 (rem_y hy) hB hb), wr_1 (by unfold vp_in; decide)]; exact hb) | (rw [rk_0 (bi_9 (rem_y hy) hB hb), F_X7_oneTide_0 (okB_1 (by unfold vp_in; decide) hB), wr_1 (by unfold vp_in; decide)]; exact hb) | (rw [F_X7_oneTide_0 (okB_1 (by unfold vp_in; decide) hB), wr_1 (by unfold vp_in; decide)]; exact hb)) (by exact rem_y hy) (by exact (lp_up hj c_63 hm).2) 
        · refine V_iconst (v := 0) dX7_drawn_107 (by decide) ?_
          refine V_goto (tgt := 112) dX7_drawn_108 (by decide) ?_
          refine V_iadd dX7_drawn_112 ?_
          refine V_lload dX7_drawn_113 1 rfl ?_
          refine V_ldc2 q_511 dX7_drawn_115 ?_
          refine V_lrem dX7_drawn_118 (by decide) ?_
          refine V_l2i dX7_drawn_119 ?_
          refine S_7_4 (W_7 hw) (by unfold vp_in; decide) dX7_drawn_120 ?_
          refine V_lload dX7_drawn_121 1 rfl ?_
          refine V_ldc2 q_556 dX7_drawn_123 ?_
          refine V_lrem dX7_drawn_126 (by decide) ?_
          refine V_lconst (v := 0) dX7_drawn_127 (by decide) ?_
          refine V_lcmp dX7_drawn_128 ?_
          refine V_if_ne (tgt := 149) dX7_drawn_129 (by decide) (fun c_129 => ?_) (fun c_129 => ?_)
          · refine V_aload_n dX7_drawn_149 2 rfl ?_
            refine V_cV (k_X7_oneTide l G hw (wr s 7 4 ((1 : Int32) + 0).toNatClampNeg ((((y * 16807) - (y * 16807) / 2147483647 * 2147483647) - ((y * 16807) - (y * 16807) / 2147483647 * 2147483647) / 9 * 9).toInt32))   (by first | with_reducible exact (okB_27 (bi_9 (rem_y hy) hB hb) (okB_1 (by unfold vp_in; decide) hB)) | with_reducible exact (okB_1 (by unfold vp_in; decide) hB))) hy_X7_oneTide hi_X7_oneTide hs_X7_oneTide q_438 rfl rfl (W_7 hw) rfl rfl rfl rfl rfl ⟨by decide, by decide⟩ (Nat.le_of_ble_eq_true rfl) ⟨by decide, by decide⟩ dX7_drawn_150 (V_kN ?_)
            refine V_aload_n dX7_drawn_153 2 rfl ?_
            refine V_iload dX7_drawn_154 0 rfl ?_
            refine V_cV (k_X7_hasVeto l G hw (F_X7_oneTide (wr s 7 4 ((1 : Int32) + 0).toNatClampNeg ((((y * 16807) - (y * 16807) / 2147483647 * 2147483647) - ((y * 16807) - (y * 16807) / 2147483647 * 2147483647) / 9 * 9).toInt32)))  ((((y * 16807) - (y * 16807) / 2147483647 * 2147483647) - ((y * 16807) - (y * 16807) / 2147483647 * 2147483647) / ((s 7 4 0).toInt64) * ((s 7 4 0).toInt64)).toInt32) ) hy_X7_hasVeto hi_X7_hasVeto hs_X7_hasVeto q_484 rfl rfl (W_7 hw) rfl rfl rfl rfl rfl ⟨by decide, by decide⟩ (Nat.le_of_ble_eq_true rfl) ⟨by decide, by decide⟩ dX7_drawn_156 (V_kI ?_)
            refine V_if_ne (tgt := 178) dX7_drawn_159 (by decide) (fun c_159 => ?_) (fun c_159 => ?_)
            · refine V_iinc (v := (nI (j + 1))) (L2 := [(6, .int (nI (j + 1))), (7, .int ((((y * 16807) - (y * 16807) / 2147483647 * 2147483647) - ((y * 16807) - (y * 16807) / 2147483647 * 2147483647) / ((s 7 4 0).toInt64) * ((s 7 4 0).toInt64)).toInt32)), (4, .long ((y * 16807) - (y * 16807) / 2147483647 * 2147483647)), (0, .ref (ad 7 0 0)), (1, .int x1), (2, .int x2), (3, .int x3)]) dX7_drawn_178 6 rfl (nI_1 _) (by decide) rfl ?_
              refine V_goto (tgt := 60) dX7_drawn_181 (by decide) ?_
              refine V_rp (R2 := F_X7_drawn_60 x1 x2 x3 K n ((y * 16807) - (y * 16807) / 2147483647 * 2147483647) (j + 1) (F_X7_oneTide (wr s 7 4 ((1 : Int32) + 0).toNatClampNeg ((((y * 16807) - (y * 16807) / 2147483647 * 2147483647) - ((y * 16807) - (y * 16807) / 2147483647 * 2147483647) / 9 * 9).toInt32)))) (by simp only [F_X7_drawn_60, if_neg c_63, if_pos c_104, if_neg c_129, if_neg c_159]) ?_
              refine V_lp [3, 4, 5, 6, 2, 0] rfl ?_
              exact ih ((y * 16807) - (y * 16807) / 2147483647 * 2147483647) (j + 1) (F_X7_oneTide (wr s 7 4 ((1 : Int32) + 0).toNatClampNeg ((((y * 16807) - (y * 16807) / 2147483647 * 2147483647) - ((y * 16807) - (y * 16807) / 2147483647 * 2147483647) / 9 * 9).toInt32))) (by exact (lp_up hj c_63 hm).1) (by first | with_reducible exact okB_rk (bi_9 (rem_y hy) hB hb) (okB_tide (okB_27 (bi_9 (rem_y hy) hB hb) (okB_1 (by unfold vp_in; decide) hB))) | with_reducible exact okB_tide (okB_27 (bi_9 (rem_y hy) hB hb) (okB_1 (by unfold vp_in; decide) hB)) | with_reducible exact okB_rk (bi_9 (rem_y hy) hB hb) (okB_tide (okB_1 (by unfold vp_in; decide) hB)) | with_reducible exact okB_tide (okB_1 (by unfold vp_in; decide) hB)) (by first | (rw [rk_0 (bi_9 (rem_y hy) hB hb), F_X7_oneTide_0 (okB_27 (bi_9 (rem_y hy) hB hb) (okB_1 (by unfold vp_in; decide) hB)), wr_27 (bi_9 (rem_y hy) hB hb), wr_1 (by unfold vp_in; decide)]; exact hb) | (rw [F_X7_oneTide_0 (okB_27 (bi_9 (rem_y hy) hB hb) (okB_1 (by unfold vp_in; decide) hB)), wr_27 (bi_9 (rem_y hy) hB hb), wr_1 (by unfold vp_in; decide)]; exact hb) | (rw [rk_0 (bi_9 (rem_y hy) hB hb), F_X7_oneTide_0 (okB_1 (by unfold vp_in; decide) hB), wr_1 (by unfold vp_in; decide)]; exact hb) | (rw [F_X7_oneTide_0 (okB_1 (by unfold vp_in; decide) hB), wr_1 (by unfold vp_in; decide)]; exact hb)) (by exact rem_y hy) (by exact (lp_up hj c_63 hm).2) 
            · refine V_aload_n dX7_drawn_162 2 rfl ?_
              refine V_iload dX7_drawn_163 0 rfl ?_
              refine V_aload_n dX7_drawn_165 2 rfl ?_
              refine V_get (i := 5) inlX7 rfl (W_7 hw) rfl (by decide) q_94 rfl dX7_drawn_166 ?_
              refine V_bipush (v := 18) dX7_drawn_169 (by decide) ?_
              refine V_iload dX7_drawn_171 0 rfl ?_
              refine V_iadd dX7_drawn_173 ?_
              refine L_7_4 (W_7 hw) (by exact ix_18 (bi_9 (rem_y hy) hB hb)) dX7_drawn_174 ?_
              refine V_cV (k_X7_rakeBy l G hw (F_X7_oneTide (wr s 7 4 ((1 : Int32) + 0).toNatClampNeg ((((y * 16807) - (y * 16807) / 2147483647 * 2147483647) - ((y * 16807) - (y * 16807) / 2147483647 * 2147483647) / 9 * 9).toInt32)))  ((((y * 16807) - (y * 16807) / 2147483647 * 2147483647) - ((y * 16807) - (y * 16807) / 2147483647 * 2147483647) / ((s 7 4 0).toInt64) * ((s 7 4 0).toInt64)).toInt32) ((F_X7_oneTide (wr s 7 4 ((1 : Int32) + 0).toNatClampNeg ((((y * 16807) - (y * 16807) / 2147483647 * 2147483647) - ((y * 16807) - (y * 16807) / 2147483647 * 2147483647) / 9 * 9).toInt32))) 7 4 (18 + ((((y * 16807) - (y * 16807) / 2147483647 * 2147483647) - ((y * 16807) - (y * 16807) / 2147483647 * 2147483647) / ((s 7 4 0).toInt64) * ((s 7 4 0).toInt64)).toInt32)).toNatClampNeg) (bi_9 (rem_y hy) hB hb)) hy_X7_rakeBy hi_X7_rakeBy hs_X7_rakeBy q_491 rfl rfl (W_7 hw) rfl rfl rfl rfl rfl ⟨by decide, by decide⟩ (Nat.le_of_ble_eq_true rfl) ⟨by decide, by decide⟩ dX7_drawn_175 (V_kN ?_)
              refine V_iinc (v := (nI (j + 1))) (L2 := [(6, .int (nI (j + 1))), (7, .int ((((y * 16807) - (y * 16807) / 2147483647 * 2147483647) - ((y * 16807) - (y * 16807) / 2147483647 * 2147483647) / ((s 7 4 0).toInt64) * ((s 7 4 0).toInt64)).toInt32)), (4, .long ((y * 16807) - (y * 16807) / 2147483647 * 2147483647)), (0, .ref (ad 7 0 0)), (1, .int x1), (2, .int x2), (3, .int x3)]) dX7_drawn_178 6 rfl (nI_1 _) (by decide) rfl ?_
              refine V_goto (tgt := 60) dX7_drawn_181 (by decide) ?_
              refine V_rp (R2 := F_X7_drawn_60 x1 x2 x3 K n ((y * 16807) - (y * 16807) / 2147483647 * 2147483647) (j + 1) (F_X7_rakeBy (F_X7_oneTide (wr s 7 4 ((1 : Int32) + 0).toNatClampNeg ((((y * 16807) - (y * 16807) / 2147483647 * 2147483647) - ((y * 16807) - (y * 16807) / 2147483647 * 2147483647) / 9 * 9).toInt32))) ((((y * 16807) - (y * 16807) / 2147483647 * 2147483647) - ((y * 16807) - (y * 16807) / 2147483647 * 2147483647) / ((s 7 4 0).toInt64) * ((s 7 4 0).toInt64)).toInt32) ((F_X7_oneTide (wr s 7 4 ((1 : Int32) + 0).toNatClampNeg ((((y * 16807) - (y * 16807) / 2147483647 * 2147483647) - ((y * 16807) - (y * 16807) / 2147483647 * 2147483647) / 9 * 9).toInt32))) 7 4 (18 + ((((y * 16807) - (y * 16807) / 2147483647 * 2147483647) - ((y * 16807) - (y * 16807) / 2147483647 * 2147483647) / ((s 7 4 0).toInt64) * ((s 7 4 0).toInt64)).toInt32)).toNatClampNeg))) (by simp only [F_X7_drawn_60, if_neg c_63, if_pos c_104, if_neg c_129, if_pos c_159]) ?_
              refine V_lp [3, 4, 5, 6, 2, 0] rfl ?_
              exact ih ((y * 16807) - (y * 16807) / 2147483647 * 2147483647) (j + 1) (F_X7_rakeBy (F_X7_oneTide (wr s 7 4 ((1 : Int32) + 0).toNatClampNeg ((((y * 16807) - (y * 16807) / 2147483647 * 2147483647) - ((y * 16807) - (y * 16807) / 2147483647 * 2147483647) / 9 * 9).toInt32))) ((((y * 16807) - (y * 16807) / 2147483647 * 2147483647) - ((y * 16807) - (y * 16807) / 2147483647 * 2147483647) / ((s 7 4 0).toInt64) * ((s 7 4 0).toInt64)).toInt32) ((F_X7_oneTide (wr s 7 4 ((1 : Int32) + 0).toNatClampNeg ((((y * 16807) - (y * 16807) / 2147483647 * 2147483647) - ((y * 16807) - (y * 16807) / 2147483647 * 2147483647) / 9 * 9).toInt32))) 7 4 (18 + ((((y * 16807) - (y * 16807) / 2147483647 * 2147483647) - ((y * 16807) - (y * 16807) / 2147483647 * 2147483647) / ((s 7 4 0).toInt64) * ((s 7 4 0).toInt64)).toInt32)).toNatClampNeg)) (by exact (lp_up hj c_63 hm).1) (by first | with_reducible exact okB_rk (bi_9 (rem_y hy) hB hb) (okB_tide (okB_27 (bi_9 (rem_y hy) hB hb) (okB_1 (by unfold vp_in; decide) hB))) | with_reducible exact okB_tide (okB_27 (bi_9 (rem_y hy) hB hb) (okB_1 (by unfold vp_in; decide) hB)) | with_reducible exact okB_rk (bi_9 (rem_y hy) hB hb) (okB_tide (okB_1 (by unfold vp_in; decide) hB)) | with_reducible exact okB_tide (okB_1 (by unfold vp_in; decide) hB)) (by first | (rw [rk_0 (bi_9 (rem_y hy) hB hb), F_X7_oneTide_0 (okB_27 (bi_9 (rem_y hy) hB hb) (okB_1 (by unfold vp_in; decide) hB)), wr_27 (bi_9 (rem_y hy) hB hb), wr_1 (by unfold vp_in; decide)]; exact hb) | (rw [F_X7_oneTide_0 (okB_27 (bi_9 (rem_y hy) hB hb) (okB_1 (by unfold vp_in; decide) hB)), wr_27 (bi_9 (rem_y hy) hB hb), wr_1 (by unfold vp_in; decide)]; exact hb) | (rw [rk_0 (bi_9 (rem_y hy) hB hb), F_X7_oneTide_0 (okB_1 (by unfold vp_in; decide) hB), wr_1 (by unfold vp_in; decide)]; exact hb) | (rw [F_X7_oneTide_0 (okB_1 (by unfold vp_in; decide) hB), wr_1 (by unfold vp_in; decide)]; exact hb)) (by exact rem_y hy) (by exact (lp_up hj c_63 hm).2) 
          · refine V_aload_n dX7_drawn_132 2 rfl ?_
            refine V_get (i := 5) inlX7 rfl (W_7 hw) rfl (by decide) q_94 rfl dX7_drawn_133 ?_
            refine V_bipush (v := 27) dX7_drawn_136 (by decide) ?_
            refine V_iload dX7_drawn_138 0 rfl ?_
            refine V_iadd dX7_drawn_140 ?_
            refine V_lload dX7_drawn_141 1 rfl ?_
            refine V_ldc2 q_875 dX7_drawn_143 ?_
            refine V_lrem dX7_drawn_146 (by decide) ?_
            refine V_l2i dX7_drawn_147 ?_
            refine S_7_4 (W_7 hw) (by exact ix_27 (bi_9 (rem_y hy) hB hb)) dX7_drawn_148 ?_
            refine V_aload_n dX7_drawn_149 2 rfl ?_
            refine V_cV (k_X7_oneTide l G hw (wr (wr s 7 4 ((1 : Int32) + 0).toNatClampNeg ((((y * 16807) - (y * 16807) / 2147483647 * 2147483647) - ((y * 16807) - (y * 16807) / 2147483647 * 2147483647) / 9 * 9).toInt32)) 7 4 (27 + ((((y * 16807) - (y * 16807) / 2147483647 * 2147483647) - ((y * 16807) - (y * 16807) / 2147483647 * 2147483647) / ((s 7 4 0).toInt64) * ((s 7 4 0).toInt64)).toInt32)).toNatClampNeg ((((y * 16807) - (y * 16807) / 2147483647 * 2147483647) - ((y * 16807) - (y * 16807) / 2147483647 * 2147483647) / 10 * 10).toInt32))   (by first | with_reducible exact (okB_27 (bi_9 (rem_y hy) hB hb) (okB_1 (by unfold vp_in; decide) hB)) | with_reducible exact (okB_1 (by unfold vp_in; decide) hB))) hy_X7_oneTide hi_X7_oneTide hs_X7_oneTide q_438 rfl rfl (W_7 hw) rfl rfl rfl rfl rfl ⟨by decide, by decide⟩ (Nat.le_of_ble_eq_true rfl) ⟨by decide, by decide⟩ dX7_drawn_150 (V_kN ?_)
            refine V_aload_n dX7_drawn_153 2 rfl ?_
            refine V_iload dX7_drawn_154 0 rfl ?_
            refine V_cV (k_X7_hasVeto l G hw (F_X7_oneTide (wr (wr s 7 4 ((1 : Int32) + 0).toNatClampNeg ((((y * 16807) - (y * 16807) / 2147483647 * 2147483647) - ((y * 16807) - (y * 16807) / 2147483647 * 2147483647) / 9 * 9).toInt32)) 7 4 (27 + ((((y * 16807) - (y * 16807) / 2147483647 * 2147483647) - ((y * 16807) - (y * 16807) / 2147483647 * 2147483647) / ((s 7 4 0).toInt64) * ((s 7 4 0).toInt64)).toInt32)).toNatClampNeg ((((y * 16807) - (y * 16807) / 2147483647 * 2147483647) - ((y * 16807) - (y * 16807) / 2147483647 * 2147483647) / 10 * 10).toInt32)))  ((((y * 16807) - (y * 16807) / 2147483647 * 2147483647) - ((y * 16807) - (y * 16807) / 2147483647 * 2147483647) / ((s 7 4 0).toInt64) * ((s 7 4 0).toInt64)).toInt32) ) hy_X7_hasVeto hi_X7_hasVeto hs_X7_hasVeto q_484 rfl rfl (W_7 hw) rfl rfl rfl rfl rfl ⟨by decide, by decide⟩ (Nat.le_of_ble_eq_true rfl) ⟨by decide, by decide⟩ dX7_drawn_156 (V_kI ?_)
            refine V_if_ne (tgt := 178) dX7_drawn_159 (by decide) (fun c_159 => ?_) (fun c_159 => ?_)
            · refine V_iinc (v := (nI (j + 1))) (L2 := [(6, .int (nI (j + 1))), (7, .int ((((y * 16807) - (y * 16807) / 2147483647 * 2147483647) - ((y * 16807) - (y * 16807) / 2147483647 * 2147483647) / ((s 7 4 0).toInt64) * ((s 7 4 0).toInt64)).toInt32)), (4, .long ((y * 16807) - (y * 16807) / 2147483647 * 2147483647)), (0, .ref (ad 7 0 0)), (1, .int x1), (2, .int x2), (3, .int x3)]) dX7_drawn_178 6 rfl (nI_1 _) (by decide) rfl ?_
              refine V_goto (tgt := 60) dX7_drawn_181 (by decide) ?_
              refine V_rp (R2 := F_X7_drawn_60 x1 x2 x3 K n ((y * 16807) - (y * 16807) / 2147483647 * 2147483647) (j + 1) (F_X7_oneTide (wr (wr s 7 4 ((1 : Int32) + 0).toNatClampNeg ((((y * 16807) - (y * 16807) / 2147483647 * 2147483647) - ((y * 16807) - (y * 16807) / 2147483647 * 2147483647) / 9 * 9).toInt32)) 7 4 (27 + ((((y * 16807) - (y * 16807) / 2147483647 * 2147483647) - ((y * 16807) - (y * 16807) / 2147483647 * 2147483647) / ((s 7 4 0).toInt64) * ((s 7 4 0).toInt64)).toInt32)).toNatClampNeg ((((y * 16807) - (y * 16807) / 2147483647 * 2147483647) - ((y * 16807) - (y * 16807) / 2147483647 * 2147483647) / 10 * 10).toInt32)))) (by simp only [F_X7_drawn_60, if_neg c_63, if_pos c_104, if_pos c_129, if_neg c_159]) ?_
              refine V_lp [3, 4, 5, 6, 2, 0] rfl ?_
              exact ih ((y * 16807) - (y * 16807) / 2147483647 * 2147483647) (j + 1) (F_X7_oneTide (wr (wr s 7 4 ((1 : Int32) + 0).toNatClampNeg ((((y * 16807) - (y * 16807) / 2147483647 * 2147483647) - ((y * 16807) - (y * 16807) / 2147483647 * 2147483647) / 9 * 9).toInt32)) 7 4 (27 + ((((y * 16807) - (y * 16807) / 2147483647 * 2147483647) - ((y * 16807) - (y * 16807) / 2147483647 * 2147483647) / ((s 7 4 0).toInt64) * ((s 7 4 0).toInt64)).toInt32)).toNatClampNeg ((((y * 16807) - (y * 16807) / 2147483647 * 2147483647) - ((y * 16807) - (y * 16807) / 2147483647 * 2147483647) / 10 * 10).toInt32))) (by exact (lp_up hj c_63 hm).1) (by first | with_reducible exact okB_rk (bi_9 (rem_y hy) hB hb) (okB_tide (okB_27 (bi_9 (rem_y hy) hB hb) (okB_1 (by unfold vp_in; decide) hB))) | with_reducible exact okB_tide (okB_27 (bi_9 (rem_y hy) hB hb) (okB_1 (by unfold vp_in; decide) hB)) | with_reducible exact okB_rk (bi_9 (rem_y hy) hB hb) (okB_tide (okB_1 (by unfold vp_in; decide) hB)) | with_reducible exact okB_tide (okB_1 (by unfold vp_in; decide) hB)) (by first | (rw [rk_0 (bi_9 (rem_y hy) hB hb), F_X7_oneTide_0 (okB_27 (bi_9 (rem_y hy) hB hb) (okB_1 (by unfold vp_in; decide) hB)), wr_27 (bi_9 (rem_y hy) hB hb), wr_1 (by unfold vp_in; decide)]; exact hb) | (rw [F_X7_oneTide_0 (okB_27 (bi_9 (rem_y hy) hB hb) (okB_1 (by unfold vp_in; decide) hB)), wr_27 (bi_9 (rem_y hy) hB hb), wr_1 (by unfold vp_in; decide)]; exact hb) | (rw [rk_0 (bi_9 (rem_y hy) hB hb), F_X7_oneTide_0 (okB_1 (by unfold vp_in; decide) hB), wr_1 (by unfold vp_in; decide)]; exact hb) | (rw [F_X7_oneTide_0 (okB_1 (by unfold vp_in; decide) hB), wr_1 (by unfold vp_in; decide)]; exact hb)) (by exact rem_y hy) (by exact (lp_up hj c_63 hm).2) 
            · refine V_aload_n dX7_drawn_162 2 rfl ?_
              refine V_iload dX7_drawn_163 0 rfl ?_
              refine V_aload_n dX7_drawn_165 2 rfl ?_
              refine V_get (i := 5) inlX7 rfl (W_7 hw) rfl (by decide) q_94 rfl dX7_drawn_166 ?_
              refine V_bipush (v := 18) dX7_drawn_169 (by decide) ?_
              refine V_iload dX7_drawn_171 0 rfl ?_
              refine V_iadd dX7_drawn_173 ?_
              refine L_7_4 (W_7 hw) (by exact ix_18 (bi_9 (rem_y hy) hB hb)) dX7_drawn_174 ?_
              refine V_cV (k_X7_rakeBy l G hw (F_X7_oneTide (wr (wr s 7 4 ((1 : Int32) + 0).toNatClampNeg ((((y * 16807) - (y * 16807) / 2147483647 * 2147483647) - ((y * 16807) - (y * 16807) / 2147483647 * 2147483647) / 9 * 9).toInt32)) 7 4 (27 + ((((y * 16807) - (y * 16807) / 2147483647 * 2147483647) - ((y * 16807) - (y * 16807) / 2147483647 * 2147483647) / ((s 7 4 0).toInt64) * ((s 7 4 0).toInt64)).toInt32)).toNatClampNeg ((((y * 16807) - (y * 16807) / 2147483647 * 2147483647) - ((y * 16807) - (y * 16807) / 2147483647 * 2147483647) / 10 * 10).toInt32)))  ((((y * 16807) - (y * 16807) / 2147483647 * 2147483647) - ((y * 16807) - (y * 16807) / 2147483647 * 2147483647) / ((s 7 4 0).toInt64) * ((s 7 4 0).toInt64)).toInt32) ((F_X7_oneTide (wr (wr s 7 4 ((1 : Int32) + 0).toNatClampNeg ((((y * 16807) - (y * 16807) / 2147483647 * 2147483647) - ((y * 16807) - (y * 16807) / 2147483647 * 2147483647) / 9 * 9).toInt32)) 7 4 (27 + ((((y * 16807) - (y * 16807) / 2147483647 * 2147483647) - ((y * 16807) - (y * 16807) / 2147483647 * 2147483647) / ((s 7 4 0).toInt64) * ((s 7 4 0).toInt64)).toInt32)).toNatClampNeg ((((y * 16807) - (y * 16807) / 2147483647 * 2147483647) - ((y * 16807) - (y * 16807) / 2147483647 * 2147483647) / 10 * 10).toInt32))) 7 4 (18 + ((((y * 16807) - (y * 16807) / 2147483647 * 2147483647) - ((y * 16807) - (y * 16807) / 2147483647 * 2147483647) / ((s 7 4 0).toInt64) * ((s 7 4 0).toInt64)).toInt32)).toNatClampNeg) (bi_9 (rem_y hy) hB hb)) hy_X7_rakeBy hi_X7_rakeBy hs_X7_rakeBy q_491 rfl rfl (W_7 hw) rfl rfl rfl rfl rfl ⟨by decide, by decide⟩ (Nat.le_of_ble_eq_true rfl) ⟨by decide, by decide⟩ dX7_drawn_175 (V_kN ?_)
              refine V_iinc (v := (nI (j + 1))) (L2 := [(6, .int (nI (j + 1))), (7, .int ((((y * 16807) - (y * 16807) / 2147483647 * 2147483647) - ((y * 16807) - (y * 16807) / 2147483647 * 2147483647) / ((s 7 4 0).toInt64) * ((s 7 4 0).toInt64)).toInt32)), (4, .long ((y * 16807) - (y * 16807) / 2147483647 * 2147483647)), (0, .ref (ad 7 0 0)), (1, .int x1), (2, .int x2), (3, .int x3)]) dX7_drawn_178 6 rfl (nI_1 _) (by decide) rfl ?_
              refine V_goto (tgt := 60) dX7_drawn_181 (by decide) ?_
              refine V_rp (R2 := F_X7_drawn_60 x1 x2 x3 K n ((y * 16807) - (y * 16807) / 2147483647 * 2147483647) (j + 1) (F_X7_rakeBy (F_X7_oneTide (wr (wr s 7 4 ((1 : Int32) + 0).toNatClampNeg ((((y * 16807) - (y * 16807) / 2147483647 * 2147483647) - ((y * 16807) - (y * 16807) / 2147483647 * 2147483647) / 9 * 9).toInt32)) 7 4 (27 + ((((y * 16807) - (y * 16807) / 2147483647 * 2147483647) - ((y * 16807) - (y * 16807) / 2147483647 * 2147483647) / ((s 7 4 0).toInt64) * ((s 7 4 0).toInt64)).toInt32)).toNatClampNeg ((((y * 16807) - (y * 16807) / 2147483647 * 2147483647) - ((y * 16807) - (y * 16807) / 2147483647 * 2147483647) / 10 * 10).toInt32))) ((((y * 16807) - (y * 16807) / 2147483647 * 2147483647) - ((y * 16807) - (y * 16807) / 2147483647 * 2147483647) / ((s 7 4 0).toInt64) * ((s 7 4 0).toInt64)).toInt32) ((F_X7_oneTide (wr (wr s 7 4 ((1 : Int32) + 0).toNatClampNeg ((((y * 16807) - (y * 16807) / 2147483647 * 2147483647) - ((y * 16807) - (y * 16807) / 2147483647 * 2147483647) / 9 * 9).toInt32)) 7 4 (27 + ((((y * 16807) - (y * 16807) / 2147483647 * 2147483647) - ((y * 16807) - (y * 16807) / 2147483647 * 2147483647) / ((s 7 4 0).toInt64) * ((s 7 4 0).toInt64)).toInt32)).toNatClampNeg ((((y * 16807) - (y * 16807) / 2147483647 * 2147483647) - ((y * 16807) - (y * 16807) / 2147483647 * 2147483647) / 10 * 10).toInt32))) 7 4 (18 + ((((y * 16807) - (y * 16807) / 2147483647 * 2147483647) - ((y * 16807) - (y * 16807) / 2147483647 * 2147483647) / ((s 7 4 0).toInt64) * ((s 7 4 0).toInt64)).toInt32)).toNatClampNeg))) (by simp only [F_X7_drawn_60, if_neg c_63, if_pos c_104, if_pos c_129, if_pos c_159]) ?_
              refine V_lp [3, 4, 5, 6, 2, 0] rfl ?_
              exact ih ((y * 16807) - (y * 16807) / 2147483647 * 2147483647) (j + 1) (F_X7_rakeBy (F_X7_oneTide (wr (wr s 7 4 ((1 : Int32) + 0).toNatClampNeg ((((y * 16807) - (y * 16807) / 2147483647 * 2147483647) - ((y * 16807) - (y * 16807) / 2147483647 * 2147483647) / 9 * 9).toInt32)) 7 4 (27 + ((((y * 16807) - (y * 16807) / 2147483647 * 2147483647) - ((y * 16807) - (y * 16807) / 2147483647 * 2147483647) / ((s 7 4 0).toInt64) * ((s 7 4 0).toInt64)).toInt32)).toNatClampNeg ((((y * 16807) - (y * 16807) / 2147483647 * 2147483647) - ((y * 16807) - (y * 16807) / 2147483647 * 2147483647) / 10 * 10).toInt32))) ((((y * 16807) - (y * 16807) / 2147483647 * 2147483647) - ((y * 16807) - (y * 16807) / 2147483647 * 2147483647) / ((s 7 4 0).toInt64) * ((s 7 4 0).toInt64)).toInt32) ((F_X7_oneTide (wr (wr s 7 4 ((1 : Int32) + 0).toNatClampNeg ((((y * 16807) - (y * 16807) / 2147483647 * 2147483647) - ((y * 16807) - (y * 16807) / 2147483647 * 2147483647) / 9 * 9).toInt32)) 7 4 (27 + ((((y * 16807) - (y * 16807) / 2147483647 * 2147483647) - ((y * 16807) - (y * 16807) / 2147483647 * 2147483647) / ((s 7 4 0).toInt64) * ((s 7 4 0).toInt64)).toInt32)).toNatClampNeg ((((y * 16807) - (y * 16807) / 2147483647 * 2147483647) - ((y * 16807) - (y * 16807) / 2147483647 * 2147483647) / 10 * 10).toInt32))) 7 4 (18 + ((((y * 16807) - (y * 16807) / 2147483647 * 2147483647) - ((y * 16807) - (y * 16807) / 2147483647 * 2147483647) / ((s 7 4 0).toInt64) * ((s 7 4 0).toInt64)).toInt32)).toNatClampNeg)) (by exact (lp_up hj c_63 hm).1) (by first | with_reducible exact okB_rk (bi_9 (rem_y hy) hB hb) (okB_tide (okB_27 (bi_9 (rem_y hy) hB hb) (okB_1 (by unfold vp_in; decide) hB))) | with_reducible exact okB_tide (okB_27 (bi_9 (rem_y hy) hB hb) (okB_1 (by unfold vp_in; decide) hB)) | with_reducible exact okB_rk (bi_9 (rem_y hy) hB hb) (okB_tide (okB_1 (by unfold vp_in; decide) hB)) | with_reducible exact okB_tide (okB_1 (by unfold vp_in; decide) hB)) (by first | (rw [rk_0 (bi_9 (rem_y hy) hB hb), F_X7_oneTide_0 (okB_27 (bi_9 (rem_y hy) hB hb) (okB_1 (by unfold vp_in; decide) hB)), wr_27 (bi_9 (rem_y hy) hB hb), wr_1 (by unfold vp_in; decide)]; exact hb) | (rw [F_X7_oneTide_0 (okB_27 (bi_9 (rem_y hy) hB hb) (okB_1 (by unfold vp_in; decide) hB)), wr_27 (bi_9 (rem_y hy) hB hb), wr_1 (by unfold vp_in; decide)]; exact hb) | (rw [rk_0 (bi_9 (rem_y hy) hB hb), F_X7_oneTide_0 (okB_1 (by unfold vp_in; decide) hB), wr_1 (by unfold vp_in; decide)]; exact hb) | (rw [F_X7_oneTide_0 (okB_1 (by unfold vp_in; decide) hB), wr_1 (by unfold vp_in; decide)]; exact hb)) (by exact rem_y hy) (by exact (lp_up hj c_63 hm).2) 
set_option maxRecDepth 100000 in
set_option maxHeartbeats 4000000 in
theorem k_X7_drawn (l : Launch) (G : mm_G) {pr : Nat → Nat → Prop} {ad : Nat → Nat → Nat → Nat} (hw : mm_W pr) (g : mm_g) (x1 : Int32) (x2 : Int32) (x3 : Int32) (hB : okB g) (h1 : ¬ g 7 0 1 = 0 → 1 ≤ g 7 4 0)  : Mt l G yX7_drawn cX7_drawn 8 (some .int) (rmk 5 152) [.ref (ad 7 0 0), .int x1, .int x2, .int x3] pr ad g (qM pr ad (F_X7_drawn g x1 x2 x3)) 0 0 := by
  refine Mt_of (by decide) (Nat.le_of_ble_eq_true rfl) ?_
  show V l G RX7 cX7_drawn 8 (some .int) _ _ 0 0 0 0 0 [(0, .ref (ad 7 0 0)), (1, .int x1), (2, .int x2), (3, .int x3)] [] pr ad g
  refine V_aload_n dX7_drawn_0 0 rfl ?_
  refine V_get (i := 4) inlX7 rfl (W_7 hw) rfl (by decide) q_309 rfl dX7_drawn_1 ?_
  refine V_if_ne (tgt := 10) dX7_drawn_4 (by decide) (fun c_4 => ?_) (fun c_4 => ?_)
  · refine V_iload_n dX7_drawn_10 1 rfl ?_
    refine V_i2l dX7_drawn_11 ?_
    refine V_lconst (v := 0) dX7_drawn_12 (by decide) ?_
    refine V_ldc2 q_588 dX7_drawn_13 ?_
    refine V_cS (k_X7_in l G hw g  (x1.toInt64) 0 60 ) hy_X7_in hz_X7_in q_135 rfl rfl rfl rfl ⟨by decide, by decide⟩ (Nat.le_of_ble_eq_true rfl) ⟨by decide, by decide⟩ dX7_drawn_16 (V_kI ?_)
    refine V_if_eq (tgt := 46) dX7_drawn_19 (by decide) (fun c_19 => ?_) (fun c_19 => ?_)
    · refine V_ldc q_130 dX7_drawn_46 ?_
      exact V_iret dX7_drawn_48 rfl (lfM (by simp only [F_X7_drawn, if_neg c_4, if_pos c_19]))
    · refine V_iload_n dX7_drawn_22 2 rfl ?_
      refine V_i2l dX7_drawn_23 ?_
      refine V_lconst (v := 1) dX7_drawn_24 (by decide) ?_
      refine V_ldc2 q_896 dX7_drawn_25 ?_
      refine V_cS (k_X7_in l G hw g  (x2.toInt64) 1 999999 ) hy_X7_in hz_X7_in q_135 rfl rfl rfl rfl ⟨by decide, by decide⟩ (Nat.le_of_ble_eq_true rfl) ⟨by decide, by decide⟩ dX7_drawn_28 (V_kI ?_)
      refine V_if_eq (tgt := 46) dX7_drawn_31 (by decide) (fun c_31 => ?_) (fun c_31 => ?_)
      · refine V_ldc q_130 dX7_drawn_46 ?_
        exact V_iret dX7_drawn_48 rfl (lfM (by simp only [F_X7_drawn, if_neg c_4, if_neg c_19, if_pos c_31]))
      · refine V_iload_n dX7_drawn_34 3 rfl ?_
        refine V_i2l dX7_drawn_35 ?_
        refine V_lconst (v := 0) dX7_drawn_36 (by decide) ?_
        refine V_ldc2 q_129 dX7_drawn_37 ?_
        refine V_cS (k_X7_in l G hw g  (x3.toInt64) 0 2 ) hy_X7_in hz_X7_in q_135 rfl rfl rfl rfl ⟨by decide, by decide⟩ (Nat.le_of_ble_eq_true rfl) ⟨by decide, by decide⟩ dX7_drawn_40 (V_kI ?_)
        refine V_if_ne (tgt := 49) dX7_drawn_43 (by decide) (fun c_43 => ?_) (fun c_43 => ?_)
        · refine V_aload_n dX7_drawn_49 0 rfl ?_
          refine V_cV (k_X7_putAside l G hw g   ) hy_X7_putAside hi_X7_putAside hs_X7_putAside q_589 rfl rfl (W_7 hw) rfl rfl rfl rfl rfl ⟨by decide, by decide⟩ (Nat.le_of_ble_eq_true rfl) ⟨by decide, by decide⟩ dX7_drawn_50 (V_kN ?_)
          refine V_iload_n dX7_drawn_53 2 rfl ?_
          refine V_i2l dX7_drawn_54 ?_
          refine V_lstore (L2 := [(4, .long (x2.toInt64)), (0, .ref (ad 7 0 0)), (1, .int x1), (2, .int x2), (3, .int x3)]) dX7_drawn_55 (by decide) rfl ?_
          refine V_iconst (v := 0) dX7_drawn_57 (by decide) ?_
          refine V_istore (L2 := [(6, .int 0), (4, .long (x2.toInt64)), (0, .ref (ad 7 0 0)), (1, .int x1), (2, .int x2), (3, .int x3)]) dX7_drawn_58 (by decide) rfl ?_
          refine V_rp (R2 := F_X7_drawn_60 x1 x2 x3 (fun (y60 : Int64) (j60 : Nat) (s60 : mm_g) => ((s60 7 4 (6 + x3).toNatClampNeg), (F_X7_takeBack s60))) (x1.toInt.toNat + 1) (x2.toInt64) 0 (F_X7_putAside g)) (by simp only [F_X7_drawn, if_neg c_4, if_neg c_19, if_neg c_31, if_neg c_43]) ?_
          refine V_lp [2, 3, 4, 5, 1, 0] rfl ?_
          refine w_X7_drawn_60 l G hw x1 x2 x3   _ (fun y60 j60 s60 hj60 hB60 hb60 hy60 => ?_) (x1.toInt.toNat + 1) (x2.toInt64) 0 (F_X7_putAside g) (by first | exact Nat.zero_le _ | decide) (by exact okB_aside hB) (by rw [aside_4]; exact h1 c_4) (by exact sd_y c_31) (by omega)
          refine V_aload_n dX7_drawn_184 0 rfl ?_
          refine V_get (i := 5) inlX7 rfl (W_7 hw) rfl (by decide) q_94 rfl dX7_drawn_185 ?_
          refine V_bipush (v := 6) dX7_drawn_188 (by decide) ?_
          refine V_iload_n dX7_drawn_190 3 rfl ?_
          refine V_iadd dX7_drawn_191 ?_
          refine L_7_4 (W_7 hw) (by exact ix_6 (ix_in c_43 rfl)) dX7_drawn_192 ?_
          refine V_istore (L2 := [(6, .int (s60 7 4 (6 + x3).toNatClampNeg)), (0, .ref (ad 7 0 0)), (1, .int x1), (2, .int x2), (3, .int x3), (4, .long y60)]) dX7_drawn_193 (by decide) rfl ?_
          refine V_aload_n dX7_drawn_195 1 rfl ?_
          refine V_cV (k_X7_takeBack l G hw s60   ) hy_X7_takeBack hi_X7_takeBack hs_X7_takeBack q_597 rfl rfl (W_7 hw) rfl rfl rfl rfl rfl ⟨by decide, by decide⟩ (Nat.le_of_ble_eq_true rfl) ⟨by decide, by decide⟩ dX7_drawn_196 (V_kN ?_)
          refine V_iload dX7_drawn_199 0 rfl ?_
          exact V_iret dX7_drawn_201 rfl (lfM (by rfl))
        · refine V_ldc q_130 dX7_drawn_46 ?_
          exact V_iret dX7_drawn_48 rfl (lfM (by simp only [F_X7_drawn, if_neg c_4, if_neg c_19, if_neg c_31, if_pos c_43]))
  · refine V_ldc q_371 dX7_drawn_7 ?_
    exact V_iret dX7_drawn_9 rfl (lfM (by simp only [F_X7_drawn, if_pos c_4]))
