def okT (s : mm_g) : Prop := 0 ≤ (s 7 0 4).toInt ∧ (s 7 0 4).toInt ≤ (s 7 0 2).toInt ∧ (s 7 0 2).toInt ≤ 100
def mT (s : mm_g) : Nat := (s 7 0 2).toInt.toNat - (s 7 0 4).toInt.toNat
def okN (s : mm_g) : Prop := okT s ∧ (s 7 0 7).toInt ≤ (s 7 0 4).toInt ∧ (s 7 0 5 = 0 → (s 7 0 7).toInt < (s 7 0 2).toInt)
theorem okT_c {s s2 : mm_g} (h : okT s) (h1 : s2 7 0 4 = s 7 0 4) (h2 : s2 7 0 2 = s 7 0 2) : okT s2 := by
  unfold okT
  rw [h1, h2]
  exact h
theorem okT_7 {s : mm_g} {i : Nat} {x : Int32} (h : okT s) : okT (wr s 7 7 i x) := okT_c h (wr_k (by decide)) (wr_k (by decide))
theorem okN_s {s : mm_g} {v : Int32} (h : okN s) (c : ¬ s 7 0 2 ≤ s 7 0 4) : okN (wr (wr s 7 0 6 v) 7 0 4 (wr s 7 0 6 v 7 0 4 + 1)) := by
  obtain ⟨⟨h1, h2, h3⟩, h4, h5⟩ := h
  rw [toI_le] at c
  have e4 : wr (wr s 7 0 6 v) 7 0 4 (wr s 7 0 6 v 7 0 4 + 1) 7 0 4 = s 7 0 4 + 1 := by simp [wr_at]
  have e2 : wr (wr s 7 0 6 v) 7 0 4 (wr s 7 0 6 v 7 0 4 + 1) 7 0 2 = s 7 0 2 := by simp [wr_at]
  have e7 : wr (wr s 7 0 6 v) 7 0 4 (wr s 7 0 6 v 7 0 4 + 1) 7 0 7 = s 7 0 7 := by simp [wr_at]
  have e5 : wr (wr s 7 0 6 v) 7 0 4 (wr s 7 0 6 v 7 0 4 + 1) 7 0 5 = s 7 0 5 := by simp [wr_at]
  unfold okN okT
  rw [e4, e2, e7, e5, i_p1 (by omega) (by omega)]
  exact ⟨by omega, by omega, h5⟩
theorem mT_s {s : mm_g} {v : Int32} {n : Nat} (h : okN s) (c : ¬ s 7 0 2 ≤ s 7 0 4) (hm : mT s < n + 1) : mT (wr (wr s 7 0 6 v) 7 0 4 (wr s 7 0 6 v 7 0 4 + 1)) < n := by
  obtain ⟨⟨h1, h2, h3⟩, h4, h5⟩ := h
  rw [toI_le] at c
  have e4 : wr (wr s 7 0 6 v) 7 0 4 (wr s 7 0 6 v 7 0 4 + 1) 7 0 4 = s 7 0 4 + 1 := by simp [wr_at]
  have e2 : wr (wr s 7 0 6 v) 7 0 4 (wr s 7 0 6 v 7 0 4 + 1) 7 0 2 = s 7 0 2 := by simp [wr_at]
  unfold mT at hm ⊢
  rw [e4, e2, i_p1 (by omega) (by omega)]
  omega
theorem okN_3 {g : mm_g} (h : okT g) : okN (wr (wr (wr g 7 0 7 (g 7 0 4)) 7 0 5 3) 7 0 6 0) := by
  have e4 : wr (wr (wr g 7 0 7 (g 7 0 4)) 7 0 5 3) 7 0 6 0 7 0 4 = g 7 0 4 := by simp [wr_at]
  have e2 : wr (wr (wr g 7 0 7 (g 7 0 4)) 7 0 5 3) 7 0 6 0 7 0 2 = g 7 0 2 := by simp [wr_at]
  have e7 : wr (wr (wr g 7 0 7 (g 7 0 4)) 7 0 5 3) 7 0 6 0 7 0 7 = g 7 0 4 := by simp [wr_at]
  have e5 : wr (wr (wr g 7 0 7 (g 7 0 4)) 7 0 5 3) 7 0 6 0 7 0 5 = 3 := by simp [wr_at]
  unfold okN
  rw [e4, e2, e7, e5]
  exact ⟨okT_c h e4 e2, Int.le_refl _, fun q => absurd q (by decide)⟩
theorem okN_0 {g : mm_g} (h : okT g) (c : ¬ (wr g 7 0 7 (g 7 0 4)) 7 0 4 = (wr g 7 0 7 (g 7 0 4)) 7 0 2) : okN (wr (wr (wr g 7 0 7 (g 7 0 4)) 7 0 5 0) 7 0 6 0) := by
  have d4 : wr g 7 0 7 (g 7 0 4) 7 0 4 = g 7 0 4 := by simp [wr_at]
  have d2 : wr g 7 0 7 (g 7 0 4) 7 0 2 = g 7 0 2 := by simp [wr_at]
  rw [d4, d2] at c
  have c2 : (g 7 0 4).toInt ≠ (g 7 0 2).toInt := fun q => c (Int32.toInt_inj.mp q)
  have e4 : wr (wr (wr g 7 0 7 (g 7 0 4)) 7 0 5 0) 7 0 6 0 7 0 4 = g 7 0 4 := by simp [wr_at]
  have e2 : wr (wr (wr g 7 0 7 (g 7 0 4)) 7 0 5 0) 7 0 6 0 7 0 2 = g 7 0 2 := by simp [wr_at]
  have e7 : wr (wr (wr g 7 0 7 (g 7 0 4)) 7 0 5 0) 7 0 6 0 7 0 7 = g 7 0 4 := by simp [wr_at]
  unfold okN
  rw [e4, e2, e7]
  have h2 := h.2.1
  exact ⟨okT_c h e4 e2, Int.le_refl _, fun _ => by omega⟩
theorem mT_lt {s : mm_g} (h : okN s) : mT s < 101 := by
  obtain ⟨⟨h1, h2, h3⟩, h4, h5⟩ := h
  unfold mT
  omega
theorem ix_tp {s : mm_g} (h : okN s) (c : ¬ s 7 0 2 ≤ s 7 0 4) : vp_in (s 7 0 4) 100 := vp_in_iff.mpr (by
  obtain ⟨⟨h1, h2, h3⟩, h4, h5⟩ := h
  rw [toI_le] at c
  omega)
theorem ix_t2 {s : mm_g} (h : okN s) (c : s 7 0 4 ≤ s 7 0 7) (c2 : s 7 0 5 = 0) : vp_in (s 7 0 4) 100 := vp_in_iff.mpr (by
  obtain ⟨⟨h1, h2, h3⟩, h4, h5⟩ := h
  have h6 := h5 c2
  rw [toI_le] at c
  omega)
def F_X7_nextToken_33 (K : mm_g → mm_g) : Nat → mm_g → mm_g
  | 0, s => K s
  | n + 1, s => (if (s 7 0 2) ≤ (s 7 0 4) then K  s else (if (F_X7_in ((s 7 6 (s 7 0 4).toNatClampNeg).toInt64) 48 57) = 0 then K  s else (if (s 7 0 6) ≤ 99 then F_X7_nextToken_33  K n  (wr (wr s 7 0 6 (((10 * (s 7 0 6)) + (s 7 6 (s 7 0 4).toNatClampNeg)) - 48)) 7 0 4 (((wr s 7 0 6 (((10 * (s 7 0 6)) + (s 7 6 (s 7 0 4).toNatClampNeg)) - 48)) 7 0 4) + 1)) else F_X7_nextToken_33  K n  (wr (wr s 7 0 6 (s 7 0 6)) 7 0 4 (((wr s 7 0 6 (s 7 0 6)) 7 0 4) + 1)))))
def F_X7_nextToken (g : mm_g) : mm_g := (if ((wr g 7 0 7 (g 7 0 4)) 7 0 4) = ((wr g 7 0 7 (g 7 0 4)) 7 0 2) then (F_X7_nextToken_33  (fun  (s33 : mm_g) => (if (s33 7 0 4) ≤ (s33 7 0 7) then (if (s33 7 0 5) = 0 then (if (F_X7_in (((wr s33 7 0 6 (s33 7 6 (s33 7 0 4).toNatClampNeg)) 7 0 6).toInt64) 97 122) = 0 then (if ((wr s33 7 0 6 (s33 7 6 (s33 7 0 4).toNatClampNeg)) 7 0 6) = 44 then (wr (wr (wr s33 7 0 6 (s33 7 6 (s33 7 0 4).toNatClampNeg)) 7 0 5 1) 7 0 4 (((wr (wr s33 7 0 6 (s33 7 6 (s33 7 0 4).toNatClampNeg)) 7 0 5 1) 7 0 4) + 1)) else (if ((wr s33 7 0 6 (s33 7 6 (s33 7 0 4).toNatClampNeg)) 7 0 6) = 59 then (wr (wr (wr s33 7 0 6 (s33 7 6 (s33 7 0 4).toNatClampNeg)) 7 0 5 1) 7 0 4 (((wr (wr s33 7 0 6 (s33 7 6 (s33 7 0 4).toNatClampNeg)) 7 0 5 1) 7 0 4) + 1)) else (wr (wr (wr s33 7 0 6 (s33 7 6 (s33 7 0 4).toNatClampNeg)) 7 0 5 0) 7 0 4 (((wr (wr s33 7 0 6 (s33 7 6 (s33 7 0 4).toNatClampNeg)) 7 0 5 0) 7 0 4) + 1)))) else (wr (wr (wr s33 7 0 6 (s33 7 6 (s33 7 0 4).toNatClampNeg)) 7 0 5 1) 7 0 4 (((wr (wr s33 7 0 6 (s33 7 6 (s33 7 0 4).toNatClampNeg)) 7 0 5 1) 7 0 4) + 1))) else s33) else (if ((s33 7 0 4) - (s33 7 0 7)) ≤ 2 then (wr s33 7 0 5 2) else (wr s33 7 0 5 0)))) 101  (wr (wr (wr g 7 0 7 (g 7 0 4)) 7 0 5 3) 7 0 6 0)) else (F_X7_nextToken_33  (fun  (s33 : mm_g) => (if (s33 7 0 4) ≤ (s33 7 0 7) then (if (s33 7 0 5) = 0 then (if (F_X7_in (((wr s33 7 0 6 (s33 7 6 (s33 7 0 4).toNatClampNeg)) 7 0 6).toInt64) 97 122) = 0 then (if ((wr s33 7 0 6 (s33 7 6 (s33 7 0 4).toNatClampNeg)) 7 0 6) = 44 then (wr (wr (wr s33 7 0 6 (s33 7 6 (s33 7 0 4).toNatClampNeg)) 7 0 5 1) 7 0 4 (((wr (wr s33 7 0 6 (s33 7 6 (s33 7 0 4).toNatClampNeg)) 7 0 5 1) 7 0 4) + 1)) else (if ((wr s33 7 0 6 (s33 7 6 (s33 7 0 4).toNatClampNeg)) 7 0 6) = 59 then (wr (wr (wr s33 7 0 6 (s33 7 6 (s33 7 0 4).toNatClampNeg)) 7 0 5 1) 7 0 4 (((wr (wr s33 7 0 6 (s33 7 6 (s33 7 0 4).toNatClampNeg)) 7 0 5 1) 7 0 4) + 1)) else (wr (wr (wr s33 7 0 6 (s33 7 6 (s33 7 0 4).toNatClampNeg)) 7 0 5 0) 7 0 4 (((wr (wr s33 7 0 6 (s33 7 6 (s33 7 0 4).toNatClampNeg)) 7 0 5 0) 7 0 4) + 1)))) else (wr (wr (wr s33 7 0 6 (s33 7 6 (s33 7 0 4).toNatClampNeg)) 7 0 5 1) 7 0 4 (((wr (wr s33 7 0 6 (s33 7 6 (s33 7 0 4).toNatClampNeg)) 7 0 5 1) 7 0 4) + 1))) else s33) else (if ((s33 7 0 4) - (s33 7 0 7)) ≤ 2 then (wr s33 7 0 5 2) else (wr s33 7 0 5 0)))) 101  (wr (wr (wr g 7 0 7 (g 7 0 4)) 7 0 5 0) 7 0 6 0)))
set_option maxRecDepth 100000 in
set_option maxHeartbeats 4000000 in
theorem w_X7_nextToken_33 (l : Launch) (G : mm_G) {pr : Nat → Nat → Prop} {ad : Nat → Nat → Nat → Nat} (hw : mm_W pr)  (K : mm_g → mm_g) (hK : ∀  (s : mm_g) (hN : okN s), V l G RX7 cX7_nextToken 1 none (rmk 2 85) (qN pr ad (K s)) 0 0 0 0 119 [(0, .ref (ad 7 0 0))] [] pr ad s) : ∀ (n : Nat)  (s : mm_g) (hN : okN s) (hm : mT s < n), V l G RX7 cX7_nextToken 1 none (rmk 2 85) (qN pr ad (F_X7_nextToken_33  K n s)) 0 0 0 0 33 [(0, .ref (ad 7 0 0))] [] pr ad s := by
  intro n
  induction n with
  | zero => intro s hN hm; exact absurd hm (Nat.not_lt_zero _)
  | succ n ih =>
      intro s hN hm
      refine V_aload_n dX7_nextToken_33 0 rfl ?_
      refine V_get (i := 10) inlX7 rfl (W_7 hw) rfl (by decide) q_315 rfl dX7_nextToken_34 ?_
      refine V_aload_n dX7_nextToken_37 0 rfl ?_
      refine V_get (i := 8) inlX7 rfl (W_7 hw) rfl (by decide) q_226 rfl dX7_nextToken_38 ?_
      refine V_ic_ge (tgt := 119) dX7_nextToken_41 (by decide) (fun c_41 => ?_) (fun c_41 => ?_)
      · refine V_rp (R2 := K  s) (by simp only [F_X7_nextToken_33, if_pos c_41]) ?_
        refine V_lp [0] rfl ?_
        exact hK  s (by assumption)
      · refine V_aload_n dX7_nextToken_44 0 rfl ?_
        refine V_get (i := 7) inlX7 rfl (W_7 hw) rfl (by decide) q_96 rfl dX7_nextToken_45 ?_
        refine V_aload_n dX7_nextToken_48 0 rfl ?_
        refine V_get (i := 10) inlX7 rfl (W_7 hw) rfl (by decide) q_315 rfl dX7_nextToken_49 ?_
        refine L_7_6 (W_7 hw) (by exact ix_tp hN c_41) dX7_nextToken_52 ?_
        refine V_i2l dX7_nextToken_53 ?_
        refine V_ldc2 q_322 dX7_nextToken_54 ?_
        refine V_ldc2 q_323 dX7_nextToken_57 ?_
        refine V_cS (k_X7_in l G hw s  ((s 7 6 (s 7 0 4).toNatClampNeg).toInt64) 48 57 ) hy_X7_in hz_X7_in q_135 rfl rfl rfl rfl ⟨by decide, by decide⟩ (Nat.le_of_ble_eq_true rfl) ⟨by decide, by decide⟩ dX7_nextToken_60 (V_kI ?_)
        refine V_if_eq (tgt := 119) dX7_nextToken_63 (by decide) (fun c_63 => ?_) (fun c_63 => ?_)
        · refine V_rp (R2 := K  s) (by simp only [F_X7_nextToken_33, if_neg c_41, if_pos c_63]) ?_
          refine V_lp [0] rfl ?_
          exact hK  s (by assumption)
        · refine V_aload_n dX7_nextToken_66 0 rfl ?_
          refine V_aload_n dX7_nextToken_67 0 rfl ?_
          refine V_get (i := 12) inlX7 rfl (W_7 hw) rfl (by decide) q_321 rfl dX7_nextToken_68 ?_
          refine V_bipush (v := 99) dX7_nextToken_71 (by decide) ?_
          refine V_ic_le (tgt := 83) dX7_nextToken_73 (by decide) (fun c_73 => ?_) (fun c_73 => ?_)
          · refine V_bipush (v := 10) dX7_nextToken_83 (by decide) ?_
            refine V_aload_n dX7_nextToken_85 0 rfl ?_
            refine V_get (i := 12) inlX7 rfl (W_7 hw) rfl (by decide) q_321 rfl dX7_nextToken_86 ?_
            refine V_imul dX7_nextToken_89 ?_
            refine V_aload_n dX7_nextToken_90 0 rfl ?_
            refine V_get (i := 7) inlX7 rfl (W_7 hw) rfl (by decide) q_96 rfl dX7_nextToken_91 ?_
            refine V_aload_n dX7_nextToken_94 0 rfl ?_
            refine V_get (i := 10) inlX7 rfl (W_7 hw) rfl (by decide) q_315 rfl dX7_nextToken_95 ?_
            refine L_7_6 (W_7 hw) (by exact ix_tp hN c_41) dX7_nextToken_98 ?_
            refine V_iadd dX7_nextToken_99 ?_
            refine V_bipush (v := 48) dX7_nextToken_100 (by decide) ?_
            refine V_isub dX7_nextToken_102 ?_
            refine P_7_12 (W_7 hw) q_321 dX7_nextToken_103 ?_
            refine V_aload_n dX7_nextToken_106 0 rfl ?_
            refine V_dup dX7_nextToken_107 rfl ?_
            refine V_get (i := 10) inlX7 rfl (W_7 hw) rfl (by decide) q_315 rfl dX7_nextToken_108 ?_
            refine V_iconst (v := 1) dX7_nextToken_111 (by decide) ?_
            refine V_iadd dX7_nextToken_112 ?_
            refine P_7_10 (W_7 hw) q_315 dX7_nextToken_113 ?_
            refine V_goto (tgt := 33) dX7_nextToken_116 (by decide) ?_
            refine V_rp (R2 := F_X7_nextToken_33  K n  (wr (wr s 7 0 6 (((10 * (s 7 0 6)) + (s 7 6 (s 7 0 4).toNatClampNeg)) - 48)) 7 0 4 (((wr s 7 0 6 (((10 * (s 7 0 6)) + (s 7 6 (s 7 0 4).toNatClampNeg)) - 48)) 7 0 4) + 1))) (by simp only [F_X7_nextToken_33, if_neg c_41, if_neg c_63, if_pos c_73]) ?_
            refine V_lp [0] rfl ?_
            exact ih  (wr (wr s 7 0 6 (((10 * (s 7 0 6)) + (s 7 6 (s 7 0 4).toNatClampNeg)) - 48)) 7 0 4 (((wr s 7 0 6 (((10 * (s 7 0 6)) + (s 7 6 (s 7 0 4).toNatClampNeg)) - 48)) 7 0 4) + 1)) (by exact okN_s hN c_41) (by exact mT_s hN c_41 hm) 
          · refine V_aload_n dX7_nextToken_76 0 rfl ?_
            refine V_get (i := 12) inlX7 rfl (W_7 hw) rfl (by decide) q_321 rfl dX7_nextToken_77 ?_
            refine V_goto (tgt := 103) dX7_nextToken_80 (by decide) ?_
            refine P_7_12 (W_7 hw) q_321 dX7_nextToken_103 ?_
            refine V_aload_n dX7_nextToken_106 0 rfl ?_
            refine V_dup dX7_nextToken_107 rfl ?_
            refine V_get (i := 10) inlX7 rfl (W_7 hw) rfl (by decide) q_315 rfl dX7_nextToken_108 ?_
            refine V_iconst (v := 1) dX7_nextToken_111 (by decide) ?_
            refine V_iadd dX7_nextToken_112 ?_
            refine P_7_10 (W_7 hw) q_315 dX7_nextToken_113 ?_
            refine V_goto (tgt := 33) dX7_nextToken_116 (by decide) ?_
            refine V_rp (R2 := F_X7_nextToken_33  K n  (wr (wr s 7 0 6 (s 7 0 6)) 7 0 4 (((wr s 7 0 6 (s 7 0 6)) 7 0 4) + 1))) (by simp only [F_X7_nextToken_33, if_neg c_41, if_neg c_63, if_neg c_73]) ?_
            refine V_lp [0] rfl ?_
            exact ih  (wr (wr s 7 0 6 (s 7 0 6)) 7 0 4 (((wr s 7 0 6 (s 7 0 6)) 7 0 4) + 1)) (by exact okN_s hN c_41) (by exact mT_s hN c_41 hm) 
set_option maxRecDepth 100000 in
set_option maxHeartbeats 4000000 in
theorem k_X7_nextToken (l : Launch) (G : mm_G) {pr : Nat → Nat → Prop} {ad : Nat → Nat → Nat → Nat} (hw : mm_W pr) (g : mm_g) (hT : okT g)  : Mt l G yX7_nextToken cX7_nextToken 1 none (rmk 2 85) [.ref (ad 7 0 0)] pr ad g (qN pr ad (F_X7_nextToken g)) 0 0 := by
  refine Mt_of (by decide) (Nat.le_of_ble_eq_true rfl) ?_
  show V l G RX7 cX7_nextToken 1 none _ _ 0 0 0 0 0 [(0, .ref (ad 7 0 0))] [] pr ad g
  refine V_aload_n dX7_nextToken_0 0 rfl ?_
  refine V_aload_n dX7_nextToken_1 0 rfl ?_
  refine V_get (i := 10) inlX7 rfl (W_7 hw) rfl (by decide) q_315 rfl dX7_nextToken_2 ?_
  refine P_7_13 (W_7 hw) q_308 dX7_nextToken_5 ?_
  refine V_aload_n dX7_nextToken_8 0 rfl ?_
  refine V_aload_n dX7_nextToken_9 0 rfl ?_
  refine V_get (i := 10) inlX7 rfl (W_7 hw) rfl (by decide) q_315 rfl dX7_nextToken_10 ?_
  refine V_aload_n dX7_nextToken_13 0 rfl ?_
  refine V_get (i := 8) inlX7 rfl (W_7 hw) rfl (by decide) q_226 rfl dX7_nextToken_14 ?_
  refine V_ic_ne (tgt := 24) dX7_nextToken_17 (by decide) (fun c_17 => ?_) (fun c_17 => ?_)
  · refine V_iconst (v := 0) dX7_nextToken_24 (by decide) ?_
    refine P_7_11 (W_7 hw) q_316 dX7_nextToken_25 ?_
    refine V_aload_n dX7_nextToken_28 0 rfl ?_
    refine V_iconst (v := 0) dX7_nextToken_29 (by decide) ?_
    refine P_7_12 (W_7 hw) q_321 dX7_nextToken_30 ?_
    refine V_rp (R2 := F_X7_nextToken_33  (fun  (s33 : mm_g) => (if (s33 7 0 4) ≤ (s33 7 0 7) then (if (s33 7 0 5) = 0 then (if (F_X7_in (((wr s33 7 0 6 (s33 7 6 (s33 7 0 4).toNatClampNeg)) 7 0 6).toInt64) 97 122) = 0 then (if ((wr s33 7 0 6 (s33 7 6 (s33 7 0 4).toNatClampNeg)) 7 0 6) = 44 then (wr (wr (wr s33 7 0 6 (s33 7 6 (s33 7 0 4).toNatClampNeg)) 7 0 5 1) 7 0 4 (((wr (wr s33 7 0 6 (s33 7 6 (s33 7 0 4).toNatClampNeg)) 7 0 5 1) 7 0 4) + 1)) else (if ((wr s33 7 0 6 (s33 7 6 (s33 7 0 4).toNatClampNeg)) 7 0 6) = 59 then (wr (wr (wr s33 7 0 6 (s33 7 6 (s33 7 0 4).toNatClampNeg)) 7 0 5 1) 7 0 4 (((wr (wr s33 7 0 6 (s33 7 6 (s33 7 0 4).toNatClampNeg)) 7 0 5 1) 7 0 4) + 1)) else (wr (wr (wr s33 7 0 6 (s33 7 6 (s33 7 0 4).toNatClampNeg)) 7 0 5 0) 7 0 4 (((wr (wr s33 7 0 6 (s33 7 6 (s33 7 0 4).toNatClampNeg)) 7 0 5 0) 7 0 4) + 1)))) else (wr (wr (wr s33 7 0 6 (s33 7 6 (s33 7 0 4).toNatClampNeg)) 7 0 5 1) 7 0 4 (((wr (wr s33 7 0 6 (s33 7 6 (s33 7 0 4).toNatClampNeg)) 7 0 5 1) 7 0 4) + 1))) else s33) else (if ((s33 7 0 4) - (s33 7 0 7)) ≤ 2 then (wr s33 7 0 5 2) else (wr s33 7 0 5 0)))) 101  (wr (wr (wr g 7 0 7 (g 7 0 4)) 7 0 5 0) 7 0 6 0)) (by simp only [F_X7_nextToken, if_neg c_17]) ?_
    refine V_lp [0] rfl ?_
    refine w_X7_nextToken_33 l G hw    _ (fun  s33 hN33 => ?_) 101  (wr (wr (wr g 7 0 7 (g 7 0 4)) 7 0 5 0) 7 0 6 0) (by first | exact okN_3 hT | exact okN_0 hT c_17) (by first | exact mT_lt (okN_3 hT) | exact mT_lt (okN_0 hT c_17))
    refine V_aload_n dX7_nextToken_119 0 rfl ?_
    refine V_get (i := 10) inlX7 rfl (W_7 hw) rfl (by decide) q_315 rfl dX7_nextToken_120 ?_
    refine V_aload_n dX7_nextToken_123 0 rfl ?_
    refine V_get (i := 13) inlX7 rfl (W_7 hw) rfl (by decide) q_308 rfl dX7_nextToken_124 ?_
    refine V_ic_le (tgt := 155) dX7_nextToken_127 (by decide) (fun c_127 => ?_) (fun c_127 => ?_)
    · refine V_aload_n dX7_nextToken_155 0 rfl ?_
      refine V_get (i := 11) inlX7 rfl (W_7 hw) rfl (by decide) q_316 rfl dX7_nextToken_156 ?_
      refine V_if_ne (tgt := 229) dX7_nextToken_159 (by decide) (fun c_159 => ?_) (fun c_159 => ?_)
      · exact V_vret dX7_nextToken_229 rfl (lfN (by simp only [if_pos c_127, if_neg c_159]))
      · refine V_aload_n dX7_nextToken_162 0 rfl ?_
        refine V_aload_n dX7_nextToken_163 0 rfl ?_
        refine V_get (i := 7) inlX7 rfl (W_7 hw) rfl (by decide) q_96 rfl dX7_nextToken_164 ?_
        refine V_aload_n dX7_nextToken_167 0 rfl ?_
        refine V_get (i := 10) inlX7 rfl (W_7 hw) rfl (by decide) q_315 rfl dX7_nextToken_168 ?_
        refine L_7_6 (W_7 hw) (by exact ix_t2 hN33 c_127 c_159) dX7_nextToken_171 ?_
        refine P_7_12 (W_7 hw) q_321 dX7_nextToken_172 ?_
        refine V_aload_n dX7_nextToken_175 0 rfl ?_
        refine V_aload_n dX7_nextToken_176 0 rfl ?_
        refine V_get (i := 12) inlX7 rfl (W_7 hw) rfl (by decide) q_321 rfl dX7_nextToken_177 ?_
        refine V_i2l dX7_nextToken_180 ?_
        refine V_ldc2 q_324 dX7_nextToken_181 ?_
        refine V_ldc2 q_325 dX7_nextToken_184 ?_
        refine V_cS (k_X7_in l G hw (wr s33 7 0 6 (s33 7 6 (s33 7 0 4).toNatClampNeg))  (((wr s33 7 0 6 (s33 7 6 (s33 7 0 4).toNatClampNeg)) 7 0 6).toInt64) 97 122 ) hy_X7_in hz_X7_in q_135 rfl rfl rfl rfl ⟨by decide, by decide⟩ (Nat.le_of_ble_eq_true rfl) ⟨by decide, by decide⟩ dX7_nextToken_187 (V_kI ?_)
        refine V_if_ne (tgt := 211) dX7_nextToken_190 (by decide) (fun c_190 => ?_) (fun c_190 => ?_)
        · refine V_iconst (v := 1) dX7_nextToken_211 (by decide) ?_
          refine V_goto (tgt := 216) dX7_nextToken_212 (by decide) ?_
          refine P_7_11 (W_7 hw) q_316 dX7_nextToken_216 ?_
          refine V_aload_n dX7_nextToken_219 0 rfl ?_
          refine V_dup dX7_nextToken_220 rfl ?_
          refine V_get (i := 10) inlX7 rfl (W_7 hw) rfl (by decide) q_315 rfl dX7_nextToken_221 ?_
          refine V_iconst (v := 1) dX7_nextToken_224 (by decide) ?_
          refine V_iadd dX7_nextToken_225 ?_
          refine P_7_10 (W_7 hw) q_315 dX7_nextToken_226 ?_
          exact V_vret dX7_nextToken_229 rfl (lfN (by simp only [if_pos c_127, if_pos c_159, if_neg c_190]))
        · refine V_aload_n dX7_nextToken_193 0 rfl ?_
          refine V_get (i := 12) inlX7 rfl (W_7 hw) rfl (by decide) q_321 rfl dX7_nextToken_194 ?_
          refine V_bipush (v := 44) dX7_nextToken_197 (by decide) ?_
          refine V_ic_eq (tgt := 211) dX7_nextToken_199 (by decide) (fun c_199 => ?_) (fun c_199 => ?_)
          · refine V_iconst (v := 1) dX7_nextToken_211 (by decide) ?_
            refine V_goto (tgt := 216) dX7_nextToken_212 (by decide) ?_
            refine P_7_11 (W_7 hw) q_316 dX7_nextToken_216 ?_
            refine V_aload_n dX7_nextToken_219 0 rfl ?_
            refine V_dup dX7_nextToken_220 rfl ?_
            refine V_get (i := 10) inlX7 rfl (W_7 hw) rfl (by decide) q_315 rfl dX7_nextToken_221 ?_
            refine V_iconst (v := 1) dX7_nextToken_224 (by decide) ?_
            refine V_iadd dX7_nextToken_225 ?_
            refine P_7_10 (W_7 hw) q_315 dX7_nextToken_226 ?_
            exact V_vret dX7_nextToken_229 rfl (lfN (by simp only [if_pos c_127, if_pos c_159, if_pos c_190, if_pos c_199]))
          · refine V_aload_n dX7_nextToken_202 0 rfl ?_
            refine V_get (i := 12) inlX7 rfl (W_7 hw) rfl (by decide) q_321 rfl dX7_nextToken_203 ?_
            refine V_bipush (v := 59) dX7_nextToken_206 (by decide) ?_
            refine V_ic_ne (tgt := 215) dX7_nextToken_208 (by decide) (fun c_208 => ?_) (fun c_208 => ?_)
            · refine V_iconst (v := 0) dX7_nextToken_215 (by decide) ?_
              refine P_7_11 (W_7 hw) q_316 dX7_nextToken_216 ?_
              refine V_aload_n dX7_nextToken_219 0 rfl ?_
              refine V_dup dX7_nextToken_220 rfl ?_
              refine V_get (i := 10) inlX7 rfl (W_7 hw) rfl (by decide) q_315 rfl dX7_nextToken_221 ?_
              refine V_iconst (v := 1) dX7_nextToken_224 (by decide) ?_
              refine V_iadd dX7_nextToken_225 ?_
              refine P_7_10 (W_7 hw) q_315 dX7_nextToken_226 ?_
              exact V_vret dX7_nextToken_229 rfl (lfN (by simp only [if_pos c_127, if_pos c_159, if_pos c_190, if_neg c_199, if_neg c_208]))
            · refine V_iconst (v := 1) dX7_nextToken_211 (by decide) ?_
              refine V_goto (tgt := 216) dX7_nextToken_212 (by decide) ?_
              refine P_7_11 (W_7 hw) q_316 dX7_nextToken_216 ?_
              refine V_aload_n dX7_nextToken_219 0 rfl ?_
              refine V_dup dX7_nextToken_220 rfl ?_
              refine V_get (i := 10) inlX7 rfl (W_7 hw) rfl (by decide) q_315 rfl dX7_nextToken_221 ?_
              refine V_iconst (v := 1) dX7_nextToken_224 (by decide) ?_
              refine V_iadd dX7_nextToken_225 ?_
              refine P_7_10 (W_7 hw) q_315 dX7_nextToken_226 ?_
              exact V_vret dX7_nextToken_229 rfl (lfN (by simp only [if_pos c_127, if_pos c_159, if_pos c_190, if_neg c_199, if_pos c_208]))
    · refine V_aload_n dX7_nextToken_130 0 rfl ?_
      refine V_aload_n dX7_nextToken_131 0 rfl ?_
      refine V_get (i := 10) inlX7 rfl (W_7 hw) rfl (by decide) q_315 rfl dX7_nextToken_132 ?_
      refine V_aload_n dX7_nextToken_135 0 rfl ?_
      refine V_get (i := 13) inlX7 rfl (W_7 hw) rfl (by decide) q_308 rfl dX7_nextToken_136 ?_
      refine V_isub dX7_nextToken_139 ?_
      refine V_iconst (v := 2) dX7_nextToken_140 (by decide) ?_
      refine V_ic_le (tgt := 148) dX7_nextToken_141 (by decide) (fun c_141 => ?_) (fun c_141 => ?_)
      · refine V_iconst (v := 2) dX7_nextToken_148 (by decide) ?_
        refine P_7_11 (W_7 hw) q_316 dX7_nextToken_149 ?_
        refine V_goto (tgt := 229) dX7_nextToken_152 (by decide) ?_
        exact V_vret dX7_nextToken_229 rfl (lfN (by simp only [if_neg c_127, if_pos c_141]))
      · refine V_iconst (v := 0) dX7_nextToken_144 (by decide) ?_
        refine V_goto (tgt := 149) dX7_nextToken_145 (by decide) ?_
        refine P_7_11 (W_7 hw) q_316 dX7_nextToken_149 ?_
        refine V_goto (tgt := 229) dX7_nextToken_152 (by decide) ?_
        exact V_vret dX7_nextToken_229 rfl (lfN (by simp only [if_neg c_127, if_neg c_141]))
  · refine V_iconst (v := 3) dX7_nextToken_20 (by decide) ?_
    refine V_goto (tgt := 25) dX7_nextToken_21 (by decide) ?_
    refine P_7_11 (W_7 hw) q_316 dX7_nextToken_25 ?_
    refine V_aload_n dX7_nextToken_28 0 rfl ?_
    refine V_iconst (v := 0) dX7_nextToken_29 (by decide) ?_
    refine P_7_12 (W_7 hw) q_321 dX7_nextToken_30 ?_
    refine V_rp (R2 := F_X7_nextToken_33  (fun  (s33 : mm_g) => (if (s33 7 0 4) ≤ (s33 7 0 7) then (if (s33 7 0 5) = 0 then (if (F_X7_in (((wr s33 7 0 6 (s33 7 6 (s33 7 0 4).toNatClampNeg)) 7 0 6).toInt64) 97 122) = 0 then (if ((wr s33 7 0 6 (s33 7 6 (s33 7 0 4).toNatClampNeg)) 7 0 6) = 44 then (wr (wr (wr s33 7 0 6 (s33 7 6 (s33 7 0 4).toNatClampNeg)) 7 0 5 1) 7 0 4 (((wr (wr s33 7 0 6 (s33 7 6 (s33 7 0 4).toNatClampNeg)) 7 0 5 1) 7 0 4) + 1)) else (if ((wr s33 7 0 6 (s33 7 6 (s33 7 0 4).toNatClampNeg)) 7 0 6) = 59 then (wr (wr (wr s33 7 0 6 (s33 7 6 (s33 7 0 4).toNatClampNeg)) 7 0 5 1) 7 0 4 (((wr (wr s33 7 0 6 (s33 7 6 (s33 7 0 4).toNatClampNeg)) 7 0 5 1) 7 0 4) + 1)) else (wr (wr (wr s33 7 0 6 (s33 7 6 (s33 7 0 4).toNatClampNeg)) 7 0 5 0) 7 0 4 (((wr (wr s33 7 0 6 (s33 7 6 (s33 7 0 4).toNatClampNeg)) 7 0 5 0) 7 0 4) + 1)))) else (wr (wr (wr s33 7 0 6 (s33 7 6 (s33 7 0 4).toNatClampNeg)) 7 0 5 1) 7 0 4 (((wr (wr s33 7 0 6 (s33 7 6 (s33 7 0 4).toNatClampNeg)) 7 0 5 1) 7 0 4) + 1))) else s33) else (if ((s33 7 0 4) - (s33 7 0 7)) ≤ 2 then (wr s33 7 0 5 2) else (wr s33 7 0 5 0)))) 101  (wr (wr (wr g 7 0 7 (g 7 0 4)) 7 0 5 3) 7 0 6 0)) (by simp only [F_X7_nextToken, if_pos c_17]) ?_
    refine V_lp [0] rfl ?_
    refine w_X7_nextToken_33 l G hw    _ (fun  s33 hN33 => ?_) 101  (wr (wr (wr g 7 0 7 (g 7 0 4)) 7 0 5 3) 7 0 6 0) (by first | exact okN_3 hT | exact okN_0 hT c_17) (by first | exact mT_lt (okN_3 hT) | exact mT_lt (okN_0 hT c_17))
    refine V_aload_n dX7_nextToken_119 0 rfl ?_
    refine V_get (i := 10) inlX7 rfl (W_7 hw) rfl (by decide) q_315 rfl dX7_nextToken_120 ?_
    refine V_aload_n dX7_nextToken_123 0 rfl ?_
    refine V_get (i := 13) inlX7 rfl (W_7 hw) rfl (by decide) q_308 rfl dX7_nextToken_124 ?_
    refine V_ic_le (tgt := 155) dX7_nextToken_127 (by decide) (fun c_127 => ?_) (fun c_127 => ?_)
    · refine V_aload_n dX7_nextToken_155 0 rfl ?_
      refine V_get (i := 11) inlX7 rfl (W_7 hw) rfl (by decide) q_316 rfl dX7_nextToken_156 ?_
      refine V_if_ne (tgt := 229) dX7_nextToken_159 (by decide) (fun c_159 => ?_) (fun c_159 => ?_)
      · exact V_vret dX7_nextToken_229 rfl (lfN (by simp only [if_pos c_127, if_neg c_159]))
      · refine V_aload_n dX7_nextToken_162 0 rfl ?_
        refine V_aload_n dX7_nextToken_163 0 rfl ?_
        refine V_get (i := 7) inlX7 rfl (W_7 hw) rfl (by decide) q_96 rfl dX7_nextToken_164 ?_
        refine V_aload_n dX7_nextToken_167 0 rfl ?_
        refine V_get (i := 10) inlX7 rfl (W_7 hw) rfl (by decide) q_315 rfl dX7_nextToken_168 ?_
        refine L_7_6 (W_7 hw) (by exact ix_t2 hN33 c_127 c_159) dX7_nextToken_171 ?_
        refine P_7_12 (W_7 hw) q_321 dX7_nextToken_172 ?_
        refine V_aload_n dX7_nextToken_175 0 rfl ?_
        refine V_aload_n dX7_nextToken_176 0 rfl ?_
        refine V_get (i := 12) inlX7 rfl (W_7 hw) rfl (by decide) q_321 rfl dX7_nextToken_177 ?_
        refine V_i2l dX7_nextToken_180 ?_
        refine V_ldc2 q_324 dX7_nextToken_181 ?_
        refine V_ldc2 q_325 dX7_nextToken_184 ?_
        refine V_cS (k_X7_in l G hw (wr s33 7 0 6 (s33 7 6 (s33 7 0 4).toNatClampNeg))  (((wr s33 7 0 6 (s33 7 6 (s33 7 0 4).toNatClampNeg)) 7 0 6).toInt64) 97 122 ) hy_X7_in hz_X7_in q_135 rfl rfl rfl rfl ⟨by decide, by decide⟩ (Nat.le_of_ble_eq_true rfl) ⟨by decide, by decide⟩ dX7_nextToken_187 (V_kI ?_)
        refine V_if_ne (tgt := 211) dX7_nextToken_190 (by decide) (fun c_190 => ?_) (fun c_190 => ?_)
        · refine V_iconst (v := 1) dX7_nextToken_211 (by decide) ?_
          refine V_goto (tgt := 216) dX7_nextToken_212 (by decide) ?_
          refine P_7_11 (W_7 hw) q_316 dX7_nextToken_216 ?_
          refine V_aload_n dX7_nextToken_219 0 rfl ?_
          refine V_dup dX7_nextToken_220 rfl ?_
          refine V_get (i := 10) inlX7 rfl (W_7 hw) rfl (by decide) q_315 rfl dX7_nextToken_221 ?_
          refine V_iconst (v := 1) dX7_nextToken_224 (by decide) ?_
          refine V_iadd dX7_nextToken_225 ?_
          refine P_7_10 (W_7 hw) q_315 dX7_nextToken_226 ?_
          exact V_vret dX7_nextToken_229 rfl (lfN (by simp only [if_pos c_127, if_pos c_159, if_neg c_190]))
        · refine V_aload_n dX7_nextToken_193 0 rfl ?_
          refine V_get (i := 12) inlX7 rfl (W_7 hw) rfl (by decide) q_321 rfl dX7_nextToken_194 ?_
          refine V_bipush (v := 44) dX7_nextToken_197 (by decide) ?_
          refine V_ic_eq (tgt := 211) dX7_nextToken_199 (by decide) (fun c_199 => ?_) (fun c_199 => ?_)
          · refine V_iconst (v := 1) dX7_nextToken_211 (by decide) ?_
            refine V_goto (tgt := 216) dX7_nextToken_212 (by decide) ?_
            refine P_7_11 (W_7 hw) q_316 dX7_nextToken_216 ?_
            refine V_aload_n dX7_nextToken_219 0 rfl ?_
            refine V_dup dX7_nextToken_220 rfl ?_
            refine V_get (i := 10) inlX7 rfl (W_7 hw) rfl (by decide) q_315 rfl dX7_nextToken_221 ?_
            refine V_iconst (v := 1) dX7_nextToken_224 (by decide) ?_
            refine V_iadd dX7_nextToken_225 ?_
            refine P_7_10 (W_7 hw) q_315 dX7_nextToken_226 ?_
            exact V_vret dX7_nextToken_229 rfl (lfN (by simp only [if_pos c_127, if_pos c_159, if_pos c_190, if_pos c_199]))
          · refine V_aload_n dX7_nextToken_202 0 rfl ?_
            refine V_get (i := 12) inlX7 rfl (W_7 hw) rfl (by decide) q_321 rfl dX7_nextToken_203 ?_
            refine V_bipush (v := 59) dX7_nextToken_206 (by decide) ?_
            refine V_ic_ne (tgt := 215) dX7_nextToken_208 (by decide) (fun c_208 => ?_) (fun c_208 => ?_)
            · refine V_iconst (v := 0) dX7_nextToken_215 (by decide) ?_
              refine P_7_11 (W_7 hw) q_316 dX7_nextToken_216 ?_
              refine V_aload_n dX7_nextToken_219 0 rfl ?_
              refine V_dup dX7_nextToken_220 rfl ?_
              refine V_get (i := 10) inlX7 rfl (W_7 hw) rfl (by decide) q_315 rfl dX7_nextToken_221 ?_
              refine V_iconst (v := 1) dX7_nextToken_224 (by decide) ?_
              refine V_iadd dX7_nextToken_225 ?_
              refine P_7_10 (W_7 hw) q_315 dX7_nextToken_226 ?_
              exact V_vret dX7_nextToken_229 rfl (lfN (by simp only [if_pos c_127, if_pos c_159, if_pos c_190, if_neg c_199, if_neg c_208]))
            · refine V_iconst (v := 1) dX7_nextToken_211 (by decide) ?_
              refine V_goto (tgt := 216) dX7_nextToken_212 (by decide) ?_
              refine P_7_11 (W_7 hw) q_316 dX7_nextToken_216 ?_
              refine V_aload_n dX7_nextToken_219 0 rfl ?_
              refine V_dup dX7_nextToken_220 rfl ?_
              refine V_get (i := 10) inlX7 rfl (W_7 hw) rfl (by decide) q_315 rfl dX7_nextToken_221 ?_
              refine V_iconst (v := 1) dX7_nextToken_224 (by decide) ?_
              refine V_iadd dX7_nextToken_225 ?_
              refine P_7_10 (W_7 hw) q_315 dX7_nextToken_226 ?_
              exact V_vret dX7_nextToken_229 rfl (lfN (by simp only [if_pos c_127, if_pos c_159, if_pos c_190, if_neg c_199, if_pos c_208]))
    · refine V_aload_n dX7_nextToken_130 0 rfl ?_
      refine V_aload_n dX7_nextToken_131 0 rfl ?_
      refine V_get (i := 10) inlX7 rfl (W_7 hw) rfl (by decide) q_315 rfl dX7_nextToken_132 ?_
      refine V_aload_n dX7_nextToken_135 0 rfl ?_
      refine V_get (i := 13) inlX7 rfl (W_7 hw) rfl (by decide) q_308 rfl dX7_nextToken_136 ?_
      refine V_isub dX7_nextToken_139 ?_
      refine V_iconst (v := 2) dX7_nextToken_140 (by decide) ?_
      refine V_ic_le (tgt := 148) dX7_nextToken_141 (by decide) (fun c_141 => ?_) (fun c_141 => ?_)
      · refine V_iconst (v := 2) dX7_nextToken_148 (by decide) ?_
        refine P_7_11 (W_7 hw) q_316 dX7_nextToken_149 ?_
        refine V_goto (tgt := 229) dX7_nextToken_152 (by decide) ?_
        exact V_vret dX7_nextToken_229 rfl (lfN (by simp only [if_neg c_127, if_pos c_141]))
      · refine V_iconst (v := 0) dX7_nextToken_144 (by decide) ?_
        refine V_goto (tgt := 149) dX7_nextToken_145 (by decide) ?_
        refine P_7_11 (W_7 hw) q_316 dX7_nextToken_149 ?_
        refine V_goto (tgt := 229) dX7_nextToken_152 (by decide) ?_
        exact V_vret dX7_nextToken_229 rfl (lfN (by simp only [if_neg c_127, if_neg c_141]))
theorem tok_33 {Q : mm_g → Prop} {K : mm_g → mm_g} (hK : ∀ s, okN s → Q (K s)) : ∀ (n : Nat) (s : mm_g), okN s → Q (F_X7_nextToken_33 K n s)
  | 0, s, h => hK s h
  | n + 1, s, h => by
    unfold F_X7_nextToken_33
    by_cases c : s 7 0 2 ≤ s 7 0 4
    · rw [if_pos c]; exact hK s h
    · rw [if_neg c]
      split
      · exact hK s h
      · split
        · exact tok_33 hK n _ (okN_s h c)
        · exact tok_33 hK n _ (okN_s h c)
theorem tok_7 {P : mm_g → Prop} {Q : mm_g → Prop} (hP : ∀ s j x, P s → P (wr s 7 0 j x)) {K : mm_g → mm_g} (hK : ∀ s, P s → Q (K s)) : ∀ (n : Nat) (s : mm_g), P s → Q (F_X7_nextToken_33 K n s)
  | 0, s, h => hK s h
  | n + 1, s, h => by
    unfold F_X7_nextToken_33
    repeat' split
    all_goals first | exact hK s h | exact tok_7 hP hK n _ (hP _ _ _ (hP _ _ _ h))
theorem tok_q {s : mm_g} (h : okN s) : okT s := h.1
theorem tok_p {s : mm_g} {v t : Int32} (h : okN s) (c : s 7 0 4 ≤ s 7 0 7) (c2 : s 7 0 5 = 0) : okT (wr (wr (wr s 7 0 6 v) 7 0 5 t) 7 0 4 ((wr (wr s 7 0 6 v) 7 0 5 t) 7 0 4 + 1)) := by
  obtain ⟨⟨h1, h2, h3⟩, h4, h5⟩ := h
  have h6 := h5 c2
  rw [toI_le] at c
  have e4 : wr (wr (wr s 7 0 6 v) 7 0 5 t) 7 0 4 ((wr (wr s 7 0 6 v) 7 0 5 t) 7 0 4 + 1) 7 0 4 = s 7 0 4 + 1 := by simp [wr_at]
  have e2 : wr (wr (wr s 7 0 6 v) 7 0 5 t) 7 0 4 ((wr (wr s 7 0 6 v) 7 0 5 t) 7 0 4 + 1) 7 0 2 = s 7 0 2 := by simp [wr_at]
  unfold okT
  rw [e4, e2, i_p1 (by omega) (by omega)]
  omega
theorem okT_w {s : mm_g} {j : Nat} {x : Int32} (h4 : j ≠ 4) (h2 : j ≠ 2) (h : okT s) : okT (wr s 7 0 j x) := okT_c h (wr_o h4.symm) (wr_o h2.symm)
theorem okT_next {g : mm_g} (h : okT g) : okT (F_X7_nextToken g) := by
  have key : ∀ s, okN s → okT s := fun s q => q.1
  unfold F_X7_nextToken
  split
  · refine tok_33 (Q := okT) ?_ _ _ (okN_3 h)
    intro s q
    repeat' split
    all_goals first | with_reducible exact tok_q q | with_reducible exact tok_p q (by assumption) (by assumption) | (refine okT_w ?_ ?_ q.1 <;> decide)
  · rename_i c
    refine tok_33 (Q := okT) ?_ _ _ (okN_0 h c)
    intro s q
    repeat' split
    all_goals first | with_reducible exact tok_q q | with_reducible exact tok_p q (by assumption) (by assumption) | (refine okT_w ?_ ?_ q.1 <;> decide)
theorem next_7 {g : mm_g} : (F_X7_nextToken g) 7 7 = g 7 7 := by
  unfold F_X7_nextToken
  have hP : ∀ (s : mm_g) (j : Nat) (x : Int32), s 7 7 = g 7 7 → (wr s 7 0 j x) 7 7 = g 7 7 := fun s j x q => (wr_ne s j x (by decide)).trans q
  split
  · refine tok_7 (P := fun s => s 7 7 = g 7 7) (Q := fun s => s 7 7 = g 7 7) hP ?_ _ _ (hP _ _ _ (hP _ _ _ (hP _ _ _ rfl)))
    intro s q
    repeat' split
    all_goals first | exact q | exact hP _ _ _ (hP _ _ _ (hP _ _ _ q)) | exact hP _ _ _ q
  · refine tok_7 (P := fun s => s 7 7 = g 7 7) (Q := fun s => s 7 7 = g 7 7) hP ?_ _ _ (hP _ _ _ (hP _ _ _ (hP _ _ _ rfl)))
    intro s q
    repeat' split
    all_goals first | exact q | exact hP _ _ _ (hP _ _ _ (hP _ _ _ q)) | exact hP _ _ _ q
def F_X7_takes (g : mm_g) (x1 : Int32) : Int32 × mm_g := (if (g 7 0 5) = 1 then (if (g 7 0 6) = x1 then (1, (F_X7_nextToken g)) else ((F_X7_faults g 1).1, (F_X7_faults g 1).2)) else ((F_X7_faults g 1).1, (F_X7_faults g 1).2))
set_option maxRecDepth 100000 in
set_option maxHeartbeats 4000000 in
theorem k_X7_takes (l : Launch) (G : mm_G) {pr : Nat → Nat → Prop} {ad : Nat → Nat → Nat → Nat} (hw : mm_W pr) (g : mm_g) (x1 : Int32) (hT : okT g)  : Mt l G yX7_takes cX7_takes 2 (some .boolean) (rmk 3 105) [.ref (ad 7 0 0), .int x1] pr ad g (qM pr ad (F_X7_takes g x1)) 0 0 := by
  refine Mt_of (by decide) (Nat.le_of_ble_eq_true rfl) ?_
  show V l G RX7 cX7_takes 2 (some .boolean) _ _ 0 0 0 0 0 [(0, .ref (ad 7 0 0)), (1, .int x1)] [] pr ad g
  refine V_aload_n dX7_takes_0 0 rfl ?_
  refine V_get (i := 11) inlX7 rfl (W_7 hw) rfl (by decide) q_316 rfl dX7_takes_1 ?_
  refine V_iconst (v := 1) dX7_takes_4 (by decide) ?_
  refine V_ic_ne (tgt := 16) dX7_takes_5 (by decide) (fun c_5 => ?_) (fun c_5 => ?_)
  · refine V_aload_n dX7_takes_16 0 rfl ?_
    refine V_iconst (v := 1) dX7_takes_17 (by decide) ?_
    refine V_cV (k_X7_faults l G hw g  1 ) hy_X7_faults hi_X7_faults hs_X7_faults q_330 rfl rfl (W_7 hw) rfl rfl rfl rfl rfl ⟨by decide, by decide⟩ (Nat.le_of_ble_eq_true rfl) ⟨by decide, by decide⟩ dX7_takes_18 (V_kM ?_)
    exact V_zret dX7_takes_21 rfl (by simp only [F_X7_faults]; rfl) (lfM (by simp only [F_X7_takes, if_neg c_5]))
  · refine V_aload_n dX7_takes_8 0 rfl ?_
    refine V_get (i := 12) inlX7 rfl (W_7 hw) rfl (by decide) q_321 rfl dX7_takes_9 ?_
    refine V_iload_n dX7_takes_12 1 rfl ?_
    refine V_ic_eq (tgt := 22) dX7_takes_13 (by decide) (fun c_13 => ?_) (fun c_13 => ?_)
    · refine V_aload_n dX7_takes_22 0 rfl ?_
      refine V_cV (k_X7_nextToken l G hw g   hT) hy_X7_nextToken hi_X7_nextToken hs_X7_nextToken q_317 rfl rfl (W_7 hw) rfl rfl rfl rfl rfl ⟨by decide, by decide⟩ (Nat.le_of_ble_eq_true rfl) ⟨by decide, by decide⟩ dX7_takes_23 (V_kN ?_)
      refine V_iconst (v := 1) dX7_takes_26 (by decide) ?_
      exact V_zret dX7_takes_27 rfl rfl (lfM (by simp only [F_X7_takes, if_pos c_5, if_pos c_13]))
    · refine V_aload_n dX7_takes_16 0 rfl ?_
      refine V_iconst (v := 1) dX7_takes_17 (by decide) ?_
      refine V_cV (k_X7_faults l G hw g  1 ) hy_X7_faults hi_X7_faults hs_X7_faults q_330 rfl rfl (W_7 hw) rfl rfl rfl rfl rfl ⟨by decide, by decide⟩ (Nat.le_of_ble_eq_true rfl) ⟨by decide, by decide⟩ dX7_takes_18 (V_kM ?_)
      exact V_zret dX7_takes_21 rfl (by simp only [F_X7_faults]; rfl) (lfM (by simp only [F_X7_takes, if_pos c_5, if_neg c_13]))
theorem takes_01 {g : mm_g} {c : Int32} : (F_X7_takes g c).1 = 0 ∨ (F_X7_takes g c).1 = 1 := by
  unfold F_X7_takes F_X7_faults
  repeat' split
  all_goals first | with_reducible exact Or.inl rfl | with_reducible exact Or.inr rfl
theorem okT_takes {g : mm_g} {c : Int32} (h : okT g) : okT (F_X7_takes g c).2 := by
  unfold F_X7_takes F_X7_faults
  repeat' split
  all_goals first | with_reducible exact okT_next h | (refine okT_w ?_ ?_ h <;> decide)
theorem takes_7 {g : mm_g} {c : Int32} : (F_X7_takes g c).2 7 7 = g 7 7 := by
  unfold F_X7_takes F_X7_faults
  repeat' split
  all_goals first | with_reducible exact next_7 | exact wr_ne (t := 7) (k := 0) (t' := 7) (k' := 7) g 8 1 (by decide)
def F_X7_takesNumber (g : mm_g) (x1 : Int32) (x2 : Int32) (x3 : Int32) (x4 : Int32) : Int32 × mm_g := (if (g 7 0 5) = 2 then (if (F_X7_in ((g 7 0 6).toInt64) (x1.toInt64) (x2.toInt64)) = 0 then ((F_X7_faults g 2).1, (F_X7_faults g 2).2) else ((F_X7_takes (F_X7_nextToken (wr g 7 7 x3.toNatClampNeg (g 7 0 6))) x4).1, (F_X7_takes (F_X7_nextToken (wr g 7 7 x3.toNatClampNeg (g 7 0 6))) x4).2)) else ((F_X7_faults g 1).1, (F_X7_faults g 1).2))
set_option maxRecDepth 100000 in
set_option maxHeartbeats 4000000 in
theorem k_X7_takesNumber (l : Launch) (G : mm_G) {pr : Nat → Nat → Prop} {ad : Nat → Nat → Nat → Nat} (hw : mm_W pr) (g : mm_g) (x1 : Int32) (x2 : Int32) (x3 : Int32) (x4 : Int32) (hT : okT g) (hv : vp_in x3 36)  : Mt l G yX7_takesNumber cX7_takesNumber 5 (some .boolean) (rmk 4 126) [.ref (ad 7 0 0), .int x1, .int x2, .int x3, .int x4] pr ad g (qM pr ad (F_X7_takesNumber g x1 x2 x3 x4)) 0 0 := by
  refine Mt_of (by decide) (Nat.le_of_ble_eq_true rfl) ?_
  show V l G RX7 cX7_takesNumber 5 (some .boolean) _ _ 0 0 0 0 0 [(0, .ref (ad 7 0 0)), (1, .int x1), (2, .int x2), (3, .int x3), (4, .int x4)] [] pr ad g
  refine V_aload_n dX7_takesNumber_0 0 rfl ?_
  refine V_get (i := 11) inlX7 rfl (W_7 hw) rfl (by decide) q_316 rfl dX7_takesNumber_1 ?_
  refine V_iconst (v := 2) dX7_takesNumber_4 (by decide) ?_
  refine V_ic_ne (tgt := 23) dX7_takesNumber_5 (by decide) (fun c_5 => ?_) (fun c_5 => ?_)
  · refine V_aload_n dX7_takesNumber_23 0 rfl ?_
    refine V_aload_n dX7_takesNumber_24 0 rfl ?_
    refine V_get (i := 11) inlX7 rfl (W_7 hw) rfl (by decide) q_316 rfl dX7_takesNumber_25 ?_
    refine V_iconst (v := 2) dX7_takesNumber_28 (by decide) ?_
    refine V_ic_ne (tgt := 36) dX7_takesNumber_29 (by decide) (fun c_29 => ?_) (fun c_29 => ?_)
    · refine V_iconst (v := 1) dX7_takesNumber_36 (by decide) ?_
      refine V_cV (k_X7_faults l G hw g  1 ) hy_X7_faults hi_X7_faults hs_X7_faults q_330 rfl rfl (W_7 hw) rfl rfl rfl rfl rfl ⟨by decide, by decide⟩ (Nat.le_of_ble_eq_true rfl) ⟨by decide, by decide⟩ dX7_takesNumber_37 (V_kM ?_)
      exact V_zret dX7_takesNumber_40 rfl (by simp only [F_X7_faults]; rfl) (lfM (by simp only [F_X7_takesNumber, if_neg c_5]))
    · exact absurd c_29 c_5
  · refine V_aload_n dX7_takesNumber_8 0 rfl ?_
    refine V_get (i := 12) inlX7 rfl (W_7 hw) rfl (by decide) q_321 rfl dX7_takesNumber_9 ?_
    refine V_i2l dX7_takesNumber_12 ?_
    refine V_iload_n dX7_takesNumber_13 1 rfl ?_
    refine V_i2l dX7_takesNumber_14 ?_
    refine V_iload_n dX7_takesNumber_15 2 rfl ?_
    refine V_i2l dX7_takesNumber_16 ?_
    refine V_cS (k_X7_in l G hw g  ((g 7 0 6).toInt64) (x1.toInt64) (x2.toInt64) ) hy_X7_in hz_X7_in q_135 rfl rfl rfl rfl ⟨by decide, by decide⟩ (Nat.le_of_ble_eq_true rfl) ⟨by decide, by decide⟩ dX7_takesNumber_17 (V_kI ?_)
    refine V_if_ne (tgt := 41) dX7_takesNumber_20 (by decide) (fun c_20 => ?_) (fun c_20 => ?_)
    · refine V_aload_n dX7_takesNumber_41 0 rfl ?_
      refine V_get (i := 15) inlX7 rfl (W_7 hw) rfl (by decide) q_97 rfl dX7_takesNumber_42 ?_
      refine V_iload_n dX7_takesNumber_45 3 rfl ?_
      refine V_aload_n dX7_takesNumber_46 0 rfl ?_
      refine V_get (i := 12) inlX7 rfl (W_7 hw) rfl (by decide) q_321 rfl dX7_takesNumber_47 ?_
      refine S_7_7 (W_7 hw) (by exact hv) dX7_takesNumber_50 ?_
      refine V_aload_n dX7_takesNumber_51 0 rfl ?_
      refine V_cV (k_X7_nextToken l G hw (wr g 7 7 x3.toNatClampNeg (g 7 0 6))   (okT_7 hT)) hy_X7_nextToken hi_X7_nextToken hs_X7_nextToken q_317 rfl rfl (W_7 hw) rfl rfl rfl rfl rfl ⟨by decide, by decide⟩ (Nat.le_of_ble_eq_true rfl) ⟨by decide, by decide⟩ dX7_takesNumber_52 (V_kN ?_)
      refine V_aload_n dX7_takesNumber_55 0 rfl ?_
      refine V_iload dX7_takesNumber_56 4 rfl ?_
      refine V_cV (k_X7_takes l G hw (F_X7_nextToken (wr g 7 7 x3.toNatClampNeg (g 7 0 6)))  x4 (okT_next (okT_7 hT))) hy_X7_takes hi_X7_takes hs_X7_takes q_326 rfl rfl (W_7 hw) rfl rfl rfl rfl rfl ⟨by decide, by decide⟩ (Nat.le_of_ble_eq_true rfl) ⟨by decide, by decide⟩ dX7_takesNumber_58 (V_kM ?_)
      exact V_zret dX7_takesNumber_61 rfl (nz01 takes_01) (lfM (by simp only [F_X7_takesNumber, if_pos c_5, if_neg c_20]))
    · refine V_aload_n dX7_takesNumber_23 0 rfl ?_
      refine V_aload_n dX7_takesNumber_24 0 rfl ?_
      refine V_get (i := 11) inlX7 rfl (W_7 hw) rfl (by decide) q_316 rfl dX7_takesNumber_25 ?_
      refine V_iconst (v := 2) dX7_takesNumber_28 (by decide) ?_
      refine V_ic_ne (tgt := 36) dX7_takesNumber_29 (by decide) (fun c_29 => ?_) (fun c_29 => ?_)
      · exact absurd c_5 c_29
      · refine V_iconst (v := 2) dX7_takesNumber_32 (by decide) ?_
        refine V_goto (tgt := 37) dX7_takesNumber_33 (by decide) ?_
        refine V_cV (k_X7_faults l G hw g  2 ) hy_X7_faults hi_X7_faults hs_X7_faults q_330 rfl rfl (W_7 hw) rfl rfl rfl rfl rfl ⟨by decide, by decide⟩ (Nat.le_of_ble_eq_true rfl) ⟨by decide, by decide⟩ dX7_takesNumber_37 (V_kM ?_)
        exact V_zret dX7_takesNumber_40 rfl (by simp only [F_X7_faults]; rfl) (lfM (by simp only [F_X7_takesNumber, if_pos c_5, if_pos c_20]))
theorem okT_tn {g : mm_g} {a b c d : Int32} (h : okT g) : okT (F_X7_takesNumber g a b c d).2 := by
  unfold F_X7_takesNumber F_X7_faults
  repeat' split
  all_goals first | with_reducible exact okT_takes (okT_next (okT_7 h)) | (refine okT_w ?_ ?_ h <;> decide)
theorem tn_0 {g : mm_g} {a b c d : Int32} (hc : c.toNatClampNeg ≠ 0) : (F_X7_takesNumber g a b c d).2 7 7 0 = g 7 7 0 := by
  unfold F_X7_takesNumber F_X7_faults
  repeat' split
  all_goals first | (rw [takes_7, next_7]; exact wr_o hc.symm) | exact wr_k (g := g) (t := 7) (k := 0) (t' := 7) (k' := 7) (j := 8) (x := 1) (by decide) | exact wr_k (g := g) (t := 7) (k := 0) (t' := 7) (k' := 7) (j := 8) (x := 2) (by decide)
theorem tn_01 {g : mm_g} {a b c d : Int32} : (F_X7_takesNumber g a b c d).1 = 0 ∨ (F_X7_takesNumber g a b c d).1 = 1 := by
  unfold F_X7_takesNumber F_X7_faults
  repeat' split
  all_goals first | with_reducible exact takes_01 | exact Or.inl rfl
def okr (g : mm_g) : Prop := 0 ≤ (g 7 7 0).toInt ∧ (g 7 7 0).toInt ≤ 9
theorem ix_b9 {g : mm_g} (h : okr g) (h2 : ¬ g 7 7 0 = 9) : vp_in (g 7 7 0) 9 := vp_in_iff.mpr (by
  have h3 := mm_ne h2 (n := 9) rfl
  have h4 := h.1
  have h5 := h.2
  omega)
def F_X7_readBed (g : mm_g) : Int32 × mm_g := (if (g 7 0 5) = 1 then (if (F_X7_kindBy (g 7 0 6)) = 0 then ((F_X7_faults g 1).1, (F_X7_faults g 1).2) else (if (g 7 7 0) = 9 then ((F_X7_faults g 3).1, (F_X7_faults g 3).2) else (if (F_X7_takesNumber (wr (wr (F_X7_nextToken g) 7 7 (9 + (g 7 7 0)).toNatClampNeg (F_X7_kindBy (g 7 0 6))) 7 7 0 (((wr (F_X7_nextToken g) 7 7 (9 + (g 7 7 0)).toNatClampNeg (F_X7_kindBy (g 7 0 6))) 7 7 0) + 1)) 0 99 (18 + (g 7 7 0)) 44).1 = 0 then (0, (F_X7_takesNumber (wr (wr (F_X7_nextToken g) 7 7 (9 + (g 7 7 0)).toNatClampNeg (F_X7_kindBy (g 7 0 6))) 7 7 0 (((wr (F_X7_nextToken g) 7 7 (9 + (g 7 7 0)).toNatClampNeg (F_X7_kindBy (g 7 0 6))) 7 7 0) + 1)) 0 99 (18 + (g 7 7 0)) 44).2) else (if (F_X7_takesNumber ((F_X7_takesNumber (wr (wr (F_X7_nextToken g) 7 7 (9 + (g 7 7 0)).toNatClampNeg (F_X7_kindBy (g 7 0 6))) 7 7 0 (((wr (F_X7_nextToken g) 7 7 (9 + (g 7 7 0)).toNatClampNeg (F_X7_kindBy (g 7 0 6))) 7 7 0) + 1)) 0 99 (18 + (g 7 7 0)) 44).2) 0 9 (27 + (g 7 7 0)) 59).1 = 0 then (0, (F_X7_takesNumber ((F_X7_takesNumber (wr (wr (F_X7_nextToken g) 7 7 (9 + (g 7 7 0)).toNatClampNeg (F_X7_kindBy (g 7 0 6))) 7 7 0 (((wr (F_X7_nextToken g) 7 7 (9 + (g 7 7 0)).toNatClampNeg (F_X7_kindBy (g 7 0 6))) 7 7 0) + 1)) 0 99 (18 + (g 7 7 0)) 44).2) 0 9 (27 + (g 7 7 0)) 59).2) else (1, (F_X7_takesNumber ((F_X7_takesNumber (wr (wr (F_X7_nextToken g) 7 7 (9 + (g 7 7 0)).toNatClampNeg (F_X7_kindBy (g 7 0 6))) 7 7 0 (((wr (F_X7_nextToken g) 7 7 (9 + (g 7 7 0)).toNatClampNeg (F_X7_kindBy (g 7 0 6))) 7 7 0) + 1)) 0 99 (18 + (g 7 7 0)) 44).2) 0 9 (27 + (g 7 7 0)) 59).2))))) else ((F_X7_faults g 1).1, (F_X7_faults g 1).2))
set_option maxRecDepth 100000 in
set_option maxHeartbeats 4000000 in
theorem k_X7_readBed (l : Launch) (G : mm_G) {pr : Nat → Nat → Prop} {ad : Nat → Nat → Nat → Nat} (hw : mm_W pr) (g : mm_g) (hT : okT g) (hr : okr g)  : Mt l G yX7_readBed cX7_readBed 3 (some .boolean) (rmk 5 150) [.ref (ad 7 0 0)] pr ad g (qM pr ad (F_X7_readBed g)) 0 0 := by
  refine Mt_of (by decide) (Nat.le_of_ble_eq_true rfl) ?_
  show V l G RX7 cX7_readBed 3 (some .boolean) _ _ 0 0 0 0 0 [(0, .ref (ad 7 0 0))] [] pr ad g
  refine V_aload_n dX7_readBed_0 0 rfl ?_
  refine V_get (i := 15) inlX7 rfl (W_7 hw) rfl (by decide) q_97 rfl dX7_readBed_1 ?_
  refine V_iconst (v := 0) dX7_readBed_4 (by decide) ?_
  refine L_7_7_l 0 rfl (W_7 hw) (by unfold vp_in; decide) dX7_readBed_5 ?_
  refine V_istore_n (L2 := [(1, .int (g 7 7 0)), (0, .ref (ad 7 0 0))]) dX7_readBed_6 (by decide) rfl ?_
  refine V_aload_n dX7_readBed_7 1 rfl ?_
  refine V_get (i := 11) inlX7 rfl (W_7 hw) rfl (by decide) q_316 rfl dX7_readBed_8 ?_
  refine V_iconst (v := 1) dX7_readBed_11 (by decide) ?_
  refine V_ic_ne (tgt := 25) dX7_readBed_12 (by decide) (fun c_12 => ?_) (fun c_12 => ?_)
  · refine V_iconst (v := 0) dX7_readBed_25 (by decide) ?_
    refine V_istore_n (L2 := [(2, .int 0), (1, .int (g 7 7 0)), (0, .ref (ad 7 0 0))]) dX7_readBed_26 (by decide) rfl ?_
    refine V_iload_n dX7_readBed_27 0 rfl ?_
    refine V_if_eq (tgt := 37) dX7_readBed_28 (by decide) (fun c_28 => ?_) (fun c_28 => ?_)
    · refine V_aload_n dX7_readBed_37 2 rfl ?_
      refine V_iload_n dX7_readBed_38 0 rfl ?_
      refine V_if_ne (tgt := 46) dX7_readBed_39 (by decide) (fun c_39 => ?_) (fun c_39 => ?_)
      · exact absurd (by decide) c_39
      · refine V_iconst (v := 1) dX7_readBed_42 (by decide) ?_
        refine V_goto (tgt := 47) dX7_readBed_43 (by decide) ?_
        refine V_cV (k_X7_faults l G hw g  1 ) hy_X7_faults hi_X7_faults hs_X7_faults q_330 rfl rfl (W_7 hw) rfl rfl rfl rfl rfl ⟨by decide, by decide⟩ (Nat.le_of_ble_eq_true rfl) ⟨by decide, by decide⟩ dX7_readBed_47 (V_kM ?_)
        exact V_zret dX7_readBed_50 rfl (by simp only [F_X7_faults]; rfl) (lfM (by simp only [F_X7_readBed, if_neg c_12]))
    · exact absurd (by decide) c_28
  · refine V_aload_n dX7_readBed_15 1 rfl ?_
    refine V_get (i := 12) inlX7 rfl (W_7 hw) rfl (by decide) q_321 rfl dX7_readBed_16 ?_
    refine V_cS (k_X7_kindBy l G hw g  (g 7 0 6) ) hy_X7_kindBy hz_X7_kindBy q_342 rfl rfl rfl rfl ⟨by decide, by decide⟩ (Nat.le_of_ble_eq_true rfl) ⟨by decide, by decide⟩ dX7_readBed_19 (V_kI ?_)
    refine V_goto (tgt := 26) dX7_readBed_22 (by decide) ?_
    refine V_istore_n (L2 := [(2, .int (F_X7_kindBy (g 7 0 6))), (1, .int (g 7 7 0)), (0, .ref (ad 7 0 0))]) dX7_readBed_26 (by decide) rfl ?_
    refine V_iload_n dX7_readBed_27 0 rfl ?_
    refine V_if_eq (tgt := 37) dX7_readBed_28 (by decide) (fun c_28 => ?_) (fun c_28 => ?_)
    · refine V_aload_n dX7_readBed_37 2 rfl ?_
      refine V_iload_n dX7_readBed_38 0 rfl ?_
      refine V_if_ne (tgt := 46) dX7_readBed_39 (by decide) (fun c_39 => ?_) (fun c_39 => ?_)
      · exact absurd c_28 c_39
      · refine V_iconst (v := 1) dX7_readBed_42 (by decide) ?_
        refine V_goto (tgt := 47) dX7_readBed_43 (by decide) ?_
        refine V_cV (k_X7_faults l G hw g  1 ) hy_X7_faults hi_X7_faults hs_X7_faults q_330 rfl rfl (W_7 hw) rfl rfl rfl rfl rfl ⟨by decide, by decide⟩ (Nat.le_of_ble_eq_true rfl) ⟨by decide, by decide⟩ dX7_readBed_47 (V_kM ?_)
        exact V_zret dX7_readBed_50 rfl (by simp only [F_X7_faults]; rfl) (lfM (by simp only [F_X7_readBed, if_pos c_12, if_pos c_28]))
    · refine V_iload_n dX7_readBed_31 1 rfl ?_
      refine V_bipush (v := 9) dX7_readBed_32 (by decide) ?_
      refine V_ic_ne (tgt := 51) dX7_readBed_34 (by decide) (fun c_34 => ?_) (fun c_34 => ?_)
      · refine V_aload_n dX7_readBed_51 2 rfl ?_
        refine V_cV (k_X7_nextToken l G hw g   hT) hy_X7_nextToken hi_X7_nextToken hs_X7_nextToken q_317 rfl rfl (W_7 hw) rfl rfl rfl rfl rfl ⟨by decide, by decide⟩ (Nat.le_of_ble_eq_true rfl) ⟨by decide, by decide⟩ dX7_readBed_52 (V_kN ?_)
        refine V_aload_n dX7_readBed_55 2 rfl ?_
        refine V_get (i := 15) inlX7 rfl (W_7 hw) rfl (by decide) q_97 rfl dX7_readBed_56 ?_
        refine V_bipush (v := 9) dX7_readBed_59 (by decide) ?_
        refine V_iload_n dX7_readBed_61 1 rfl ?_
        refine V_iadd dX7_readBed_62 ?_
        refine V_iload_n dX7_readBed_63 0 rfl ?_
        refine S_7_7 (W_7 hw) (by exact ix_9 (ix_b9 hr c_34)) dX7_readBed_64 ?_
        refine V_aload_n dX7_readBed_65 2 rfl ?_
        refine V_get (i := 15) inlX7 rfl (W_7 hw) rfl (by decide) q_97 rfl dX7_readBed_66 ?_
        refine V_iconst (v := 0) dX7_readBed_69 (by decide) ?_
        refine V_dup2 dX7_readBed_70 rfl rfl ?_
        refine L_7_7_l 0 rfl (W_7 hw) (by unfold vp_in; decide) dX7_readBed_71 ?_
        refine V_iconst (v := 1) dX7_readBed_72 (by decide) ?_
        refine V_iadd dX7_readBed_73 ?_
        refine S_7_7_l 0 rfl (W_7 hw) (by unfold vp_in; decide) dX7_readBed_74 ?_
        refine V_aload_n dX7_readBed_75 2 rfl ?_
        refine V_iconst (v := 0) dX7_readBed_76 (by decide) ?_
        refine V_bipush (v := 99) dX7_readBed_77 (by decide) ?_
        refine V_bipush (v := 18) dX7_readBed_79 (by decide) ?_
        refine V_iload_n dX7_readBed_81 1 rfl ?_
        refine V_iadd dX7_readBed_82 ?_
        refine V_bipush (v := 44) dX7_readBed_83 (by decide) ?_
        refine V_cV (k_X7_takesNumber l G hw (wr (wr (F_X7_nextToken g) 7 7 (9 + (g 7 7 0)).toNatClampNeg (F_X7_kindBy (g 7 0 6))) 7 7 0 (((wr (F_X7_nextToken g) 7 7 (9 + (g 7 7 0)).toNatClampNeg (F_X7_kindBy (g 7 0 6))) 7 7 0) + 1))  0 99 (18 + (g 7 7 0)) 44 (okT_7 (okT_7 (okT_next hT))) (ix_18 (ix_b9 hr c_34))) hy_X7_takesNumber hi_X7_takesNumber hs_X7_takesNumber q_334 rfl rfl (W_7 hw) rfl rfl rfl rfl rfl ⟨by decide, by decide⟩ (Nat.le_of_ble_eq_true rfl) ⟨by decide, by decide⟩ dX7_readBed_85 (V_kM ?_)
        refine V_if_eq (tgt := 111) dX7_readBed_88 (by decide) (fun c_88 => ?_) (fun c_88 => ?_)
        · refine V_iconst (v := 0) dX7_readBed_111 (by decide) ?_
          exact V_zret dX7_readBed_112 rfl rfl (lfM (by simp only [F_X7_readBed, if_pos c_12, if_neg c_28, if_neg c_34, if_pos c_88]))
        · refine V_aload_n dX7_readBed_91 2 rfl ?_
          refine V_iconst (v := 0) dX7_readBed_92 (by decide) ?_
          refine V_bipush (v := 9) dX7_readBed_93 (by decide) ?_
          refine V_bipush (v := 27) dX7_readBed_95 (by decide) ?_
          refine V_iload_n dX7_readBed_97 1 rfl ?_
          refine V_iadd dX7_readBed_98 ?_
          refine V_bipush (v := 59) dX7_readBed_99 (by decide) ?_
          refine V_cV (k_X7_takesNumber l G hw ((F_X7_takesNumber (wr (wr (F_X7_nextToken g) 7 7 (9 + (g 7 7 0)).toNatClampNeg (F_X7_kindBy (g 7 0 6))) 7 7 0 (((wr (F_X7_nextToken g) 7 7 (9 + (g 7 7 0)).toNatClampNeg (F_X7_kindBy (g 7 0 6))) 7 7 0) + 1)) 0 99 (18 + (g 7 7 0)) 44).2)  0 9 (27 + (g 7 7 0)) 59 (okT_tn (okT_7 (okT_7 (okT_next hT)))) (ix_27 (ix_b9 hr c_34))) hy_X7_takesNumber hi_X7_takesNumber hs_X7_takesNumber q_334 rfl rfl (W_7 hw) rfl rfl rfl rfl rfl ⟨by decide, by decide⟩ (Nat.le_of_ble_eq_true rfl) ⟨by decide, by decide⟩ dX7_readBed_101 (V_kM ?_)
          refine V_if_eq (tgt := 111) dX7_readBed_104 (by decide) (fun c_104 => ?_) (fun c_104 => ?_)
          · refine V_iconst (v := 0) dX7_readBed_111 (by decide) ?_
            exact V_zret dX7_readBed_112 rfl rfl (lfM (by simp only [F_X7_readBed, if_pos c_12, if_neg c_28, if_neg c_34, if_neg c_88, if_pos c_104]))
          · refine V_iconst (v := 1) dX7_readBed_107 (by decide) ?_
            refine V_goto (tgt := 112) dX7_readBed_108 (by decide) ?_
            exact V_zret dX7_readBed_112 rfl rfl (lfM (by simp only [F_X7_readBed, if_pos c_12, if_neg c_28, if_neg c_34, if_neg c_88, if_neg c_104]))
      · refine V_aload_n dX7_readBed_37 2 rfl ?_
        refine V_iload_n dX7_readBed_38 0 rfl ?_
        refine V_if_ne (tgt := 46) dX7_readBed_39 (by decide) (fun c_39 => ?_) (fun c_39 => ?_)
        · refine V_iconst (v := 3) dX7_readBed_46 (by decide) ?_
          refine V_cV (k_X7_faults l G hw g  3 ) hy_X7_faults hi_X7_faults hs_X7_faults q_330 rfl rfl (W_7 hw) rfl rfl rfl rfl rfl ⟨by decide, by decide⟩ (Nat.le_of_ble_eq_true rfl) ⟨by decide, by decide⟩ dX7_readBed_47 (V_kM ?_)
          exact V_zret dX7_readBed_50 rfl (by simp only [F_X7_faults]; rfl) (lfM (by simp only [F_X7_readBed, if_pos c_12, if_neg c_28, if_pos c_34]))
        · exact absurd c_39 c_28
theorem off_0 {x c : Int32} {k : Nat} (h : vp_in x 9) (hc : c = nI k) (hk : 0 < k ∧ k < 100) : (c + x).toNatClampNeg ≠ 0 := by
  obtain ⟨i, hi, rfl⟩ := vp_in_of h (by decide)
  rw [hc, nI_add, nI_clamp (by omega)]
  omega
theorem rb_c {g : mm_g} (hT : okT g) (hr : okr g) : okT (F_X7_readBed g).2 ∧ ((F_X7_readBed g).1 = 0 ∨ (F_X7_readBed g).1 = 1) ∧ (((F_X7_readBed g).2 7 7 0 = g 7 7 0 ∧ (F_X7_readBed g).1 = 0) ∨ (((F_X7_readBed g).2 7 7 0).toInt = (g 7 7 0).toInt + 1 ∧ (g 7 7 0).toInt < 9)) := by
  have hf : ∀ n : Int32, okT (wr g 7 0 8 n) ∧ ((0 : Int32) = 0 ∨ (0 : Int32) = 1) ∧ ((wr g 7 0 8 n 7 7 0 = g 7 7 0 ∧ (0 : Int32) = 0) ∨ ((wr g 7 0 8 n 7 7 0).toInt = (g 7 7 0).toInt + 1 ∧ (g 7 7 0).toInt < 9)) := fun n => ⟨okT_w (j := 8) (by decide) (by decide) hT, Or.inl rfl, Or.inl ⟨wr_k (t := 7) (k := 0) (t' := 7) (k' := 7) (by decide), rfl⟩⟩
  unfold F_X7_readBed F_X7_faults
  split
  · split
    · exact hf 1
    · split
      · exact hf 3
      · rename_i c3
        have B8 := ix_b9 hr c3
        have hlt := (vp_in_iff.mp B8).2
        have hge := hr.1
        have hN : okT (wr (wr (F_X7_nextToken g) 7 7 (9 + g 7 7 0).toNatClampNeg (F_X7_kindBy (g 7 0 6))) 7 7 0 (wr (F_X7_nextToken g) 7 7 (9 + g 7 7 0).toNatClampNeg (F_X7_kindBy (g 7 0 6)) 7 7 0 + 1)) := okT_7 (okT_7 (okT_next hT))
        have hm : (wr (wr (F_X7_nextToken g) 7 7 (9 + g 7 7 0).toNatClampNeg (F_X7_kindBy (g 7 0 6))) 7 7 0 (wr (F_X7_nextToken g) 7 7 (9 + g 7 7 0).toNatClampNeg (F_X7_kindBy (g 7 0 6)) 7 7 0 + 1)) 7 7 0 = g 7 7 0 + 1 := by
          rw [wr_at, if_pos ⟨rfl, rfl, rfl⟩, wr_o (off_0 (c := 9) B8 (k := 9) rfl (by decide)).symm, next_7]
        generalize wr (wr (F_X7_nextToken g) 7 7 (9 + g 7 7 0).toNatClampNeg (F_X7_kindBy (g 7 0 6))) 7 7 0 (wr (F_X7_nextToken g) 7 7 (9 + g 7 7 0).toNatClampNeg (F_X7_kindBy (g 7 0 6)) 7 7 0 + 1) = m at hN hm ⊢
        have hi : (g 7 7 0 + 1).toInt = (g 7 7 0).toInt + 1 := i_p1 (by omega) (by omega)
        have h1 : (F_X7_takesNumber m 0 99 (18 + g 7 7 0) 44).2 7 7 0 = g 7 7 0 + 1 := by rw [tn_0 (off_0 (c := 18) B8 (k := 18) rfl (by decide)), hm]
        have h2 : (F_X7_takesNumber (F_X7_takesNumber m 0 99 (18 + g 7 7 0) 44).2 0 9 (27 + g 7 7 0) 59).2 7 7 0 = g 7 7 0 + 1 := by rw [tn_0 (off_0 (c := 27) B8 (k := 27) rfl (by decide)), h1]
        split
        · exact ⟨okT_tn hN, Or.inl rfl, Or.inr ⟨by show ((F_X7_takesNumber m 0 99 (18 + g 7 7 0) 44).2 7 7 0).toInt = _; rw [h1, hi], by omega⟩⟩
        · split
          · exact ⟨okT_tn (okT_tn hN), Or.inl rfl, Or.inr ⟨by show ((F_X7_takesNumber (F_X7_takesNumber m 0 99 (18 + g 7 7 0) 44).2 0 9 (27 + g 7 7 0) 59).2 7 7 0).toInt = _; rw [h2, hi], by omega⟩⟩
          · exact ⟨okT_tn (okT_tn hN), Or.inr rfl, Or.inr ⟨by show ((F_X7_takesNumber (F_X7_takesNumber m 0 99 (18 + g 7 7 0) 44).2 0 9 (27 + g 7 7 0) 59).2 7 7 0).toInt = _; rw [h2, hi], by omega⟩⟩
  · exact hf 1
theorem okT_rb {g : mm_g} (hT : okT g) (hr : okr g) : okT (F_X7_readBed g).2 := (rb_c hT hr).1
theorem rb_01x {g : mm_g} (hT : okT g) (hr : okr g) : (F_X7_readBed g).1 = 0 ∨ (F_X7_readBed g).1 = 1 := (rb_c hT hr).2.1
theorem rb_m {g : mm_g} {a : Int32} {n : Nat} (hT : okT g) (hr : okr g) (ha : ¬ a = 0) (hm : 2 * (9 - (g 7 7 0).toInt.toNat) + (if a = 0 then 0 else 1) < n + 1) : okr (F_X7_readBed g).2 ∧ 2 * (9 - ((F_X7_readBed g).2 7 7 0).toInt.toNat) + (if (F_X7_readBed g).1 = 0 then 0 else 1) < n := by
  rw [if_neg ha] at hm
  have h1 := hr.1
  have h2 := hr.2
  rcases (rb_c hT hr).2.2 with ⟨q1, q2⟩ | ⟨q1, q2⟩
  · unfold okr
    rw [q1, if_pos q2]
    omega
  · unfold okr
    rw [q1]
    split <;> omega
theorem okT_z {g : mm_g} (h : 0 ≤ (g 7 0 2).toInt ∧ (g 7 0 2).toInt ≤ 100) : okT (wr g 7 0 4 0) := by
  unfold okT
  rw [wr_at _ 7 0 4, if_pos ⟨rfl, rfl, rfl⟩, wr_o (by decide)]
  exact ⟨by decide, h.1, h.2⟩
theorem rz_s {s : mm_g} {j : Nat} (hz : j ≠ 0 → s 7 7 0 = 0) (hj : j ≤ (36 : Int32).toInt.toNat) (c : ¬ (36 : Int32) ≤ nI j) : wr s 7 7 (nI j).toNatClampNeg 0 7 7 0 = 0 := by
  have h36 : (36 : Int32).toInt.toNat = 36 := rfl
  rw [nI_clamp (by omega), wr_at]
  by_cases h : j = 0
  · rw [if_pos ⟨rfl, rfl, h.symm⟩]
  · rw [if_neg (fun q => h q.2.2.symm)]
    exact hz h
theorem rz_e {s : mm_g} {j : Nat} (hz : j ≠ 0 → s 7 7 0 = 0) (he : (36 : Int32) ≤ nI j) : s 7 7 0 = 0 := hz (fun q => by
  rw [q] at he
  exact absurd he (by decide))
theorem okr_4 {s : mm_g} (h : s 7 7 0 = 0) : okr (F_X7_takesNumber (F_X7_takesNumber (F_X7_takesNumber (F_X7_takes (F_X7_nextToken s) 108).2 0 8 1 44).2 0 8 2 44).2 1 9 3 59).2 := by
  unfold okr
  rw [tn_0 (by decide), tn_0 (by decide), tn_0 (by decide), takes_7, next_7, h]
  decide
theorem rf_m {s : mm_g} (h : okr s) : 2 * (9 - (s 7 7 0).toInt.toNat) + (if (1 : Int32) = 0 then 0 else 1) < 21 := by
  have h1 := h.1
  split <;> omega
def F_X7_readFlat_7 (K : Nat → mm_g → Int32 × mm_g) : Nat → Nat → mm_g → Int32 × mm_g
  | 0, j, s => K j s
  | n + 1, j, s => (if 36 ≤ (nI j) then K j s else F_X7_readFlat_7  K n (j + 1) (wr s 7 7 (nI j).toNatClampNeg 0))
def F_X7_readFlat_82 (K : Int32 → mm_g → Int32 × mm_g) : Nat → Int32 → mm_g → Int32 × mm_g
  | 0, a, s => K a s
  | n + 1, a, s => (if a = 0 then K a s else (if (s 7 0 5) = 3 then (if (s 7 7 0) = 0 then F_X7_readFlat_82  K n ((F_X7_readBed s).1) ((F_X7_readBed s).2) else K a s) else F_X7_readFlat_82  K n ((F_X7_readBed s).1) ((F_X7_readBed s).2)))
def F_X7_readFlat (g : mm_g) : Int32 × mm_g := (F_X7_readFlat_7  (fun (j7 : Nat) (s7 : mm_g) => (if (F_X7_takes (F_X7_nextToken s7) 108).1 = 0 then (0, (F_X7_takes (F_X7_nextToken s7) 108).2) else (if (F_X7_takesNumber ((F_X7_takes (F_X7_nextToken s7) 108).2) 0 8 1 44).1 = 0 then (0, (F_X7_takesNumber ((F_X7_takes (F_X7_nextToken s7) 108).2) 0 8 1 44).2) else (if (F_X7_takesNumber ((F_X7_takesNumber ((F_X7_takes (F_X7_nextToken s7) 108).2) 0 8 1 44).2) 0 8 2 44).1 = 0 then (0, (F_X7_takesNumber ((F_X7_takesNumber ((F_X7_takes (F_X7_nextToken s7) 108).2) 0 8 1 44).2) 0 8 2 44).2) else (if (F_X7_takesNumber ((F_X7_takesNumber ((F_X7_takesNumber ((F_X7_takes (F_X7_nextToken s7) 108).2) 0 8 1 44).2) 0 8 2 44).2) 1 9 3 59).1 = 0 then (0, (F_X7_takesNumber ((F_X7_takesNumber ((F_X7_takesNumber ((F_X7_takes (F_X7_nextToken s7) 108).2) 0 8 1 44).2) 0 8 2 44).2) 1 9 3 59).2) else (F_X7_readFlat_82  (fun (a82 : Int32) (s82 : mm_g) => (a82, s82)) 21 1 ((F_X7_takesNumber ((F_X7_takesNumber ((F_X7_takesNumber ((F_X7_takes (F_X7_nextToken s7) 108).2) 0 8 1 44).2) 0 8 2 44).2) 1 9 3 59).2))))))) ((36 : Int32).toInt.toNat + 1) 0 (wr g 7 0 4 0))
set_option maxRecDepth 100000 in
set_option maxHeartbeats 4000000 in
theorem w_X7_readFlat_7 (l : Launch) (G : mm_G) {pr : Nat → Nat → Prop} {ad : Nat → Nat → Nat → Nat} (hw : mm_W pr)  (K : Nat → mm_g → Int32 × mm_g) (hK : ∀ (j : Nat) (s : mm_g) (hj : j ≤ (36 : Int32).toInt.toNat) (hT : okT s) (hz : j ≠ 0 → s 7 7 0 = 0) (he : (36 : Int32) ≤ nI j), V l G RX7 cX7_readFlat 2 (some .boolean) (rmk 6 172) (qM pr ad (K j s)) 0 0 0 0 26 [(0, .ref (ad 7 0 0)), (1, .int (nI j))] [] pr ad s) : ∀ (n : Nat) (j : Nat) (s : mm_g) (hj : j ≤ (36 : Int32).toInt.toNat) (hT : okT s) (hz : j ≠ 0 → s 7 7 0 = 0) (hm : (36 : Int32).toInt.toNat - j < n), V l G RX7 cX7_readFlat 2 (some .boolean) (rmk 6 172) (qM pr ad (F_X7_readFlat_7  K n j s)) 0 0 0 0 7 [(0, .ref (ad 7 0 0)), (1, .int (nI j))] [] pr ad s := by
  intro n
  induction n with
  | zero => intro j s hj hT hz hm; exact absurd hm (Nat.not_lt_zero _)
  | succ n ih =>
      intro j s hj hT hz hm
      refine V_iload_n dX7_readFlat_7 1 rfl ?_
      refine V_bipush (v := 36) dX7_readFlat_8 (by decide) ?_
      refine V_ic_ge (tgt := 26) dX7_readFlat_10 (by decide) (fun c_10 => ?_) (fun c_10 => ?_)
      · refine V_rp (R2 := K j s) (by simp only [F_X7_readFlat_7, if_pos c_10]) ?_
        refine V_lp [0, 1] rfl ?_
        exact hK j s (by assumption) (by assumption) (by assumption) (by exact c_10)
      · refine V_aload_n dX7_readFlat_13 0 rfl ?_
        refine V_get (i := 15) inlX7 rfl (W_7 hw) rfl (by decide) q_97 rfl dX7_readFlat_14 ?_
        refine V_iload_n dX7_readFlat_17 1 rfl ?_
        refine V_iconst (v := 0) dX7_readFlat_18 (by decide) ?_
        refine S_7_7 (W_7 hw) (by exact ix_x hj c_10 (by decide)) dX7_readFlat_19 ?_
        refine V_iinc (v := (nI (j + 1))) (L2 := [(1, .int (nI (j + 1))), (0, .ref (ad 7 0 0))]) dX7_readFlat_20 1 rfl (nI_1 _) (by decide) rfl ?_
        refine V_goto (tgt := 7) dX7_readFlat_23 (by decide) ?_
        refine V_rp (R2 := F_X7_readFlat_7  K n (j + 1) (wr s 7 7 (nI j).toNatClampNeg 0)) (by simp only [F_X7_readFlat_7, if_neg c_10]) ?_
        refine V_lp [1, 0] rfl ?_
        exact ih (j + 1) (wr s 7 7 (nI j).toNatClampNeg 0) (by exact (lp_up hj c_10 hm).1) (by exact okT_7 hT) (by exact fun _ => rz_s hz hj c_10) (by exact (lp_up hj c_10 hm).2) 
set_option maxRecDepth 100000 in
set_option maxHeartbeats 4000000 in
theorem w_X7_readFlat_82 (l : Launch) (G : mm_G) {pr : Nat → Nat → Prop} {ad : Nat → Nat → Nat → Nat} (hw : mm_W pr)  (K : Int32 → mm_g → Int32 × mm_g) (hK : ∀ (a : Int32) (s : mm_g) (hT : okT s) (hr : okr s) (h01 : a = 0 ∨ a = 1), V l G RX7 cX7_readFlat 2 (some .boolean) (rmk 6 172) (qM pr ad (K a s)) 0 0 0 0 111 [(0, .ref (ad 7 0 0)), (1, .int a)] [] pr ad s) : ∀ (n : Nat) (a : Int32) (s : mm_g) (hT : okT s) (hr : okr s) (h01 : a = 0 ∨ a = 1) (hm : 2 * (9 - (s 7 7 0).toInt.toNat) + (if a = 0 then 0 else 1) < n), V l G RX7 cX7_readFlat 2 (some .boolean) (rmk 6 172) (qM pr ad (F_X7_readFlat_82  K n a s)) 0 0 0 0 82 [(0, .ref (ad 7 0 0)), (1, .int a)] [] pr ad s := by
  intro n
  induction n with
  | zero => intro a s hT hr h01 hm; exact absurd hm (Nat.not_lt_zero _)
  | succ n ih =>
      intro a s hT hr h01 hm
      refine V_iload_n dX7_readFlat_82 1 rfl ?_
      refine V_if_eq (tgt := 111) dX7_readFlat_83 (by decide) (fun c_83 => ?_) (fun c_83 => ?_)
      · refine V_rp (R2 := K a s) (by simp only [F_X7_readFlat_82, if_pos c_83]) ?_
        refine V_lp [0, 1] rfl ?_
        exact hK a s (by assumption) (by assumption) (by assumption)
      · refine V_aload_n dX7_readFlat_86 0 rfl ?_
        refine V_get (i := 11) inlX7 rfl (W_7 hw) rfl (by decide) q_316 rfl dX7_readFlat_87 ?_
        refine V_iconst (v := 3) dX7_readFlat_90 (by decide) ?_
        refine V_ic_ne (tgt := 103) dX7_readFlat_91 (by decide) (fun c_91 => ?_) (fun c_91 => ?_)
        · refine V_aload_n dX7_readFlat_103 0 rfl ?_
          refine V_cV (k_X7_readBed l G hw s   hT hr) hy_X7_readBed hi_X7_readBed hs_X7_readBed q_338 rfl rfl (W_7 hw) rfl rfl rfl rfl rfl ⟨by decide, by decide⟩ (Nat.le_of_ble_eq_true rfl) ⟨by decide, by decide⟩ dX7_readFlat_104 (V_kM ?_)
          refine V_istore_n (L2 := [(1, .int ((F_X7_readBed s).1)), (0, .ref (ad 7 0 0))]) dX7_readFlat_107 (by decide) rfl ?_
          refine V_goto (tgt := 82) dX7_readFlat_108 (by decide) ?_
          refine V_rp (R2 := F_X7_readFlat_82  K n ((F_X7_readBed s).1) ((F_X7_readBed s).2)) (by simp only [F_X7_readFlat_82, if_neg c_83, if_neg c_91]) ?_
          refine V_lp [1, 0] rfl ?_
          exact ih ((F_X7_readBed s).1) ((F_X7_readBed s).2) (by exact okT_rb hT hr) (by exact (rb_m hT hr c_83 hm).1) (by exact rb_01x hT hr) (by exact (rb_m hT hr c_83 hm).2) 
        · refine V_aload_n dX7_readFlat_94 0 rfl ?_
          refine V_get (i := 15) inlX7 rfl (W_7 hw) rfl (by decide) q_97 rfl dX7_readFlat_95 ?_
          refine V_iconst (v := 0) dX7_readFlat_98 (by decide) ?_
          refine L_7_7_l 0 rfl (W_7 hw) (by unfold vp_in; decide) dX7_readFlat_99 ?_
          refine V_if_ne (tgt := 111) dX7_readFlat_100 (by decide) (fun c_100 => ?_) (fun c_100 => ?_)
          · refine V_rp (R2 := K a s) (by simp only [F_X7_readFlat_82, if_neg c_83, if_pos c_91, if_neg c_100]) ?_
            refine V_lp [0, 1] rfl ?_
            exact hK a s (by assumption) (by assumption) (by assumption)
          · refine V_aload_n dX7_readFlat_103 0 rfl ?_
            refine V_cV (k_X7_readBed l G hw s   hT hr) hy_X7_readBed hi_X7_readBed hs_X7_readBed q_338 rfl rfl (W_7 hw) rfl rfl rfl rfl rfl ⟨by decide, by decide⟩ (Nat.le_of_ble_eq_true rfl) ⟨by decide, by decide⟩ dX7_readFlat_104 (V_kM ?_)
            refine V_istore_n (L2 := [(1, .int ((F_X7_readBed s).1)), (0, .ref (ad 7 0 0))]) dX7_readFlat_107 (by decide) rfl ?_
            refine V_goto (tgt := 82) dX7_readFlat_108 (by decide) ?_
            refine V_rp (R2 := F_X7_readFlat_82  K n ((F_X7_readBed s).1) ((F_X7_readBed s).2)) (by simp only [F_X7_readFlat_82, if_neg c_83, if_pos c_91, if_pos c_100]) ?_
            refine V_lp [1, 0] rfl ?_
            exact ih ((F_X7_readBed s).1) ((F_X7_readBed s).2) (by exact okT_rb hT hr) (by exact (rb_m hT hr c_83 hm).1) (by exact rb_01x hT hr) (by exact (rb_m hT hr c_83 hm).2) 
set_option maxRecDepth 100000 in
set_option maxHeartbeats 4000000 in
theorem k_X7_readFlat (l : Launch) (G : mm_G) {pr : Nat → Nat → Prop} {ad : Nat → Nat → Nat → Nat} (hw : mm_W pr) (g : mm_g) (hb : 0 ≤ (g 7 0 2).toInt ∧ (g 7 0 2).toInt ≤ 100)  : Mt l G yX7_readFlat cX7_readFlat 2 (some .boolean) (rmk 6 172) [.ref (ad 7 0 0)] pr ad g (qM pr ad (F_X7_readFlat g)) 0 0 := by
  refine Mt_of (by decide) (Nat.le_of_ble_eq_true rfl) ?_
  show V l G RX7 cX7_readFlat 2 (some .boolean) _ _ 0 0 0 0 0 [(0, .ref (ad 7 0 0))] [] pr ad g
  refine V_aload_n dX7_readFlat_0 0 rfl ?_
  refine V_iconst (v := 0) dX7_readFlat_1 (by decide) ?_
  refine P_7_10 (W_7 hw) q_315 dX7_readFlat_2 ?_
  refine V_iconst (v := 0) dX7_readFlat_5 (by decide) ?_
  refine V_istore_n (L2 := [(1, .int 0), (0, .ref (ad 7 0 0))]) dX7_readFlat_6 (by decide) rfl ?_
  refine V_rp (R2 := F_X7_readFlat_7  (fun (j7 : Nat) (s7 : mm_g) => (if (F_X7_takes (F_X7_nextToken s7) 108).1 = 0 then (0, (F_X7_takes (F_X7_nextToken s7) 108).2) else (if (F_X7_takesNumber ((F_X7_takes (F_X7_nextToken s7) 108).2) 0 8 1 44).1 = 0 then (0, (F_X7_takesNumber ((F_X7_takes (F_X7_nextToken s7) 108).2) 0 8 1 44).2) else (if (F_X7_takesNumber ((F_X7_takesNumber ((F_X7_takes (F_X7_nextToken s7) 108).2) 0 8 1 44).2) 0 8 2 44).1 = 0 then (0, (F_X7_takesNumber ((F_X7_takesNumber ((F_X7_takes (F_X7_nextToken s7) 108).2) 0 8 1 44).2) 0 8 2 44).2) else (if (F_X7_takesNumber ((F_X7_takesNumber ((F_X7_takesNumber ((F_X7_takes (F_X7_nextToken s7) 108).2) 0 8 1 44).2) 0 8 2 44).2) 1 9 3 59).1 = 0 then (0, (F_X7_takesNumber ((F_X7_takesNumber ((F_X7_takesNumber ((F_X7_takes (F_X7_nextToken s7) 108).2) 0 8 1 44).2) 0 8 2 44).2) 1 9 3 59).2) else (F_X7_readFlat_82  (fun (a82 : Int32) (s82 : mm_g) => (a82, s82)) 21 1 ((F_X7_takesNumber ((F_X7_takesNumber ((F_X7_takesNumber ((F_X7_takes (F_X7_nextToken s7) 108).2) 0 8 1 44).2) 0 8 2 44).2) 1 9 3 59).2))))))) ((36 : Int32).toInt.toNat + 1) 0 (wr g 7 0 4 0)) (by simp only [F_X7_readFlat]) ?_
  refine V_lp [1, 0] rfl ?_
  refine w_X7_readFlat_7 l G hw    _ (fun j7 s7 hj7 hT7 hz7 he7 => ?_) ((36 : Int32).toInt.toNat + 1) 0 (wr g 7 0 4 0) (by first | exact Nat.zero_le _ | decide) (by exact okT_z hb) (by exact fun q => absurd rfl q) (by omega)
  refine V_aload_n dX7_readFlat_26 0 rfl ?_
  refine V_cV (k_X7_nextToken l G hw s7   hT7) hy_X7_nextToken hi_X7_nextToken hs_X7_nextToken q_317 rfl rfl (W_7 hw) rfl rfl rfl rfl rfl ⟨by decide, by decide⟩ (Nat.le_of_ble_eq_true rfl) ⟨by decide, by decide⟩ dX7_readFlat_27 (V_kN ?_)
  refine V_aload_n dX7_readFlat_30 0 rfl ?_
  refine V_bipush (v := 108) dX7_readFlat_31 (by decide) ?_
  refine V_cV (k_X7_takes l G hw (F_X7_nextToken s7)  108 (okT_next hT7)) hy_X7_takes hi_X7_takes hs_X7_takes q_326 rfl rfl (W_7 hw) rfl rfl rfl rfl rfl ⟨by decide, by decide⟩ (Nat.le_of_ble_eq_true rfl) ⟨by decide, by decide⟩ dX7_readFlat_33 (V_kM ?_)
  refine V_if_eq (tgt := 78) dX7_readFlat_36 (by decide) (fun c_36 => ?_) (fun c_36 => ?_)
  · refine V_iconst (v := 0) dX7_readFlat_78 (by decide) ?_
    exact V_zret dX7_readFlat_79 rfl rfl (lfM (by simp only [if_pos c_36]))
  · refine V_aload_n dX7_readFlat_39 0 rfl ?_
    refine V_iconst (v := 0) dX7_readFlat_40 (by decide) ?_
    refine V_bipush (v := 8) dX7_readFlat_41 (by decide) ?_
    refine V_iconst (v := 1) dX7_readFlat_43 (by decide) ?_
    refine V_bipush (v := 44) dX7_readFlat_44 (by decide) ?_
    refine V_cV (k_X7_takesNumber l G hw ((F_X7_takes (F_X7_nextToken s7) 108).2)  0 8 1 44 (okT_takes (okT_next hT7)) (by unfold vp_in; decide)) hy_X7_takesNumber hi_X7_takesNumber hs_X7_takesNumber q_334 rfl rfl (W_7 hw) rfl rfl rfl rfl rfl ⟨by decide, by decide⟩ (Nat.le_of_ble_eq_true rfl) ⟨by decide, by decide⟩ dX7_readFlat_46 (V_kM ?_)
    refine V_if_eq (tgt := 78) dX7_readFlat_49 (by decide) (fun c_49 => ?_) (fun c_49 => ?_)
    · refine V_iconst (v := 0) dX7_readFlat_78 (by decide) ?_
      exact V_zret dX7_readFlat_79 rfl rfl (lfM (by simp only [if_neg c_36, if_pos c_49]))
    · refine V_aload_n dX7_readFlat_52 0 rfl ?_
      refine V_iconst (v := 0) dX7_readFlat_53 (by decide) ?_
      refine V_bipush (v := 8) dX7_readFlat_54 (by decide) ?_
      refine V_iconst (v := 2) dX7_readFlat_56 (by decide) ?_
      refine V_bipush (v := 44) dX7_readFlat_57 (by decide) ?_
      refine V_cV (k_X7_takesNumber l G hw ((F_X7_takesNumber ((F_X7_takes (F_X7_nextToken s7) 108).2) 0 8 1 44).2)  0 8 2 44 (okT_tn (okT_takes (okT_next hT7))) (by unfold vp_in; decide)) hy_X7_takesNumber hi_X7_takesNumber hs_X7_takesNumber q_334 rfl rfl (W_7 hw) rfl rfl rfl rfl rfl ⟨by decide, by decide⟩ (Nat.le_of_ble_eq_true rfl) ⟨by decide, by decide⟩ dX7_readFlat_59 (V_kM ?_)
      refine V_if_eq (tgt := 78) dX7_readFlat_62 (by decide) (fun c_62 => ?_) (fun c_62 => ?_)
      · refine V_iconst (v := 0) dX7_readFlat_78 (by decide) ?_
        exact V_zret dX7_readFlat_79 rfl rfl (lfM (by simp only [if_neg c_36, if_neg c_49, if_pos c_62]))
      · refine V_aload_n dX7_readFlat_65 0 rfl ?_
        refine V_iconst (v := 1) dX7_readFlat_66 (by decide) ?_
        refine V_bipush (v := 9) dX7_readFlat_67 (by decide) ?_
        refine V_iconst (v := 3) dX7_readFlat_69 (by decide) ?_
        refine V_bipush (v := 59) dX7_readFlat_70 (by decide) ?_
        refine V_cV (k_X7_takesNumber l G hw ((F_X7_takesNumber ((F_X7_takesNumber ((F_X7_takes (F_X7_nextToken s7) 108).2) 0 8 1 44).2) 0 8 2 44).2)  1 9 3 59 (okT_tn (okT_tn (okT_takes (okT_next hT7)))) (by unfold vp_in; decide)) hy_X7_takesNumber hi_X7_takesNumber hs_X7_takesNumber q_334 rfl rfl (W_7 hw) rfl rfl rfl rfl rfl ⟨by decide, by decide⟩ (Nat.le_of_ble_eq_true rfl) ⟨by decide, by decide⟩ dX7_readFlat_72 (V_kM ?_)
        refine V_if_ne (tgt := 80) dX7_readFlat_75 (by decide) (fun c_75 => ?_) (fun c_75 => ?_)
        · refine V_iconst (v := 1) dX7_readFlat_80 (by decide) ?_
          refine V_istore_n (L2 := [(1, .int 1), (0, .ref (ad 7 0 0))]) dX7_readFlat_81 (by decide) rfl ?_
          refine V_rp (R2 := F_X7_readFlat_82  (fun (a82 : Int32) (s82 : mm_g) => (a82, s82)) 21 1 ((F_X7_takesNumber ((F_X7_takesNumber ((F_X7_takesNumber ((F_X7_takes (F_X7_nextToken s7) 108).2) 0 8 1 44).2) 0 8 2 44).2) 1 9 3 59).2)) (by simp only [if_neg c_36, if_neg c_49, if_neg c_62, if_neg c_75]) ?_
          refine V_lp [1, 0] rfl ?_
          refine w_X7_readFlat_82 l G hw    _ (fun a82 s82 hT82 hr82 h0182 => ?_) 21 1 ((F_X7_takesNumber ((F_X7_takesNumber ((F_X7_takesNumber ((F_X7_takes (F_X7_nextToken s7) 108).2) 0 8 1 44).2) 0 8 2 44).2) 1 9 3 59).2) (by exact okT_tn (okT_tn (okT_tn (okT_takes (okT_next hT7))))) (by exact okr_4 (rz_e hz7 he7)) (by exact Or.inr rfl) (by exact rf_m (okr_4 (rz_e hz7 he7)))
          refine V_iload_n dX7_readFlat_111 1 rfl ?_
          exact V_zret dX7_readFlat_112 rfl (nz01 h0182) (lfM (by rfl))
        · refine V_iconst (v := 0) dX7_readFlat_78 (by decide) ?_
          exact V_zret dX7_readFlat_79 rfl rfl (lfM (by simp only [if_neg c_36, if_neg c_49, if_neg c_62, if_pos c_75]))
def F_X7_flat_32 (f1 : Int32) (K : Nat → mm_g → Int32 × mm_g) : Nat → Nat → mm_g → Int32 × mm_g
  | 0, j, s => K j s
  | n + 1, j, s => (if 36 ≤ (nI j) then K j s else F_X7_flat_32 f1 K n (j + 1) (wr s 7 4 (nI j).toNatClampNeg (s 7 7 (nI j).toNatClampNeg)))
def F_X7_flat (g : mm_g) : Int32 × mm_g := (if (F_X7_readFlat g).1 = 0 then (((-1000100) - ((wr (wr (F_X7_readFlat g).2 7 0 2 0) 7 0 3 ((wr (F_X7_readFlat g).2 7 0 2 0) 7 0 8)) 7 0 7)), (wr (wr (F_X7_readFlat g).2 7 0 2 0) 7 0 3 ((wr (F_X7_readFlat g).2 7 0 2 0) 7 0 8))) else (F_X7_flat_32 ((F_X7_readFlat g).1) (fun (j32 : Nat) (s32 : mm_g) => (((wr (wr s32 7 0 1 1) 7 0 9 0) 7 4 0), (wr (wr s32 7 0 1 1) 7 0 9 0))) ((36 : Int32).toInt.toNat + 1) 0 (wr (F_X7_readFlat g).2 7 0 2 0)))
set_option maxRecDepth 100000 in
set_option maxHeartbeats 4000000 in
theorem w_X7_flat_32 (l : Launch) (G : mm_G) {pr : Nat → Nat → Prop} {ad : Nat → Nat → Nat → Nat} (hw : mm_W pr) (f1 : Int32)  (K : Nat → mm_g → Int32 × mm_g) (hK : ∀ (j : Nat) (s : mm_g) (hj : j ≤ (36 : Int32).toInt.toNat), V l G RX7 cX7_flat 3 (some .int) (rmk 7 193) (qM pr ad (K j s)) 0 0 0 0 56 [(0, .ref (ad 7 0 0)), (1, .int f1), (2, .int (nI j))] [] pr ad s) : ∀ (n : Nat) (j : Nat) (s : mm_g) (hj : j ≤ (36 : Int32).toInt.toNat) (hm : (36 : Int32).toInt.toNat - j < n), V l G RX7 cX7_flat 3 (some .int) (rmk 7 193) (qM pr ad (F_X7_flat_32 f1 K n j s)) 0 0 0 0 32 [(0, .ref (ad 7 0 0)), (1, .int f1), (2, .int (nI j))] [] pr ad s := by
  intro n
  induction n with
  | zero => intro j s hj hm; exact absurd hm (Nat.not_lt_zero _)
  | succ n ih =>
      intro j s hj hm
      refine V_iload_n dX7_flat_32 2 rfl ?_
      refine V_bipush (v := 36) dX7_flat_33 (by decide) ?_
      refine V_ic_ge (tgt := 56) dX7_flat_35 (by decide) (fun c_35 => ?_) (fun c_35 => ?_)
      · refine V_rp (R2 := K j s) (by simp only [F_X7_flat_32, if_pos c_35]) ?_
        refine V_lp [0, 1, 2] rfl ?_
        exact hK j s (by assumption)
      · refine V_aload_n dX7_flat_38 0 rfl ?_
        refine V_get (i := 5) inlX7 rfl (W_7 hw) rfl (by decide) q_94 rfl dX7_flat_39 ?_
        refine V_iload_n dX7_flat_42 2 rfl ?_
        refine V_aload_n dX7_flat_43 0 rfl ?_
        refine V_get (i := 15) inlX7 rfl (W_7 hw) rfl (by decide) q_97 rfl dX7_flat_44 ?_
        refine V_iload_n dX7_flat_47 2 rfl ?_
        refine L_7_7 (W_7 hw) (by exact ix_x hj c_35 (by decide)) dX7_flat_48 ?_
        refine S_7_4 (W_7 hw) (by exact ix_x hj c_35 (by decide)) dX7_flat_49 ?_
        refine V_iinc (v := (nI (j + 1))) (L2 := [(2, .int (nI (j + 1))), (0, .ref (ad 7 0 0)), (1, .int f1)]) dX7_flat_50 2 rfl (nI_1 _) (by decide) rfl ?_
        refine V_goto (tgt := 32) dX7_flat_53 (by decide) ?_
        refine V_rp (R2 := F_X7_flat_32 f1 K n (j + 1) (wr s 7 4 (nI j).toNatClampNeg (s 7 7 (nI j).toNatClampNeg))) (by simp only [F_X7_flat_32, if_neg c_35]) ?_
        refine V_lp [1, 2, 0] rfl ?_
        exact ih (j + 1) (wr s 7 4 (nI j).toNatClampNeg (s 7 7 (nI j).toNatClampNeg)) (by exact (lp_up hj c_35 hm).1) (by exact (lp_up hj c_35 hm).2) 
set_option maxRecDepth 100000 in
set_option maxHeartbeats 4000000 in
theorem k_X7_flat (l : Launch) (G : mm_G) {pr : Nat → Nat → Prop} {ad : Nat → Nat → Nat → Nat} (hw : mm_W pr) (g : mm_g) (hb : 0 ≤ (g 7 0 2).toInt ∧ (g 7 0 2).toInt ≤ 100)  : Mt l G yX7_flat cX7_flat 3 (some .int) (rmk 7 193) [.ref (ad 7 0 0)] pr ad g (qM pr ad (F_X7_flat g)) 0 0 := by
  refine Mt_of (by decide) (Nat.le_of_ble_eq_true rfl) ?_
  show V l G RX7 cX7_flat 3 (some .int) _ _ 0 0 0 0 0 [(0, .ref (ad 7 0 0))] [] pr ad g
  refine V_aload_n dX7_flat_0 0 rfl ?_
  refine V_cV (k_X7_readFlat l G hw g   hb) hy_X7_readFlat hi_X7_readFlat hs_X7_readFlat q_311 rfl rfl (W_7 hw) rfl rfl rfl rfl rfl ⟨by decide, by decide⟩ (Nat.le_of_ble_eq_true rfl) ⟨by decide, by decide⟩ dX7_flat_1 (V_kM ?_)
  refine V_istore_n (L2 := [(1, .int ((F_X7_readFlat g).1)), (0, .ref (ad 7 0 0))]) dX7_flat_4 (by decide) rfl ?_
  refine V_aload_n dX7_flat_5 1 rfl ?_
  refine V_iconst (v := 0) dX7_flat_6 (by decide) ?_
  refine P_7_8 (W_7 hw) q_226 dX7_flat_7 ?_
  refine V_iload_n dX7_flat_10 0 rfl ?_
  refine V_if_ne (tgt := 30) dX7_flat_11 (by decide) (fun c_11 => ?_) (fun c_11 => ?_)
  · refine V_iconst (v := 0) dX7_flat_30 (by decide) ?_
    refine V_istore_n (L2 := [(2, .int 0), (1, .int ((F_X7_readFlat g).1)), (0, .ref (ad 7 0 0))]) dX7_flat_31 (by decide) rfl ?_
    refine V_rp (R2 := F_X7_flat_32 ((F_X7_readFlat g).1) (fun (j32 : Nat) (s32 : mm_g) => (((wr (wr s32 7 0 1 1) 7 0 9 0) 7 4 0), (wr (wr s32 7 0 1 1) 7 0 9 0))) ((36 : Int32).toInt.toNat + 1) 0 (wr (F_X7_readFlat g).2 7 0 2 0)) (by simp only [F_X7_flat, if_neg c_11]) ?_
    refine V_lp [2, 1, 0] rfl ?_
    refine w_X7_flat_32 l G hw ((F_X7_readFlat g).1)   _ (fun j32 s32 hj32 => ?_) ((36 : Int32).toInt.toNat + 1) 0 (wr (F_X7_readFlat g).2 7 0 2 0) (by first | exact Nat.zero_le _ | decide) (by omega)
    refine V_aload_n dX7_flat_56 0 rfl ?_
    refine V_iconst (v := 1) dX7_flat_57 (by decide) ?_
    refine P_7_4 (W_7 hw) q_309 dX7_flat_58 ?_
    refine V_aload_n dX7_flat_61 0 rfl ?_
    refine V_iconst (v := 0) dX7_flat_62 (by decide) ?_
    refine P_7_17 (W_7 hw) q_310 dX7_flat_63 ?_
    refine V_aload_n dX7_flat_66 0 rfl ?_
    refine V_get (i := 5) inlX7 rfl (W_7 hw) rfl (by decide) q_94 rfl dX7_flat_67 ?_
    refine V_iconst (v := 0) dX7_flat_70 (by decide) ?_
    refine L_7_4_l 0 rfl (W_7 hw) (by unfold vp_in; decide) dX7_flat_71 ?_
    exact V_iret dX7_flat_72 rfl (lfM (by rfl))
  · refine V_aload_n dX7_flat_14 1 rfl ?_
    refine V_aload_n dX7_flat_15 1 rfl ?_
    refine V_get (i := 14) inlX7 rfl (W_7 hw) rfl (by decide) q_305 rfl dX7_flat_16 ?_
    refine P_7_9 (W_7 hw) q_306 dX7_flat_19 ?_
    refine V_ldc q_307 dX7_flat_22 ?_
    refine V_aload_n dX7_flat_24 1 rfl ?_
    refine V_get (i := 13) inlX7 rfl (W_7 hw) rfl (by decide) q_308 rfl dX7_flat_25 ?_
    refine V_isub dX7_flat_28 ?_
    exact V_iret dX7_flat_29 rfl (lfM (by simp only [F_X7_flat, if_pos c_11]))
