theorem wr_k {g : mm_g} {t k j t' k' j' : Nat} {x : Int32} (h : ¬ (t' = t ∧ k' = k)) : wr g t k j x t' k' j' = g t' k' j' := by rw [wr_at, if_neg (fun q => h ⟨q.1, q.2.1⟩)]
def okA (g : mm_g) : Prop := 0 ≤ (g 7 0 9).toInt ∧ (g 7 0 9).toInt ≤ 24
theorem i_p1 {x : Int32} (h : x.toInt < 1000) (h2 : -1000 < x.toInt) : (x + 1).toInt = x.toInt + 1 := by
  have e1 : (1 : Int32).toInt = 1 := rfl
  rw [Int32.toInt_add, e1, Int.bmod_eq_of_le_mul_two (by omega) (by omega)]
theorem i_m1 {x : Int32} (h : x.toInt < 1000) (h2 : -1000 < x.toInt) : (x - 1).toInt = x.toInt - 1 := by
  have e1 : (1 : Int32).toInt = 1 := rfl
  rw [Int32.toInt_sub, e1, Int.bmod_eq_of_le_mul_two (by omega) (by omega)]
theorem ix_24 {g : mm_g} (h : okA g) (h2 : ¬ g 7 0 9 = 24) : vp_in (g 7 0 9) 24 := vp_in_iff.mpr (by
  have h3 := mm_ne h2 (n := 24) rfl
  have h4 := h.1
  have h5 := h.2
  omega)
theorem ix_23a {s : mm_g} (h : s 7 0 9 = 24) : vp_in (wr s 7 0 9 (s 7 0 9 - 1) 7 0 9) 24 := by
  rw [wr_at, if_pos ⟨rfl, rfl, rfl⟩, h]
  unfold vp_in
  decide
theorem ix_un {g : mm_g} (h : okA g) (h2 : ¬ g 7 0 9 = 0) : vp_in (wr g 7 0 9 (g 7 0 9 - 1) 7 0 9) 24 := vp_in_iff.mpr (by
  have h3 := mm_ne h2 (n := 0) rfl
  have h4 := h.1
  have h5 := h.2
  rw [wr_at, if_pos ⟨rfl, rfl, rfl⟩, i_m1 (by omega) (by omega)]
  omega)
theorem ix_bed {g : mm_g} {x : Int32} (hB : okB g) (h : ¬ F_X7_isBed g x = 0) : vp_in x 9 := vp_in_iff.mpr (by
  unfold F_X7_isBed at h
  have h1 := F_X7_in_1 h
  have h2 := hB.1
  have h3 := hB.2
  have e0 : (0 : Int64).toInt = 0 := rfl
  rw [Int32.toInt_toInt64, Int32.toInt_toInt64, i_m1 (by omega) (by omega)] at h1
  omega)
theorem ix_bo {x : Int32} (h : ¬ F_X7_in x.toInt64 0 5 = 0) (h2 : ¬ 3 ≤ x) : vp_in x 3 := vp_in_iff.mpr (by
  have h1 := F_X7_in_1 h
  have e0 : (0 : Int64).toInt = 0 := rfl
  have e3 : (3 : Int32).toInt = 3 := rfl
  rw [toI_le] at h2
  rw [Int32.toInt_toInt64] at h1
  omega)
theorem ix_bp {x : Int32} (h : ¬ F_X7_in x.toInt64 0 5 = 0) (h2 : 3 ≤ x) (h3 : ¬ 5 ≤ x) : vp_in (1 + x - 3) 36 := by
  have e3 : (3 : Int32).toInt = 3 := rfl
  have e5 : (5 : Int32).toInt = 5 := rfl
  rw [toI_le] at h2 h3
  have hv : vp_in x 5 := vp_in_iff.mpr (by omega)
  obtain ⟨i, hi, rfl⟩ := vp_in_of hv (by decide)
  rw [nI_toInt (by omega)] at h2
  have e1 : (1 : Int32) = nI 1 := rfl
  have e4 : (3 : Int32) = nI 3 := rfl
  rw [e1, e4, nI_add, pk_sub (by omega)]
  exact vp_in_nI (by omega) (by decide)
def F_X7_note_51 (K : Nat → mm_g → mm_g) : Nat → Nat → mm_g → mm_g
  | 0, j, s => K j s
  | n + 1, j, s => (if 36 ≤ (nI j) then K j s else F_X7_note_51  K n (j + 1) (wr s 7 8 ((36 * (s 7 0 9)) + (nI j)).toNatClampNeg (s 7 4 (nI j).toNatClampNeg)))
def F_X7_note_11 (K : Nat → mm_g → mm_g) : Nat → Nat → mm_g → mm_g
  | 0, j, s => K j s
  | n + 1, j, s => (if 828 ≤ (nI j) then K j s else F_X7_note_11  K n (j + 1) (wr s 7 8 (nI j).toNatClampNeg (s 7 8 ((nI j) + 36).toNatClampNeg)))
def F_X7_note (g : mm_g) : mm_g := (if (g 7 0 9) = 24 then (F_X7_note_11  (fun (j11 : Nat) (s11 : mm_g) => (F_X7_note_51  (fun (j51 : Nat) (s51 : mm_g) => (wr s51 7 0 9 ((s51 7 0 9) + 1))) ((36 : Int32).toInt.toNat + 1) 0 (wr s11 7 0 9 ((s11 7 0 9) - 1)))) ((828 : Int32).toInt.toNat + 1) 0 g) else (F_X7_note_51  (fun (j51 : Nat) (s51 : mm_g) => (wr s51 7 0 9 ((s51 7 0 9) + 1))) ((36 : Int32).toInt.toNat + 1) 0 g))
set_option maxRecDepth 100000 in
set_option maxHeartbeats 4000000 in
theorem w_X7_note_51 (l : Launch) (G : mm_G) {pr : Nat → Nat → Prop} {ad : Nat → Nat → Nat → Nat} (hw : mm_W pr)  (K : Nat → mm_g → mm_g) (hK : ∀ (j : Nat) (s : mm_g) (hj : j ≤ (36 : Int32).toInt.toNat) (ha : vp_in (s 7 0 9) 24), V l G RX7 cX7_note 2 none (rmk 1 60) (qN pr ad (K j s)) 0 0 0 0 83 [(0, .ref (ad 7 0 0)), (1, .int (nI j))] [] pr ad s) : ∀ (n : Nat) (j : Nat) (s : mm_g) (hj : j ≤ (36 : Int32).toInt.toNat) (ha : vp_in (s 7 0 9) 24) (hm : (36 : Int32).toInt.toNat - j < n), V l G RX7 cX7_note 2 none (rmk 1 60) (qN pr ad (F_X7_note_51  K n j s)) 0 0 0 0 51 [(0, .ref (ad 7 0 0)), (1, .int (nI j))] [] pr ad s := by
  intro n
  induction n with
  | zero => intro j s hj ha hm; exact absurd hm (Nat.not_lt_zero _)
  | succ n ih =>
      intro j s hj ha hm
      refine V_iload_n dX7_note_51 1 rfl ?_
      refine V_bipush (v := 36) dX7_note_52 (by decide) ?_
      refine V_ic_ge (tgt := 83) dX7_note_54 (by decide) (fun c_54 => ?_) (fun c_54 => ?_)
      · refine V_rp (R2 := K j s) (by simp only [F_X7_note_51, if_pos c_54]) ?_
        refine V_lp [0, 1] rfl ?_
        exact hK j s (by assumption) (by assumption)
      · refine V_aload_n dX7_note_57 0 rfl ?_
        refine V_get (i := 16) inlX7 rfl (W_7 hw) rfl (by decide) q_98 rfl dX7_note_58 ?_
        refine V_bipush (v := 36) dX7_note_61 (by decide) ?_
        refine V_aload_n dX7_note_63 0 rfl ?_
        refine V_get (i := 17) inlX7 rfl (W_7 hw) rfl (by decide) q_310 rfl dX7_note_64 ?_
        refine V_imul dX7_note_67 ?_
        refine V_iload_n dX7_note_68 1 rfl ?_
        refine V_iadd dX7_note_69 ?_
        refine V_aload_n dX7_note_70 0 rfl ?_
        refine V_get (i := 5) inlX7 rfl (W_7 hw) rfl (by decide) q_94 rfl dX7_note_71 ?_
        refine V_iload_n dX7_note_74 1 rfl ?_
        refine L_7_4 (W_7 hw) (by exact ix_x hj c_54 (by decide)) dX7_note_75 ?_
        refine S_7_8 (W_7 hw) (by exact ix_mul2 (m := 24) (n := 36) ha (ix_x hj c_54 (by decide)) rfl (by decide)) dX7_note_76 ?_
        refine V_iinc (v := (nI (j + 1))) (L2 := [(1, .int (nI (j + 1))), (0, .ref (ad 7 0 0))]) dX7_note_77 1 rfl (nI_1 _) (by decide) rfl ?_
        refine V_goto (tgt := 51) dX7_note_80 (by decide) ?_
        refine V_rp (R2 := F_X7_note_51  K n (j + 1) (wr s 7 8 ((36 * (s 7 0 9)) + (nI j)).toNatClampNeg (s 7 4 (nI j).toNatClampNeg))) (by simp only [F_X7_note_51, if_neg c_54]) ?_
        refine V_lp [1, 0] rfl ?_
        exact ih (j + 1) (wr s 7 8 ((36 * (s 7 0 9)) + (nI j)).toNatClampNeg (s 7 4 (nI j).toNatClampNeg)) (by exact (lp_up hj c_54 hm).1) (by rw [wr_k (by decide)]; exact ha) (by exact (lp_up hj c_54 hm).2) 
set_option maxRecDepth 100000 in
set_option maxHeartbeats 4000000 in
theorem w_X7_note_11 (l : Launch) (G : mm_G) {pr : Nat → Nat → Prop} {ad : Nat → Nat → Nat → Nat} (hw : mm_W pr)  (K : Nat → mm_g → mm_g) (hK : ∀ (j : Nat) (s : mm_g) (hj : j ≤ (828 : Int32).toInt.toNat) (h24 : s 7 0 9 = 24), V l G RX7 cX7_note 2 none (rmk 1 60) (qN pr ad (K j s)) 0 0 0 0 39 [(0, .ref (ad 7 0 0)), (1, .int (nI j))] [] pr ad s) : ∀ (n : Nat) (j : Nat) (s : mm_g) (hj : j ≤ (828 : Int32).toInt.toNat) (h24 : s 7 0 9 = 24) (hm : (828 : Int32).toInt.toNat - j < n), V l G RX7 cX7_note 2 none (rmk 1 60) (qN pr ad (F_X7_note_11  K n j s)) 0 0 0 0 11 [(0, .ref (ad 7 0 0)), (1, .int (nI j))] [] pr ad s := by
  intro n
  induction n with
  | zero => intro j s hj h24 hm; exact absurd hm (Nat.not_lt_zero _)
  | succ n ih =>
      intro j s hj h24 hm
      refine V_iload_n dX7_note_11 1 rfl ?_
      refine V_sipush (v := 828) dX7_note_12 (by decide) ?_
      refine V_ic_ge (tgt := 39) dX7_note_15 (by decide) (fun c_15 => ?_) (fun c_15 => ?_)
      · refine V_rp (R2 := K j s) (by simp only [F_X7_note_11, if_pos c_15]) ?_
        refine V_lp [0, 1] rfl ?_
        exact hK j s (by assumption) (by assumption)
      · refine V_aload_n dX7_note_18 0 rfl ?_
        refine V_get (i := 16) inlX7 rfl (W_7 hw) rfl (by decide) q_98 rfl dX7_note_19 ?_
        refine V_iload_n dX7_note_22 1 rfl ?_
        refine V_aload_n dX7_note_23 0 rfl ?_
        refine V_get (i := 16) inlX7 rfl (W_7 hw) rfl (by decide) q_98 rfl dX7_note_24 ?_
        refine V_iload_n dX7_note_27 1 rfl ?_
        refine V_bipush (v := 36) dX7_note_28 (by decide) ?_
        refine V_iadd dX7_note_30 ?_
        refine L_7_8 (W_7 hw) (by rw [Int32.add_comm]; exact ix_off (k := 36) (ix_x (n := 828) hj c_15 (by decide)) rfl (by decide)) dX7_note_31 ?_
        refine S_7_8 (W_7 hw) (by exact ix_x hj c_15 (by decide)) dX7_note_32 ?_
        refine V_iinc (v := (nI (j + 1))) (L2 := [(1, .int (nI (j + 1))), (0, .ref (ad 7 0 0))]) dX7_note_33 1 rfl (nI_1 _) (by decide) rfl ?_
        refine V_goto (tgt := 11) dX7_note_36 (by decide) ?_
        refine V_rp (R2 := F_X7_note_11  K n (j + 1) (wr s 7 8 (nI j).toNatClampNeg (s 7 8 ((nI j) + 36).toNatClampNeg))) (by simp only [F_X7_note_11, if_neg c_15]) ?_
        refine V_lp [1, 0] rfl ?_
        exact ih (j + 1) (wr s 7 8 (nI j).toNatClampNeg (s 7 8 ((nI j) + 36).toNatClampNeg)) (by exact (lp_up hj c_15 hm).1) (by rw [wr_k (by decide)]; exact h24) (by exact (lp_up hj c_15 hm).2) 
set_option maxRecDepth 100000 in
set_option maxHeartbeats 4000000 in
theorem k_X7_note (l : Launch) (G : mm_G) {pr : Nat → Nat → Prop} {ad : Nat → Nat → Nat → Nat} (hw : mm_W pr) (g : mm_g) (hA : okA g)  : Mt l G yX7_note cX7_note 2 none (rmk 1 60) [.ref (ad 7 0 0)] pr ad g (qN pr ad (F_X7_note g)) 0 0 := by
  refine Mt_of (by decide) (Nat.le_of_ble_eq_true rfl) ?_
  show V l G RX7 cX7_note 2 none _ _ 0 0 0 0 0 [(0, .ref (ad 7 0 0))] [] pr ad g
  refine V_aload_n dX7_note_0 0 rfl ?_
  refine V_get (i := 17) inlX7 rfl (W_7 hw) rfl (by decide) q_310 rfl dX7_note_1 ?_
  refine V_bipush (v := 24) dX7_note_4 (by decide) ?_
  refine V_ic_ne (tgt := 49) dX7_note_6 (by decide) (fun c_6 => ?_) (fun c_6 => ?_)
  · refine V_iconst (v := 0) dX7_note_49 (by decide) ?_
    refine V_istore_n (L2 := [(1, .int 0), (0, .ref (ad 7 0 0))]) dX7_note_50 (by decide) rfl ?_
    refine V_rp (R2 := F_X7_note_51  (fun (j51 : Nat) (s51 : mm_g) => (wr s51 7 0 9 ((s51 7 0 9) + 1))) ((36 : Int32).toInt.toNat + 1) 0 g) (by simp only [F_X7_note, if_neg c_6]) ?_
    refine V_lp [1, 0] rfl ?_
    refine w_X7_note_51 l G hw    _ (fun j51 s51 hj51 ha51 => ?_) ((36 : Int32).toInt.toNat + 1) 0 g (by first | exact Nat.zero_le _ | decide) (by first | exact ix_24 hA c_6 | exact ix_23a h2411) (by omega)
    refine V_aload_n dX7_note_83 0 rfl ?_
    refine V_dup dX7_note_84 rfl ?_
    refine V_get (i := 17) inlX7 rfl (W_7 hw) rfl (by decide) q_310 rfl dX7_note_85 ?_
    refine V_iconst (v := 1) dX7_note_88 (by decide) ?_
    refine V_iadd dX7_note_89 ?_
    refine P_7_17 (W_7 hw) q_310 dX7_note_90 ?_
    exact V_vret dX7_note_93 rfl (lfN (by rfl))
  · refine V_iconst (v := 0) dX7_note_9 (by decide) ?_
    refine V_istore_n (L2 := [(1, .int 0), (0, .ref (ad 7 0 0))]) dX7_note_10 (by decide) rfl ?_
    refine V_rp (R2 := F_X7_note_11  (fun (j11 : Nat) (s11 : mm_g) => (F_X7_note_51  (fun (j51 : Nat) (s51 : mm_g) => (wr s51 7 0 9 ((s51 7 0 9) + 1))) ((36 : Int32).toInt.toNat + 1) 0 (wr s11 7 0 9 ((s11 7 0 9) - 1)))) ((828 : Int32).toInt.toNat + 1) 0 g) (by simp only [F_X7_note, if_pos c_6]) ?_
    refine V_lp [1, 0] rfl ?_
    refine w_X7_note_11 l G hw    _ (fun j11 s11 hj11 h2411 => ?_) ((828 : Int32).toInt.toNat + 1) 0 g (by first | exact Nat.zero_le _ | decide) (by exact c_6) (by omega)
    refine V_aload_n dX7_note_39 0 rfl ?_
    refine V_dup dX7_note_40 rfl ?_
    refine V_get (i := 17) inlX7 rfl (W_7 hw) rfl (by decide) q_310 rfl dX7_note_41 ?_
    refine V_iconst (v := 1) dX7_note_44 (by decide) ?_
    refine V_isub dX7_note_45 ?_
    refine P_7_17 (W_7 hw) q_310 dX7_note_46 ?_
    refine V_iconst (v := 0) dX7_note_49 (by decide) ?_
    refine V_istore_n (L2 := [(1, .int 0), (0, .ref (ad 7 0 0))]) dX7_note_50 (by decide) rfl ?_
    refine V_rp (R2 := F_X7_note_51  (fun (j51 : Nat) (s51 : mm_g) => (wr s51 7 0 9 ((s51 7 0 9) + 1))) ((36 : Int32).toInt.toNat + 1) 0 (wr s11 7 0 9 ((s11 7 0 9) - 1))) (by rfl) ?_
    refine V_lp [1, 0] rfl ?_
    refine w_X7_note_51 l G hw    _ (fun j51 s51 hj51 ha51 => ?_) ((36 : Int32).toInt.toNat + 1) 0 (wr s11 7 0 9 ((s11 7 0 9) - 1)) (by first | exact Nat.zero_le _ | decide) (by first | exact ix_24 hA c_6 | exact ix_23a h2411) (by omega)
    refine V_aload_n dX7_note_83 0 rfl ?_
    refine V_dup dX7_note_84 rfl ?_
    refine V_get (i := 17) inlX7 rfl (W_7 hw) rfl (by decide) q_310 rfl dX7_note_85 ?_
    refine V_iconst (v := 1) dX7_note_88 (by decide) ?_
    refine V_iadd dX7_note_89 ?_
    refine P_7_17 (W_7 hw) q_310 dX7_note_90 ?_
    exact V_vret dX7_note_93 rfl (lfN (by rfl))
theorem note_51 {P Q : mm_g → Prop} (hP : ∀ s i x, P s → P (wr s 7 8 i x)) {K : Nat → mm_g → mm_g} (hK : ∀ j s, P s → Q (K j s)) : ∀ (n j : Nat) (s : mm_g), P s → Q (F_X7_note_51 K n j s)
  | 0, j, s, h => hK j s h
  | n + 1, j, s, h => by
    unfold F_X7_note_51
    split
    · exact hK j s h
    · exact note_51 hP hK n (j + 1) _ (hP _ _ _ h)
theorem note_11 {P Q : mm_g → Prop} (hP : ∀ s i x, P s → P (wr s 7 8 i x)) {K : Nat → mm_g → mm_g} (hK : ∀ j s, P s → Q (K j s)) : ∀ (n j : Nat) (s : mm_g), P s → Q (F_X7_note_11 K n j s)
  | 0, j, s, h => hK j s h
  | n + 1, j, s, h => by
    unfold F_X7_note_11
    split
    · exact hK j s h
    · exact note_11 hP hK n (j + 1) _ (hP _ _ _ h)
theorem okB_k {s : mm_g} {k j : Nat} {x : Int32} (hk : k ≠ 4) (h : okB s) : okB (wr s 7 k j x) := by
  unfold okB
  rw [wr_k (fun q => hk q.2.symm)]
  exact h
theorem okB_j {s : mm_g} {j : Nat} {x : Int32} (hj : j ≠ 0) (h : okB s) : okB (wr s 7 4 j x) := by
  unfold okB
  rw [wr_o hj.symm]
  exact h
theorem okB_note {g : mm_g} (h : okB g) : okB (F_X7_note g) := by
  unfold F_X7_note
  split
  · refine note_11 (P := okB) (fun s i x q => okB_k (by decide) q) (fun j s q => ?_) _ _ _ h
    exact note_51 (P := okB) (fun s i x q => okB_k (by decide) q) (fun j s q => okB_k (by decide) q) _ _ _ (okB_k (by decide) q)
  · exact note_51 (P := okB) (fun s i x q => okB_k (by decide) q) (fun j s q => okB_k (by decide) q) _ _ _ h
theorem okA_p {s : mm_g} (q : vp_in (s 7 0 9) 24) : okA (wr s 7 0 9 (s 7 0 9 + 1)) := by
  have h1 := vp_in_iff.mp q
  unfold okA
  rw [wr_at, if_pos ⟨rfl, rfl, rfl⟩, i_p1 (by omega) (by omega)]
  omega
theorem okA_note {g : mm_g} (h : okA g) : okA (F_X7_note g) := by
  unfold F_X7_note
  split
  · rename_i c
    refine note_11 (P := fun s => s 7 0 9 = 24) (fun s i x q => by rw [wr_k (by decide)]; exact q) (fun j s q => ?_) _ _ _ c
    exact note_51 (P := fun s => vp_in (s 7 0 9) 24) (fun s i x q => by rw [wr_k (by decide)]; exact q) (fun j s q => okA_p q) _ _ _ (ix_23a q)
  · rename_i c
    exact note_51 (P := fun s => vp_in (s 7 0 9) 24) (fun s i x q => by rw [wr_k (by decide)]; exact q) (fun j s q => okA_p q) _ _ _ (ix_24 h c)
theorem tide_2 {P Q : mm_g → Prop} (hP : ∀ s i x, P s → P (wr s 7 4 i x)) {K : Nat → mm_g → mm_g} (hK : ∀ j s, P s → Q (K j s)) : ∀ (n j : Nat) (s : mm_g), P s → Q (F_X7_oneTide_2 K n j s)
  | 0, j, s, h => hK j s h
  | n + 1, j, s, h => by
    unfold F_X7_oneTide_2
    repeat' split
    all_goals first | exact hK _ _ h | exact tide_2 hP hK n _ _ (hP _ _ _ (hP _ _ _ h)) | exact tide_2 hP hK n _ _ (hP _ _ _ h)
theorem tide_k {g : mm_g} {k : Nat} (hk : k ≠ 4) : (F_X7_oneTide g) 7 k = g 7 k := by
  unfold F_X7_oneTide
  exact tide_2 (P := fun s => s 7 k = g 7 k) (Q := fun s => s 7 k = g 7 k) (fun s i x q => (wr_ne s i x (fun z => hk z.2)).trans q) (fun j s q => (wr_ne s _ _ (fun z => hk z.2)).trans q) _ _ _ rfl
theorem okA_tide {g : mm_g} (h : okA g) : okA (F_X7_oneTide g) := by
  unfold okA
  rw [tide_k (by decide)]
  exact h
theorem aside_2 {P Q : mm_g → Prop} (hP : ∀ s i x, P s → P (wr s 7 9 i x)) {K : Nat → mm_g → mm_g} (hK : ∀ j s, P s → Q (K j s)) : ∀ (n j : Nat) (s : mm_g), P s → Q (F_X7_putAside_2 K n j s)
  | 0, j, s, h => hK j s h
  | n + 1, j, s, h => by
    unfold F_X7_putAside_2
    split
    · exact hK j s h
    · exact aside_2 hP hK n (j + 1) _ (hP _ _ _ h)
theorem okB_aside {g : mm_g} (h : okB g) : okB (F_X7_putAside g) := by
  unfold F_X7_putAside
  exact aside_2 (P := okB) (fun s i x q => okB_k (by decide) q) (fun j s q => q) _ _ _ h
theorem goOn_2 {P Q : mm_g → Prop} {x : Int32} (hP : ∀ s, P s → P (F_X7_oneTide s)) {K : Nat → mm_g → mm_g} (hK : ∀ j s, P s → Q (K j s)) : ∀ (n j : Nat) (s : mm_g), P s → Q (F_X7_goOn_2 x K n j s)
  | 0, j, s, h => hK j s h
  | n + 1, j, s, h => by
    unfold F_X7_goOn_2
    split
    · exact hK j s h
    · exact goOn_2 hP hK n (j + 1) _ (hP _ h)
theorem okB_goOn {g : mm_g} {x : Int32} (h : okB g) : okB (F_X7_goOn g x) := by
  unfold F_X7_goOn
  exact goOn_2 (P := okB) (fun s q => okB_tide q) (fun j s q => q) _ _ _ h
theorem best_17 {P : mm_g → Prop} {Q : Int32 × mm_g → Prop} {x f : Int32} (hP : ∀ s y, P s → P (wr s 7 4 (1 + x).toNatClampNeg y)) {K : Int32 → Int32 → Nat → mm_g → Int32 × mm_g} (hK : ∀ a b j s, P s → Q (K a b j s)) : ∀ (n : Nat) (a b : Int32) (j : Nat) (s : mm_g), P s → Q (F_X7_bestCell_17 x f K n a b j s)
  | 0, a, b, j, s, h => hK a b j s h
  | n + 1, a, b, j, s, h => by
    unfold F_X7_bestCell_17
    repeat' split
    all_goals first | exact hK _ _ _ _ h | exact best_17 hP hK n _ _ _ _ (hP _ _ h)
theorem okB_best {g : mm_g} {x : Int32} (h : okB g) (hv : vp_in x 2) : okB (F_X7_bestCell g x).2 := by
  unfold F_X7_bestCell
  refine best_17 (P := okB) (Q := fun r => okB r.2) (fun s y q => okB_1 hv q) ?_ _ _ _ _ _ h
  intro a b j s q
  exact okB_1 hv q
theorem okB_lf {g : mm_g} {x y : Int32} (h : okB g) (hv : vp_in x 2) : okB (F_X7_leadFrom g x y).2 := by
  unfold F_X7_leadFrom
  exact okB_1 hv (okB_1 hv h)
def F_X7_undo_22 (K : Nat → mm_g → Int32 × mm_g) : Nat → Nat → mm_g → Int32 × mm_g
  | 0, j, s => K j s
  | n + 1, j, s => (if 36 ≤ (nI j) then K j s else F_X7_undo_22  K n (j + 1) (wr s 7 4 (nI j).toNatClampNeg (s 7 8 ((36 * (s 7 0 9)) + (nI j)).toNatClampNeg)))
def F_X7_undo (g : mm_g) : Int32 × mm_g := (if (g 7 0 9) = 0 then ((-1000002), g) else (F_X7_undo_22  (fun (j22 : Nat) (s22 : mm_g) => ((s22 7 0 9), s22)) ((36 : Int32).toInt.toNat + 1) 0 (wr g 7 0 9 ((g 7 0 9) - 1))))
set_option maxRecDepth 100000 in
set_option maxHeartbeats 4000000 in
theorem w_X7_undo_22 (l : Launch) (G : mm_G) {pr : Nat → Nat → Prop} {ad : Nat → Nat → Nat → Nat} (hw : mm_W pr)  (K : Nat → mm_g → Int32 × mm_g) (hK : ∀ (j : Nat) (s : mm_g) (hj : j ≤ (36 : Int32).toInt.toNat) (ha : vp_in (s 7 0 9) 24), V l G RX7 cX7_undo 2 (some .int) (rmk 1 60) (qM pr ad (K j s)) 0 0 0 0 54 [(0, .ref (ad 7 0 0)), (1, .int (nI j))] [] pr ad s) : ∀ (n : Nat) (j : Nat) (s : mm_g) (hj : j ≤ (36 : Int32).toInt.toNat) (ha : vp_in (s 7 0 9) 24) (hm : (36 : Int32).toInt.toNat - j < n), V l G RX7 cX7_undo 2 (some .int) (rmk 1 60) (qM pr ad (F_X7_undo_22  K n j s)) 0 0 0 0 22 [(0, .ref (ad 7 0 0)), (1, .int (nI j))] [] pr ad s := by
  intro n
  induction n with
  | zero => intro j s hj ha hm; exact absurd hm (Nat.not_lt_zero _)
  | succ n ih =>
      intro j s hj ha hm
      refine V_iload_n dX7_undo_22 1 rfl ?_
      refine V_bipush (v := 36) dX7_undo_23 (by decide) ?_
      refine V_ic_ge (tgt := 54) dX7_undo_25 (by decide) (fun c_25 => ?_) (fun c_25 => ?_)
      · refine V_rp (R2 := K j s) (by simp only [F_X7_undo_22, if_pos c_25]) ?_
        refine V_lp [0, 1] rfl ?_
        exact hK j s (by assumption) (by assumption)
      · refine V_aload_n dX7_undo_28 0 rfl ?_
        refine V_get (i := 5) inlX7 rfl (W_7 hw) rfl (by decide) q_94 rfl dX7_undo_29 ?_
        refine V_iload_n dX7_undo_32 1 rfl ?_
        refine V_aload_n dX7_undo_33 0 rfl ?_
        refine V_get (i := 16) inlX7 rfl (W_7 hw) rfl (by decide) q_98 rfl dX7_undo_34 ?_
        refine V_bipush (v := 36) dX7_undo_37 (by decide) ?_
        refine V_aload_n dX7_undo_39 0 rfl ?_
        refine V_get (i := 17) inlX7 rfl (W_7 hw) rfl (by decide) q_310 rfl dX7_undo_40 ?_
        refine V_imul dX7_undo_43 ?_
        refine V_iload_n dX7_undo_44 1 rfl ?_
        refine V_iadd dX7_undo_45 ?_
        refine L_7_8 (W_7 hw) (by exact ix_mul2 (m := 24) (n := 36) ha (ix_x hj c_25 (by decide)) rfl (by decide)) dX7_undo_46 ?_
        refine S_7_4 (W_7 hw) (by exact ix_x hj c_25 (by decide)) dX7_undo_47 ?_
        refine V_iinc (v := (nI (j + 1))) (L2 := [(1, .int (nI (j + 1))), (0, .ref (ad 7 0 0))]) dX7_undo_48 1 rfl (nI_1 _) (by decide) rfl ?_
        refine V_goto (tgt := 22) dX7_undo_51 (by decide) ?_
        refine V_rp (R2 := F_X7_undo_22  K n (j + 1) (wr s 7 4 (nI j).toNatClampNeg (s 7 8 ((36 * (s 7 0 9)) + (nI j)).toNatClampNeg))) (by simp only [F_X7_undo_22, if_neg c_25]) ?_
        refine V_lp [1, 0] rfl ?_
        exact ih (j + 1) (wr s 7 4 (nI j).toNatClampNeg (s 7 8 ((36 * (s 7 0 9)) + (nI j)).toNatClampNeg)) (by exact (lp_up hj c_25 hm).1) (by rw [wr_k (by decide)]; exact ha) (by exact (lp_up hj c_25 hm).2) 
set_option maxRecDepth 100000 in
set_option maxHeartbeats 4000000 in
theorem k_X7_undo (l : Launch) (G : mm_G) {pr : Nat → Nat → Prop} {ad : Nat → Nat → Nat → Nat} (hw : mm_W pr) (g : mm_g) (hA : okA g)  : Mt l G yX7_undo cX7_undo 2 (some .int) (rmk 1 60) [.ref (ad 7 0 0)] pr ad g (qM pr ad (F_X7_undo g)) 0 0 := by
  refine Mt_of (by decide) (Nat.le_of_ble_eq_true rfl) ?_
  show V l G RX7 cX7_undo 2 (some .int) _ _ 0 0 0 0 0 [(0, .ref (ad 7 0 0))] [] pr ad g
  refine V_aload_n dX7_undo_0 0 rfl ?_
  refine V_get (i := 17) inlX7 rfl (W_7 hw) rfl (by decide) q_310 rfl dX7_undo_1 ?_
  refine V_if_ne (tgt := 10) dX7_undo_4 (by decide) (fun c_4 => ?_) (fun c_4 => ?_)
  · refine V_aload_n dX7_undo_10 0 rfl ?_
    refine V_dup dX7_undo_11 rfl ?_
    refine V_get (i := 17) inlX7 rfl (W_7 hw) rfl (by decide) q_310 rfl dX7_undo_12 ?_
    refine V_iconst (v := 1) dX7_undo_15 (by decide) ?_
    refine V_isub dX7_undo_16 ?_
    refine P_7_17 (W_7 hw) q_310 dX7_undo_17 ?_
    refine V_iconst (v := 0) dX7_undo_20 (by decide) ?_
    refine V_istore_n (L2 := [(1, .int 0), (0, .ref (ad 7 0 0))]) dX7_undo_21 (by decide) rfl ?_
    refine V_rp (R2 := F_X7_undo_22  (fun (j22 : Nat) (s22 : mm_g) => ((s22 7 0 9), s22)) ((36 : Int32).toInt.toNat + 1) 0 (wr g 7 0 9 ((g 7 0 9) - 1))) (by simp only [F_X7_undo, if_neg c_4]) ?_
    refine V_lp [1, 0] rfl ?_
    refine w_X7_undo_22 l G hw    _ (fun j22 s22 hj22 ha22 => ?_) ((36 : Int32).toInt.toNat + 1) 0 (wr g 7 0 9 ((g 7 0 9) - 1)) (by first | exact Nat.zero_le _ | decide) (by exact ix_un hA c_4) (by omega)
    refine V_aload_n dX7_undo_54 0 rfl ?_
    refine V_get (i := 17) inlX7 rfl (W_7 hw) rfl (by decide) q_310 rfl dX7_undo_55 ?_
    exact V_iret dX7_undo_58 rfl (lfM (by rfl))
  · refine V_ldc q_371 dX7_undo_7 ?_
    exact V_iret dX7_undo_9 rfl (lfM (by simp only [F_X7_undo, if_pos c_4]))
def F_X7_tides_44 (x1 : Int32) (K : Nat → mm_g → Int32 × mm_g) : Nat → Nat → mm_g → Int32 × mm_g
  | 0, j, s => K j s
  | n + 1, j, s => (if x1 ≤ (nI j) then K j s else F_X7_tides_44 x1 K n (j + 1) (F_X7_oneTide (F_X7_note s)))
def F_X7_tides (g : mm_g) (x1 : Int32) : Int32 × mm_g := (if (g 7 0 1) = 0 then ((-1000002), g) else (if (F_X7_in (x1.toInt64) 1 24) = 0 then ((-1000001), g) else (if ((g 7 4 4) + x1) ≤ 999 then (F_X7_tides_44 x1 (fun (j44 : Nat) (s44 : mm_g) => ((F_X7_allSizes s44), s44)) (x1.toInt.toNat + 1) 0 g) else ((-1000003), g))))
set_option maxRecDepth 100000 in
set_option maxHeartbeats 4000000 in
theorem w_X7_tides_44 (l : Launch) (G : mm_G) {pr : Nat → Nat → Prop} {ad : Nat → Nat → Nat → Nat} (hw : mm_W pr) (x1 : Int32)  (K : Nat → mm_g → Int32 × mm_g) (hK : ∀ (j : Nat) (s : mm_g) (hj : j ≤ x1.toInt.toNat) (hB : okB s) (hA : okA s), V l G RX7 cX7_tides 3 (some .int) (rmk 5 152) (qM pr ad (K j s)) 0 0 0 0 63 [(0, .ref (ad 7 0 0)), (1, .int x1), (2, .int (nI j))] [] pr ad s) : ∀ (n : Nat) (j : Nat) (s : mm_g) (hj : j ≤ x1.toInt.toNat) (hB : okB s) (hA : okA s) (hm : x1.toInt.toNat - j < n), V l G RX7 cX7_tides 3 (some .int) (rmk 5 152) (qM pr ad (F_X7_tides_44 x1 K n j s)) 0 0 0 0 44 [(0, .ref (ad 7 0 0)), (1, .int x1), (2, .int (nI j))] [] pr ad s := by
  intro n
  induction n with
  | zero => intro j s hj hB hA hm; exact absurd hm (Nat.not_lt_zero _)
  | succ n ih =>
      intro j s hj hB hA hm
      refine V_iload_n dX7_tides_44 2 rfl ?_
      refine V_iload_n dX7_tides_45 1 rfl ?_
      refine V_ic_ge (tgt := 63) dX7_tides_46 (by decide) (fun c_46 => ?_) (fun c_46 => ?_)
      · refine V_rp (R2 := K j s) (by simp only [F_X7_tides_44, if_pos c_46]) ?_
        refine V_lp [0, 1, 2] rfl ?_
        exact hK j s (by assumption) (by assumption) (by assumption)
      · refine V_aload_n dX7_tides_49 0 rfl ?_
        refine V_cV (k_X7_note l G hw s   hA) hy_X7_note hi_X7_note hs_X7_note q_434 rfl rfl (W_7 hw) rfl rfl rfl rfl rfl ⟨by decide, by decide⟩ (Nat.le_of_ble_eq_true rfl) ⟨by decide, by decide⟩ dX7_tides_50 (V_kN ?_)
        refine V_aload_n dX7_tides_53 0 rfl ?_
        refine V_cV (k_X7_oneTide l G hw (F_X7_note s)   (okB_note hB)) hy_X7_oneTide hi_X7_oneTide hs_X7_oneTide q_438 rfl rfl (W_7 hw) rfl rfl rfl rfl rfl ⟨by decide, by decide⟩ (Nat.le_of_ble_eq_true rfl) ⟨by decide, by decide⟩ dX7_tides_54 (V_kN ?_)
        refine V_iinc (v := (nI (j + 1))) (L2 := [(2, .int (nI (j + 1))), (0, .ref (ad 7 0 0)), (1, .int x1)]) dX7_tides_57 2 rfl (nI_1 _) (by decide) rfl ?_
        refine V_goto (tgt := 44) dX7_tides_60 (by decide) ?_
        refine V_rp (R2 := F_X7_tides_44 x1 K n (j + 1) (F_X7_oneTide (F_X7_note s))) (by simp only [F_X7_tides_44, if_neg c_46]) ?_
        refine V_lp [1, 2, 0] rfl ?_
        exact ih (j + 1) (F_X7_oneTide (F_X7_note s)) (by exact (lp_up hj c_46 hm).1) (by exact okB_tide (okB_note hB)) (by exact okA_tide (okA_note hA)) (by exact (lp_up hj c_46 hm).2) 
set_option maxRecDepth 100000 in
set_option maxHeartbeats 4000000 in
theorem k_X7_tides (l : Launch) (G : mm_G) {pr : Nat → Nat → Prop} {ad : Nat → Nat → Nat → Nat} (hw : mm_W pr) (g : mm_g) (x1 : Int32) (hB : okB g) (hA : okA g)  : Mt l G yX7_tides cX7_tides 3 (some .int) (rmk 5 152) [.ref (ad 7 0 0), .int x1] pr ad g (qM pr ad (F_X7_tides g x1)) 0 0 := by
  refine Mt_of (by decide) (Nat.le_of_ble_eq_true rfl) ?_
  show V l G RX7 cX7_tides 3 (some .int) _ _ 0 0 0 0 0 [(0, .ref (ad 7 0 0)), (1, .int x1)] [] pr ad g
  refine V_aload_n dX7_tides_0 0 rfl ?_
  refine V_get (i := 4) inlX7 rfl (W_7 hw) rfl (by decide) q_309 rfl dX7_tides_1 ?_
  refine V_if_ne (tgt := 10) dX7_tides_4 (by decide) (fun c_4 => ?_) (fun c_4 => ?_)
  · refine V_iload_n dX7_tides_10 1 rfl ?_
    refine V_i2l dX7_tides_11 ?_
    refine V_lconst (v := 1) dX7_tides_12 (by decide) ?_
    refine V_ldc2 q_433 dX7_tides_13 ?_
    refine V_cS (k_X7_in l G hw g  (x1.toInt64) 1 24 ) hy_X7_in hz_X7_in q_135 rfl rfl rfl rfl ⟨by decide, by decide⟩ (Nat.le_of_ble_eq_true rfl) ⟨by decide, by decide⟩ dX7_tides_16 (V_kI ?_)
    refine V_if_ne (tgt := 25) dX7_tides_19 (by decide) (fun c_19 => ?_) (fun c_19 => ?_)
    · refine V_aload_n dX7_tides_25 0 rfl ?_
      refine V_get (i := 5) inlX7 rfl (W_7 hw) rfl (by decide) q_94 rfl dX7_tides_26 ?_
      refine V_iconst (v := 4) dX7_tides_29 (by decide) ?_
      refine L_7_4_l 4 rfl (W_7 hw) (by unfold vp_in; decide) dX7_tides_30 ?_
      refine V_iload_n dX7_tides_31 1 rfl ?_
      refine V_iadd dX7_tides_32 ?_
      refine V_sipush (v := 999) dX7_tides_33 (by decide) ?_
      refine V_ic_le (tgt := 42) dX7_tides_36 (by decide) (fun c_36 => ?_) (fun c_36 => ?_)
      · refine V_iconst (v := 0) dX7_tides_42 (by decide) ?_
        refine V_istore_n (L2 := [(2, .int 0), (0, .ref (ad 7 0 0)), (1, .int x1)]) dX7_tides_43 (by decide) rfl ?_
        refine V_rp (R2 := F_X7_tides_44 x1 (fun (j44 : Nat) (s44 : mm_g) => ((F_X7_allSizes s44), s44)) (x1.toInt.toNat + 1) 0 g) (by simp only [F_X7_tides, if_neg c_4, if_neg c_19, if_pos c_36]) ?_
        refine V_lp [1, 2, 0] rfl ?_
        refine w_X7_tides_44 l G hw x1   _ (fun j44 s44 hj44 hB44 hA44 => ?_) (x1.toInt.toNat + 1) 0 g (by first | exact Nat.zero_le _ | decide) (by exact hB) (by exact hA) (by omega)
        refine V_aload_n dX7_tides_63 0 rfl ?_
        refine V_cV (k_X7_allSizes l G hw s44   hB44) hy_X7_allSizes hi_X7_allSizes hs_X7_allSizes q_454 rfl rfl (W_7 hw) rfl rfl rfl rfl rfl ⟨by decide, by decide⟩ (Nat.le_of_ble_eq_true rfl) ⟨by decide, by decide⟩ dX7_tides_64 (V_kI ?_)
        exact V_iret dX7_tides_67 rfl (lfM (by rfl))
      · refine V_ldc q_227 dX7_tides_39 ?_
        exact V_iret dX7_tides_41 rfl (lfM (by simp only [F_X7_tides, if_neg c_4, if_neg c_19, if_neg c_36]))
    · refine V_ldc q_130 dX7_tides_22 ?_
      exact V_iret dX7_tides_24 rfl (lfM (by simp only [F_X7_tides, if_neg c_4, if_pos c_19]))
  · refine V_ldc q_371 dX7_tides_7 ?_
    exact V_iret dX7_tides_9 rfl (lfM (by simp only [F_X7_tides, if_pos c_4]))
def F_X7_rake (g : mm_g) (x1 : Int32) (x2 : Int32) : Int32 × mm_g := (if (F_X7_isBed g x1) = 0 then ((-1000001), g) else (if (F_X7_in (x2.toInt64) 1 99) = 0 then ((-1000001), g) else (if (F_X7_hasVeto g x1) = 0 then (if x2 ≤ (g 7 4 (18 + x1).toNatClampNeg) then (((3 * x2) / 4), (F_X7_rakeBy (F_X7_note g) x1 x2)) else ((-1000002), g)) else ((-1000002), g))))
set_option maxRecDepth 100000 in
set_option maxHeartbeats 4000000 in
theorem k_X7_rake (l : Launch) (G : mm_G) {pr : Nat → Nat → Prop} {ad : Nat → Nat → Nat → Nat} (hw : mm_W pr) (g : mm_g) (x1 : Int32) (x2 : Int32) (hB : okB g) (hA : okA g)  : Mt l G yX7_rake cX7_rake 3 (some .int) (rmk 5 152) [.ref (ad 7 0 0), .int x1, .int x2] pr ad g (qM pr ad (F_X7_rake g x1 x2)) 0 0 := by
  refine Mt_of (by decide) (Nat.le_of_ble_eq_true rfl) ?_
  show V l G RX7 cX7_rake 3 (some .int) _ _ 0 0 0 0 0 [(0, .ref (ad 7 0 0)), (1, .int x1), (2, .int x2)] [] pr ad g
  refine V_aload_n dX7_rake_0 0 rfl ?_
  refine V_iload_n dX7_rake_1 1 rfl ?_
  refine V_cV (k_X7_isBed l G hw g  x1 ) hy_X7_isBed hi_X7_isBed hs_X7_isBed q_480 rfl rfl (W_7 hw) rfl rfl rfl rfl rfl ⟨by decide, by decide⟩ (Nat.le_of_ble_eq_true rfl) ⟨by decide, by decide⟩ dX7_rake_2 (V_kI ?_)
  refine V_if_eq (tgt := 20) dX7_rake_5 (by decide) (fun c_5 => ?_) (fun c_5 => ?_)
  · refine V_ldc q_130 dX7_rake_20 ?_
    exact V_iret dX7_rake_22 rfl (lfM (by simp only [F_X7_rake, if_pos c_5]))
  · refine V_iload_n dX7_rake_8 2 rfl ?_
    refine V_i2l dX7_rake_9 ?_
    refine V_lconst (v := 1) dX7_rake_10 (by decide) ?_
    refine V_ldc2 q_479 dX7_rake_11 ?_
    refine V_cS (k_X7_in l G hw g  (x2.toInt64) 1 99 ) hy_X7_in hz_X7_in q_135 rfl rfl rfl rfl ⟨by decide, by decide⟩ (Nat.le_of_ble_eq_true rfl) ⟨by decide, by decide⟩ dX7_rake_14 (V_kI ?_)
    refine V_if_ne (tgt := 23) dX7_rake_17 (by decide) (fun c_17 => ?_) (fun c_17 => ?_)
    · refine V_aload_n dX7_rake_23 0 rfl ?_
      refine V_iload_n dX7_rake_24 1 rfl ?_
      refine V_cV (k_X7_hasVeto l G hw g  x1 ) hy_X7_hasVeto hi_X7_hasVeto hs_X7_hasVeto q_484 rfl rfl (W_7 hw) rfl rfl rfl rfl rfl ⟨by decide, by decide⟩ (Nat.le_of_ble_eq_true rfl) ⟨by decide, by decide⟩ dX7_rake_25 (V_kI ?_)
      refine V_if_ne (tgt := 44) dX7_rake_28 (by decide) (fun c_28 => ?_) (fun c_28 => ?_)
      · refine V_ldc q_371 dX7_rake_44 ?_
        exact V_iret dX7_rake_46 rfl (lfM (by simp only [F_X7_rake, if_neg c_5, if_neg c_17, if_neg c_28]))
      · refine V_iload_n dX7_rake_31 2 rfl ?_
        refine V_aload_n dX7_rake_32 0 rfl ?_
        refine V_get (i := 5) inlX7 rfl (W_7 hw) rfl (by decide) q_94 rfl dX7_rake_33 ?_
        refine V_bipush (v := 18) dX7_rake_36 (by decide) ?_
        refine V_iload_n dX7_rake_38 1 rfl ?_
        refine V_iadd dX7_rake_39 ?_
        refine L_7_4 (W_7 hw) (by exact ix_18 (ix_bed hB c_5)) dX7_rake_40 ?_
        refine V_ic_le (tgt := 47) dX7_rake_41 (by decide) (fun c_41 => ?_) (fun c_41 => ?_)
        · refine V_aload_n dX7_rake_47 0 rfl ?_
          refine V_cV (k_X7_note l G hw g   hA) hy_X7_note hi_X7_note hs_X7_note q_434 rfl rfl (W_7 hw) rfl rfl rfl rfl rfl ⟨by decide, by decide⟩ (Nat.le_of_ble_eq_true rfl) ⟨by decide, by decide⟩ dX7_rake_48 (V_kN ?_)
          refine V_aload_n dX7_rake_51 0 rfl ?_
          refine V_iload_n dX7_rake_52 1 rfl ?_
          refine V_iload_n dX7_rake_53 2 rfl ?_
          refine V_cV (k_X7_rakeBy l G hw (F_X7_note g)  x1 x2 (ix_bed hB c_5)) hy_X7_rakeBy hi_X7_rakeBy hs_X7_rakeBy q_491 rfl rfl (W_7 hw) rfl rfl rfl rfl rfl ⟨by decide, by decide⟩ (Nat.le_of_ble_eq_true rfl) ⟨by decide, by decide⟩ dX7_rake_54 (V_kN ?_)
          refine V_iconst (v := 3) dX7_rake_57 (by decide) ?_
          refine V_iload_n dX7_rake_58 2 rfl ?_
          refine V_imul dX7_rake_59 ?_
          refine V_iconst (v := 4) dX7_rake_60 (by decide) ?_
          refine V_idiv dX7_rake_61 (by decide) ?_
          exact V_iret dX7_rake_62 rfl (lfM (by simp only [F_X7_rake, if_neg c_5, if_neg c_17, if_pos c_28, if_pos c_41]))
        · refine V_ldc q_371 dX7_rake_44 ?_
          exact V_iret dX7_rake_46 rfl (lfM (by simp only [F_X7_rake, if_neg c_5, if_neg c_17, if_pos c_28, if_neg c_41]))
    · refine V_ldc q_130 dX7_rake_20 ?_
      exact V_iret dX7_rake_22 rfl (lfM (by simp only [F_X7_rake, if_neg c_5, if_pos c_17]))
def F_X7_rain (g : mm_g) (x1 : Int32) (x2 : Int32) : Int32 × mm_g := (if (F_X7_isBed g x1) = 0 then ((-1000001), g) else (if (F_X7_in (x2.toInt64) 0 9) = 0 then ((-1000001), g) else (((F_X7_note g) 7 4 (27 + x1).toNatClampNeg), (wr (F_X7_note g) 7 4 (27 + x1).toNatClampNeg x2))))
set_option maxRecDepth 100000 in
set_option maxHeartbeats 4000000 in
theorem k_X7_rain (l : Launch) (G : mm_G) {pr : Nat → Nat → Prop} {ad : Nat → Nat → Nat → Nat} (hw : mm_W pr) (g : mm_g) (x1 : Int32) (x2 : Int32) (hB : okB g) (hA : okA g)  : Mt l G yX7_rain cX7_rain 4 (some .int) (rmk 3 106) [.ref (ad 7 0 0), .int x1, .int x2] pr ad g (qM pr ad (F_X7_rain g x1 x2)) 0 0 := by
  refine Mt_of (by decide) (Nat.le_of_ble_eq_true rfl) ?_
  show V l G RX7 cX7_rain 4 (some .int) _ _ 0 0 0 0 0 [(0, .ref (ad 7 0 0)), (1, .int x1), (2, .int x2)] [] pr ad g
  refine V_aload_n dX7_rain_0 0 rfl ?_
  refine V_iload_n dX7_rain_1 1 rfl ?_
  refine V_cV (k_X7_isBed l G hw g  x1 ) hy_X7_isBed hi_X7_isBed hs_X7_isBed q_480 rfl rfl (W_7 hw) rfl rfl rfl rfl rfl ⟨by decide, by decide⟩ (Nat.le_of_ble_eq_true rfl) ⟨by decide, by decide⟩ dX7_rain_2 (V_kI ?_)
  refine V_if_eq (tgt := 20) dX7_rain_5 (by decide) (fun c_5 => ?_) (fun c_5 => ?_)
  · refine V_ldc q_130 dX7_rain_20 ?_
    exact V_iret dX7_rain_22 rfl (lfM (by simp only [F_X7_rain, if_pos c_5]))
  · refine V_iload_n dX7_rain_8 2 rfl ?_
    refine V_i2l dX7_rain_9 ?_
    refine V_lconst (v := 0) dX7_rain_10 (by decide) ?_
    refine V_ldc2 q_511 dX7_rain_11 ?_
    refine V_cS (k_X7_in l G hw g  (x2.toInt64) 0 9 ) hy_X7_in hz_X7_in q_135 rfl rfl rfl rfl ⟨by decide, by decide⟩ (Nat.le_of_ble_eq_true rfl) ⟨by decide, by decide⟩ dX7_rain_14 (V_kI ?_)
    refine V_if_ne (tgt := 23) dX7_rain_17 (by decide) (fun c_17 => ?_) (fun c_17 => ?_)
    · refine V_aload_n dX7_rain_23 0 rfl ?_
      refine V_cV (k_X7_note l G hw g   hA) hy_X7_note hi_X7_note hs_X7_note q_434 rfl rfl (W_7 hw) rfl rfl rfl rfl rfl ⟨by decide, by decide⟩ (Nat.le_of_ble_eq_true rfl) ⟨by decide, by decide⟩ dX7_rain_24 (V_kN ?_)
      refine V_aload_n dX7_rain_27 0 rfl ?_
      refine V_get (i := 5) inlX7 rfl (W_7 hw) rfl (by decide) q_94 rfl dX7_rain_28 ?_
      refine V_bipush (v := 27) dX7_rain_31 (by decide) ?_
      refine V_iload_n dX7_rain_33 1 rfl ?_
      refine V_iadd dX7_rain_34 ?_
      refine L_7_4 (W_7 hw) (by exact ix_27 (ix_bed hB c_5)) dX7_rain_35 ?_
      refine V_istore_n (L2 := [(3, .int ((F_X7_note g) 7 4 (27 + x1).toNatClampNeg)), (0, .ref (ad 7 0 0)), (1, .int x1), (2, .int x2)]) dX7_rain_36 (by decide) rfl ?_
      refine V_aload_n dX7_rain_37 1 rfl ?_
      refine V_get (i := 5) inlX7 rfl (W_7 hw) rfl (by decide) q_94 rfl dX7_rain_38 ?_
      refine V_bipush (v := 27) dX7_rain_41 (by decide) ?_
      refine V_iload_n dX7_rain_43 2 rfl ?_
      refine V_iadd dX7_rain_44 ?_
      refine V_iload_n dX7_rain_45 3 rfl ?_
      refine S_7_4 (W_7 hw) (by exact ix_27 (ix_bed hB c_5)) dX7_rain_46 ?_
      refine V_iload_n dX7_rain_47 0 rfl ?_
      exact V_iret dX7_rain_48 rfl (lfM (by simp only [F_X7_rain, if_neg c_5, if_neg c_17]))
    · refine V_ldc q_130 dX7_rain_20 ?_
      exact V_iret dX7_rain_22 rfl (lfM (by simp only [F_X7_rain, if_neg c_5, if_pos c_17]))
def F_X7_stand (g : mm_g) (x1 : Int32) (x2 : Int32) : Int32 × mm_g := (if (g 7 0 1) = 0 then ((-1000002), g) else (if (F_X7_isWho x1) = 0 then ((-1000001), g) else (if (F_X7_in (x2.toInt64) 0 8) = 0 then ((-1000001), g) else (((F_X7_note g) 7 4 (1 + x1).toNatClampNeg), (wr (F_X7_note g) 7 4 (1 + x1).toNatClampNeg x2)))))
set_option maxRecDepth 100000 in
set_option maxHeartbeats 4000000 in
theorem k_X7_stand (l : Launch) (G : mm_G) {pr : Nat → Nat → Prop} {ad : Nat → Nat → Nat → Nat} (hw : mm_W pr) (g : mm_g) (x1 : Int32) (x2 : Int32) (hA : okA g)  : Mt l G yX7_stand cX7_stand 4 (some .int) (rmk 3 105) [.ref (ad 7 0 0), .int x1, .int x2] pr ad g (qM pr ad (F_X7_stand g x1 x2)) 0 0 := by
  refine Mt_of (by decide) (Nat.le_of_ble_eq_true rfl) ?_
  show V l G RX7 cX7_stand 4 (some .int) _ _ 0 0 0 0 0 [(0, .ref (ad 7 0 0)), (1, .int x1), (2, .int x2)] [] pr ad g
  refine V_aload_n dX7_stand_0 0 rfl ?_
  refine V_get (i := 4) inlX7 rfl (W_7 hw) rfl (by decide) q_309 rfl dX7_stand_1 ?_
  refine V_if_ne (tgt := 10) dX7_stand_4 (by decide) (fun c_4 => ?_) (fun c_4 => ?_)
  · refine V_iload_n dX7_stand_10 1 rfl ?_
    refine V_cS (k_X7_isWho l G hw g  x1 ) hy_X7_isWho hz_X7_isWho q_540 rfl rfl rfl rfl ⟨by decide, by decide⟩ (Nat.le_of_ble_eq_true rfl) ⟨by decide, by decide⟩ dX7_stand_11 (V_kI ?_)
    refine V_if_eq (tgt := 29) dX7_stand_14 (by decide) (fun c_14 => ?_) (fun c_14 => ?_)
    · refine V_ldc q_130 dX7_stand_29 ?_
      exact V_iret dX7_stand_31 rfl (lfM (by simp only [F_X7_stand, if_neg c_4, if_pos c_14]))
    · refine V_iload_n dX7_stand_17 2 rfl ?_
      refine V_i2l dX7_stand_18 ?_
      refine V_lconst (v := 0) dX7_stand_19 (by decide) ?_
      refine V_ldc2 q_539 dX7_stand_20 ?_
      refine V_cS (k_X7_in l G hw g  (x2.toInt64) 0 8 ) hy_X7_in hz_X7_in q_135 rfl rfl rfl rfl ⟨by decide, by decide⟩ (Nat.le_of_ble_eq_true rfl) ⟨by decide, by decide⟩ dX7_stand_23 (V_kI ?_)
      refine V_if_ne (tgt := 32) dX7_stand_26 (by decide) (fun c_26 => ?_) (fun c_26 => ?_)
      · refine V_aload_n dX7_stand_32 0 rfl ?_
        refine V_cV (k_X7_note l G hw g   hA) hy_X7_note hi_X7_note hs_X7_note q_434 rfl rfl (W_7 hw) rfl rfl rfl rfl rfl ⟨by decide, by decide⟩ (Nat.le_of_ble_eq_true rfl) ⟨by decide, by decide⟩ dX7_stand_33 (V_kN ?_)
        refine V_aload_n dX7_stand_36 0 rfl ?_
        refine V_get (i := 5) inlX7 rfl (W_7 hw) rfl (by decide) q_94 rfl dX7_stand_37 ?_
        refine V_iconst (v := 1) dX7_stand_40 (by decide) ?_
        refine V_iload_n dX7_stand_41 1 rfl ?_
        refine V_iadd dX7_stand_42 ?_
        refine L_7_4 (W_7 hw) (by exact ix_1 (ix_who c_14)) dX7_stand_43 ?_
        refine V_istore_n (L2 := [(3, .int ((F_X7_note g) 7 4 (1 + x1).toNatClampNeg)), (0, .ref (ad 7 0 0)), (1, .int x1), (2, .int x2)]) dX7_stand_44 (by decide) rfl ?_
        refine V_aload_n dX7_stand_45 1 rfl ?_
        refine V_get (i := 5) inlX7 rfl (W_7 hw) rfl (by decide) q_94 rfl dX7_stand_46 ?_
        refine V_iconst (v := 1) dX7_stand_49 (by decide) ?_
        refine V_iload_n dX7_stand_50 2 rfl ?_
        refine V_iadd dX7_stand_51 ?_
        refine V_iload_n dX7_stand_52 3 rfl ?_
        refine S_7_4 (W_7 hw) (by exact ix_1 (ix_who c_14)) dX7_stand_53 ?_
        refine V_iload_n dX7_stand_54 0 rfl ?_
        exact V_iret dX7_stand_55 rfl (lfM (by simp only [F_X7_stand, if_neg c_4, if_neg c_14, if_neg c_26]))
      · refine V_ldc q_130 dX7_stand_29 ?_
        exact V_iret dX7_stand_31 rfl (lfM (by simp only [F_X7_stand, if_neg c_4, if_neg c_14, if_pos c_26]))
  · refine V_ldc q_371 dX7_stand_7 ?_
    exact V_iret dX7_stand_9 rfl (lfM (by simp only [F_X7_stand, if_pos c_4]))
def F_X7_veto (g : mm_g) (x1 : Int32) (x2 : Int32) : Int32 × mm_g := (if (F_X7_isBed g x1) = 0 then ((-1000001), g) else (if (F_X7_in (x2.toInt64) 0 1) = 0 then ((-1000001), g) else (if x2 = 1 then (if (F_X7_hasVeto g x1) = 1 then ((-1000002), g) else (((wr (F_X7_note g) 7 4 5 (((F_X7_note g) 7 4 5) ^^^ ((1 : Int32) <<< (x1 &&& 31)))) 7 4 5), (wr (F_X7_note g) 7 4 5 (((F_X7_note g) 7 4 5) ^^^ ((1 : Int32) <<< (x1 &&& 31)))))) else (if (F_X7_hasVeto g x1) = 0 then ((-1000002), g) else (((wr (F_X7_note g) 7 4 5 (((F_X7_note g) 7 4 5) ^^^ ((1 : Int32) <<< (x1 &&& 31)))) 7 4 5), (wr (F_X7_note g) 7 4 5 (((F_X7_note g) 7 4 5) ^^^ ((1 : Int32) <<< (x1 &&& 31)))))))))
set_option maxRecDepth 100000 in
set_option maxHeartbeats 4000000 in
theorem k_X7_veto (l : Launch) (G : mm_G) {pr : Nat → Nat → Prop} {ad : Nat → Nat → Nat → Nat} (hw : mm_W pr) (g : mm_g) (x1 : Int32) (x2 : Int32) (hA : okA g)  : Mt l G yX7_veto cX7_veto 3 (some .int) (rmk 3 106) [.ref (ad 7 0 0), .int x1, .int x2] pr ad g (qM pr ad (F_X7_veto g x1 x2)) 0 0 := by
  refine Mt_of (by decide) (Nat.le_of_ble_eq_true rfl) ?_
  show V l G RX7 cX7_veto 3 (some .int) _ _ 0 0 0 0 0 [(0, .ref (ad 7 0 0)), (1, .int x1), (2, .int x2)] [] pr ad g
  refine V_aload_n dX7_veto_0 0 rfl ?_
  refine V_iload_n dX7_veto_1 1 rfl ?_
  refine V_cV (k_X7_isBed l G hw g  x1 ) hy_X7_isBed hi_X7_isBed hs_X7_isBed q_480 rfl rfl (W_7 hw) rfl rfl rfl rfl rfl ⟨by decide, by decide⟩ (Nat.le_of_ble_eq_true rfl) ⟨by decide, by decide⟩ dX7_veto_2 (V_kI ?_)
  refine V_if_eq (tgt := 18) dX7_veto_5 (by decide) (fun c_5 => ?_) (fun c_5 => ?_)
  · refine V_ldc q_130 dX7_veto_18 ?_
    exact V_iret dX7_veto_20 rfl (lfM (by simp only [F_X7_veto, if_pos c_5]))
  · refine V_iload_n dX7_veto_8 2 rfl ?_
    refine V_i2l dX7_veto_9 ?_
    refine V_lconst (v := 0) dX7_veto_10 (by decide) ?_
    refine V_lconst (v := 1) dX7_veto_11 (by decide) ?_
    refine V_cS (k_X7_in l G hw g  (x2.toInt64) 0 1 ) hy_X7_in hz_X7_in q_135 rfl rfl rfl rfl ⟨by decide, by decide⟩ (Nat.le_of_ble_eq_true rfl) ⟨by decide, by decide⟩ dX7_veto_12 (V_kI ?_)
    refine V_if_ne (tgt := 21) dX7_veto_15 (by decide) (fun c_15 => ?_) (fun c_15 => ?_)
    · refine V_aload_n dX7_veto_21 0 rfl ?_
      refine V_iload_n dX7_veto_22 1 rfl ?_
      refine V_cV (k_X7_hasVeto l G hw g  x1 ) hy_X7_hasVeto hi_X7_hasVeto hs_X7_hasVeto q_484 rfl rfl (W_7 hw) rfl rfl rfl rfl rfl ⟨by decide, by decide⟩ (Nat.le_of_ble_eq_true rfl) ⟨by decide, by decide⟩ dX7_veto_23 (V_kI ?_)
      refine V_iload_n dX7_veto_26 2 rfl ?_
      refine V_iconst (v := 1) dX7_veto_27 (by decide) ?_
      refine V_ic_ne (tgt := 35) dX7_veto_28 (by decide) (fun c_28 => ?_) (fun c_28 => ?_)
      · refine V_iconst (v := 0) dX7_veto_35 (by decide) ?_
        refine V_ic_ne (tgt := 42) dX7_veto_36 (by decide) (fun c_36 => ?_) (fun c_36 => ?_)
        · refine V_aload_n dX7_veto_42 0 rfl ?_
          refine V_cV (k_X7_note l G hw g   hA) hy_X7_note hi_X7_note hs_X7_note q_434 rfl rfl (W_7 hw) rfl rfl rfl rfl rfl ⟨by decide, by decide⟩ (Nat.le_of_ble_eq_true rfl) ⟨by decide, by decide⟩ dX7_veto_43 (V_kN ?_)
          refine V_aload_n dX7_veto_46 0 rfl ?_
          refine V_get (i := 5) inlX7 rfl (W_7 hw) rfl (by decide) q_94 rfl dX7_veto_47 ?_
          refine V_iconst (v := 5) dX7_veto_50 (by decide) ?_
          refine V_dup2 dX7_veto_51 rfl rfl ?_
          refine L_7_4_l 5 rfl (W_7 hw) (by unfold vp_in; decide) dX7_veto_52 ?_
          refine V_iconst (v := 1) dX7_veto_53 (by decide) ?_
          refine V_iload_n dX7_veto_54 1 rfl ?_
          refine V_ishl dX7_veto_55 ?_
          refine V_ixor dX7_veto_56 ?_
          refine S_7_4_l 5 rfl (W_7 hw) (by unfold vp_in; decide) dX7_veto_57 ?_
          refine V_aload_n dX7_veto_58 0 rfl ?_
          refine V_get (i := 5) inlX7 rfl (W_7 hw) rfl (by decide) q_94 rfl dX7_veto_59 ?_
          refine V_iconst (v := 5) dX7_veto_62 (by decide) ?_
          refine L_7_4_l 5 rfl (W_7 hw) (by unfold vp_in; decide) dX7_veto_63 ?_
          exact V_iret dX7_veto_64 rfl (lfM (by simp only [F_X7_veto, if_neg c_5, if_neg c_15, if_neg c_28, if_neg c_36]))
        · refine V_ldc q_371 dX7_veto_39 ?_
          exact V_iret dX7_veto_41 rfl (lfM (by simp only [F_X7_veto, if_neg c_5, if_neg c_15, if_neg c_28, if_pos c_36]))
      · refine V_iconst (v := 1) dX7_veto_31 (by decide) ?_
        refine V_goto (tgt := 36) dX7_veto_32 (by decide) ?_
        refine V_ic_ne (tgt := 42) dX7_veto_36 (by decide) (fun c_36 => ?_) (fun c_36 => ?_)
        · refine V_aload_n dX7_veto_42 0 rfl ?_
          refine V_cV (k_X7_note l G hw g   hA) hy_X7_note hi_X7_note hs_X7_note q_434 rfl rfl (W_7 hw) rfl rfl rfl rfl rfl ⟨by decide, by decide⟩ (Nat.le_of_ble_eq_true rfl) ⟨by decide, by decide⟩ dX7_veto_43 (V_kN ?_)
          refine V_aload_n dX7_veto_46 0 rfl ?_
          refine V_get (i := 5) inlX7 rfl (W_7 hw) rfl (by decide) q_94 rfl dX7_veto_47 ?_
          refine V_iconst (v := 5) dX7_veto_50 (by decide) ?_
          refine V_dup2 dX7_veto_51 rfl rfl ?_
          refine L_7_4_l 5 rfl (W_7 hw) (by unfold vp_in; decide) dX7_veto_52 ?_
          refine V_iconst (v := 1) dX7_veto_53 (by decide) ?_
          refine V_iload_n dX7_veto_54 1 rfl ?_
          refine V_ishl dX7_veto_55 ?_
          refine V_ixor dX7_veto_56 ?_
          refine S_7_4_l 5 rfl (W_7 hw) (by unfold vp_in; decide) dX7_veto_57 ?_
          refine V_aload_n dX7_veto_58 0 rfl ?_
          refine V_get (i := 5) inlX7 rfl (W_7 hw) rfl (by decide) q_94 rfl dX7_veto_59 ?_
          refine V_iconst (v := 5) dX7_veto_62 (by decide) ?_
          refine L_7_4_l 5 rfl (W_7 hw) (by unfold vp_in; decide) dX7_veto_63 ?_
          exact V_iret dX7_veto_64 rfl (lfM (by simp only [F_X7_veto, if_neg c_5, if_neg c_15, if_pos c_28, if_neg c_36]))
        · refine V_ldc q_371 dX7_veto_39 ?_
          exact V_iret dX7_veto_41 rfl (lfM (by simp only [F_X7_veto, if_neg c_5, if_neg c_15, if_pos c_28, if_pos c_36]))
    · refine V_ldc q_130 dX7_veto_18 ?_
      exact V_iret dX7_veto_20 rfl (lfM (by simp only [F_X7_veto, if_neg c_5, if_pos c_15]))
def F_X7_bed (g : mm_g) (x1 : Int32) (x2 : Int32) : Int32 := (if (F_X7_isBed g x1) = 0 then (-1000001) else (if (F_X7_in (x2.toInt64) 0 3) = 0 then (-1000001) else (if 3 ≤ x2 then (if (F_X7_hasVeto g x1) = 0 then 0 else 1) else (F_X7_toldOf g x1 x2))))
set_option maxRecDepth 100000 in
set_option maxHeartbeats 4000000 in
theorem k_X7_bed (l : Launch) (G : mm_G) {pr : Nat → Nat → Prop} {ad : Nat → Nat → Nat → Nat} (hw : mm_W pr) (g : mm_g) (x1 : Int32) (x2 : Int32) (hB : okB g)  : Mt l G yX7_bed cX7_bed 3 (some .int) (rmk 5 151) [.ref (ad 7 0 0), .int x1, .int x2] pr ad g (qI pr ad g (F_X7_bed g x1 x2)) 0 0 := by
  refine Mt_of (by decide) (Nat.le_of_ble_eq_true rfl) ?_
  show V l G RX7 cX7_bed 3 (some .int) _ _ 0 0 0 0 0 [(0, .ref (ad 7 0 0)), (1, .int x1), (2, .int x2)] [] pr ad g
  refine V_aload_n dX7_bed_0 0 rfl ?_
  refine V_iload_n dX7_bed_1 1 rfl ?_
  refine V_cV (k_X7_isBed l G hw g  x1 ) hy_X7_isBed hi_X7_isBed hs_X7_isBed q_480 rfl rfl (W_7 hw) rfl rfl rfl rfl rfl ⟨by decide, by decide⟩ (Nat.le_of_ble_eq_true rfl) ⟨by decide, by decide⟩ dX7_bed_2 (V_kI ?_)
  refine V_if_eq (tgt := 20) dX7_bed_5 (by decide) (fun c_5 => ?_) (fun c_5 => ?_)
  · refine V_ldc q_130 dX7_bed_20 ?_
    refine V_goto (tgt := 52) dX7_bed_22 (by decide) ?_
    exact V_iret dX7_bed_52 rfl (lfI (by simp only [F_X7_bed, if_pos c_5]))
  · refine V_iload_n dX7_bed_8 2 rfl ?_
    refine V_i2l dX7_bed_9 ?_
    refine V_lconst (v := 0) dX7_bed_10 (by decide) ?_
    refine V_ldc2 q_556 dX7_bed_11 ?_
    refine V_cS (k_X7_in l G hw g  (x2.toInt64) 0 3 ) hy_X7_in hz_X7_in q_135 rfl rfl rfl rfl ⟨by decide, by decide⟩ (Nat.le_of_ble_eq_true rfl) ⟨by decide, by decide⟩ dX7_bed_14 (V_kI ?_)
    refine V_if_ne (tgt := 25) dX7_bed_17 (by decide) (fun c_17 => ?_) (fun c_17 => ?_)
    · refine V_iload_n dX7_bed_25 2 rfl ?_
      refine V_iconst (v := 3) dX7_bed_26 (by decide) ?_
      refine V_ic_ge (tgt := 39) dX7_bed_27 (by decide) (fun c_27 => ?_) (fun c_27 => ?_)
      · refine V_aload_n dX7_bed_39 0 rfl ?_
        refine V_iload_n dX7_bed_40 1 rfl ?_
        refine V_cV (k_X7_hasVeto l G hw g  x1 ) hy_X7_hasVeto hi_X7_hasVeto hs_X7_hasVeto q_484 rfl rfl (W_7 hw) rfl rfl rfl rfl rfl ⟨by decide, by decide⟩ (Nat.le_of_ble_eq_true rfl) ⟨by decide, by decide⟩ dX7_bed_41 (V_kI ?_)
        refine V_if_eq (tgt := 51) dX7_bed_44 (by decide) (fun c_44 => ?_) (fun c_44 => ?_)
        · refine V_iconst (v := 0) dX7_bed_51 (by decide) ?_
          exact V_iret dX7_bed_52 rfl (lfI (by simp only [F_X7_bed, if_neg c_5, if_neg c_17, if_pos c_27, if_pos c_44]))
        · refine V_iconst (v := 1) dX7_bed_47 (by decide) ?_
          refine V_goto (tgt := 52) dX7_bed_48 (by decide) ?_
          exact V_iret dX7_bed_52 rfl (lfI (by simp only [F_X7_bed, if_neg c_5, if_neg c_17, if_pos c_27, if_neg c_44]))
      · refine V_aload_n dX7_bed_30 0 rfl ?_
        refine V_iload_n dX7_bed_31 1 rfl ?_
        refine V_iload_n dX7_bed_32 2 rfl ?_
        refine V_cV (k_X7_toldOf l G hw g  x1 x2 (ix_bed hB c_5)) hy_X7_toldOf hi_X7_toldOf hs_X7_toldOf q_557 rfl rfl (W_7 hw) rfl rfl rfl rfl rfl ⟨by decide, by decide⟩ (Nat.le_of_ble_eq_true rfl) ⟨by decide, by decide⟩ dX7_bed_33 (V_kI ?_)
        refine V_goto (tgt := 52) dX7_bed_36 (by decide) ?_
        exact V_iret dX7_bed_52 rfl (lfI (by simp only [F_X7_bed, if_neg c_5, if_neg c_17, if_neg c_27]))
    · refine V_ldc q_130 dX7_bed_20 ?_
      refine V_goto (tgt := 52) dX7_bed_22 (by decide) ?_
      exact V_iret dX7_bed_52 rfl (lfI (by simp only [F_X7_bed, if_neg c_5, if_pos c_17]))
def F_X7_board (g : mm_g) (x1 : Int32) : Int32 := (if (g 7 0 1) = 0 then (-1000002) else (if (F_X7_in (x1.toInt64) 0 5) = 0 then (-1000001) else (if 3 ≤ x1 then (if 5 ≤ x1 then (g 7 4 3) else (g 7 4 ((1 + x1) - 3).toNatClampNeg)) else (g 7 4 (6 + x1).toNatClampNeg))))
set_option maxRecDepth 100000 in
set_option maxHeartbeats 4000000 in
theorem k_X7_board (l : Launch) (G : mm_G) {pr : Nat → Nat → Prop} {ad : Nat → Nat → Nat → Nat} (hw : mm_W pr) (g : mm_g) (x1 : Int32)  : Mt l G yX7_board cX7_board 2 (some .int) (rmk 2 85) [.ref (ad 7 0 0), .int x1] pr ad g (qI pr ad g (F_X7_board g x1)) 0 0 := by
  refine Mt_of (by decide) (Nat.le_of_ble_eq_true rfl) ?_
  show V l G RX7 cX7_board 2 (some .int) _ _ 0 0 0 0 0 [(0, .ref (ad 7 0 0)), (1, .int x1)] [] pr ad g
  refine V_aload_n dX7_board_0 0 rfl ?_
  refine V_get (i := 4) inlX7 rfl (W_7 hw) rfl (by decide) q_309 rfl dX7_board_1 ?_
  refine V_if_ne (tgt := 10) dX7_board_4 (by decide) (fun c_4 => ?_) (fun c_4 => ?_)
  · refine V_iload_n dX7_board_10 1 rfl ?_
    refine V_i2l dX7_board_11 ?_
    refine V_lconst (v := 0) dX7_board_12 (by decide) ?_
    refine V_ldc2 q_573 dX7_board_13 ?_
    refine V_cS (k_X7_in l G hw g  (x1.toInt64) 0 5 ) hy_X7_in hz_X7_in q_135 rfl rfl rfl rfl ⟨by decide, by decide⟩ (Nat.le_of_ble_eq_true rfl) ⟨by decide, by decide⟩ dX7_board_16 (V_kI ?_)
    refine V_if_ne (tgt := 27) dX7_board_19 (by decide) (fun c_19 => ?_) (fun c_19 => ?_)
    · refine V_iload_n dX7_board_27 1 rfl ?_
      refine V_iconst (v := 3) dX7_board_28 (by decide) ?_
      refine V_ic_ge (tgt := 44) dX7_board_29 (by decide) (fun c_29 => ?_) (fun c_29 => ?_)
      · refine V_iload_n dX7_board_44 1 rfl ?_
        refine V_iconst (v := 5) dX7_board_45 (by decide) ?_
        refine V_ic_ge (tgt := 62) dX7_board_46 (by decide) (fun c_46 => ?_) (fun c_46 => ?_)
        · refine V_aload_n dX7_board_62 0 rfl ?_
          refine V_get (i := 5) inlX7 rfl (W_7 hw) rfl (by decide) q_94 rfl dX7_board_63 ?_
          refine V_iconst (v := 3) dX7_board_66 (by decide) ?_
          refine L_7_4_l 3 rfl (W_7 hw) (by unfold vp_in; decide) dX7_board_67 ?_
          exact V_iret dX7_board_68 rfl (lfI (by simp only [F_X7_board, if_neg c_4, if_neg c_19, if_pos c_29, if_pos c_46]))
        · refine V_aload_n dX7_board_49 0 rfl ?_
          refine V_get (i := 5) inlX7 rfl (W_7 hw) rfl (by decide) q_94 rfl dX7_board_50 ?_
          refine V_iconst (v := 1) dX7_board_53 (by decide) ?_
          refine V_iload_n dX7_board_54 1 rfl ?_
          refine V_iadd dX7_board_55 ?_
          refine V_iconst (v := 3) dX7_board_56 (by decide) ?_
          refine V_isub dX7_board_57 ?_
          refine L_7_4 (W_7 hw) (by exact ix_bp c_19 c_29 c_46) dX7_board_58 ?_
          refine V_goto (tgt := 68) dX7_board_59 (by decide) ?_
          exact V_iret dX7_board_68 rfl (lfI (by simp only [F_X7_board, if_neg c_4, if_neg c_19, if_pos c_29, if_neg c_46]))
      · refine V_aload_n dX7_board_32 0 rfl ?_
        refine V_get (i := 5) inlX7 rfl (W_7 hw) rfl (by decide) q_94 rfl dX7_board_33 ?_
        refine V_bipush (v := 6) dX7_board_36 (by decide) ?_
        refine V_iload_n dX7_board_38 1 rfl ?_
        refine V_iadd dX7_board_39 ?_
        refine L_7_4 (W_7 hw) (by exact ix_6 (ix_bo c_19 c_29)) dX7_board_40 ?_
        refine V_goto (tgt := 68) dX7_board_41 (by decide) ?_
        exact V_iret dX7_board_68 rfl (lfI (by simp only [F_X7_board, if_neg c_4, if_neg c_19, if_neg c_29]))
    · refine V_ldc q_130 dX7_board_22 ?_
      refine V_goto (tgt := 68) dX7_board_24 (by decide) ?_
      exact V_iret dX7_board_68 rfl (lfI (by simp only [F_X7_board, if_neg c_4, if_pos c_19]))
  · refine V_ldc q_371 dX7_board_7 ?_
    exact V_iret dX7_board_9 rfl (lfI (by simp only [F_X7_board, if_pos c_4]))
def F_X7_ahead (g : mm_g) (x1 : Int32) (x2 : Int32) (x3 : Int32) : Int32 × mm_g := (if (F_X7_isBed g x1) = 0 then ((-1000001), g) else (if (F_X7_in (x2.toInt64) 0 60) = 0 then ((-1000001), g) else (if (F_X7_in (x3.toInt64) 0 2) = 0 then ((-1000001), g) else ((F_X7_toldOf (F_X7_goOn (F_X7_putAside g) x2) x1 x3), (F_X7_takeBack (F_X7_goOn (F_X7_putAside g) x2))))))
set_option maxRecDepth 100000 in
set_option maxHeartbeats 4000000 in
theorem k_X7_ahead (l : Launch) (G : mm_G) {pr : Nat → Nat → Prop} {ad : Nat → Nat → Nat → Nat} (hw : mm_W pr) (g : mm_g) (x1 : Int32) (x2 : Int32) (x3 : Int32) (hB : okB g)  : Mt l G yX7_ahead cX7_ahead 5 (some .int) (rmk 6 174) [.ref (ad 7 0 0), .int x1, .int x2, .int x3] pr ad g (qM pr ad (F_X7_ahead g x1 x2 x3)) 0 0 := by
  refine Mt_of (by decide) (Nat.le_of_ble_eq_true rfl) ?_
  show V l G RX7 cX7_ahead 5 (some .int) _ _ 0 0 0 0 0 [(0, .ref (ad 7 0 0)), (1, .int x1), (2, .int x2), (3, .int x3)] [] pr ad g
  refine V_aload_n dX7_ahead_0 0 rfl ?_
  refine V_iload_n dX7_ahead_1 1 rfl ?_
  refine V_cV (k_X7_isBed l G hw g  x1 ) hy_X7_isBed hi_X7_isBed hs_X7_isBed q_480 rfl rfl (W_7 hw) rfl rfl rfl rfl rfl ⟨by decide, by decide⟩ (Nat.le_of_ble_eq_true rfl) ⟨by decide, by decide⟩ dX7_ahead_2 (V_kI ?_)
  refine V_if_eq (tgt := 32) dX7_ahead_5 (by decide) (fun c_5 => ?_) (fun c_5 => ?_)
  · refine V_ldc q_130 dX7_ahead_32 ?_
    exact V_iret dX7_ahead_34 rfl (lfM (by simp only [F_X7_ahead, if_pos c_5]))
  · refine V_iload_n dX7_ahead_8 2 rfl ?_
    refine V_i2l dX7_ahead_9 ?_
    refine V_lconst (v := 0) dX7_ahead_10 (by decide) ?_
    refine V_ldc2 q_588 dX7_ahead_11 ?_
    refine V_cS (k_X7_in l G hw g  (x2.toInt64) 0 60 ) hy_X7_in hz_X7_in q_135 rfl rfl rfl rfl ⟨by decide, by decide⟩ (Nat.le_of_ble_eq_true rfl) ⟨by decide, by decide⟩ dX7_ahead_14 (V_kI ?_)
    refine V_if_eq (tgt := 32) dX7_ahead_17 (by decide) (fun c_17 => ?_) (fun c_17 => ?_)
    · refine V_ldc q_130 dX7_ahead_32 ?_
      exact V_iret dX7_ahead_34 rfl (lfM (by simp only [F_X7_ahead, if_neg c_5, if_pos c_17]))
    · refine V_iload_n dX7_ahead_20 3 rfl ?_
      refine V_i2l dX7_ahead_21 ?_
      refine V_lconst (v := 0) dX7_ahead_22 (by decide) ?_
      refine V_ldc2 q_129 dX7_ahead_23 ?_
      refine V_cS (k_X7_in l G hw g  (x3.toInt64) 0 2 ) hy_X7_in hz_X7_in q_135 rfl rfl rfl rfl ⟨by decide, by decide⟩ (Nat.le_of_ble_eq_true rfl) ⟨by decide, by decide⟩ dX7_ahead_26 (V_kI ?_)
      refine V_if_ne (tgt := 35) dX7_ahead_29 (by decide) (fun c_29 => ?_) (fun c_29 => ?_)
      · refine V_aload_n dX7_ahead_35 0 rfl ?_
        refine V_cV (k_X7_putAside l G hw g   ) hy_X7_putAside hi_X7_putAside hs_X7_putAside q_589 rfl rfl (W_7 hw) rfl rfl rfl rfl rfl ⟨by decide, by decide⟩ (Nat.le_of_ble_eq_true rfl) ⟨by decide, by decide⟩ dX7_ahead_36 (V_kN ?_)
        refine V_aload_n dX7_ahead_39 0 rfl ?_
        refine V_iload_n dX7_ahead_40 2 rfl ?_
        refine V_cV (k_X7_goOn l G hw (F_X7_putAside g)  x2 (okB_aside hB)) hy_X7_goOn hi_X7_goOn hs_X7_goOn q_593 rfl rfl (W_7 hw) rfl rfl rfl rfl rfl ⟨by decide, by decide⟩ (Nat.le_of_ble_eq_true rfl) ⟨by decide, by decide⟩ dX7_ahead_41 (V_kN ?_)
        refine V_aload_n dX7_ahead_44 0 rfl ?_
        refine V_iload_n dX7_ahead_45 1 rfl ?_
        refine V_iload_n dX7_ahead_46 3 rfl ?_
        refine V_cV (k_X7_toldOf l G hw (F_X7_goOn (F_X7_putAside g) x2)  x1 x3 (ix_bed hB c_5)) hy_X7_toldOf hi_X7_toldOf hs_X7_toldOf q_557 rfl rfl (W_7 hw) rfl rfl rfl rfl rfl ⟨by decide, by decide⟩ (Nat.le_of_ble_eq_true rfl) ⟨by decide, by decide⟩ dX7_ahead_47 (V_kI ?_)
        refine V_istore (L2 := [(4, .int (F_X7_toldOf (F_X7_goOn (F_X7_putAside g) x2) x1 x3)), (0, .ref (ad 7 0 0)), (1, .int x1), (2, .int x2), (3, .int x3)]) dX7_ahead_50 (by decide) rfl ?_
        refine V_aload_n dX7_ahead_52 1 rfl ?_
        refine V_cV (k_X7_takeBack l G hw (F_X7_goOn (F_X7_putAside g) x2)   ) hy_X7_takeBack hi_X7_takeBack hs_X7_takeBack q_597 rfl rfl (W_7 hw) rfl rfl rfl rfl rfl ⟨by decide, by decide⟩ (Nat.le_of_ble_eq_true rfl) ⟨by decide, by decide⟩ dX7_ahead_53 (V_kN ?_)
        refine V_iload dX7_ahead_56 0 rfl ?_
        exact V_iret dX7_ahead_58 rfl (lfM (by simp only [F_X7_ahead, if_neg c_5, if_neg c_17, if_neg c_29]))
      · refine V_ldc q_130 dX7_ahead_32 ?_
        exact V_iret dX7_ahead_34 rfl (lfM (by simp only [F_X7_ahead, if_neg c_5, if_neg c_17, if_pos c_29]))
def F_X7_tally (g : mm_g) (x1 : Int32) (x2 : Int32) : Int32 × mm_g := (if (g 7 0 1) = 0 then ((-1000002), g) else (if (F_X7_in (x1.toInt64) 0 60) = 0 then ((-1000001), g) else (if (F_X7_in (x2.toInt64) 0 2) = 0 then ((-1000001), g) else ((F_X7_tallyOf (F_X7_goOn (F_X7_putAside g) x1) x2), (F_X7_takeBack (F_X7_goOn (F_X7_putAside g) x1))))))
set_option maxRecDepth 100000 in
set_option maxHeartbeats 4000000 in
theorem k_X7_tally (l : Launch) (G : mm_G) {pr : Nat → Nat → Prop} {ad : Nat → Nat → Nat → Nat} (hw : mm_W pr) (g : mm_g) (x1 : Int32) (x2 : Int32) (hB : okB g)  : Mt l G yX7_tally cX7_tally 4 (some .int) (rmk 6 174) [.ref (ad 7 0 0), .int x1, .int x2] pr ad g (qM pr ad (F_X7_tally g x1 x2)) 0 0 := by
  refine Mt_of (by decide) (Nat.le_of_ble_eq_true rfl) ?_
  show V l G RX7 cX7_tally 4 (some .int) _ _ 0 0 0 0 0 [(0, .ref (ad 7 0 0)), (1, .int x1), (2, .int x2)] [] pr ad g
  refine V_aload_n dX7_tally_0 0 rfl ?_
  refine V_get (i := 4) inlX7 rfl (W_7 hw) rfl (by decide) q_309 rfl dX7_tally_1 ?_
  refine V_if_ne (tgt := 10) dX7_tally_4 (by decide) (fun c_4 => ?_) (fun c_4 => ?_)
  · refine V_iload_n dX7_tally_10 1 rfl ?_
    refine V_i2l dX7_tally_11 ?_
    refine V_lconst (v := 0) dX7_tally_12 (by decide) ?_
    refine V_ldc2 q_588 dX7_tally_13 ?_
    refine V_cS (k_X7_in l G hw g  (x1.toInt64) 0 60 ) hy_X7_in hz_X7_in q_135 rfl rfl rfl rfl ⟨by decide, by decide⟩ (Nat.le_of_ble_eq_true rfl) ⟨by decide, by decide⟩ dX7_tally_16 (V_kI ?_)
    refine V_if_eq (tgt := 34) dX7_tally_19 (by decide) (fun c_19 => ?_) (fun c_19 => ?_)
    · refine V_ldc q_130 dX7_tally_34 ?_
      exact V_iret dX7_tally_36 rfl (lfM (by simp only [F_X7_tally, if_neg c_4, if_pos c_19]))
    · refine V_iload_n dX7_tally_22 2 rfl ?_
      refine V_i2l dX7_tally_23 ?_
      refine V_lconst (v := 0) dX7_tally_24 (by decide) ?_
      refine V_ldc2 q_129 dX7_tally_25 ?_
      refine V_cS (k_X7_in l G hw g  (x2.toInt64) 0 2 ) hy_X7_in hz_X7_in q_135 rfl rfl rfl rfl ⟨by decide, by decide⟩ (Nat.le_of_ble_eq_true rfl) ⟨by decide, by decide⟩ dX7_tally_28 (V_kI ?_)
      refine V_if_ne (tgt := 37) dX7_tally_31 (by decide) (fun c_31 => ?_) (fun c_31 => ?_)
      · refine V_aload_n dX7_tally_37 0 rfl ?_
        refine V_cV (k_X7_putAside l G hw g   ) hy_X7_putAside hi_X7_putAside hs_X7_putAside q_589 rfl rfl (W_7 hw) rfl rfl rfl rfl rfl ⟨by decide, by decide⟩ (Nat.le_of_ble_eq_true rfl) ⟨by decide, by decide⟩ dX7_tally_38 (V_kN ?_)
        refine V_aload_n dX7_tally_41 0 rfl ?_
        refine V_iload_n dX7_tally_42 1 rfl ?_
        refine V_cV (k_X7_goOn l G hw (F_X7_putAside g)  x1 (okB_aside hB)) hy_X7_goOn hi_X7_goOn hs_X7_goOn q_593 rfl rfl (W_7 hw) rfl rfl rfl rfl rfl ⟨by decide, by decide⟩ (Nat.le_of_ble_eq_true rfl) ⟨by decide, by decide⟩ dX7_tally_43 (V_kN ?_)
        refine V_aload_n dX7_tally_46 0 rfl ?_
        refine V_iload_n dX7_tally_47 2 rfl ?_
        refine V_cV (k_X7_tallyOf l G hw (F_X7_goOn (F_X7_putAside g) x1)  x2 (okB_goOn (okB_aside hB)) (ix_in c_31 rfl)) hy_X7_tallyOf hi_X7_tallyOf hs_X7_tallyOf q_615 rfl rfl (W_7 hw) rfl rfl rfl rfl rfl ⟨by decide, by decide⟩ (Nat.le_of_ble_eq_true rfl) ⟨by decide, by decide⟩ dX7_tally_48 (V_kI ?_)
        refine V_istore_n (L2 := [(3, .int (F_X7_tallyOf (F_X7_goOn (F_X7_putAside g) x1) x2)), (0, .ref (ad 7 0 0)), (1, .int x1), (2, .int x2)]) dX7_tally_51 (by decide) rfl ?_
        refine V_aload_n dX7_tally_52 1 rfl ?_
        refine V_cV (k_X7_takeBack l G hw (F_X7_goOn (F_X7_putAside g) x1)   ) hy_X7_takeBack hi_X7_takeBack hs_X7_takeBack q_597 rfl rfl (W_7 hw) rfl rfl rfl rfl rfl ⟨by decide, by decide⟩ (Nat.le_of_ble_eq_true rfl) ⟨by decide, by decide⟩ dX7_tally_53 (V_kN ?_)
        refine V_iload_n dX7_tally_56 0 rfl ?_
        exact V_iret dX7_tally_57 rfl (lfM (by simp only [F_X7_tally, if_neg c_4, if_neg c_19, if_neg c_31]))
      · refine V_ldc q_130 dX7_tally_34 ?_
        exact V_iret dX7_tally_36 rfl (lfM (by simp only [F_X7_tally, if_neg c_4, if_neg c_19, if_pos c_31]))
  · refine V_ldc q_371 dX7_tally_7 ?_
    exact V_iret dX7_tally_9 rfl (lfM (by simp only [F_X7_tally, if_pos c_4]))
def F_X7_place (g : mm_g) (x1 : Int32) (x2 : Int32) : Int32 × mm_g := (if (g 7 0 1) = 0 then ((-1000002), g) else (if (F_X7_isWho x1) = 0 then ((-1000001), g) else (if (F_X7_isWhat x2) = 0 then ((-1000001), g) else (if x2 = 0 then ((F_X7_bestCell g x1).1, (F_X7_bestCell g x1).2) else ((F_X7_leadFrom ((F_X7_bestCell g x1).2) x1 ((F_X7_bestCell g x1).1)).1, (F_X7_leadFrom ((F_X7_bestCell g x1).2) x1 ((F_X7_bestCell g x1).1)).2)))))
set_option maxRecDepth 100000 in
set_option maxHeartbeats 4000000 in
theorem k_X7_place (l : Launch) (G : mm_G) {pr : Nat → Nat → Prop} {ad : Nat → Nat → Nat → Nat} (hw : mm_W pr) (g : mm_g) (x1 : Int32) (x2 : Int32) (hB : okB g)  : Mt l G yX7_place cX7_place 4 (some .int) (rmk 8 221) [.ref (ad 7 0 0), .int x1, .int x2] pr ad g (qM pr ad (F_X7_place g x1 x2)) 0 0 := by
  refine Mt_of (by decide) (Nat.le_of_ble_eq_true rfl) ?_
  show V l G RX7 cX7_place 4 (some .int) _ _ 0 0 0 0 0 [(0, .ref (ad 7 0 0)), (1, .int x1), (2, .int x2)] [] pr ad g
  refine V_aload_n dX7_place_0 0 rfl ?_
  refine V_get (i := 4) inlX7 rfl (W_7 hw) rfl (by decide) q_309 rfl dX7_place_1 ?_
  refine V_if_ne (tgt := 10) dX7_place_4 (by decide) (fun c_4 => ?_) (fun c_4 => ?_)
  · refine V_iload_n dX7_place_10 1 rfl ?_
    refine V_cS (k_X7_isWho l G hw g  x1 ) hy_X7_isWho hz_X7_isWho q_540 rfl rfl rfl rfl ⟨by decide, by decide⟩ (Nat.le_of_ble_eq_true rfl) ⟨by decide, by decide⟩ dX7_place_11 (V_kI ?_)
    refine V_if_eq (tgt := 24) dX7_place_14 (by decide) (fun c_14 => ?_) (fun c_14 => ?_)
    · refine V_ldc q_130 dX7_place_24 ?_
      exact V_iret dX7_place_26 rfl (lfM (by simp only [F_X7_place, if_neg c_4, if_pos c_14]))
    · refine V_iload_n dX7_place_17 2 rfl ?_
      refine V_cS (k_X7_isWhat l G hw g  x2 ) hy_X7_isWhat hz_X7_isWhat q_668 rfl rfl rfl rfl ⟨by decide, by decide⟩ (Nat.le_of_ble_eq_true rfl) ⟨by decide, by decide⟩ dX7_place_18 (V_kI ?_)
      refine V_if_ne (tgt := 27) dX7_place_21 (by decide) (fun c_21 => ?_) (fun c_21 => ?_)
      · refine V_aload_n dX7_place_27 0 rfl ?_
        refine V_iload_n dX7_place_28 1 rfl ?_
        refine V_cV (k_X7_bestCell l G hw g  x1 hB (ix_who c_14)) hy_X7_bestCell hi_X7_bestCell hs_X7_bestCell q_671 rfl rfl (W_7 hw) rfl rfl rfl rfl rfl ⟨by decide, by decide⟩ (Nat.le_of_ble_eq_true rfl) ⟨by decide, by decide⟩ dX7_place_29 (V_kM ?_)
        refine V_istore_n (L2 := [(3, .int ((F_X7_bestCell g x1).1)), (0, .ref (ad 7 0 0)), (1, .int x1), (2, .int x2)]) dX7_place_32 (by decide) rfl ?_
        refine V_iload_n dX7_place_33 3 rfl ?_
        refine V_if_ne (tgt := 41) dX7_place_34 (by decide) (fun c_34 => ?_) (fun c_34 => ?_)
        · refine V_aload_n dX7_place_41 1 rfl ?_
          refine V_iload_n dX7_place_42 2 rfl ?_
          refine V_iload_n dX7_place_43 0 rfl ?_
          refine V_cV (k_X7_leadFrom l G hw ((F_X7_bestCell g x1).2)  x1 ((F_X7_bestCell g x1).1) (okB_best hB (ix_who c_14)) (ix_who c_14)) hy_X7_leadFrom hi_X7_leadFrom hs_X7_leadFrom q_679 rfl rfl (W_7 hw) rfl rfl rfl rfl rfl ⟨by decide, by decide⟩ (Nat.le_of_ble_eq_true rfl) ⟨by decide, by decide⟩ dX7_place_44 (V_kM ?_)
          exact V_iret dX7_place_47 rfl (lfM (by simp only [F_X7_place, if_neg c_4, if_neg c_14, if_neg c_21, if_neg c_34]))
        · refine V_iload_n dX7_place_37 0 rfl ?_
          refine V_goto (tgt := 47) dX7_place_38 (by decide) ?_
          exact V_iret dX7_place_47 rfl (lfM (by simp only [F_X7_place, if_neg c_4, if_neg c_14, if_neg c_21, if_pos c_34]))
      · refine V_ldc q_130 dX7_place_24 ?_
        exact V_iret dX7_place_26 rfl (lfM (by simp only [F_X7_place, if_neg c_4, if_neg c_14, if_pos c_21]))
  · refine V_ldc q_371 dX7_place_7 ?_
    exact V_iret dX7_place_9 rfl (lfM (by simp only [F_X7_place, if_pos c_4]))
def F_X7_image_25 (x1 : Int32) (K : Nat → mm_g → Int32 × mm_g) : Nat → Nat → mm_g → Int32 × mm_g
  | 0, j, s => K j s
  | n + 1, j, s => (if 36 ≤ (nI j) then K j s else F_X7_image_25 x1 K n (j + 1) (wr s 7 11 ((36 * x1) + (nI j)).toNatClampNeg (s 7 4 (nI j).toNatClampNeg)))
def F_X7_image (g : mm_g) (x1 : Int32) : Int32 × mm_g := (if (F_X7_in (x1.toInt64) 0 1) = 0 then ((-1000001), g) else (if (g 7 0 1) = 0 then ((-1000002), g) else (F_X7_image_25 x1 (fun (j25 : Nat) (s25 : mm_g) => (1, (wr s25 7 10 x1.toNatClampNeg (vp_nar .boolean 1)))) ((36 : Int32).toInt.toNat + 1) 0 g)))
set_option maxRecDepth 100000 in
set_option maxHeartbeats 4000000 in
theorem w_X7_image_25 (l : Launch) (G : mm_G) {pr : Nat → Nat → Prop} {ad : Nat → Nat → Nat → Nat} (hw : mm_W pr) (x1 : Int32)  (h1 : vp_in x1 2) (K : Nat → mm_g → Int32 × mm_g) (hK : ∀ (j : Nat) (s : mm_g) (hj : j ≤ (36 : Int32).toInt.toNat), V l G RX7 cX7_image 3 (some .int) (rmk 2 85) (qM pr ad (K j s)) 0 0 0 0 54 [(0, .ref (ad 7 0 0)), (1, .int x1), (2, .int (nI j))] [] pr ad s) : ∀ (n : Nat) (j : Nat) (s : mm_g) (hj : j ≤ (36 : Int32).toInt.toNat) (hm : (36 : Int32).toInt.toNat - j < n), V l G RX7 cX7_image 3 (some .int) (rmk 2 85) (qM pr ad (F_X7_image_25 x1 K n j s)) 0 0 0 0 25 [(0, .ref (ad 7 0 0)), (1, .int x1), (2, .int (nI j))] [] pr ad s := by
  intro n
  induction n with
  | zero => intro j s hj hm; exact absurd hm (Nat.not_lt_zero _)
  | succ n ih =>
      intro j s hj hm
      refine V_iload_n dX7_image_25 2 rfl ?_
      refine V_bipush (v := 36) dX7_image_26 (by decide) ?_
      refine V_ic_ge (tgt := 54) dX7_image_28 (by decide) (fun c_28 => ?_) (fun c_28 => ?_)
      · refine V_rp (R2 := K j s) (by simp only [F_X7_image_25, if_pos c_28]) ?_
        refine V_lp [0, 1, 2] rfl ?_
        exact hK j s (by assumption)
      · refine V_aload_n dX7_image_31 0 rfl ?_
        refine V_get (i := 20) inlX7 rfl (W_7 hw) rfl (by decide) q_102 rfl dX7_image_32 ?_
        refine V_bipush (v := 36) dX7_image_35 (by decide) ?_
        refine V_iload_n dX7_image_37 1 rfl ?_
        refine V_imul dX7_image_38 ?_
        refine V_iload_n dX7_image_39 2 rfl ?_
        refine V_iadd dX7_image_40 ?_
        refine V_aload_n dX7_image_41 0 rfl ?_
        refine V_get (i := 5) inlX7 rfl (W_7 hw) rfl (by decide) q_94 rfl dX7_image_42 ?_
        refine V_iload_n dX7_image_45 2 rfl ?_
        refine L_7_4 (W_7 hw) (by exact ix_x hj c_28 (by decide)) dX7_image_46 ?_
        refine S_7_11 (W_7 hw) (by exact ix_mul2 (m := 2) (n := 36) h1 (ix_x hj c_28 (by decide)) rfl (by decide)) dX7_image_47 ?_
        refine V_iinc (v := (nI (j + 1))) (L2 := [(2, .int (nI (j + 1))), (0, .ref (ad 7 0 0)), (1, .int x1)]) dX7_image_48 2 rfl (nI_1 _) (by decide) rfl ?_
        refine V_goto (tgt := 25) dX7_image_51 (by decide) ?_
        refine V_rp (R2 := F_X7_image_25 x1 K n (j + 1) (wr s 7 11 ((36 * x1) + (nI j)).toNatClampNeg (s 7 4 (nI j).toNatClampNeg))) (by simp only [F_X7_image_25, if_neg c_28]) ?_
        refine V_lp [1, 2, 0] rfl ?_
        exact ih (j + 1) (wr s 7 11 ((36 * x1) + (nI j)).toNatClampNeg (s 7 4 (nI j).toNatClampNeg)) (by exact (lp_up hj c_28 hm).1) (by exact (lp_up hj c_28 hm).2) 
set_option maxRecDepth 100000 in
set_option maxHeartbeats 4000000 in
theorem k_X7_image (l : Launch) (G : mm_G) {pr : Nat → Nat → Prop} {ad : Nat → Nat → Nat → Nat} (hw : mm_W pr) (g : mm_g) (x1 : Int32)  : Mt l G yX7_image cX7_image 3 (some .int) (rmk 2 85) [.ref (ad 7 0 0), .int x1] pr ad g (qM pr ad (F_X7_image g x1)) 0 0 := by
  refine Mt_of (by decide) (Nat.le_of_ble_eq_true rfl) ?_
  show V l G RX7 cX7_image 3 (some .int) _ _ 0 0 0 0 0 [(0, .ref (ad 7 0 0)), (1, .int x1)] [] pr ad g
  refine V_iload_n dX7_image_0 1 rfl ?_
  refine V_i2l dX7_image_1 ?_
  refine V_lconst (v := 0) dX7_image_2 (by decide) ?_
  refine V_lconst (v := 1) dX7_image_3 (by decide) ?_
  refine V_cS (k_X7_in l G hw g  (x1.toInt64) 0 1 ) hy_X7_in hz_X7_in q_135 rfl rfl rfl rfl ⟨by decide, by decide⟩ (Nat.le_of_ble_eq_true rfl) ⟨by decide, by decide⟩ dX7_image_4 (V_kI ?_)
  refine V_if_ne (tgt := 13) dX7_image_7 (by decide) (fun c_7 => ?_) (fun c_7 => ?_)
  · refine V_aload_n dX7_image_13 0 rfl ?_
    refine V_get (i := 4) inlX7 rfl (W_7 hw) rfl (by decide) q_309 rfl dX7_image_14 ?_
    refine V_if_ne (tgt := 23) dX7_image_17 (by decide) (fun c_17 => ?_) (fun c_17 => ?_)
    · refine V_iconst (v := 0) dX7_image_23 (by decide) ?_
      refine V_istore_n (L2 := [(2, .int 0), (0, .ref (ad 7 0 0)), (1, .int x1)]) dX7_image_24 (by decide) rfl ?_
      refine V_rp (R2 := F_X7_image_25 x1 (fun (j25 : Nat) (s25 : mm_g) => (1, (wr s25 7 10 x1.toNatClampNeg (vp_nar .boolean 1)))) ((36 : Int32).toInt.toNat + 1) 0 g) (by simp only [F_X7_image, if_neg c_7, if_neg c_17]) ?_
      refine V_lp [1, 2, 0] rfl ?_
      refine w_X7_image_25 l G hw x1  (by exact ix_in c_7 rfl) _ (fun j25 s25 hj25 => ?_) ((36 : Int32).toInt.toNat + 1) 0 g (by first | exact Nat.zero_le _ | decide) (by omega)
      refine V_aload_n dX7_image_54 0 rfl ?_
      refine V_get (i := 19) inlX7 rfl (W_7 hw) rfl (by decide) q_101 rfl dX7_image_55 ?_
      refine V_iload_n dX7_image_58 1 rfl ?_
      refine V_iconst (v := 1) dX7_image_59 (by decide) ?_
      refine S_7_10 (W_7 hw) (by exact ix_in c_7 rfl) dX7_image_60 ?_
      refine V_iconst (v := 1) dX7_image_61 (by decide) ?_
      exact V_iret dX7_image_62 rfl (lfM (by rfl))
    · refine V_ldc q_371 dX7_image_20 ?_
      exact V_iret dX7_image_22 rfl (lfM (by simp only [F_X7_image, if_neg c_7, if_pos c_17]))
  · refine V_ldc q_130 dX7_image_10 ?_
    exact V_iret dX7_image_12 rfl (lfM (by simp only [F_X7_image, if_pos c_7]))
def F_X7_restore_27 (x1 : Int32) (K : Nat → mm_g → Int32 × mm_g) : Nat → Nat → mm_g → Int32 × mm_g
  | 0, j, s => K j s
  | n + 1, j, s => (if 36 ≤ (nI j) then K j s else F_X7_restore_27 x1 K n (j + 1) (wr s 7 4 (nI j).toNatClampNeg (s 7 11 ((36 * x1) + (nI j)).toNatClampNeg)))
def F_X7_restore (g : mm_g) (x1 : Int32) : Int32 × mm_g := (if (F_X7_in (x1.toInt64) 0 1) = 0 then ((-1000001), g) else (if (g 7 10 x1.toNatClampNeg) = 0 then ((-1000002), g) else (F_X7_restore_27 x1 (fun (j27 : Nat) (s27 : mm_g) => (1, (wr s27 7 0 9 0))) ((36 : Int32).toInt.toNat + 1) 0 g)))
set_option maxRecDepth 100000 in
set_option maxHeartbeats 4000000 in
theorem w_X7_restore_27 (l : Launch) (G : mm_G) {pr : Nat → Nat → Prop} {ad : Nat → Nat → Nat → Nat} (hw : mm_W pr) (x1 : Int32)  (h1 : vp_in x1 2) (K : Nat → mm_g → Int32 × mm_g) (hK : ∀ (j : Nat) (s : mm_g) (hj : j ≤ (36 : Int32).toInt.toNat), V l G RX7 cX7_restore 3 (some .int) (rmk 2 85) (qM pr ad (K j s)) 0 0 0 0 56 [(0, .ref (ad 7 0 0)), (1, .int x1), (2, .int (nI j))] [] pr ad s) : ∀ (n : Nat) (j : Nat) (s : mm_g) (hj : j ≤ (36 : Int32).toInt.toNat) (hm : (36 : Int32).toInt.toNat - j < n), V l G RX7 cX7_restore 3 (some .int) (rmk 2 85) (qM pr ad (F_X7_restore_27 x1 K n j s)) 0 0 0 0 27 [(0, .ref (ad 7 0 0)), (1, .int x1), (2, .int (nI j))] [] pr ad s := by
  intro n
  induction n with
  | zero => intro j s hj hm; exact absurd hm (Nat.not_lt_zero _)
  | succ n ih =>
      intro j s hj hm
      refine V_iload_n dX7_restore_27 2 rfl ?_
      refine V_bipush (v := 36) dX7_restore_28 (by decide) ?_
      refine V_ic_ge (tgt := 56) dX7_restore_30 (by decide) (fun c_30 => ?_) (fun c_30 => ?_)
      · refine V_rp (R2 := K j s) (by simp only [F_X7_restore_27, if_pos c_30]) ?_
        refine V_lp [0, 1, 2] rfl ?_
        exact hK j s (by assumption)
      · refine V_aload_n dX7_restore_33 0 rfl ?_
        refine V_get (i := 5) inlX7 rfl (W_7 hw) rfl (by decide) q_94 rfl dX7_restore_34 ?_
        refine V_iload_n dX7_restore_37 2 rfl ?_
        refine V_aload_n dX7_restore_38 0 rfl ?_
        refine V_get (i := 20) inlX7 rfl (W_7 hw) rfl (by decide) q_102 rfl dX7_restore_39 ?_
        refine V_bipush (v := 36) dX7_restore_42 (by decide) ?_
        refine V_iload_n dX7_restore_44 1 rfl ?_
        refine V_imul dX7_restore_45 ?_
        refine V_iload_n dX7_restore_46 2 rfl ?_
        refine V_iadd dX7_restore_47 ?_
        refine L_7_11 (W_7 hw) (by exact ix_mul2 (m := 2) (n := 36) h1 (ix_x hj c_30 (by decide)) rfl (by decide)) dX7_restore_48 ?_
        refine S_7_4 (W_7 hw) (by exact ix_x hj c_30 (by decide)) dX7_restore_49 ?_
        refine V_iinc (v := (nI (j + 1))) (L2 := [(2, .int (nI (j + 1))), (0, .ref (ad 7 0 0)), (1, .int x1)]) dX7_restore_50 2 rfl (nI_1 _) (by decide) rfl ?_
        refine V_goto (tgt := 27) dX7_restore_53 (by decide) ?_
        refine V_rp (R2 := F_X7_restore_27 x1 K n (j + 1) (wr s 7 4 (nI j).toNatClampNeg (s 7 11 ((36 * x1) + (nI j)).toNatClampNeg))) (by simp only [F_X7_restore_27, if_neg c_30]) ?_
        refine V_lp [1, 2, 0] rfl ?_
        exact ih (j + 1) (wr s 7 4 (nI j).toNatClampNeg (s 7 11 ((36 * x1) + (nI j)).toNatClampNeg)) (by exact (lp_up hj c_30 hm).1) (by exact (lp_up hj c_30 hm).2) 
set_option maxRecDepth 100000 in
set_option maxHeartbeats 4000000 in
theorem k_X7_restore (l : Launch) (G : mm_G) {pr : Nat → Nat → Prop} {ad : Nat → Nat → Nat → Nat} (hw : mm_W pr) (g : mm_g) (x1 : Int32)  : Mt l G yX7_restore cX7_restore 3 (some .int) (rmk 2 85) [.ref (ad 7 0 0), .int x1] pr ad g (qM pr ad (F_X7_restore g x1)) 0 0 := by
  refine Mt_of (by decide) (Nat.le_of_ble_eq_true rfl) ?_
  show V l G RX7 cX7_restore 3 (some .int) _ _ 0 0 0 0 0 [(0, .ref (ad 7 0 0)), (1, .int x1)] [] pr ad g
  refine V_iload_n dX7_restore_0 1 rfl ?_
  refine V_i2l dX7_restore_1 ?_
  refine V_lconst (v := 0) dX7_restore_2 (by decide) ?_
  refine V_lconst (v := 1) dX7_restore_3 (by decide) ?_
  refine V_cS (k_X7_in l G hw g  (x1.toInt64) 0 1 ) hy_X7_in hz_X7_in q_135 rfl rfl rfl rfl ⟨by decide, by decide⟩ (Nat.le_of_ble_eq_true rfl) ⟨by decide, by decide⟩ dX7_restore_4 (V_kI ?_)
  refine V_if_ne (tgt := 13) dX7_restore_7 (by decide) (fun c_7 => ?_) (fun c_7 => ?_)
  · refine V_aload_n dX7_restore_13 0 rfl ?_
    refine V_get (i := 19) inlX7 rfl (W_7 hw) rfl (by decide) q_101 rfl dX7_restore_14 ?_
    refine V_iload_n dX7_restore_17 1 rfl ?_
    refine L_7_10 (W_7 hw) (by exact ix_in c_7 rfl) dX7_restore_18 ?_
    refine V_if_ne (tgt := 25) dX7_restore_19 (by decide) (fun c_19 => ?_) (fun c_19 => ?_)
    · refine V_iconst (v := 0) dX7_restore_25 (by decide) ?_
      refine V_istore_n (L2 := [(2, .int 0), (0, .ref (ad 7 0 0)), (1, .int x1)]) dX7_restore_26 (by decide) rfl ?_
      refine V_rp (R2 := F_X7_restore_27 x1 (fun (j27 : Nat) (s27 : mm_g) => (1, (wr s27 7 0 9 0))) ((36 : Int32).toInt.toNat + 1) 0 g) (by simp only [F_X7_restore, if_neg c_7, if_neg c_19]) ?_
      refine V_lp [1, 2, 0] rfl ?_
      refine w_X7_restore_27 l G hw x1  (by exact ix_in c_7 rfl) _ (fun j27 s27 hj27 => ?_) ((36 : Int32).toInt.toNat + 1) 0 g (by first | exact Nat.zero_le _ | decide) (by omega)
      refine V_aload_n dX7_restore_56 0 rfl ?_
      refine V_iconst (v := 0) dX7_restore_57 (by decide) ?_
      refine P_7_17 (W_7 hw) q_310 dX7_restore_58 ?_
      refine V_iconst (v := 1) dX7_restore_61 (by decide) ?_
      exact V_iret dX7_restore_62 rfl (lfM (by rfl))
    · refine V_ldc q_371 dX7_restore_22 ?_
      exact V_iret dX7_restore_24 rfl (lfM (by simp only [F_X7_restore, if_neg c_7, if_pos c_19]))
  · refine V_ldc q_130 dX7_restore_10 ?_
    exact V_iret dX7_restore_12 rfl (lfM (by simp only [F_X7_restore, if_pos c_7]))
def F_X7_kind (g : mm_g) (x1 : Int32) : Int32 := (if (F_X7_isBed g x1) = 0 then (-1000001) else (g 7 4 (9 + x1).toNatClampNeg))
set_option maxRecDepth 100000 in
set_option maxHeartbeats 4000000 in
theorem k_X7_kind (l : Launch) (G : mm_G) {pr : Nat → Nat → Prop} {ad : Nat → Nat → Nat → Nat} (hw : mm_W pr) (g : mm_g) (x1 : Int32) (hB : okB g)  : Mt l G yX7_kind cX7_kind 2 (some .int) (rmk 3 106) [.ref (ad 7 0 0), .int x1] pr ad g (qI pr ad g (F_X7_kind g x1)) 0 0 := by
  refine Mt_of (by decide) (Nat.le_of_ble_eq_true rfl) ?_
  show V l G RX7 cX7_kind 2 (some .int) _ _ 0 0 0 0 0 [(0, .ref (ad 7 0 0)), (1, .int x1)] [] pr ad g
  refine V_aload_n dX7_kind_0 0 rfl ?_
  refine V_iload_n dX7_kind_1 1 rfl ?_
  refine V_cV (k_X7_isBed l G hw g  x1 ) hy_X7_isBed hi_X7_isBed hs_X7_isBed q_480 rfl rfl (W_7 hw) rfl rfl rfl rfl rfl ⟨by decide, by decide⟩ (Nat.le_of_ble_eq_true rfl) ⟨by decide, by decide⟩ dX7_kind_2 (V_kI ?_)
  refine V_if_eq (tgt := 20) dX7_kind_5 (by decide) (fun c_5 => ?_) (fun c_5 => ?_)
  · refine V_ldc q_130 dX7_kind_20 ?_
    exact V_iret dX7_kind_22 rfl (lfI (by simp only [F_X7_kind, if_pos c_5]))
  · refine V_aload_n dX7_kind_8 0 rfl ?_
    refine V_get (i := 5) inlX7 rfl (W_7 hw) rfl (by decide) q_94 rfl dX7_kind_9 ?_
    refine V_bipush (v := 9) dX7_kind_12 (by decide) ?_
    refine V_iload_n dX7_kind_14 1 rfl ?_
    refine V_iadd dX7_kind_15 ?_
    refine L_7_4 (W_7 hw) (by exact ix_9 (ix_bed hB c_5)) dX7_kind_16 ?_
    refine V_goto (tgt := 22) dX7_kind_17 (by decide) ?_
    exact V_iret dX7_kind_22 rfl (lfI (by simp only [F_X7_kind, if_neg c_5]))
def F_X7_isKind (x1 : Int32) (x2 : Int32) : Int32 := (if x2 = 0 then 1 else (if x1 = x2 then 1 else (if x2 = 1 then (if x1 < 4 then 1 else (if x2 = 4 then (if x1 = 5 then 1 else 0) else 0)) else (if x2 = 4 then (if x1 = 5 then 1 else 0) else 0))))
set_option maxRecDepth 100000 in
set_option maxHeartbeats 4000000 in
theorem k_X7_isKind (l : Launch) (G : mm_G) {pr : Nat → Nat → Prop} {ad : Nat → Nat → Nat → Nat} (hw : mm_W pr) (g : mm_g) (x1 : Int32) (x2 : Int32)  : Mt l G yX7_isKind cX7_isKind 2 (some .boolean) (rmk 1 60) [.int x1, .int x2] pr ad g (qI pr ad g (F_X7_isKind x1 x2)) 0 0 := by
  refine Mt_of (by decide) (Nat.le_of_ble_eq_true rfl) ?_
  show V l G RX7 cX7_isKind 2 (some .boolean) _ _ 0 0 0 0 0 [(0, .int x1), (1, .int x2)] [] pr ad g
  refine V_iload_n dX7_isKind_0 1 rfl ?_
  refine V_if_eq (tgt := 29) dX7_isKind_1 (by decide) (fun c_1 => ?_) (fun c_1 => ?_)
  · refine V_iconst (v := 1) dX7_isKind_29 (by decide) ?_
    refine V_goto (tgt := 34) dX7_isKind_30 (by decide) ?_
    exact V_zret dX7_isKind_34 rfl rfl (lfI (by simp only [F_X7_isKind, if_pos c_1]))
  · refine V_iload_n dX7_isKind_4 0 rfl ?_
    refine V_iload_n dX7_isKind_5 1 rfl ?_
    refine V_ic_eq (tgt := 29) dX7_isKind_6 (by decide) (fun c_6 => ?_) (fun c_6 => ?_)
    · refine V_iconst (v := 1) dX7_isKind_29 (by decide) ?_
      refine V_goto (tgt := 34) dX7_isKind_30 (by decide) ?_
      exact V_zret dX7_isKind_34 rfl rfl (lfI (by simp only [F_X7_isKind, if_neg c_1, if_pos c_6]))
    · refine V_iload_n dX7_isKind_9 1 rfl ?_
      refine V_iconst (v := 1) dX7_isKind_10 (by decide) ?_
      refine V_ic_ne (tgt := 19) dX7_isKind_11 (by decide) (fun c_11 => ?_) (fun c_11 => ?_)
      · refine V_iload_n dX7_isKind_19 1 rfl ?_
        refine V_iconst (v := 4) dX7_isKind_20 (by decide) ?_
        refine V_ic_ne (tgt := 33) dX7_isKind_21 (by decide) (fun c_21 => ?_) (fun c_21 => ?_)
        · refine V_iconst (v := 0) dX7_isKind_33 (by decide) ?_
          exact V_zret dX7_isKind_34 rfl rfl (lfI (by simp only [F_X7_isKind, if_neg c_1, if_neg c_6, if_neg c_11, if_neg c_21]))
        · refine V_iload_n dX7_isKind_24 0 rfl ?_
          refine V_iconst (v := 5) dX7_isKind_25 (by decide) ?_
          refine V_ic_ne (tgt := 33) dX7_isKind_26 (by decide) (fun c_26 => ?_) (fun c_26 => ?_)
          · refine V_iconst (v := 0) dX7_isKind_33 (by decide) ?_
            exact V_zret dX7_isKind_34 rfl rfl (lfI (by simp only [F_X7_isKind, if_neg c_1, if_neg c_6, if_neg c_11, if_pos c_21, if_neg c_26]))
          · refine V_iconst (v := 1) dX7_isKind_29 (by decide) ?_
            refine V_goto (tgt := 34) dX7_isKind_30 (by decide) ?_
            exact V_zret dX7_isKind_34 rfl rfl (lfI (by simp only [F_X7_isKind, if_neg c_1, if_neg c_6, if_neg c_11, if_pos c_21, if_pos c_26]))
      · refine V_iload_n dX7_isKind_14 0 rfl ?_
        refine V_iconst (v := 4) dX7_isKind_15 (by decide) ?_
        refine V_ic_lt (tgt := 29) dX7_isKind_16 (by decide) (fun c_16 => ?_) (fun c_16 => ?_)
        · refine V_iconst (v := 1) dX7_isKind_29 (by decide) ?_
          refine V_goto (tgt := 34) dX7_isKind_30 (by decide) ?_
          exact V_zret dX7_isKind_34 rfl rfl (lfI (by simp only [F_X7_isKind, if_neg c_1, if_neg c_6, if_pos c_11, if_pos c_16]))
        · refine V_iload_n dX7_isKind_19 1 rfl ?_
          refine V_iconst (v := 4) dX7_isKind_20 (by decide) ?_
          refine V_ic_ne (tgt := 33) dX7_isKind_21 (by decide) (fun c_21 => ?_) (fun c_21 => ?_)
          · refine V_iconst (v := 0) dX7_isKind_33 (by decide) ?_
            exact V_zret dX7_isKind_34 rfl rfl (lfI (by simp only [F_X7_isKind, if_neg c_1, if_neg c_6, if_pos c_11, if_neg c_16, if_neg c_21]))
          · refine V_iload_n dX7_isKind_24 0 rfl ?_
            refine V_iconst (v := 5) dX7_isKind_25 (by decide) ?_
            refine V_ic_ne (tgt := 33) dX7_isKind_26 (by decide) (fun c_26 => ?_) (fun c_26 => ?_)
            · refine V_iconst (v := 0) dX7_isKind_33 (by decide) ?_
              exact V_zret dX7_isKind_34 rfl rfl (lfI (by simp only [F_X7_isKind, if_neg c_1, if_neg c_6, if_pos c_11, if_neg c_16, if_pos c_21, if_neg c_26]))
            · refine V_iconst (v := 1) dX7_isKind_29 (by decide) ?_
              refine V_goto (tgt := 34) dX7_isKind_30 (by decide) ?_
              exact V_zret dX7_isKind_34 rfl rfl (lfI (by simp only [F_X7_isKind, if_neg c_1, if_neg c_6, if_pos c_11, if_neg c_16, if_pos c_21, if_pos c_26]))
def F_X7_as (g : mm_g) (x1 : Int32) (x2 : Int32) : Int32 × mm_g := (if (F_X7_isBed g x1) = 0 then ((-1000001), g) else (if (F_X7_in (x2.toInt64) 0 5) = 0 then ((-1000001), g) else (if (F_X7_isKind (g 7 4 (9 + x1).toNatClampNeg) x2) = 0 then ((F_X7_find g 3).1, (F_X7_find g 3).2) else ((F_X7_well g x1).1, (F_X7_well g x1).2))))
set_option maxRecDepth 100000 in
set_option maxHeartbeats 4000000 in
theorem k_X7_as (l : Launch) (G : mm_G) {pr : Nat → Nat → Prop} {ad : Nat → Nat → Nat → Nat} (hw : mm_W pr) (g : mm_g) (x1 : Int32) (x2 : Int32) (hB : okB g)  : Mt l G yX7_as cX7_as 3 (some .int) (rmk 3 106) [.ref (ad 7 0 0), .int x1, .int x2] pr ad g (qM pr ad (F_X7_as g x1 x2)) 0 0 := by
  refine Mt_of (by decide) (Nat.le_of_ble_eq_true rfl) ?_
  show V l G RX7 cX7_as 3 (some .int) _ _ 0 0 0 0 0 [(0, .ref (ad 7 0 0)), (1, .int x1), (2, .int x2)] [] pr ad g
  refine V_aload_n dX7_as_0 0 rfl ?_
  refine V_iload_n dX7_as_1 1 rfl ?_
  refine V_cV (k_X7_isBed l G hw g  x1 ) hy_X7_isBed hi_X7_isBed hs_X7_isBed q_480 rfl rfl (W_7 hw) rfl rfl rfl rfl rfl ⟨by decide, by decide⟩ (Nat.le_of_ble_eq_true rfl) ⟨by decide, by decide⟩ dX7_as_2 (V_kI ?_)
  refine V_if_eq (tgt := 20) dX7_as_5 (by decide) (fun c_5 => ?_) (fun c_5 => ?_)
  · refine V_ldc q_130 dX7_as_20 ?_
    exact V_iret dX7_as_22 rfl (lfM (by simp only [F_X7_as, if_pos c_5]))
  · refine V_iload_n dX7_as_8 2 rfl ?_
    refine V_i2l dX7_as_9 ?_
    refine V_lconst (v := 0) dX7_as_10 (by decide) ?_
    refine V_ldc2 q_573 dX7_as_11 ?_
    refine V_cS (k_X7_in l G hw g  (x2.toInt64) 0 5 ) hy_X7_in hz_X7_in q_135 rfl rfl rfl rfl ⟨by decide, by decide⟩ (Nat.le_of_ble_eq_true rfl) ⟨by decide, by decide⟩ dX7_as_14 (V_kI ?_)
    refine V_if_ne (tgt := 23) dX7_as_17 (by decide) (fun c_17 => ?_) (fun c_17 => ?_)
    · refine V_aload_n dX7_as_23 0 rfl ?_
      refine V_get (i := 5) inlX7 rfl (W_7 hw) rfl (by decide) q_94 rfl dX7_as_24 ?_
      refine V_bipush (v := 9) dX7_as_27 (by decide) ?_
      refine V_iload_n dX7_as_29 1 rfl ?_
      refine V_iadd dX7_as_30 ?_
      refine L_7_4 (W_7 hw) (by exact ix_9 (ix_bed hB c_5)) dX7_as_31 ?_
      refine V_iload_n dX7_as_32 2 rfl ?_
      refine V_cS (k_X7_isKind l G hw g  (g 7 4 (9 + x1).toNatClampNeg) x2 ) hy_X7_isKind hz_X7_isKind q_939 rfl rfl rfl rfl ⟨by decide, by decide⟩ (Nat.le_of_ble_eq_true rfl) ⟨by decide, by decide⟩ dX7_as_33 (V_kI ?_)
      refine V_if_eq (tgt := 47) dX7_as_36 (by decide) (fun c_36 => ?_) (fun c_36 => ?_)
      · refine V_aload_n dX7_as_47 0 rfl ?_
        refine V_iconst (v := 3) dX7_as_48 (by decide) ?_
        refine V_cV (k_X7_find l G hw g  3 ) hy_X7_find hi_X7_find hs_X7_find q_138 rfl rfl (W_7 hw) rfl rfl rfl rfl rfl ⟨by decide, by decide⟩ (Nat.le_of_ble_eq_true rfl) ⟨by decide, by decide⟩ dX7_as_49 (V_kM ?_)
        exact V_iret dX7_as_52 rfl (lfM (by simp only [F_X7_as, if_neg c_5, if_neg c_17, if_pos c_36]))
      · refine V_aload_n dX7_as_39 0 rfl ?_
        refine V_iload_n dX7_as_40 1 rfl ?_
        refine V_cV (k_X7_well l G hw g  x1 ) hy_X7_well hi_X7_well hs_X7_well q_144 rfl rfl (W_7 hw) rfl rfl rfl rfl rfl ⟨by decide, by decide⟩ (Nat.le_of_ble_eq_true rfl) ⟨by decide, by decide⟩ dX7_as_41 (V_kM ?_)
        refine V_goto (tgt := 52) dX7_as_44 (by decide) ?_
        exact V_iret dX7_as_52 rfl (lfM (by simp only [F_X7_as, if_neg c_5, if_neg c_17, if_neg c_36]))
    · refine V_ldc q_130 dX7_as_20 ?_
      exact V_iret dX7_as_22 rfl (lfM (by simp only [F_X7_as, if_neg c_5, if_pos c_17]))
def okT6 (g : mm_g) : Prop := 0 ≤ (g 7 0 10).toInt
theorem okT_n {g : mm_g} (h : okT6 g) : ¬ g 7 0 10 < 0 := by
  rw [toI_lt]
  have e0 : (0 : Int32).toInt = 0 := rfl
  unfold okT6 at h
  omega
theorem okT_0 {g : mm_g} : okT6 (wr g 7 0 10 0) := by
  unfold okT6
  rw [wr_at, if_pos ⟨rfl, rfl, rfl⟩]
  decide
theorem ix_tr {g : mm_g} {x : Int32} (hT : 0 ≤ (g 7 0 10).toInt ∧ (g 7 0 10).toInt ≤ 16) (h : ¬ F_X7_in x.toInt64 0 (g 7 0 10 - 1).toInt64 = 0) : vp_in x 16 := vp_in_iff.mpr (by
  have h1 := F_X7_in_1 h
  have e0 : (0 : Int64).toInt = 0 := rfl
  rw [Int32.toInt_toInt64, Int32.toInt_toInt64, i_m1 (by omega) (by omega)] at h1
  omega)
def F_X7_begin (g : mm_g) (x1 : Int32) : mm_g := (if 16 ≤ (g 7 0 10) then g else (wr (wr g 7 12 (g 7 0 10).toNatClampNeg x1) 7 0 10 (((wr g 7 12 (g 7 0 10).toNatClampNeg x1) 7 0 10) + 1)))
set_option maxRecDepth 100000 in
set_option maxHeartbeats 4000000 in
theorem k_X7_begin (l : Launch) (G : mm_G) {pr : Nat → Nat → Prop} {ad : Nat → Nat → Nat → Nat} (hw : mm_W pr) (g : mm_g) (x1 : Int32) (hT : okT6 g)  : Mt l G yX7_begin cX7_begin 2 none (rmk 1 60) [.ref (ad 7 0 0), .int x1] pr ad g (qN pr ad (F_X7_begin g x1)) 0 0 := by
  refine Mt_of (by decide) (Nat.le_of_ble_eq_true rfl) ?_
  show V l G RX7 cX7_begin 2 none _ _ 0 0 0 0 0 [(0, .ref (ad 7 0 0)), (1, .int x1)] [] pr ad g
  refine V_aload_n dX7_begin_0 0 rfl ?_
  refine V_get (i := 22) inlX7 rfl (W_7 hw) rfl (by decide) q_972 rfl dX7_begin_1 ?_
  refine V_bipush (v := 16) dX7_begin_4 (by decide) ?_
  refine V_ic_ge (tgt := 29) dX7_begin_6 (by decide) (fun c_6 => ?_) (fun c_6 => ?_)
  · exact V_vret dX7_begin_29 rfl (lfN (by simp only [F_X7_begin, if_pos c_6]))
  · refine V_aload_n dX7_begin_9 0 rfl ?_
    refine V_get (i := 21) inlX7 rfl (W_7 hw) rfl (by decide) q_103 rfl dX7_begin_10 ?_
    refine V_aload_n dX7_begin_13 0 rfl ?_
    refine V_get (i := 22) inlX7 rfl (W_7 hw) rfl (by decide) q_972 rfl dX7_begin_14 ?_
    refine V_iload_n dX7_begin_17 1 rfl ?_
    refine S_7_12 (W_7 hw) (by exact ixr (okT_n hT) c_6 rfl) dX7_begin_18 ?_
    refine V_aload_n dX7_begin_19 0 rfl ?_
    refine V_dup dX7_begin_20 rfl ?_
    refine V_get (i := 22) inlX7 rfl (W_7 hw) rfl (by decide) q_972 rfl dX7_begin_21 ?_
    refine V_iconst (v := 1) dX7_begin_24 (by decide) ?_
    refine V_iadd dX7_begin_25 ?_
    refine P_7_22 (W_7 hw) q_972 dX7_begin_26 ?_
    exact V_vret dX7_begin_29 rfl (lfN (by simp only [F_X7_begin, if_neg c_6]))
theorem okT_begin {g : mm_g} {b : Int32} (h : okT6 g) : okT6 (F_X7_begin g b) := by
  unfold F_X7_begin
  split
  · exact h
  · rename_i c
    rw [toI_le] at c
    have e : (16 : Int32).toInt = 16 := rfl
    unfold okT6 at h ⊢
    rw [wr_at, if_pos ⟨rfl, rfl, rfl⟩, wr_k (by decide), i_p1 (by omega) (by omega)]
    omega
def F_X7_lent (g : mm_g) (x1 : Int32) (x2 : Int32) : Int32 × mm_g := (if x2 = 10 then (((F_X7_begin g x2) 7 4 (18 + x1).toNatClampNeg), (F_X7_begin g x2)) else (x1, (F_X7_begin g x2)))
set_option maxRecDepth 100000 in
set_option maxHeartbeats 4000000 in
theorem k_X7_lent (l : Launch) (G : mm_G) {pr : Nat → Nat → Prop} {ad : Nat → Nat → Nat → Nat} (hw : mm_W pr) (g : mm_g) (x1 : Int32) (x2 : Int32) (hT : okT6 g) (hx : vp_in x1 9)  : Mt l G yX7_lent cX7_lent 3 (some .int) (rmk 2 81) [.ref (ad 7 0 0), .int x1, .int x2] pr ad g (qM pr ad (F_X7_lent g x1 x2)) 0 0 := by
  refine Mt_of (by decide) (Nat.le_of_ble_eq_true rfl) ?_
  show V l G RX7 cX7_lent 3 (some .int) _ _ 0 0 0 0 0 [(0, .ref (ad 7 0 0)), (1, .int x1), (2, .int x2)] [] pr ad g
  refine V_aload_n dX7_lent_0 0 rfl ?_
  refine V_iload_n dX7_lent_1 2 rfl ?_
  refine V_cV (k_X7_begin l G hw g  x2 hT) hy_X7_begin hi_X7_begin hs_X7_begin q_977 rfl rfl (W_7 hw) rfl rfl rfl rfl rfl ⟨by decide, by decide⟩ (Nat.le_of_ble_eq_true rfl) ⟨by decide, by decide⟩ dX7_lent_2 (V_kN ?_)
  refine V_iload_n dX7_lent_5 2 rfl ?_
  refine V_bipush (v := 10) dX7_lent_6 (by decide) ?_
  refine V_ic_ne (tgt := 23) dX7_lent_8 (by decide) (fun c_8 => ?_) (fun c_8 => ?_)
  · refine V_iload_n dX7_lent_23 1 rfl ?_
    exact V_iret dX7_lent_24 rfl (lfM (by simp only [F_X7_lent, if_neg c_8]))
  · refine V_aload_n dX7_lent_11 0 rfl ?_
    refine V_get (i := 5) inlX7 rfl (W_7 hw) rfl (by decide) q_94 rfl dX7_lent_12 ?_
    refine V_bipush (v := 18) dX7_lent_15 (by decide) ?_
    refine V_iload_n dX7_lent_17 1 rfl ?_
    refine V_iadd dX7_lent_18 ?_
    refine L_7_4 (W_7 hw) (by exact ix_18 hx) dX7_lent_19 ?_
    refine V_goto (tgt := 24) dX7_lent_20 (by decide) ?_
    exact V_iret dX7_lent_24 rfl (lfM (by simp only [F_X7_lent, if_pos c_8]))
theorem okT_lent {g : mm_g} {w b : Int32} (h : okT6 g) : okT6 (F_X7_lent g w b).2 := by
  unfold F_X7_lent
  split <;> exact okT_begin h
def F_X7_commonMark (g : mm_g) (x1 : Int32) : Int32 × mm_g := (((F_X7_lent (F_X7_begin g 21) x1 20).1 + (((F_X7_lent (F_X7_begin g 21) x1 20).2) 7 4 (27 + x1).toNatClampNeg)), (F_X7_lent (F_X7_begin g 21) x1 20).2)
set_option maxRecDepth 100000 in
set_option maxHeartbeats 4000000 in
theorem k_X7_commonMark (l : Launch) (G : mm_G) {pr : Nat → Nat → Prop} {ad : Nat → Nat → Nat → Nat} (hw : mm_W pr) (g : mm_g) (x1 : Int32) (hT : okT6 g) (hx : vp_in x1 9)  : Mt l G yX7_commonMark cX7_commonMark 2 (some .int) (rmk 3 103) [.ref (ad 7 0 0), .int x1] pr ad g (qM pr ad (F_X7_commonMark g x1)) 0 0 := by
  refine Mt_of (by decide) (Nat.le_of_ble_eq_true rfl) ?_
  show V l G RX7 cX7_commonMark 2 (some .int) _ _ 0 0 0 0 0 [(0, .ref (ad 7 0 0)), (1, .int x1)] [] pr ad g
  refine V_aload_n dX7_commonMark_0 0 rfl ?_
  refine V_bipush (v := 21) dX7_commonMark_1 (by decide) ?_
  refine V_cV (k_X7_begin l G hw g  21 hT) hy_X7_begin hi_X7_begin hs_X7_begin q_977 rfl rfl (W_7 hw) rfl rfl rfl rfl rfl ⟨by decide, by decide⟩ (Nat.le_of_ble_eq_true rfl) ⟨by decide, by decide⟩ dX7_commonMark_3 (V_kN ?_)
  refine V_aload_n dX7_commonMark_6 0 rfl ?_
  refine V_iload_n dX7_commonMark_7 1 rfl ?_
  refine V_bipush (v := 20) dX7_commonMark_8 (by decide) ?_
  refine V_cV (k_X7_lent l G hw (F_X7_begin g 21)  x1 20 (okT_begin hT) hx) hy_X7_lent hi_X7_lent hs_X7_lent q_985 rfl rfl (W_7 hw) rfl rfl rfl rfl rfl ⟨by decide, by decide⟩ (Nat.le_of_ble_eq_true rfl) ⟨by decide, by decide⟩ dX7_commonMark_10 (V_kM ?_)
  refine V_aload_n dX7_commonMark_13 0 rfl ?_
  refine V_get (i := 5) inlX7 rfl (W_7 hw) rfl (by decide) q_94 rfl dX7_commonMark_14 ?_
  refine V_bipush (v := 27) dX7_commonMark_17 (by decide) ?_
  refine V_iload_n dX7_commonMark_19 1 rfl ?_
  refine V_iadd dX7_commonMark_20 ?_
  refine L_7_4 (W_7 hw) (by exact ix_27 hx) dX7_commonMark_21 ?_
  refine V_iadd dX7_commonMark_22 ?_
  exact V_iret dX7_commonMark_23 rfl (lfM (by simp only [F_X7_commonMark]))
def F_X7_warmSize (g : mm_g) (x1 : Int32) : Int32 × mm_g := (((F_X7_lent (F_X7_begin g 13) x1 10).1 - 100), (F_X7_lent (F_X7_begin g 13) x1 10).2)
set_option maxRecDepth 100000 in
set_option maxHeartbeats 4000000 in
theorem k_X7_warmSize (l : Launch) (G : mm_G) {pr : Nat → Nat → Prop} {ad : Nat → Nat → Nat → Nat} (hw : mm_W pr) (g : mm_g) (x1 : Int32) (hT : okT6 g) (hx : vp_in x1 9)  : Mt l G yX7_warmSize cX7_warmSize 2 (some .int) (rmk 3 103) [.ref (ad 7 0 0), .int x1] pr ad g (qM pr ad (F_X7_warmSize g x1)) 0 0 := by
  refine Mt_of (by decide) (Nat.le_of_ble_eq_true rfl) ?_
  show V l G RX7 cX7_warmSize 2 (some .int) _ _ 0 0 0 0 0 [(0, .ref (ad 7 0 0)), (1, .int x1)] [] pr ad g
  refine V_aload_n dX7_warmSize_0 0 rfl ?_
  refine V_bipush (v := 13) dX7_warmSize_1 (by decide) ?_
  refine V_cV (k_X7_begin l G hw g  13 hT) hy_X7_begin hi_X7_begin hs_X7_begin q_977 rfl rfl (W_7 hw) rfl rfl rfl rfl rfl ⟨by decide, by decide⟩ (Nat.le_of_ble_eq_true rfl) ⟨by decide, by decide⟩ dX7_warmSize_3 (V_kN ?_)
  refine V_aload_n dX7_warmSize_6 0 rfl ?_
  refine V_iload_n dX7_warmSize_7 1 rfl ?_
  refine V_bipush (v := 10) dX7_warmSize_8 (by decide) ?_
  refine V_cV (k_X7_lent l G hw (F_X7_begin g 13)  x1 10 (okT_begin hT) hx) hy_X7_lent hi_X7_lent hs_X7_lent q_985 rfl rfl (W_7 hw) rfl rfl rfl rfl rfl ⟨by decide, by decide⟩ (Nat.le_of_ble_eq_true rfl) ⟨by decide, by decide⟩ dX7_warmSize_10 (V_kM ?_)
  refine V_bipush (v := 100) dX7_warmSize_13 (by decide) ?_
  refine V_isub dX7_warmSize_15 ?_
  exact V_iret dX7_warmSize_16 rfl (lfM (by simp only [F_X7_warmSize]))
def F_X7_sizeOfWarm (g : mm_g) (x1 : Int32) : Int32 × mm_g := (if (g 7 4 (9 + x1).toNatClampNeg) = 5 then ((2 * (F_X7_warmSize (F_X7_begin g 14) x1).1), (F_X7_warmSize (F_X7_begin g 14) x1).2) else ((F_X7_warmSize g x1).1, (F_X7_warmSize g x1).2))
set_option maxRecDepth 100000 in
set_option maxHeartbeats 4000000 in
theorem k_X7_sizeOfWarm (l : Launch) (G : mm_G) {pr : Nat → Nat → Prop} {ad : Nat → Nat → Nat → Nat} (hw : mm_W pr) (g : mm_g) (x1 : Int32) (hT : okT6 g) (hx : vp_in x1 9)  : Mt l G yX7_sizeOfWarm cX7_sizeOfWarm 2 (some .int) (rmk 4 124) [.ref (ad 7 0 0), .int x1] pr ad g (qM pr ad (F_X7_sizeOfWarm g x1)) 0 0 := by
  refine Mt_of (by decide) (Nat.le_of_ble_eq_true rfl) ?_
  show V l G RX7 cX7_sizeOfWarm 2 (some .int) _ _ 0 0 0 0 0 [(0, .ref (ad 7 0 0)), (1, .int x1)] [] pr ad g
  refine V_aload_n dX7_sizeOfWarm_0 0 rfl ?_
  refine V_get (i := 5) inlX7 rfl (W_7 hw) rfl (by decide) q_94 rfl dX7_sizeOfWarm_1 ?_
  refine V_bipush (v := 9) dX7_sizeOfWarm_4 (by decide) ?_
  refine V_iload_n dX7_sizeOfWarm_6 1 rfl ?_
  refine V_iadd dX7_sizeOfWarm_7 ?_
  refine L_7_4 (W_7 hw) (by exact ix_9 hx) dX7_sizeOfWarm_8 ?_
  refine V_iconst (v := 5) dX7_sizeOfWarm_9 (by decide) ?_
  refine V_ic_ne (tgt := 27) dX7_sizeOfWarm_10 (by decide) (fun c_10 => ?_) (fun c_10 => ?_)
  · refine V_aload_n dX7_sizeOfWarm_27 0 rfl ?_
    refine V_iload_n dX7_sizeOfWarm_28 1 rfl ?_
    refine V_cV (k_X7_warmSize l G hw g  x1 hT hx) hy_X7_warmSize hi_X7_warmSize hs_X7_warmSize q_1001 rfl rfl (W_7 hw) rfl rfl rfl rfl rfl ⟨by decide, by decide⟩ (Nat.le_of_ble_eq_true rfl) ⟨by decide, by decide⟩ dX7_sizeOfWarm_29 (V_kM ?_)
    exact V_iret dX7_sizeOfWarm_32 rfl (lfM (by simp only [F_X7_sizeOfWarm, if_neg c_10]))
  · refine V_aload_n dX7_sizeOfWarm_13 0 rfl ?_
    refine V_bipush (v := 14) dX7_sizeOfWarm_14 (by decide) ?_
    refine V_cV (k_X7_begin l G hw g  14 hT) hy_X7_begin hi_X7_begin hs_X7_begin q_977 rfl rfl (W_7 hw) rfl rfl rfl rfl rfl ⟨by decide, by decide⟩ (Nat.le_of_ble_eq_true rfl) ⟨by decide, by decide⟩ dX7_sizeOfWarm_16 (V_kN ?_)
    refine V_iconst (v := 2) dX7_sizeOfWarm_19 (by decide) ?_
    refine V_aload_n dX7_sizeOfWarm_20 0 rfl ?_
    refine V_iload_n dX7_sizeOfWarm_21 1 rfl ?_
    refine V_cV (k_X7_warmSize l G hw (F_X7_begin g 14)  x1 (okT_begin hT) hx) hy_X7_warmSize hi_X7_warmSize hs_X7_warmSize q_1001 rfl rfl (W_7 hw) rfl rfl rfl rfl rfl ⟨by decide, by decide⟩ (Nat.le_of_ble_eq_true rfl) ⟨by decide, by decide⟩ dX7_sizeOfWarm_22 (V_kM ?_)
    refine V_imul dX7_sizeOfWarm_25 ?_
    exact V_iret dX7_sizeOfWarm_26 rfl (lfM (by simp only [F_X7_sizeOfWarm, if_pos c_10]))
def F_X7_markOf (g : mm_g) (x1 : Int32) : Int32 × mm_g := (if (g 7 4 (9 + x1).toNatClampNeg) = 2 then ((2 * (F_X7_commonMark (F_X7_begin g 24) x1).1), (F_X7_commonMark (F_X7_begin g 24) x1).2) else (if (g 7 4 (9 + x1).toNatClampNeg) = 3 then (((F_X7_commonMark (F_X7_begin g 22) x1).1 - 1000), (F_X7_commonMark (F_X7_begin g 22) x1).2) else (if (g 7 4 (9 + x1).toNatClampNeg) = 1 then ((F_X7_commonMark g x1).1, (F_X7_commonMark g x1).2) else (((F_X7_lent (F_X7_begin g 23) x1 20).1 - (F_X7_sizeOfWarm ((F_X7_lent (F_X7_begin g 23) x1 20).2) x1).1), (F_X7_sizeOfWarm ((F_X7_lent (F_X7_begin g 23) x1 20).2) x1).2))))
set_option maxRecDepth 100000 in
set_option maxHeartbeats 4000000 in
theorem k_X7_markOf (l : Launch) (G : mm_G) {pr : Nat → Nat → Prop} {ad : Nat → Nat → Nat → Nat} (hw : mm_W pr) (g : mm_g) (x1 : Int32) (hT : okT6 g) (hx : vp_in x1 9)  : Mt l G yX7_markOf cX7_markOf 4 (some .int) (rmk 5 145) [.ref (ad 7 0 0), .int x1] pr ad g (qM pr ad (F_X7_markOf g x1)) 0 0 := by
  refine Mt_of (by decide) (Nat.le_of_ble_eq_true rfl) ?_
  show V l G RX7 cX7_markOf 4 (some .int) _ _ 0 0 0 0 0 [(0, .ref (ad 7 0 0)), (1, .int x1)] [] pr ad g
  refine V_aload_n dX7_markOf_0 0 rfl ?_
  refine V_get (i := 5) inlX7 rfl (W_7 hw) rfl (by decide) q_94 rfl dX7_markOf_1 ?_
  refine V_bipush (v := 9) dX7_markOf_4 (by decide) ?_
  refine V_iload_n dX7_markOf_6 1 rfl ?_
  refine V_iadd dX7_markOf_7 ?_
  refine L_7_4 (W_7 hw) (by exact ix_9 hx) dX7_markOf_8 ?_
  refine V_istore_n (L2 := [(2, .int (g 7 4 (9 + x1).toNatClampNeg)), (0, .ref (ad 7 0 0)), (1, .int x1)]) dX7_markOf_9 (by decide) rfl ?_
  refine V_iload_n dX7_markOf_10 0 rfl ?_
  refine V_iconst (v := 2) dX7_markOf_11 (by decide) ?_
  refine V_ic_ne (tgt := 29) dX7_markOf_12 (by decide) (fun c_12 => ?_) (fun c_12 => ?_)
  · refine V_iload_n dX7_markOf_29 0 rfl ?_
    refine V_iconst (v := 3) dX7_markOf_30 (by decide) ?_
    refine V_ic_ne (tgt := 50) dX7_markOf_31 (by decide) (fun c_31 => ?_) (fun c_31 => ?_)
    · refine V_iload_n dX7_markOf_50 0 rfl ?_
      refine V_iconst (v := 1) dX7_markOf_51 (by decide) ?_
      refine V_ic_ne (tgt := 61) dX7_markOf_52 (by decide) (fun c_52 => ?_) (fun c_52 => ?_)
      · refine V_aload_n dX7_markOf_61 1 rfl ?_
        refine V_bipush (v := 23) dX7_markOf_62 (by decide) ?_
        refine V_cV (k_X7_begin l G hw g  23 hT) hy_X7_begin hi_X7_begin hs_X7_begin q_977 rfl rfl (W_7 hw) rfl rfl rfl rfl rfl ⟨by decide, by decide⟩ (Nat.le_of_ble_eq_true rfl) ⟨by decide, by decide⟩ dX7_markOf_64 (V_kN ?_)
        refine V_aload_n dX7_markOf_67 1 rfl ?_
        refine V_iload_n dX7_markOf_68 2 rfl ?_
        refine V_bipush (v := 20) dX7_markOf_69 (by decide) ?_
        refine V_cV (k_X7_lent l G hw (F_X7_begin g 23)  x1 20 (okT_begin hT) hx) hy_X7_lent hi_X7_lent hs_X7_lent q_985 rfl rfl (W_7 hw) rfl rfl rfl rfl rfl ⟨by decide, by decide⟩ (Nat.le_of_ble_eq_true rfl) ⟨by decide, by decide⟩ dX7_markOf_71 (V_kM ?_)
        refine V_istore_n (L2 := [(3, .int ((F_X7_lent (F_X7_begin g 23) x1 20).1)), (2, .int (g 7 4 (9 + x1).toNatClampNeg)), (0, .ref (ad 7 0 0)), (1, .int x1)]) dX7_markOf_74 (by decide) rfl ?_
        refine V_iload_n dX7_markOf_75 0 rfl ?_
        refine V_aload_n dX7_markOf_76 2 rfl ?_
        refine V_iload_n dX7_markOf_77 3 rfl ?_
        refine V_cV (k_X7_sizeOfWarm l G hw ((F_X7_lent (F_X7_begin g 23) x1 20).2)  x1 (okT_lent (okT_begin hT)) hx) hy_X7_sizeOfWarm hi_X7_sizeOfWarm hs_X7_sizeOfWarm q_997 rfl rfl (W_7 hw) rfl rfl rfl rfl rfl ⟨by decide, by decide⟩ (Nat.le_of_ble_eq_true rfl) ⟨by decide, by decide⟩ dX7_markOf_78 (V_kM ?_)
        refine V_isub dX7_markOf_81 ?_
        exact V_iret dX7_markOf_82 rfl (lfM (by simp only [F_X7_markOf, if_neg c_12, if_neg c_31, if_neg c_52]))
      · refine V_aload_n dX7_markOf_55 1 rfl ?_
        refine V_iload_n dX7_markOf_56 2 rfl ?_
        refine V_cV (k_X7_commonMark l G hw g  x1 hT hx) hy_X7_commonMark hi_X7_commonMark hs_X7_commonMark q_993 rfl rfl (W_7 hw) rfl rfl rfl rfl rfl ⟨by decide, by decide⟩ (Nat.le_of_ble_eq_true rfl) ⟨by decide, by decide⟩ dX7_markOf_57 (V_kM ?_)
        exact V_iret dX7_markOf_60 rfl (lfM (by simp only [F_X7_markOf, if_neg c_12, if_neg c_31, if_pos c_52]))
    · refine V_aload_n dX7_markOf_34 1 rfl ?_
      refine V_bipush (v := 22) dX7_markOf_35 (by decide) ?_
      refine V_cV (k_X7_begin l G hw g  22 hT) hy_X7_begin hi_X7_begin hs_X7_begin q_977 rfl rfl (W_7 hw) rfl rfl rfl rfl rfl ⟨by decide, by decide⟩ (Nat.le_of_ble_eq_true rfl) ⟨by decide, by decide⟩ dX7_markOf_37 (V_kN ?_)
      refine V_aload_n dX7_markOf_40 1 rfl ?_
      refine V_iload_n dX7_markOf_41 2 rfl ?_
      refine V_cV (k_X7_commonMark l G hw (F_X7_begin g 22)  x1 (okT_begin hT) hx) hy_X7_commonMark hi_X7_commonMark hs_X7_commonMark q_993 rfl rfl (W_7 hw) rfl rfl rfl rfl rfl ⟨by decide, by decide⟩ (Nat.le_of_ble_eq_true rfl) ⟨by decide, by decide⟩ dX7_markOf_42 (V_kM ?_)
      refine V_sipush (v := 1000) dX7_markOf_45 (by decide) ?_
      refine V_isub dX7_markOf_48 ?_
      exact V_iret dX7_markOf_49 rfl (lfM (by simp only [F_X7_markOf, if_neg c_12, if_pos c_31]))
  · refine V_aload_n dX7_markOf_15 1 rfl ?_
    refine V_bipush (v := 24) dX7_markOf_16 (by decide) ?_
    refine V_cV (k_X7_begin l G hw g  24 hT) hy_X7_begin hi_X7_begin hs_X7_begin q_977 rfl rfl (W_7 hw) rfl rfl rfl rfl rfl ⟨by decide, by decide⟩ (Nat.le_of_ble_eq_true rfl) ⟨by decide, by decide⟩ dX7_markOf_18 (V_kN ?_)
    refine V_iconst (v := 2) dX7_markOf_21 (by decide) ?_
    refine V_aload_n dX7_markOf_22 1 rfl ?_
    refine V_iload_n dX7_markOf_23 2 rfl ?_
    refine V_cV (k_X7_commonMark l G hw (F_X7_begin g 24)  x1 (okT_begin hT) hx) hy_X7_commonMark hi_X7_commonMark hs_X7_commonMark q_993 rfl rfl (W_7 hw) rfl rfl rfl rfl rfl ⟨by decide, by decide⟩ (Nat.le_of_ble_eq_true rfl) ⟨by decide, by decide⟩ dX7_markOf_24 (V_kM ?_)
    refine V_imul dX7_markOf_27 ?_
    exact V_iret dX7_markOf_28 rfl (lfM (by simp only [F_X7_markOf, if_pos c_12]))
def F_X7_commonSize (g : mm_g) (x1 : Int32) : Int32 × mm_g := (((F_X7_lent (F_X7_begin g 11) x1 10).1 + (F_X7_markOf ((F_X7_lent (F_X7_begin g 11) x1 10).2) x1).1), (F_X7_markOf ((F_X7_lent (F_X7_begin g 11) x1 10).2) x1).2)
set_option maxRecDepth 100000 in
set_option maxHeartbeats 4000000 in
theorem k_X7_commonSize (l : Launch) (G : mm_G) {pr : Nat → Nat → Prop} {ad : Nat → Nat → Nat → Nat} (hw : mm_W pr) (g : mm_g) (x1 : Int32) (hT : okT6 g) (hx : vp_in x1 9)  : Mt l G yX7_commonSize cX7_commonSize 3 (some .int) (rmk 6 168) [.ref (ad 7 0 0), .int x1] pr ad g (qM pr ad (F_X7_commonSize g x1)) 0 0 := by
  refine Mt_of (by decide) (Nat.le_of_ble_eq_true rfl) ?_
  show V l G RX7 cX7_commonSize 3 (some .int) _ _ 0 0 0 0 0 [(0, .ref (ad 7 0 0)), (1, .int x1)] [] pr ad g
  refine V_aload_n dX7_commonSize_0 0 rfl ?_
  refine V_bipush (v := 11) dX7_commonSize_1 (by decide) ?_
  refine V_cV (k_X7_begin l G hw g  11 hT) hy_X7_begin hi_X7_begin hs_X7_begin q_977 rfl rfl (W_7 hw) rfl rfl rfl rfl rfl ⟨by decide, by decide⟩ (Nat.le_of_ble_eq_true rfl) ⟨by decide, by decide⟩ dX7_commonSize_3 (V_kN ?_)
  refine V_aload_n dX7_commonSize_6 0 rfl ?_
  refine V_iload_n dX7_commonSize_7 1 rfl ?_
  refine V_bipush (v := 10) dX7_commonSize_8 (by decide) ?_
  refine V_cV (k_X7_lent l G hw (F_X7_begin g 11)  x1 10 (okT_begin hT) hx) hy_X7_lent hi_X7_lent hs_X7_lent q_985 rfl rfl (W_7 hw) rfl rfl rfl rfl rfl ⟨by decide, by decide⟩ (Nat.le_of_ble_eq_true rfl) ⟨by decide, by decide⟩ dX7_commonSize_10 (V_kM ?_)
  refine V_istore_n (L2 := [(2, .int ((F_X7_lent (F_X7_begin g 11) x1 10).1)), (0, .ref (ad 7 0 0)), (1, .int x1)]) dX7_commonSize_13 (by decide) rfl ?_
  refine V_iload_n dX7_commonSize_14 0 rfl ?_
  refine V_aload_n dX7_commonSize_15 1 rfl ?_
  refine V_iload_n dX7_commonSize_16 2 rfl ?_
  refine V_cV (k_X7_markOf l G hw ((F_X7_lent (F_X7_begin g 11) x1 10).2)  x1 (okT_lent (okT_begin hT)) hx) hy_X7_markOf hi_X7_markOf hs_X7_markOf q_989 rfl rfl (W_7 hw) rfl rfl rfl rfl rfl ⟨by decide, by decide⟩ (Nat.le_of_ble_eq_true rfl) ⟨by decide, by decide⟩ dX7_commonSize_17 (V_kM ?_)
  refine V_iadd dX7_commonSize_20 ?_
  exact V_iret dX7_commonSize_21 rfl (lfM (by simp only [F_X7_commonSize]))
def F_X7_sizeOf (g : mm_g) (x1 : Int32) : Int32 × mm_g := (if (g 7 4 (9 + x1).toNatClampNeg) = 2 then ((-((F_X7_commonSize (F_X7_begin g 12) x1).1)), (F_X7_commonSize (F_X7_begin g 12) x1).2) else (if (g 7 4 (9 + x1).toNatClampNeg) < 4 then ((F_X7_commonSize g x1).1, (F_X7_commonSize g x1).2) else ((F_X7_sizeOfWarm g x1).1, (F_X7_sizeOfWarm g x1).2)))
set_option maxRecDepth 100000 in
set_option maxHeartbeats 4000000 in
theorem k_X7_sizeOf (l : Launch) (G : mm_G) {pr : Nat → Nat → Prop} {ad : Nat → Nat → Nat → Nat} (hw : mm_W pr) (g : mm_g) (x1 : Int32) (hT : okT6 g) (hx : vp_in x1 9)  : Mt l G yX7_sizeOf cX7_sizeOf 3 (some .int) (rmk 7 190) [.ref (ad 7 0 0), .int x1] pr ad g (qM pr ad (F_X7_sizeOf g x1)) 0 0 := by
  refine Mt_of (by decide) (Nat.le_of_ble_eq_true rfl) ?_
  show V l G RX7 cX7_sizeOf 3 (some .int) _ _ 0 0 0 0 0 [(0, .ref (ad 7 0 0)), (1, .int x1)] [] pr ad g
  refine V_aload_n dX7_sizeOf_0 0 rfl ?_
  refine V_get (i := 5) inlX7 rfl (W_7 hw) rfl (by decide) q_94 rfl dX7_sizeOf_1 ?_
  refine V_bipush (v := 9) dX7_sizeOf_4 (by decide) ?_
  refine V_iload_n dX7_sizeOf_6 1 rfl ?_
  refine V_iadd dX7_sizeOf_7 ?_
  refine L_7_4 (W_7 hw) (by exact ix_9 hx) dX7_sizeOf_8 ?_
  refine V_istore_n (L2 := [(2, .int (g 7 4 (9 + x1).toNatClampNeg)), (0, .ref (ad 7 0 0)), (1, .int x1)]) dX7_sizeOf_9 (by decide) rfl ?_
  refine V_iload_n dX7_sizeOf_10 0 rfl ?_
  refine V_iconst (v := 2) dX7_sizeOf_11 (by decide) ?_
  refine V_ic_ne (tgt := 28) dX7_sizeOf_12 (by decide) (fun c_12 => ?_) (fun c_12 => ?_)
  · refine V_iload_n dX7_sizeOf_28 0 rfl ?_
    refine V_iconst (v := 4) dX7_sizeOf_29 (by decide) ?_
    refine V_ic_lt (tgt := 41) dX7_sizeOf_30 (by decide) (fun c_30 => ?_) (fun c_30 => ?_)
    · refine V_aload_n dX7_sizeOf_41 1 rfl ?_
      refine V_iload_n dX7_sizeOf_42 2 rfl ?_
      refine V_cV (k_X7_commonSize l G hw g  x1 hT hx) hy_X7_commonSize hi_X7_commonSize hs_X7_commonSize q_981 rfl rfl (W_7 hw) rfl rfl rfl rfl rfl ⟨by decide, by decide⟩ (Nat.le_of_ble_eq_true rfl) ⟨by decide, by decide⟩ dX7_sizeOf_43 (V_kM ?_)
      exact V_iret dX7_sizeOf_46 rfl (lfM (by simp only [F_X7_sizeOf, if_neg c_12, if_pos c_30]))
    · refine V_aload_n dX7_sizeOf_33 1 rfl ?_
      refine V_iload_n dX7_sizeOf_34 2 rfl ?_
      refine V_cV (k_X7_sizeOfWarm l G hw g  x1 hT hx) hy_X7_sizeOfWarm hi_X7_sizeOfWarm hs_X7_sizeOfWarm q_997 rfl rfl (W_7 hw) rfl rfl rfl rfl rfl ⟨by decide, by decide⟩ (Nat.le_of_ble_eq_true rfl) ⟨by decide, by decide⟩ dX7_sizeOf_35 (V_kM ?_)
      refine V_goto (tgt := 46) dX7_sizeOf_38 (by decide) ?_
      exact V_iret dX7_sizeOf_46 rfl (lfM (by simp only [F_X7_sizeOf, if_neg c_12, if_neg c_30]))
  · refine V_aload_n dX7_sizeOf_15 1 rfl ?_
    refine V_bipush (v := 12) dX7_sizeOf_16 (by decide) ?_
    refine V_cV (k_X7_begin l G hw g  12 hT) hy_X7_begin hi_X7_begin hs_X7_begin q_977 rfl rfl (W_7 hw) rfl rfl rfl rfl rfl ⟨by decide, by decide⟩ (Nat.le_of_ble_eq_true rfl) ⟨by decide, by decide⟩ dX7_sizeOf_18 (V_kN ?_)
    refine V_aload_n dX7_sizeOf_21 1 rfl ?_
    refine V_iload_n dX7_sizeOf_22 2 rfl ?_
    refine V_cV (k_X7_commonSize l G hw (F_X7_begin g 12)  x1 (okT_begin hT) hx) hy_X7_commonSize hi_X7_commonSize hs_X7_commonSize q_981 rfl rfl (W_7 hw) rfl rfl rfl rfl rfl ⟨by decide, by decide⟩ (Nat.le_of_ble_eq_true rfl) ⟨by decide, by decide⟩ dX7_sizeOf_23 (V_kM ?_)
    refine V_ineg dX7_sizeOf_26 ?_
    exact V_iret dX7_sizeOf_27 rfl (lfM (by simp only [F_X7_sizeOf, if_pos c_12]))
def F_X7_ask (g : mm_g) (x1 : Int32) (x2 : Int32) : Int32 × mm_g := (if (F_X7_isBed g x1) = 0 then ((-1000001), g) else (if (F_X7_in (x2.toInt64) 0 1) = 0 then ((-1000001), g) else (if x2 = 0 then ((F_X7_sizeOf (wr g 7 0 10 0) x1).1, (F_X7_sizeOf (wr g 7 0 10 0) x1).2) else ((F_X7_markOf (wr g 7 0 10 0) x1).1, (F_X7_markOf (wr g 7 0 10 0) x1).2))))
set_option maxRecDepth 100000 in
set_option maxHeartbeats 4000000 in
theorem k_X7_ask (l : Launch) (G : mm_G) {pr : Nat → Nat → Prop} {ad : Nat → Nat → Nat → Nat} (hw : mm_W pr) (g : mm_g) (x1 : Int32) (x2 : Int32) (hB : okB g)  : Mt l G yX7_ask cX7_ask 3 (some .int) (rmk 8 212) [.ref (ad 7 0 0), .int x1, .int x2] pr ad g (qM pr ad (F_X7_ask g x1 x2)) 0 0 := by
  refine Mt_of (by decide) (Nat.le_of_ble_eq_true rfl) ?_
  show V l G RX7 cX7_ask 3 (some .int) _ _ 0 0 0 0 0 [(0, .ref (ad 7 0 0)), (1, .int x1), (2, .int x2)] [] pr ad g
  refine V_aload_n dX7_ask_0 0 rfl ?_
  refine V_iload_n dX7_ask_1 1 rfl ?_
  refine V_cV (k_X7_isBed l G hw g  x1 ) hy_X7_isBed hi_X7_isBed hs_X7_isBed q_480 rfl rfl (W_7 hw) rfl rfl rfl rfl rfl ⟨by decide, by decide⟩ (Nat.le_of_ble_eq_true rfl) ⟨by decide, by decide⟩ dX7_ask_2 (V_kI ?_)
  refine V_if_eq (tgt := 18) dX7_ask_5 (by decide) (fun c_5 => ?_) (fun c_5 => ?_)
  · refine V_ldc q_130 dX7_ask_18 ?_
    exact V_iret dX7_ask_20 rfl (lfM (by simp only [F_X7_ask, if_pos c_5]))
  · refine V_iload_n dX7_ask_8 2 rfl ?_
    refine V_i2l dX7_ask_9 ?_
    refine V_lconst (v := 0) dX7_ask_10 (by decide) ?_
    refine V_lconst (v := 1) dX7_ask_11 (by decide) ?_
    refine V_cS (k_X7_in l G hw g  (x2.toInt64) 0 1 ) hy_X7_in hz_X7_in q_135 rfl rfl rfl rfl ⟨by decide, by decide⟩ (Nat.le_of_ble_eq_true rfl) ⟨by decide, by decide⟩ dX7_ask_12 (V_kI ?_)
    refine V_if_ne (tgt := 21) dX7_ask_15 (by decide) (fun c_15 => ?_) (fun c_15 => ?_)
    · refine V_aload_n dX7_ask_21 0 rfl ?_
      refine V_iconst (v := 0) dX7_ask_22 (by decide) ?_
      refine P_7_22 (W_7 hw) q_972 dX7_ask_23 ?_
      refine V_iload_n dX7_ask_26 2 rfl ?_
      refine V_if_ne (tgt := 38) dX7_ask_27 (by decide) (fun c_27 => ?_) (fun c_27 => ?_)
      · refine V_aload_n dX7_ask_38 0 rfl ?_
        refine V_iload_n dX7_ask_39 1 rfl ?_
        refine V_cV (k_X7_markOf l G hw (wr g 7 0 10 0)  x1 okT_0 (ix_bed hB c_5)) hy_X7_markOf hi_X7_markOf hs_X7_markOf q_989 rfl rfl (W_7 hw) rfl rfl rfl rfl rfl ⟨by decide, by decide⟩ (Nat.le_of_ble_eq_true rfl) ⟨by decide, by decide⟩ dX7_ask_40 (V_kM ?_)
        exact V_iret dX7_ask_43 rfl (lfM (by simp only [F_X7_ask, if_neg c_5, if_neg c_15, if_neg c_27]))
      · refine V_aload_n dX7_ask_30 0 rfl ?_
        refine V_iload_n dX7_ask_31 1 rfl ?_
        refine V_cV (k_X7_sizeOf l G hw (wr g 7 0 10 0)  x1 okT_0 (ix_bed hB c_5)) hy_X7_sizeOf hi_X7_sizeOf hs_X7_sizeOf q_973 rfl rfl (W_7 hw) rfl rfl rfl rfl rfl ⟨by decide, by decide⟩ (Nat.le_of_ble_eq_true rfl) ⟨by decide, by decide⟩ dX7_ask_32 (V_kM ?_)
        refine V_goto (tgt := 43) dX7_ask_35 (by decide) ?_
        exact V_iret dX7_ask_43 rfl (lfM (by simp only [F_X7_ask, if_neg c_5, if_neg c_15, if_pos c_27]))
    · refine V_ldc q_130 dX7_ask_18 ?_
      exact V_iret dX7_ask_20 rfl (lfM (by simp only [F_X7_ask, if_neg c_5, if_pos c_15]))
def F_X7_trace (g : mm_g) (x1 : Int32) : Int32 := (if (F_X7_in (x1.toInt64) 0 (((g 7 0 10) - 1).toInt64)) = 0 then (-1000000) else (g 7 12 x1.toNatClampNeg))
set_option maxRecDepth 100000 in
set_option maxHeartbeats 4000000 in
theorem k_X7_trace (l : Launch) (G : mm_G) {pr : Nat → Nat → Prop} {ad : Nat → Nat → Nat → Nat} (hw : mm_W pr) (g : mm_g) (x1 : Int32) (hT : 0 ≤ (g 7 0 10).toInt ∧ (g 7 0 10).toInt ≤ 16)  : Mt l G yX7_trace cX7_trace 2 (some .int) (rmk 2 85) [.ref (ad 7 0 0), .int x1] pr ad g (qI pr ad g (F_X7_trace g x1)) 0 0 := by
  refine Mt_of (by decide) (Nat.le_of_ble_eq_true rfl) ?_
  show V l G RX7 cX7_trace 2 (some .int) _ _ 0 0 0 0 0 [(0, .ref (ad 7 0 0)), (1, .int x1)] [] pr ad g
  refine V_iload_n dX7_trace_0 1 rfl ?_
  refine V_i2l dX7_trace_1 ?_
  refine V_lconst (v := 0) dX7_trace_2 (by decide) ?_
  refine V_aload_n dX7_trace_3 0 rfl ?_
  refine V_get (i := 22) inlX7 rfl (W_7 hw) rfl (by decide) q_972 rfl dX7_trace_4 ?_
  refine V_iconst (v := 1) dX7_trace_7 (by decide) ?_
  refine V_isub dX7_trace_8 ?_
  refine V_i2l dX7_trace_9 ?_
  refine V_cS (k_X7_in l G hw g  (x1.toInt64) 0 (((g 7 0 10) - 1).toInt64) ) hy_X7_in hz_X7_in q_135 rfl rfl rfl rfl ⟨by decide, by decide⟩ (Nat.le_of_ble_eq_true rfl) ⟨by decide, by decide⟩ dX7_trace_10 (V_kI ?_)
  refine V_if_eq (tgt := 25) dX7_trace_13 (by decide) (fun c_13 => ?_) (fun c_13 => ?_)
  · refine V_ldc q_637 dX7_trace_25 ?_
    exact V_iret dX7_trace_27 rfl (lfI (by simp only [F_X7_trace, if_pos c_13]))
  · refine V_aload_n dX7_trace_16 0 rfl ?_
    refine V_get (i := 21) inlX7 rfl (W_7 hw) rfl (by decide) q_103 rfl dX7_trace_17 ?_
    refine V_iload_n dX7_trace_20 1 rfl ?_
    refine L_7_12 (W_7 hw) (by exact ix_tr hT c_13) dX7_trace_21 ?_
    refine V_goto (tgt := 27) dX7_trace_22 (by decide) ?_
    exact V_iret dX7_trace_27 rfl (lfI (by simp only [F_X7_trace, if_neg c_13]))
def F_X7_count_4 (g4 : mm_g) (x1 : Int32) (K : Int32 → Nat → Int32) : Nat → Int32 → Nat → Int32
  | 0, a, j => K a j
  | n + 1, a, j => (if 8 ≤ (nI j) then K a j else (if (g4 7 2 (nI j).toNatClampNeg) < 0 then F_X7_count_4 g4 x1 K n (a + 0) (j + 1) else F_X7_count_4 g4 x1 K n (a + 1) (j + 1)))
def F_X7_count (g : mm_g) (x1 : Int32) : Int32 := (F_X7_count_4 g x1 (fun (a4 : Int32) (j4 : Nat) => (if x1 = 0 then a4 else (if x1 = 1 then (g 7 4 0) else (if x1 = 2 then (g 7 4 4) else (if x1 = 3 then (F_X7_allSizes g) else (if x1 = 4 then (((g 7 4 6) + (g 7 4 7)) + (g 7 4 8)) else (if x1 = 5 then (g 7 4 5) else (if x1 = 6 then (g 7 0 9) else (if x1 = 7 then (g 7 0 2) else (-1000001)))))))))) ((8 : Int32).toInt.toNat + 1) 0 0)
set_option maxRecDepth 100000 in
set_option maxHeartbeats 4000000 in
theorem w_X7_count_4 (l : Launch) (G : mm_G) {pr : Nat → Nat → Prop} {ad : Nat → Nat → Nat → Nat} (hw : mm_W pr) (g4 : mm_g) (x1 : Int32)  (K : Int32 → Nat → Int32) (hK : ∀ (a : Int32) (j : Nat) (hj : j ≤ (8 : Int32).toInt.toNat), V l G RX7 cX7_count 4 (some .int) (rmk 2 82) (qI pr ad g4 (K a j)) 0 0 0 0 33 [(0, .ref (ad 7 0 0)), (1, .int x1), (2, .int a), (3, .int (nI j))] [] pr ad g4) : ∀ (n : Nat) (a : Int32) (j : Nat) (hj : j ≤ (8 : Int32).toInt.toNat) (hm : (8 : Int32).toInt.toNat - j < n), V l G RX7 cX7_count 4 (some .int) (rmk 2 82) (qI pr ad g4 (F_X7_count_4 g4 x1 K n a j)) 0 0 0 0 4 [(0, .ref (ad 7 0 0)), (1, .int x1), (2, .int a), (3, .int (nI j))] [] pr ad g4 := by
  intro n
  induction n with
  | zero => intro a j hj hm; exact absurd hm (Nat.not_lt_zero _)
  | succ n ih =>
      intro a j hj hm
      refine V_iload_n dX7_count_4 3 rfl ?_
      refine V_bipush (v := 8) dX7_count_5 (by decide) ?_
      refine V_ic_ge (tgt := 33) dX7_count_7 (by decide) (fun c_7 => ?_) (fun c_7 => ?_)
      · refine V_rp (R2 := K a j) (by simp only [F_X7_count_4, if_pos c_7]) ?_
        refine V_lp [0, 1, 2, 3] rfl ?_
        exact hK a j (by assumption)
      · refine V_iload_n dX7_count_10 2 rfl ?_
        refine V_aload_n dX7_count_11 0 rfl ?_
        refine V_get (i := 1) inlX7 rfl (W_7 hw) rfl (by decide) q_92 rfl dX7_count_12 ?_
        refine V_iload_n dX7_count_15 3 rfl ?_
        refine L_7_2 (W_7 hw) (by exact ix_x hj c_7 (by decide)) dX7_count_16 ?_
        refine V_if_lt (tgt := 24) dX7_count_17 (by decide) (fun c_17 => ?_) (fun c_17 => ?_)
        · refine V_iconst (v := 0) dX7_count_24 (by decide) ?_
          refine V_iadd dX7_count_25 ?_
          refine V_istore_n (L2 := [(2, .int (a + 0)), (0, .ref (ad 7 0 0)), (1, .int x1), (3, .int (nI j))]) dX7_count_26 (by decide) rfl ?_
          refine V_iinc (v := (nI (j + 1))) (L2 := [(3, .int (nI (j + 1))), (2, .int (a + 0)), (0, .ref (ad 7 0 0)), (1, .int x1)]) dX7_count_27 3 rfl (nI_1 _) (by decide) rfl ?_
          refine V_goto (tgt := 4) dX7_count_30 (by decide) ?_
          refine V_rp (R2 := F_X7_count_4 g4 x1 K n (a + 0) (j + 1)) (by simp only [F_X7_count_4, if_neg c_7, if_pos c_17]) ?_
          refine V_lp [2, 3, 1, 0] rfl ?_
          exact ih (a + 0) (j + 1) (by exact (lp_up hj c_7 hm).1) (by exact (lp_up hj c_7 hm).2) 
        · refine V_iconst (v := 1) dX7_count_20 (by decide) ?_
          refine V_goto (tgt := 25) dX7_count_21 (by decide) ?_
          refine V_iadd dX7_count_25 ?_
          refine V_istore_n (L2 := [(2, .int (a + 1)), (0, .ref (ad 7 0 0)), (1, .int x1), (3, .int (nI j))]) dX7_count_26 (by decide) rfl ?_
          refine V_iinc (v := (nI (j + 1))) (L2 := [(3, .int (nI (j + 1))), (2, .int (a + 1)), (0, .ref (ad 7 0 0)), (1, .int x1)]) dX7_count_27 3 rfl (nI_1 _) (by decide) rfl ?_
          refine V_goto (tgt := 4) dX7_count_30 (by decide) ?_
          refine V_rp (R2 := F_X7_count_4 g4 x1 K n (a + 1) (j + 1)) (by simp only [F_X7_count_4, if_neg c_7, if_neg c_17]) ?_
          refine V_lp [2, 3, 1, 0] rfl ?_
          exact ih (a + 1) (j + 1) (by exact (lp_up hj c_7 hm).1) (by exact (lp_up hj c_7 hm).2) 
set_option maxRecDepth 100000 in
set_option maxHeartbeats 4000000 in
theorem k_X7_count (l : Launch) (G : mm_G) {pr : Nat → Nat → Prop} {ad : Nat → Nat → Nat → Nat} (hw : mm_W pr) (g : mm_g) (x1 : Int32) (hB : okB g)  : Mt l G yX7_count cX7_count 4 (some .int) (rmk 2 82) [.ref (ad 7 0 0), .int x1] pr ad g (qI pr ad g (F_X7_count g x1)) 0 0 := by
  refine Mt_of (by decide) (Nat.le_of_ble_eq_true rfl) ?_
  show V l G RX7 cX7_count 4 (some .int) _ _ 0 0 0 0 0 [(0, .ref (ad 7 0 0)), (1, .int x1)] [] pr ad g
  refine V_iconst (v := 0) dX7_count_0 (by decide) ?_
  refine V_istore_n (L2 := [(2, .int 0), (0, .ref (ad 7 0 0)), (1, .int x1)]) dX7_count_1 (by decide) rfl ?_
  refine V_iconst (v := 0) dX7_count_2 (by decide) ?_
  refine V_istore_n (L2 := [(3, .int 0), (2, .int 0), (0, .ref (ad 7 0 0)), (1, .int x1)]) dX7_count_3 (by decide) rfl ?_
  refine V_rp (R2 := F_X7_count_4 g x1 (fun (a4 : Int32) (j4 : Nat) => (if x1 = 0 then a4 else (if x1 = 1 then (g 7 4 0) else (if x1 = 2 then (g 7 4 4) else (if x1 = 3 then (F_X7_allSizes g) else (if x1 = 4 then (((g 7 4 6) + (g 7 4 7)) + (g 7 4 8)) else (if x1 = 5 then (g 7 4 5) else (if x1 = 6 then (g 7 0 9) else (if x1 = 7 then (g 7 0 2) else (-1000001)))))))))) ((8 : Int32).toInt.toNat + 1) 0 0) (by simp only [F_X7_count]) ?_
  refine V_lp [2, 3, 1, 0] rfl ?_
  refine w_X7_count_4 l G hw g x1   _ (fun a4 j4 hj4 => ?_) ((8 : Int32).toInt.toNat + 1) 0 0 (by first | exact Nat.zero_le _ | decide) (by omega)
  refine V_iload_n dX7_count_33 1 rfl ?_
  by_cases s_34_0 : x1 = 0
  · refine V_tabI (v := 0) (off := 46) (tgt := 80) dX7_count_34 s_34_0 (by decide) (by decide) rfl (by decide) ?_
    refine V_iload_n dX7_count_80 2 rfl ?_
    exact V_iret dX7_count_81 rfl (lfI (by simp only [if_pos s_34_0]))
  by_cases s_34_1 : x1 = 1
  · refine V_tabI (v := 1) (off := 48) (tgt := 82) dX7_count_34 s_34_1 (by decide) (by decide) rfl (by decide) ?_
    refine V_aload_n dX7_count_82 0 rfl ?_
    refine V_get (i := 5) inlX7 rfl (W_7 hw) rfl (by decide) q_94 rfl dX7_count_83 ?_
    refine V_iconst (v := 0) dX7_count_86 (by decide) ?_
    refine L_7_4_l 0 rfl (W_7 hw) (by unfold vp_in; decide) dX7_count_87 ?_
    exact V_iret dX7_count_88 rfl (lfI (by simp only [if_neg s_34_0, if_pos s_34_1]))
  by_cases s_34_2 : x1 = 2
  · refine V_tabI (v := 2) (off := 55) (tgt := 89) dX7_count_34 s_34_2 (by decide) (by decide) rfl (by decide) ?_
    refine V_aload_n dX7_count_89 0 rfl ?_
    refine V_get (i := 5) inlX7 rfl (W_7 hw) rfl (by decide) q_94 rfl dX7_count_90 ?_
    refine V_iconst (v := 4) dX7_count_93 (by decide) ?_
    refine L_7_4_l 4 rfl (W_7 hw) (by unfold vp_in; decide) dX7_count_94 ?_
    exact V_iret dX7_count_95 rfl (lfI (by simp only [if_neg s_34_0, if_neg s_34_1, if_pos s_34_2]))
  by_cases s_34_3 : x1 = 3
  · refine V_tabI (v := 3) (off := 62) (tgt := 96) dX7_count_34 s_34_3 (by decide) (by decide) rfl (by decide) ?_
    refine V_aload_n dX7_count_96 0 rfl ?_
    refine V_cV (k_X7_allSizes l G hw g   hB) hy_X7_allSizes hi_X7_allSizes hs_X7_allSizes q_454 rfl rfl (W_7 hw) rfl rfl rfl rfl rfl ⟨by decide, by decide⟩ (Nat.le_of_ble_eq_true rfl) ⟨by decide, by decide⟩ dX7_count_97 (V_kI ?_)
    exact V_iret dX7_count_100 rfl (lfI (by simp only [if_neg s_34_0, if_neg s_34_1, if_neg s_34_2, if_pos s_34_3]))
  by_cases s_34_4 : x1 = 4
  · refine V_tabI (v := 4) (off := 67) (tgt := 101) dX7_count_34 s_34_4 (by decide) (by decide) rfl (by decide) ?_
    refine V_aload_n dX7_count_101 0 rfl ?_
    refine V_get (i := 5) inlX7 rfl (W_7 hw) rfl (by decide) q_94 rfl dX7_count_102 ?_
    refine V_bipush (v := 6) dX7_count_105 (by decide) ?_
    refine L_7_4_l 6 rfl (W_7 hw) (by unfold vp_in; decide) dX7_count_107 ?_
    refine V_aload_n dX7_count_108 0 rfl ?_
    refine V_get (i := 5) inlX7 rfl (W_7 hw) rfl (by decide) q_94 rfl dX7_count_109 ?_
    refine V_bipush (v := 7) dX7_count_112 (by decide) ?_
    refine L_7_4_l 7 rfl (W_7 hw) (by unfold vp_in; decide) dX7_count_114 ?_
    refine V_iadd dX7_count_115 ?_
    refine V_aload_n dX7_count_116 0 rfl ?_
    refine V_get (i := 5) inlX7 rfl (W_7 hw) rfl (by decide) q_94 rfl dX7_count_117 ?_
    refine V_bipush (v := 8) dX7_count_120 (by decide) ?_
    refine L_7_4_l 8 rfl (W_7 hw) (by unfold vp_in; decide) dX7_count_122 ?_
    refine V_iadd dX7_count_123 ?_
    exact V_iret dX7_count_124 rfl (lfI (by simp only [if_neg s_34_0, if_neg s_34_1, if_neg s_34_2, if_neg s_34_3, if_pos s_34_4]))
  by_cases s_34_5 : x1 = 5
  · refine V_tabI (v := 5) (off := 91) (tgt := 125) dX7_count_34 s_34_5 (by decide) (by decide) rfl (by decide) ?_
    refine V_aload_n dX7_count_125 0 rfl ?_
    refine V_get (i := 5) inlX7 rfl (W_7 hw) rfl (by decide) q_94 rfl dX7_count_126 ?_
    refine V_iconst (v := 5) dX7_count_129 (by decide) ?_
    refine L_7_4_l 5 rfl (W_7 hw) (by unfold vp_in; decide) dX7_count_130 ?_
    exact V_iret dX7_count_131 rfl (lfI (by simp only [if_neg s_34_0, if_neg s_34_1, if_neg s_34_2, if_neg s_34_3, if_neg s_34_4, if_pos s_34_5]))
  by_cases s_34_6 : x1 = 6
  · refine V_tabI (v := 6) (off := 98) (tgt := 132) dX7_count_34 s_34_6 (by decide) (by decide) rfl (by decide) ?_
    refine V_aload_n dX7_count_132 0 rfl ?_
    refine V_get (i := 17) inlX7 rfl (W_7 hw) rfl (by decide) q_310 rfl dX7_count_133 ?_
    exact V_iret dX7_count_136 rfl (lfI (by simp only [if_neg s_34_0, if_neg s_34_1, if_neg s_34_2, if_neg s_34_3, if_neg s_34_4, if_neg s_34_5, if_pos s_34_6]))
  by_cases s_34_7 : x1 = 7
  · refine V_tabI (v := 7) (off := 103) (tgt := 137) dX7_count_34 s_34_7 (by decide) (by decide) rfl (by decide) ?_
    refine V_aload_n dX7_count_137 0 rfl ?_
    refine V_get (i := 8) inlX7 rfl (W_7 hw) rfl (by decide) q_226 rfl dX7_count_138 ?_
    exact V_iret dX7_count_141 rfl (lfI (by simp only [if_neg s_34_0, if_neg s_34_1, if_neg s_34_2, if_neg s_34_3, if_neg s_34_4, if_neg s_34_5, if_neg s_34_6, if_pos s_34_7]))
  refine V_tabO (tgt := 142) dX7_count_34 (by have e0 := mm_ne s_34_0 (n := 0) (by decide); have e1 := mm_ne s_34_1 (n := 1) (by decide); have e2 := mm_ne s_34_2 (n := 2) (by decide); have e3 := mm_ne s_34_3 (n := 3) (by decide); have e4 := mm_ne s_34_4 (n := 4) (by decide); have e5 := mm_ne s_34_5 (n := 5) (by decide); have e6 := mm_ne s_34_6 (n := 6) (by decide); have e7 := mm_ne s_34_7 (n := 7) (by decide); omega) (by decide) ?_
  refine V_ldc q_130 dX7_count_142 ?_
  exact V_iret dX7_count_144 rfl (lfI (by simp only [if_neg s_34_0, if_neg s_34_1, if_neg s_34_2, if_neg s_34_3, if_neg s_34_4, if_neg s_34_5, if_neg s_34_6, if_neg s_34_7]))
def F_X7_status (g : mm_g) : Int32 := (g 7 0 0)
set_option maxRecDepth 100000 in
set_option maxHeartbeats 4000000 in
theorem k_X7_status (l : Launch) (G : mm_G) {pr : Nat → Nat → Prop} {ad : Nat → Nat → Nat → Nat} (hw : mm_W pr) (g : mm_g)  : Mt l G yX7_status cX7_status 1 (some .int) (rmk 1 60) [.ref (ad 7 0 0)] pr ad g (qI pr ad g (F_X7_status g)) 0 0 := by
  refine Mt_of (by decide) (Nat.le_of_ble_eq_true rfl) ?_
  show V l G RX7 cX7_status 1 (some .int) _ _ 0 0 0 0 0 [(0, .ref (ad 7 0 0))] [] pr ad g
  refine V_aload_n dX7_status_0 0 rfl ?_
  refine V_get (i := 3) inlX7 rfl (W_7 hw) rfl (by decide) q_142 rfl dX7_status_1 ?_
  exact V_iret dX7_status_4 rfl (lfI (by simp only [F_X7_status]))
