def F_X4_holds (g : mm_g) (x1 : Int32) (x2 : Int32) (x3 : Int32) : Int32 := (if (F_X4_isMissing g x1) = 0 then (if x2 < 0 then 0 else (if x3 < 0 then 0 else (if 0 < (lg_cmp ((x2.toInt64) + (x3.toInt64)) ((g 4 3 x1.toNatClampNeg).toInt64)) then 0 else 1))) else 0)
set_option maxRecDepth 100000 in
set_option maxHeartbeats 4000000 in
theorem k_X4_holds (l : Launch) (G : mm_G) {pr : Nat → Nat → Prop} {ad : Nat → Nat → Nat → Nat} (hw : mm_W pr) (g : mm_g) (x1 : Int32) (x2 : Int32) (x3 : Int32)  : Mt l G yX4_holds cX4_holds 4 (some .boolean) (rmk 3 103) [.ref (ad 4 0 0), .int x1, .int x2, .int x3] pr ad g (qI pr ad g (F_X4_holds g x1 x2 x3)) 0 0 := by
  refine Mt_of (by decide) (Nat.le_of_ble_eq_true rfl) ?_
  show V l G RX4 cX4_holds 4 (some .boolean) _ _ 0 0 0 0 0 [(0, .ref (ad 4 0 0)), (1, .int x1), (2, .int x2), (3, .int x3)] [] pr ad g
  refine V_aload_n dX4_holds_0 0 rfl ?_
  refine V_iload_n dX4_holds_1 1 rfl ?_
  refine V_cV (k_X4_isMissing l G hw g  x1 ) hy_X4_isMissing hi_X4_isMissing hs_X4_isMissing q_160 rfl rfl (W_4 hw) rfl rfl rfl rfl rfl ⟨by decide, by decide⟩ (Nat.le_of_ble_eq_true rfl) ⟨by decide, by decide⟩ dX4_holds_2 (V_kI ?_)
  refine V_if_ne (tgt := 36) dX4_holds_5 (by decide) (fun c_5 => ?_) (fun c_5 => ?_)
  · refine V_iconst (v := 0) dX4_holds_36 (by decide) ?_
    exact V_zret dX4_holds_37 rfl rfl (lfI (by simp only [F_X4_holds, if_neg c_5]))
  · refine V_iload_n dX4_holds_8 2 rfl ?_
    refine V_if_lt (tgt := 36) dX4_holds_9 (by decide) (fun c_9 => ?_) (fun c_9 => ?_)
    · refine V_iconst (v := 0) dX4_holds_36 (by decide) ?_
      exact V_zret dX4_holds_37 rfl rfl (lfI (by simp only [F_X4_holds, if_pos c_5, if_pos c_9]))
    · refine V_iload_n dX4_holds_12 3 rfl ?_
      refine V_if_lt (tgt := 36) dX4_holds_13 (by decide) (fun c_13 => ?_) (fun c_13 => ?_)
      · refine V_iconst (v := 0) dX4_holds_36 (by decide) ?_
        exact V_zret dX4_holds_37 rfl rfl (lfI (by simp only [F_X4_holds, if_pos c_5, if_neg c_9, if_pos c_13]))
      · refine V_iload_n dX4_holds_16 2 rfl ?_
        refine V_i2l dX4_holds_17 ?_
        refine V_iload_n dX4_holds_18 3 rfl ?_
        refine V_i2l dX4_holds_19 ?_
        refine V_ladd dX4_holds_20 ?_
        refine V_aload_n dX4_holds_21 0 rfl ?_
        refine V_get (i := 2) inlX4 rfl (W_4 hw) rfl (by decide) q_46 rfl dX4_holds_22 ?_
        refine V_iload_n dX4_holds_25 1 rfl ?_
        refine L_4_3 (W_4 hw) (by first | exact ix_miss c_5) dX4_holds_26 ?_
        refine V_i2l dX4_holds_27 ?_
        refine V_lcmp dX4_holds_28 ?_
        refine V_if_gt (tgt := 36) dX4_holds_29 (by decide) (fun c_29 => ?_) (fun c_29 => ?_)
        · refine V_iconst (v := 0) dX4_holds_36 (by decide) ?_
          exact V_zret dX4_holds_37 rfl rfl (lfI (by simp only [F_X4_holds, if_pos c_5, if_neg c_9, if_neg c_13, if_pos c_29]))
        · refine V_iconst (v := 1) dX4_holds_32 (by decide) ?_
          refine V_goto (tgt := 37) dX4_holds_33 (by decide) ?_
          exact V_zret dX4_holds_37 rfl rfl (lfI (by simp only [F_X4_holds, if_pos c_5, if_neg c_9, if_neg c_13, if_neg c_29]))
def okR (g : mm_g) : Prop := ∀ r : Nat, r < 8 → (g 4 3 r).toInt ≤ 40
theorem okR_31 {g : mm_g} {j : Nat} {x : Int32} (h : okR g) : okR (wr g 3 1 j x) := fun r hr => by
  rw [wr_at, if_neg (fun q => absurd q.1 (by decide))]
  exact h r hr
theorem ix_mul {a b c : Int32} {m n N : Nat} (ha : vp_in a m) (hb : vp_in b n) (hc : c = nI n) (hN : m * n ≤ N ∧ N < 2 ^ 31 ∧ m < 2 ^ 31 ∧ n < 2 ^ 31) : vp_in (a * c + b) N := by
  obtain ⟨i, hi, rfl⟩ := vp_in_of ha hN.2.2.1
  obtain ⟨j, hj, rfl⟩ := vp_in_of hb hN.2.2.2
  rw [hc, pk_mul, nI_add]
  have h1 : i * n + j < m * n := by
    have h2 : (i + 1) * n ≤ m * n := Nat.mul_le_mul_right n hi
    rw [Nat.add_mul, Nat.one_mul] at h2
    omega
  exact vp_in_nI (Nat.lt_of_lt_of_le h1 hN.1) hN.2.1
theorem l_sum2 (x y : Int32) : (x.toInt64 + y.toInt64).toInt = x.toInt + y.toInt := by
  have a1 := Int32.toInt_lt x
  have a2 := Int32.le_toInt x
  have b1 := Int32.toInt_lt y
  have b2 := Int32.le_toInt y
  rw [Int64.toInt_add, Int32.toInt_toInt64, Int32.toInt_toInt64, Int.bmod_eq_of_le_mul_two (by omega) (by omega)]
theorem F_X4_holds_1 {g : mm_g} {r i n : Int32} (h : ¬ F_X4_holds g r i n = 0) : vp_in r 8 ∧ 0 ≤ i.toInt ∧ 0 ≤ n.toInt ∧ i.toInt + n.toInt ≤ (g 4 3 r.toNatClampNeg).toInt := by
  unfold F_X4_holds at h
  by_cases h1 : F_X4_isMissing g r = 0
  · rw [if_pos h1] at h
    by_cases h2 : i < 0
    · rw [if_pos h2] at h; exact absurd rfl h
    · rw [if_neg h2] at h
      by_cases h3 : n < 0
      · rw [if_pos h3] at h; exact absurd rfl h
      · rw [if_neg h3] at h
        by_cases h4 : 0 < lg_cmp (i.toInt64 + n.toInt64) (g 4 3 r.toNatClampNeg).toInt64
        · rw [if_pos h4] at h; exact absurd rfl h
        · rw [lg_cmp_gt, Int64.lt_iff_toInt_lt, l_sum2, Int32.toInt_toInt64] at h4
          rw [toI_lt] at h2 h3
          have e0 : (0 : Int32).toInt = 0 := rfl
          exact ⟨ix_miss h1, by omega, by omega, by omega⟩
  · rw [if_neg h1] at h; exact absurd rfl h
theorem ix_hold {g : mm_g} {r i n : Int32} (h : ¬ F_X4_holds g r i n = 0) : vp_in r 8 := (F_X4_holds_1 h).1
theorem ix_item {g : mm_g} {r i : Int32} (hR : okR g) (h : ¬ F_X4_holds g r i 1 = 0) : vp_in (r * 40 + i) 320 := by
  obtain ⟨h1, h2, h3, h4⟩ := F_X4_holds_1 h
  have h5 := hR _ (vp_lt h1)
  have e1 : (1 : Int32).toInt = 1 := rfl
  exact ix_mul (m := 8) (n := 40) h1 (vp_in_iff.mpr (by omega)) rfl (by decide)
theorem ix_make {r n : Int32} {j : Nat} (h1 : ¬ F_X6_within r 0 7 = 0) (h3 : ¬ F_X6_within n 0 40 = 0) (hj : j ≤ n.toInt.toNat) (h : ¬ n ≤ nI j) : vp_in (r * 40 + nI j) 320 := by
  have h2 := F_X6_within_1 h3
  have e0 : (40 : Int32).toInt = 40 := rfl
  exact ix_mul (m := 8) (n := 40) (ix_w7 h1) (ix_x hj h (by omega)) rfl (by decide)
/-- a stretch of a row's items lies in the store -/
theorem ix_seg {g : mm_g} {r i n : Int32} (hR : okR g) (h : ¬ F_X4_holds g r i n = 0) : ¬ r * 40 + i < 0 ∧ ¬ n < 0 ∧ (r * 40 + i).toNatClampNeg + n.toNatClampNeg ≤ 320 := by
  obtain ⟨h1, h2, h3, h4⟩ := F_X4_holds_1 h
  have h5 := hR _ (vp_lt h1)
  obtain ⟨a, ha, rfl⟩ := vp_in_of h1 (by decide)
  obtain ⟨b, hb, rfl⟩ := nI_of (x := i) (by rw [toI_lt]; have e0 : (0 : Int32).toInt = 0 := rfl; omega)
  obtain ⟨c, hc, rfl⟩ := nI_of (x := n) (by rw [toI_lt]; have e0 : (0 : Int32).toInt = 0 := rfl; omega)
  rw [nI_toInt hb, nI_toInt hc] at h4
  have e40 : (40 : Int32) = nI 40 := rfl
  rw [e40, pk_mul, nI_add, nI_clamp hc, nI_clamp (by omega)]
  exact ⟨nI_pos (by omega), nI_pos hc, by omega⟩
theorem ne_i2l {x : Int32} (h : 1 ≤ x) : ¬ x.toInt64 = 0 := fun q => by
  have q2 := congrArg Int64.toInt q
  rw [Int32.toInt_toInt64] at q2
  have e0 : (0 : Int64).toInt = 0 := rfl
  have e1 : (1 : Int32).toInt = 1 := rfl
  rw [toI_le] at h
  omega
theorem ne_lc {x : Int64} (h : ¬ lg_cmp x 0 = 0) : ¬ x = 0 := fun q => h ((lg_cmp_eq x 0).mpr q)
def F_X4_itemOf (g : mm_g) (x1 : Int32) (x2 : Int32) : Int32 := (if (F_X4_holds g x1 x2 1) = 0 then 0 else (g 4 1 ((x1 * 40) + x2).toNatClampNeg))
set_option maxRecDepth 100000 in
set_option maxHeartbeats 4000000 in
theorem k_X4_itemOf (l : Launch) (G : mm_G) {pr : Nat → Nat → Prop} {ad : Nat → Nat → Nat → Nat} (hw : mm_W pr) (g : mm_g) (x1 : Int32) (x2 : Int32) (hR : okR g)  : Mt l G yX4_itemOf cX4_itemOf 3 (some .int) (rmk 4 126) [.ref (ad 4 0 0), .int x1, .int x2] pr ad g (qI pr ad g (F_X4_itemOf g x1 x2)) 0 0 := by
  refine Mt_of (by decide) (Nat.le_of_ble_eq_true rfl) ?_
  show V l G RX4 cX4_itemOf 3 (some .int) _ _ 0 0 0 0 0 [(0, .ref (ad 4 0 0)), (1, .int x1), (2, .int x2)] [] pr ad g
  refine V_aload_n dX4_itemOf_0 0 rfl ?_
  refine V_iload_n dX4_itemOf_1 1 rfl ?_
  refine V_iload_n dX4_itemOf_2 2 rfl ?_
  refine V_iconst (v := 1) dX4_itemOf_3 (by decide) ?_
  refine V_cV (k_X4_holds l G hw g  x1 x2 1 ) hy_X4_holds hi_X4_holds hs_X4_holds q_165 rfl rfl (W_4 hw) rfl rfl rfl rfl rfl ⟨by decide, by decide⟩ (Nat.le_of_ble_eq_true rfl) ⟨by decide, by decide⟩ dX4_itemOf_4 (V_kI ?_)
  refine V_if_eq (tgt := 24) dX4_itemOf_7 (by decide) (fun c_7 => ?_) (fun c_7 => ?_)
  · refine V_iconst (v := 0) dX4_itemOf_24 (by decide) ?_
    exact V_iret dX4_itemOf_25 rfl (lfI (by simp only [F_X4_itemOf, if_pos c_7]))
  · refine V_aload_n dX4_itemOf_10 0 rfl ?_
    refine V_get (i := 0) inlX4 rfl (W_4 hw) rfl (by decide) q_44 rfl dX4_itemOf_11 ?_
    refine V_iload_n dX4_itemOf_14 1 rfl ?_
    refine V_bipush (v := 40) dX4_itemOf_15 (by decide) ?_
    refine V_imul dX4_itemOf_17 ?_
    refine V_iload_n dX4_itemOf_18 2 rfl ?_
    refine V_iadd dX4_itemOf_19 ?_
    refine L_4_1 (W_4 hw) (by exact ix_item hR c_7) dX4_itemOf_20 ?_
    refine V_goto (tgt := 25) dX4_itemOf_21 (by decide) ?_
    exact V_iret dX4_itemOf_25 rfl (lfI (by simp only [F_X4_itemOf, if_neg c_7]))
def F_X4_make_38 (x1 : Int32) (x2 : Int32) (x3 : Int32) (K : Nat → mm_g → mm_g) : Nat → Nat → mm_g → mm_g
  | 0, j, s => K j s
  | n + 1, j, s => (if x3 ≤ (nI j) then K j s else F_X4_make_38 x1 x2 x3 K n (j + 1) (wr s 4 1 ((x1 * 40) + (nI j)).toNatClampNeg 0))
def F_X4_make (g : mm_g) (x1 : Int32) (x2 : Int32) (x3 : Int32) : mm_g := (if (F_X6_within x1 0 7) = 0 then g else (if (F_X6_within x3 0 40) = 0 then g else (F_X4_make_38 x1 x2 x3 (fun (j38 : Nat) (s38 : mm_g) => s38) (x3.toInt.toNat + 1) 0 (wr (wr g 4 2 x1.toNatClampNeg x2) 4 3 x1.toNatClampNeg x3))))
set_option maxRecDepth 100000 in
set_option maxHeartbeats 4000000 in
theorem w_X4_make_38 (l : Launch) (G : mm_G) {pr : Nat → Nat → Prop} {ad : Nat → Nat → Nat → Nat} (hw : mm_W pr) (x1 : Int32) (x2 : Int32) (x3 : Int32)  (h1 : ¬ F_X6_within x1 0 7 = 0) (h3 : ¬ F_X6_within x3 0 40 = 0) (K : Nat → mm_g → mm_g) (hK : ∀ (j : Nat) (s : mm_g) (hj : j ≤ x3.toInt.toNat), V l G RX4 cX4_make 5 none (rmk 2 82) (qN pr ad (K j s)) 0 0 0 0 63 [(0, .ref (ad 4 0 0)), (1, .int x1), (2, .int x2), (3, .int x3), (4, .int (nI j))] [] pr ad s) : ∀ (n : Nat) (j : Nat) (s : mm_g) (hj : j ≤ x3.toInt.toNat) (hm : x3.toInt.toNat - j < n), V l G RX4 cX4_make 5 none (rmk 2 82) (qN pr ad (F_X4_make_38 x1 x2 x3 K n j s)) 0 0 0 0 38 [(0, .ref (ad 4 0 0)), (1, .int x1), (2, .int x2), (3, .int x3), (4, .int (nI j))] [] pr ad s := by
  intro n
  induction n with
  | zero => intro j s hj hm; exact absurd hm (Nat.not_lt_zero _)
  | succ n ih =>
      intro j s hj hm
      refine V_iload dX4_make_38 4 rfl ?_
      refine V_iload_n dX4_make_40 3 rfl ?_
      refine V_ic_ge (tgt := 63) dX4_make_41 (by decide) (fun c_41 => ?_) (fun c_41 => ?_)
      · refine V_rp (R2 := K j s) (by simp only [F_X4_make_38, if_pos c_41]) ?_
        refine V_lp [0, 1, 2, 3, 4] rfl ?_
        exact hK j s (by assumption)
      · refine V_aload_n dX4_make_44 0 rfl ?_
        refine V_get (i := 0) inlX4 rfl (W_4 hw) rfl (by decide) q_44 rfl dX4_make_45 ?_
        refine V_iload_n dX4_make_48 1 rfl ?_
        refine V_bipush (v := 40) dX4_make_49 (by decide) ?_
        refine V_imul dX4_make_51 ?_
        refine V_iload dX4_make_52 4 rfl ?_
        refine V_iadd dX4_make_54 ?_
        refine V_iconst (v := 0) dX4_make_55 (by decide) ?_
        refine S_4_1 (W_4 hw) (by exact ix_make h1 h3 hj c_41) dX4_make_56 ?_
        refine V_iinc (v := (nI (j + 1))) (L2 := [(4, .int (nI (j + 1))), (0, .ref (ad 4 0 0)), (1, .int x1), (2, .int x2), (3, .int x3)]) dX4_make_57 4 rfl (nI_1 _) (by decide) rfl ?_
        refine V_goto (tgt := 38) dX4_make_60 (by decide) ?_
        refine V_rp (R2 := F_X4_make_38 x1 x2 x3 K n (j + 1) (wr s 4 1 ((x1 * 40) + (nI j)).toNatClampNeg 0)) (by simp only [F_X4_make_38, if_neg c_41]) ?_
        refine V_lp [1, 2, 3, 4, 0] rfl ?_
        exact ih (j + 1) (wr s 4 1 ((x1 * 40) + (nI j)).toNatClampNeg 0) (by exact (lp_up hj c_41 hm).1) (by exact (lp_up hj c_41 hm).2) 
set_option maxRecDepth 100000 in
set_option maxHeartbeats 4000000 in
theorem k_X4_make (l : Launch) (G : mm_G) {pr : Nat → Nat → Prop} {ad : Nat → Nat → Nat → Nat} (hw : mm_W pr) (g : mm_g) (x1 : Int32) (x2 : Int32) (x3 : Int32)  : Mt l G yX4_make cX4_make 5 none (rmk 2 82) [.ref (ad 4 0 0), .int x1, .int x2, .int x3] pr ad g (qN pr ad (F_X4_make g x1 x2 x3)) 0 0 := by
  refine Mt_of (by decide) (Nat.le_of_ble_eq_true rfl) ?_
  show V l G RX4 cX4_make 5 none _ _ 0 0 0 0 0 [(0, .ref (ad 4 0 0)), (1, .int x1), (2, .int x2), (3, .int x3)] [] pr ad g
  refine V_iload_n dX4_make_0 1 rfl ?_
  refine V_iconst (v := 0) dX4_make_1 (by decide) ?_
  refine V_bipush (v := 7) dX4_make_2 (by decide) ?_
  refine V_cSN (k_X6_within l G hw g  x1 0 7 ) hy_X6_within hz_X6_within nm_X4_21 rfl rfl rfl rfl ⟨by decide, by decide⟩ (Nat.le_of_ble_eq_true rfl) ⟨by decide, by decide⟩ dX4_make_4 (V_kI ?_)
  refine V_if_eq (tgt := 20) dX4_make_7 (by decide) (fun c_7 => ?_) (fun c_7 => ?_)
  · exact V_vret dX4_make_20 rfl (lfN (by simp only [F_X4_make, if_pos c_7]))
  · refine V_iload_n dX4_make_10 3 rfl ?_
    refine V_iconst (v := 0) dX4_make_11 (by decide) ?_
    refine V_bipush (v := 40) dX4_make_12 (by decide) ?_
    refine V_cSN (k_X6_within l G hw g  x3 0 40 ) hy_X6_within hz_X6_within nm_X4_21 rfl rfl rfl rfl ⟨by decide, by decide⟩ (Nat.le_of_ble_eq_true rfl) ⟨by decide, by decide⟩ dX4_make_14 (V_kI ?_)
    refine V_if_ne (tgt := 21) dX4_make_17 (by decide) (fun c_17 => ?_) (fun c_17 => ?_)
    · refine V_aload_n dX4_make_21 0 rfl ?_
      refine V_get (i := 1) inlX4 rfl (W_4 hw) rfl (by decide) q_45 rfl dX4_make_22 ?_
      refine V_iload_n dX4_make_25 1 rfl ?_
      refine V_iload_n dX4_make_26 2 rfl ?_
      refine S_4_2 (W_4 hw) (by first | exact ix_w7 c_7) dX4_make_27 ?_
      refine V_aload_n dX4_make_28 0 rfl ?_
      refine V_get (i := 2) inlX4 rfl (W_4 hw) rfl (by decide) q_46 rfl dX4_make_29 ?_
      refine V_iload_n dX4_make_32 1 rfl ?_
      refine V_iload_n dX4_make_33 3 rfl ?_
      refine S_4_3 (W_4 hw) (by first | exact ix_w7 c_7) dX4_make_34 ?_
      refine V_iconst (v := 0) dX4_make_35 (by decide) ?_
      refine V_istore (L2 := [(4, .int 0), (0, .ref (ad 4 0 0)), (1, .int x1), (2, .int x2), (3, .int x3)]) dX4_make_36 (by decide) rfl ?_
      refine V_rp (R2 := F_X4_make_38 x1 x2 x3 (fun (j38 : Nat) (s38 : mm_g) => s38) (x3.toInt.toNat + 1) 0 (wr (wr g 4 2 x1.toNatClampNeg x2) 4 3 x1.toNatClampNeg x3)) (by simp only [F_X4_make, if_neg c_7, if_neg c_17]) ?_
      refine V_lp [1, 2, 3, 4, 0] rfl ?_
      refine w_X4_make_38 l G hw x1 x2 x3  (by exact c_7) (by exact c_17) _ (fun j38 s38 hj38 => ?_) (x3.toInt.toNat + 1) 0 (wr (wr g 4 2 x1.toNatClampNeg x2) 4 3 x1.toNatClampNeg x3) (by first | exact Nat.zero_le _ | decide) (by omega)
      exact V_vret dX4_make_63 rfl (lfN (by rfl))
    · exact V_vret dX4_make_20 rfl (lfN (by simp only [F_X4_make, if_neg c_7, if_pos c_17]))
def F_X4_put (g : mm_g) (x1 : Int32) (x2 : Int32) (x3 : Int32) : Int32 × mm_g := (if (F_X4_holds g x1 x2 1) = 0 then (0, g) else ((F_X4_inLane (g 4 2 x1.toNatClampNeg) x3), (wr g 4 1 ((x1 * 40) + x2).toNatClampNeg (F_X4_inLane (g 4 2 x1.toNatClampNeg) x3))))
set_option maxRecDepth 100000 in
set_option maxHeartbeats 4000000 in
theorem k_X4_put (l : Launch) (G : mm_G) {pr : Nat → Nat → Prop} {ad : Nat → Nat → Nat → Nat} (hw : mm_W pr) (g : mm_g) (x1 : Int32) (x2 : Int32) (x3 : Int32) (hR : okR g)  : Mt l G yX4_put cX4_put 5 (some .int) (rmk 4 126) [.ref (ad 4 0 0), .int x1, .int x2, .int x3] pr ad g (qM pr ad (F_X4_put g x1 x2 x3)) 0 0 := by
  refine Mt_of (by decide) (Nat.le_of_ble_eq_true rfl) ?_
  show V l G RX4 cX4_put 5 (some .int) _ _ 0 0 0 0 0 [(0, .ref (ad 4 0 0)), (1, .int x1), (2, .int x2), (3, .int x3)] [] pr ad g
  refine V_aload_n dX4_put_0 0 rfl ?_
  refine V_iload_n dX4_put_1 1 rfl ?_
  refine V_iload_n dX4_put_2 2 rfl ?_
  refine V_iconst (v := 1) dX4_put_3 (by decide) ?_
  refine V_cV (k_X4_holds l G hw g  x1 x2 1 ) hy_X4_holds hi_X4_holds hs_X4_holds q_165 rfl rfl (W_4 hw) rfl rfl rfl rfl rfl ⟨by decide, by decide⟩ (Nat.le_of_ble_eq_true rfl) ⟨by decide, by decide⟩ dX4_put_4 (V_kI ?_)
  refine V_if_ne (tgt := 12) dX4_put_7 (by decide) (fun c_7 => ?_) (fun c_7 => ?_)
  · refine V_aload_n dX4_put_12 0 rfl ?_
    refine V_get (i := 1) inlX4 rfl (W_4 hw) rfl (by decide) q_45 rfl dX4_put_13 ?_
    refine V_iload_n dX4_put_16 1 rfl ?_
    refine L_4_2 (W_4 hw) (by first | exact ix_hold c_7) dX4_put_17 ?_
    refine V_iload_n dX4_put_18 3 rfl ?_
    refine V_cS (k_X4_inLane l G hw g  (g 4 2 x1.toNatClampNeg) x3 ) hy_X4_inLane hz_X4_inLane q_166 rfl rfl rfl rfl ⟨by decide, by decide⟩ (Nat.le_of_ble_eq_true rfl) ⟨by decide, by decide⟩ dX4_put_19 (V_kI ?_)
    refine V_istore (L2 := [(4, .int (F_X4_inLane (g 4 2 x1.toNatClampNeg) x3)), (0, .ref (ad 4 0 0)), (1, .int x1), (2, .int x2), (3, .int x3)]) dX4_put_22 (by decide) rfl ?_
    refine V_aload_n dX4_put_24 1 rfl ?_
    refine V_get (i := 0) inlX4 rfl (W_4 hw) rfl (by decide) q_44 rfl dX4_put_25 ?_
    refine V_iload_n dX4_put_28 2 rfl ?_
    refine V_bipush (v := 40) dX4_put_29 (by decide) ?_
    refine V_imul dX4_put_31 ?_
    refine V_iload_n dX4_put_32 3 rfl ?_
    refine V_iadd dX4_put_33 ?_
    refine V_iload dX4_put_34 0 rfl ?_
    refine S_4_1 (W_4 hw) (by exact ix_item hR c_7) dX4_put_36 ?_
    refine V_iload dX4_put_37 0 rfl ?_
    exact V_iret dX4_put_39 rfl (lfM (by simp only [F_X4_put, if_neg c_7]))
  · refine V_iconst (v := 0) dX4_put_10 (by decide) ?_
    exact V_iret dX4_put_11 rfl (lfM (by simp only [F_X4_put, if_pos c_7]))
def F_X4_carry (g : mm_g) (x1 : Int32) (x2 : Int32) (x3 : Int32) (x4 : Int32) (x5 : Int32) : mm_g := (if (F_X4_holds g x1 x2 x5) = 0 then g else (if (F_X4_holds g x3 x4 x5) = 0 then g else (mw g 4 1 (va_cpy (g 4 1) (g 4 1) ((x1 * 40) + x2).toNatClampNeg ((x3 * 40) + x4).toNatClampNeg x5.toNatClampNeg))))
set_option maxRecDepth 100000 in
set_option maxHeartbeats 4000000 in
theorem k_X4_carry (l : Launch) (G : mm_G) {pr : Nat → Nat → Prop} {ad : Nat → Nat → Nat → Nat} (hw : mm_W pr) (g : mm_g) (x1 : Int32) (x2 : Int32) (x3 : Int32) (x4 : Int32) (x5 : Int32) (hR : okR g)  : Mt l G yX4_carry cX4_carry 6 none (rmk 4 126) [.ref (ad 4 0 0), .int x1, .int x2, .int x3, .int x4, .int x5] pr ad g (qN pr ad (F_X4_carry g x1 x2 x3 x4 x5)) 0 0 := by
  refine Mt_of (by decide) (Nat.le_of_ble_eq_true rfl) ?_
  show V l G RX4 cX4_carry 6 none _ _ 0 0 0 0 0 [(0, .ref (ad 4 0 0)), (1, .int x1), (2, .int x2), (3, .int x3), (4, .int x4), (5, .int x5)] [] pr ad g
  refine V_aload_n dX4_carry_0 0 rfl ?_
  refine V_iload_n dX4_carry_1 1 rfl ?_
  refine V_iload_n dX4_carry_2 2 rfl ?_
  refine V_iload dX4_carry_3 5 rfl ?_
  refine V_cV (k_X4_holds l G hw g  x1 x2 x5 ) hy_X4_holds hi_X4_holds hs_X4_holds q_165 rfl rfl (W_4 hw) rfl rfl rfl rfl rfl ⟨by decide, by decide⟩ (Nat.le_of_ble_eq_true rfl) ⟨by decide, by decide⟩ dX4_carry_5 (V_kI ?_)
  refine V_if_eq (tgt := 23) dX4_carry_8 (by decide) (fun c_8 => ?_) (fun c_8 => ?_)
  · exact V_vret dX4_carry_23 rfl (lfN (by simp only [F_X4_carry, if_pos c_8]))
  · refine V_aload_n dX4_carry_11 0 rfl ?_
    refine V_iload_n dX4_carry_12 3 rfl ?_
    refine V_iload dX4_carry_13 4 rfl ?_
    refine V_iload dX4_carry_15 5 rfl ?_
    refine V_cV (k_X4_holds l G hw g  x3 x4 x5 ) hy_X4_holds hi_X4_holds hs_X4_holds q_165 rfl rfl (W_4 hw) rfl rfl rfl rfl rfl ⟨by decide, by decide⟩ (Nat.le_of_ble_eq_true rfl) ⟨by decide, by decide⟩ dX4_carry_17 (V_kI ?_)
    refine V_if_ne (tgt := 24) dX4_carry_20 (by decide) (fun c_20 => ?_) (fun c_20 => ?_)
    · refine V_aload_n dX4_carry_24 0 rfl ?_
      refine V_get (i := 0) inlX4 rfl (W_4 hw) rfl (by decide) q_44 rfl dX4_carry_25 ?_
      refine V_iload_n dX4_carry_28 1 rfl ?_
      refine V_bipush (v := 40) dX4_carry_29 (by decide) ?_
      refine V_imul dX4_carry_31 ?_
      refine V_iload_n dX4_carry_32 2 rfl ?_
      refine V_iadd dX4_carry_33 ?_
      refine V_aload_n dX4_carry_34 0 rfl ?_
      refine V_get (i := 0) inlX4 rfl (W_4 hw) rfl (by decide) q_44 rfl dX4_carry_35 ?_
      refine V_iload_n dX4_carry_38 3 rfl ?_
      refine V_bipush (v := 40) dX4_carry_39 (by decide) ?_
      refine V_imul dX4_carry_41 ?_
      refine V_iload dX4_carry_42 4 rfl ?_
      refine V_iadd dX4_carry_44 ?_
      refine V_iload dX4_carry_45 5 rfl ?_
      refine C_4_1 q_188 (W_4 hw) (by exact (ix_seg hR c_8).1) (by exact (ix_seg hR c_20).1) (by exact (ix_seg hR c_8).2.1) (by exact (ix_seg hR c_8).2.2) (by exact (ix_seg hR c_20).2.2) (by decide) (Nat.le_of_ble_eq_true rfl) dX4_carry_47 ?_
      exact V_vret dX4_carry_50 rfl (lfN (by simp only [F_X4_carry, if_neg c_8, if_neg c_20]))
    · exact V_vret dX4_carry_23 rfl (lfN (by simp only [F_X4_carry, if_neg c_8, if_pos c_20]))
def F_X6_commonDivisor_3 (g3 : mm_g) (K : Int64 → Int64 → Nat → Int64) : Nat → Int64 → Int64 → Nat → Int64
  | 0, a, b, j => K a b j
  | n + 1, a, b, j => (if 128 ≤ (nI j) then K a b j else (if (lg_cmp b 0) = 0 then K a b j else F_X6_commonDivisor_3 g3  K n b (a - a / b * b) (j + 1)))
def F_X6_commonDivisor (g : mm_g) (x1 : Int64) (x2 : Int64) : Int64 := (F_X6_commonDivisor_3 g  (fun (a3 : Int64) (b3 : Int64) (j3 : Nat) => a3) ((128 : Int32).toInt.toNat + 1) x1 x2 0)
set_option maxRecDepth 100000 in
set_option maxHeartbeats 4000000 in
theorem w_X6_commonDivisor_3 (l : Launch) (G : mm_G) {pr : Nat → Nat → Prop} {ad : Nat → Nat → Nat → Nat} (hw : mm_W pr) (g3 : mm_g)  (K : Int64 → Int64 → Nat → Int64) (hK : ∀ (a : Int64) (b : Int64) (j : Nat) (hj : j ≤ (128 : Int32).toInt.toNat), V l G RX6 cX6_commonDivisor 7 (some .long) (rmk 1 60) (qL pr ad g3 (K a b j)) 0 0 0 0 33 [(0, .long a), (2, .long b), (4, .int (nI j))] [] pr ad g3) : ∀ (n : Nat) (a : Int64) (b : Int64) (j : Nat) (hj : j ≤ (128 : Int32).toInt.toNat) (hm : (128 : Int32).toInt.toNat - j < n), V l G RX6 cX6_commonDivisor 7 (some .long) (rmk 1 60) (qL pr ad g3 (F_X6_commonDivisor_3 g3  K n a b j)) 0 0 0 0 3 [(0, .long a), (2, .long b), (4, .int (nI j))] [] pr ad g3 := by
  intro n
  induction n with
  | zero => intro a b j hj hm; exact absurd hm (Nat.not_lt_zero _)
  | succ n ih =>
      intro a b j hj hm
      refine V_iload dX6_commonDivisor_3 2 rfl ?_
      refine V_sipush (v := 128) dX6_commonDivisor_5 (by decide) ?_
      refine V_ic_ge (tgt := 33) dX6_commonDivisor_8 (by decide) (fun c_8 => ?_) (fun c_8 => ?_)
      · refine V_rp (R2 := K a b j) (by simp only [F_X6_commonDivisor_3, if_pos c_8]) ?_
        refine V_lp [0, 1, 2] rfl ?_
        exact hK a b j (by assumption)
      · refine V_lload_n dX6_commonDivisor_11 1 rfl ?_
        refine V_lconst (v := 0) dX6_commonDivisor_12 (by decide) ?_
        refine V_lcmp dX6_commonDivisor_13 ?_
        refine V_if_eq (tgt := 33) dX6_commonDivisor_14 (by decide) (fun c_14 => ?_) (fun c_14 => ?_)
        · refine V_rp (R2 := K a b j) (by simp only [F_X6_commonDivisor_3, if_neg c_8, if_pos c_14]) ?_
          refine V_lp [0, 1, 2] rfl ?_
          exact hK a b j (by assumption)
        · refine V_lload_n dX6_commonDivisor_17 0 rfl ?_
          refine V_lload_n dX6_commonDivisor_18 1 rfl ?_
          refine V_lrem dX6_commonDivisor_19 (by exact ne_lc c_14) ?_
          refine V_lstore (L2 := [(5, .long (a - a / b * b)), (0, .long a), (2, .long b), (4, .int (nI j))]) dX6_commonDivisor_20 (by decide) rfl ?_
          refine V_lload_n dX6_commonDivisor_22 2 rfl ?_
          refine V_lstore_n (L2 := [(0, .long b), (5, .long (a - a / b * b)), (2, .long b), (4, .int (nI j))]) dX6_commonDivisor_23 (by decide) rfl ?_
          refine V_lload dX6_commonDivisor_24 1 rfl ?_
          refine V_lstore_n (L2 := [(2, .long (a - a / b * b)), (0, .long b), (5, .long (a - a / b * b)), (4, .int (nI j))]) dX6_commonDivisor_26 (by decide) rfl ?_
          refine V_iinc (v := (nI (j + 1))) (L2 := [(4, .int (nI (j + 1))), (2, .long (a - a / b * b)), (0, .long b), (5, .long (a - a / b * b))]) dX6_commonDivisor_27 3 rfl (nI_1 _) (by decide) rfl ?_
          refine V_goto (tgt := 3) dX6_commonDivisor_30 (by decide) ?_
          refine V_rp (R2 := F_X6_commonDivisor_3 g3  K n b (a - a / b * b) (j + 1)) (by simp only [F_X6_commonDivisor_3, if_neg c_8, if_neg c_14]) ?_
          refine V_lp [2, 1, 0] rfl ?_
          exact ih b (a - a / b * b) (j + 1) (by exact (lp_up hj c_8 hm).1) (by exact (lp_up hj c_8 hm).2) 
set_option maxRecDepth 100000 in
set_option maxHeartbeats 4000000 in
theorem k_X6_commonDivisor (l : Launch) (G : mm_G) {pr : Nat → Nat → Prop} {ad : Nat → Nat → Nat → Nat} (hw : mm_W pr) (g : mm_g) (x1 : Int64) (x2 : Int64)  : Mt l G yX6_commonDivisor cX6_commonDivisor 7 (some .long) (rmk 1 60) [.long x1, .long x2] pr ad g (qL pr ad g (F_X6_commonDivisor g x1 x2)) 0 0 := by
  refine Mt_of (by decide) (Nat.le_of_ble_eq_true rfl) ?_
  show V l G RX6 cX6_commonDivisor 7 (some .long) _ _ 0 0 0 0 0 [(0, .long x1), (2, .long x2)] [] pr ad g
  refine V_iconst (v := 0) dX6_commonDivisor_0 (by decide) ?_
  refine V_istore (L2 := [(4, .int 0), (0, .long x1), (2, .long x2)]) dX6_commonDivisor_1 (by decide) rfl ?_
  refine V_rp (R2 := F_X6_commonDivisor_3 g  (fun (a3 : Int64) (b3 : Int64) (j3 : Nat) => a3) ((128 : Int32).toInt.toNat + 1) x1 x2 0) (by simp only [F_X6_commonDivisor]) ?_
  refine V_lp [1, 2, 0] rfl ?_
  refine w_X6_commonDivisor_3 l G hw g    _ (fun a3 b3 j3 hj3 => ?_) ((128 : Int32).toInt.toNat + 1) x1 x2 0 (by first | exact Nat.zero_le _ | decide) (by omega)
  refine V_lload_n dX6_commonDivisor_33 0 rfl ?_
  exact V_lret dX6_commonDivisor_34 rfl (lfL (by rfl))
def F_X6_isOne (x1 : Int32) : Int32 := (if x1 = 0 then 1 else (if x1 = 1 then 1 else 0))
set_option maxRecDepth 100000 in
set_option maxHeartbeats 4000000 in
theorem k_X6_isOne (l : Launch) (G : mm_G) {pr : Nat → Nat → Prop} {ad : Nat → Nat → Nat → Nat} (hw : mm_W pr) (g : mm_g) (x1 : Int32)  : Mt l G yX6_isOne cX6_isOne 1 (some .boolean) (rmk 1 60) [.int x1] pr ad g (qI pr ad g (F_X6_isOne x1)) 0 0 := by
  refine Mt_of (by decide) (Nat.le_of_ble_eq_true rfl) ?_
  show V l G RX6 cX6_isOne 1 (some .boolean) _ _ 0 0 0 0 0 [(0, .int x1)] [] pr ad g
  refine V_iload_n dX6_isOne_0 0 rfl ?_
  refine V_if_eq (tgt := 9) dX6_isOne_1 (by decide) (fun c_1 => ?_) (fun c_1 => ?_)
  · refine V_iconst (v := 1) dX6_isOne_9 (by decide) ?_
    refine V_goto (tgt := 14) dX6_isOne_10 (by decide) ?_
    exact V_zret dX6_isOne_14 rfl rfl (lfI (by simp only [F_X6_isOne, if_pos c_1]))
  · refine V_iload_n dX6_isOne_4 0 rfl ?_
    refine V_iconst (v := 1) dX6_isOne_5 (by decide) ?_
    refine V_ic_ne (tgt := 13) dX6_isOne_6 (by decide) (fun c_6 => ?_) (fun c_6 => ?_)
    · refine V_iconst (v := 0) dX6_isOne_13 (by decide) ?_
      exact V_zret dX6_isOne_14 rfl rfl (lfI (by simp only [F_X6_isOne, if_neg c_1, if_neg c_6]))
    · refine V_iconst (v := 1) dX6_isOne_9 (by decide) ?_
      refine V_goto (tgt := 14) dX6_isOne_10 (by decide) ?_
      exact V_zret dX6_isOne_14 rfl rfl (lfI (by simp only [F_X6_isOne, if_neg c_1, if_pos c_6]))
def F_X6_found (g : mm_g) (x1 : Int32) : Int32 × mm_g := (((-1000010) - x1), (wr g 6 0 1 x1))
set_option maxRecDepth 100000 in
set_option maxHeartbeats 4000000 in
theorem k_X6_found (l : Launch) (G : mm_G) {pr : Nat → Nat → Prop} {ad : Nat → Nat → Nat → Nat} (hw : mm_W pr) (g : mm_g) (x1 : Int32)  : Mt l G yX6_found cX6_found 2 (some .int) (rmk 1 60) [.ref (ad 6 0 0), .int x1] pr ad g (qM pr ad (F_X6_found g x1)) 0 0 := by
  refine Mt_of (by decide) (Nat.le_of_ble_eq_true rfl) ?_
  show V l G RX6 cX6_found 2 (some .int) _ _ 0 0 0 0 0 [(0, .ref (ad 6 0 0)), (1, .int x1)] [] pr ad g
  refine V_aload_n dX6_found_0 0 rfl ?_
  refine V_iload_n dX6_found_1 1 rfl ?_
  refine P_6_8 (W_6 hw) q_38 dX6_found_2 ?_
  refine V_ldcw q_116 dX6_found_5 ?_
  refine V_iload_n dX6_found_8 1 rfl ?_
  refine V_isub dX6_found_9 ?_
  exact V_iret dX6_found_10 rfl (lfM (by simp only [F_X6_found]))
def F_X6_unfound (g : mm_g) (x1 : Int32) : Int32 × mm_g := (x1, (wr g 6 0 1 0))
set_option maxRecDepth 100000 in
set_option maxHeartbeats 4000000 in
theorem k_X6_unfound (l : Launch) (G : mm_G) {pr : Nat → Nat → Prop} {ad : Nat → Nat → Nat → Nat} (hw : mm_W pr) (g : mm_g) (x1 : Int32)  : Mt l G yX6_unfound cX6_unfound 2 (some .int) (rmk 1 60) [.ref (ad 6 0 0), .int x1] pr ad g (qM pr ad (F_X6_unfound g x1)) 0 0 := by
  refine Mt_of (by decide) (Nat.le_of_ble_eq_true rfl) ?_
  show V l G RX6 cX6_unfound 2 (some .int) _ _ 0 0 0 0 0 [(0, .ref (ad 6 0 0)), (1, .int x1)] [] pr ad g
  refine V_aload_n dX6_unfound_0 0 rfl ?_
  refine V_iconst (v := 0) dX6_unfound_1 (by decide) ?_
  refine P_6_8 (W_6 hw) q_38 dX6_unfound_2 ?_
  refine V_iload_n dX6_unfound_5 1 rfl ?_
  exact V_iret dX6_unfound_6 rfl (lfM (by simp only [F_X6_unfound]))
