def F_X6_within (x1 : Int32) (x2 : Int32) (x3 : Int32) : Int32 := (if x1 < x2 then 0 else (if x3 < x1 then 0 else 1))
set_option maxRecDepth 100000 in
set_option maxHeartbeats 4000000 in
theorem k_X6_within (l : Launch) (G : mm_G) {pr : Nat → Nat → Prop} {ad : Nat → Nat → Nat → Nat} (hw : mm_W pr) (g : mm_g) (x1 : Int32) (x2 : Int32) (x3 : Int32)  : Mt l G yX6_within cX6_within 3 (some .boolean) (rmk 1 60) [.int x1, .int x2, .int x3] pr ad g (qI pr ad g (F_X6_within x1 x2 x3)) 0 0 := by
  refine Mt_of (by decide) (Nat.le_of_ble_eq_true rfl) ?_
  show V l G RX6 cX6_within 3 (some .boolean) _ _ 0 0 0 0 0 [(0, .int x1), (1, .int x2), (2, .int x3)] [] pr ad g
  refine V_iload_n dX6_within_0 0 rfl ?_
  refine V_iload_n dX6_within_1 1 rfl ?_
  refine V_ic_lt (tgt := 14) dX6_within_2 (by decide) (fun c_2 => ?_) (fun c_2 => ?_)
  · refine V_iconst (v := 0) dX6_within_14 (by decide) ?_
    exact V_zret dX6_within_15 rfl rfl (lfI (by simp only [F_X6_within, if_pos c_2]))
  · refine V_iload_n dX6_within_5 0 rfl ?_
    refine V_iload_n dX6_within_6 2 rfl ?_
    refine V_ic_gt (tgt := 14) dX6_within_7 (by decide) (fun c_7 => ?_) (fun c_7 => ?_)
    · refine V_iconst (v := 0) dX6_within_14 (by decide) ?_
      exact V_zret dX6_within_15 rfl rfl (lfI (by simp only [F_X6_within, if_neg c_2, if_pos c_7]))
    · refine V_iconst (v := 1) dX6_within_10 (by decide) ?_
      refine V_goto (tgt := 15) dX6_within_11 (by decide) ?_
      exact V_zret dX6_within_15 rfl rfl (lfI (by simp only [F_X6_within, if_neg c_2, if_neg c_7]))
theorem F_X6_within_1 {v a b : Int32} (h : ¬ F_X6_within v a b = 0) : a.toInt ≤ v.toInt ∧ v.toInt ≤ b.toInt := by
  unfold F_X6_within at h
  by_cases h1 : v < a
  · rw [if_pos h1] at h; exact absurd rfl h
  · by_cases h2 : b < v
    · rw [if_neg h1, if_pos h2] at h; exact absurd rfl h
    · rw [toI_lt] at h1 h2
      omega
theorem ix_wn {v b : Int32} {n : Nat} (h : ¬ F_X6_within v 0 b = 0) (hb : b.toInt + 1 = n) : vp_in v n := vp_in_iff.mpr (by
  have h1 := F_X6_within_1 h
  have e0 : (0 : Int32).toInt = 0 := rfl
  omega)
theorem ix_w5 {v : Int32} (h : ¬ F_X6_within v 0 5 = 0) : vp_in v 6 := ix_wn h rfl
theorem ix_w7 {v : Int32} (h : ¬ F_X6_within v 0 7 = 0) : vp_in v 8 := ix_wn h rfl
theorem ix_w1 {v : Int32} (h : ¬ F_X6_within v 0 1 = 0) : vp_in v 2 := ix_wn h rfl
theorem ix_w23 {v : Int32} (h : ¬ F_X6_within v 0 23 = 0) : vp_in v 24 := ix_wn h rfl
theorem ix_w2 {v : Int32} (h : ¬ F_X6_within v 0 2 = 0) : vp_in v 3 := vp_in_iff.mpr (by
  have h1 := F_X6_within_1 h
  have e0 : (0 : Int32).toInt = 0 := rfl
  have e2 : (2 : Int32).toInt = 2 := rfl
  omega)
def F_X2_has (g : mm_g) (k : Nat) (x1 : Int32) : Int32 := (if x1 < 0 then 0 else (if (g 2 k 0) ≤ x1 then 0 else (if 9 ≤ x1 then 0 else 1)))
set_option maxRecDepth 100000 in
set_option maxHeartbeats 4000000 in
theorem k_X2_has (l : Launch) (G : mm_G) {pr : Nat → Nat → Prop} {ad : Nat → Nat → Nat → Nat} (hw : mm_W pr) (g : mm_g) {k : Nat} (hk : pr 2 k) (x1 : Int32)  : Mt l G yX2_has cX2_has 2 (some .boolean) (rmk 1 60) [.ref (ad 2 k 0), .int x1] pr ad g (qI pr ad g (F_X2_has g k x1)) 0 0 := by
  refine Mt_of (by decide) (Nat.le_of_ble_eq_true rfl) ?_
  show V l G RX2 cX2_has 2 (some .boolean) _ _ 0 0 0 0 0 [(0, .ref (ad 2 k 0)), (1, .int x1)] [] pr ad g
  refine V_iload_n dX2_has_0 1 rfl ?_
  refine V_if_lt (tgt := 22) dX2_has_1 (by decide) (fun c_1 => ?_) (fun c_1 => ?_)
  · refine V_iconst (v := 0) dX2_has_22 (by decide) ?_
    exact V_zret dX2_has_23 rfl rfl (lfI (by simp only [F_X2_has, if_pos c_1]))
  · refine V_iload_n dX2_has_4 1 rfl ?_
    refine V_aload_n dX2_has_5 0 rfl ?_
    refine V_get (i := 0) inlX2 rfl hk rfl (by decide) q_57 rfl dX2_has_6 ?_
    refine V_ic_ge (tgt := 22) dX2_has_9 (by decide) (fun c_9 => ?_) (fun c_9 => ?_)
    · refine V_iconst (v := 0) dX2_has_22 (by decide) ?_
      exact V_zret dX2_has_23 rfl rfl (lfI (by simp only [F_X2_has, if_neg c_1, if_pos c_9]))
    · refine V_iload_n dX2_has_12 1 rfl ?_
      refine V_bipush (v := 9) dX2_has_13 (by decide) ?_
      refine V_ic_ge (tgt := 22) dX2_has_15 (by decide) (fun c_15 => ?_) (fun c_15 => ?_)
      · refine V_iconst (v := 0) dX2_has_22 (by decide) ?_
        exact V_zret dX2_has_23 rfl rfl (lfI (by simp only [F_X2_has, if_neg c_1, if_neg c_9, if_pos c_15]))
      · refine V_iconst (v := 1) dX2_has_18 (by decide) ?_
        refine V_goto (tgt := 23) dX2_has_19 (by decide) ?_
        exact V_zret dX2_has_23 rfl rfl (lfI (by simp only [F_X2_has, if_neg c_1, if_neg c_9, if_neg c_15]))
theorem F_X2_has_1 {g : mm_g} {k : Nat} {b : Int32} (h : ¬ F_X2_has g k b = 0) : 0 ≤ b.toInt ∧ b.toInt < (g 2 k 0).toInt ∧ b.toInt < 9 := by
  unfold F_X2_has at h
  by_cases h1 : b < 0
  · rw [if_pos h1] at h; exact absurd rfl h
  · by_cases h2 : g 2 k 0 ≤ b
    · rw [if_neg h1, if_pos h2] at h; exact absurd rfl h
    · by_cases h3 : 9 ≤ b
      · rw [if_neg h1, if_neg h2, if_pos h3] at h; exact absurd rfl h
      · rw [toI_lt] at h1
        rw [toI_le] at h2 h3
        have e0 : (0 : Int32).toInt = 0 := rfl
        have e9 : (9 : Int32).toInt = 9 := rfl
        omega
theorem ix_has {g : mm_g} {k : Nat} {b : Int32} (h : ¬ F_X2_has g k b = 0) : vp_in b 9 := vp_in_iff.mpr (by
  have h1 := F_X2_has_1 h
  omega)
def F_X2_isNone (g : mm_g) (k : Nat) : Int32 := (if 1 ≤ (g 2 k 0) then 0 else 1)
set_option maxRecDepth 100000 in
set_option maxHeartbeats 4000000 in
theorem k_X2_isNone (l : Launch) (G : mm_G) {pr : Nat → Nat → Prop} {ad : Nat → Nat → Nat → Nat} (hw : mm_W pr) (g : mm_g) {k : Nat} (hk : pr 2 k)  : Mt l G yX2_isNone cX2_isNone 1 (some .boolean) (rmk 1 60) [.ref (ad 2 k 0)] pr ad g (qI pr ad g (F_X2_isNone g k)) 0 0 := by
  refine Mt_of (by decide) (Nat.le_of_ble_eq_true rfl) ?_
  show V l G RX2 cX2_isNone 1 (some .boolean) _ _ 0 0 0 0 0 [(0, .ref (ad 2 k 0))] [] pr ad g
  refine V_aload_n dX2_isNone_0 0 rfl ?_
  refine V_get (i := 0) inlX2 rfl hk rfl (by decide) q_57 rfl dX2_isNone_1 ?_
  refine V_iconst (v := 1) dX2_isNone_4 (by decide) ?_
  refine V_ic_ge (tgt := 12) dX2_isNone_5 (by decide) (fun c_5 => ?_) (fun c_5 => ?_)
  · refine V_iconst (v := 0) dX2_isNone_12 (by decide) ?_
    exact V_zret dX2_isNone_13 rfl rfl (lfI (by simp only [F_X2_isNone, if_pos c_5]))
  · refine V_iconst (v := 1) dX2_isNone_8 (by decide) ?_
    refine V_goto (tgt := 13) dX2_isNone_9 (by decide) ?_
    exact V_zret dX2_isNone_13 rfl rfl (lfI (by simp only [F_X2_isNone, if_neg c_5]))
def F_X2_hasVeto (g : mm_g) (k : Nat) (x1 : Int32) : Int32 := (if (F_X2_has g k x1) = 0 then 0 else (if (((g 2 k 5) >>> (x1 &&& 31)) &&& 1) = 1 then 1 else 0))
set_option maxRecDepth 100000 in
set_option maxHeartbeats 4000000 in
theorem k_X2_hasVeto (l : Launch) (G : mm_G) {pr : Nat → Nat → Prop} {ad : Nat → Nat → Nat → Nat} (hw : mm_W pr) (g : mm_g) {k : Nat} (hk : pr 2 k) (x1 : Int32)  : Mt l G yX2_hasVeto cX2_hasVeto 2 (some .boolean) (rmk 2 81) [.ref (ad 2 k 0), .int x1] pr ad g (qI pr ad g (F_X2_hasVeto g k x1)) 0 0 := by
  refine Mt_of (by decide) (Nat.le_of_ble_eq_true rfl) ?_
  show V l G RX2 cX2_hasVeto 2 (some .boolean) _ _ 0 0 0 0 0 [(0, .ref (ad 2 k 0)), (1, .int x1)] [] pr ad g
  refine V_aload_n dX2_hasVeto_0 0 rfl ?_
  refine V_iload_n dX2_hasVeto_1 1 rfl ?_
  refine V_cV (k_X2_has l G hw g hk x1 ) hy_X2_has hi_X2_has hs_X2_has q_400 rfl rfl hk rfl rfl rfl rfl rfl ⟨by decide, by decide⟩ (Nat.le_of_ble_eq_true rfl) ⟨by decide, by decide⟩ dX2_hasVeto_2 (V_kI ?_)
  refine V_if_eq (tgt := 24) dX2_hasVeto_5 (by decide) (fun c_5 => ?_) (fun c_5 => ?_)
  · refine V_iconst (v := 0) dX2_hasVeto_24 (by decide) ?_
    exact V_zret dX2_hasVeto_25 rfl rfl (lfI (by simp only [F_X2_hasVeto, if_pos c_5]))
  · refine V_aload_n dX2_hasVeto_8 0 rfl ?_
    refine V_get (i := 3) inlX2 rfl hk rfl (by decide) q_60 rfl dX2_hasVeto_9 ?_
    refine V_iload_n dX2_hasVeto_12 1 rfl ?_
    refine V_ishr dX2_hasVeto_13 ?_
    refine V_iconst (v := 1) dX2_hasVeto_14 (by decide) ?_
    refine V_iand dX2_hasVeto_15 ?_
    refine V_iconst (v := 1) dX2_hasVeto_16 (by decide) ?_
    refine V_ic_ne (tgt := 24) dX2_hasVeto_17 (by decide) (fun c_17 => ?_) (fun c_17 => ?_)
    · refine V_iconst (v := 0) dX2_hasVeto_24 (by decide) ?_
      exact V_zret dX2_hasVeto_25 rfl rfl (lfI (by simp only [F_X2_hasVeto, if_neg c_5, if_neg c_17]))
    · refine V_iconst (v := 1) dX2_hasVeto_20 (by decide) ?_
      refine V_goto (tgt := 25) dX2_hasVeto_21 (by decide) ?_
      exact V_zret dX2_hasVeto_25 rfl rfl (lfI (by simp only [F_X2_hasVeto, if_neg c_5, if_pos c_17]))
def F_X2_kindOf (g : mm_g) (k : Nat) (x1 : Int32) : Int32 := (if (F_X2_has g k x1) = 0 then 0 else (g 2 k (9 + x1.toNatClampNeg)))
set_option maxRecDepth 100000 in
set_option maxHeartbeats 4000000 in
theorem k_X2_kindOf (l : Launch) (G : mm_G) {pr : Nat → Nat → Prop} {ad : Nat → Nat → Nat → Nat} (hw : mm_W pr) (g : mm_g) {k : Nat} (hk : pr 2 k) (x1 : Int32)  : Mt l G yX2_kindOf cX2_kindOf 2 (some .int) (rmk 2 81) [.ref (ad 2 k 0), .int x1] pr ad g (qI pr ad g (F_X2_kindOf g k x1)) 0 0 := by
  refine Mt_of (by decide) (Nat.le_of_ble_eq_true rfl) ?_
  show V l G RX2 cX2_kindOf 2 (some .int) _ _ 0 0 0 0 0 [(0, .ref (ad 2 k 0)), (1, .int x1)] [] pr ad g
  refine V_aload_n dX2_kindOf_0 0 rfl ?_
  refine V_iload_n dX2_kindOf_1 1 rfl ?_
  refine V_cV (k_X2_has l G hw g hk x1 ) hy_X2_has hi_X2_has hs_X2_has q_400 rfl rfl hk rfl rfl rfl rfl rfl ⟨by decide, by decide⟩ (Nat.le_of_ble_eq_true rfl) ⟨by decide, by decide⟩ dX2_kindOf_2 (V_kI ?_)
  refine V_if_eq (tgt := 17) dX2_kindOf_5 (by decide) (fun c_5 => ?_) (fun c_5 => ?_)
  · refine V_iconst (v := 0) dX2_kindOf_17 (by decide) ?_
    exact V_iret dX2_kindOf_18 rfl (lfI (by simp only [F_X2_kindOf, if_pos c_5]))
  · refine V_aload_n dX2_kindOf_8 0 rfl ?_
    refine V_get (i := 7) inlX2 rfl hk rfl (by decide) q_64 rfl dX2_kindOf_9 ?_
    refine V_iload_n dX2_kindOf_12 1 rfl ?_
    refine L_2_2 hk (by first | exact ix_has c_5) dX2_kindOf_13 ?_
    refine V_goto (tgt := 18) dX2_kindOf_14 (by decide) ?_
    exact V_iret dX2_kindOf_18 rfl (lfI (by simp only [F_X2_kindOf, if_neg c_5]))
def F_X2_stockOf (g : mm_g) (k : Nat) (x1 : Int32) : Int32 := (if (F_X2_has g k x1) = 0 then 0 else (g 2 k (18 + x1.toNatClampNeg)))
set_option maxRecDepth 100000 in
set_option maxHeartbeats 4000000 in
theorem k_X2_stockOf (l : Launch) (G : mm_G) {pr : Nat → Nat → Prop} {ad : Nat → Nat → Nat → Nat} (hw : mm_W pr) (g : mm_g) {k : Nat} (hk : pr 2 k) (x1 : Int32)  : Mt l G yX2_stockOf cX2_stockOf 2 (some .int) (rmk 2 81) [.ref (ad 2 k 0), .int x1] pr ad g (qI pr ad g (F_X2_stockOf g k x1)) 0 0 := by
  refine Mt_of (by decide) (Nat.le_of_ble_eq_true rfl) ?_
  show V l G RX2 cX2_stockOf 2 (some .int) _ _ 0 0 0 0 0 [(0, .ref (ad 2 k 0)), (1, .int x1)] [] pr ad g
  refine V_aload_n dX2_stockOf_0 0 rfl ?_
  refine V_iload_n dX2_stockOf_1 1 rfl ?_
  refine V_cV (k_X2_has l G hw g hk x1 ) hy_X2_has hi_X2_has hs_X2_has q_400 rfl rfl hk rfl rfl rfl rfl rfl ⟨by decide, by decide⟩ (Nat.le_of_ble_eq_true rfl) ⟨by decide, by decide⟩ dX2_stockOf_2 (V_kI ?_)
  refine V_if_eq (tgt := 17) dX2_stockOf_5 (by decide) (fun c_5 => ?_) (fun c_5 => ?_)
  · refine V_iconst (v := 0) dX2_stockOf_17 (by decide) ?_
    exact V_iret dX2_stockOf_18 rfl (lfI (by simp only [F_X2_stockOf, if_pos c_5]))
  · refine V_aload_n dX2_stockOf_8 0 rfl ?_
    refine V_get (i := 8) inlX2 rfl hk rfl (by decide) q_65 rfl dX2_stockOf_9 ?_
    refine V_iload_n dX2_stockOf_12 1 rfl ?_
    refine L_2_3 hk (by first | exact ix_has c_5) dX2_stockOf_13 ?_
    refine V_goto (tgt := 18) dX2_stockOf_14 (by decide) ?_
    exact V_iret dX2_stockOf_18 rfl (lfI (by simp only [F_X2_stockOf, if_neg c_5]))
def F_X2_warmOf (g : mm_g) (k : Nat) (x1 : Int32) : Int32 := (if (F_X2_has g k x1) = 0 then 0 else (g 2 k (27 + x1.toNatClampNeg)))
set_option maxRecDepth 100000 in
set_option maxHeartbeats 4000000 in
theorem k_X2_warmOf (l : Launch) (G : mm_G) {pr : Nat → Nat → Prop} {ad : Nat → Nat → Nat → Nat} (hw : mm_W pr) (g : mm_g) {k : Nat} (hk : pr 2 k) (x1 : Int32)  : Mt l G yX2_warmOf cX2_warmOf 2 (some .int) (rmk 2 81) [.ref (ad 2 k 0), .int x1] pr ad g (qI pr ad g (F_X2_warmOf g k x1)) 0 0 := by
  refine Mt_of (by decide) (Nat.le_of_ble_eq_true rfl) ?_
  show V l G RX2 cX2_warmOf 2 (some .int) _ _ 0 0 0 0 0 [(0, .ref (ad 2 k 0)), (1, .int x1)] [] pr ad g
  refine V_aload_n dX2_warmOf_0 0 rfl ?_
  refine V_iload_n dX2_warmOf_1 1 rfl ?_
  refine V_cV (k_X2_has l G hw g hk x1 ) hy_X2_has hi_X2_has hs_X2_has q_400 rfl rfl hk rfl rfl rfl rfl rfl ⟨by decide, by decide⟩ (Nat.le_of_ble_eq_true rfl) ⟨by decide, by decide⟩ dX2_warmOf_2 (V_kI ?_)
  refine V_if_eq (tgt := 17) dX2_warmOf_5 (by decide) (fun c_5 => ?_) (fun c_5 => ?_)
  · refine V_iconst (v := 0) dX2_warmOf_17 (by decide) ?_
    exact V_iret dX2_warmOf_18 rfl (lfI (by simp only [F_X2_warmOf, if_pos c_5]))
  · refine V_aload_n dX2_warmOf_8 0 rfl ?_
    refine V_get (i := 9) inlX2 rfl hk rfl (by decide) q_66 rfl dX2_warmOf_9 ?_
    refine V_iload_n dX2_warmOf_12 1 rfl ?_
    refine L_2_4 hk (by first | exact ix_has c_5) dX2_warmOf_13 ?_
    refine V_goto (tgt := 18) dX2_warmOf_14 (by decide) ?_
    exact V_iret dX2_warmOf_18 rfl (lfI (by simp only [F_X2_warmOf, if_neg c_5]))
def F_X2_otherOne (x1 : Int32) : Int32 := (if x1 = 2 then 2 else (if x1 = 0 then 1 else 0))
set_option maxRecDepth 100000 in
set_option maxHeartbeats 4000000 in
theorem k_X2_otherOne (l : Launch) (G : mm_G) {pr : Nat → Nat → Prop} {ad : Nat → Nat → Nat → Nat} (hw : mm_W pr) (g : mm_g) (x1 : Int32)  : Mt l G yX2_otherOne cX2_otherOne 1 (some .int) (rmk 1 60) [.int x1] pr ad g (qI pr ad g (F_X2_otherOne x1)) 0 0 := by
  refine Mt_of (by decide) (Nat.le_of_ble_eq_true rfl) ?_
  show V l G RX2 cX2_otherOne 1 (some .int) _ _ 0 0 0 0 0 [(0, .int x1)] [] pr ad g
  refine V_iload_n dX2_otherOne_0 0 rfl ?_
  refine V_iconst (v := 2) dX2_otherOne_1 (by decide) ?_
  refine V_ic_ne (tgt := 7) dX2_otherOne_2 (by decide) (fun c_2 => ?_) (fun c_2 => ?_)
  · refine V_iload_n dX2_otherOne_7 0 rfl ?_
    refine V_if_ne (tgt := 15) dX2_otherOne_8 (by decide) (fun c_8 => ?_) (fun c_8 => ?_)
    · refine V_iconst (v := 0) dX2_otherOne_15 (by decide) ?_
      exact V_iret dX2_otherOne_16 rfl (lfI (by simp only [F_X2_otherOne, if_neg c_2, if_neg c_8]))
    · refine V_iconst (v := 1) dX2_otherOne_11 (by decide) ?_
      refine V_goto (tgt := 16) dX2_otherOne_12 (by decide) ?_
      exact V_iret dX2_otherOne_16 rfl (lfI (by simp only [F_X2_otherOne, if_neg c_2, if_pos c_8]))
  · refine V_iconst (v := 2) dX2_otherOne_5 (by decide) ?_
    exact V_iret dX2_otherOne_6 rfl (lfI (by simp only [F_X2_otherOne, if_pos c_2]))
def F_X2_byWarmth (x1 : Int32) : Int32 := (if x1 < 5 then 1 else 0)
set_option maxRecDepth 100000 in
set_option maxHeartbeats 4000000 in
theorem k_X2_byWarmth (l : Launch) (G : mm_G) {pr : Nat → Nat → Prop} {ad : Nat → Nat → Nat → Nat} (hw : mm_W pr) (g : mm_g) (x1 : Int32)  : Mt l G yX2_byWarmth cX2_byWarmth 1 (some .int) (rmk 1 60) [.int x1] pr ad g (qI pr ad g (F_X2_byWarmth x1)) 0 0 := by
  refine Mt_of (by decide) (Nat.le_of_ble_eq_true rfl) ?_
  show V l G RX2 cX2_byWarmth 1 (some .int) _ _ 0 0 0 0 0 [(0, .int x1)] [] pr ad g
  refine V_iload_n dX2_byWarmth_0 0 rfl ?_
  refine V_iconst (v := 5) dX2_byWarmth_1 (by decide) ?_
  refine V_ic_lt (tgt := 9) dX2_byWarmth_2 (by decide) (fun c_2 => ?_) (fun c_2 => ?_)
  · refine V_iconst (v := 1) dX2_byWarmth_9 (by decide) ?_
    exact V_iret dX2_byWarmth_10 rfl (lfI (by simp only [F_X2_byWarmth, if_pos c_2]))
  · refine V_iconst (v := 0) dX2_byWarmth_5 (by decide) ?_
    refine V_goto (tgt := 10) dX2_byWarmth_6 (by decide) ?_
    exact V_iret dX2_byWarmth_10 rfl (lfI (by simp only [F_X2_byWarmth, if_neg c_2]))
def F_X2_nearerBy (g : mm_g) (k : Nat) (x1 : Int32) (x2 : Int32) : Int32 := (if ((if 0 ≤ (x1 - (g 2 k 2)) then (x1 - (g 2 k 2)) else 0 - (x1 - (g 2 k 2))) - (if 0 ≤ (x1 - (g 2 k 1)) then (x1 - (g 2 k 1)) else 0 - (x1 - (g 2 k 1)))) < x2 then (if (-x2) < ((if 0 ≤ (x1 - (g 2 k 2)) then (x1 - (g 2 k 2)) else 0 - (x1 - (g 2 k 2))) - (if 0 ≤ (x1 - (g 2 k 1)) then (x1 - (g 2 k 1)) else 0 - (x1 - (g 2 k 1)))) then 2 else 1) else 0)
set_option maxRecDepth 100000 in
set_option maxHeartbeats 4000000 in
theorem k_X2_nearerBy (l : Launch) (G : mm_G) {pr : Nat → Nat → Prop} {ad : Nat → Nat → Nat → Nat} (hw : mm_W pr) (g : mm_g) {k : Nat} (hk : pr 2 k) (x1 : Int32) (x2 : Int32)  : Mt l G yX2_nearerBy cX2_nearerBy 4 (some .int) (rmk 1 60) [.ref (ad 2 k 0), .int x1, .int x2] pr ad g (qI pr ad g (F_X2_nearerBy g k x1 x2)) 0 0 := by
  refine Mt_of (by decide) (Nat.le_of_ble_eq_true rfl) ?_
  show V l G RX2 cX2_nearerBy 4 (some .int) _ _ 0 0 0 0 0 [(0, .ref (ad 2 k 0)), (1, .int x1), (2, .int x2)] [] pr ad g
  refine V_iload_n dX2_nearerBy_0 1 rfl ?_
  refine V_aload_n dX2_nearerBy_1 0 rfl ?_
  refine V_get (i := 5) inlX2 rfl hk rfl (by decide) q_62 rfl dX2_nearerBy_2 ?_
  refine V_isub dX2_nearerBy_5 ?_
  refine V_mabs q_412 q_413 q_386 q_414 (by decide) (Nat.le_of_ble_eq_true rfl) (by decide) (by decide) dX2_nearerBy_6 ?_
  refine V_iload_n dX2_nearerBy_9 1 rfl ?_
  refine V_aload_n dX2_nearerBy_10 0 rfl ?_
  refine V_get (i := 4) inlX2 rfl hk rfl (by decide) q_61 rfl dX2_nearerBy_11 ?_
  refine V_isub dX2_nearerBy_14 ?_
  refine V_mabs q_412 q_413 q_386 q_414 (by decide) (Nat.le_of_ble_eq_true rfl) (by decide) (by decide) dX2_nearerBy_15 ?_
  refine V_isub dX2_nearerBy_18 ?_
  refine V_istore_n (L2 := [(3, .int ((if 0 ≤ (x1 - (g 2 k 2)) then (x1 - (g 2 k 2)) else 0 - (x1 - (g 2 k 2))) - (if 0 ≤ (x1 - (g 2 k 1)) then (x1 - (g 2 k 1)) else 0 - (x1 - (g 2 k 1))))), (0, .ref (ad 2 k 0)), (1, .int x1), (2, .int x2)]) dX2_nearerBy_19 (by decide) rfl ?_
  refine V_iload_n dX2_nearerBy_20 0 rfl ?_
  refine V_iload_n dX2_nearerBy_21 3 rfl ?_
  refine V_ic_lt (tgt := 27) dX2_nearerBy_22 (by decide) (fun c_22 => ?_) (fun c_22 => ?_)
  · refine V_iload_n dX2_nearerBy_27 0 rfl ?_
    refine V_iload_n dX2_nearerBy_28 3 rfl ?_
    refine V_ineg dX2_nearerBy_29 ?_
    refine V_ic_gt (tgt := 37) dX2_nearerBy_30 (by decide) (fun c_30 => ?_) (fun c_30 => ?_)
    · refine V_iconst (v := 2) dX2_nearerBy_37 (by decide) ?_
      exact V_iret dX2_nearerBy_38 rfl (lfI (by simp only [F_X2_nearerBy, if_pos c_22, if_pos c_30]))
    · refine V_iconst (v := 1) dX2_nearerBy_33 (by decide) ?_
      refine V_goto (tgt := 38) dX2_nearerBy_34 (by decide) ?_
      exact V_iret dX2_nearerBy_38 rfl (lfI (by simp only [F_X2_nearerBy, if_pos c_22, if_neg c_30]))
  · refine V_iconst (v := 0) dX2_nearerBy_25 (by decide) ?_
    exact V_iret dX2_nearerBy_26 rfl (lfI (by simp only [F_X2_nearerBy, if_neg c_22]))
def F_X2_lying (g : mm_g) (k : Nat) (x1 : Int32) : Int32 := (if (F_X2_has g k x1) = 0 then 2 else (if (g 2 k (9 + x1.toNatClampNeg)) = 1 then (F_X2_nearerBy g k x1 1) else (if (g 2 k (9 + x1.toNatClampNeg)) = 2 then (F_X2_nearerBy g k x1 2) else (if (g 2 k (9 + x1.toNatClampNeg)) = 3 then (F_X2_otherOne (F_X2_nearerBy g k x1 1)) else (if (g 2 k (9 + x1.toNatClampNeg)) = 4 then (F_X2_byWarmth (g 2 k (27 + x1.toNatClampNeg))) else (if (g 2 k (9 + x1.toNatClampNeg)) = 5 then (if 10 ≤ (g 2 k (18 + x1.toNatClampNeg)) then (F_X2_byWarmth (g 2 k (27 + x1.toNatClampNeg))) else 2) else 2))))))
set_option maxRecDepth 100000 in
set_option maxHeartbeats 4000000 in
theorem k_X2_lying (l : Launch) (G : mm_G) {pr : Nat → Nat → Prop} {ad : Nat → Nat → Nat → Nat} (hw : mm_W pr) (g : mm_g) {k : Nat} (hk : pr 2 k) (x1 : Int32)  : Mt l G yX2_lying cX2_lying 2 (some .int) (rmk 2 83) [.ref (ad 2 k 0), .int x1] pr ad g (qI pr ad g (F_X2_lying g k x1)) 0 0 := by
  refine Mt_of (by decide) (Nat.le_of_ble_eq_true rfl) ?_
  show V l G RX2 cX2_lying 2 (some .int) _ _ 0 0 0 0 0 [(0, .ref (ad 2 k 0)), (1, .int x1)] [] pr ad g
  refine V_aload_n dX2_lying_0 0 rfl ?_
  refine V_iload_n dX2_lying_1 1 rfl ?_
  refine V_cV (k_X2_has l G hw g hk x1 ) hy_X2_has hi_X2_has hs_X2_has q_400 rfl rfl hk rfl rfl rfl rfl rfl ⟨by decide, by decide⟩ (Nat.le_of_ble_eq_true rfl) ⟨by decide, by decide⟩ dX2_lying_2 (V_kI ?_)
  refine V_if_ne (tgt := 10) dX2_lying_5 (by decide) (fun c_5 => ?_) (fun c_5 => ?_)
  · refine V_aload_n dX2_lying_10 0 rfl ?_
    refine V_get (i := 7) inlX2 rfl hk rfl (by decide) q_64 rfl dX2_lying_11 ?_
    refine V_iload_n dX2_lying_14 1 rfl ?_
    refine L_2_2 hk (by first | exact ix_has c_5) dX2_lying_15 ?_
    by_cases s_16_0 : (g 2 k (9 + x1.toNatClampNeg)) = 1
    · refine V_tabI (v := 1) (off := 36) (tgt := 52) dX2_lying_16 s_16_0 (by decide) (by decide) rfl (by decide) ?_
      refine V_aload_n dX2_lying_52 0 rfl ?_
      refine V_iload_n dX2_lying_53 1 rfl ?_
      refine V_iconst (v := 1) dX2_lying_54 (by decide) ?_
      refine V_cV (k_X2_nearerBy l G hw g hk x1 1 ) hy_X2_nearerBy hi_X2_nearerBy hs_X2_nearerBy q_408 rfl rfl hk rfl rfl rfl rfl rfl ⟨by decide, by decide⟩ (Nat.le_of_ble_eq_true rfl) ⟨by decide, by decide⟩ dX2_lying_55 (V_kI ?_)
      exact V_iret dX2_lying_58 rfl (lfI (by simp only [F_X2_lying, if_neg c_5, if_pos s_16_0]))
    by_cases s_16_1 : (g 2 k (9 + x1.toNatClampNeg)) = 2
    · refine V_tabI (v := 2) (off := 43) (tgt := 59) dX2_lying_16 s_16_1 (by decide) (by decide) rfl (by decide) ?_
      refine V_aload_n dX2_lying_59 0 rfl ?_
      refine V_iload_n dX2_lying_60 1 rfl ?_
      refine V_iconst (v := 2) dX2_lying_61 (by decide) ?_
      refine V_cV (k_X2_nearerBy l G hw g hk x1 2 ) hy_X2_nearerBy hi_X2_nearerBy hs_X2_nearerBy q_408 rfl rfl hk rfl rfl rfl rfl rfl ⟨by decide, by decide⟩ (Nat.le_of_ble_eq_true rfl) ⟨by decide, by decide⟩ dX2_lying_62 (V_kI ?_)
      exact V_iret dX2_lying_65 rfl (lfI (by simp only [F_X2_lying, if_neg c_5, if_neg s_16_0, if_pos s_16_1]))
    by_cases s_16_2 : (g 2 k (9 + x1.toNatClampNeg)) = 3
    · refine V_tabI (v := 3) (off := 50) (tgt := 66) dX2_lying_16 s_16_2 (by decide) (by decide) rfl (by decide) ?_
      refine V_aload_n dX2_lying_66 0 rfl ?_
      refine V_iload_n dX2_lying_67 1 rfl ?_
      refine V_iconst (v := 1) dX2_lying_68 (by decide) ?_
      refine V_cV (k_X2_nearerBy l G hw g hk x1 1 ) hy_X2_nearerBy hi_X2_nearerBy hs_X2_nearerBy q_408 rfl rfl hk rfl rfl rfl rfl rfl ⟨by decide, by decide⟩ (Nat.le_of_ble_eq_true rfl) ⟨by decide, by decide⟩ dX2_lying_69 (V_kI ?_)
      refine V_cS (k_X2_otherOne l G hw g  (F_X2_nearerBy g k x1 1) ) hy_X2_otherOne hz_X2_otherOne q_415 rfl rfl rfl rfl ⟨by decide, by decide⟩ (Nat.le_of_ble_eq_true rfl) ⟨by decide, by decide⟩ dX2_lying_72 (V_kI ?_)
      exact V_iret dX2_lying_75 rfl (lfI (by simp only [F_X2_lying, if_neg c_5, if_neg s_16_0, if_neg s_16_1, if_pos s_16_2]))
    by_cases s_16_3 : (g 2 k (9 + x1.toNatClampNeg)) = 4
    · refine V_tabI (v := 4) (off := 60) (tgt := 76) dX2_lying_16 s_16_3 (by decide) (by decide) rfl (by decide) ?_
      refine V_aload_n dX2_lying_76 0 rfl ?_
      refine V_get (i := 9) inlX2 rfl hk rfl (by decide) q_66 rfl dX2_lying_77 ?_
      refine V_iload_n dX2_lying_80 1 rfl ?_
      refine L_2_4 hk (by first | exact ix_has c_5) dX2_lying_81 ?_
      refine V_cS (k_X2_byWarmth l G hw g  (g 2 k (27 + x1.toNatClampNeg)) ) hy_X2_byWarmth hz_X2_byWarmth q_418 rfl rfl rfl rfl ⟨by decide, by decide⟩ (Nat.le_of_ble_eq_true rfl) ⟨by decide, by decide⟩ dX2_lying_82 (V_kI ?_)
      exact V_iret dX2_lying_85 rfl (lfI (by simp only [F_X2_lying, if_neg c_5, if_neg s_16_0, if_neg s_16_1, if_neg s_16_2, if_pos s_16_3]))
    by_cases s_16_4 : (g 2 k (9 + x1.toNatClampNeg)) = 5
    · refine V_tabI (v := 5) (off := 70) (tgt := 86) dX2_lying_16 s_16_4 (by decide) (by decide) rfl (by decide) ?_
      refine V_aload_n dX2_lying_86 0 rfl ?_
      refine V_get (i := 8) inlX2 rfl hk rfl (by decide) q_65 rfl dX2_lying_87 ?_
      refine V_iload_n dX2_lying_90 1 rfl ?_
      refine L_2_3 hk (by first | exact ix_has c_5) dX2_lying_91 ?_
      refine V_bipush (v := 10) dX2_lying_92 (by decide) ?_
      refine V_ic_ge (tgt := 101) dX2_lying_94 (by decide) (fun c_94 => ?_) (fun c_94 => ?_)
      · refine V_aload_n dX2_lying_101 0 rfl ?_
        refine V_get (i := 9) inlX2 rfl hk rfl (by decide) q_66 rfl dX2_lying_102 ?_
        refine V_iload_n dX2_lying_105 1 rfl ?_
        refine L_2_4 hk (by first | exact ix_has c_5) dX2_lying_106 ?_
        refine V_cS (k_X2_byWarmth l G hw g  (g 2 k (27 + x1.toNatClampNeg)) ) hy_X2_byWarmth hz_X2_byWarmth q_418 rfl rfl rfl rfl ⟨by decide, by decide⟩ (Nat.le_of_ble_eq_true rfl) ⟨by decide, by decide⟩ dX2_lying_107 (V_kI ?_)
        exact V_iret dX2_lying_110 rfl (lfI (by simp only [F_X2_lying, if_neg c_5, if_neg s_16_0, if_neg s_16_1, if_neg s_16_2, if_neg s_16_3, if_pos s_16_4, if_pos c_94]))
      · refine V_iconst (v := 2) dX2_lying_97 (by decide) ?_
        refine V_goto (tgt := 110) dX2_lying_98 (by decide) ?_
        exact V_iret dX2_lying_110 rfl (lfI (by simp only [F_X2_lying, if_neg c_5, if_neg s_16_0, if_neg s_16_1, if_neg s_16_2, if_neg s_16_3, if_pos s_16_4, if_neg c_94]))
    refine V_tabO (tgt := 111) dX2_lying_16 (by have e0 := mm_ne s_16_0 (n := 1) (by decide); have e1 := mm_ne s_16_1 (n := 2) (by decide); have e2 := mm_ne s_16_2 (n := 3) (by decide); have e3 := mm_ne s_16_3 (n := 4) (by decide); have e4 := mm_ne s_16_4 (n := 5) (by decide); omega) (by decide) ?_
    refine V_iconst (v := 2) dX2_lying_111 (by decide) ?_
    exact V_iret dX2_lying_112 rfl (lfI (by simp only [F_X2_lying, if_neg c_5, if_neg s_16_0, if_neg s_16_1, if_neg s_16_2, if_neg s_16_3, if_neg s_16_4]))
  · refine V_iconst (v := 2) dX2_lying_8 (by decide) ?_
    exact V_iret dX2_lying_9 rfl (lfI (by simp only [F_X2_lying, if_pos c_5]))
def F_X2_tellOf (g : mm_g) (k : Nat) (x1 : Int32) (x2 : Int32) : Int32 := (if x2 = 0 then (F_X2_stockOf g k x1) else (if x2 = 1 then (F_X2_warmOf g k x1) else (F_X2_lying g k x1)))
set_option maxRecDepth 100000 in
set_option maxHeartbeats 4000000 in
theorem k_X2_tellOf (l : Launch) (G : mm_G) {pr : Nat → Nat → Prop} {ad : Nat → Nat → Nat → Nat} (hw : mm_W pr) (g : mm_g) {k : Nat} (hk : pr 2 k) (x1 : Int32) (x2 : Int32)  : Mt l G yX2_tellOf cX2_tellOf 3 (some .int) (rmk 3 104) [.ref (ad 2 k 0), .int x1, .int x2] pr ad g (qI pr ad g (F_X2_tellOf g k x1 x2)) 0 0 := by
  refine Mt_of (by decide) (Nat.le_of_ble_eq_true rfl) ?_
  show V l G RX2 cX2_tellOf 3 (some .int) _ _ 0 0 0 0 0 [(0, .ref (ad 2 k 0)), (1, .int x1), (2, .int x2)] [] pr ad g
  refine V_iload_n dX2_tellOf_0 2 rfl ?_
  refine V_if_ne (tgt := 10) dX2_tellOf_1 (by decide) (fun c_1 => ?_) (fun c_1 => ?_)
  · refine V_iload_n dX2_tellOf_10 2 rfl ?_
    refine V_iconst (v := 1) dX2_tellOf_11 (by decide) ?_
    refine V_ic_ne (tgt := 23) dX2_tellOf_12 (by decide) (fun c_12 => ?_) (fun c_12 => ?_)
    · refine V_aload_n dX2_tellOf_23 0 rfl ?_
      refine V_iload_n dX2_tellOf_24 1 rfl ?_
      refine V_cV (k_X2_lying l G hw g hk x1 ) hy_X2_lying hi_X2_lying hs_X2_lying q_404 rfl rfl hk rfl rfl rfl rfl rfl ⟨by decide, by decide⟩ (Nat.le_of_ble_eq_true rfl) ⟨by decide, by decide⟩ dX2_tellOf_25 (V_kI ?_)
      exact V_iret dX2_tellOf_28 rfl (lfI (by simp only [F_X2_tellOf, if_neg c_1, if_neg c_12]))
    · refine V_aload_n dX2_tellOf_15 0 rfl ?_
      refine V_iload_n dX2_tellOf_16 1 rfl ?_
      refine V_cV (k_X2_warmOf l G hw g hk x1 ) hy_X2_warmOf hi_X2_warmOf hs_X2_warmOf q_551 rfl rfl hk rfl rfl rfl rfl rfl ⟨by decide, by decide⟩ (Nat.le_of_ble_eq_true rfl) ⟨by decide, by decide⟩ dX2_tellOf_17 (V_kI ?_)
      refine V_goto (tgt := 28) dX2_tellOf_20 (by decide) ?_
      exact V_iret dX2_tellOf_28 rfl (lfI (by simp only [F_X2_tellOf, if_neg c_1, if_pos c_12]))
  · refine V_aload_n dX2_tellOf_4 0 rfl ?_
    refine V_iload_n dX2_tellOf_5 1 rfl ?_
    refine V_cV (k_X2_stockOf l G hw g hk x1 ) hy_X2_stockOf hi_X2_stockOf hs_X2_stockOf q_425 rfl rfl hk rfl rfl rfl rfl rfl ⟨by decide, by decide⟩ (Nat.le_of_ble_eq_true rfl) ⟨by decide, by decide⟩ dX2_tellOf_6 (V_kI ?_)
    exact V_iret dX2_tellOf_9 rfl (lfI (by simp only [F_X2_tellOf, if_pos c_1]))
def F_X2_countedFor (g : mm_g) (k : Nat) (x1 : Int32) : Int32 := (if (F_X6_within x1 0 2) = 0 then 0 else (g 2 k (6 + x1.toNatClampNeg)))
set_option maxRecDepth 100000 in
set_option maxHeartbeats 4000000 in
theorem k_X2_countedFor (l : Launch) (G : mm_G) {pr : Nat → Nat → Prop} {ad : Nat → Nat → Nat → Nat} (hw : mm_W pr) (g : mm_g) {k : Nat} (hk : pr 2 k) (x1 : Int32)  : Mt l G yX2_countedFor cX2_countedFor 2 (some .int) (rmk 2 82) [.ref (ad 2 k 0), .int x1] pr ad g (qI pr ad g (F_X2_countedFor g k x1)) 0 0 := by
  refine Mt_of (by decide) (Nat.le_of_ble_eq_true rfl) ?_
  show V l G RX2 cX2_countedFor 2 (some .int) _ _ 0 0 0 0 0 [(0, .ref (ad 2 k 0)), (1, .int x1)] [] pr ad g
  refine V_iload_n dX2_countedFor_0 1 rfl ?_
  refine V_iconst (v := 0) dX2_countedFor_1 (by decide) ?_
  refine V_iconst (v := 2) dX2_countedFor_2 (by decide) ?_
  refine V_cSN (k_X6_within l G hw g  x1 0 2 ) hy_X6_within hz_X6_within nm_X2_63 rfl rfl rfl rfl ⟨by decide, by decide⟩ (Nat.le_of_ble_eq_true rfl) ⟨by decide, by decide⟩ dX2_countedFor_3 (V_kI ?_)
  refine V_if_eq (tgt := 18) dX2_countedFor_6 (by decide) (fun c_6 => ?_) (fun c_6 => ?_)
  · refine V_iconst (v := 0) dX2_countedFor_18 (by decide) ?_
    exact V_iret dX2_countedFor_19 rfl (lfI (by simp only [F_X2_countedFor, if_pos c_6]))
  · refine V_aload_n dX2_countedFor_9 0 rfl ?_
    refine V_get (i := 6) inlX2 rfl hk rfl (by decide) q_63 rfl dX2_countedFor_10 ?_
    refine V_iload_n dX2_countedFor_13 1 rfl ?_
    refine L_2_1 hk (by first | exact ix_w2 c_6) dX2_countedFor_14 ?_
    refine V_goto (tgt := 19) dX2_countedFor_15 (by decide) ?_
    exact V_iret dX2_countedFor_19 rfl (lfI (by simp only [F_X2_countedFor, if_neg c_6]))
def F_X2_allCounted (g : mm_g) (k : Nat) : Int32 := (((g 2 k (6 + (0 : Int32).toNatClampNeg)) + (g 2 k (6 + (1 : Int32).toNatClampNeg))) + (g 2 k (6 + (2 : Int32).toNatClampNeg)))
set_option maxRecDepth 100000 in
set_option maxHeartbeats 4000000 in
theorem k_X2_allCounted (l : Launch) (G : mm_G) {pr : Nat → Nat → Prop} {ad : Nat → Nat → Nat → Nat} (hw : mm_W pr) (g : mm_g) {k : Nat} (hk : pr 2 k)  : Mt l G yX2_allCounted cX2_allCounted 1 (some .int) (rmk 1 60) [.ref (ad 2 k 0)] pr ad g (qI pr ad g (F_X2_allCounted g k)) 0 0 := by
  refine Mt_of (by decide) (Nat.le_of_ble_eq_true rfl) ?_
  show V l G RX2 cX2_allCounted 1 (some .int) _ _ 0 0 0 0 0 [(0, .ref (ad 2 k 0))] [] pr ad g
  refine V_aload_n dX2_allCounted_0 0 rfl ?_
  refine V_get (i := 6) inlX2 rfl hk rfl (by decide) q_63 rfl dX2_allCounted_1 ?_
  refine V_iconst (v := 0) dX2_allCounted_4 (by decide) ?_
  refine L_2_1 hk (by unfold vp_in; decide) dX2_allCounted_5 ?_
  refine V_aload_n dX2_allCounted_6 0 rfl ?_
  refine V_get (i := 6) inlX2 rfl hk rfl (by decide) q_63 rfl dX2_allCounted_7 ?_
  refine V_iconst (v := 1) dX2_allCounted_10 (by decide) ?_
  refine L_2_1 hk (by unfold vp_in; decide) dX2_allCounted_11 ?_
  refine V_iadd dX2_allCounted_12 ?_
  refine V_aload_n dX2_allCounted_13 0 rfl ?_
  refine V_get (i := 6) inlX2 rfl hk rfl (by decide) q_63 rfl dX2_allCounted_14 ?_
  refine V_iconst (v := 2) dX2_allCounted_17 (by decide) ?_
  refine L_2_1 hk (by unfold vp_in; decide) dX2_allCounted_18 ?_
  refine V_iadd dX2_allCounted_19 ?_
  exact V_iret dX2_allCounted_20 rfl (lfI (by simp only [F_X2_allCounted]))
def F_X2_sieved (x1 : Int32) : Int32 := ((x1 * 3) / 4)
set_option maxRecDepth 100000 in
set_option maxHeartbeats 4000000 in
theorem k_X2_sieved (l : Launch) (G : mm_G) {pr : Nat → Nat → Prop} {ad : Nat → Nat → Nat → Nat} (hw : mm_W pr) (g : mm_g) (x1 : Int32)  : Mt l G yX2_sieved cX2_sieved 1 (some .int) (rmk 1 60) [.int x1] pr ad g (qI pr ad g (F_X2_sieved x1)) 0 0 := by
  refine Mt_of (by decide) (Nat.le_of_ble_eq_true rfl) ?_
  show V l G RX2 cX2_sieved 1 (some .int) _ _ 0 0 0 0 0 [(0, .int x1)] [] pr ad g
  refine V_iload_n dX2_sieved_0 0 rfl ?_
  refine V_iconst (v := 3) dX2_sieved_1 (by decide) ?_
  refine V_imul dX2_sieved_2 ?_
  refine V_iconst (v := 4) dX2_sieved_3 (by decide) ?_
  refine V_idiv dX2_sieved_4 (by decide) ?_
  exact V_iret dX2_sieved_5 rfl (lfI (by simp only [F_X2_sieved]))
def F_X2_gainBy (g : mm_g) (k : Nat) (x1 : Int32) (x2 : Int32) : Int32 := (if (F_X2_lying g k x1) = 2 then 0 else (if (F_X2_lying g k x1) = x2 then (F_X2_sieved (F_X2_stockOf g k x1)) else (-(F_X2_sieved (F_X2_stockOf g k x1)))))
set_option maxRecDepth 100000 in
set_option maxHeartbeats 4000000 in
theorem k_X2_gainBy (l : Launch) (G : mm_G) {pr : Nat → Nat → Prop} {ad : Nat → Nat → Nat → Nat} (hw : mm_W pr) (g : mm_g) {k : Nat} (hk : pr 2 k) (x1 : Int32) (x2 : Int32)  : Mt l G yX2_gainBy cX2_gainBy 5 (some .int) (rmk 3 104) [.ref (ad 2 k 0), .int x1, .int x2] pr ad g (qI pr ad g (F_X2_gainBy g k x1 x2)) 0 0 := by
  refine Mt_of (by decide) (Nat.le_of_ble_eq_true rfl) ?_
  show V l G RX2 cX2_gainBy 5 (some .int) _ _ 0 0 0 0 0 [(0, .ref (ad 2 k 0)), (1, .int x1), (2, .int x2)] [] pr ad g
  refine V_aload_n dX2_gainBy_0 0 rfl ?_
  refine V_iload_n dX2_gainBy_1 1 rfl ?_
  refine V_cV (k_X2_lying l G hw g hk x1 ) hy_X2_lying hi_X2_lying hs_X2_lying q_404 rfl rfl hk rfl rfl rfl rfl rfl ⟨by decide, by decide⟩ (Nat.le_of_ble_eq_true rfl) ⟨by decide, by decide⟩ dX2_gainBy_2 (V_kI ?_)
  refine V_istore_n (L2 := [(3, .int (F_X2_lying g k x1)), (0, .ref (ad 2 k 0)), (1, .int x1), (2, .int x2)]) dX2_gainBy_5 (by decide) rfl ?_
  refine V_iload_n dX2_gainBy_6 0 rfl ?_
  refine V_iconst (v := 2) dX2_gainBy_7 (by decide) ?_
  refine V_ic_ne (tgt := 13) dX2_gainBy_8 (by decide) (fun c_8 => ?_) (fun c_8 => ?_)
  · refine V_aload_n dX2_gainBy_13 1 rfl ?_
    refine V_iload_n dX2_gainBy_14 2 rfl ?_
    refine V_cV (k_X2_stockOf l G hw g hk x1 ) hy_X2_stockOf hi_X2_stockOf hs_X2_stockOf q_425 rfl rfl hk rfl rfl rfl rfl rfl ⟨by decide, by decide⟩ (Nat.le_of_ble_eq_true rfl) ⟨by decide, by decide⟩ dX2_gainBy_15 (V_kI ?_)
    refine V_cS (k_X2_sieved l G hw g  (F_X2_stockOf g k x1) ) hy_X2_sieved hz_X2_sieved q_472 rfl rfl rfl rfl ⟨by decide, by decide⟩ (Nat.le_of_ble_eq_true rfl) ⟨by decide, by decide⟩ dX2_gainBy_18 (V_kI ?_)
    refine V_istore (L2 := [(4, .int (F_X2_sieved (F_X2_stockOf g k x1))), (3, .int (F_X2_lying g k x1)), (0, .ref (ad 2 k 0)), (1, .int x1), (2, .int x2)]) dX2_gainBy_21 (by decide) rfl ?_
    refine V_iload_n dX2_gainBy_23 1 rfl ?_
    refine V_iload_n dX2_gainBy_24 4 rfl ?_
    refine V_ic_ne (tgt := 33) dX2_gainBy_25 (by decide) (fun c_25 => ?_) (fun c_25 => ?_)
    · refine V_iload dX2_gainBy_33 0 rfl ?_
      refine V_ineg dX2_gainBy_35 ?_
      exact V_iret dX2_gainBy_36 rfl (lfI (by simp only [F_X2_gainBy, if_neg c_8, if_neg c_25]))
    · refine V_iload dX2_gainBy_28 0 rfl ?_
      refine V_goto (tgt := 36) dX2_gainBy_30 (by decide) ?_
      exact V_iret dX2_gainBy_36 rfl (lfI (by simp only [F_X2_gainBy, if_neg c_8, if_pos c_25]))
  · refine V_iconst (v := 0) dX2_gainBy_11 (by decide) ?_
    exact V_iret dX2_gainBy_12 rfl (lfI (by simp only [F_X2_gainBy, if_pos c_8]))
def F_X2_countedLead (g : mm_g) (k : Nat) (x1 : Int32) : Int32 := (if x1 = 0 then ((g 2 k (6 + (0 : Int32).toNatClampNeg)) - (g 2 k (6 + (1 : Int32).toNatClampNeg))) else (-((g 2 k (6 + (0 : Int32).toNatClampNeg)) - (g 2 k (6 + (1 : Int32).toNatClampNeg)))))
set_option maxRecDepth 100000 in
set_option maxHeartbeats 4000000 in
theorem k_X2_countedLead (l : Launch) (G : mm_G) {pr : Nat → Nat → Prop} {ad : Nat → Nat → Nat → Nat} (hw : mm_W pr) (g : mm_g) {k : Nat} (hk : pr 2 k) (x1 : Int32)  : Mt l G yX2_countedLead cX2_countedLead 3 (some .int) (rmk 1 60) [.ref (ad 2 k 0), .int x1] pr ad g (qI pr ad g (F_X2_countedLead g k x1)) 0 0 := by
  refine Mt_of (by decide) (Nat.le_of_ble_eq_true rfl) ?_
  show V l G RX2 cX2_countedLead 3 (some .int) _ _ 0 0 0 0 0 [(0, .ref (ad 2 k 0)), (1, .int x1)] [] pr ad g
  refine V_aload_n dX2_countedLead_0 0 rfl ?_
  refine V_get (i := 6) inlX2 rfl hk rfl (by decide) q_63 rfl dX2_countedLead_1 ?_
  refine V_iconst (v := 0) dX2_countedLead_4 (by decide) ?_
  refine L_2_1 hk (by unfold vp_in; decide) dX2_countedLead_5 ?_
  refine V_aload_n dX2_countedLead_6 0 rfl ?_
  refine V_get (i := 6) inlX2 rfl hk rfl (by decide) q_63 rfl dX2_countedLead_7 ?_
  refine V_iconst (v := 1) dX2_countedLead_10 (by decide) ?_
  refine L_2_1 hk (by unfold vp_in; decide) dX2_countedLead_11 ?_
  refine V_isub dX2_countedLead_12 ?_
  refine V_istore_n (L2 := [(2, .int ((g 2 k (6 + (0 : Int32).toNatClampNeg)) - (g 2 k (6 + (1 : Int32).toNatClampNeg)))), (0, .ref (ad 2 k 0)), (1, .int x1)]) dX2_countedLead_13 (by decide) rfl ?_
  refine V_iload_n dX2_countedLead_14 2 rfl ?_
  refine V_if_ne (tgt := 22) dX2_countedLead_15 (by decide) (fun c_15 => ?_) (fun c_15 => ?_)
  · refine V_iload_n dX2_countedLead_22 0 rfl ?_
    refine V_ineg dX2_countedLead_23 ?_
    exact V_iret dX2_countedLead_24 rfl (lfI (by simp only [F_X2_countedLead, if_neg c_15]))
  · refine V_iload_n dX2_countedLead_18 0 rfl ?_
    refine V_goto (tgt := 24) dX2_countedLead_19 (by decide) ?_
    exact V_iret dX2_countedLead_24 rfl (lfI (by simp only [F_X2_countedLead, if_pos c_15]))
def F_X2_leader (x1 : Int32) : Int32 := (if x1 = 0 then 2 else (if x1 ≤ 0 then 1 else 0))
set_option maxRecDepth 100000 in
set_option maxHeartbeats 4000000 in
theorem k_X2_leader (l : Launch) (G : mm_G) {pr : Nat → Nat → Prop} {ad : Nat → Nat → Nat → Nat} (hw : mm_W pr) (g : mm_g) (x1 : Int32)  : Mt l G yX2_leader cX2_leader 1 (some .int) (rmk 1 60) [.int x1] pr ad g (qI pr ad g (F_X2_leader x1)) 0 0 := by
  refine Mt_of (by decide) (Nat.le_of_ble_eq_true rfl) ?_
  show V l G RX2 cX2_leader 1 (some .int) _ _ 0 0 0 0 0 [(0, .int x1)] [] pr ad g
  refine V_iload_n dX2_leader_0 0 rfl ?_
  refine V_if_ne (tgt := 6) dX2_leader_1 (by decide) (fun c_1 => ?_) (fun c_1 => ?_)
  · refine V_iload_n dX2_leader_6 0 rfl ?_
    refine V_if_le (tgt := 14) dX2_leader_7 (by decide) (fun c_7 => ?_) (fun c_7 => ?_)
    · refine V_iconst (v := 1) dX2_leader_14 (by decide) ?_
      exact V_iret dX2_leader_15 rfl (lfI (by simp only [F_X2_leader, if_neg c_1, if_pos c_7]))
    · refine V_iconst (v := 0) dX2_leader_10 (by decide) ?_
      refine V_goto (tgt := 15) dX2_leader_11 (by decide) ?_
      exact V_iret dX2_leader_15 rfl (lfI (by simp only [F_X2_leader, if_neg c_1, if_neg c_7]))
  · refine V_iconst (v := 2) dX2_leader_4 (by decide) ?_
    exact V_iret dX2_leader_5 rfl (lfI (by simp only [F_X2_leader, if_pos c_1]))
def F_X2_lotTo (g : mm_g) (k : Nat) (x1 : Int32) : mm_g := (wr g 2 k 3 x1)
set_option maxRecDepth 100000 in
set_option maxHeartbeats 4000000 in
theorem k_X2_lotTo (l : Launch) (G : mm_G) {pr : Nat → Nat → Prop} {ad : Nat → Nat → Nat → Nat} (hw : mm_W pr) (g : mm_g) {k : Nat} (hk : pr 2 k) (x1 : Int32)  : Mt l G yX2_lotTo cX2_lotTo 2 none (rmk 1 60) [.ref (ad 2 k 0), .int x1] pr ad g (qN pr ad (F_X2_lotTo g k x1)) 0 0 := by
  refine Mt_of (by decide) (Nat.le_of_ble_eq_true rfl) ?_
  show V l G RX2 cX2_lotTo 2 none _ _ 0 0 0 0 0 [(0, .ref (ad 2 k 0)), (1, .int x1)] [] pr ad g
  refine V_aload_n dX2_lotTo_0 0 rfl ?_
  refine V_iload_n dX2_lotTo_1 1 rfl ?_
  refine P_2_2 hk q_59 dX2_lotTo_2 ?_
  exact V_vret dX2_lotTo_5 rfl (lfN (by simp only [F_X2_lotTo]))
def F_X2_kindTo (g : mm_g) (k : Nat) (x1 : Int32) (x2 : Int32) : mm_g := (if (F_X2_has g k x1) = 0 then g else (wr g 2 k (9 + x1.toNatClampNeg) x2))
set_option maxRecDepth 100000 in
set_option maxHeartbeats 4000000 in
theorem k_X2_kindTo (l : Launch) (G : mm_G) {pr : Nat → Nat → Prop} {ad : Nat → Nat → Nat → Nat} (hw : mm_W pr) (g : mm_g) {k : Nat} (hk : pr 2 k) (x1 : Int32) (x2 : Int32)  : Mt l G yX2_kindTo cX2_kindTo 3 none (rmk 2 81) [.ref (ad 2 k 0), .int x1, .int x2] pr ad g (qN pr ad (F_X2_kindTo g k x1 x2)) 0 0 := by
  refine Mt_of (by decide) (Nat.le_of_ble_eq_true rfl) ?_
  show V l G RX2 cX2_kindTo 3 none _ _ 0 0 0 0 0 [(0, .ref (ad 2 k 0)), (1, .int x1), (2, .int x2)] [] pr ad g
  refine V_aload_n dX2_kindTo_0 0 rfl ?_
  refine V_iload_n dX2_kindTo_1 1 rfl ?_
  refine V_cV (k_X2_has l G hw g hk x1 ) hy_X2_has hi_X2_has hs_X2_has q_400 rfl rfl hk rfl rfl rfl rfl rfl ⟨by decide, by decide⟩ (Nat.le_of_ble_eq_true rfl) ⟨by decide, by decide⟩ dX2_kindTo_2 (V_kI ?_)
  refine V_if_eq (tgt := 15) dX2_kindTo_5 (by decide) (fun c_5 => ?_) (fun c_5 => ?_)
  · exact V_vret dX2_kindTo_15 rfl (lfN (by simp only [F_X2_kindTo, if_pos c_5]))
  · refine V_aload_n dX2_kindTo_8 0 rfl ?_
    refine V_get (i := 7) inlX2 rfl hk rfl (by decide) q_64 rfl dX2_kindTo_9 ?_
    refine V_iload_n dX2_kindTo_12 1 rfl ?_
    refine V_iload_n dX2_kindTo_13 2 rfl ?_
    refine S_2_2 hk (by first | exact ix_has c_5) dX2_kindTo_14 ?_
    exact V_vret dX2_kindTo_15 rfl (lfN (by simp only [F_X2_kindTo, if_neg c_5]))
def F_X2_warmTo (g : mm_g) (k : Nat) (x1 : Int32) (x2 : Int32) : mm_g := (if (F_X2_has g k x1) = 0 then g else (wr g 2 k (27 + x1.toNatClampNeg) x2))
set_option maxRecDepth 100000 in
set_option maxHeartbeats 4000000 in
theorem k_X2_warmTo (l : Launch) (G : mm_G) {pr : Nat → Nat → Prop} {ad : Nat → Nat → Nat → Nat} (hw : mm_W pr) (g : mm_g) {k : Nat} (hk : pr 2 k) (x1 : Int32) (x2 : Int32)  : Mt l G yX2_warmTo cX2_warmTo 3 none (rmk 2 81) [.ref (ad 2 k 0), .int x1, .int x2] pr ad g (qN pr ad (F_X2_warmTo g k x1 x2)) 0 0 := by
  refine Mt_of (by decide) (Nat.le_of_ble_eq_true rfl) ?_
  show V l G RX2 cX2_warmTo 3 none _ _ 0 0 0 0 0 [(0, .ref (ad 2 k 0)), (1, .int x1), (2, .int x2)] [] pr ad g
  refine V_aload_n dX2_warmTo_0 0 rfl ?_
  refine V_iload_n dX2_warmTo_1 1 rfl ?_
  refine V_cV (k_X2_has l G hw g hk x1 ) hy_X2_has hi_X2_has hs_X2_has q_400 rfl rfl hk rfl rfl rfl rfl rfl ⟨by decide, by decide⟩ (Nat.le_of_ble_eq_true rfl) ⟨by decide, by decide⟩ dX2_warmTo_2 (V_kI ?_)
  refine V_if_eq (tgt := 15) dX2_warmTo_5 (by decide) (fun c_5 => ?_) (fun c_5 => ?_)
  · exact V_vret dX2_warmTo_15 rfl (lfN (by simp only [F_X2_warmTo, if_pos c_5]))
  · refine V_aload_n dX2_warmTo_8 0 rfl ?_
    refine V_get (i := 9) inlX2 rfl hk rfl (by decide) q_66 rfl dX2_warmTo_9 ?_
    refine V_iload_n dX2_warmTo_12 1 rfl ?_
    refine V_iload_n dX2_warmTo_13 2 rfl ?_
    refine S_2_4 hk (by first | exact ix_has c_5) dX2_warmTo_14 ?_
    exact V_vret dX2_warmTo_15 rfl (lfN (by simp only [F_X2_warmTo, if_neg c_5]))
def F_X2_turnVeto (g : mm_g) (k : Nat) (x1 : Int32) : mm_g := (if (F_X2_has g k x1) = 0 then g else (wr g 2 k 5 ((g 2 k 5) ^^^ ((1 : Int32) <<< (x1 &&& 31)))))
set_option maxRecDepth 100000 in
set_option maxHeartbeats 4000000 in
theorem k_X2_turnVeto (l : Launch) (G : mm_G) {pr : Nat → Nat → Prop} {ad : Nat → Nat → Nat → Nat} (hw : mm_W pr) (g : mm_g) {k : Nat} (hk : pr 2 k) (x1 : Int32)  : Mt l G yX2_turnVeto cX2_turnVeto 2 none (rmk 2 81) [.ref (ad 2 k 0), .int x1] pr ad g (qN pr ad (F_X2_turnVeto g k x1)) 0 0 := by
  refine Mt_of (by decide) (Nat.le_of_ble_eq_true rfl) ?_
  show V l G RX2 cX2_turnVeto 2 none _ _ 0 0 0 0 0 [(0, .ref (ad 2 k 0)), (1, .int x1)] [] pr ad g
  refine V_aload_n dX2_turnVeto_0 0 rfl ?_
  refine V_iload_n dX2_turnVeto_1 1 rfl ?_
  refine V_cV (k_X2_has l G hw g hk x1 ) hy_X2_has hi_X2_has hs_X2_has q_400 rfl rfl hk rfl rfl rfl rfl rfl ⟨by decide, by decide⟩ (Nat.le_of_ble_eq_true rfl) ⟨by decide, by decide⟩ dX2_turnVeto_2 (V_kI ?_)
  refine V_if_eq (tgt := 20) dX2_turnVeto_5 (by decide) (fun c_5 => ?_) (fun c_5 => ?_)
  · exact V_vret dX2_turnVeto_20 rfl (lfN (by simp only [F_X2_turnVeto, if_pos c_5]))
  · refine V_aload_n dX2_turnVeto_8 0 rfl ?_
    refine V_dup dX2_turnVeto_9 rfl ?_
    refine V_get (i := 3) inlX2 rfl hk rfl (by decide) q_60 rfl dX2_turnVeto_10 ?_
    refine V_iconst (v := 1) dX2_turnVeto_13 (by decide) ?_
    refine V_iload_n dX2_turnVeto_14 1 rfl ?_
    refine V_ishl dX2_turnVeto_15 ?_
    refine V_ixor dX2_turnVeto_16 ?_
    refine P_2_3 hk q_60 dX2_turnVeto_17 ?_
    exact V_vret dX2_turnVeto_20 rfl (lfN (by simp only [F_X2_turnVeto, if_neg c_5]))
def F_X2_standIn (g : mm_g) (k : Nat) (x1 : Int32) (x2 : Int32) : mm_g := (if x1 = 0 then (wr g 2 k 1 x2) else (wr g 2 k 2 x2))
set_option maxRecDepth 100000 in
set_option maxHeartbeats 4000000 in
theorem k_X2_standIn (l : Launch) (G : mm_G) {pr : Nat → Nat → Prop} {ad : Nat → Nat → Nat → Nat} (hw : mm_W pr) (g : mm_g) {k : Nat} (hk : pr 2 k) (x1 : Int32) (x2 : Int32)  : Mt l G yX2_standIn cX2_standIn 3 none (rmk 1 60) [.ref (ad 2 k 0), .int x1, .int x2] pr ad g (qN pr ad (F_X2_standIn g k x1 x2)) 0 0 := by
  refine Mt_of (by decide) (Nat.le_of_ble_eq_true rfl) ?_
  show V l G RX2 cX2_standIn 3 none _ _ 0 0 0 0 0 [(0, .ref (ad 2 k 0)), (1, .int x1), (2, .int x2)] [] pr ad g
  refine V_iload_n dX2_standIn_0 1 rfl ?_
  refine V_if_ne (tgt := 12) dX2_standIn_1 (by decide) (fun c_1 => ?_) (fun c_1 => ?_)
  · refine V_aload_n dX2_standIn_12 0 rfl ?_
    refine V_iload_n dX2_standIn_13 2 rfl ?_
    refine P_2_5 hk q_62 dX2_standIn_14 ?_
    exact V_vret dX2_standIn_17 rfl (lfN (by simp only [F_X2_standIn, if_neg c_1]))
  · refine V_aload_n dX2_standIn_4 0 rfl ?_
    refine V_iload_n dX2_standIn_5 2 rfl ?_
    refine P_2_4 hk q_61 dX2_standIn_6 ?_
    refine V_goto (tgt := 17) dX2_standIn_9 (by decide) ?_
    exact V_vret dX2_standIn_17 rfl (lfN (by simp only [F_X2_standIn, if_pos c_1]))
