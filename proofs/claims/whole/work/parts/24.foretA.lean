theorem F_X2_standIn_0 (g : mm_g) (k : Nat) (a b : Int32) : (F_X2_standIn g k a b) 2 k 0 = g 2 k 0 := by
  unfold F_X2_standIn
  split <;> exact wr_o (by decide)
theorem F_X2_warmTo_0 (g : mm_g) (k : Nat) (a b : Int32) : (F_X2_warmTo g k a b) 2 k 0 = g 2 k 0 := by
  unfold F_X2_warmTo
  split
  · rfl
  · exact wr_o (by omega)
theorem F_X2_rakeUp_0 (g : mm_g) (k : Nat) (a b : Int32) : (F_X2_rakeUp g k a b).2 2 k 0 = g 2 k 0 := by
  unfold F_X2_rakeUp
  repeat' split
  all_goals first | rfl | (simp only [wr_at]; repeat' split) <;> first | rfl | omega
theorem F_X2_flow_a (k : Nat) (K : Nat → mm_g → mm_g) (hK : ∀ j s, (K j s) 2 k 0 = s 2 k 0) : ∀ (n j : Nat) (s : mm_g), (F_X2_flow_2 k K n j s) 2 k 0 = s 2 k 0
  | 0, j, s => hK j s
  | n + 1, j, s => by
    unfold F_X2_flow_2
    split
    · exact hK j s
    · rw [F_X2_flow_a k K hK n, F_X2_swell_0]
theorem F_X2_flow_0 (g : mm_g) (k : Nat) : (F_X2_flow g k) 2 k 0 = g 2 k 0 := by
  unfold F_X2_flow
  exact F_X2_flow_a k _ (fun j s => wr_o (by decide)) _ _ _
def F_X3_hear_3 (x1 : Int32) (x2 : Int32) (x3 : Int32) (K : Nat → mm_g → mm_g) : Nat → Nat → mm_g → mm_g
  | 0, j, s => K j s
  | n + 1, j, s => (if x3 ≤ (nI j) then K j s else (if 12 ≤ (nI j) then K j s else F_X3_hear_3 x1 x2 x3 K n (j + 1) (wr s 3 1 (nI j).toNatClampNeg (F_X4_itemOf s x1 (x2 + (nI j))))))
def F_X3_hear (g : mm_g) (x1 : Int32) (x2 : Int32) (x3 : Int32) : mm_g := (F_X3_hear_3 x1 x2 x3 (fun (j3 : Nat) (s3 : mm_g) => s3) ((12 : Int32).toInt.toNat + 1) 0 g)
set_option maxRecDepth 100000 in
set_option maxHeartbeats 4000000 in
theorem w_X3_hear_3 (l : Launch) (G : mm_G) {pr : Nat → Nat → Prop} {ad : Nat → Nat → Nat → Nat} (hw : mm_W pr) (x1 : Int32) (x2 : Int32) (x3 : Int32)  (K : Nat → mm_g → mm_g) (hK : ∀ (j : Nat) (s : mm_g) (hj : j ≤ (12 : Int32).toInt.toNat) (hR : okR s), V l G RX3 cX3_hear 6 none (rmk 5 148) (qN pr ad (K j s)) 0 0 0 0 39 [(0, .ref (ad 3 0 0)), (1, .ref (ad 4 0 0)), (2, .int x1), (3, .int x2), (4, .int x3), (5, .int (nI j))] [] pr ad s) : ∀ (n : Nat) (j : Nat) (s : mm_g) (hj : j ≤ (12 : Int32).toInt.toNat) (hR : okR s) (hm : (12 : Int32).toInt.toNat - j < n), V l G RX3 cX3_hear 6 none (rmk 5 148) (qN pr ad (F_X3_hear_3 x1 x2 x3 K n j s)) 0 0 0 0 3 [(0, .ref (ad 3 0 0)), (1, .ref (ad 4 0 0)), (2, .int x1), (3, .int x2), (4, .int x3), (5, .int (nI j))] [] pr ad s := by
  intro n
  induction n with
  | zero => intro j s hj hR hm; exact absurd hm (Nat.not_lt_zero _)
  | succ n ih =>
      intro j s hj hR hm
      refine V_iload dX3_hear_3 5 rfl ?_
      refine V_iload dX3_hear_5 4 rfl ?_
      refine V_ic_ge (tgt := 39) dX3_hear_7 (by decide) (fun c_7 => ?_) (fun c_7 => ?_)
      · refine V_rp (R2 := K j s) (by simp only [F_X3_hear_3, if_pos c_7]) ?_
        refine V_lp [0, 1, 2, 3, 4, 5] rfl ?_
        exact hK j s (by assumption) (by assumption)
      · refine V_iload dX3_hear_10 5 rfl ?_
        refine V_bipush (v := 12) dX3_hear_12 (by decide) ?_
        refine V_ic_ge (tgt := 39) dX3_hear_14 (by decide) (fun c_14 => ?_) (fun c_14 => ?_)
        · refine V_rp (R2 := K j s) (by simp only [F_X3_hear_3, if_neg c_7, if_pos c_14]) ?_
          refine V_lp [0, 1, 2, 3, 4, 5] rfl ?_
          exact hK j s (by assumption) (by assumption)
        · refine V_aload_n dX3_hear_17 0 rfl ?_
          refine V_get (i := 1) inlX3 rfl (W_3 hw) rfl (by decide) q_79 rfl dX3_hear_18 ?_
          refine V_iload dX3_hear_21 5 rfl ?_
          refine V_aload_n dX3_hear_23 1 rfl ?_
          refine V_iload_n dX3_hear_24 2 rfl ?_
          refine V_iload_n dX3_hear_25 3 rfl ?_
          refine V_iload dX3_hear_26 5 rfl ?_
          refine V_iadd dX3_hear_28 ?_
          refine V_cV (k_X4_itemOf l G hw s  x1 (x2 + (nI j)) hR) hy_X4_itemOf hi_X4_itemOf hs_X4_itemOf q_798 rfl rfl (W_4 hw) rfl rfl rfl rfl rfl ⟨by decide, by decide⟩ (Nat.le_of_ble_eq_true rfl) ⟨by decide, by decide⟩ dX3_hear_29 (V_kI ?_)
          refine S_3_1 (W_3 hw) (by exact ix_x hj c_14 (by decide)) dX3_hear_32 ?_
          refine V_iinc (v := (nI (j + 1))) (L2 := [(5, .int (nI (j + 1))), (0, .ref (ad 3 0 0)), (1, .ref (ad 4 0 0)), (2, .int x1), (3, .int x2), (4, .int x3)]) dX3_hear_33 5 rfl (nI_1 _) (by decide) rfl ?_
          refine V_goto (tgt := 3) dX3_hear_36 (by decide) ?_
          refine V_rp (R2 := F_X3_hear_3 x1 x2 x3 K n (j + 1) (wr s 3 1 (nI j).toNatClampNeg (F_X4_itemOf s x1 (x2 + (nI j))))) (by simp only [F_X3_hear_3, if_neg c_7, if_neg c_14]) ?_
          refine V_lp [1, 2, 3, 4, 5, 0] rfl ?_
          exact ih (j + 1) (wr s 3 1 (nI j).toNatClampNeg (F_X4_itemOf s x1 (x2 + (nI j)))) (by exact (lp_up hj c_14 hm).1) (by exact okR_31 hR) (by exact (lp_up hj c_14 hm).2) 
set_option maxRecDepth 100000 in
set_option maxHeartbeats 4000000 in
theorem k_X3_hear (l : Launch) (G : mm_G) {pr : Nat → Nat → Prop} {ad : Nat → Nat → Nat → Nat} (hw : mm_W pr) (g : mm_g) (x1 : Int32) (x2 : Int32) (x3 : Int32) (hR : okR g)  : Mt l G yX3_hear cX3_hear 6 none (rmk 5 148) [.ref (ad 3 0 0), .ref (ad 4 0 0), .int x1, .int x2, .int x3] pr ad g (qN pr ad (F_X3_hear g x1 x2 x3)) 0 0 := by
  refine Mt_of (by decide) (Nat.le_of_ble_eq_true rfl) ?_
  show V l G RX3 cX3_hear 6 none _ _ 0 0 0 0 0 [(0, .ref (ad 3 0 0)), (1, .ref (ad 4 0 0)), (2, .int x1), (3, .int x2), (4, .int x3)] [] pr ad g
  refine V_iconst (v := 0) dX3_hear_0 (by decide) ?_
  refine V_istore (L2 := [(5, .int 0), (0, .ref (ad 3 0 0)), (1, .ref (ad 4 0 0)), (2, .int x1), (3, .int x2), (4, .int x3)]) dX3_hear_1 (by decide) rfl ?_
  refine V_rp (R2 := F_X3_hear_3 x1 x2 x3 (fun (j3 : Nat) (s3 : mm_g) => s3) ((12 : Int32).toInt.toNat + 1) 0 g) (by simp only [F_X3_hear]) ?_
  refine V_lp [1, 2, 3, 4, 5, 0] rfl ?_
  refine w_X3_hear_3 l G hw x1 x2 x3   _ (fun j3 s3 hj3 hR3 => ?_) ((12 : Int32).toInt.toNat + 1) 0 g (by first | exact Nat.zero_le _ | decide) (by exact hR) (by omega)
  exact V_vret dX3_hear_39 rfl (lfN (by rfl))
def F_X3_scratch (g : mm_g) : mm_g := g
set_option maxRecDepth 100000 in
set_option maxHeartbeats 4000000 in
theorem k_X3_scratch (l : Launch) (G : mm_G) {pr : Nat → Nat → Prop} {ad : Nat → Nat → Nat → Nat} (hw : mm_W pr) (g : mm_g)  : Mt l G yX3_scratch cX3_scratch 1 (some (.object "CockleSquires$Flat")) (rmk 1 60) [.ref (ad 3 0 0)] pr ad g (qR pr ad (ad 2 1 0) (F_X3_scratch g)) 0 0 := by
  refine Mt_of (by decide) (Nat.le_of_ble_eq_true rfl) ?_
  show V l G RX3 cX3_scratch 1 (some (.object "CockleSquires$Flat")) _ _ 0 0 0 0 0 [(0, .ref (ad 3 0 0))] [] pr ad g
  refine V_aload_n dX3_scratch_0 0 rfl ?_
  refine V_get (i := 0) inlX3 rfl (W_3 hw) rfl (by decide) q_78 rfl dX3_scratch_1 ?_
  exact V_aret dX3_scratch_4 rfl (lfR (by simp only [F_X3_scratch]))
def F_X3_after_10 (k2 : Nat) (x1 : Int32) (K : Nat → mm_g → mm_g) : Nat → Nat → mm_g → mm_g
  | 0, j, s => K j s
  | n + 1, j, s => (if x1 ≤ (nI j) then K j s else F_X3_after_10 k2 x1 K n (j + 1) (F_X2_flow s 1))
def F_X3_after (g : mm_g) (k2 : Nat) (x1 : Int32) : mm_g := (F_X3_after_10 k2 x1 (fun (j10 : Nat) (s10 : mm_g) => s10) (x1.toInt.toNat + 1) 0 (F_X2_become g 1 k2))
set_option maxRecDepth 100000 in
set_option maxHeartbeats 4000000 in
theorem w_X3_after_10 (l : Launch) (G : mm_G) {pr : Nat → Nat → Prop} {ad : Nat → Nat → Nat → Nat} (hw : mm_W pr) (k2 : Nat) (x1 : Int32)  (hk2 : pr 2 k2) (K : Nat → mm_g → mm_g) (hK : ∀ (j : Nat) (s : mm_g) (hj : j ≤ x1.toInt.toNat), V l G RX3 cX3_after 4 (some (.object "CockleSquires$Flat")) (rmk 5 147) (qR pr ad (ad 2 1 0) (K j s)) 0 0 0 0 28 [(0, .ref (ad 3 0 0)), (1, .ref (ad 2 k2 0)), (2, .int x1), (3, .int (nI j))] [] pr ad s) : ∀ (n : Nat) (j : Nat) (s : mm_g) (hj : j ≤ x1.toInt.toNat) (hm : x1.toInt.toNat - j < n), V l G RX3 cX3_after 4 (some (.object "CockleSquires$Flat")) (rmk 5 147) (qR pr ad (ad 2 1 0) (F_X3_after_10 k2 x1 K n j s)) 0 0 0 0 10 [(0, .ref (ad 3 0 0)), (1, .ref (ad 2 k2 0)), (2, .int x1), (3, .int (nI j))] [] pr ad s := by
  intro n
  induction n with
  | zero => intro j s hj hm; exact absurd hm (Nat.not_lt_zero _)
  | succ n ih =>
      intro j s hj hm
      refine V_iload_n dX3_after_10 3 rfl ?_
      refine V_iload_n dX3_after_11 2 rfl ?_
      refine V_ic_ge (tgt := 28) dX3_after_12 (by decide) (fun c_12 => ?_) (fun c_12 => ?_)
      · refine V_rp (R2 := K j s) (by simp only [F_X3_after_10, if_pos c_12]) ?_
        refine V_lp [0, 1, 2, 3] rfl ?_
        exact hK j s (by assumption)
      · refine V_aload_n dX3_after_15 0 rfl ?_
        refine V_get (i := 0) inlX3 rfl (W_3 hw) rfl (by decide) q_78 rfl dX3_after_16 ?_
        refine V_cV (k_X2_flow l G hw s (W_21 hw)  ) hy_X2_flow hi_X2_flow hs_X2_flow q_583 rfl rfl (W_21 hw) rfl rfl rfl rfl rfl ⟨by decide, by decide⟩ (Nat.le_of_ble_eq_true rfl) ⟨by decide, by decide⟩ dX3_after_19 (V_kN ?_)
        refine V_iinc (v := (nI (j + 1))) (L2 := [(3, .int (nI (j + 1))), (0, .ref (ad 3 0 0)), (1, .ref (ad 2 k2 0)), (2, .int x1)]) dX3_after_22 3 rfl (nI_1 _) (by decide) rfl ?_
        refine V_goto (tgt := 10) dX3_after_25 (by decide) ?_
        refine V_rp (R2 := F_X3_after_10 k2 x1 K n (j + 1) (F_X2_flow s 1)) (by simp only [F_X3_after_10, if_neg c_12]) ?_
        refine V_lp [1, 2, 3, 0] rfl ?_
        exact ih (j + 1) (F_X2_flow s 1) (by exact (lp_up hj c_12 hm).1) (by exact (lp_up hj c_12 hm).2) 
set_option maxRecDepth 100000 in
set_option maxHeartbeats 4000000 in
theorem k_X3_after (l : Launch) (G : mm_G) {pr : Nat → Nat → Prop} {ad : Nat → Nat → Nat → Nat} (hw : mm_W pr) (g : mm_g) {k2 : Nat} (hk2 : pr 2 k2) (x1 : Int32)  : Mt l G yX3_after cX3_after 4 (some (.object "CockleSquires$Flat")) (rmk 5 147) [.ref (ad 3 0 0), .ref (ad 2 k2 0), .int x1] pr ad g (qR pr ad (ad 2 1 0) (F_X3_after g k2 x1)) 0 0 := by
  refine Mt_of (by decide) (Nat.le_of_ble_eq_true rfl) ?_
  show V l G RX3 cX3_after 4 (some (.object "CockleSquires$Flat")) _ _ 0 0 0 0 0 [(0, .ref (ad 3 0 0)), (1, .ref (ad 2 k2 0)), (2, .int x1)] [] pr ad g
  refine V_aload_n dX3_after_0 0 rfl ?_
  refine V_get (i := 0) inlX3 rfl (W_3 hw) rfl (by decide) q_78 rfl dX3_after_1 ?_
  refine V_aload_n dX3_after_4 1 rfl ?_
  refine V_cV (k_X2_become l G hw g (W_21 hw) hk2  ) hy_X2_become hi_X2_become hs_X2_become q_582 rfl rfl (W_21 hw) rfl rfl rfl rfl rfl ⟨by decide, by decide⟩ (Nat.le_of_ble_eq_true rfl) ⟨by decide, by decide⟩ dX3_after_5 (V_kN ?_)
  refine V_iconst (v := 0) dX3_after_8 (by decide) ?_
  refine V_istore_n (L2 := [(3, .int 0), (0, .ref (ad 3 0 0)), (1, .ref (ad 2 k2 0)), (2, .int x1)]) dX3_after_9 (by decide) rfl ?_
  refine V_rp (R2 := F_X3_after_10 k2 x1 (fun (j10 : Nat) (s10 : mm_g) => s10) (x1.toInt.toNat + 1) 0 (F_X2_become g 1 k2)) (by simp only [F_X3_after]) ?_
  refine V_lp [1, 2, 3, 0] rfl ?_
  refine w_X3_after_10 l G hw k2 x1 hk2  _ (fun j10 s10 hj10 => ?_) (x1.toInt.toNat + 1) 0 (F_X2_become g 1 k2) (by first | exact Nat.zero_le _ | decide) (by omega)
  refine V_aload_n dX3_after_28 0 rfl ?_
  refine V_get (i := 0) inlX3 rfl (W_3 hw) rfl (by decide) q_78 rfl dX3_after_29 ?_
  exact V_aret dX3_after_32 rfl (lfR (by rfl))
def F_X3_firstLying_11 (k2 : Nat) (x1 : Int32) (x2 : Int32) (K : Nat → mm_g → Int32 × mm_g) : Nat → Nat → mm_g → Int32 × mm_g
  | 0, j, s => K j s
  | n + 1, j, s => (if 60 < (nI j) then K j s else (if (F_X2_lying s 1 x1) = x2 then ((nI j), s) else F_X3_firstLying_11 k2 x1 x2 K n (j + 1) (F_X2_flow s 1)))
def F_X3_firstLying (g : mm_g) (k2 : Nat) (x1 : Int32) (x2 : Int32) : Int32 × mm_g := (F_X3_firstLying_11 k2 x1 x2 (fun (j11 : Nat) (s11 : mm_g) => ((-1000000), s11)) 62 0 (F_X2_become g 1 k2))
set_option maxRecDepth 100000 in
set_option maxHeartbeats 4000000 in
theorem w_X3_firstLying_11 (l : Launch) (G : mm_G) {pr : Nat → Nat → Prop} {ad : Nat → Nat → Nat → Nat} (hw : mm_W pr) (k2 : Nat) (x1 : Int32) (x2 : Int32)  (hk2 : pr 2 k2) (K : Nat → mm_g → Int32 × mm_g) (hK : ∀ (j : Nat) (s : mm_g) (hj : j ≤ 61), V l G RX3 cX3_firstLying 5 (some .int) (rmk 5 147) (qM pr ad (K j s)) 0 0 0 0 46 [(0, .ref (ad 3 0 0)), (1, .ref (ad 2 k2 0)), (2, .int x1), (3, .int x2), (4, .int (nI j))] [] pr ad s) : ∀ (n : Nat) (j : Nat) (s : mm_g) (hj : j ≤ 61) (hm : 61 - j < n), V l G RX3 cX3_firstLying 5 (some .int) (rmk 5 147) (qM pr ad (F_X3_firstLying_11 k2 x1 x2 K n j s)) 0 0 0 0 11 [(0, .ref (ad 3 0 0)), (1, .ref (ad 2 k2 0)), (2, .int x1), (3, .int x2), (4, .int (nI j))] [] pr ad s := by
  intro n
  induction n with
  | zero => intro j s hj hm; exact absurd hm (Nat.not_lt_zero _)
  | succ n ih =>
      intro j s hj hm
      refine V_iload dX3_firstLying_11 4 rfl ?_
      refine V_bipush (v := 60) dX3_firstLying_13 (by decide) ?_
      refine V_ic_gt (tgt := 46) dX3_firstLying_15 (by decide) (fun c_15 => ?_) (fun c_15 => ?_)
      · refine V_rp (R2 := K j s) (by simp only [F_X3_firstLying_11, if_pos c_15]) ?_
        refine V_lp [0, 1, 2, 3, 4] rfl ?_
        exact hK j s (by assumption)
      · refine V_aload_n dX3_firstLying_18 0 rfl ?_
        refine V_get (i := 0) inlX3 rfl (W_3 hw) rfl (by decide) q_78 rfl dX3_firstLying_19 ?_
        refine V_iload_n dX3_firstLying_22 2 rfl ?_
        refine V_cV (k_X2_lying l G hw s (W_21 hw) x1 ) hy_X2_lying hi_X2_lying hs_X2_lying q_632 rfl rfl (W_21 hw) rfl rfl rfl rfl rfl ⟨by decide, by decide⟩ (Nat.le_of_ble_eq_true rfl) ⟨by decide, by decide⟩ dX3_firstLying_23 (V_kI ?_)
        refine V_iload_n dX3_firstLying_26 3 rfl ?_
        refine V_ic_ne (tgt := 33) dX3_firstLying_27 (by decide) (fun c_27 => ?_) (fun c_27 => ?_)
        · refine V_aload_n dX3_firstLying_33 0 rfl ?_
          refine V_get (i := 0) inlX3 rfl (W_3 hw) rfl (by decide) q_78 rfl dX3_firstLying_34 ?_
          refine V_cV (k_X2_flow l G hw s (W_21 hw)  ) hy_X2_flow hi_X2_flow hs_X2_flow q_583 rfl rfl (W_21 hw) rfl rfl rfl rfl rfl ⟨by decide, by decide⟩ (Nat.le_of_ble_eq_true rfl) ⟨by decide, by decide⟩ dX3_firstLying_37 (V_kN ?_)
          refine V_iinc (v := (nI (j + 1))) (L2 := [(4, .int (nI (j + 1))), (0, .ref (ad 3 0 0)), (1, .ref (ad 2 k2 0)), (2, .int x1), (3, .int x2)]) dX3_firstLying_40 4 rfl (nI_1 _) (by decide) rfl ?_
          refine V_goto (tgt := 11) dX3_firstLying_43 (by decide) ?_
          refine V_rp (R2 := F_X3_firstLying_11 k2 x1 x2 K n (j + 1) (F_X2_flow s 1)) (by simp only [F_X3_firstLying_11, if_neg c_15, if_neg c_27]) ?_
          refine V_lp [1, 2, 3, 4, 0] rfl ?_
          exact ih (j + 1) (F_X2_flow s 1) (by exact (lp_ul (x := 60) (n := n) (by decide) hj c_15 (by decide) hm).1) (by exact (lp_ul (x := 60) (n := n) (by decide) hj c_15 (by decide) hm).2) 
        · refine V_iload dX3_firstLying_30 4 rfl ?_
          exact V_iret dX3_firstLying_32 rfl (lfM (by simp only [F_X3_firstLying_11, if_neg c_15, if_pos c_27]))
set_option maxRecDepth 100000 in
set_option maxHeartbeats 4000000 in
theorem k_X3_firstLying (l : Launch) (G : mm_G) {pr : Nat → Nat → Prop} {ad : Nat → Nat → Nat → Nat} (hw : mm_W pr) (g : mm_g) {k2 : Nat} (hk2 : pr 2 k2) (x1 : Int32) (x2 : Int32)  : Mt l G yX3_firstLying cX3_firstLying 5 (some .int) (rmk 5 147) [.ref (ad 3 0 0), .ref (ad 2 k2 0), .int x1, .int x2] pr ad g (qM pr ad (F_X3_firstLying g k2 x1 x2)) 0 0 := by
  refine Mt_of (by decide) (Nat.le_of_ble_eq_true rfl) ?_
  show V l G RX3 cX3_firstLying 5 (some .int) _ _ 0 0 0 0 0 [(0, .ref (ad 3 0 0)), (1, .ref (ad 2 k2 0)), (2, .int x1), (3, .int x2)] [] pr ad g
  refine V_aload_n dX3_firstLying_0 0 rfl ?_
  refine V_get (i := 0) inlX3 rfl (W_3 hw) rfl (by decide) q_78 rfl dX3_firstLying_1 ?_
  refine V_aload_n dX3_firstLying_4 1 rfl ?_
  refine V_cV (k_X2_become l G hw g (W_21 hw) hk2  ) hy_X2_become hi_X2_become hs_X2_become q_582 rfl rfl (W_21 hw) rfl rfl rfl rfl rfl ⟨by decide, by decide⟩ (Nat.le_of_ble_eq_true rfl) ⟨by decide, by decide⟩ dX3_firstLying_5 (V_kN ?_)
  refine V_iconst (v := 0) dX3_firstLying_8 (by decide) ?_
  refine V_istore (L2 := [(4, .int 0), (0, .ref (ad 3 0 0)), (1, .ref (ad 2 k2 0)), (2, .int x1), (3, .int x2)]) dX3_firstLying_9 (by decide) rfl ?_
  refine V_rp (R2 := F_X3_firstLying_11 k2 x1 x2 (fun (j11 : Nat) (s11 : mm_g) => ((-1000000), s11)) 62 0 (F_X2_become g 1 k2)) (by simp only [F_X3_firstLying]) ?_
  refine V_lp [1, 2, 3, 4, 0] rfl ?_
  refine w_X3_firstLying_11 l G hw k2 x1 x2 hk2  _ (fun j11 s11 hj11 => ?_) 62 0 (F_X2_become g 1 k2) (by omega) (by omega)
  refine V_ldc q_631 dX3_firstLying_46 ?_
  exact V_iret dX3_firstLying_48 rfl (lfM (by rfl))
def F_X3_leadFrom (g : mm_g) (k2 : Nat) (x1 : Int32) (x2 : Int32) : Int32 × mm_g := ((F_X2_leadOf (F_X2_standIn (F_X2_become g 1 k2) 1 x1 x2) 1 x1), (F_X2_standIn (F_X2_become g 1 k2) 1 x1 x2))
set_option maxRecDepth 100000 in
set_option maxHeartbeats 4000000 in
theorem k_X3_leadFrom (l : Launch) (G : mm_G) {pr : Nat → Nat → Prop} {ad : Nat → Nat → Nat → Nat} (hw : mm_W pr) (g : mm_g) {k2 : Nat} (hk2 : pr 2 k2) (x1 : Int32) (x2 : Int32)  : Mt l G yX3_leadFrom cX3_leadFrom 4 (some .int) (rmk 5 151) [.ref (ad 3 0 0), .ref (ad 2 k2 0), .int x1, .int x2] pr ad g (qM pr ad (F_X3_leadFrom g k2 x1 x2)) 0 0 := by
  refine Mt_of (by decide) (Nat.le_of_ble_eq_true rfl) ?_
  show V l G RX3 cX3_leadFrom 4 (some .int) _ _ 0 0 0 0 0 [(0, .ref (ad 3 0 0)), (1, .ref (ad 2 k2 0)), (2, .int x1), (3, .int x2)] [] pr ad g
  refine V_aload_n dX3_leadFrom_0 0 rfl ?_
  refine V_get (i := 0) inlX3 rfl (W_3 hw) rfl (by decide) q_78 rfl dX3_leadFrom_1 ?_
  refine V_aload_n dX3_leadFrom_4 1 rfl ?_
  refine V_cV (k_X2_become l G hw g (W_21 hw) hk2  ) hy_X2_become hi_X2_become hs_X2_become q_582 rfl rfl (W_21 hw) rfl rfl rfl rfl rfl ⟨by decide, by decide⟩ (Nat.le_of_ble_eq_true rfl) ⟨by decide, by decide⟩ dX3_leadFrom_5 (V_kN ?_)
  refine V_aload_n dX3_leadFrom_8 0 rfl ?_
  refine V_get (i := 0) inlX3 rfl (W_3 hw) rfl (by decide) q_78 rfl dX3_leadFrom_9 ?_
  refine V_iload_n dX3_leadFrom_12 2 rfl ?_
  refine V_iload_n dX3_leadFrom_13 3 rfl ?_
  refine V_cV (k_X2_standIn l G hw (F_X2_become g 1 k2) (W_21 hw) x1 x2 ) hy_X2_standIn hi_X2_standIn hs_X2_standIn q_650 rfl rfl (W_21 hw) rfl rfl rfl rfl rfl ⟨by decide, by decide⟩ (Nat.le_of_ble_eq_true rfl) ⟨by decide, by decide⟩ dX3_leadFrom_14 (V_kN ?_)
  refine V_aload_n dX3_leadFrom_17 0 rfl ?_
  refine V_get (i := 0) inlX3 rfl (W_3 hw) rfl (by decide) q_78 rfl dX3_leadFrom_18 ?_
  refine V_iload_n dX3_leadFrom_21 2 rfl ?_
  refine V_cV (k_X2_leadOf l G hw (F_X2_standIn (F_X2_become g 1 k2) 1 x1 x2) (W_21 hw) x1 ) hy_X2_leadOf hi_X2_leadOf hs_X2_leadOf q_651 rfl rfl (W_21 hw) rfl rfl rfl rfl rfl ⟨by decide, by decide⟩ (Nat.le_of_ble_eq_true rfl) ⟨by decide, by decide⟩ dX3_leadFrom_22 (V_kI ?_)
  exact V_iret dX3_leadFrom_25 rfl (lfM (by simp only [F_X3_leadFrom]))
def F_X3_bestCell_14 (k2 : Nat) (x1 : Int32) (K : Int32 → Int32 → Nat → mm_g → Int32 × mm_g) : Nat → Int32 → Int32 → Nat → mm_g → Int32 × mm_g
  | 0, a, b, j, s => K a b j s
  | n + 1, a, b, j, s => (if 9 ≤ (nI j) then K a b j s else (if (F_X3_leadFrom s k2 x1 (nI j)).1 ≤ b then F_X3_bestCell_14 k2 x1 K n a b (j + 1) ((F_X3_leadFrom s k2 x1 (nI j)).2) else F_X3_bestCell_14 k2 x1 K n (nI j) ((F_X3_leadFrom s k2 x1 (nI j)).1) (j + 1) ((F_X3_leadFrom s k2 x1 (nI j)).2)))
def F_X3_bestCell (g : mm_g) (k2 : Nat) (x1 : Int32) : Int32 × mm_g := (F_X3_bestCell_14 k2 x1 (fun (a14 : Int32) (b14 : Int32) (j14 : Nat) (s14 : mm_g) => (a14, s14)) ((9 : Int32).toInt.toNat + 1) 0 ((F_X3_leadFrom g k2 x1 0).1) 1 ((F_X3_leadFrom g k2 x1 0).2))
set_option maxRecDepth 100000 in
set_option maxHeartbeats 4000000 in
theorem w_X3_bestCell_14 (l : Launch) (G : mm_G) {pr : Nat → Nat → Prop} {ad : Nat → Nat → Nat → Nat} (hw : mm_W pr) (k2 : Nat) (x1 : Int32)  (hk2 : pr 2 k2) (K : Int32 → Int32 → Nat → mm_g → Int32 × mm_g) (hK : ∀ (a : Int32) (b : Int32) (j : Nat) (s : mm_g) (hj : j ≤ (9 : Int32).toInt.toNat), V l G RX3 cX3_bestCell 7 (some .int) (rmk 6 174) (qM pr ad (K a b j s)) 0 0 0 0 51 [(0, .ref (ad 3 0 0)), (1, .ref (ad 2 k2 0)), (2, .int x1), (3, .int a), (4, .int b), (5, .int (nI j))] [] pr ad s) : ∀ (n : Nat) (a : Int32) (b : Int32) (j : Nat) (s : mm_g) (hj : j ≤ (9 : Int32).toInt.toNat) (hm : (9 : Int32).toInt.toNat - j < n), V l G RX3 cX3_bestCell 7 (some .int) (rmk 6 174) (qM pr ad (F_X3_bestCell_14 k2 x1 K n a b j s)) 0 0 0 0 14 [(0, .ref (ad 3 0 0)), (1, .ref (ad 2 k2 0)), (2, .int x1), (3, .int a), (4, .int b), (5, .int (nI j))] [] pr ad s := by
  intro n
  induction n with
  | zero => intro a b j s hj hm; exact absurd hm (Nat.not_lt_zero _)
  | succ n ih =>
      intro a b j s hj hm
      refine V_iload dX3_bestCell_14 5 rfl ?_
      refine V_bipush (v := 9) dX3_bestCell_16 (by decide) ?_
      refine V_ic_ge (tgt := 51) dX3_bestCell_18 (by decide) (fun c_18 => ?_) (fun c_18 => ?_)
      · refine V_rp (R2 := K a b j s) (by simp only [F_X3_bestCell_14, if_pos c_18]) ?_
        refine V_lp [0, 1, 2, 3, 4, 5] rfl ?_
        exact hK a b j s (by assumption)
      · refine V_aload_n dX3_bestCell_21 0 rfl ?_
        refine V_aload_n dX3_bestCell_22 1 rfl ?_
        refine V_iload_n dX3_bestCell_23 2 rfl ?_
        refine V_iload dX3_bestCell_24 5 rfl ?_
        refine V_cV (k_X3_leadFrom l G hw s hk2 x1 (nI j) ) hy_X3_leadFrom hi_X3_leadFrom hs_X3_leadFrom q_646 rfl rfl (W_3 hw) rfl rfl rfl rfl rfl ⟨by decide, by decide⟩ (Nat.le_of_ble_eq_true rfl) ⟨by decide, by decide⟩ dX3_bestCell_26 (V_kM ?_)
        refine V_istore (L2 := [(6, .int ((F_X3_leadFrom s k2 x1 (nI j)).1)), (0, .ref (ad 3 0 0)), (1, .ref (ad 2 k2 0)), (2, .int x1), (3, .int a), (4, .int b), (5, .int (nI j))]) dX3_bestCell_29 (by decide) rfl ?_
        refine V_iload dX3_bestCell_31 0 rfl ?_
        refine V_iload dX3_bestCell_33 5 rfl ?_
        refine V_ic_le (tgt := 45) dX3_bestCell_35 (by decide) (fun c_35 => ?_) (fun c_35 => ?_)
        · refine V_iinc (v := (nI (j + 1))) (L2 := [(5, .int (nI (j + 1))), (6, .int ((F_X3_leadFrom s k2 x1 (nI j)).1)), (0, .ref (ad 3 0 0)), (1, .ref (ad 2 k2 0)), (2, .int x1), (3, .int a), (4, .int b)]) dX3_bestCell_45 6 rfl (nI_1 _) (by decide) rfl ?_
          refine V_goto (tgt := 14) dX3_bestCell_48 (by decide) ?_
          refine V_rp (R2 := F_X3_bestCell_14 k2 x1 K n a b (j + 1) ((F_X3_leadFrom s k2 x1 (nI j)).2)) (by simp only [F_X3_bestCell_14, if_neg c_18, if_pos c_35]) ?_
          refine V_lp [2, 3, 4, 5, 6, 0] rfl ?_
          exact ih a b (j + 1) ((F_X3_leadFrom s k2 x1 (nI j)).2) (by exact (lp_up hj c_18 hm).1) (by exact (lp_up hj c_18 hm).2) 
        · refine V_iload dX3_bestCell_38 6 rfl ?_
          refine V_istore_n (L2 := [(3, .int (nI j)), (6, .int ((F_X3_leadFrom s k2 x1 (nI j)).1)), (0, .ref (ad 3 0 0)), (1, .ref (ad 2 k2 0)), (2, .int x1), (4, .int b), (5, .int (nI j))]) dX3_bestCell_40 (by decide) rfl ?_
          refine V_iload dX3_bestCell_41 1 rfl ?_
          refine V_istore (L2 := [(4, .int ((F_X3_leadFrom s k2 x1 (nI j)).1)), (3, .int (nI j)), (6, .int ((F_X3_leadFrom s k2 x1 (nI j)).1)), (0, .ref (ad 3 0 0)), (1, .ref (ad 2 k2 0)), (2, .int x1), (5, .int (nI j))]) dX3_bestCell_43 (by decide) rfl ?_
          refine V_iinc (v := (nI (j + 1))) (L2 := [(5, .int (nI (j + 1))), (4, .int ((F_X3_leadFrom s k2 x1 (nI j)).1)), (3, .int (nI j)), (6, .int ((F_X3_leadFrom s k2 x1 (nI j)).1)), (0, .ref (ad 3 0 0)), (1, .ref (ad 2 k2 0)), (2, .int x1)]) dX3_bestCell_45 6 rfl (nI_1 _) (by decide) rfl ?_
          refine V_goto (tgt := 14) dX3_bestCell_48 (by decide) ?_
          refine V_rp (R2 := F_X3_bestCell_14 k2 x1 K n (nI j) ((F_X3_leadFrom s k2 x1 (nI j)).1) (j + 1) ((F_X3_leadFrom s k2 x1 (nI j)).2)) (by simp only [F_X3_bestCell_14, if_neg c_18, if_neg c_35]) ?_
          refine V_lp [4, 5, 6, 2, 1, 0] rfl ?_
          exact ih (nI j) ((F_X3_leadFrom s k2 x1 (nI j)).1) (j + 1) ((F_X3_leadFrom s k2 x1 (nI j)).2) (by exact (lp_up hj c_18 hm).1) (by exact (lp_up hj c_18 hm).2) 
set_option maxRecDepth 100000 in
set_option maxHeartbeats 4000000 in
theorem k_X3_bestCell (l : Launch) (G : mm_G) {pr : Nat → Nat → Prop} {ad : Nat → Nat → Nat → Nat} (hw : mm_W pr) (g : mm_g) {k2 : Nat} (hk2 : pr 2 k2) (x1 : Int32)  : Mt l G yX3_bestCell cX3_bestCell 7 (some .int) (rmk 6 174) [.ref (ad 3 0 0), .ref (ad 2 k2 0), .int x1] pr ad g (qM pr ad (F_X3_bestCell g k2 x1)) 0 0 := by
  refine Mt_of (by decide) (Nat.le_of_ble_eq_true rfl) ?_
  show V l G RX3 cX3_bestCell 7 (some .int) _ _ 0 0 0 0 0 [(0, .ref (ad 3 0 0)), (1, .ref (ad 2 k2 0)), (2, .int x1)] [] pr ad g
  refine V_iconst (v := 0) dX3_bestCell_0 (by decide) ?_
  refine V_istore_n (L2 := [(3, .int 0), (0, .ref (ad 3 0 0)), (1, .ref (ad 2 k2 0)), (2, .int x1)]) dX3_bestCell_1 (by decide) rfl ?_
  refine V_aload_n dX3_bestCell_2 1 rfl ?_
  refine V_aload_n dX3_bestCell_3 2 rfl ?_
  refine V_iload_n dX3_bestCell_4 3 rfl ?_
  refine V_iconst (v := 0) dX3_bestCell_5 (by decide) ?_
  refine V_cV (k_X3_leadFrom l G hw g hk2 x1 0 ) hy_X3_leadFrom hi_X3_leadFrom hs_X3_leadFrom q_646 rfl rfl (W_3 hw) rfl rfl rfl rfl rfl ⟨by decide, by decide⟩ (Nat.le_of_ble_eq_true rfl) ⟨by decide, by decide⟩ dX3_bestCell_6 (V_kM ?_)
  refine V_istore (L2 := [(4, .int ((F_X3_leadFrom g k2 x1 0).1)), (3, .int 0), (0, .ref (ad 3 0 0)), (1, .ref (ad 2 k2 0)), (2, .int x1)]) dX3_bestCell_9 (by decide) rfl ?_
  refine V_iconst (v := 1) dX3_bestCell_11 (by decide) ?_
  refine V_istore (L2 := [(5, .int 1), (4, .int ((F_X3_leadFrom g k2 x1 0).1)), (3, .int 0), (0, .ref (ad 3 0 0)), (1, .ref (ad 2 k2 0)), (2, .int x1)]) dX3_bestCell_12 (by decide) rfl ?_
  refine V_rp (R2 := F_X3_bestCell_14 k2 x1 (fun (a14 : Int32) (b14 : Int32) (j14 : Nat) (s14 : mm_g) => (a14, s14)) ((9 : Int32).toInt.toNat + 1) 0 ((F_X3_leadFrom g k2 x1 0).1) 1 ((F_X3_leadFrom g k2 x1 0).2)) (by simp only [F_X3_bestCell]) ?_
  refine V_lp [3, 4, 5, 2, 1, 0] rfl ?_
  refine w_X3_bestCell_14 l G hw k2 x1 hk2  _ (fun a14 b14 j14 s14 hj14 => ?_) ((9 : Int32).toInt.toNat + 1) 0 ((F_X3_leadFrom g k2 x1 0).1) 1 ((F_X3_leadFrom g k2 x1 0).2) (by first | exact Nat.zero_le _ | decide) (by omega)
  refine V_iload_n dX3_bestCell_51 3 rfl ?_
  exact V_iret dX3_bestCell_52 rfl (lfM (by rfl))
def F_X3_weighPairs_27 (k2 : Nat) (j : Nat) (K : Nat → mm_g → mm_g) : Nat → Nat → mm_g → mm_g
  | 0, i, s => K i s
  | n + 1, i, s => (if 9 ≤ (nI i) then K i s else F_X3_weighPairs_27 k2 j K n (i + 1) (wr (F_X2_standIn s 1 1 (nI i)) 3 3 (((nI j) * 9) + (nI i)).toNatClampNeg (F_X2_leadOf (F_X2_standIn s 1 1 (nI i)) 1 0)))
def F_X3_weighPairs_10 (k2 : Nat) (K : Nat → mm_g → mm_g) : Nat → Nat → mm_g → mm_g
  | 0, j, s => K j s
  | n + 1, j, s => (if 9 ≤ (nI j) then K j s else (F_X3_weighPairs_27 k2 j (fun (i27 : Nat) (s27 : mm_g) => F_X3_weighPairs_10 k2 K n (j + 1) s27) ((9 : Int32).toInt.toNat + 1) 0 (F_X2_standIn s 1 0 (nI j))))
def F_X3_weighPairs (g : mm_g) (k2 : Nat) : mm_g := (F_X3_weighPairs_10 k2 (fun (j10 : Nat) (s10 : mm_g) => s10) ((9 : Int32).toInt.toNat + 1) 0 (F_X2_become g 1 k2))
set_option maxRecDepth 100000 in
set_option maxHeartbeats 4000000 in
theorem w_X3_weighPairs_27 (l : Launch) (G : mm_G) {pr : Nat → Nat → Prop} {ad : Nat → Nat → Nat → Nat} (hw : mm_W pr) (k2 : Nat) (j : Nat)  (hk2 : pr 2 k2) (ho : vp_in (nI j) 9) (K : Nat → mm_g → mm_g) (hK : ∀ (i : Nat) (s : mm_g) (hi : i ≤ (9 : Int32).toInt.toNat), V l G RX3 cX3_weighPairs 4 none (rmk 5 151) (qN pr ad (K i s)) 0 0 0 0 67 [(0, .ref (ad 3 0 0)), (1, .ref (ad 2 k2 0)), (2, .int (nI j)), (3, .int (nI i))] [] pr ad s) : ∀ (n : Nat) (i : Nat) (s : mm_g) (hi : i ≤ (9 : Int32).toInt.toNat) (hm : (9 : Int32).toInt.toNat - i < n), V l G RX3 cX3_weighPairs 4 none (rmk 5 151) (qN pr ad (F_X3_weighPairs_27 k2 j K n i s)) 0 0 0 0 27 [(0, .ref (ad 3 0 0)), (1, .ref (ad 2 k2 0)), (2, .int (nI j)), (3, .int (nI i))] [] pr ad s := by
  intro n
  induction n with
  | zero => intro i s hi hm; exact absurd hm (Nat.not_lt_zero _)
  | succ n ih =>
      intro i s hi hm
      refine V_iload_n dX3_weighPairs_27 3 rfl ?_
      refine V_bipush (v := 9) dX3_weighPairs_28 (by decide) ?_
      refine V_ic_ge (tgt := 67) dX3_weighPairs_30 (by decide) (fun c_30 => ?_) (fun c_30 => ?_)
      · refine V_rp (R2 := K i s) (by simp only [F_X3_weighPairs_27, if_pos c_30]) ?_
        refine V_lp [0, 1, 2, 3] rfl ?_
        exact hK i s (by assumption)
      · refine V_aload_n dX3_weighPairs_33 0 rfl ?_
        refine V_get (i := 0) inlX3 rfl (W_3 hw) rfl (by decide) q_78 rfl dX3_weighPairs_34 ?_
        refine V_iconst (v := 1) dX3_weighPairs_37 (by decide) ?_
        refine V_iload_n dX3_weighPairs_38 3 rfl ?_
        refine V_cV (k_X2_standIn l G hw s (W_21 hw) 1 (nI i) ) hy_X2_standIn hi_X2_standIn hs_X2_standIn q_650 rfl rfl (W_21 hw) rfl rfl rfl rfl rfl ⟨by decide, by decide⟩ (Nat.le_of_ble_eq_true rfl) ⟨by decide, by decide⟩ dX3_weighPairs_39 (V_kN ?_)
        refine V_aload_n dX3_weighPairs_42 0 rfl ?_
        refine V_get (i := 3) inlX3 rfl (W_3 hw) rfl (by decide) q_81 rfl dX3_weighPairs_43 ?_
        refine V_iload_n dX3_weighPairs_46 2 rfl ?_
        refine V_bipush (v := 9) dX3_weighPairs_47 (by decide) ?_
        refine V_imul dX3_weighPairs_49 ?_
        refine V_iload_n dX3_weighPairs_50 3 rfl ?_
        refine V_iadd dX3_weighPairs_51 ?_
        refine V_aload_n dX3_weighPairs_52 0 rfl ?_
        refine V_get (i := 0) inlX3 rfl (W_3 hw) rfl (by decide) q_78 rfl dX3_weighPairs_53 ?_
        refine V_iconst (v := 0) dX3_weighPairs_56 (by decide) ?_
        refine V_cV (k_X2_leadOf l G hw (F_X2_standIn s 1 1 (nI i)) (W_21 hw) 0 ) hy_X2_leadOf hi_X2_leadOf hs_X2_leadOf q_651 rfl rfl (W_21 hw) rfl rfl rfl rfl rfl ⟨by decide, by decide⟩ (Nat.le_of_ble_eq_true rfl) ⟨by decide, by decide⟩ dX3_weighPairs_57 (V_kI ?_)
        refine S_3_3 (W_3 hw) (by exact ix_mul (m := 9) (n := 9) ho (ix_x hi c_30 (by decide)) rfl (by decide)) dX3_weighPairs_60 ?_
        refine V_iinc (v := (nI (i + 1))) (L2 := [(3, .int (nI (i + 1))), (0, .ref (ad 3 0 0)), (1, .ref (ad 2 k2 0)), (2, .int (nI j))]) dX3_weighPairs_61 3 rfl (nI_1 _) (by decide) rfl ?_
        refine V_goto (tgt := 27) dX3_weighPairs_64 (by decide) ?_
        refine V_rp (R2 := F_X3_weighPairs_27 k2 j K n (i + 1) (wr (F_X2_standIn s 1 1 (nI i)) 3 3 (((nI j) * 9) + (nI i)).toNatClampNeg (F_X2_leadOf (F_X2_standIn s 1 1 (nI i)) 1 0))) (by simp only [F_X3_weighPairs_27, if_neg c_30]) ?_
        refine V_lp [1, 2, 3, 0] rfl ?_
        exact ih (i + 1) (wr (F_X2_standIn s 1 1 (nI i)) 3 3 (((nI j) * 9) + (nI i)).toNatClampNeg (F_X2_leadOf (F_X2_standIn s 1 1 (nI i)) 1 0)) (by exact (lp_up hi c_30 hm).1) (by exact (lp_up hi c_30 hm).2) 
set_option maxRecDepth 100000 in
set_option maxHeartbeats 4000000 in
theorem w_X3_weighPairs_10 (l : Launch) (G : mm_G) {pr : Nat → Nat → Prop} {ad : Nat → Nat → Nat → Nat} (hw : mm_W pr) (k2 : Nat)  (hk2 : pr 2 k2) (K : Nat → mm_g → mm_g) (hK : ∀ (j : Nat) (s : mm_g) (hj : j ≤ (9 : Int32).toInt.toNat), V l G RX3 cX3_weighPairs 4 none (rmk 5 151) (qN pr ad (K j s)) 0 0 0 0 73 [(0, .ref (ad 3 0 0)), (1, .ref (ad 2 k2 0)), (2, .int (nI j))] [] pr ad s) : ∀ (n : Nat) (j : Nat) (s : mm_g) (hj : j ≤ (9 : Int32).toInt.toNat) (hm : (9 : Int32).toInt.toNat - j < n), V l G RX3 cX3_weighPairs 4 none (rmk 5 151) (qN pr ad (F_X3_weighPairs_10 k2 K n j s)) 0 0 0 0 10 [(0, .ref (ad 3 0 0)), (1, .ref (ad 2 k2 0)), (2, .int (nI j))] [] pr ad s := by
  intro n
  induction n with
  | zero => intro j s hj hm; exact absurd hm (Nat.not_lt_zero _)
  | succ n ih =>
      intro j s hj hm
      refine V_iload_n dX3_weighPairs_10 2 rfl ?_
      refine V_bipush (v := 9) dX3_weighPairs_11 (by decide) ?_
      refine V_ic_ge (tgt := 73) dX3_weighPairs_13 (by decide) (fun c_13 => ?_) (fun c_13 => ?_)
      · refine V_rp (R2 := K j s) (by simp only [F_X3_weighPairs_10, if_pos c_13]) ?_
        refine V_lp [0, 1, 2] rfl ?_
        exact hK j s (by assumption)
      · refine V_aload_n dX3_weighPairs_16 0 rfl ?_
        refine V_get (i := 0) inlX3 rfl (W_3 hw) rfl (by decide) q_78 rfl dX3_weighPairs_17 ?_
        refine V_iconst (v := 0) dX3_weighPairs_20 (by decide) ?_
        refine V_iload_n dX3_weighPairs_21 2 rfl ?_
        refine V_cV (k_X2_standIn l G hw s (W_21 hw) 0 (nI j) ) hy_X2_standIn hi_X2_standIn hs_X2_standIn q_650 rfl rfl (W_21 hw) rfl rfl rfl rfl rfl ⟨by decide, by decide⟩ (Nat.le_of_ble_eq_true rfl) ⟨by decide, by decide⟩ dX3_weighPairs_22 (V_kN ?_)
        refine V_iconst (v := 0) dX3_weighPairs_25 (by decide) ?_
        refine V_istore_n (L2 := [(3, .int 0), (0, .ref (ad 3 0 0)), (1, .ref (ad 2 k2 0)), (2, .int (nI j))]) dX3_weighPairs_26 (by decide) rfl ?_
        refine V_rp (R2 := F_X3_weighPairs_27 k2 j (fun (i27 : Nat) (s27 : mm_g) => F_X3_weighPairs_10 k2 K n (j + 1) s27) ((9 : Int32).toInt.toNat + 1) 0 (F_X2_standIn s 1 0 (nI j))) (by simp only [F_X3_weighPairs_10, if_neg c_13]) ?_
        refine V_lp [1, 2, 3, 0] rfl ?_
        refine w_X3_weighPairs_27 l G hw k2 j hk2 (by exact ix_x hj c_13 (by decide)) _ (fun i27 s27 hi27 => ?_) ((9 : Int32).toInt.toNat + 1) 0 (F_X2_standIn s 1 0 (nI j)) (by first | exact Nat.zero_le _ | decide) (by omega)
        refine V_iinc (v := (nI (j + 1))) (L2 := [(2, .int (nI (j + 1))), (0, .ref (ad 3 0 0)), (1, .ref (ad 2 k2 0)), (3, .int (nI i27))]) dX3_weighPairs_67 2 rfl (nI_1 _) (by decide) rfl ?_
        refine V_goto (tgt := 10) dX3_weighPairs_70 (by decide) ?_
        refine V_rp (R2 := F_X3_weighPairs_10 k2 K n (j + 1) s27) (by rfl) ?_
        refine V_lp [1, 2, 0] rfl ?_
        exact ih (j + 1) s27 (by exact (lp_up hj c_13 hm).1) (by exact (lp_up hj c_13 hm).2) 
set_option maxRecDepth 100000 in
set_option maxHeartbeats 4000000 in
theorem k_X3_weighPairs (l : Launch) (G : mm_G) {pr : Nat → Nat → Prop} {ad : Nat → Nat → Nat → Nat} (hw : mm_W pr) (g : mm_g) {k2 : Nat} (hk2 : pr 2 k2)  : Mt l G yX3_weighPairs cX3_weighPairs 4 none (rmk 5 151) [.ref (ad 3 0 0), .ref (ad 2 k2 0)] pr ad g (qN pr ad (F_X3_weighPairs g k2)) 0 0 := by
  refine Mt_of (by decide) (Nat.le_of_ble_eq_true rfl) ?_
  show V l G RX3 cX3_weighPairs 4 none _ _ 0 0 0 0 0 [(0, .ref (ad 3 0 0)), (1, .ref (ad 2 k2 0))] [] pr ad g
  refine V_aload_n dX3_weighPairs_0 0 rfl ?_
  refine V_get (i := 0) inlX3 rfl (W_3 hw) rfl (by decide) q_78 rfl dX3_weighPairs_1 ?_
  refine V_aload_n dX3_weighPairs_4 1 rfl ?_
  refine V_cV (k_X2_become l G hw g (W_21 hw) hk2  ) hy_X2_become hi_X2_become hs_X2_become q_582 rfl rfl (W_21 hw) rfl rfl rfl rfl rfl ⟨by decide, by decide⟩ (Nat.le_of_ble_eq_true rfl) ⟨by decide, by decide⟩ dX3_weighPairs_5 (V_kN ?_)
  refine V_iconst (v := 0) dX3_weighPairs_8 (by decide) ?_
  refine V_istore_n (L2 := [(2, .int 0), (0, .ref (ad 3 0 0)), (1, .ref (ad 2 k2 0))]) dX3_weighPairs_9 (by decide) rfl ?_
  refine V_rp (R2 := F_X3_weighPairs_10 k2 (fun (j10 : Nat) (s10 : mm_g) => s10) ((9 : Int32).toInt.toNat + 1) 0 (F_X2_become g 1 k2)) (by simp only [F_X3_weighPairs]) ?_
  refine V_lp [1, 2, 0] rfl ?_
  refine w_X3_weighPairs_10 l G hw k2 hk2  _ (fun j10 s10 hj10 => ?_) ((9 : Int32).toInt.toNat + 1) 0 (F_X2_become g 1 k2) (by first | exact Nat.zero_le _ | decide) (by omega)
  exact V_vret dX3_weighPairs_73 rfl (lfN (by rfl))
def F_X3_isResting_37 (g37 : mm_g) (x1 : Int32) (x2 : Int32) (f3 : Int32) (K : Nat → Int32) : Nat → Nat → Int32
  | 0, j => K j
  | n + 1, j => (if 9 ≤ (nI j) then K j else (if f3 < (g37 3 3 (((nI j) * 9) + x2).toNatClampNeg) then 0 else (if f3 ≤ (g37 3 3 ((x1 * 9) + (nI j)).toNatClampNeg) then F_X3_isResting_37 g37 x1 x2 f3 K n (j + 1) else 0)))
def F_X3_isResting (g : mm_g) (x1 : Int32) (x2 : Int32) : Int32 := (if (F_X6_within x1 0 8) = 0 then 0 else (if (F_X6_within x2 0 8) = 0 then 0 else (F_X3_isResting_37 g x1 x2 (g 3 3 ((x1 * 9) + x2).toNatClampNeg) (fun (j37 : Nat) => 1) ((9 : Int32).toInt.toNat + 1) 0)))
set_option maxRecDepth 100000 in
set_option maxHeartbeats 4000000 in
theorem w_X3_isResting_37 (l : Launch) (G : mm_G) {pr : Nat → Nat → Prop} {ad : Nat → Nat → Nat → Nat} (hw : mm_W pr) (g37 : mm_g) (x1 : Int32) (x2 : Int32) (f3 : Int32)  (h1 : ¬ F_X6_within x1 0 8 = 0) (h2 : ¬ F_X6_within x2 0 8 = 0) (K : Nat → Int32) (hK : ∀ (j : Nat) (hj : j ≤ (9 : Int32).toInt.toNat), V l G RX3 cX3_isResting 5 (some .boolean) (rmk 2 82) (qI pr ad g37 (K j)) 0 0 0 0 84 [(0, .ref (ad 3 0 0)), (1, .int x1), (2, .int x2), (3, .int f3), (4, .int (nI j))] [] pr ad g37) : ∀ (n : Nat) (j : Nat) (hj : j ≤ (9 : Int32).toInt.toNat) (hm : (9 : Int32).toInt.toNat - j < n), V l G RX3 cX3_isResting 5 (some .boolean) (rmk 2 82) (qI pr ad g37 (F_X3_isResting_37 g37 x1 x2 f3 K n j)) 0 0 0 0 37 [(0, .ref (ad 3 0 0)), (1, .int x1), (2, .int x2), (3, .int f3), (4, .int (nI j))] [] pr ad g37 := by
  intro n
  induction n with
  | zero => intro j hj hm; exact absurd hm (Nat.not_lt_zero _)
  | succ n ih =>
      intro j hj hm
      refine V_iload dX3_isResting_37 4 rfl ?_
      refine V_bipush (v := 9) dX3_isResting_39 (by decide) ?_
      refine V_ic_ge (tgt := 84) dX3_isResting_41 (by decide) (fun c_41 => ?_) (fun c_41 => ?_)
      · refine V_rp (R2 := K j) (by simp only [F_X3_isResting_37, if_pos c_41]) ?_
        refine V_lp [0, 1, 2, 3, 4] rfl ?_
        exact hK j (by assumption)
      · refine V_aload_n dX3_isResting_44 0 rfl ?_
        refine V_get (i := 3) inlX3 rfl (W_3 hw) rfl (by decide) q_81 rfl dX3_isResting_45 ?_
        refine V_iload dX3_isResting_48 4 rfl ?_
        refine V_bipush (v := 9) dX3_isResting_50 (by decide) ?_
        refine V_imul dX3_isResting_52 ?_
        refine V_iload_n dX3_isResting_53 2 rfl ?_
        refine V_iadd dX3_isResting_54 ?_
        refine L_3_3 (W_3 hw) (by exact ix_mul (m := 9) (n := 9) (ix_x hj c_41 (by decide)) (ix_wn h2 rfl) rfl (by decide)) dX3_isResting_55 ?_
        refine V_iload_n dX3_isResting_56 3 rfl ?_
        refine V_ic_gt (tgt := 76) dX3_isResting_57 (by decide) (fun c_57 => ?_) (fun c_57 => ?_)
        · refine V_iconst (v := 0) dX3_isResting_76 (by decide) ?_
          exact V_zret dX3_isResting_77 rfl rfl (lfI (by simp only [F_X3_isResting_37, if_neg c_41, if_pos c_57]))
        · refine V_aload_n dX3_isResting_60 0 rfl ?_
          refine V_get (i := 3) inlX3 rfl (W_3 hw) rfl (by decide) q_81 rfl dX3_isResting_61 ?_
          refine V_iload_n dX3_isResting_64 1 rfl ?_
          refine V_bipush (v := 9) dX3_isResting_65 (by decide) ?_
          refine V_imul dX3_isResting_67 ?_
          refine V_iload dX3_isResting_68 4 rfl ?_
          refine V_iadd dX3_isResting_70 ?_
          refine L_3_3 (W_3 hw) (by exact ix_mul (m := 9) (n := 9) (ix_wn h1 rfl) (ix_x hj c_41 (by decide)) rfl (by decide)) dX3_isResting_71 ?_
          refine V_iload_n dX3_isResting_72 3 rfl ?_
          refine V_ic_ge (tgt := 78) dX3_isResting_73 (by decide) (fun c_73 => ?_) (fun c_73 => ?_)
          · refine V_iinc (v := (nI (j + 1))) (L2 := [(4, .int (nI (j + 1))), (0, .ref (ad 3 0 0)), (1, .int x1), (2, .int x2), (3, .int f3)]) dX3_isResting_78 4 rfl (nI_1 _) (by decide) rfl ?_
            refine V_goto (tgt := 37) dX3_isResting_81 (by decide) ?_
            refine V_rp (R2 := F_X3_isResting_37 g37 x1 x2 f3 K n (j + 1)) (by simp only [F_X3_isResting_37, if_neg c_41, if_neg c_57, if_pos c_73]) ?_
            refine V_lp [1, 2, 3, 4, 0] rfl ?_
            exact ih (j + 1) (by exact (lp_up hj c_41 hm).1) (by exact (lp_up hj c_41 hm).2) 
          · refine V_iconst (v := 0) dX3_isResting_76 (by decide) ?_
            exact V_zret dX3_isResting_77 rfl rfl (lfI (by simp only [F_X3_isResting_37, if_neg c_41, if_neg c_57, if_neg c_73]))
set_option maxRecDepth 100000 in
set_option maxHeartbeats 4000000 in
theorem k_X3_isResting (l : Launch) (G : mm_G) {pr : Nat → Nat → Prop} {ad : Nat → Nat → Nat → Nat} (hw : mm_W pr) (g : mm_g) (x1 : Int32) (x2 : Int32)  : Mt l G yX3_isResting cX3_isResting 5 (some .boolean) (rmk 2 82) [.ref (ad 3 0 0), .int x1, .int x2] pr ad g (qI pr ad g (F_X3_isResting g x1 x2)) 0 0 := by
  refine Mt_of (by decide) (Nat.le_of_ble_eq_true rfl) ?_
  show V l G RX3 cX3_isResting 5 (some .boolean) _ _ 0 0 0 0 0 [(0, .ref (ad 3 0 0)), (1, .int x1), (2, .int x2)] [] pr ad g
  refine V_iload_n dX3_isResting_0 1 rfl ?_
  refine V_iconst (v := 0) dX3_isResting_1 (by decide) ?_
  refine V_bipush (v := 8) dX3_isResting_2 (by decide) ?_
  refine V_cSN (k_X6_within l G hw g  x1 0 8 ) hy_X6_within hz_X6_within nm_X3_61 rfl rfl rfl rfl ⟨by decide, by decide⟩ (Nat.le_of_ble_eq_true rfl) ⟨by decide, by decide⟩ dX3_isResting_4 (V_kI ?_)
  refine V_if_eq (tgt := 20) dX3_isResting_7 (by decide) (fun c_7 => ?_) (fun c_7 => ?_)
  · refine V_iconst (v := 0) dX3_isResting_20 (by decide) ?_
    exact V_zret dX3_isResting_21 rfl rfl (lfI (by simp only [F_X3_isResting, if_pos c_7]))
  · refine V_iload_n dX3_isResting_10 2 rfl ?_
    refine V_iconst (v := 0) dX3_isResting_11 (by decide) ?_
    refine V_bipush (v := 8) dX3_isResting_12 (by decide) ?_
    refine V_cSN (k_X6_within l G hw g  x2 0 8 ) hy_X6_within hz_X6_within nm_X3_61 rfl rfl rfl rfl ⟨by decide, by decide⟩ (Nat.le_of_ble_eq_true rfl) ⟨by decide, by decide⟩ dX3_isResting_14 (V_kI ?_)
    refine V_if_ne (tgt := 22) dX3_isResting_17 (by decide) (fun c_17 => ?_) (fun c_17 => ?_)
    · refine V_aload_n dX3_isResting_22 0 rfl ?_
      refine V_get (i := 3) inlX3 rfl (W_3 hw) rfl (by decide) q_81 rfl dX3_isResting_23 ?_
      refine V_iload_n dX3_isResting_26 1 rfl ?_
      refine V_bipush (v := 9) dX3_isResting_27 (by decide) ?_
      refine V_imul dX3_isResting_29 ?_
      refine V_iload_n dX3_isResting_30 2 rfl ?_
      refine V_iadd dX3_isResting_31 ?_
      refine L_3_3 (W_3 hw) (by exact ix_mul (m := 9) (n := 9) (ix_wn c_7 rfl) (ix_wn c_17 rfl) rfl (by decide)) dX3_isResting_32 ?_
      refine V_istore_n (L2 := [(3, .int (g 3 3 ((x1 * 9) + x2).toNatClampNeg)), (0, .ref (ad 3 0 0)), (1, .int x1), (2, .int x2)]) dX3_isResting_33 (by decide) rfl ?_
      refine V_iconst (v := 0) dX3_isResting_34 (by decide) ?_
      refine V_istore (L2 := [(4, .int 0), (3, .int (g 3 3 ((x1 * 9) + x2).toNatClampNeg)), (0, .ref (ad 3 0 0)), (1, .int x1), (2, .int x2)]) dX3_isResting_35 (by decide) rfl ?_
      refine V_rp (R2 := F_X3_isResting_37 g x1 x2 (g 3 3 ((x1 * 9) + x2).toNatClampNeg) (fun (j37 : Nat) => 1) ((9 : Int32).toInt.toNat + 1) 0) (by simp only [F_X3_isResting, if_neg c_7, if_neg c_17]) ?_
      refine V_lp [2, 3, 4, 1, 0] rfl ?_
      refine w_X3_isResting_37 l G hw g x1 x2 (g 3 3 ((x1 * 9) + x2).toNatClampNeg)  (by exact c_7) (by exact c_17) _ (fun j37 hj37 => ?_) ((9 : Int32).toInt.toNat + 1) 0 (by first | exact Nat.zero_le _ | decide) (by omega)
      refine V_iconst (v := 1) dX3_isResting_84 (by decide) ?_
      exact V_zret dX3_isResting_85 rfl rfl (lfI (by rfl))
    · refine V_iconst (v := 0) dX3_isResting_20 (by decide) ?_
      exact V_zret dX3_isResting_21 rfl rfl (lfI (by simp only [F_X3_isResting, if_neg c_7, if_pos c_17]))
def F_X3_restingPairs_12 (g12 : mm_g) (j : Nat) (K : Int32 → Nat → Int32) : Nat → Int32 → Nat → Int32
  | 0, a, i => K a i
  | n + 1, a, i => (if 9 ≤ (nI i) then K a i else (if (F_X3_isResting g12 (nI j) (nI i)) = 0 then F_X3_restingPairs_12 g12 j K n a (i + 1) else F_X3_restingPairs_12 g12 j K n (a + 1) (i + 1)))
def F_X3_restingPairs_4 (g4 : mm_g) (K : Int32 → Nat → Int32) : Nat → Int32 → Nat → Int32
  | 0, a, j => K a j
  | n + 1, a, j => (if 9 ≤ (nI j) then K a j else (F_X3_restingPairs_12 g4 j (fun (a12 : Int32) (i12 : Nat) => F_X3_restingPairs_4 g4  K n a12 (j + 1)) ((9 : Int32).toInt.toNat + 1) a 0))
def F_X3_restingPairs (g : mm_g) : Int32 := (F_X3_restingPairs_4 g  (fun (a4 : Int32) (j4 : Nat) => a4) ((9 : Int32).toInt.toNat + 1) 0 0)
set_option maxRecDepth 100000 in
set_option maxHeartbeats 4000000 in
theorem w_X3_restingPairs_12 (l : Launch) (G : mm_G) {pr : Nat → Nat → Prop} {ad : Nat → Nat → Nat → Nat} (hw : mm_W pr) (g12 : mm_g) (j : Nat)  (K : Int32 → Nat → Int32) (hK : ∀ (a : Int32) (i : Nat) (hi : i ≤ (9 : Int32).toInt.toNat), V l G RX3 cX3_restingPairs 4 (some .int) (rmk 3 106) (qI pr ad g12 (K a i)) 0 0 0 0 36 [(0, .ref (ad 3 0 0)), (1, .int a), (2, .int (nI j)), (3, .int (nI i))] [] pr ad g12) : ∀ (n : Nat) (a : Int32) (i : Nat) (hi : i ≤ (9 : Int32).toInt.toNat) (hm : (9 : Int32).toInt.toNat - i < n), V l G RX3 cX3_restingPairs 4 (some .int) (rmk 3 106) (qI pr ad g12 (F_X3_restingPairs_12 g12 j K n a i)) 0 0 0 0 12 [(0, .ref (ad 3 0 0)), (1, .int a), (2, .int (nI j)), (3, .int (nI i))] [] pr ad g12 := by
  intro n
  induction n with
  | zero => intro a i hi hm; exact absurd hm (Nat.not_lt_zero _)
  | succ n ih =>
      intro a i hi hm
      refine V_iload_n dX3_restingPairs_12 3 rfl ?_
      refine V_bipush (v := 9) dX3_restingPairs_13 (by decide) ?_
      refine V_ic_ge (tgt := 36) dX3_restingPairs_15 (by decide) (fun c_15 => ?_) (fun c_15 => ?_)
      · refine V_rp (R2 := K a i) (by simp only [F_X3_restingPairs_12, if_pos c_15]) ?_
        refine V_lp [0, 1, 2, 3] rfl ?_
        exact hK a i (by assumption)
      · refine V_aload_n dX3_restingPairs_18 0 rfl ?_
        refine V_iload_n dX3_restingPairs_19 2 rfl ?_
        refine V_iload_n dX3_restingPairs_20 3 rfl ?_
        refine V_cV (k_X3_isResting l G hw g12  (nI j) (nI i) ) hy_X3_isResting hi_X3_isResting hs_X3_isResting q_695 rfl rfl (W_3 hw) rfl rfl rfl rfl rfl ⟨by decide, by decide⟩ (Nat.le_of_ble_eq_true rfl) ⟨by decide, by decide⟩ dX3_restingPairs_21 (V_kI ?_)
        refine V_if_eq (tgt := 30) dX3_restingPairs_24 (by decide) (fun c_24 => ?_) (fun c_24 => ?_)
        · refine V_iinc (v := (nI (i + 1))) (L2 := [(3, .int (nI (i + 1))), (0, .ref (ad 3 0 0)), (1, .int a), (2, .int (nI j))]) dX3_restingPairs_30 3 rfl (nI_1 _) (by decide) rfl ?_
          refine V_goto (tgt := 12) dX3_restingPairs_33 (by decide) ?_
          refine V_rp (R2 := F_X3_restingPairs_12 g12 j K n a (i + 1)) (by simp only [F_X3_restingPairs_12, if_neg c_15, if_pos c_24]) ?_
          refine V_lp [1, 2, 3, 0] rfl ?_
          exact ih a (i + 1) (by exact (lp_up hi c_15 hm).1) (by exact (lp_up hi c_15 hm).2) 
        · refine V_iinc (v := (a + 1)) (L2 := [(1, .int (a + 1)), (0, .ref (ad 3 0 0)), (2, .int (nI j)), (3, .int (nI i))]) dX3_restingPairs_27 1 rfl rfl (by decide) rfl ?_
          refine V_iinc (v := (nI (i + 1))) (L2 := [(3, .int (nI (i + 1))), (1, .int (a + 1)), (0, .ref (ad 3 0 0)), (2, .int (nI j))]) dX3_restingPairs_30 3 rfl (nI_1 _) (by decide) rfl ?_
          refine V_goto (tgt := 12) dX3_restingPairs_33 (by decide) ?_
          refine V_rp (R2 := F_X3_restingPairs_12 g12 j K n (a + 1) (i + 1)) (by simp only [F_X3_restingPairs_12, if_neg c_15, if_neg c_24]) ?_
          refine V_lp [2, 1, 3, 0] rfl ?_
          exact ih (a + 1) (i + 1) (by exact (lp_up hi c_15 hm).1) (by exact (lp_up hi c_15 hm).2) 
set_option maxRecDepth 100000 in
set_option maxHeartbeats 4000000 in
theorem w_X3_restingPairs_4 (l : Launch) (G : mm_G) {pr : Nat → Nat → Prop} {ad : Nat → Nat → Nat → Nat} (hw : mm_W pr) (g4 : mm_g)  (K : Int32 → Nat → Int32) (hK : ∀ (a : Int32) (j : Nat) (hj : j ≤ (9 : Int32).toInt.toNat), V l G RX3 cX3_restingPairs 4 (some .int) (rmk 3 106) (qI pr ad g4 (K a j)) 0 0 0 0 42 [(0, .ref (ad 3 0 0)), (1, .int a), (2, .int (nI j))] [] pr ad g4) : ∀ (n : Nat) (a : Int32) (j : Nat) (hj : j ≤ (9 : Int32).toInt.toNat) (hm : (9 : Int32).toInt.toNat - j < n), V l G RX3 cX3_restingPairs 4 (some .int) (rmk 3 106) (qI pr ad g4 (F_X3_restingPairs_4 g4  K n a j)) 0 0 0 0 4 [(0, .ref (ad 3 0 0)), (1, .int a), (2, .int (nI j))] [] pr ad g4 := by
  intro n
  induction n with
  | zero => intro a j hj hm; exact absurd hm (Nat.not_lt_zero _)
  | succ n ih =>
      intro a j hj hm
      refine V_iload_n dX3_restingPairs_4 2 rfl ?_
      refine V_bipush (v := 9) dX3_restingPairs_5 (by decide) ?_
      refine V_ic_ge (tgt := 42) dX3_restingPairs_7 (by decide) (fun c_7 => ?_) (fun c_7 => ?_)
      · refine V_rp (R2 := K a j) (by simp only [F_X3_restingPairs_4, if_pos c_7]) ?_
        refine V_lp [0, 1, 2] rfl ?_
        exact hK a j (by assumption)
      · refine V_iconst (v := 0) dX3_restingPairs_10 (by decide) ?_
        refine V_istore_n (L2 := [(3, .int 0), (0, .ref (ad 3 0 0)), (1, .int a), (2, .int (nI j))]) dX3_restingPairs_11 (by decide) rfl ?_
        refine V_rp (R2 := F_X3_restingPairs_12 g4 j (fun (a12 : Int32) (i12 : Nat) => F_X3_restingPairs_4 g4  K n a12 (j + 1)) ((9 : Int32).toInt.toNat + 1) a 0) (by simp only [F_X3_restingPairs_4, if_neg c_7]) ?_
        refine V_lp [1, 2, 3, 0] rfl ?_
        refine w_X3_restingPairs_12 l G hw g4 j   _ (fun a12 i12 hi12 => ?_) ((9 : Int32).toInt.toNat + 1) a 0 (by first | exact Nat.zero_le _ | decide) (by omega)
        refine V_iinc (v := (nI (j + 1))) (L2 := [(2, .int (nI (j + 1))), (0, .ref (ad 3 0 0)), (1, .int a12), (3, .int (nI i12))]) dX3_restingPairs_36 2 rfl (nI_1 _) (by decide) rfl ?_
        refine V_goto (tgt := 4) dX3_restingPairs_39 (by decide) ?_
        refine V_rp (R2 := F_X3_restingPairs_4 g4  K n a12 (j + 1)) (by rfl) ?_
        refine V_lp [1, 2, 0] rfl ?_
        exact ih a12 (j + 1) (by exact (lp_up hj c_7 hm).1) (by exact (lp_up hj c_7 hm).2) 
set_option maxRecDepth 100000 in
set_option maxHeartbeats 4000000 in
theorem k_X3_restingPairs (l : Launch) (G : mm_G) {pr : Nat → Nat → Prop} {ad : Nat → Nat → Nat → Nat} (hw : mm_W pr) (g : mm_g)  : Mt l G yX3_restingPairs cX3_restingPairs 4 (some .int) (rmk 3 106) [.ref (ad 3 0 0)] pr ad g (qI pr ad g (F_X3_restingPairs g)) 0 0 := by
  refine Mt_of (by decide) (Nat.le_of_ble_eq_true rfl) ?_
  show V l G RX3 cX3_restingPairs 4 (some .int) _ _ 0 0 0 0 0 [(0, .ref (ad 3 0 0))] [] pr ad g
  refine V_iconst (v := 0) dX3_restingPairs_0 (by decide) ?_
  refine V_istore_n (L2 := [(1, .int 0), (0, .ref (ad 3 0 0))]) dX3_restingPairs_1 (by decide) rfl ?_
  refine V_iconst (v := 0) dX3_restingPairs_2 (by decide) ?_
  refine V_istore_n (L2 := [(2, .int 0), (1, .int 0), (0, .ref (ad 3 0 0))]) dX3_restingPairs_3 (by decide) rfl ?_
  refine V_rp (R2 := F_X3_restingPairs_4 g  (fun (a4 : Int32) (j4 : Nat) => a4) ((9 : Int32).toInt.toNat + 1) 0 0) (by simp only [F_X3_restingPairs]) ?_
  refine V_lp [2, 1, 0] rfl ?_
  refine w_X3_restingPairs_4 l G hw g    _ (fun a4 j4 hj4 => ?_) ((9 : Int32).toInt.toNat + 1) 0 0 (by first | exact Nat.zero_le _ | decide) (by omega)
  refine V_iload_n dX3_restingPairs_42 1 rfl ?_
  exact V_iret dX3_restingPairs_43 rfl (lfI (by rfl))
def F_X3_firstResting_10 (g10 : mm_g) (j : Nat) (K : Nat → Int32) : Nat → Nat → Int32
  | 0, i => K i
  | n + 1, i => (if 9 ≤ (nI i) then K i else (if (F_X3_isResting g10 (nI j) (nI i)) = 0 then F_X3_firstResting_10 g10 j K n (i + 1) else ((10 * (nI j)) + (nI i))))
def F_X3_firstResting_2 (g2 : mm_g) (K : Nat → Int32) : Nat → Nat → Int32
  | 0, j => K j
  | n + 1, j => (if 9 ≤ (nI j) then K j else (F_X3_firstResting_10 g2 j (fun (i10 : Nat) => F_X3_firstResting_2 g2  K n (j + 1)) ((9 : Int32).toInt.toNat + 1) 0))
def F_X3_firstResting (g : mm_g) : Int32 := (F_X3_firstResting_2 g  (fun (j2 : Nat) => (-1000000)) ((9 : Int32).toInt.toNat + 1) 0)
set_option maxRecDepth 100000 in
set_option maxHeartbeats 4000000 in
theorem w_X3_firstResting_10 (l : Launch) (G : mm_G) {pr : Nat → Nat → Prop} {ad : Nat → Nat → Nat → Nat} (hw : mm_W pr) (g10 : mm_g) (j : Nat)  (K : Nat → Int32) (hK : ∀ (i : Nat) (hi : i ≤ (9 : Int32).toInt.toNat), V l G RX3 cX3_firstResting 3 (some .int) (rmk 3 106) (qI pr ad g10 (K i)) 0 0 0 0 38 [(0, .ref (ad 3 0 0)), (1, .int (nI j)), (2, .int (nI i))] [] pr ad g10) : ∀ (n : Nat) (i : Nat) (hi : i ≤ (9 : Int32).toInt.toNat) (hm : (9 : Int32).toInt.toNat - i < n), V l G RX3 cX3_firstResting 3 (some .int) (rmk 3 106) (qI pr ad g10 (F_X3_firstResting_10 g10 j K n i)) 0 0 0 0 10 [(0, .ref (ad 3 0 0)), (1, .int (nI j)), (2, .int (nI i))] [] pr ad g10 := by
  intro n
  induction n with
  | zero => intro i hi hm; exact absurd hm (Nat.not_lt_zero _)
  | succ n ih =>
      intro i hi hm
      refine V_iload_n dX3_firstResting_10 2 rfl ?_
      refine V_bipush (v := 9) dX3_firstResting_11 (by decide) ?_
      refine V_ic_ge (tgt := 38) dX3_firstResting_13 (by decide) (fun c_13 => ?_) (fun c_13 => ?_)
      · refine V_rp (R2 := K i) (by simp only [F_X3_firstResting_10, if_pos c_13]) ?_
        refine V_lp [0, 1, 2] rfl ?_
        exact hK i (by assumption)
      · refine V_aload_n dX3_firstResting_16 0 rfl ?_
        refine V_iload_n dX3_firstResting_17 1 rfl ?_
        refine V_iload_n dX3_firstResting_18 2 rfl ?_
        refine V_cV (k_X3_isResting l G hw g10  (nI j) (nI i) ) hy_X3_isResting hi_X3_isResting hs_X3_isResting q_695 rfl rfl (W_3 hw) rfl rfl rfl rfl rfl ⟨by decide, by decide⟩ (Nat.le_of_ble_eq_true rfl) ⟨by decide, by decide⟩ dX3_firstResting_19 (V_kI ?_)
        refine V_if_eq (tgt := 32) dX3_firstResting_22 (by decide) (fun c_22 => ?_) (fun c_22 => ?_)
        · refine V_iinc (v := (nI (i + 1))) (L2 := [(2, .int (nI (i + 1))), (0, .ref (ad 3 0 0)), (1, .int (nI j))]) dX3_firstResting_32 2 rfl (nI_1 _) (by decide) rfl ?_
          refine V_goto (tgt := 10) dX3_firstResting_35 (by decide) ?_
          refine V_rp (R2 := F_X3_firstResting_10 g10 j K n (i + 1)) (by simp only [F_X3_firstResting_10, if_neg c_13, if_pos c_22]) ?_
          refine V_lp [1, 2, 0] rfl ?_
          exact ih (i + 1) (by exact (lp_up hi c_13 hm).1) (by exact (lp_up hi c_13 hm).2) 
        · refine V_bipush (v := 10) dX3_firstResting_25 (by decide) ?_
          refine V_iload_n dX3_firstResting_27 1 rfl ?_
          refine V_imul dX3_firstResting_28 ?_
          refine V_iload_n dX3_firstResting_29 2 rfl ?_
          refine V_iadd dX3_firstResting_30 ?_
          exact V_iret dX3_firstResting_31 rfl (lfI (by simp only [F_X3_firstResting_10, if_neg c_13, if_neg c_22]))
set_option maxRecDepth 100000 in
set_option maxHeartbeats 4000000 in
theorem w_X3_firstResting_2 (l : Launch) (G : mm_G) {pr : Nat → Nat → Prop} {ad : Nat → Nat → Nat → Nat} (hw : mm_W pr) (g2 : mm_g)  (K : Nat → Int32) (hK : ∀ (j : Nat) (hj : j ≤ (9 : Int32).toInt.toNat), V l G RX3 cX3_firstResting 3 (some .int) (rmk 3 106) (qI pr ad g2 (K j)) 0 0 0 0 44 [(0, .ref (ad 3 0 0)), (1, .int (nI j))] [] pr ad g2) : ∀ (n : Nat) (j : Nat) (hj : j ≤ (9 : Int32).toInt.toNat) (hm : (9 : Int32).toInt.toNat - j < n), V l G RX3 cX3_firstResting 3 (some .int) (rmk 3 106) (qI pr ad g2 (F_X3_firstResting_2 g2  K n j)) 0 0 0 0 2 [(0, .ref (ad 3 0 0)), (1, .int (nI j))] [] pr ad g2 := by
  intro n
  induction n with
  | zero => intro j hj hm; exact absurd hm (Nat.not_lt_zero _)
  | succ n ih =>
      intro j hj hm
      refine V_iload_n dX3_firstResting_2 1 rfl ?_
      refine V_bipush (v := 9) dX3_firstResting_3 (by decide) ?_
      refine V_ic_ge (tgt := 44) dX3_firstResting_5 (by decide) (fun c_5 => ?_) (fun c_5 => ?_)
      · refine V_rp (R2 := K j) (by simp only [F_X3_firstResting_2, if_pos c_5]) ?_
        refine V_lp [0, 1] rfl ?_
        exact hK j (by assumption)
      · refine V_iconst (v := 0) dX3_firstResting_8 (by decide) ?_
        refine V_istore_n (L2 := [(2, .int 0), (0, .ref (ad 3 0 0)), (1, .int (nI j))]) dX3_firstResting_9 (by decide) rfl ?_
        refine V_rp (R2 := F_X3_firstResting_10 g2 j (fun (i10 : Nat) => F_X3_firstResting_2 g2  K n (j + 1)) ((9 : Int32).toInt.toNat + 1) 0) (by simp only [F_X3_firstResting_2, if_neg c_5]) ?_
        refine V_lp [1, 2, 0] rfl ?_
        refine w_X3_firstResting_10 l G hw g2 j   _ (fun i10 hi10 => ?_) ((9 : Int32).toInt.toNat + 1) 0 (by first | exact Nat.zero_le _ | decide) (by omega)
        refine V_iinc (v := (nI (j + 1))) (L2 := [(1, .int (nI (j + 1))), (0, .ref (ad 3 0 0)), (2, .int (nI i10))]) dX3_firstResting_38 1 rfl (nI_1 _) (by decide) rfl ?_
        refine V_goto (tgt := 2) dX3_firstResting_41 (by decide) ?_
        refine V_rp (R2 := F_X3_firstResting_2 g2  K n (j + 1)) (by rfl) ?_
        refine V_lp [1, 0] rfl ?_
        exact ih (j + 1) (by exact (lp_up hj c_5 hm).1) (by exact (lp_up hj c_5 hm).2) 
set_option maxRecDepth 100000 in
set_option maxHeartbeats 4000000 in
theorem k_X3_firstResting (l : Launch) (G : mm_G) {pr : Nat → Nat → Prop} {ad : Nat → Nat → Nat → Nat} (hw : mm_W pr) (g : mm_g)  : Mt l G yX3_firstResting cX3_firstResting 3 (some .int) (rmk 3 106) [.ref (ad 3 0 0)] pr ad g (qI pr ad g (F_X3_firstResting g)) 0 0 := by
  refine Mt_of (by decide) (Nat.le_of_ble_eq_true rfl) ?_
  show V l G RX3 cX3_firstResting 3 (some .int) _ _ 0 0 0 0 0 [(0, .ref (ad 3 0 0))] [] pr ad g
  refine V_iconst (v := 0) dX3_firstResting_0 (by decide) ?_
  refine V_istore_n (L2 := [(1, .int 0), (0, .ref (ad 3 0 0))]) dX3_firstResting_1 (by decide) rfl ?_
  refine V_rp (R2 := F_X3_firstResting_2 g  (fun (j2 : Nat) => (-1000000)) ((9 : Int32).toInt.toNat + 1) 0) (by simp only [F_X3_firstResting]) ?_
  refine V_lp [1, 0] rfl ?_
  refine w_X3_firstResting_2 l G hw g    _ (fun j2 hj2 => ?_) ((9 : Int32).toInt.toNat + 1) 0 (by first | exact Nat.zero_le _ | decide) (by omega)
  refine V_ldc q_631 dX3_firstResting_44 ?_
  exact V_iret dX3_firstResting_46 rfl (lfI (by rfl))
def F_X3_weighBeds_2 (k2 : Nat) (x1 : Int32) (K : Nat → mm_g → mm_g) : Nat → Nat → mm_g → mm_g
  | 0, j, s => K j s
  | n + 1, j, s => (if 9 ≤ (nI j) then K j s else (if (F_X2_has s k2 (nI j)) = 0 then F_X3_weighBeds_2 k2 x1 K n (j + 1) (wr s 3 2 (nI j).toNatClampNeg 0) else (if (F_X2_hasVeto s k2 (nI j)) = 0 then F_X3_weighBeds_2 k2 x1 K n (j + 1) (wr s 3 2 (nI j).toNatClampNeg (F_X2_gainBy s k2 (nI j) x1)) else F_X3_weighBeds_2 k2 x1 K n (j + 1) (wr s 3 2 (nI j).toNatClampNeg 0))))
def F_X3_weighBeds (g : mm_g) (k2 : Nat) (x1 : Int32) : mm_g := (F_X3_weighBeds_2 k2 x1 (fun (j2 : Nat) (s2 : mm_g) => s2) ((9 : Int32).toInt.toNat + 1) 0 g)
set_option maxRecDepth 100000 in
set_option maxHeartbeats 4000000 in
theorem w_X3_weighBeds_2 (l : Launch) (G : mm_G) {pr : Nat → Nat → Prop} {ad : Nat → Nat → Nat → Nat} (hw : mm_W pr) (k2 : Nat) (x1 : Int32)  (hk2 : pr 2 k2) (K : Nat → mm_g → mm_g) (hK : ∀ (j : Nat) (s : mm_g) (hj : j ≤ (9 : Int32).toInt.toNat), V l G RX3 cX3_weighBeds 4 none (rmk 4 128) (qN pr ad (K j s)) 0 0 0 0 46 [(0, .ref (ad 3 0 0)), (1, .ref (ad 2 k2 0)), (2, .int x1), (3, .int (nI j))] [] pr ad s) : ∀ (n : Nat) (j : Nat) (s : mm_g) (hj : j ≤ (9 : Int32).toInt.toNat) (hm : (9 : Int32).toInt.toNat - j < n), V l G RX3 cX3_weighBeds 4 none (rmk 4 128) (qN pr ad (F_X3_weighBeds_2 k2 x1 K n j s)) 0 0 0 0 2 [(0, .ref (ad 3 0 0)), (1, .ref (ad 2 k2 0)), (2, .int x1), (3, .int (nI j))] [] pr ad s := by
  intro n
  induction n with
  | zero => intro j s hj hm; exact absurd hm (Nat.not_lt_zero _)
  | succ n ih =>
      intro j s hj hm
      refine V_iload_n dX3_weighBeds_2 3 rfl ?_
      refine V_bipush (v := 9) dX3_weighBeds_3 (by decide) ?_
      refine V_ic_ge (tgt := 46) dX3_weighBeds_5 (by decide) (fun c_5 => ?_) (fun c_5 => ?_)
      · refine V_rp (R2 := K j s) (by simp only [F_X3_weighBeds_2, if_pos c_5]) ?_
        refine V_lp [0, 1, 2, 3] rfl ?_
        exact hK j s (by assumption)
      · refine V_aload_n dX3_weighBeds_8 0 rfl ?_
        refine V_get (i := 2) inlX3 rfl (W_3 hw) rfl (by decide) q_80 rfl dX3_weighBeds_9 ?_
        refine V_iload_n dX3_weighBeds_12 3 rfl ?_
        refine V_aload_n dX3_weighBeds_13 1 rfl ?_
        refine V_iload_n dX3_weighBeds_14 3 rfl ?_
        refine V_cV (k_X2_has l G hw s hk2 (nI j) ) hy_X2_has hi_X2_has hs_X2_has q_720 rfl rfl hk2 rfl rfl rfl rfl rfl ⟨by decide, by decide⟩ (Nat.le_of_ble_eq_true rfl) ⟨by decide, by decide⟩ dX3_weighBeds_15 (V_kI ?_)
        refine V_if_eq (tgt := 38) dX3_weighBeds_18 (by decide) (fun c_18 => ?_) (fun c_18 => ?_)
        · refine V_iconst (v := 0) dX3_weighBeds_38 (by decide) ?_
          refine S_3_2 (W_3 hw) (by exact ix_x hj c_5 (by decide)) dX3_weighBeds_39 ?_
          refine V_iinc (v := (nI (j + 1))) (L2 := [(3, .int (nI (j + 1))), (0, .ref (ad 3 0 0)), (1, .ref (ad 2 k2 0)), (2, .int x1)]) dX3_weighBeds_40 3 rfl (nI_1 _) (by decide) rfl ?_
          refine V_goto (tgt := 2) dX3_weighBeds_43 (by decide) ?_
          refine V_rp (R2 := F_X3_weighBeds_2 k2 x1 K n (j + 1) (wr s 3 2 (nI j).toNatClampNeg 0)) (by simp only [F_X3_weighBeds_2, if_neg c_5, if_pos c_18]) ?_
          refine V_lp [1, 2, 3, 0] rfl ?_
          exact ih (j + 1) (wr s 3 2 (nI j).toNatClampNeg 0) (by exact (lp_up hj c_5 hm).1) (by exact (lp_up hj c_5 hm).2) 
        · refine V_aload_n dX3_weighBeds_21 1 rfl ?_
          refine V_iload_n dX3_weighBeds_22 3 rfl ?_
          refine V_cV (k_X2_hasVeto l G hw s hk2 (nI j) ) hy_X2_hasVeto hi_X2_hasVeto hs_X2_hasVeto q_721 rfl rfl hk2 rfl rfl rfl rfl rfl ⟨by decide, by decide⟩ (Nat.le_of_ble_eq_true rfl) ⟨by decide, by decide⟩ dX3_weighBeds_23 (V_kI ?_)
          refine V_if_ne (tgt := 38) dX3_weighBeds_26 (by decide) (fun c_26 => ?_) (fun c_26 => ?_)
          · refine V_iconst (v := 0) dX3_weighBeds_38 (by decide) ?_
            refine S_3_2 (W_3 hw) (by exact ix_x hj c_5 (by decide)) dX3_weighBeds_39 ?_
            refine V_iinc (v := (nI (j + 1))) (L2 := [(3, .int (nI (j + 1))), (0, .ref (ad 3 0 0)), (1, .ref (ad 2 k2 0)), (2, .int x1)]) dX3_weighBeds_40 3 rfl (nI_1 _) (by decide) rfl ?_
            refine V_goto (tgt := 2) dX3_weighBeds_43 (by decide) ?_
            refine V_rp (R2 := F_X3_weighBeds_2 k2 x1 K n (j + 1) (wr s 3 2 (nI j).toNatClampNeg 0)) (by simp only [F_X3_weighBeds_2, if_neg c_5, if_neg c_18, if_neg c_26]) ?_
            refine V_lp [1, 2, 3, 0] rfl ?_
            exact ih (j + 1) (wr s 3 2 (nI j).toNatClampNeg 0) (by exact (lp_up hj c_5 hm).1) (by exact (lp_up hj c_5 hm).2) 
          · refine V_aload_n dX3_weighBeds_29 1 rfl ?_
            refine V_iload_n dX3_weighBeds_30 3 rfl ?_
            refine V_iload_n dX3_weighBeds_31 2 rfl ?_
            refine V_cV (k_X2_gainBy l G hw s hk2 (nI j) x1 ) hy_X2_gainBy hi_X2_gainBy hs_X2_gainBy q_722 rfl rfl hk2 rfl rfl rfl rfl rfl ⟨by decide, by decide⟩ (Nat.le_of_ble_eq_true rfl) ⟨by decide, by decide⟩ dX3_weighBeds_32 (V_kI ?_)
            refine V_goto (tgt := 39) dX3_weighBeds_35 (by decide) ?_
            refine S_3_2 (W_3 hw) (by exact ix_x hj c_5 (by decide)) dX3_weighBeds_39 ?_
            refine V_iinc (v := (nI (j + 1))) (L2 := [(3, .int (nI (j + 1))), (0, .ref (ad 3 0 0)), (1, .ref (ad 2 k2 0)), (2, .int x1)]) dX3_weighBeds_40 3 rfl (nI_1 _) (by decide) rfl ?_
            refine V_goto (tgt := 2) dX3_weighBeds_43 (by decide) ?_
            refine V_rp (R2 := F_X3_weighBeds_2 k2 x1 K n (j + 1) (wr s 3 2 (nI j).toNatClampNeg (F_X2_gainBy s k2 (nI j) x1))) (by simp only [F_X3_weighBeds_2, if_neg c_5, if_neg c_18, if_pos c_26]) ?_
            refine V_lp [1, 2, 3, 0] rfl ?_
            exact ih (j + 1) (wr s 3 2 (nI j).toNatClampNeg (F_X2_gainBy s k2 (nI j) x1)) (by exact (lp_up hj c_5 hm).1) (by exact (lp_up hj c_5 hm).2) 
set_option maxRecDepth 100000 in
set_option maxHeartbeats 4000000 in
theorem k_X3_weighBeds (l : Launch) (G : mm_G) {pr : Nat → Nat → Prop} {ad : Nat → Nat → Nat → Nat} (hw : mm_W pr) (g : mm_g) {k2 : Nat} (hk2 : pr 2 k2) (x1 : Int32)  : Mt l G yX3_weighBeds cX3_weighBeds 4 none (rmk 4 128) [.ref (ad 3 0 0), .ref (ad 2 k2 0), .int x1] pr ad g (qN pr ad (F_X3_weighBeds g k2 x1)) 0 0 := by
  refine Mt_of (by decide) (Nat.le_of_ble_eq_true rfl) ?_
  show V l G RX3 cX3_weighBeds 4 none _ _ 0 0 0 0 0 [(0, .ref (ad 3 0 0)), (1, .ref (ad 2 k2 0)), (2, .int x1)] [] pr ad g
  refine V_iconst (v := 0) dX3_weighBeds_0 (by decide) ?_
  refine V_istore_n (L2 := [(3, .int 0), (0, .ref (ad 3 0 0)), (1, .ref (ad 2 k2 0)), (2, .int x1)]) dX3_weighBeds_1 (by decide) rfl ?_
  refine V_rp (R2 := F_X3_weighBeds_2 k2 x1 (fun (j2 : Nat) (s2 : mm_g) => s2) ((9 : Int32).toInt.toNat + 1) 0 g) (by simp only [F_X3_weighBeds]) ?_
  refine V_lp [1, 2, 3, 0] rfl ?_
  refine w_X3_weighBeds_2 l G hw k2 x1 hk2  _ (fun j2 s2 hj2 => ?_) ((9 : Int32).toInt.toNat + 1) 0 g (by first | exact Nat.zero_le _ | decide) (by omega)
  exact V_vret dX3_weighBeds_46 rfl (lfN (by rfl))
def F_X3_gainOfAll_4 (g4 : mm_g) (x1 : Int32) (K : Int32 → Nat → Int32) : Nat → Int32 → Nat → Int32
  | 0, a, j => K a j
  | n + 1, a, j => (if 9 ≤ (nI j) then K a j else (if ((x1 >>> ((nI j) &&& 31)) &&& 1) = 1 then F_X3_gainOfAll_4 g4 x1 K n (a + (g4 3 2 (nI j).toNatClampNeg)) (j + 1) else F_X3_gainOfAll_4 g4 x1 K n a (j + 1)))
def F_X3_gainOfAll (g : mm_g) (x1 : Int32) : Int32 := (F_X3_gainOfAll_4 g x1 (fun (a4 : Int32) (j4 : Nat) => a4) ((9 : Int32).toInt.toNat + 1) 0 0)
set_option maxRecDepth 100000 in
set_option maxHeartbeats 4000000 in
theorem w_X3_gainOfAll_4 (l : Launch) (G : mm_G) {pr : Nat → Nat → Prop} {ad : Nat → Nat → Nat → Nat} (hw : mm_W pr) (g4 : mm_g) (x1 : Int32)  (K : Int32 → Nat → Int32) (hK : ∀ (a : Int32) (j : Nat) (hj : j ≤ (9 : Int32).toInt.toNat), V l G RX3 cX3_gainOfAll 4 (some .int) (rmk 1 60) (qI pr ad g4 (K a j)) 0 0 0 0 34 [(0, .ref (ad 3 0 0)), (1, .int x1), (2, .int a), (3, .int (nI j))] [] pr ad g4) : ∀ (n : Nat) (a : Int32) (j : Nat) (hj : j ≤ (9 : Int32).toInt.toNat) (hm : (9 : Int32).toInt.toNat - j < n), V l G RX3 cX3_gainOfAll 4 (some .int) (rmk 1 60) (qI pr ad g4 (F_X3_gainOfAll_4 g4 x1 K n a j)) 0 0 0 0 4 [(0, .ref (ad 3 0 0)), (1, .int x1), (2, .int a), (3, .int (nI j))] [] pr ad g4 := by
  intro n
  induction n with
  | zero => intro a j hj hm; exact absurd hm (Nat.not_lt_zero _)
  | succ n ih =>
      intro a j hj hm
      refine V_iload_n dX3_gainOfAll_4 3 rfl ?_
      refine V_bipush (v := 9) dX3_gainOfAll_5 (by decide) ?_
      refine V_ic_ge (tgt := 34) dX3_gainOfAll_7 (by decide) (fun c_7 => ?_) (fun c_7 => ?_)
      · refine V_rp (R2 := K a j) (by simp only [F_X3_gainOfAll_4, if_pos c_7]) ?_
        refine V_lp [0, 1, 2, 3] rfl ?_
        exact hK a j (by assumption)
      · refine V_iload_n dX3_gainOfAll_10 1 rfl ?_
        refine V_iload_n dX3_gainOfAll_11 3 rfl ?_
        refine V_ishr dX3_gainOfAll_12 ?_
        refine V_iconst (v := 1) dX3_gainOfAll_13 (by decide) ?_
        refine V_iand dX3_gainOfAll_14 ?_
        refine V_iconst (v := 1) dX3_gainOfAll_15 (by decide) ?_
        refine V_ic_ne (tgt := 28) dX3_gainOfAll_16 (by decide) (fun c_16 => ?_) (fun c_16 => ?_)
        · refine V_iinc (v := (nI (j + 1))) (L2 := [(3, .int (nI (j + 1))), (0, .ref (ad 3 0 0)), (1, .int x1), (2, .int a)]) dX3_gainOfAll_28 3 rfl (nI_1 _) (by decide) rfl ?_
          refine V_goto (tgt := 4) dX3_gainOfAll_31 (by decide) ?_
          refine V_rp (R2 := F_X3_gainOfAll_4 g4 x1 K n a (j + 1)) (by simp only [F_X3_gainOfAll_4, if_neg c_7, if_neg c_16]) ?_
          refine V_lp [1, 2, 3, 0] rfl ?_
          exact ih a (j + 1) (by exact (lp_up hj c_7 hm).1) (by exact (lp_up hj c_7 hm).2) 
        · refine V_iload_n dX3_gainOfAll_19 2 rfl ?_
          refine V_aload_n dX3_gainOfAll_20 0 rfl ?_
          refine V_get (i := 2) inlX3 rfl (W_3 hw) rfl (by decide) q_80 rfl dX3_gainOfAll_21 ?_
          refine V_iload_n dX3_gainOfAll_24 3 rfl ?_
          refine L_3_2 (W_3 hw) (by exact ix_x hj c_7 (by decide)) dX3_gainOfAll_25 ?_
          refine V_iadd dX3_gainOfAll_26 ?_
          refine V_istore_n (L2 := [(2, .int (a + (g4 3 2 (nI j).toNatClampNeg))), (0, .ref (ad 3 0 0)), (1, .int x1), (3, .int (nI j))]) dX3_gainOfAll_27 (by decide) rfl ?_
          refine V_iinc (v := (nI (j + 1))) (L2 := [(3, .int (nI (j + 1))), (2, .int (a + (g4 3 2 (nI j).toNatClampNeg))), (0, .ref (ad 3 0 0)), (1, .int x1)]) dX3_gainOfAll_28 3 rfl (nI_1 _) (by decide) rfl ?_
          refine V_goto (tgt := 4) dX3_gainOfAll_31 (by decide) ?_
          refine V_rp (R2 := F_X3_gainOfAll_4 g4 x1 K n (a + (g4 3 2 (nI j).toNatClampNeg)) (j + 1)) (by simp only [F_X3_gainOfAll_4, if_neg c_7, if_pos c_16]) ?_
          refine V_lp [2, 3, 1, 0] rfl ?_
          exact ih (a + (g4 3 2 (nI j).toNatClampNeg)) (j + 1) (by exact (lp_up hj c_7 hm).1) (by exact (lp_up hj c_7 hm).2) 
set_option maxRecDepth 100000 in
set_option maxHeartbeats 4000000 in
theorem k_X3_gainOfAll (l : Launch) (G : mm_G) {pr : Nat → Nat → Prop} {ad : Nat → Nat → Nat → Nat} (hw : mm_W pr) (g : mm_g) (x1 : Int32)  : Mt l G yX3_gainOfAll cX3_gainOfAll 4 (some .int) (rmk 1 60) [.ref (ad 3 0 0), .int x1] pr ad g (qI pr ad g (F_X3_gainOfAll g x1)) 0 0 := by
  refine Mt_of (by decide) (Nat.le_of_ble_eq_true rfl) ?_
  show V l G RX3 cX3_gainOfAll 4 (some .int) _ _ 0 0 0 0 0 [(0, .ref (ad 3 0 0)), (1, .int x1)] [] pr ad g
  refine V_iconst (v := 0) dX3_gainOfAll_0 (by decide) ?_
  refine V_istore_n (L2 := [(2, .int 0), (0, .ref (ad 3 0 0)), (1, .int x1)]) dX3_gainOfAll_1 (by decide) rfl ?_
  refine V_iconst (v := 0) dX3_gainOfAll_2 (by decide) ?_
  refine V_istore_n (L2 := [(3, .int 0), (2, .int 0), (0, .ref (ad 3 0 0)), (1, .int x1)]) dX3_gainOfAll_3 (by decide) rfl ?_
  refine V_rp (R2 := F_X3_gainOfAll_4 g x1 (fun (a4 : Int32) (j4 : Nat) => a4) ((9 : Int32).toInt.toNat + 1) 0 0) (by simp only [F_X3_gainOfAll]) ?_
  refine V_lp [2, 3, 1, 0] rfl ?_
  refine w_X3_gainOfAll_4 l G hw g x1   _ (fun a4 j4 hj4 => ?_) ((9 : Int32).toInt.toNat + 1) 0 0 (by first | exact Nat.zero_le _ | decide) (by omega)
  refine V_iload_n dX3_gainOfAll_34 2 rfl ?_
  exact V_iret dX3_gainOfAll_35 rfl (lfI (by rfl))
def F_X3_gainBetween_5 (g5 : mm_g) (x1 : Int32) (x2 : Int32) (K : Int32 → Nat → Int32) : Nat → Int32 → Nat → Int32
  | 0, a, j => K a j
  | n + 1, a, j => (if 9 ≤ (nI j) then K a j else (if (nI j) < x1 then F_X3_gainBetween_5 g5 x1 x2 K n a (j + 1) else (if x2 ≤ (nI j) then F_X3_gainBetween_5 g5 x1 x2 K n a (j + 1) else F_X3_gainBetween_5 g5 x1 x2 K n (a + (g5 3 2 (nI j).toNatClampNeg)) (j + 1))))
def F_X3_gainBetween (g : mm_g) (x1 : Int32) (x2 : Int32) : Int32 := (F_X3_gainBetween_5 g x1 x2 (fun (a5 : Int32) (j5 : Nat) => a5) ((9 : Int32).toInt.toNat + 1) 0 0)
set_option maxRecDepth 100000 in
set_option maxHeartbeats 4000000 in
theorem w_X3_gainBetween_5 (l : Launch) (G : mm_G) {pr : Nat → Nat → Prop} {ad : Nat → Nat → Nat → Nat} (hw : mm_W pr) (g5 : mm_g) (x1 : Int32) (x2 : Int32)  (K : Int32 → Nat → Int32) (hK : ∀ (a : Int32) (j : Nat) (hj : j ≤ (9 : Int32).toInt.toNat), V l G RX3 cX3_gainBetween 5 (some .int) (rmk 1 60) (qI pr ad g5 (K a j)) 0 0 0 0 40 [(0, .ref (ad 3 0 0)), (1, .int x1), (2, .int x2), (3, .int a), (4, .int (nI j))] [] pr ad g5) : ∀ (n : Nat) (a : Int32) (j : Nat) (hj : j ≤ (9 : Int32).toInt.toNat) (hm : (9 : Int32).toInt.toNat - j < n), V l G RX3 cX3_gainBetween 5 (some .int) (rmk 1 60) (qI pr ad g5 (F_X3_gainBetween_5 g5 x1 x2 K n a j)) 0 0 0 0 5 [(0, .ref (ad 3 0 0)), (1, .int x1), (2, .int x2), (3, .int a), (4, .int (nI j))] [] pr ad g5 := by
  intro n
  induction n with
  | zero => intro a j hj hm; exact absurd hm (Nat.not_lt_zero _)
  | succ n ih =>
      intro a j hj hm
      refine V_iload dX3_gainBetween_5 4 rfl ?_
      refine V_bipush (v := 9) dX3_gainBetween_7 (by decide) ?_
      refine V_ic_ge (tgt := 40) dX3_gainBetween_9 (by decide) (fun c_9 => ?_) (fun c_9 => ?_)
      · refine V_rp (R2 := K a j) (by simp only [F_X3_gainBetween_5, if_pos c_9]) ?_
        refine V_lp [0, 1, 2, 3, 4] rfl ?_
        exact hK a j (by assumption)
      · refine V_iload dX3_gainBetween_12 4 rfl ?_
        refine V_iload_n dX3_gainBetween_14 1 rfl ?_
        refine V_ic_lt (tgt := 34) dX3_gainBetween_15 (by decide) (fun c_15 => ?_) (fun c_15 => ?_)
        · refine V_iinc (v := (nI (j + 1))) (L2 := [(4, .int (nI (j + 1))), (0, .ref (ad 3 0 0)), (1, .int x1), (2, .int x2), (3, .int a)]) dX3_gainBetween_34 4 rfl (nI_1 _) (by decide) rfl ?_
          refine V_goto (tgt := 5) dX3_gainBetween_37 (by decide) ?_
          refine V_rp (R2 := F_X3_gainBetween_5 g5 x1 x2 K n a (j + 1)) (by simp only [F_X3_gainBetween_5, if_neg c_9, if_pos c_15]) ?_
          refine V_lp [1, 2, 3, 4, 0] rfl ?_
          exact ih a (j + 1) (by exact (lp_up hj c_9 hm).1) (by exact (lp_up hj c_9 hm).2) 
        · refine V_iload dX3_gainBetween_18 4 rfl ?_
          refine V_iload_n dX3_gainBetween_20 2 rfl ?_
          refine V_ic_ge (tgt := 34) dX3_gainBetween_21 (by decide) (fun c_21 => ?_) (fun c_21 => ?_)
          · refine V_iinc (v := (nI (j + 1))) (L2 := [(4, .int (nI (j + 1))), (0, .ref (ad 3 0 0)), (1, .int x1), (2, .int x2), (3, .int a)]) dX3_gainBetween_34 4 rfl (nI_1 _) (by decide) rfl ?_
            refine V_goto (tgt := 5) dX3_gainBetween_37 (by decide) ?_
            refine V_rp (R2 := F_X3_gainBetween_5 g5 x1 x2 K n a (j + 1)) (by simp only [F_X3_gainBetween_5, if_neg c_9, if_neg c_15, if_pos c_21]) ?_
            refine V_lp [1, 2, 3, 4, 0] rfl ?_
            exact ih a (j + 1) (by exact (lp_up hj c_9 hm).1) (by exact (lp_up hj c_9 hm).2) 
          · refine V_iload_n dX3_gainBetween_24 3 rfl ?_
            refine V_aload_n dX3_gainBetween_25 0 rfl ?_
            refine V_get (i := 2) inlX3 rfl (W_3 hw) rfl (by decide) q_80 rfl dX3_gainBetween_26 ?_
            refine V_iload dX3_gainBetween_29 4 rfl ?_
            refine L_3_2 (W_3 hw) (by exact ix_x hj c_9 (by decide)) dX3_gainBetween_31 ?_
            refine V_iadd dX3_gainBetween_32 ?_
            refine V_istore_n (L2 := [(3, .int (a + (g5 3 2 (nI j).toNatClampNeg))), (0, .ref (ad 3 0 0)), (1, .int x1), (2, .int x2), (4, .int (nI j))]) dX3_gainBetween_33 (by decide) rfl ?_
            refine V_iinc (v := (nI (j + 1))) (L2 := [(4, .int (nI (j + 1))), (3, .int (a + (g5 3 2 (nI j).toNatClampNeg))), (0, .ref (ad 3 0 0)), (1, .int x1), (2, .int x2)]) dX3_gainBetween_34 4 rfl (nI_1 _) (by decide) rfl ?_
            refine V_goto (tgt := 5) dX3_gainBetween_37 (by decide) ?_
            refine V_rp (R2 := F_X3_gainBetween_5 g5 x1 x2 K n (a + (g5 3 2 (nI j).toNatClampNeg)) (j + 1)) (by simp only [F_X3_gainBetween_5, if_neg c_9, if_neg c_15, if_neg c_21]) ?_
            refine V_lp [2, 3, 4, 1, 0] rfl ?_
            exact ih (a + (g5 3 2 (nI j).toNatClampNeg)) (j + 1) (by exact (lp_up hj c_9 hm).1) (by exact (lp_up hj c_9 hm).2) 
set_option maxRecDepth 100000 in
set_option maxHeartbeats 4000000 in
theorem k_X3_gainBetween (l : Launch) (G : mm_G) {pr : Nat → Nat → Prop} {ad : Nat → Nat → Nat → Nat} (hw : mm_W pr) (g : mm_g) (x1 : Int32) (x2 : Int32)  : Mt l G yX3_gainBetween cX3_gainBetween 5 (some .int) (rmk 1 60) [.ref (ad 3 0 0), .int x1, .int x2] pr ad g (qI pr ad g (F_X3_gainBetween g x1 x2)) 0 0 := by
  refine Mt_of (by decide) (Nat.le_of_ble_eq_true rfl) ?_
  show V l G RX3 cX3_gainBetween 5 (some .int) _ _ 0 0 0 0 0 [(0, .ref (ad 3 0 0)), (1, .int x1), (2, .int x2)] [] pr ad g
  refine V_iconst (v := 0) dX3_gainBetween_0 (by decide) ?_
  refine V_istore_n (L2 := [(3, .int 0), (0, .ref (ad 3 0 0)), (1, .int x1), (2, .int x2)]) dX3_gainBetween_1 (by decide) rfl ?_
  refine V_iconst (v := 0) dX3_gainBetween_2 (by decide) ?_
  refine V_istore (L2 := [(4, .int 0), (3, .int 0), (0, .ref (ad 3 0 0)), (1, .int x1), (2, .int x2)]) dX3_gainBetween_3 (by decide) rfl ?_
  refine V_rp (R2 := F_X3_gainBetween_5 g x1 x2 (fun (a5 : Int32) (j5 : Nat) => a5) ((9 : Int32).toInt.toNat + 1) 0 0) (by simp only [F_X3_gainBetween]) ?_
  refine V_lp [2, 3, 4, 1, 0] rfl ?_
  refine w_X3_gainBetween_5 l G hw g x1 x2   _ (fun a5 j5 hj5 => ?_) ((9 : Int32).toInt.toNat + 1) 0 0 (by first | exact Nat.zero_le _ | decide) (by omega)
  refine V_iload_n dX3_gainBetween_40 3 rfl ?_
  exact V_iret dX3_gainBetween_41 rfl (lfI (by rfl))
