def F_X5_length (g : mm_g) : Int32 := (g 5 0 0)
set_option maxRecDepth 100000 in
set_option maxHeartbeats 4000000 in
theorem k_X5_length (l : Launch) (G : mm_G) {pr : Nat → Nat → Prop} {ad : Nat → Nat → Nat → Nat} (hw : mm_W pr) (g : mm_g)  : Mt l G yX5_length cX5_length 1 (some .int) (rmk 1 60) [.ref (ad 5 0 0)] pr ad g (qI pr ad g (F_X5_length g)) 0 0 := by
  refine Mt_of (by decide) (Nat.le_of_ble_eq_true rfl) ?_
  show V l G RX5 cX5_length 1 (some .int) _ _ 0 0 0 0 0 [(0, .ref (ad 5 0 0))] [] pr ad g
  refine V_aload_n dX5_length_0 0 rfl ?_
  refine V_get (i := 1) inlX5 rfl (W_5 hw) rfl (by decide) q_51 rfl dX5_length_1 ?_
  exact V_iret dX5_length_4 rfl (lfI (by simp only [F_X5_length]))
def F_X5_append (g : mm_g) (x1 : Int32) : Int32 × mm_g := (if (g 5 0 0) < 0 then ((g 5 0 0), g) else (if 100 ≤ (g 5 0 0) then ((g 5 0 0), g) else (((wr (wr g 5 1 (g 5 0 0).toNatClampNeg x1) 5 0 0 (((wr g 5 1 (g 5 0 0).toNatClampNeg x1) 5 0 0) + 1)) 5 0 0), (wr (wr g 5 1 (g 5 0 0).toNatClampNeg x1) 5 0 0 (((wr g 5 1 (g 5 0 0).toNatClampNeg x1) 5 0 0) + 1)))))
set_option maxRecDepth 100000 in
set_option maxHeartbeats 4000000 in
theorem k_X5_append (l : Launch) (G : mm_G) {pr : Nat → Nat → Prop} {ad : Nat → Nat → Nat → Nat} (hw : mm_W pr) (g : mm_g) (x1 : Int32)  : Mt l G yX5_append cX5_append 2 (some .int) (rmk 1 60) [.ref (ad 5 0 0), .int x1] pr ad g (qM pr ad (F_X5_append g x1)) 0 0 := by
  refine Mt_of (by decide) (Nat.le_of_ble_eq_true rfl) ?_
  show V l G RX5 cX5_append 2 (some .int) _ _ 0 0 0 0 0 [(0, .ref (ad 5 0 0)), (1, .int x1)] [] pr ad g
  refine V_aload_n dX5_append_0 0 rfl ?_
  refine V_get (i := 1) inlX5 rfl (W_5 hw) rfl (by decide) q_51 rfl dX5_append_1 ?_
  refine V_if_lt (tgt := 36) dX5_append_4 (by decide) (fun c_4 => ?_) (fun c_4 => ?_)
  · refine V_aload_n dX5_append_36 0 rfl ?_
    refine V_get (i := 1) inlX5 rfl (W_5 hw) rfl (by decide) q_51 rfl dX5_append_37 ?_
    exact V_iret dX5_append_40 rfl (lfM (by simp only [F_X5_append, if_pos c_4]))
  · refine V_aload_n dX5_append_7 0 rfl ?_
    refine V_get (i := 1) inlX5 rfl (W_5 hw) rfl (by decide) q_51 rfl dX5_append_8 ?_
    refine V_bipush (v := 100) dX5_append_11 (by decide) ?_
    refine V_ic_ge (tgt := 36) dX5_append_13 (by decide) (fun c_13 => ?_) (fun c_13 => ?_)
    · refine V_aload_n dX5_append_36 0 rfl ?_
      refine V_get (i := 1) inlX5 rfl (W_5 hw) rfl (by decide) q_51 rfl dX5_append_37 ?_
      exact V_iret dX5_append_40 rfl (lfM (by simp only [F_X5_append, if_neg c_4, if_pos c_13]))
    · refine V_aload_n dX5_append_16 0 rfl ?_
      refine V_get (i := 0) inlX5 rfl (W_5 hw) rfl (by decide) q_50 rfl dX5_append_17 ?_
      refine V_aload_n dX5_append_20 0 rfl ?_
      refine V_get (i := 1) inlX5 rfl (W_5 hw) rfl (by decide) q_51 rfl dX5_append_21 ?_
      refine V_iload_n dX5_append_24 1 rfl ?_
      refine S_5_1 (W_5 hw) (by exact ixr c_4 c_13 rfl) dX5_append_25 ?_
      refine V_aload_n dX5_append_26 0 rfl ?_
      refine V_dup dX5_append_27 rfl ?_
      refine V_get (i := 1) inlX5 rfl (W_5 hw) rfl (by decide) q_51 rfl dX5_append_28 ?_
      refine V_iconst (v := 1) dX5_append_31 (by decide) ?_
      refine V_iadd dX5_append_32 ?_
      refine P_5_1 (W_5 hw) q_51 dX5_append_33 ?_
      refine V_aload_n dX5_append_36 0 rfl ?_
      refine V_get (i := 1) inlX5 rfl (W_5 hw) rfl (by decide) q_51 rfl dX5_append_37 ?_
      exact V_iret dX5_append_40 rfl (lfM (by simp only [F_X5_append, if_neg c_4, if_neg c_13]))
def F_X5_clear (g : mm_g) : mm_g := (wr g 5 0 0 0)
set_option maxRecDepth 100000 in
set_option maxHeartbeats 4000000 in
theorem k_X5_clear (l : Launch) (G : mm_G) {pr : Nat → Nat → Prop} {ad : Nat → Nat → Nat → Nat} (hw : mm_W pr) (g : mm_g)  : Mt l G yX5_clear cX5_clear 1 none (rmk 1 60) [.ref (ad 5 0 0)] pr ad g (qN pr ad (F_X5_clear g)) 0 0 := by
  refine Mt_of (by decide) (Nat.le_of_ble_eq_true rfl) ?_
  show V l G RX5 cX5_clear 1 none _ _ 0 0 0 0 0 [(0, .ref (ad 5 0 0))] [] pr ad g
  refine V_aload_n dX5_clear_0 0 rfl ?_
  refine V_iconst (v := 0) dX5_clear_1 (by decide) ?_
  refine P_5_1 (W_5 hw) q_51 dX5_clear_2 ?_
  exact V_vret dX5_clear_5 rfl (lfN (by simp only [F_X5_clear]))
def F_X5_readTo (g : mm_g) : Int32 := (g 5 0 1)
set_option maxRecDepth 100000 in
set_option maxHeartbeats 4000000 in
theorem k_X5_readTo (l : Launch) (G : mm_G) {pr : Nat → Nat → Prop} {ad : Nat → Nat → Nat → Nat} (hw : mm_W pr) (g : mm_g)  : Mt l G yX5_readTo cX5_readTo 1 (some .int) (rmk 1 60) [.ref (ad 5 0 0)] pr ad g (qI pr ad g (F_X5_readTo g)) 0 0 := by
  refine Mt_of (by decide) (Nat.le_of_ble_eq_true rfl) ?_
  show V l G RX5 cX5_readTo 1 (some .int) _ _ 0 0 0 0 0 [(0, .ref (ad 5 0 0))] [] pr ad g
  refine V_aload_n dX5_readTo_0 0 rfl ?_
  refine V_get (i := 2) inlX5 rfl (W_5 hw) rfl (by decide) q_52 rfl dX5_readTo_1 ?_
  exact V_iret dX5_readTo_4 rfl (lfI (by simp only [F_X5_readTo]))
def F_X5_letterAt (g : mm_g) (x1 : Int32) : Int32 := (if x1 < 0 then (-1) else (if (g 5 0 0) ≤ x1 then (-1) else (if 100 ≤ x1 then (-1) else (g 5 1 x1.toNatClampNeg))))
set_option maxRecDepth 100000 in
set_option maxHeartbeats 4000000 in
theorem k_X5_letterAt (l : Launch) (G : mm_G) {pr : Nat → Nat → Prop} {ad : Nat → Nat → Nat → Nat} (hw : mm_W pr) (g : mm_g) (x1 : Int32)  : Mt l G yX5_letterAt cX5_letterAt 2 (some .int) (rmk 1 60) [.ref (ad 5 0 0), .int x1] pr ad g (qI pr ad g (F_X5_letterAt g x1)) 0 0 := by
  refine Mt_of (by decide) (Nat.le_of_ble_eq_true rfl) ?_
  show V l G RX5 cX5_letterAt 2 (some .int) _ _ 0 0 0 0 0 [(0, .ref (ad 5 0 0)), (1, .int x1)] [] pr ad g
  refine V_iload_n dX5_letterAt_0 1 rfl ?_
  refine V_if_lt (tgt := 27) dX5_letterAt_1 (by decide) (fun c_1 => ?_) (fun c_1 => ?_)
  · refine V_iconst (v := (-1)) dX5_letterAt_27 (by decide) ?_
    exact V_iret dX5_letterAt_28 rfl (lfI (by simp only [F_X5_letterAt, if_pos c_1]))
  · refine V_iload_n dX5_letterAt_4 1 rfl ?_
    refine V_aload_n dX5_letterAt_5 0 rfl ?_
    refine V_get (i := 1) inlX5 rfl (W_5 hw) rfl (by decide) q_51 rfl dX5_letterAt_6 ?_
    refine V_ic_ge (tgt := 27) dX5_letterAt_9 (by decide) (fun c_9 => ?_) (fun c_9 => ?_)
    · refine V_iconst (v := (-1)) dX5_letterAt_27 (by decide) ?_
      exact V_iret dX5_letterAt_28 rfl (lfI (by simp only [F_X5_letterAt, if_neg c_1, if_pos c_9]))
    · refine V_iload_n dX5_letterAt_12 1 rfl ?_
      refine V_bipush (v := 100) dX5_letterAt_13 (by decide) ?_
      refine V_ic_ge (tgt := 27) dX5_letterAt_15 (by decide) (fun c_15 => ?_) (fun c_15 => ?_)
      · refine V_iconst (v := (-1)) dX5_letterAt_27 (by decide) ?_
        exact V_iret dX5_letterAt_28 rfl (lfI (by simp only [F_X5_letterAt, if_neg c_1, if_neg c_9, if_pos c_15]))
      · refine V_aload_n dX5_letterAt_18 0 rfl ?_
        refine V_get (i := 0) inlX5 rfl (W_5 hw) rfl (by decide) q_50 rfl dX5_letterAt_19 ?_
        refine V_iload_n dX5_letterAt_22 1 rfl ?_
        refine L_5_1 (W_5 hw) (by exact ixr c_1 c_15 rfl) dX5_letterAt_23 ?_
        refine V_goto (tgt := 28) dX5_letterAt_24 (by decide) ?_
        exact V_iret dX5_letterAt_28 rfl (lfI (by simp only [F_X5_letterAt, if_neg c_1, if_neg c_9, if_neg c_15]))
def F_X5_fails (g : mm_g) (x1 : Int32) : Int32 × mm_g := (0, (wr g 5 0 2 x1))
set_option maxRecDepth 100000 in
set_option maxHeartbeats 4000000 in
theorem k_X5_fails (l : Launch) (G : mm_G) {pr : Nat → Nat → Prop} {ad : Nat → Nat → Nat → Nat} (hw : mm_W pr) (g : mm_g) (x1 : Int32)  : Mt l G yX5_fails cX5_fails 2 (some .boolean) (rmk 1 60) [.ref (ad 5 0 0), .int x1] pr ad g (qM pr ad (F_X5_fails g x1)) 0 0 := by
  refine Mt_of (by decide) (Nat.le_of_ble_eq_true rfl) ?_
  show V l G RX5 cX5_fails 2 (some .boolean) _ _ 0 0 0 0 0 [(0, .ref (ad 5 0 0)), (1, .int x1)] [] pr ad g
  refine V_aload_n dX5_fails_0 0 rfl ?_
  refine V_iload_n dX5_fails_1 1 rfl ?_
  refine P_5_3 (W_5 hw) q_53 dX5_fails_2 ?_
  refine V_iconst (v := 0) dX5_fails_5 (by decide) ?_
  exact V_zret dX5_fails_6 rfl rfl (lfM (by simp only [F_X5_fails]))
def F_X5_takes (g : mm_g) (x1 : Int32) : Int32 × mm_g := (if (F_X5_letterAt g (g 5 0 1)) = x1 then (1, (wr g 5 0 1 ((g 5 0 1) + 1))) else ((F_X5_fails g 1).1, (F_X5_fails g 1).2))
set_option maxRecDepth 100000 in
set_option maxHeartbeats 4000000 in
theorem k_X5_takes (l : Launch) (G : mm_G) {pr : Nat → Nat → Prop} {ad : Nat → Nat → Nat → Nat} (hw : mm_W pr) (g : mm_g) (x1 : Int32)  : Mt l G yX5_takes cX5_takes 2 (some .boolean) (rmk 2 81) [.ref (ad 5 0 0), .int x1] pr ad g (qM pr ad (F_X5_takes g x1)) 0 0 := by
  refine Mt_of (by decide) (Nat.le_of_ble_eq_true rfl) ?_
  show V l G RX5 cX5_takes 2 (some .boolean) _ _ 0 0 0 0 0 [(0, .ref (ad 5 0 0)), (1, .int x1)] [] pr ad g
  refine V_aload_n dX5_takes_0 0 rfl ?_
  refine V_aload_n dX5_takes_1 0 rfl ?_
  refine V_get (i := 2) inlX5 rfl (W_5 hw) rfl (by decide) q_52 rfl dX5_takes_2 ?_
  refine V_cV (k_X5_letterAt l G hw g  (g 5 0 1) ) hy_X5_letterAt hi_X5_letterAt hs_X5_letterAt q_249 rfl rfl (W_5 hw) rfl rfl rfl rfl rfl ⟨by decide, by decide⟩ (Nat.le_of_ble_eq_true rfl) ⟨by decide, by decide⟩ dX5_takes_5 (V_kI ?_)
  refine V_iload_n dX5_takes_8 1 rfl ?_
  refine V_ic_eq (tgt := 18) dX5_takes_9 (by decide) (fun c_9 => ?_) (fun c_9 => ?_)
  · refine V_aload_n dX5_takes_18 0 rfl ?_
    refine V_dup dX5_takes_19 rfl ?_
    refine V_get (i := 2) inlX5 rfl (W_5 hw) rfl (by decide) q_52 rfl dX5_takes_20 ?_
    refine V_iconst (v := 1) dX5_takes_23 (by decide) ?_
    refine V_iadd dX5_takes_24 ?_
    refine P_5_2 (W_5 hw) q_52 dX5_takes_25 ?_
    refine V_iconst (v := 1) dX5_takes_28 (by decide) ?_
    exact V_zret dX5_takes_29 rfl rfl (lfM (by simp only [F_X5_takes, if_pos c_9]))
  · refine V_aload_n dX5_takes_12 0 rfl ?_
    refine V_iconst (v := 1) dX5_takes_13 (by decide) ?_
    refine V_cV (k_X5_fails l G hw g  1 ) hy_X5_fails hi_X5_fails hs_X5_fails q_253 rfl rfl (W_5 hw) rfl rfl rfl rfl rfl ⟨by decide, by decide⟩ (Nat.le_of_ble_eq_true rfl) ⟨by decide, by decide⟩ dX5_takes_14 (V_kM ?_)
    exact V_zret dX5_takes_17 rfl (by simp only [F_X5_fails]; rfl) (lfM (by simp only [F_X5_takes, if_neg c_9]))
def F_X5_figuresAhead_2 (g2 : mm_g) (K : Nat → Int32) : Nat → Nat → Int32
  | 0, j => K j
  | n + 1, j => (if 100 ≤ (nI j) then K j else (if (F_X6_within (F_X5_letterAt g2 ((g2 5 0 1) + (nI j))) 48 57) = 0 then K j else F_X5_figuresAhead_2 g2  K n (j + 1)))
def F_X5_figuresAhead (g : mm_g) : Int32 := (F_X5_figuresAhead_2 g  (fun (j2 : Nat) => (nI j2)) ((100 : Int32).toInt.toNat + 1) 0)
set_option maxRecDepth 100000 in
set_option maxHeartbeats 4000000 in
theorem w_X5_figuresAhead_2 (l : Launch) (G : mm_G) {pr : Nat → Nat → Prop} {ad : Nat → Nat → Nat → Nat} (hw : mm_W pr) (g2 : mm_g)  (K : Nat → Int32) (hK : ∀ (j : Nat) (hj : j ≤ (100 : Int32).toInt.toNat), V l G RX5 cX5_figuresAhead 2 (some .int) (rmk 2 82) (qI pr ad g2 (K j)) 0 0 0 0 34 [(0, .ref (ad 5 0 0)), (1, .int (nI j))] [] pr ad g2) : ∀ (n : Nat) (j : Nat) (hj : j ≤ (100 : Int32).toInt.toNat) (hm : (100 : Int32).toInt.toNat - j < n), V l G RX5 cX5_figuresAhead 2 (some .int) (rmk 2 82) (qI pr ad g2 (F_X5_figuresAhead_2 g2  K n j)) 0 0 0 0 2 [(0, .ref (ad 5 0 0)), (1, .int (nI j))] [] pr ad g2 := by
  intro n
  induction n with
  | zero => intro j hj hm; exact absurd hm (Nat.not_lt_zero _)
  | succ n ih =>
      intro j hj hm
      refine V_iload_n dX5_figuresAhead_2 1 rfl ?_
      refine V_bipush (v := 100) dX5_figuresAhead_3 (by decide) ?_
      refine V_ic_ge (tgt := 34) dX5_figuresAhead_5 (by decide) (fun c_5 => ?_) (fun c_5 => ?_)
      · refine V_rp (R2 := K j) (by simp only [F_X5_figuresAhead_2, if_pos c_5]) ?_
        refine V_lp [0, 1] rfl ?_
        exact hK j (by assumption)
      · refine V_aload_n dX5_figuresAhead_8 0 rfl ?_
        refine V_aload_n dX5_figuresAhead_9 0 rfl ?_
        refine V_get (i := 2) inlX5 rfl (W_5 hw) rfl (by decide) q_52 rfl dX5_figuresAhead_10 ?_
        refine V_iload_n dX5_figuresAhead_13 1 rfl ?_
        refine V_iadd dX5_figuresAhead_14 ?_
        refine V_cV (k_X5_letterAt l G hw g2  ((g2 5 0 1) + (nI j)) ) hy_X5_letterAt hi_X5_letterAt hs_X5_letterAt q_249 rfl rfl (W_5 hw) rfl rfl rfl rfl rfl ⟨by decide, by decide⟩ (Nat.le_of_ble_eq_true rfl) ⟨by decide, by decide⟩ dX5_figuresAhead_15 (V_kI ?_)
        refine V_bipush (v := 48) dX5_figuresAhead_18 (by decide) ?_
        refine V_bipush (v := 57) dX5_figuresAhead_20 (by decide) ?_
        refine V_cSN (k_X6_within l G hw g2  (F_X5_letterAt g2 ((g2 5 0 1) + (nI j))) 48 57 ) hy_X6_within hz_X6_within nm_X5_70 rfl rfl rfl rfl ⟨by decide, by decide⟩ (Nat.le_of_ble_eq_true rfl) ⟨by decide, by decide⟩ dX5_figuresAhead_22 (V_kI ?_)
        refine V_if_eq (tgt := 34) dX5_figuresAhead_25 (by decide) (fun c_25 => ?_) (fun c_25 => ?_)
        · refine V_rp (R2 := K j) (by simp only [F_X5_figuresAhead_2, if_neg c_5, if_pos c_25]) ?_
          refine V_lp [0, 1] rfl ?_
          exact hK j (by assumption)
        · refine V_iinc (v := (nI (j + 1))) (L2 := [(1, .int (nI (j + 1))), (0, .ref (ad 5 0 0))]) dX5_figuresAhead_28 1 rfl (nI_1 _) (by decide) rfl ?_
          refine V_goto (tgt := 2) dX5_figuresAhead_31 (by decide) ?_
          refine V_rp (R2 := F_X5_figuresAhead_2 g2  K n (j + 1)) (by simp only [F_X5_figuresAhead_2, if_neg c_5, if_neg c_25]) ?_
          refine V_lp [1, 0] rfl ?_
          exact ih (j + 1) (by exact (lp_up hj c_5 hm).1) (by exact (lp_up hj c_5 hm).2) 
set_option maxRecDepth 100000 in
set_option maxHeartbeats 4000000 in
theorem k_X5_figuresAhead (l : Launch) (G : mm_G) {pr : Nat → Nat → Prop} {ad : Nat → Nat → Nat → Nat} (hw : mm_W pr) (g : mm_g)  : Mt l G yX5_figuresAhead cX5_figuresAhead 2 (some .int) (rmk 2 82) [.ref (ad 5 0 0)] pr ad g (qI pr ad g (F_X5_figuresAhead g)) 0 0 := by
  refine Mt_of (by decide) (Nat.le_of_ble_eq_true rfl) ?_
  show V l G RX5 cX5_figuresAhead 2 (some .int) _ _ 0 0 0 0 0 [(0, .ref (ad 5 0 0))] [] pr ad g
  refine V_iconst (v := 0) dX5_figuresAhead_0 (by decide) ?_
  refine V_istore_n (L2 := [(1, .int 0), (0, .ref (ad 5 0 0))]) dX5_figuresAhead_1 (by decide) rfl ?_
  refine V_rp (R2 := F_X5_figuresAhead_2 g  (fun (j2 : Nat) => (nI j2)) ((100 : Int32).toInt.toNat + 1) 0) (by simp only [F_X5_figuresAhead]) ?_
  refine V_lp [1, 0] rfl ?_
  refine w_X5_figuresAhead_2 l G hw g    _ (fun j2 hj2 => ?_) ((100 : Int32).toInt.toNat + 1) 0 (by first | exact Nat.zero_le _ | decide) (by omega)
  refine V_iload_n dX5_figuresAhead_34 1 rfl ?_
  exact V_iret dX5_figuresAhead_35 rfl (lfI (by rfl))
def F_X5_number_29 (g29 : mm_g) (x1 : Int32) (x2 : Int32) (f3 : Int32) (K : Int32 → Nat → Int32 × mm_g) : Nat → Int32 → Nat → Int32 × mm_g
  | 0, a, j => K a j
  | n + 1, a, j => (if f3 ≤ (nI j) then K a j else F_X5_number_29 g29 x1 x2 f3 K n (((10 * a) + (F_X5_letterAt g29 ((g29 5 0 1) + (nI j)))) - 48) (j + 1))
def F_X5_number (g : mm_g) (x1 : Int32) (x2 : Int32) : Int32 × mm_g := (if (F_X5_figuresAhead g) < 1 then ((-1), (F_X5_fails g 1).2) else (if (F_X5_figuresAhead g) ≤ 2 then (F_X5_number_29 g x1 x2 (F_X5_figuresAhead g) (fun (a29 : Int32) (j29 : Nat) => (if (F_X6_within a29 x1 x2) = 0 then ((-1), (F_X5_fails g 2).2) else (a29, (wr g 5 0 1 ((g 5 0 1) + (F_X5_figuresAhead g)))))) ((F_X5_figuresAhead g).toInt.toNat + 1) 0 0) else ((-1), (F_X5_fails g 1).2)))
set_option maxRecDepth 100000 in
set_option maxHeartbeats 4000000 in
theorem w_X5_number_29 (l : Launch) (G : mm_G) {pr : Nat → Nat → Prop} {ad : Nat → Nat → Nat → Nat} (hw : mm_W pr) (g29 : mm_g) (x1 : Int32) (x2 : Int32) (f3 : Int32)  (K : Int32 → Nat → Int32 × mm_g) (hK : ∀ (a : Int32) (j : Nat) (hj : j ≤ f3.toInt.toNat), V l G RX5 cX5_number 6 (some .int) (rmk 3 103) (qM pr ad (K a j)) 0 0 0 0 63 [(0, .ref (ad 5 0 0)), (1, .int x1), (2, .int x2), (3, .int f3), (4, .int a), (5, .int (nI j))] [] pr ad g29) : ∀ (n : Nat) (a : Int32) (j : Nat) (hj : j ≤ f3.toInt.toNat) (hm : f3.toInt.toNat - j < n), V l G RX5 cX5_number 6 (some .int) (rmk 3 103) (qM pr ad (F_X5_number_29 g29 x1 x2 f3 K n a j)) 0 0 0 0 29 [(0, .ref (ad 5 0 0)), (1, .int x1), (2, .int x2), (3, .int f3), (4, .int a), (5, .int (nI j))] [] pr ad g29 := by
  intro n
  induction n with
  | zero => intro a j hj hm; exact absurd hm (Nat.not_lt_zero _)
  | succ n ih =>
      intro a j hj hm
      refine V_iload dX5_number_29 5 rfl ?_
      refine V_iload_n dX5_number_31 3 rfl ?_
      refine V_ic_ge (tgt := 63) dX5_number_32 (by decide) (fun c_32 => ?_) (fun c_32 => ?_)
      · refine V_rp (R2 := K a j) (by simp only [F_X5_number_29, if_pos c_32]) ?_
        refine V_lp [0, 1, 2, 3, 4, 5] rfl ?_
        exact hK a j (by assumption)
      · refine V_bipush (v := 10) dX5_number_35 (by decide) ?_
        refine V_iload dX5_number_37 4 rfl ?_
        refine V_imul dX5_number_39 ?_
        refine V_aload_n dX5_number_40 0 rfl ?_
        refine V_aload_n dX5_number_41 0 rfl ?_
        refine V_get (i := 2) inlX5 rfl (W_5 hw) rfl (by decide) q_52 rfl dX5_number_42 ?_
        refine V_iload dX5_number_45 5 rfl ?_
        refine V_iadd dX5_number_47 ?_
        refine V_cV (k_X5_letterAt l G hw g29  ((g29 5 0 1) + (nI j)) ) hy_X5_letterAt hi_X5_letterAt hs_X5_letterAt q_249 rfl rfl (W_5 hw) rfl rfl rfl rfl rfl ⟨by decide, by decide⟩ (Nat.le_of_ble_eq_true rfl) ⟨by decide, by decide⟩ dX5_number_48 (V_kI ?_)
        refine V_iadd dX5_number_51 ?_
        refine V_bipush (v := 48) dX5_number_52 (by decide) ?_
        refine V_isub dX5_number_54 ?_
        refine V_istore (L2 := [(4, .int (((10 * a) + (F_X5_letterAt g29 ((g29 5 0 1) + (nI j)))) - 48)), (0, .ref (ad 5 0 0)), (1, .int x1), (2, .int x2), (3, .int f3), (5, .int (nI j))]) dX5_number_55 (by decide) rfl ?_
        refine V_iinc (v := (nI (j + 1))) (L2 := [(5, .int (nI (j + 1))), (4, .int (((10 * a) + (F_X5_letterAt g29 ((g29 5 0 1) + (nI j)))) - 48)), (0, .ref (ad 5 0 0)), (1, .int x1), (2, .int x2), (3, .int f3)]) dX5_number_57 5 rfl (nI_1 _) (by decide) rfl ?_
        refine V_goto (tgt := 29) dX5_number_60 (by decide) ?_
        refine V_rp (R2 := F_X5_number_29 g29 x1 x2 f3 K n (((10 * a) + (F_X5_letterAt g29 ((g29 5 0 1) + (nI j)))) - 48) (j + 1)) (by simp only [F_X5_number_29, if_neg c_32]) ?_
        refine V_lp [2, 3, 4, 5, 1, 0] rfl ?_
        exact ih (((10 * a) + (F_X5_letterAt g29 ((g29 5 0 1) + (nI j)))) - 48) (j + 1) (by exact (lp_up hj c_32 hm).1) (by exact (lp_up hj c_32 hm).2) 
set_option maxRecDepth 100000 in
set_option maxHeartbeats 4000000 in
theorem k_X5_number (l : Launch) (G : mm_G) {pr : Nat → Nat → Prop} {ad : Nat → Nat → Nat → Nat} (hw : mm_W pr) (g : mm_g) (x1 : Int32) (x2 : Int32)  : Mt l G yX5_number cX5_number 6 (some .int) (rmk 3 103) [.ref (ad 5 0 0), .int x1, .int x2] pr ad g (qM pr ad (F_X5_number g x1 x2)) 0 0 := by
  refine Mt_of (by decide) (Nat.le_of_ble_eq_true rfl) ?_
  show V l G RX5 cX5_number 6 (some .int) _ _ 0 0 0 0 0 [(0, .ref (ad 5 0 0)), (1, .int x1), (2, .int x2)] [] pr ad g
  refine V_aload_n dX5_number_0 0 rfl ?_
  refine V_cV (k_X5_figuresAhead l G hw g   ) hy_X5_figuresAhead hi_X5_figuresAhead hs_X5_figuresAhead q_261 rfl rfl (W_5 hw) rfl rfl rfl rfl rfl ⟨by decide, by decide⟩ (Nat.le_of_ble_eq_true rfl) ⟨by decide, by decide⟩ dX5_number_1 (V_kI ?_)
  refine V_istore_n (L2 := [(3, .int (F_X5_figuresAhead g)), (0, .ref (ad 5 0 0)), (1, .int x1), (2, .int x2)]) dX5_number_4 (by decide) rfl ?_
  refine V_iload_n dX5_number_5 0 rfl ?_
  refine V_iconst (v := 1) dX5_number_6 (by decide) ?_
  refine V_ic_lt (tgt := 15) dX5_number_7 (by decide) (fun c_7 => ?_) (fun c_7 => ?_)
  · refine V_aload_n dX5_number_15 1 rfl ?_
    refine V_iconst (v := 1) dX5_number_16 (by decide) ?_
    refine V_cV (k_X5_fails l G hw g  1 ) hy_X5_fails hi_X5_fails hs_X5_fails q_253 rfl rfl (W_5 hw) rfl rfl rfl rfl rfl ⟨by decide, by decide⟩ (Nat.le_of_ble_eq_true rfl) ⟨by decide, by decide⟩ dX5_number_17 (V_kM ?_)
    refine V_pop dX5_number_20 rfl ?_
    refine V_iconst (v := (-1)) dX5_number_21 (by decide) ?_
    exact V_iret dX5_number_22 rfl (lfM (by simp only [F_X5_number, if_pos c_7]))
  · refine V_iload_n dX5_number_10 0 rfl ?_
    refine V_iconst (v := 2) dX5_number_11 (by decide) ?_
    refine V_ic_le (tgt := 23) dX5_number_12 (by decide) (fun c_12 => ?_) (fun c_12 => ?_)
    · refine V_iconst (v := 0) dX5_number_23 (by decide) ?_
      refine V_istore (L2 := [(4, .int 0), (3, .int (F_X5_figuresAhead g)), (0, .ref (ad 5 0 0)), (1, .int x1), (2, .int x2)]) dX5_number_24 (by decide) rfl ?_
      refine V_iconst (v := 0) dX5_number_26 (by decide) ?_
      refine V_istore (L2 := [(5, .int 0), (4, .int 0), (3, .int (F_X5_figuresAhead g)), (0, .ref (ad 5 0 0)), (1, .int x1), (2, .int x2)]) dX5_number_27 (by decide) rfl ?_
      refine V_rp (R2 := F_X5_number_29 g x1 x2 (F_X5_figuresAhead g) (fun (a29 : Int32) (j29 : Nat) => (if (F_X6_within a29 x1 x2) = 0 then ((-1), (F_X5_fails g 2).2) else (a29, (wr g 5 0 1 ((g 5 0 1) + (F_X5_figuresAhead g)))))) ((F_X5_figuresAhead g).toInt.toNat + 1) 0 0) (by simp only [F_X5_number, if_neg c_7, if_pos c_12]) ?_
      refine V_lp [3, 4, 5, 2, 1, 0] rfl ?_
      refine w_X5_number_29 l G hw g x1 x2 (F_X5_figuresAhead g)   _ (fun a29 j29 hj29 => ?_) ((F_X5_figuresAhead g).toInt.toNat + 1) 0 0 (by first | exact Nat.zero_le _ | decide) (by omega)
      refine V_iload dX5_number_63 4 rfl ?_
      refine V_iload_n dX5_number_65 1 rfl ?_
      refine V_iload_n dX5_number_66 2 rfl ?_
      refine V_cSN (k_X6_within l G hw g  a29 x1 x2 ) hy_X6_within hz_X6_within nm_X5_70 rfl rfl rfl rfl ⟨by decide, by decide⟩ (Nat.le_of_ble_eq_true rfl) ⟨by decide, by decide⟩ dX5_number_67 (V_kI ?_)
      refine V_if_ne (tgt := 81) dX5_number_70 (by decide) (fun c_70 => ?_) (fun c_70 => ?_)
      · refine V_aload_n dX5_number_81 0 rfl ?_
        refine V_dup dX5_number_82 rfl ?_
        refine V_get (i := 2) inlX5 rfl (W_5 hw) rfl (by decide) q_52 rfl dX5_number_83 ?_
        refine V_iload_n dX5_number_86 3 rfl ?_
        refine V_iadd dX5_number_87 ?_
        refine P_5_2 (W_5 hw) q_52 dX5_number_88 ?_
        refine V_iload dX5_number_91 4 rfl ?_
        exact V_iret dX5_number_93 rfl (lfM (by simp only [if_neg c_70]))
      · refine V_aload_n dX5_number_73 0 rfl ?_
        refine V_iconst (v := 2) dX5_number_74 (by decide) ?_
        refine V_cV (k_X5_fails l G hw g  2 ) hy_X5_fails hi_X5_fails hs_X5_fails q_253 rfl rfl (W_5 hw) rfl rfl rfl rfl rfl ⟨by decide, by decide⟩ (Nat.le_of_ble_eq_true rfl) ⟨by decide, by decide⟩ dX5_number_75 (V_kM ?_)
        refine V_pop dX5_number_78 rfl ?_
        refine V_iconst (v := (-1)) dX5_number_79 (by decide) ?_
        exact V_iret dX5_number_80 rfl (lfM (by simp only [if_pos c_70]))
    · refine V_aload_n dX5_number_15 1 rfl ?_
      refine V_iconst (v := 1) dX5_number_16 (by decide) ?_
      refine V_cV (k_X5_fails l G hw g  1 ) hy_X5_fails hi_X5_fails hs_X5_fails q_253 rfl rfl (W_5 hw) rfl rfl rfl rfl rfl ⟨by decide, by decide⟩ (Nat.le_of_ble_eq_true rfl) ⟨by decide, by decide⟩ dX5_number_17 (V_kM ?_)
      refine V_pop dX5_number_20 rfl ?_
      refine V_iconst (v := (-1)) dX5_number_21 (by decide) ?_
      exact V_iret dX5_number_22 rfl (lfM (by simp only [F_X5_number, if_neg c_7, if_neg c_12]))
def F_X5_kindNamed (x1 : Int32) : Int32 := (if x1 = 99 then 1 else (if x1 = 107 then 3 else (if x1 = 113 then 5 else (if x1 = 115 then 2 else (if x1 = 119 then 4 else 0)))))
set_option maxRecDepth 100000 in
set_option maxHeartbeats 4000000 in
theorem k_X5_kindNamed (l : Launch) (G : mm_G) {pr : Nat → Nat → Prop} {ad : Nat → Nat → Nat → Nat} (hw : mm_W pr) (g : mm_g) (x1 : Int32)  : Mt l G yX5_kindNamed cX5_kindNamed 1 (some .int) (rmk 1 60) [.int x1] pr ad g (qI pr ad g (F_X5_kindNamed x1)) 0 0 := by
  refine Mt_of (by decide) (Nat.le_of_ble_eq_true rfl) ?_
  show V l G RX5 cX5_kindNamed 1 (some .int) _ _ 0 0 0 0 0 [(0, .int x1)] [] pr ad g
  refine V_iload_n dX5_kindNamed_0 0 rfl ?_
  by_cases s_1_0 : x1 = 99
  · refine V_look (off := 51) (tgt := 52) dX5_kindNamed_1 (by decide) (by rw [s_1_0]; decide) (by decide) ?_
    refine V_iconst (v := 1) dX5_kindNamed_52 (by decide) ?_
    exact V_iret dX5_kindNamed_53 rfl (lfI (by simp only [F_X5_kindNamed, if_pos s_1_0]))
  by_cases s_1_1 : x1 = 107
  · refine V_look (off := 55) (tgt := 56) dX5_kindNamed_1 (by decide) (by rw [s_1_1]; decide) (by decide) ?_
    refine V_iconst (v := 3) dX5_kindNamed_56 (by decide) ?_
    exact V_iret dX5_kindNamed_57 rfl (lfI (by simp only [F_X5_kindNamed, if_neg s_1_0, if_pos s_1_1]))
  by_cases s_1_2 : x1 = 113
  · refine V_look (off := 59) (tgt := 60) dX5_kindNamed_1 (by decide) (by rw [s_1_2]; decide) (by decide) ?_
    refine V_iconst (v := 5) dX5_kindNamed_60 (by decide) ?_
    exact V_iret dX5_kindNamed_61 rfl (lfI (by simp only [F_X5_kindNamed, if_neg s_1_0, if_neg s_1_1, if_pos s_1_2]))
  by_cases s_1_3 : x1 = 115
  · refine V_look (off := 53) (tgt := 54) dX5_kindNamed_1 (by decide) (by rw [s_1_3]; decide) (by decide) ?_
    refine V_iconst (v := 2) dX5_kindNamed_54 (by decide) ?_
    exact V_iret dX5_kindNamed_55 rfl (lfI (by simp only [F_X5_kindNamed, if_neg s_1_0, if_neg s_1_1, if_neg s_1_2, if_pos s_1_3]))
  by_cases s_1_4 : x1 = 119
  · refine V_look (off := 57) (tgt := 58) dX5_kindNamed_1 (by decide) (by rw [s_1_4]; decide) (by decide) ?_
    refine V_iconst (v := 4) dX5_kindNamed_58 (by decide) ?_
    exact V_iret dX5_kindNamed_59 rfl (lfI (by simp only [F_X5_kindNamed, if_neg s_1_0, if_neg s_1_1, if_neg s_1_2, if_neg s_1_3, if_pos s_1_4]))
  refine V_look (off := 61) (tgt := 62) dX5_kindNamed_1 (by decide) (by rw [lv_osw s_1_0 (by decide)]; rw [lv_osw s_1_1 (by decide)]; rw [lv_osw s_1_2 (by decide)]; rw [lv_osw s_1_3 (by decide)]; rw [lv_osw s_1_4 (by decide)]; rfl) (by decide) ?_
  refine V_iconst (v := 0) dX5_kindNamed_62 (by decide) ?_
  exact V_iret dX5_kindNamed_63 rfl (lfI (by simp only [F_X5_kindNamed, if_neg s_1_0, if_neg s_1_1, if_neg s_1_2, if_neg s_1_3, if_neg s_1_4]))
def F_X5_readLaw (g : mm_g) (k2 : Nat) : Int32 × mm_g := (if (F_X5_takes g 108).1 = 0 then (0, (F_X5_takes g 108).2) else (if (F_X5_number ((F_X5_takes g 108).2) 0 8).1 = (-1) then (0, (F_X5_number ((F_X5_takes g 108).2) 0 8).2) else (if (F_X5_takes ((F_X5_number ((F_X5_takes g 108).2) 0 8).2) 44).1 = 0 then (0, (F_X5_takes ((F_X5_number ((F_X5_takes g 108).2) 0 8).2) 44).2) else (if (F_X5_number ((F_X5_takes ((F_X5_number ((F_X5_takes g 108).2) 0 8).2) 44).2) 0 8).1 = (-1) then (0, (F_X5_number ((F_X5_takes ((F_X5_number ((F_X5_takes g 108).2) 0 8).2) 44).2) 0 8).2) else (if (F_X5_takes ((F_X5_number ((F_X5_takes ((F_X5_number ((F_X5_takes g 108).2) 0 8).2) 44).2) 0 8).2) 44).1 = 0 then (0, (F_X5_takes ((F_X5_number ((F_X5_takes ((F_X5_number ((F_X5_takes g 108).2) 0 8).2) 44).2) 0 8).2) 44).2) else (if (F_X5_number ((F_X5_takes ((F_X5_number ((F_X5_takes ((F_X5_number ((F_X5_takes g 108).2) 0 8).2) 44).2) 0 8).2) 44).2) 1 9).1 = (-1) then (0, (F_X5_number ((F_X5_takes ((F_X5_number ((F_X5_takes ((F_X5_number ((F_X5_takes g 108).2) 0 8).2) 44).2) 0 8).2) 44).2) 1 9).2) else (if (F_X5_takes ((F_X5_number ((F_X5_takes ((F_X5_number ((F_X5_takes ((F_X5_number ((F_X5_takes g 108).2) 0 8).2) 44).2) 0 8).2) 44).2) 1 9).2) 59).1 = 0 then (0, (F_X5_takes ((F_X5_number ((F_X5_takes ((F_X5_number ((F_X5_takes ((F_X5_number ((F_X5_takes g 108).2) 0 8).2) 44).2) 0 8).2) 44).2) 1 9).2) 59).2) else (1, (F_X2_begin ((F_X5_takes ((F_X5_number ((F_X5_takes ((F_X5_number ((F_X5_takes ((F_X5_number ((F_X5_takes g 108).2) 0 8).2) 44).2) 0 8).2) 44).2) 1 9).2) 59).2) k2 ((F_X5_number ((F_X5_takes g 108).2) 0 8).1) ((F_X5_number ((F_X5_takes ((F_X5_number ((F_X5_takes g 108).2) 0 8).2) 44).2) 0 8).1) ((F_X5_number ((F_X5_takes ((F_X5_number ((F_X5_takes ((F_X5_number ((F_X5_takes g 108).2) 0 8).2) 44).2) 0 8).2) 44).2) 1 9).1))))))))))
set_option maxRecDepth 100000 in
set_option maxHeartbeats 4000000 in
theorem k_X5_readLaw (l : Launch) (G : mm_G) {pr : Nat → Nat → Prop} {ad : Nat → Nat → Nat → Nat} (hw : mm_W pr) (g : mm_g) {k2 : Nat} (hk2 : pr 2 k2)  : Mt l G yX5_readLaw cX5_readLaw 5 (some .boolean) (rmk 4 128) [.ref (ad 5 0 0), .ref (ad 2 k2 0)] pr ad g (qM pr ad (F_X5_readLaw g k2)) 0 0 := by
  refine Mt_of (by decide) (Nat.le_of_ble_eq_true rfl) ?_
  show V l G RX5 cX5_readLaw 5 (some .boolean) _ _ 0 0 0 0 0 [(0, .ref (ad 5 0 0)), (1, .ref (ad 2 k2 0))] [] pr ad g
  refine V_aload_n dX5_readLaw_0 0 rfl ?_
  refine V_bipush (v := 108) dX5_readLaw_1 (by decide) ?_
  refine V_cV (k_X5_takes l G hw g  108 ) hy_X5_takes hi_X5_takes hs_X5_takes q_245 rfl rfl (W_5 hw) rfl rfl rfl rfl rfl ⟨by decide, by decide⟩ (Nat.le_of_ble_eq_true rfl) ⟨by decide, by decide⟩ dX5_readLaw_3 (V_kM ?_)
  refine V_if_ne (tgt := 11) dX5_readLaw_6 (by decide) (fun c_6 => ?_) (fun c_6 => ?_)
  · refine V_aload_n dX5_readLaw_11 0 rfl ?_
    refine V_iconst (v := 0) dX5_readLaw_12 (by decide) ?_
    refine V_bipush (v := 8) dX5_readLaw_13 (by decide) ?_
    refine V_cV (k_X5_number l G hw ((F_X5_takes g 108).2)  0 8 ) hy_X5_number hi_X5_number hs_X5_number q_257 rfl rfl (W_5 hw) rfl rfl rfl rfl rfl ⟨by decide, by decide⟩ (Nat.le_of_ble_eq_true rfl) ⟨by decide, by decide⟩ dX5_readLaw_15 (V_kM ?_)
    refine V_istore_n (L2 := [(2, .int ((F_X5_number ((F_X5_takes g 108).2) 0 8).1)), (0, .ref (ad 5 0 0)), (1, .ref (ad 2 k2 0))]) dX5_readLaw_18 (by decide) rfl ?_
    refine V_iload_n dX5_readLaw_19 0 rfl ?_
    refine V_iconst (v := (-1)) dX5_readLaw_20 (by decide) ?_
    refine V_ic_eq (tgt := 33) dX5_readLaw_21 (by decide) (fun c_21 => ?_) (fun c_21 => ?_)
    · refine V_iconst (v := 0) dX5_readLaw_33 (by decide) ?_
      exact V_zret dX5_readLaw_34 rfl rfl (lfM (by simp only [F_X5_readLaw, if_neg c_6, if_pos c_21]))
    · refine V_aload_n dX5_readLaw_24 1 rfl ?_
      refine V_bipush (v := 44) dX5_readLaw_25 (by decide) ?_
      refine V_cV (k_X5_takes l G hw ((F_X5_number ((F_X5_takes g 108).2) 0 8).2)  44 ) hy_X5_takes hi_X5_takes hs_X5_takes q_245 rfl rfl (W_5 hw) rfl rfl rfl rfl rfl ⟨by decide, by decide⟩ (Nat.le_of_ble_eq_true rfl) ⟨by decide, by decide⟩ dX5_readLaw_27 (V_kM ?_)
      refine V_if_ne (tgt := 35) dX5_readLaw_30 (by decide) (fun c_30 => ?_) (fun c_30 => ?_)
      · refine V_aload_n dX5_readLaw_35 1 rfl ?_
        refine V_iconst (v := 0) dX5_readLaw_36 (by decide) ?_
        refine V_bipush (v := 8) dX5_readLaw_37 (by decide) ?_
        refine V_cV (k_X5_number l G hw ((F_X5_takes ((F_X5_number ((F_X5_takes g 108).2) 0 8).2) 44).2)  0 8 ) hy_X5_number hi_X5_number hs_X5_number q_257 rfl rfl (W_5 hw) rfl rfl rfl rfl rfl ⟨by decide, by decide⟩ (Nat.le_of_ble_eq_true rfl) ⟨by decide, by decide⟩ dX5_readLaw_39 (V_kM ?_)
        refine V_istore_n (L2 := [(3, .int ((F_X5_number ((F_X5_takes ((F_X5_number ((F_X5_takes g 108).2) 0 8).2) 44).2) 0 8).1)), (2, .int ((F_X5_number ((F_X5_takes g 108).2) 0 8).1)), (0, .ref (ad 5 0 0)), (1, .ref (ad 2 k2 0))]) dX5_readLaw_42 (by decide) rfl ?_
        refine V_iload_n dX5_readLaw_43 0 rfl ?_
        refine V_iconst (v := (-1)) dX5_readLaw_44 (by decide) ?_
        refine V_ic_eq (tgt := 57) dX5_readLaw_45 (by decide) (fun c_45 => ?_) (fun c_45 => ?_)
        · refine V_iconst (v := 0) dX5_readLaw_57 (by decide) ?_
          exact V_zret dX5_readLaw_58 rfl rfl (lfM (by simp only [F_X5_readLaw, if_neg c_6, if_neg c_21, if_neg c_30, if_pos c_45]))
        · refine V_aload_n dX5_readLaw_48 2 rfl ?_
          refine V_bipush (v := 44) dX5_readLaw_49 (by decide) ?_
          refine V_cV (k_X5_takes l G hw ((F_X5_number ((F_X5_takes ((F_X5_number ((F_X5_takes g 108).2) 0 8).2) 44).2) 0 8).2)  44 ) hy_X5_takes hi_X5_takes hs_X5_takes q_245 rfl rfl (W_5 hw) rfl rfl rfl rfl rfl ⟨by decide, by decide⟩ (Nat.le_of_ble_eq_true rfl) ⟨by decide, by decide⟩ dX5_readLaw_51 (V_kM ?_)
          refine V_if_ne (tgt := 59) dX5_readLaw_54 (by decide) (fun c_54 => ?_) (fun c_54 => ?_)
          · refine V_aload_n dX5_readLaw_59 2 rfl ?_
            refine V_iconst (v := 1) dX5_readLaw_60 (by decide) ?_
            refine V_bipush (v := 9) dX5_readLaw_61 (by decide) ?_
            refine V_cV (k_X5_number l G hw ((F_X5_takes ((F_X5_number ((F_X5_takes ((F_X5_number ((F_X5_takes g 108).2) 0 8).2) 44).2) 0 8).2) 44).2)  1 9 ) hy_X5_number hi_X5_number hs_X5_number q_257 rfl rfl (W_5 hw) rfl rfl rfl rfl rfl ⟨by decide, by decide⟩ (Nat.le_of_ble_eq_true rfl) ⟨by decide, by decide⟩ dX5_readLaw_63 (V_kM ?_)
            refine V_istore (L2 := [(4, .int ((F_X5_number ((F_X5_takes ((F_X5_number ((F_X5_takes ((F_X5_number ((F_X5_takes g 108).2) 0 8).2) 44).2) 0 8).2) 44).2) 1 9).1)), (3, .int ((F_X5_number ((F_X5_takes ((F_X5_number ((F_X5_takes g 108).2) 0 8).2) 44).2) 0 8).1)), (2, .int ((F_X5_number ((F_X5_takes g 108).2) 0 8).1)), (0, .ref (ad 5 0 0)), (1, .ref (ad 2 k2 0))]) dX5_readLaw_66 (by decide) rfl ?_
            refine V_iload dX5_readLaw_68 0 rfl ?_
            refine V_iconst (v := (-1)) dX5_readLaw_70 (by decide) ?_
            refine V_ic_eq (tgt := 83) dX5_readLaw_71 (by decide) (fun c_71 => ?_) (fun c_71 => ?_)
            · refine V_iconst (v := 0) dX5_readLaw_83 (by decide) ?_
              exact V_zret dX5_readLaw_84 rfl rfl (lfM (by simp only [F_X5_readLaw, if_neg c_6, if_neg c_21, if_neg c_30, if_neg c_45, if_neg c_54, if_pos c_71]))
            · refine V_aload_n dX5_readLaw_74 3 rfl ?_
              refine V_bipush (v := 59) dX5_readLaw_75 (by decide) ?_
              refine V_cV (k_X5_takes l G hw ((F_X5_number ((F_X5_takes ((F_X5_number ((F_X5_takes ((F_X5_number ((F_X5_takes g 108).2) 0 8).2) 44).2) 0 8).2) 44).2) 1 9).2)  59 ) hy_X5_takes hi_X5_takes hs_X5_takes q_245 rfl rfl (W_5 hw) rfl rfl rfl rfl rfl ⟨by decide, by decide⟩ (Nat.le_of_ble_eq_true rfl) ⟨by decide, by decide⟩ dX5_readLaw_77 (V_kM ?_)
              refine V_if_ne (tgt := 85) dX5_readLaw_80 (by decide) (fun c_80 => ?_) (fun c_80 => ?_)
              · refine V_aload_n dX5_readLaw_85 4 rfl ?_
                refine V_iload_n dX5_readLaw_86 2 rfl ?_
                refine V_iload_n dX5_readLaw_87 1 rfl ?_
                refine V_iload dX5_readLaw_88 0 rfl ?_
                refine V_cV (k_X2_begin l G hw ((F_X5_takes ((F_X5_number ((F_X5_takes ((F_X5_number ((F_X5_takes ((F_X5_number ((F_X5_takes g 108).2) 0 8).2) 44).2) 0 8).2) 44).2) 1 9).2) 59).2) hk2 ((F_X5_number ((F_X5_takes g 108).2) 0 8).1) ((F_X5_number ((F_X5_takes ((F_X5_number ((F_X5_takes g 108).2) 0 8).2) 44).2) 0 8).1) ((F_X5_number ((F_X5_takes ((F_X5_number ((F_X5_takes ((F_X5_number ((F_X5_takes g 108).2) 0 8).2) 44).2) 0 8).2) 44).2) 1 9).1) ) hy_X2_begin hi_X2_begin hs_X2_begin q_265 rfl rfl hk2 rfl rfl rfl rfl rfl ⟨by decide, by decide⟩ (Nat.le_of_ble_eq_true rfl) ⟨by decide, by decide⟩ dX5_readLaw_90 (V_kN ?_)
                refine V_iconst (v := 1) dX5_readLaw_93 (by decide) ?_
                exact V_zret dX5_readLaw_94 rfl rfl (lfM (by simp only [F_X5_readLaw, if_neg c_6, if_neg c_21, if_neg c_30, if_neg c_45, if_neg c_54, if_neg c_71, if_neg c_80]))
              · refine V_iconst (v := 0) dX5_readLaw_83 (by decide) ?_
                exact V_zret dX5_readLaw_84 rfl rfl (lfM (by simp only [F_X5_readLaw, if_neg c_6, if_neg c_21, if_neg c_30, if_neg c_45, if_neg c_54, if_neg c_71, if_pos c_80]))
          · refine V_iconst (v := 0) dX5_readLaw_57 (by decide) ?_
            exact V_zret dX5_readLaw_58 rfl rfl (lfM (by simp only [F_X5_readLaw, if_neg c_6, if_neg c_21, if_neg c_30, if_neg c_45, if_pos c_54]))
      · refine V_iconst (v := 0) dX5_readLaw_33 (by decide) ?_
        exact V_zret dX5_readLaw_34 rfl rfl (lfM (by simp only [F_X5_readLaw, if_neg c_6, if_neg c_21, if_pos c_30]))
  · refine V_iconst (v := 0) dX5_readLaw_9 (by decide) ?_
    exact V_zret dX5_readLaw_10 rfl rfl (lfM (by simp only [F_X5_readLaw, if_pos c_6]))
def F_X5_readBed (g : mm_g) (k2 : Nat) : Int32 × mm_g := (if (F_X5_kindNamed (F_X5_letterAt g (g 5 0 1))) = 0 then ((F_X5_fails g 1).1, (F_X5_fails g 1).2) else (if (g 2 k2 0) < 9 then (if (F_X5_number (wr g 5 0 1 ((g 5 0 1) + 1)) 0 99).1 = (-1) then (0, (F_X5_number (wr g 5 0 1 ((g 5 0 1) + 1)) 0 99).2) else (if (F_X5_takes ((F_X5_number (wr g 5 0 1 ((g 5 0 1) + 1)) 0 99).2) 44).1 = 0 then (0, (F_X5_takes ((F_X5_number (wr g 5 0 1 ((g 5 0 1) + 1)) 0 99).2) 44).2) else (if (F_X5_number ((F_X5_takes ((F_X5_number (wr g 5 0 1 ((g 5 0 1) + 1)) 0 99).2) 44).2) 0 9).1 = (-1) then (0, (F_X5_number ((F_X5_takes ((F_X5_number (wr g 5 0 1 ((g 5 0 1) + 1)) 0 99).2) 44).2) 0 9).2) else (if (F_X5_takes ((F_X5_number ((F_X5_takes ((F_X5_number (wr g 5 0 1 ((g 5 0 1) + 1)) 0 99).2) 44).2) 0 9).2) 59).1 = 0 then (0, (F_X5_takes ((F_X5_number ((F_X5_takes ((F_X5_number (wr g 5 0 1 ((g 5 0 1) + 1)) 0 99).2) 44).2) 0 9).2) 59).2) else (1, (F_X2_add ((F_X5_takes ((F_X5_number ((F_X5_takes ((F_X5_number (wr g 5 0 1 ((g 5 0 1) + 1)) 0 99).2) 44).2) 0 9).2) 59).2) k2 (F_X5_kindNamed (F_X5_letterAt g (g 5 0 1))) ((F_X5_number (wr g 5 0 1 ((g 5 0 1) + 1)) 0 99).1) ((F_X5_number ((F_X5_takes ((F_X5_number (wr g 5 0 1 ((g 5 0 1) + 1)) 0 99).2) 44).2) 0 9).1))))))) else ((F_X5_fails g 3).1, (F_X5_fails g 3).2)))
set_option maxRecDepth 100000 in
set_option maxHeartbeats 4000000 in
theorem k_X5_readBed (l : Launch) (G : mm_G) {pr : Nat → Nat → Prop} {ad : Nat → Nat → Nat → Nat} (hw : mm_W pr) (g : mm_g) {k2 : Nat} (hk2 : pr 2 k2)  : Mt l G yX5_readBed cX5_readBed 5 (some .boolean) (rmk 4 128) [.ref (ad 5 0 0), .ref (ad 2 k2 0)] pr ad g (qM pr ad (F_X5_readBed g k2)) 0 0 := by
  refine Mt_of (by decide) (Nat.le_of_ble_eq_true rfl) ?_
  show V l G RX5 cX5_readBed 5 (some .boolean) _ _ 0 0 0 0 0 [(0, .ref (ad 5 0 0)), (1, .ref (ad 2 k2 0))] [] pr ad g
  refine V_aload_n dX5_readBed_0 0 rfl ?_
  refine V_aload_n dX5_readBed_1 0 rfl ?_
  refine V_get (i := 2) inlX5 rfl (W_5 hw) rfl (by decide) q_52 rfl dX5_readBed_2 ?_
  refine V_cV (k_X5_letterAt l G hw g  (g 5 0 1) ) hy_X5_letterAt hi_X5_letterAt hs_X5_letterAt q_249 rfl rfl (W_5 hw) rfl rfl rfl rfl rfl ⟨by decide, by decide⟩ (Nat.le_of_ble_eq_true rfl) ⟨by decide, by decide⟩ dX5_readBed_5 (V_kI ?_)
  refine V_cS (k_X5_kindNamed l G hw g  (F_X5_letterAt g (g 5 0 1)) ) hy_X5_kindNamed hz_X5_kindNamed q_277 rfl rfl rfl rfl ⟨by decide, by decide⟩ (Nat.le_of_ble_eq_true rfl) ⟨by decide, by decide⟩ dX5_readBed_8 (V_kI ?_)
  refine V_istore_n (L2 := [(2, .int (F_X5_kindNamed (F_X5_letterAt g (g 5 0 1)))), (0, .ref (ad 5 0 0)), (1, .ref (ad 2 k2 0))]) dX5_readBed_11 (by decide) rfl ?_
  refine V_iload_n dX5_readBed_12 0 rfl ?_
  refine V_if_ne (tgt := 22) dX5_readBed_13 (by decide) (fun c_13 => ?_) (fun c_13 => ?_)
  · refine V_aload_n dX5_readBed_22 2 rfl ?_
    refine V_getN (i := 0) inlX2 rfl hk2 rfl (by decide) nf_X5_60 rfl dX5_readBed_23 ?_
    refine V_bipush (v := 9) dX5_readBed_26 (by decide) ?_
    refine V_ic_lt (tgt := 37) dX5_readBed_28 (by decide) (fun c_28 => ?_) (fun c_28 => ?_)
    · refine V_aload_n dX5_readBed_37 1 rfl ?_
      refine V_dup dX5_readBed_38 rfl ?_
      refine V_get (i := 2) inlX5 rfl (W_5 hw) rfl (by decide) q_52 rfl dX5_readBed_39 ?_
      refine V_iconst (v := 1) dX5_readBed_42 (by decide) ?_
      refine V_iadd dX5_readBed_43 ?_
      refine P_5_2 (W_5 hw) q_52 dX5_readBed_44 ?_
      refine V_aload_n dX5_readBed_47 1 rfl ?_
      refine V_iconst (v := 0) dX5_readBed_48 (by decide) ?_
      refine V_bipush (v := 99) dX5_readBed_49 (by decide) ?_
      refine V_cV (k_X5_number l G hw (wr g 5 0 1 ((g 5 0 1) + 1))  0 99 ) hy_X5_number hi_X5_number hs_X5_number q_257 rfl rfl (W_5 hw) rfl rfl rfl rfl rfl ⟨by decide, by decide⟩ (Nat.le_of_ble_eq_true rfl) ⟨by decide, by decide⟩ dX5_readBed_51 (V_kM ?_)
      refine V_istore_n (L2 := [(3, .int ((F_X5_number (wr g 5 0 1 ((g 5 0 1) + 1)) 0 99).1)), (2, .int (F_X5_kindNamed (F_X5_letterAt g (g 5 0 1)))), (0, .ref (ad 5 0 0)), (1, .ref (ad 2 k2 0))]) dX5_readBed_54 (by decide) rfl ?_
      refine V_iload_n dX5_readBed_55 0 rfl ?_
      refine V_iconst (v := (-1)) dX5_readBed_56 (by decide) ?_
      refine V_ic_eq (tgt := 69) dX5_readBed_57 (by decide) (fun c_57 => ?_) (fun c_57 => ?_)
      · refine V_iconst (v := 0) dX5_readBed_69 (by decide) ?_
        exact V_zret dX5_readBed_70 rfl rfl (lfM (by simp only [F_X5_readBed, if_neg c_13, if_pos c_28, if_pos c_57]))
      · refine V_aload_n dX5_readBed_60 2 rfl ?_
        refine V_bipush (v := 44) dX5_readBed_61 (by decide) ?_
        refine V_cV (k_X5_takes l G hw ((F_X5_number (wr g 5 0 1 ((g 5 0 1) + 1)) 0 99).2)  44 ) hy_X5_takes hi_X5_takes hs_X5_takes q_245 rfl rfl (W_5 hw) rfl rfl rfl rfl rfl ⟨by decide, by decide⟩ (Nat.le_of_ble_eq_true rfl) ⟨by decide, by decide⟩ dX5_readBed_63 (V_kM ?_)
        refine V_if_ne (tgt := 71) dX5_readBed_66 (by decide) (fun c_66 => ?_) (fun c_66 => ?_)
        · refine V_aload_n dX5_readBed_71 2 rfl ?_
          refine V_iconst (v := 0) dX5_readBed_72 (by decide) ?_
          refine V_bipush (v := 9) dX5_readBed_73 (by decide) ?_
          refine V_cV (k_X5_number l G hw ((F_X5_takes ((F_X5_number (wr g 5 0 1 ((g 5 0 1) + 1)) 0 99).2) 44).2)  0 9 ) hy_X5_number hi_X5_number hs_X5_number q_257 rfl rfl (W_5 hw) rfl rfl rfl rfl rfl ⟨by decide, by decide⟩ (Nat.le_of_ble_eq_true rfl) ⟨by decide, by decide⟩ dX5_readBed_75 (V_kM ?_)
          refine V_istore (L2 := [(4, .int ((F_X5_number ((F_X5_takes ((F_X5_number (wr g 5 0 1 ((g 5 0 1) + 1)) 0 99).2) 44).2) 0 9).1)), (3, .int ((F_X5_number (wr g 5 0 1 ((g 5 0 1) + 1)) 0 99).1)), (2, .int (F_X5_kindNamed (F_X5_letterAt g (g 5 0 1)))), (0, .ref (ad 5 0 0)), (1, .ref (ad 2 k2 0))]) dX5_readBed_78 (by decide) rfl ?_
          refine V_iload dX5_readBed_80 0 rfl ?_
          refine V_iconst (v := (-1)) dX5_readBed_82 (by decide) ?_
          refine V_ic_eq (tgt := 95) dX5_readBed_83 (by decide) (fun c_83 => ?_) (fun c_83 => ?_)
          · refine V_iconst (v := 0) dX5_readBed_95 (by decide) ?_
            exact V_zret dX5_readBed_96 rfl rfl (lfM (by simp only [F_X5_readBed, if_neg c_13, if_pos c_28, if_neg c_57, if_neg c_66, if_pos c_83]))
          · refine V_aload_n dX5_readBed_86 3 rfl ?_
            refine V_bipush (v := 59) dX5_readBed_87 (by decide) ?_
            refine V_cV (k_X5_takes l G hw ((F_X5_number ((F_X5_takes ((F_X5_number (wr g 5 0 1 ((g 5 0 1) + 1)) 0 99).2) 44).2) 0 9).2)  59 ) hy_X5_takes hi_X5_takes hs_X5_takes q_245 rfl rfl (W_5 hw) rfl rfl rfl rfl rfl ⟨by decide, by decide⟩ (Nat.le_of_ble_eq_true rfl) ⟨by decide, by decide⟩ dX5_readBed_89 (V_kM ?_)
            refine V_if_ne (tgt := 97) dX5_readBed_92 (by decide) (fun c_92 => ?_) (fun c_92 => ?_)
            · refine V_aload_n dX5_readBed_97 4 rfl ?_
              refine V_iload_n dX5_readBed_98 2 rfl ?_
              refine V_iload_n dX5_readBed_99 1 rfl ?_
              refine V_iload dX5_readBed_100 0 rfl ?_
              refine V_cV (k_X2_add l G hw ((F_X5_takes ((F_X5_number ((F_X5_takes ((F_X5_number (wr g 5 0 1 ((g 5 0 1) + 1)) 0 99).2) 44).2) 0 9).2) 59).2) hk2 (F_X5_kindNamed (F_X5_letterAt g (g 5 0 1))) ((F_X5_number (wr g 5 0 1 ((g 5 0 1) + 1)) 0 99).1) ((F_X5_number ((F_X5_takes ((F_X5_number (wr g 5 0 1 ((g 5 0 1) + 1)) 0 99).2) 44).2) 0 9).1) ) hy_X2_add hi_X2_add hs_X2_add q_280 rfl rfl hk2 rfl rfl rfl rfl rfl ⟨by decide, by decide⟩ (Nat.le_of_ble_eq_true rfl) ⟨by decide, by decide⟩ dX5_readBed_102 (V_kN ?_)
              refine V_iconst (v := 1) dX5_readBed_105 (by decide) ?_
              exact V_zret dX5_readBed_106 rfl rfl (lfM (by simp only [F_X5_readBed, if_neg c_13, if_pos c_28, if_neg c_57, if_neg c_66, if_neg c_83, if_neg c_92]))
            · refine V_iconst (v := 0) dX5_readBed_95 (by decide) ?_
              exact V_zret dX5_readBed_96 rfl rfl (lfM (by simp only [F_X5_readBed, if_neg c_13, if_pos c_28, if_neg c_57, if_neg c_66, if_neg c_83, if_pos c_92]))
        · refine V_iconst (v := 0) dX5_readBed_69 (by decide) ?_
          exact V_zret dX5_readBed_70 rfl rfl (lfM (by simp only [F_X5_readBed, if_neg c_13, if_pos c_28, if_neg c_57, if_pos c_66]))
    · refine V_aload_n dX5_readBed_31 1 rfl ?_
      refine V_iconst (v := 3) dX5_readBed_32 (by decide) ?_
      refine V_cV (k_X5_fails l G hw g  3 ) hy_X5_fails hi_X5_fails hs_X5_fails q_253 rfl rfl (W_5 hw) rfl rfl rfl rfl rfl ⟨by decide, by decide⟩ (Nat.le_of_ble_eq_true rfl) ⟨by decide, by decide⟩ dX5_readBed_33 (V_kM ?_)
      exact V_zret dX5_readBed_36 rfl (by simp only [F_X5_fails]; rfl) (lfM (by simp only [F_X5_readBed, if_neg c_13, if_neg c_28]))
  · refine V_aload_n dX5_readBed_16 1 rfl ?_
    refine V_iconst (v := 1) dX5_readBed_17 (by decide) ?_
    refine V_cV (k_X5_fails l G hw g  1 ) hy_X5_fails hi_X5_fails hs_X5_fails q_253 rfl rfl (W_5 hw) rfl rfl rfl rfl rfl ⟨by decide, by decide⟩ (Nat.le_of_ble_eq_true rfl) ⟨by decide, by decide⟩ dX5_readBed_18 (V_kM ?_)
    exact V_zret dX5_readBed_21 rfl (by simp only [F_X5_fails]; rfl) (lfM (by simp only [F_X5_readBed, if_pos c_13]))
def F_X5_readBeds_2 (k2 : Nat) (K : Nat → mm_g → mm_g) : Nat → Nat → mm_g → mm_g
  | 0, j, s => K j s
  | n + 1, j, s => (if 9 < (nI j) then K j s else (if (F_X5_readBed s k2).1 = 0 then (F_X5_readBed s k2).2 else (if (((F_X5_readBed s k2).2) 5 0 1) < (((F_X5_readBed s k2).2) 5 0 0) then F_X5_readBeds_2 k2 K n (j + 1) ((F_X5_readBed s k2).2) else (F_X5_readBed s k2).2)))
def F_X5_readBeds (g : mm_g) (k2 : Nat) : mm_g := (F_X5_readBeds_2 k2 (fun (j2 : Nat) (s2 : mm_g) => s2) 11 0 g)
set_option maxRecDepth 100000 in
set_option maxHeartbeats 4000000 in
theorem w_X5_readBeds_2 (l : Launch) (G : mm_G) {pr : Nat → Nat → Prop} {ad : Nat → Nat → Nat → Nat} (hw : mm_W pr) (k2 : Nat)  (hk2 : pr 2 k2) (K : Nat → mm_g → mm_g) (hK : ∀ (j : Nat) (s : mm_g) (hj : j ≤ 10), V l G RX5 cX5_readBeds 3 none (rmk 5 152) (qN pr ad (K j s)) 0 0 0 0 34 [(0, .ref (ad 5 0 0)), (1, .ref (ad 2 k2 0)), (2, .int (nI j))] [] pr ad s) : ∀ (n : Nat) (j : Nat) (s : mm_g) (hj : j ≤ 10) (hm : 10 - j < n), V l G RX5 cX5_readBeds 3 none (rmk 5 152) (qN pr ad (F_X5_readBeds_2 k2 K n j s)) 0 0 0 0 2 [(0, .ref (ad 5 0 0)), (1, .ref (ad 2 k2 0)), (2, .int (nI j))] [] pr ad s := by
  intro n
  induction n with
  | zero => intro j s hj hm; exact absurd hm (Nat.not_lt_zero _)
  | succ n ih =>
      intro j s hj hm
      refine V_iload_n dX5_readBeds_2 2 rfl ?_
      refine V_bipush (v := 9) dX5_readBeds_3 (by decide) ?_
      refine V_ic_gt (tgt := 34) dX5_readBeds_5 (by decide) (fun c_5 => ?_) (fun c_5 => ?_)
      · refine V_rp (R2 := K j s) (by simp only [F_X5_readBeds_2, if_pos c_5]) ?_
        refine V_lp [0, 1, 2] rfl ?_
        exact hK j s (by assumption)
      · refine V_aload_n dX5_readBeds_8 0 rfl ?_
        refine V_aload_n dX5_readBeds_9 1 rfl ?_
        refine V_cV (k_X5_readBed l G hw s hk2  ) hy_X5_readBed hi_X5_readBed hs_X5_readBed q_273 rfl rfl (W_5 hw) rfl rfl rfl rfl rfl ⟨by decide, by decide⟩ (Nat.le_of_ble_eq_true rfl) ⟨by decide, by decide⟩ dX5_readBeds_10 (V_kM ?_)
        refine V_if_eq (tgt := 27) dX5_readBeds_13 (by decide) (fun c_13 => ?_) (fun c_13 => ?_)
        · exact V_vret dX5_readBeds_27 rfl (lfN (by simp only [F_X5_readBeds_2, if_neg c_5, if_pos c_13]))
        · refine V_aload_n dX5_readBeds_16 0 rfl ?_
          refine V_get (i := 2) inlX5 rfl (W_5 hw) rfl (by decide) q_52 rfl dX5_readBeds_17 ?_
          refine V_aload_n dX5_readBeds_20 0 rfl ?_
          refine V_get (i := 1) inlX5 rfl (W_5 hw) rfl (by decide) q_51 rfl dX5_readBeds_21 ?_
          refine V_ic_lt (tgt := 28) dX5_readBeds_24 (by decide) (fun c_24 => ?_) (fun c_24 => ?_)
          · refine V_iinc (v := (nI (j + 1))) (L2 := [(2, .int (nI (j + 1))), (0, .ref (ad 5 0 0)), (1, .ref (ad 2 k2 0))]) dX5_readBeds_28 2 rfl (nI_1 _) (by decide) rfl ?_
            refine V_goto (tgt := 2) dX5_readBeds_31 (by decide) ?_
            refine V_rp (R2 := F_X5_readBeds_2 k2 K n (j + 1) ((F_X5_readBed s k2).2)) (by simp only [F_X5_readBeds_2, if_neg c_5, if_neg c_13, if_pos c_24]) ?_
            refine V_lp [1, 2, 0] rfl ?_
            exact ih (j + 1) ((F_X5_readBed s k2).2) (by exact (lp_ul (x := 9) (n := n) (by decide) hj c_5 (by decide) hm).1) (by exact (lp_ul (x := 9) (n := n) (by decide) hj c_5 (by decide) hm).2) 
          · exact V_vret dX5_readBeds_27 rfl (lfN (by simp only [F_X5_readBeds_2, if_neg c_5, if_neg c_13, if_neg c_24]))
set_option maxRecDepth 100000 in
set_option maxHeartbeats 4000000 in
theorem k_X5_readBeds (l : Launch) (G : mm_G) {pr : Nat → Nat → Prop} {ad : Nat → Nat → Nat → Nat} (hw : mm_W pr) (g : mm_g) {k2 : Nat} (hk2 : pr 2 k2)  : Mt l G yX5_readBeds cX5_readBeds 3 none (rmk 5 152) [.ref (ad 5 0 0), .ref (ad 2 k2 0)] pr ad g (qN pr ad (F_X5_readBeds g k2)) 0 0 := by
  refine Mt_of (by decide) (Nat.le_of_ble_eq_true rfl) ?_
  show V l G RX5 cX5_readBeds 3 none _ _ 0 0 0 0 0 [(0, .ref (ad 5 0 0)), (1, .ref (ad 2 k2 0))] [] pr ad g
  refine V_iconst (v := 0) dX5_readBeds_0 (by decide) ?_
  refine V_istore_n (L2 := [(2, .int 0), (0, .ref (ad 5 0 0)), (1, .ref (ad 2 k2 0))]) dX5_readBeds_1 (by decide) rfl ?_
  refine V_rp (R2 := F_X5_readBeds_2 k2 (fun (j2 : Nat) (s2 : mm_g) => s2) 11 0 g) (by simp only [F_X5_readBeds]) ?_
  refine V_lp [1, 2, 0] rfl ?_
  refine w_X5_readBeds_2 l G hw k2 hk2  _ (fun j2 s2 hj2 => ?_) 11 0 g (by omega) (by omega)
  exact V_vret dX5_readBeds_34 rfl (lfN (by rfl))
def F_X5_readInto (g : mm_g) (k2 : Nat) : Int32 × mm_g := (if (F_X5_readLaw (wr (wr g 5 0 1 0) 5 0 2 0) k2).1 = 0 then ((((F_X5_readLaw (wr (wr g 5 0 1 0) 5 0 2 0) k2).2) 5 0 2), (F_X5_readLaw (wr (wr g 5 0 1 0) 5 0 2 0) k2).2) else (((F_X5_readBeds ((F_X5_readLaw (wr (wr g 5 0 1 0) 5 0 2 0) k2).2) k2) 5 0 2), (F_X5_readBeds ((F_X5_readLaw (wr (wr g 5 0 1 0) 5 0 2 0) k2).2) k2)))
set_option maxRecDepth 100000 in
set_option maxHeartbeats 4000000 in
theorem k_X5_readInto (l : Launch) (G : mm_G) {pr : Nat → Nat → Prop} {ad : Nat → Nat → Nat → Nat} (hw : mm_W pr) (g : mm_g) {k2 : Nat} (hk2 : pr 2 k2)  : Mt l G yX5_readInto cX5_readInto 2 (some .int) (rmk 6 174) [.ref (ad 5 0 0), .ref (ad 2 k2 0)] pr ad g (qM pr ad (F_X5_readInto g k2)) 0 0 := by
  refine Mt_of (by decide) (Nat.le_of_ble_eq_true rfl) ?_
  show V l G RX5 cX5_readInto 2 (some .int) _ _ 0 0 0 0 0 [(0, .ref (ad 5 0 0)), (1, .ref (ad 2 k2 0))] [] pr ad g
  refine V_aload_n dX5_readInto_0 0 rfl ?_
  refine V_iconst (v := 0) dX5_readInto_1 (by decide) ?_
  refine P_5_2 (W_5 hw) q_52 dX5_readInto_2 ?_
  refine V_aload_n dX5_readInto_5 0 rfl ?_
  refine V_iconst (v := 0) dX5_readInto_6 (by decide) ?_
  refine P_5_3 (W_5 hw) q_53 dX5_readInto_7 ?_
  refine V_aload_n dX5_readInto_10 0 rfl ?_
  refine V_aload_n dX5_readInto_11 1 rfl ?_
  refine V_cV (k_X5_readLaw l G hw (wr (wr g 5 0 1 0) 5 0 2 0) hk2  ) hy_X5_readLaw hi_X5_readLaw hs_X5_readLaw q_241 rfl rfl (W_5 hw) rfl rfl rfl rfl rfl ⟨by decide, by decide⟩ (Nat.le_of_ble_eq_true rfl) ⟨by decide, by decide⟩ dX5_readInto_12 (V_kM ?_)
  refine V_if_eq (tgt := 23) dX5_readInto_15 (by decide) (fun c_15 => ?_) (fun c_15 => ?_)
  · refine V_aload_n dX5_readInto_23 0 rfl ?_
    refine V_get (i := 3) inlX5 rfl (W_5 hw) rfl (by decide) q_53 rfl dX5_readInto_24 ?_
    exact V_iret dX5_readInto_27 rfl (lfM (by simp only [F_X5_readInto, if_pos c_15]))
  · refine V_aload_n dX5_readInto_18 0 rfl ?_
    refine V_aload_n dX5_readInto_19 1 rfl ?_
    refine V_cV (k_X5_readBeds l G hw ((F_X5_readLaw (wr (wr g 5 0 1 0) 5 0 2 0) k2).2) hk2  ) hy_X5_readBeds hi_X5_readBeds hs_X5_readBeds q_269 rfl rfl (W_5 hw) rfl rfl rfl rfl rfl ⟨by decide, by decide⟩ (Nat.le_of_ble_eq_true rfl) ⟨by decide, by decide⟩ dX5_readInto_20 (V_kN ?_)
    refine V_aload_n dX5_readInto_23 0 rfl ?_
    refine V_get (i := 3) inlX5 rfl (W_5 hw) rfl (by decide) q_53 rfl dX5_readInto_24 ?_
    exact V_iret dX5_readInto_27 rfl (lfM (by simp only [F_X5_readInto, if_neg c_15]))
def F_X0_kept (g : mm_g) : Int32 := (g 0 0 1)
set_option maxRecDepth 100000 in
set_option maxHeartbeats 4000000 in
theorem k_X0_kept (l : Launch) (G : mm_G) {pr : Nat → Nat → Prop} {ad : Nat → Nat → Nat → Nat} (hw : mm_W pr) (g : mm_g)  : Mt l G yX0_kept cX0_kept 1 (some .int) (rmk 1 60) [.ref (ad 0 0 0)] pr ad g (qI pr ad g (F_X0_kept g)) 0 0 := by
  refine Mt_of (by decide) (Nat.le_of_ble_eq_true rfl) ?_
  show V l G RX0 cX0_kept 1 (some .int) _ _ 0 0 0 0 0 [(0, .ref (ad 0 0 0))] [] pr ad g
  refine V_aload_n dX0_kept_0 0 rfl ?_
  refine V_get (i := 2) inlX0 rfl (W_0 hw) rfl (by decide) q_73 rfl dX0_kept_1 ?_
  exact V_iret dX0_kept_4 rfl (lfI (by simp only [F_X0_kept]))
def F_X0_forget (g : mm_g) : mm_g := (wr g 0 0 1 0)
set_option maxRecDepth 100000 in
set_option maxHeartbeats 4000000 in
theorem k_X0_forget (l : Launch) (G : mm_G) {pr : Nat → Nat → Prop} {ad : Nat → Nat → Nat → Nat} (hw : mm_W pr) (g : mm_g)  : Mt l G yX0_forget cX0_forget 1 none (rmk 1 60) [.ref (ad 0 0 0)] pr ad g (qN pr ad (F_X0_forget g)) 0 0 := by
  refine Mt_of (by decide) (Nat.le_of_ble_eq_true rfl) ?_
  show V l G RX0 cX0_forget 1 none _ _ 0 0 0 0 0 [(0, .ref (ad 0 0 0))] [] pr ad g
  refine V_aload_n dX0_forget_0 0 rfl ?_
  refine V_iconst (v := 0) dX0_forget_1 (by decide) ?_
  refine P_0_2 (W_0 hw) q_73 dX0_forget_2 ?_
  exact V_vret dX0_forget_5 rfl (lfN (by simp only [F_X0_forget]))
def F_X0_takeBack (g : mm_g) (k2 : Nat) : Int32 × mm_g := (if 1 ≤ (g 0 0 1) then (if (F_X6_within ((((g 0 0 0) + 24) - 1) - (((g 0 0 0) + 24) - 1) / 24 * 24) 0 23) = 0 then (0, g) else (if g 0 1 ((((g 0 0 0) + 24) - 1) - (((g 0 0 0) + 24) - 1) / 24 * 24).toNatClampNeg = 0 then (0, g) else (1, (wr (wr (F_X2_become g k2 (2 + ((((g 0 0 0) + 24) - 1) - (((g 0 0 0) + 24) - 1) / 24 * 24).toNatClampNeg)) 0 0 0 ((((g 0 0 0) + 24) - 1) - (((g 0 0 0) + 24) - 1) / 24 * 24)) 0 0 1 (((wr (F_X2_become g k2 (2 + ((((g 0 0 0) + 24) - 1) - (((g 0 0 0) + 24) - 1) / 24 * 24).toNatClampNeg)) 0 0 0 ((((g 0 0 0) + 24) - 1) - (((g 0 0 0) + 24) - 1) / 24 * 24)) 0 0 1) - 1))))) else (0, g))
set_option maxRecDepth 100000 in
set_option maxHeartbeats 4000000 in
theorem k_X0_takeBack (l : Launch) (G : mm_G) {pr : Nat → Nat → Prop} {ad : Nat → Nat → Nat → Nat} (hw : mm_W pr) (g : mm_g) {k2 : Nat} (hk2 : pr 2 k2) (hA : ∀ i, i < 24 → ¬ g 0 1 i = 0 → pr 2 (2 + i))  : Mt l G yX0_takeBack cX0_takeBack 4 (some .boolean) (rmk 2 82) [.ref (ad 0 0 0), .ref (ad 2 k2 0)] pr ad g (qM pr ad (F_X0_takeBack g k2)) 0 0 := by
  refine Mt_of (by decide) (Nat.le_of_ble_eq_true rfl) ?_
  show V l G RX0 cX0_takeBack 4 (some .boolean) _ _ 0 0 0 0 0 [(0, .ref (ad 0 0 0)), (1, .ref (ad 2 k2 0))] [] pr ad g
  refine V_aload_n dX0_takeBack_0 0 rfl ?_
  refine V_get (i := 2) inlX0 rfl (W_0 hw) rfl (by decide) q_73 rfl dX0_takeBack_1 ?_
  refine V_iconst (v := 1) dX0_takeBack_4 (by decide) ?_
  refine V_ic_ge (tgt := 10) dX0_takeBack_5 (by decide) (fun c_5 => ?_) (fun c_5 => ?_)
  · refine V_aload_n dX0_takeBack_10 0 rfl ?_
    refine V_get (i := 1) inlX0 rfl (W_0 hw) rfl (by decide) q_72 rfl dX0_takeBack_11 ?_
    refine V_bipush (v := 24) dX0_takeBack_14 (by decide) ?_
    refine V_iadd dX0_takeBack_16 ?_
    refine V_iconst (v := 1) dX0_takeBack_17 (by decide) ?_
    refine V_isub dX0_takeBack_18 ?_
    refine V_bipush (v := 24) dX0_takeBack_19 (by decide) ?_
    refine V_irem dX0_takeBack_21 (by decide) ?_
    refine V_istore_n (L2 := [(2, .int ((((g 0 0 0) + 24) - 1) - (((g 0 0 0) + 24) - 1) / 24 * 24)), (0, .ref (ad 0 0 0)), (1, .ref (ad 2 k2 0))]) dX0_takeBack_22 (by decide) rfl ?_
    refine V_iload_n dX0_takeBack_23 0 rfl ?_
    refine V_iconst (v := 0) dX0_takeBack_24 (by decide) ?_
    refine V_bipush (v := 23) dX0_takeBack_25 (by decide) ?_
    refine V_cSN (k_X6_within l G hw g  ((((g 0 0 0) + 24) - 1) - (((g 0 0 0) + 24) - 1) / 24 * 24) 0 23 ) hy_X6_within hz_X6_within nm_X0_24 rfl rfl rfl rfl ⟨by decide, by decide⟩ (Nat.le_of_ble_eq_true rfl) ⟨by decide, by decide⟩ dX0_takeBack_27 (V_kI ?_)
    refine V_if_ne (tgt := 35) dX0_takeBack_30 (by decide) (fun c_30 => ?_) (fun c_30 => ?_)
    · refine V_aload_n dX0_takeBack_35 1 rfl ?_
      refine V_get (i := 0) inlX0 rfl (W_0 hw) rfl (by decide) q_71 rfl dX0_takeBack_36 ?_
      refine V_iload_n dX0_takeBack_39 0 rfl ?_
      by_cases o_40 : g 0 1 ((((g 0 0 0) + 24) - 1) - (((g 0 0 0) + 24) - 1) / 24 * 24).toNatClampNeg = 0
      · refine A_0_N (W_0 hw) (by first | exact ix_w23 c_30) o_40 dX0_takeBack_40 ?_
        refine V_astN (L2 := [(3, .null), (2, .int ((((g 0 0 0) + 24) - 1) - (((g 0 0 0) + 24) - 1) / 24 * 24)), (0, .ref (ad 0 0 0)), (1, .ref (ad 2 k2 0))]) dX0_takeBack_41 (by decide) rfl ?_
        refine V_aldN dX0_takeBack_42 0 rfl ?_
        refine V_nnN dX0_takeBack_43 ?_
        refine V_iconst (v := 0) dX0_takeBack_46 (by decide) ?_
        exact V_zret dX0_takeBack_47 rfl rfl (lfM (by simp only [F_X0_takeBack, if_pos c_5, if_neg c_30, if_pos o_40]))
      · refine A_0_R (W_0 hw) (by first | exact ix_w23 c_30) o_40 dX0_takeBack_40 ?_
        refine V_astore_n (L2 := [(3, .ref (ad 2 (2 + ((((g 0 0 0) + 24) - 1) - (((g 0 0 0) + 24) - 1) / 24 * 24).toNatClampNeg) 0)), (2, .int ((((g 0 0 0) + 24) - 1) - (((g 0 0 0) + 24) - 1) / 24 * 24)), (0, .ref (ad 0 0 0)), (1, .ref (ad 2 k2 0))]) dX0_takeBack_41 (by decide) rfl ?_
        refine V_aload_n dX0_takeBack_42 0 rfl ?_
        refine V_nnR (tgt := 48) dX0_takeBack_43 (by decide) ?_
        refine V_aload_n dX0_takeBack_48 3 rfl ?_
        refine V_aload_n dX0_takeBack_49 0 rfl ?_
        refine V_cV (k_X2_become l G hw g hk2 (hA _ (vp_lt (by first | exact ix_w23 c_30)) o_40)  ) hy_X2_become hi_X2_become hs_X2_become q_362 rfl rfl hk2 rfl rfl rfl rfl rfl ⟨by decide, by decide⟩ (Nat.le_of_ble_eq_true rfl) ⟨by decide, by decide⟩ dX0_takeBack_50 (V_kN ?_)
        refine V_aload_n dX0_takeBack_53 2 rfl ?_
        refine V_iload_n dX0_takeBack_54 1 rfl ?_
        refine P_0_1 (W_0 hw) q_72 dX0_takeBack_55 ?_
        refine V_aload_n dX0_takeBack_58 2 rfl ?_
        refine V_dup dX0_takeBack_59 rfl ?_
        refine V_get (i := 2) inlX0 rfl (W_0 hw) rfl (by decide) q_73 rfl dX0_takeBack_60 ?_
        refine V_iconst (v := 1) dX0_takeBack_63 (by decide) ?_
        refine V_isub dX0_takeBack_64 ?_
        refine P_0_2 (W_0 hw) q_73 dX0_takeBack_65 ?_
        refine V_iconst (v := 1) dX0_takeBack_68 (by decide) ?_
        exact V_zret dX0_takeBack_69 rfl rfl (lfM (by simp only [F_X0_takeBack, if_pos c_5, if_neg c_30, if_neg o_40]))
    · refine V_iconst (v := 0) dX0_takeBack_33 (by decide) ?_
      exact V_zret dX0_takeBack_34 rfl rfl (lfM (by simp only [F_X0_takeBack, if_pos c_5, if_pos c_30]))
  · refine V_iconst (v := 0) dX0_takeBack_8 (by decide) ?_
    exact V_zret dX0_takeBack_9 rfl rfl (lfM (by simp only [F_X0_takeBack, if_neg c_5]))
def F_X1_isSuch_4 (g4 : mm_g) (x1 : Int32) (x2 : Int32) (K : Int32 → Nat → Int32) : Nat → Int32 → Nat → Int32
  | 0, a, j => K a j
  | n + 1, a, j => (if 6 ≤ (nI j) then K a j else (if (F_X6_within a 0 5) = 0 then K a j else (if a = x2 then 1 else F_X1_isSuch_4 g4 x1 x2 K n (mm_t0 a.toNatClampNeg) (j + 1))))
def F_X1_isSuch (g : mm_g) (x1 : Int32) (x2 : Int32) : Int32 := (F_X1_isSuch_4 g x1 x2 (fun (a4 : Int32) (j4 : Nat) => 0) ((6 : Int32).toInt.toNat + 1) x1 0)
set_option maxRecDepth 100000 in
set_option maxHeartbeats 4000000 in
theorem w_X1_isSuch_4 (l : Launch) (G : mm_G) {pr : Nat → Nat → Prop} {ad : Nat → Nat → Nat → Nat} (hw : mm_W pr) (g4 : mm_g) (x1 : Int32) (x2 : Int32)  (K : Int32 → Nat → Int32) (hK : ∀ (a : Int32) (j : Nat) (hj : j ≤ (6 : Int32).toInt.toNat), V l G RX1 cX1_isSuch 4 (some .boolean) (rmk 2 82) (qI pr ad g4 (K a j)) 0 0 0 0 40 [(0, .int x1), (1, .int x2), (2, .int a), (3, .int (nI j))] [] pr ad g4) : ∀ (n : Nat) (a : Int32) (j : Nat) (hj : j ≤ (6 : Int32).toInt.toNat) (hm : (6 : Int32).toInt.toNat - j < n), V l G RX1 cX1_isSuch 4 (some .boolean) (rmk 2 82) (qI pr ad g4 (F_X1_isSuch_4 g4 x1 x2 K n a j)) 0 0 0 0 4 [(0, .int x1), (1, .int x2), (2, .int a), (3, .int (nI j))] [] pr ad g4 := by
  intro n
  induction n with
  | zero => intro a j hj hm; exact absurd hm (Nat.not_lt_zero _)
  | succ n ih =>
      intro a j hj hm
      refine V_iload_n dX1_isSuch_4 3 rfl ?_
      refine V_gs0 q_934 dX1_isSuch_5 ?_
      refine V_tl0 dX1_isSuch_8 ?_
      refine V_ic_ge (tgt := 40) dX1_isSuch_9 (by decide) (fun c_9 => ?_) (fun c_9 => ?_)
      · refine V_rp (R2 := K a j) (by simp only [F_X1_isSuch_4, if_pos c_9]) ?_
        refine V_lp [0, 1, 2, 3] rfl ?_
        exact hK a j (by assumption)
      · refine V_iload_n dX1_isSuch_12 2 rfl ?_
        refine V_iconst (v := 0) dX1_isSuch_13 (by decide) ?_
        refine V_iconst (v := 5) dX1_isSuch_14 (by decide) ?_
        refine V_cSN (k_X6_within l G hw g4  a 0 5 ) hy_X6_within hz_X6_within nm_X1_22 rfl rfl rfl rfl ⟨by decide, by decide⟩ (Nat.le_of_ble_eq_true rfl) ⟨by decide, by decide⟩ dX1_isSuch_15 (V_kI ?_)
        refine V_if_eq (tgt := 40) dX1_isSuch_18 (by decide) (fun c_18 => ?_) (fun c_18 => ?_)
        · refine V_rp (R2 := K a j) (by simp only [F_X1_isSuch_4, if_neg c_9, if_pos c_18]) ?_
          refine V_lp [0, 1, 2, 3] rfl ?_
          exact hK a j (by assumption)
        · refine V_iload_n dX1_isSuch_21 2 rfl ?_
          refine V_iload_n dX1_isSuch_22 1 rfl ?_
          refine V_ic_ne (tgt := 28) dX1_isSuch_23 (by decide) (fun c_23 => ?_) (fun c_23 => ?_)
          · refine V_gs0 q_934 dX1_isSuch_28 ?_
            refine V_iload_n dX1_isSuch_31 2 rfl ?_
            refine V_ts0 (by first | exact ix_w5 c_18) dX1_isSuch_32 ?_
            refine V_istore_n (L2 := [(2, .int (mm_t0 a.toNatClampNeg)), (0, .int x1), (1, .int x2), (3, .int (nI j))]) dX1_isSuch_33 (by decide) rfl ?_
            refine V_iinc (v := (nI (j + 1))) (L2 := [(3, .int (nI (j + 1))), (2, .int (mm_t0 a.toNatClampNeg)), (0, .int x1), (1, .int x2)]) dX1_isSuch_34 3 rfl (nI_1 _) (by decide) rfl ?_
            refine V_goto (tgt := 4) dX1_isSuch_37 (by decide) ?_
            refine V_rp (R2 := F_X1_isSuch_4 g4 x1 x2 K n (mm_t0 a.toNatClampNeg) (j + 1)) (by simp only [F_X1_isSuch_4, if_neg c_9, if_neg c_18, if_neg c_23]) ?_
            refine V_lp [2, 3, 1, 0] rfl ?_
            exact ih (mm_t0 a.toNatClampNeg) (j + 1) (by exact (lp_up hj c_9 hm).1) (by exact (lp_up hj c_9 hm).2) 
          · refine V_iconst (v := 1) dX1_isSuch_26 (by decide) ?_
            exact V_zret dX1_isSuch_27 rfl rfl (lfI (by simp only [F_X1_isSuch_4, if_neg c_9, if_neg c_18, if_pos c_23]))
set_option maxRecDepth 100000 in
set_option maxHeartbeats 4000000 in
theorem k_X1_isSuch (l : Launch) (G : mm_G) {pr : Nat → Nat → Prop} {ad : Nat → Nat → Nat → Nat} (hw : mm_W pr) (g : mm_g) (x1 : Int32) (x2 : Int32)  : Mt l G yX1_isSuch cX1_isSuch 4 (some .boolean) (rmk 2 82) [.int x1, .int x2] pr ad g (qI pr ad g (F_X1_isSuch g x1 x2)) 0 0 := by
  refine Mt_of (by decide) (Nat.le_of_ble_eq_true rfl) ?_
  show V l G RX1 cX1_isSuch 4 (some .boolean) _ _ 0 0 0 0 0 [(0, .int x1), (1, .int x2)] [] pr ad g
  refine V_iload_n dX1_isSuch_0 0 rfl ?_
  refine V_istore_n (L2 := [(2, .int x1), (0, .int x1), (1, .int x2)]) dX1_isSuch_1 (by decide) rfl ?_
  refine V_iconst (v := 0) dX1_isSuch_2 (by decide) ?_
  refine V_istore_n (L2 := [(3, .int 0), (2, .int x1), (0, .int x1), (1, .int x2)]) dX1_isSuch_3 (by decide) rfl ?_
  refine V_rp (R2 := F_X1_isSuch_4 g x1 x2 (fun (a4 : Int32) (j4 : Nat) => 0) ((6 : Int32).toInt.toNat + 1) x1 0) (by simp only [F_X1_isSuch]) ?_
  refine V_lp [2, 3, 1, 0] rfl ?_
  refine w_X1_isSuch_4 l G hw g x1 x2   _ (fun a4 j4 hj4 => ?_) ((6 : Int32).toInt.toNat + 1) x1 0 (by first | exact Nat.zero_le _ | decide) (by omega)
  refine V_iconst (v := 0) dX1_isSuch_40 (by decide) ?_
  exact V_zret dX1_isSuch_41 rfl rfl (lfI (by rfl))
def F_X1_traced (g : mm_g) (x1 : Int32) : Int32 := (if x1 < 0 then (-1000000) else (if (g 1 0 0) ≤ x1 then (-1000000) else (if 16 ≤ x1 then (-1000000) else (g 1 1 x1.toNatClampNeg))))
set_option maxRecDepth 100000 in
set_option maxHeartbeats 4000000 in
theorem k_X1_traced (l : Launch) (G : mm_G) {pr : Nat → Nat → Prop} {ad : Nat → Nat → Nat → Nat} (hw : mm_W pr) (g : mm_g) (x1 : Int32)  : Mt l G yX1_traced cX1_traced 2 (some .int) (rmk 1 60) [.ref (ad 1 0 0), .int x1] pr ad g (qI pr ad g (F_X1_traced g x1)) 0 0 := by
  refine Mt_of (by decide) (Nat.le_of_ble_eq_true rfl) ?_
  show V l G RX1 cX1_traced 2 (some .int) _ _ 0 0 0 0 0 [(0, .ref (ad 1 0 0)), (1, .int x1)] [] pr ad g
  refine V_iload_n dX1_traced_0 1 rfl ?_
  refine V_if_lt (tgt := 27) dX1_traced_1 (by decide) (fun c_1 => ?_) (fun c_1 => ?_)
  · refine V_ldc q_1013 dX1_traced_27 ?_
    exact V_iret dX1_traced_29 rfl (lfI (by simp only [F_X1_traced, if_pos c_1]))
  · refine V_iload_n dX1_traced_4 1 rfl ?_
    refine V_aload_n dX1_traced_5 0 rfl ?_
    refine V_get (i := 1) inlX1 rfl (W_1 hw) rfl (by decide) q_86 rfl dX1_traced_6 ?_
    refine V_ic_ge (tgt := 27) dX1_traced_9 (by decide) (fun c_9 => ?_) (fun c_9 => ?_)
    · refine V_ldc q_1013 dX1_traced_27 ?_
      exact V_iret dX1_traced_29 rfl (lfI (by simp only [F_X1_traced, if_neg c_1, if_pos c_9]))
    · refine V_iload_n dX1_traced_12 1 rfl ?_
      refine V_bipush (v := 16) dX1_traced_13 (by decide) ?_
      refine V_ic_ge (tgt := 27) dX1_traced_15 (by decide) (fun c_15 => ?_) (fun c_15 => ?_)
      · refine V_ldc q_1013 dX1_traced_27 ?_
        exact V_iret dX1_traced_29 rfl (lfI (by simp only [F_X1_traced, if_neg c_1, if_neg c_9, if_pos c_15]))
      · refine V_aload_n dX1_traced_18 0 rfl ?_
        refine V_get (i := 0) inlX1 rfl (W_1 hw) rfl (by decide) q_85 rfl dX1_traced_19 ?_
        refine V_iload_n dX1_traced_22 1 rfl ?_
        refine L_1_1 (W_1 hw) (by exact ixr c_1 c_15 rfl) dX1_traced_23 ?_
        refine V_goto (tgt := 29) dX1_traced_24 (by decide) ?_
        exact V_iret dX1_traced_29 rfl (lfI (by simp only [F_X1_traced, if_neg c_1, if_neg c_9, if_neg c_15]))
def F_X1_leave (g : mm_g) (x1 : Int32) : mm_g := (if (g 1 0 0) < 0 then g else (if (g 1 0 0) < 16 then (wr (wr g 1 1 (g 1 0 0).toNatClampNeg x1) 1 0 0 (((wr g 1 1 (g 1 0 0).toNatClampNeg x1) 1 0 0) + 1)) else g))
set_option maxRecDepth 100000 in
set_option maxHeartbeats 4000000 in
theorem k_X1_leave (l : Launch) (G : mm_G) {pr : Nat → Nat → Prop} {ad : Nat → Nat → Nat → Nat} (hw : mm_W pr) (g : mm_g) (x1 : Int32)  : Mt l G yX1_leave cX1_leave 2 none (rmk 1 60) [.ref (ad 1 0 0), .int x1] pr ad g (qN pr ad (F_X1_leave g x1)) 0 0 := by
  refine Mt_of (by decide) (Nat.le_of_ble_eq_true rfl) ?_
  show V l G RX1 cX1_leave 2 none _ _ 0 0 0 0 0 [(0, .ref (ad 1 0 0)), (1, .int x1)] [] pr ad g
  refine V_aload_n dX1_leave_0 0 rfl ?_
  refine V_get (i := 1) inlX1 rfl (W_1 hw) rfl (by decide) q_86 rfl dX1_leave_1 ?_
  refine V_if_lt (tgt := 16) dX1_leave_4 (by decide) (fun c_4 => ?_) (fun c_4 => ?_)
  · exact V_vret dX1_leave_16 rfl (lfN (by simp only [F_X1_leave, if_pos c_4]))
  · refine V_aload_n dX1_leave_7 0 rfl ?_
    refine V_get (i := 1) inlX1 rfl (W_1 hw) rfl (by decide) q_86 rfl dX1_leave_8 ?_
    refine V_bipush (v := 16) dX1_leave_11 (by decide) ?_
    refine V_ic_lt (tgt := 17) dX1_leave_13 (by decide) (fun c_13 => ?_) (fun c_13 => ?_)
    · refine V_aload_n dX1_leave_17 0 rfl ?_
      refine V_get (i := 0) inlX1 rfl (W_1 hw) rfl (by decide) q_85 rfl dX1_leave_18 ?_
      refine V_aload_n dX1_leave_21 0 rfl ?_
      refine V_get (i := 1) inlX1 rfl (W_1 hw) rfl (by decide) q_86 rfl dX1_leave_22 ?_
      refine V_iload_n dX1_leave_25 1 rfl ?_
      refine S_1_1 (W_1 hw) (by exact ixs c_4 c_13 rfl) dX1_leave_26 ?_
      refine V_aload_n dX1_leave_27 0 rfl ?_
      refine V_dup dX1_leave_28 rfl ?_
      refine V_get (i := 1) inlX1 rfl (W_1 hw) rfl (by decide) q_86 rfl dX1_leave_29 ?_
      refine V_iconst (v := 1) dX1_leave_32 (by decide) ?_
      refine V_iadd dX1_leave_33 ?_
      refine P_1_1 (W_1 hw) q_86 dX1_leave_34 ?_
      exact V_vret dX1_leave_37 rfl (lfN (by simp only [F_X1_leave, if_neg c_4, if_pos c_13]))
    · exact V_vret dX1_leave_16 rfl (lfN (by simp only [F_X1_leave, if_neg c_4, if_neg c_13]))
def F_X1_sizeBody (x1 : Int32) : Int32 := (if (F_X6_within x1 0 5) = 0 then 10 else (mm_t1 x1.toNatClampNeg))
set_option maxRecDepth 100000 in
set_option maxHeartbeats 4000000 in
theorem k_X1_sizeBody (l : Launch) (G : mm_G) {pr : Nat → Nat → Prop} {ad : Nat → Nat → Nat → Nat} (hw : mm_W pr) (g : mm_g) (x1 : Int32)  : Mt l G yX1_sizeBody cX1_sizeBody 1 (some .int) (rmk 2 82) [.int x1] pr ad g (qI pr ad g (F_X1_sizeBody x1)) 0 0 := by
  refine Mt_of (by decide) (Nat.le_of_ble_eq_true rfl) ?_
  show V l G RX1 cX1_sizeBody 1 (some .int) _ _ 0 0 0 0 0 [(0, .int x1)] [] pr ad g
  refine V_iload_n dX1_sizeBody_0 0 rfl ?_
  refine V_iconst (v := 0) dX1_sizeBody_1 (by decide) ?_
  refine V_iconst (v := 5) dX1_sizeBody_2 (by decide) ?_
  refine V_cSN (k_X6_within l G hw g  x1 0 5 ) hy_X6_within hz_X6_within nm_X1_22 rfl rfl rfl rfl ⟨by decide, by decide⟩ (Nat.le_of_ble_eq_true rfl) ⟨by decide, by decide⟩ dX1_sizeBody_3 (V_kI ?_)
  refine V_if_eq (tgt := 17) dX1_sizeBody_6 (by decide) (fun c_6 => ?_) (fun c_6 => ?_)
  · refine V_bipush (v := 10) dX1_sizeBody_17 (by decide) ?_
    exact V_iret dX1_sizeBody_19 rfl (lfI (by simp only [F_X1_sizeBody, if_pos c_6]))
  · refine V_gs1 q_954 dX1_sizeBody_9 ?_
    refine V_iload_n dX1_sizeBody_12 0 rfl ?_
    refine V_ts1 (by first | exact ix_w5 c_6) dX1_sizeBody_13 ?_
    refine V_goto (tgt := 19) dX1_sizeBody_14 (by decide) ?_
    exact V_iret dX1_sizeBody_19 rfl (lfI (by simp only [F_X1_sizeBody, if_neg c_6]))
def F_X1_markBody (x1 : Int32) : Int32 := (if (F_X6_within x1 0 5) = 0 then 20 else (mm_t2 x1.toNatClampNeg))
set_option maxRecDepth 100000 in
set_option maxHeartbeats 4000000 in
theorem k_X1_markBody (l : Launch) (G : mm_G) {pr : Nat → Nat → Prop} {ad : Nat → Nat → Nat → Nat} (hw : mm_W pr) (g : mm_g) (x1 : Int32)  : Mt l G yX1_markBody cX1_markBody 1 (some .int) (rmk 2 82) [.int x1] pr ad g (qI pr ad g (F_X1_markBody x1)) 0 0 := by
  refine Mt_of (by decide) (Nat.le_of_ble_eq_true rfl) ?_
  show V l G RX1 cX1_markBody 1 (some .int) _ _ 0 0 0 0 0 [(0, .int x1)] [] pr ad g
  refine V_iload_n dX1_markBody_0 0 rfl ?_
  refine V_iconst (v := 0) dX1_markBody_1 (by decide) ?_
  refine V_iconst (v := 5) dX1_markBody_2 (by decide) ?_
  refine V_cSN (k_X6_within l G hw g  x1 0 5 ) hy_X6_within hz_X6_within nm_X1_22 rfl rfl rfl rfl ⟨by decide, by decide⟩ (Nat.le_of_ble_eq_true rfl) ⟨by decide, by decide⟩ dX1_markBody_3 (V_kI ?_)
  refine V_if_eq (tgt := 17) dX1_markBody_6 (by decide) (fun c_6 => ?_) (fun c_6 => ?_)
  · refine V_bipush (v := 20) dX1_markBody_17 (by decide) ?_
    exact V_iret dX1_markBody_19 rfl (lfI (by simp only [F_X1_markBody, if_pos c_6]))
  · refine V_gs2 q_958 dX1_markBody_9 ?_
    refine V_iload_n dX1_markBody_12 0 rfl ?_
    refine V_ts2 (by first | exact ix_w5 c_6) dX1_markBody_13 ?_
    refine V_goto (tgt := 19) dX1_markBody_14 (by decide) ?_
    exact V_iret dX1_markBody_19 rfl (lfI (by simp only [F_X1_markBody, if_neg c_6]))
def F_X4_isMissing (g : mm_g) (x1 : Int32) : Int32 := (if (F_X6_within x1 0 7) = 0 then 1 else (if (g 4 3 x1.toNatClampNeg) = (-1) then 1 else 0))
set_option maxRecDepth 100000 in
set_option maxHeartbeats 4000000 in
theorem k_X4_isMissing (l : Launch) (G : mm_G) {pr : Nat → Nat → Prop} {ad : Nat → Nat → Nat → Nat} (hw : mm_W pr) (g : mm_g) (x1 : Int32)  : Mt l G yX4_isMissing cX4_isMissing 2 (some .boolean) (rmk 2 82) [.ref (ad 4 0 0), .int x1] pr ad g (qI pr ad g (F_X4_isMissing g x1)) 0 0 := by
  refine Mt_of (by decide) (Nat.le_of_ble_eq_true rfl) ?_
  show V l G RX4 cX4_isMissing 2 (some .boolean) _ _ 0 0 0 0 0 [(0, .ref (ad 4 0 0)), (1, .int x1)] [] pr ad g
  refine V_iload_n dX4_isMissing_0 1 rfl ?_
  refine V_iconst (v := 0) dX4_isMissing_1 (by decide) ?_
  refine V_bipush (v := 7) dX4_isMissing_2 (by decide) ?_
  refine V_cSN (k_X6_within l G hw g  x1 0 7 ) hy_X6_within hz_X6_within nm_X4_21 rfl rfl rfl rfl ⟨by decide, by decide⟩ (Nat.le_of_ble_eq_true rfl) ⟨by decide, by decide⟩ dX4_isMissing_4 (V_kI ?_)
  refine V_if_eq (tgt := 20) dX4_isMissing_7 (by decide) (fun c_7 => ?_) (fun c_7 => ?_)
  · refine V_iconst (v := 1) dX4_isMissing_20 (by decide) ?_
    refine V_goto (tgt := 25) dX4_isMissing_21 (by decide) ?_
    exact V_zret dX4_isMissing_25 rfl rfl (lfI (by simp only [F_X4_isMissing, if_pos c_7]))
  · refine V_aload_n dX4_isMissing_10 0 rfl ?_
    refine V_get (i := 2) inlX4 rfl (W_4 hw) rfl (by decide) q_46 rfl dX4_isMissing_11 ?_
    refine V_iload_n dX4_isMissing_14 1 rfl ?_
    refine L_4_3 (W_4 hw) (by first | exact ix_w7 c_7) dX4_isMissing_15 ?_
    refine V_iconst (v := (-1)) dX4_isMissing_16 (by decide) ?_
    refine V_ic_ne (tgt := 24) dX4_isMissing_17 (by decide) (fun c_17 => ?_) (fun c_17 => ?_)
    · refine V_iconst (v := 0) dX4_isMissing_24 (by decide) ?_
      exact V_zret dX4_isMissing_25 rfl rfl (lfI (by simp only [F_X4_isMissing, if_neg c_7, if_neg c_17]))
    · refine V_iconst (v := 1) dX4_isMissing_20 (by decide) ?_
      refine V_goto (tgt := 25) dX4_isMissing_21 (by decide) ?_
      exact V_zret dX4_isMissing_25 rfl rfl (lfI (by simp only [F_X4_isMissing, if_neg c_7, if_pos c_17]))
theorem ix_miss {g : mm_g} {r : Int32} (h : F_X4_isMissing g r = 0) : vp_in r 8 := by
  by_cases h1 : F_X6_within r 0 7 = 0
  · unfold F_X4_isMissing at h
    rw [if_pos h1] at h
    exact absurd h (by decide)
  · exact ix_w7 h1
def F_X4_laneOf (g : mm_g) (x1 : Int32) : Int32 := (if (F_X4_isMissing g x1) = 0 then (g 4 2 x1.toNatClampNeg) else (-1))
set_option maxRecDepth 100000 in
set_option maxHeartbeats 4000000 in
theorem k_X4_laneOf (l : Launch) (G : mm_G) {pr : Nat → Nat → Prop} {ad : Nat → Nat → Nat → Nat} (hw : mm_W pr) (g : mm_g) (x1 : Int32)  : Mt l G yX4_laneOf cX4_laneOf 2 (some .int) (rmk 3 103) [.ref (ad 4 0 0), .int x1] pr ad g (qI pr ad g (F_X4_laneOf g x1)) 0 0 := by
  refine Mt_of (by decide) (Nat.le_of_ble_eq_true rfl) ?_
  show V l G RX4 cX4_laneOf 2 (some .int) _ _ 0 0 0 0 0 [(0, .ref (ad 4 0 0)), (1, .int x1)] [] pr ad g
  refine V_aload_n dX4_laneOf_0 0 rfl ?_
  refine V_iload_n dX4_laneOf_1 1 rfl ?_
  refine V_cV (k_X4_isMissing l G hw g  x1 ) hy_X4_isMissing hi_X4_isMissing hs_X4_isMissing q_160 rfl rfl (W_4 hw) rfl rfl rfl rfl rfl ⟨by decide, by decide⟩ (Nat.le_of_ble_eq_true rfl) ⟨by decide, by decide⟩ dX4_laneOf_2 (V_kI ?_)
  refine V_if_eq (tgt := 12) dX4_laneOf_5 (by decide) (fun c_5 => ?_) (fun c_5 => ?_)
  · refine V_aload_n dX4_laneOf_12 0 rfl ?_
    refine V_get (i := 1) inlX4 rfl (W_4 hw) rfl (by decide) q_45 rfl dX4_laneOf_13 ?_
    refine V_iload_n dX4_laneOf_16 1 rfl ?_
    refine L_4_2 (W_4 hw) (by first | exact ix_miss c_5) dX4_laneOf_17 ?_
    exact V_iret dX4_laneOf_18 rfl (lfI (by simp only [F_X4_laneOf, if_pos c_5]))
  · refine V_iconst (v := (-1)) dX4_laneOf_8 (by decide) ?_
    refine V_goto (tgt := 18) dX4_laneOf_9 (by decide) ?_
    exact V_iret dX4_laneOf_18 rfl (lfI (by simp only [F_X4_laneOf, if_neg c_5]))
def F_X4_lose (g : mm_g) (x1 : Int32) : Int32 × mm_g := (if (F_X4_isMissing g x1) = 0 then ((g 4 3 x1.toNatClampNeg), (wr g 4 3 x1.toNatClampNeg (-1))) else (0, g))
set_option maxRecDepth 100000 in
set_option maxHeartbeats 4000000 in
theorem k_X4_lose (l : Launch) (G : mm_G) {pr : Nat → Nat → Prop} {ad : Nat → Nat → Nat → Nat} (hw : mm_W pr) (g : mm_g) (x1 : Int32)  : Mt l G yX4_lose cX4_lose 3 (some .int) (rmk 3 103) [.ref (ad 4 0 0), .int x1] pr ad g (qM pr ad (F_X4_lose g x1)) 0 0 := by
  refine Mt_of (by decide) (Nat.le_of_ble_eq_true rfl) ?_
  show V l G RX4 cX4_lose 3 (some .int) _ _ 0 0 0 0 0 [(0, .ref (ad 4 0 0)), (1, .int x1)] [] pr ad g
  refine V_aload_n dX4_lose_0 0 rfl ?_
  refine V_iload_n dX4_lose_1 1 rfl ?_
  refine V_cV (k_X4_isMissing l G hw g  x1 ) hy_X4_isMissing hi_X4_isMissing hs_X4_isMissing q_160 rfl rfl (W_4 hw) rfl rfl rfl rfl rfl ⟨by decide, by decide⟩ (Nat.le_of_ble_eq_true rfl) ⟨by decide, by decide⟩ dX4_lose_2 (V_kI ?_)
  refine V_if_eq (tgt := 10) dX4_lose_5 (by decide) (fun c_5 => ?_) (fun c_5 => ?_)
  · refine V_aload_n dX4_lose_10 0 rfl ?_
    refine V_get (i := 2) inlX4 rfl (W_4 hw) rfl (by decide) q_46 rfl dX4_lose_11 ?_
    refine V_iload_n dX4_lose_14 1 rfl ?_
    refine L_4_3 (W_4 hw) (by first | exact ix_miss c_5) dX4_lose_15 ?_
    refine V_istore_n (L2 := [(2, .int (g 4 3 x1.toNatClampNeg)), (0, .ref (ad 4 0 0)), (1, .int x1)]) dX4_lose_16 (by decide) rfl ?_
    refine V_aload_n dX4_lose_17 1 rfl ?_
    refine V_get (i := 2) inlX4 rfl (W_4 hw) rfl (by decide) q_46 rfl dX4_lose_18 ?_
    refine V_iload_n dX4_lose_21 2 rfl ?_
    refine V_iconst (v := (-1)) dX4_lose_22 (by decide) ?_
    refine S_4_3 (W_4 hw) (by first | exact ix_miss c_5) dX4_lose_23 ?_
    refine V_iload_n dX4_lose_24 0 rfl ?_
    exact V_iret dX4_lose_25 rfl (lfM (by simp only [F_X4_lose, if_pos c_5]))
  · refine V_iconst (v := 0) dX4_lose_8 (by decide) ?_
    exact V_iret dX4_lose_9 rfl (lfM (by simp only [F_X4_lose, if_neg c_5]))
def F_X4_inLane (x1 : Int32) (x2 : Int32) : Int32 := (if x1 = 0 then (x2.toInt8.toInt32) else (if x1 = 1 then (x2.toInt16.toInt32) else x2))
set_option maxRecDepth 100000 in
set_option maxHeartbeats 4000000 in
theorem k_X4_inLane (l : Launch) (G : mm_G) {pr : Nat → Nat → Prop} {ad : Nat → Nat → Nat → Nat} (hw : mm_W pr) (g : mm_g) (x1 : Int32) (x2 : Int32)  : Mt l G yX4_inLane cX4_inLane 2 (some .int) (rmk 1 60) [.int x1, .int x2] pr ad g (qI pr ad g (F_X4_inLane x1 x2)) 0 0 := by
  refine Mt_of (by decide) (Nat.le_of_ble_eq_true rfl) ?_
  show V l G RX4 cX4_inLane 2 (some .int) _ _ 0 0 0 0 0 [(0, .int x1), (1, .int x2)] [] pr ad g
  refine V_iload_n dX4_inLane_0 0 rfl ?_
  by_cases s_1_0 : x1 = 0
  · refine V_look (off := 27) (tgt := 28) dX4_inLane_1 (by decide) (by rw [s_1_0]; decide) (by decide) ?_
    refine V_iload_n dX4_inLane_28 1 rfl ?_
    refine V_i2b dX4_inLane_29 ?_
    exact V_iret dX4_inLane_30 rfl (lfI (by simp only [F_X4_inLane, if_pos s_1_0]))
  by_cases s_1_1 : x1 = 1
  · refine V_look (off := 30) (tgt := 31) dX4_inLane_1 (by decide) (by rw [s_1_1]; decide) (by decide) ?_
    refine V_iload_n dX4_inLane_31 1 rfl ?_
    refine V_i2s dX4_inLane_32 ?_
    exact V_iret dX4_inLane_33 rfl (lfI (by simp only [F_X4_inLane, if_neg s_1_0, if_pos s_1_1]))
  refine V_look (off := 33) (tgt := 34) dX4_inLane_1 (by decide) (by rw [lv_osw s_1_0 (by decide)]; rw [lv_osw s_1_1 (by decide)]; rfl) (by decide) ?_
  refine V_iload_n dX4_inLane_34 1 rfl ?_
  exact V_iret dX4_inLane_35 rfl (lfI (by simp only [F_X4_inLane, if_neg s_1_0, if_neg s_1_1]))
def F_X4_present_4 (g4 : mm_g) (K : Int32 → Nat → Int32) : Nat → Int32 → Nat → Int32
  | 0, a, j => K a j
  | n + 1, a, j => (if 8 ≤ (nI j) then K a j else (if (g4 4 3 (nI j).toNatClampNeg) = (-1) then F_X4_present_4 g4  K n a (j + 1) else F_X4_present_4 g4  K n (a + 1) (j + 1)))
def F_X4_present (g : mm_g) : Int32 := (F_X4_present_4 g  (fun (a4 : Int32) (j4 : Nat) => a4) ((8 : Int32).toInt.toNat + 1) 0 0)
set_option maxRecDepth 100000 in
set_option maxHeartbeats 4000000 in
theorem w_X4_present_4 (l : Launch) (G : mm_G) {pr : Nat → Nat → Prop} {ad : Nat → Nat → Nat → Nat} (hw : mm_W pr) (g4 : mm_g)  (K : Int32 → Nat → Int32) (hK : ∀ (a : Int32) (j : Nat) (hj : j ≤ (8 : Int32).toInt.toNat), V l G RX4 cX4_present 3 (some .int) (rmk 1 60) (qI pr ad g4 (K a j)) 0 0 0 0 29 [(0, .ref (ad 4 0 0)), (1, .int a), (2, .int (nI j))] [] pr ad g4) : ∀ (n : Nat) (a : Int32) (j : Nat) (hj : j ≤ (8 : Int32).toInt.toNat) (hm : (8 : Int32).toInt.toNat - j < n), V l G RX4 cX4_present 3 (some .int) (rmk 1 60) (qI pr ad g4 (F_X4_present_4 g4  K n a j)) 0 0 0 0 4 [(0, .ref (ad 4 0 0)), (1, .int a), (2, .int (nI j))] [] pr ad g4 := by
  intro n
  induction n with
  | zero => intro a j hj hm; exact absurd hm (Nat.not_lt_zero _)
  | succ n ih =>
      intro a j hj hm
      refine V_iload_n dX4_present_4 2 rfl ?_
      refine V_bipush (v := 8) dX4_present_5 (by decide) ?_
      refine V_ic_ge (tgt := 29) dX4_present_7 (by decide) (fun c_7 => ?_) (fun c_7 => ?_)
      · refine V_rp (R2 := K a j) (by simp only [F_X4_present_4, if_pos c_7]) ?_
        refine V_lp [0, 1, 2] rfl ?_
        exact hK a j (by assumption)
      · refine V_aload_n dX4_present_10 0 rfl ?_
        refine V_get (i := 2) inlX4 rfl (W_4 hw) rfl (by decide) q_46 rfl dX4_present_11 ?_
        refine V_iload_n dX4_present_14 2 rfl ?_
        refine L_4_3 (W_4 hw) (by exact ix_x hj c_7 (by decide)) dX4_present_15 ?_
        refine V_iconst (v := (-1)) dX4_present_16 (by decide) ?_
        refine V_ic_eq (tgt := 23) dX4_present_17 (by decide) (fun c_17 => ?_) (fun c_17 => ?_)
        · refine V_iinc (v := (nI (j + 1))) (L2 := [(2, .int (nI (j + 1))), (0, .ref (ad 4 0 0)), (1, .int a)]) dX4_present_23 2 rfl (nI_1 _) (by decide) rfl ?_
          refine V_goto (tgt := 4) dX4_present_26 (by decide) ?_
          refine V_rp (R2 := F_X4_present_4 g4  K n a (j + 1)) (by simp only [F_X4_present_4, if_neg c_7, if_pos c_17]) ?_
          refine V_lp [1, 2, 0] rfl ?_
          exact ih a (j + 1) (by exact (lp_up hj c_7 hm).1) (by exact (lp_up hj c_7 hm).2) 
        · refine V_iinc (v := (a + 1)) (L2 := [(1, .int (a + 1)), (0, .ref (ad 4 0 0)), (2, .int (nI j))]) dX4_present_20 1 rfl rfl (by decide) rfl ?_
          refine V_iinc (v := (nI (j + 1))) (L2 := [(2, .int (nI (j + 1))), (1, .int (a + 1)), (0, .ref (ad 4 0 0))]) dX4_present_23 2 rfl (nI_1 _) (by decide) rfl ?_
          refine V_goto (tgt := 4) dX4_present_26 (by decide) ?_
          refine V_rp (R2 := F_X4_present_4 g4  K n (a + 1) (j + 1)) (by simp only [F_X4_present_4, if_neg c_7, if_neg c_17]) ?_
          refine V_lp [2, 1, 0] rfl ?_
          exact ih (a + 1) (j + 1) (by exact (lp_up hj c_7 hm).1) (by exact (lp_up hj c_7 hm).2) 
set_option maxRecDepth 100000 in
set_option maxHeartbeats 4000000 in
theorem k_X4_present (l : Launch) (G : mm_G) {pr : Nat → Nat → Prop} {ad : Nat → Nat → Nat → Nat} (hw : mm_W pr) (g : mm_g)  : Mt l G yX4_present cX4_present 3 (some .int) (rmk 1 60) [.ref (ad 4 0 0)] pr ad g (qI pr ad g (F_X4_present g)) 0 0 := by
  refine Mt_of (by decide) (Nat.le_of_ble_eq_true rfl) ?_
  show V l G RX4 cX4_present 3 (some .int) _ _ 0 0 0 0 0 [(0, .ref (ad 4 0 0))] [] pr ad g
  refine V_iconst (v := 0) dX4_present_0 (by decide) ?_
  refine V_istore_n (L2 := [(1, .int 0), (0, .ref (ad 4 0 0))]) dX4_present_1 (by decide) rfl ?_
  refine V_iconst (v := 0) dX4_present_2 (by decide) ?_
  refine V_istore_n (L2 := [(2, .int 0), (1, .int 0), (0, .ref (ad 4 0 0))]) dX4_present_3 (by decide) rfl ?_
  refine V_rp (R2 := F_X4_present_4 g  (fun (a4 : Int32) (j4 : Nat) => a4) ((8 : Int32).toInt.toNat + 1) 0 0) (by simp only [F_X4_present]) ?_
  refine V_lp [2, 1, 0] rfl ?_
  refine w_X4_present_4 l G hw g    _ (fun a4 j4 hj4 => ?_) ((8 : Int32).toInt.toNat + 1) 0 0 (by first | exact Nat.zero_le _ | decide) (by omega)
  refine V_iload_n dX4_present_29 1 rfl ?_
  exact V_iret dX4_present_30 rfl (lfI (by rfl))
