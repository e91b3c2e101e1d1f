theorem ne_l1 {x : Int64} (h : 0 ≤ lg_cmp x 1) : ¬ x = 0 := fun q => by
  rw [q] at h
  exact absurd h (by decide)
def F_X6_row (g : mm_g) (x1 : Int32) (x2 : Int32) (x3 : Int32) : Int32 × mm_g := (if (F_X6_within x1 0 7) = 0 then ((-1000001), g) else (if (F_X6_within x2 0 2) = 0 then ((-1000001), g) else (if x3 ≤ 40 then (if 0 ≤ x3 then ((F_X6_unfound (F_X4_make g x1 x2 x3) x3).1, (F_X6_unfound (F_X4_make g x1 x2 x3) x3).2) else ((F_X6_found g 4).1, (F_X6_found g 4).2)) else ((-1000001), g))))
set_option maxRecDepth 100000 in
set_option maxHeartbeats 4000000 in
theorem k_X6_row (l : Launch) (G : mm_G) {pr : Nat → Nat → Prop} {ad : Nat → Nat → Nat → Nat} (hw : mm_W pr) (g : mm_g) (x1 : Int32) (x2 : Int32) (x3 : Int32)  : Mt l G yX6_row cX6_row 4 (some .int) (rmk 3 106) [.ref (ad 6 0 0), .int x1, .int x2, .int x3] pr ad g (qM pr ad (F_X6_row g x1 x2 x3)) 0 0 := by
  refine Mt_of (by decide) (Nat.le_of_ble_eq_true rfl) ?_
  show V l G RX6 cX6_row 4 (some .int) _ _ 0 0 0 0 0 [(0, .ref (ad 6 0 0)), (1, .int x1), (2, .int x2), (3, .int x3)] [] pr ad g
  refine V_iload_n dX6_row_0 1 rfl ?_
  refine V_iconst (v := 0) dX6_row_1 (by decide) ?_
  refine V_bipush (v := 7) dX6_row_2 (by decide) ?_
  refine V_cS (k_X6_within l G hw g  x1 0 7 ) hy_X6_within hz_X6_within q_109 rfl rfl rfl rfl ⟨by decide, by decide⟩ (Nat.le_of_ble_eq_true rfl) ⟨by decide, by decide⟩ dX6_row_4 (V_kI ?_)
  refine V_if_eq (tgt := 25) dX6_row_7 (by decide) (fun c_7 => ?_) (fun c_7 => ?_)
  · refine V_ldc q_108 dX6_row_25 ?_
    exact V_iret dX6_row_27 rfl (lfM (by simp only [F_X6_row, if_pos c_7]))
  · refine V_iload_n dX6_row_10 2 rfl ?_
    refine V_iconst (v := 0) dX6_row_11 (by decide) ?_
    refine V_iconst (v := 2) dX6_row_12 (by decide) ?_
    refine V_cS (k_X6_within l G hw g  x2 0 2 ) hy_X6_within hz_X6_within q_109 rfl rfl rfl rfl ⟨by decide, by decide⟩ (Nat.le_of_ble_eq_true rfl) ⟨by decide, by decide⟩ dX6_row_13 (V_kI ?_)
    refine V_if_eq (tgt := 25) dX6_row_16 (by decide) (fun c_16 => ?_) (fun c_16 => ?_)
    · refine V_ldc q_108 dX6_row_25 ?_
      exact V_iret dX6_row_27 rfl (lfM (by simp only [F_X6_row, if_neg c_7, if_pos c_16]))
    · refine V_iload_n dX6_row_19 3 rfl ?_
      refine V_bipush (v := 40) dX6_row_20 (by decide) ?_
      refine V_ic_le (tgt := 28) dX6_row_22 (by decide) (fun c_22 => ?_) (fun c_22 => ?_)
      · refine V_iload_n dX6_row_28 3 rfl ?_
        refine V_if_ge (tgt := 38) dX6_row_29 (by decide) (fun c_29 => ?_) (fun c_29 => ?_)
        · refine V_aload_n dX6_row_38 0 rfl ?_
          refine V_get (i := 0) inlX6 rfl (W_6 hw) rfl (by decide) q_15 rfl dX6_row_39 ?_
          refine V_iload_n dX6_row_42 1 rfl ?_
          refine V_iload_n dX6_row_43 2 rfl ?_
          refine V_iload_n dX6_row_44 3 rfl ?_
          refine V_cV (k_X4_make l G hw g  x1 x2 x3 ) hy_X4_make hi_X4_make hs_X4_make q_117 rfl rfl (W_4 hw) rfl rfl rfl rfl rfl ⟨by decide, by decide⟩ (Nat.le_of_ble_eq_true rfl) ⟨by decide, by decide⟩ dX6_row_45 (V_kN ?_)
          refine V_aload_n dX6_row_48 0 rfl ?_
          refine V_iload_n dX6_row_49 3 rfl ?_
          refine V_cV (k_X6_unfound l G hw (F_X4_make g x1 x2 x3)  x3 ) hy_X6_unfound hi_X6_unfound hs_X6_unfound q_121 rfl rfl (W_6 hw) rfl rfl rfl rfl rfl ⟨by decide, by decide⟩ (Nat.le_of_ble_eq_true rfl) ⟨by decide, by decide⟩ dX6_row_50 (V_kM ?_)
          exact V_iret dX6_row_53 rfl (lfM (by simp only [F_X6_row, if_neg c_7, if_neg c_16, if_pos c_22, if_pos c_29]))
        · refine V_aload_n dX6_row_32 0 rfl ?_
          refine V_iconst (v := 4) dX6_row_33 (by decide) ?_
          refine V_cV (k_X6_found l G hw g  4 ) hy_X6_found hi_X6_found hs_X6_found q_112 rfl rfl (W_6 hw) rfl rfl rfl rfl rfl ⟨by decide, by decide⟩ (Nat.le_of_ble_eq_true rfl) ⟨by decide, by decide⟩ dX6_row_34 (V_kM ?_)
          exact V_iret dX6_row_37 rfl (lfM (by simp only [F_X6_row, if_neg c_7, if_neg c_16, if_pos c_22, if_neg c_29]))
      · refine V_ldc q_108 dX6_row_25 ?_
        exact V_iret dX6_row_27 rfl (lfM (by simp only [F_X6_row, if_neg c_7, if_neg c_16, if_neg c_22]))
def F_X6_set (g : mm_g) (x1 : Int32) (x2 : Int32) (x3 : Int32) : Int32 × mm_g := (if (F_X6_within x1 0 7) = 0 then ((-1000001), g) else (if (F_X4_isMissing g x1) = 0 then (if (F_X4_holds g x1 x2 1) = 0 then ((F_X6_found g 2).1, (F_X6_found g 2).2) else ((F_X6_unfound ((F_X4_put g x1 x2 x3).2) ((F_X4_put g x1 x2 x3).1)).1, (F_X6_unfound ((F_X4_put g x1 x2 x3).2) ((F_X4_put g x1 x2 x3).1)).2)) else ((F_X6_found g 1).1, (F_X6_found g 1).2)))
set_option maxRecDepth 100000 in
set_option maxHeartbeats 4000000 in
theorem k_X6_set (l : Launch) (G : mm_G) {pr : Nat → Nat → Prop} {ad : Nat → Nat → Nat → Nat} (hw : mm_W pr) (g : mm_g) (x1 : Int32) (x2 : Int32) (x3 : Int32) (hR : okR g)  : Mt l G yX6_set cX6_set 4 (some .int) (rmk 5 150) [.ref (ad 6 0 0), .int x1, .int x2, .int x3] pr ad g (qM pr ad (F_X6_set g x1 x2 x3)) 0 0 := by
  refine Mt_of (by decide) (Nat.le_of_ble_eq_true rfl) ?_
  show V l G RX6 cX6_set 4 (some .int) _ _ 0 0 0 0 0 [(0, .ref (ad 6 0 0)), (1, .int x1), (2, .int x2), (3, .int x3)] [] pr ad g
  refine V_iload_n dX6_set_0 1 rfl ?_
  refine V_iconst (v := 0) dX6_set_1 (by decide) ?_
  refine V_bipush (v := 7) dX6_set_2 (by decide) ?_
  refine V_cS (k_X6_within l G hw g  x1 0 7 ) hy_X6_within hz_X6_within q_109 rfl rfl rfl rfl ⟨by decide, by decide⟩ (Nat.le_of_ble_eq_true rfl) ⟨by decide, by decide⟩ dX6_set_4 (V_kI ?_)
  refine V_if_ne (tgt := 13) dX6_set_7 (by decide) (fun c_7 => ?_) (fun c_7 => ?_)
  · refine V_aload_n dX6_set_13 0 rfl ?_
    refine V_get (i := 0) inlX6 rfl (W_6 hw) rfl (by decide) q_15 rfl dX6_set_14 ?_
    refine V_iload_n dX6_set_17 1 rfl ?_
    refine V_cV (k_X4_isMissing l G hw g  x1 ) hy_X4_isMissing hi_X4_isMissing hs_X4_isMissing q_152 rfl rfl (W_4 hw) rfl rfl rfl rfl rfl ⟨by decide, by decide⟩ (Nat.le_of_ble_eq_true rfl) ⟨by decide, by decide⟩ dX6_set_18 (V_kI ?_)
    refine V_if_eq (tgt := 30) dX6_set_21 (by decide) (fun c_21 => ?_) (fun c_21 => ?_)
    · refine V_aload_n dX6_set_30 0 rfl ?_
      refine V_get (i := 0) inlX6 rfl (W_6 hw) rfl (by decide) q_15 rfl dX6_set_31 ?_
      refine V_iload_n dX6_set_34 1 rfl ?_
      refine V_iload_n dX6_set_35 2 rfl ?_
      refine V_iconst (v := 1) dX6_set_36 (by decide) ?_
      refine V_cV (k_X4_holds l G hw g  x1 x2 1 ) hy_X4_holds hi_X4_holds hs_X4_holds q_156 rfl rfl (W_4 hw) rfl rfl rfl rfl rfl ⟨by decide, by decide⟩ (Nat.le_of_ble_eq_true rfl) ⟨by decide, by decide⟩ dX6_set_37 (V_kI ?_)
      refine V_if_ne (tgt := 49) dX6_set_40 (by decide) (fun c_40 => ?_) (fun c_40 => ?_)
      · refine V_aload_n dX6_set_49 0 rfl ?_
        refine V_aload_n dX6_set_50 0 rfl ?_
        refine V_get (i := 0) inlX6 rfl (W_6 hw) rfl (by decide) q_15 rfl dX6_set_51 ?_
        refine V_iload_n dX6_set_54 1 rfl ?_
        refine V_iload_n dX6_set_55 2 rfl ?_
        refine V_iload_n dX6_set_56 3 rfl ?_
        refine V_cV (k_X4_put l G hw g  x1 x2 x3 hR) hy_X4_put hi_X4_put hs_X4_put q_161 rfl rfl (W_4 hw) rfl rfl rfl rfl rfl ⟨by decide, by decide⟩ (Nat.le_of_ble_eq_true rfl) ⟨by decide, by decide⟩ dX6_set_57 (V_kM ?_)
        refine V_cV (k_X6_unfound l G hw ((F_X4_put g x1 x2 x3).2)  ((F_X4_put g x1 x2 x3).1) ) hy_X6_unfound hi_X6_unfound hs_X6_unfound q_121 rfl rfl (W_6 hw) rfl rfl rfl rfl rfl ⟨by decide, by decide⟩ (Nat.le_of_ble_eq_true rfl) ⟨by decide, by decide⟩ dX6_set_60 (V_kM ?_)
        exact V_iret dX6_set_63 rfl (lfM (by simp only [F_X6_set, if_neg c_7, if_pos c_21, if_neg c_40]))
      · refine V_aload_n dX6_set_43 0 rfl ?_
        refine V_iconst (v := 2) dX6_set_44 (by decide) ?_
        refine V_cV (k_X6_found l G hw g  2 ) hy_X6_found hi_X6_found hs_X6_found q_112 rfl rfl (W_6 hw) rfl rfl rfl rfl rfl ⟨by decide, by decide⟩ (Nat.le_of_ble_eq_true rfl) ⟨by decide, by decide⟩ dX6_set_45 (V_kM ?_)
        exact V_iret dX6_set_48 rfl (lfM (by simp only [F_X6_set, if_neg c_7, if_pos c_21, if_pos c_40]))
    · refine V_aload_n dX6_set_24 0 rfl ?_
      refine V_iconst (v := 1) dX6_set_25 (by decide) ?_
      refine V_cV (k_X6_found l G hw g  1 ) hy_X6_found hi_X6_found hs_X6_found q_112 rfl rfl (W_6 hw) rfl rfl rfl rfl rfl ⟨by decide, by decide⟩ (Nat.le_of_ble_eq_true rfl) ⟨by decide, by decide⟩ dX6_set_26 (V_kM ?_)
      exact V_iret dX6_set_29 rfl (lfM (by simp only [F_X6_set, if_neg c_7, if_neg c_21]))
  · refine V_ldc q_108 dX6_set_10 ?_
    exact V_iret dX6_set_12 rfl (lfM (by simp only [F_X6_set, if_pos c_7]))
def F_X6_copy (g : mm_g) (x1 : Int32) (x2 : Int32) (x3 : Int32) (x4 : Int32) (x5 : Int32) : Int32 × mm_g := (if (F_X6_within x1 0 7) = 0 then ((-1000001), g) else (if (F_X6_within x3 0 7) = 0 then ((-1000001), g) else (if (F_X4_isMissing g x1) = 0 then (if (F_X4_isMissing g x3) = 0 then (if (F_X4_laneOf g x1) = (F_X4_laneOf g x3) then (if (F_X4_holds g x1 x2 x5) = 0 then ((F_X6_found g 2).1, (F_X6_found g 2).2) else (if (F_X4_holds g x3 x4 x5) = 0 then ((F_X6_found g 2).1, (F_X6_found g 2).2) else ((F_X6_unfound (F_X4_carry g x1 x2 x3 x4 x5) x5).1, (F_X6_unfound (F_X4_carry g x1 x2 x3 x4 x5) x5).2))) else ((F_X6_found g 5).1, (F_X6_found g 5).2)) else ((F_X6_found g 1).1, (F_X6_found g 1).2)) else ((F_X6_found g 1).1, (F_X6_found g 1).2))))
set_option maxRecDepth 100000 in
set_option maxHeartbeats 4000000 in
theorem k_X6_copy (l : Launch) (G : mm_G) {pr : Nat → Nat → Prop} {ad : Nat → Nat → Nat → Nat} (hw : mm_W pr) (g : mm_g) (x1 : Int32) (x2 : Int32) (x3 : Int32) (x4 : Int32) (x5 : Int32) (hR : okR g)  : Mt l G yX6_copy cX6_copy 6 (some .int) (rmk 5 151) [.ref (ad 6 0 0), .int x1, .int x2, .int x3, .int x4, .int x5] pr ad g (qM pr ad (F_X6_copy g x1 x2 x3 x4 x5)) 0 0 := by
  refine Mt_of (by decide) (Nat.le_of_ble_eq_true rfl) ?_
  show V l G RX6 cX6_copy 6 (some .int) _ _ 0 0 0 0 0 [(0, .ref (ad 6 0 0)), (1, .int x1), (2, .int x2), (3, .int x3), (4, .int x4), (5, .int x5)] [] pr ad g
  refine V_iload_n dX6_copy_0 1 rfl ?_
  refine V_iconst (v := 0) dX6_copy_1 (by decide) ?_
  refine V_bipush (v := 7) dX6_copy_2 (by decide) ?_
  refine V_cS (k_X6_within l G hw g  x1 0 7 ) hy_X6_within hz_X6_within q_109 rfl rfl rfl rfl ⟨by decide, by decide⟩ (Nat.le_of_ble_eq_true rfl) ⟨by decide, by decide⟩ dX6_copy_4 (V_kI ?_)
  refine V_if_eq (tgt := 20) dX6_copy_7 (by decide) (fun c_7 => ?_) (fun c_7 => ?_)
  · refine V_ldc q_108 dX6_copy_20 ?_
    exact V_iret dX6_copy_22 rfl (lfM (by simp only [F_X6_copy, if_pos c_7]))
  · refine V_iload_n dX6_copy_10 3 rfl ?_
    refine V_iconst (v := 0) dX6_copy_11 (by decide) ?_
    refine V_bipush (v := 7) dX6_copy_12 (by decide) ?_
    refine V_cS (k_X6_within l G hw g  x3 0 7 ) hy_X6_within hz_X6_within q_109 rfl rfl rfl rfl ⟨by decide, by decide⟩ (Nat.le_of_ble_eq_true rfl) ⟨by decide, by decide⟩ dX6_copy_14 (V_kI ?_)
    refine V_if_ne (tgt := 23) dX6_copy_17 (by decide) (fun c_17 => ?_) (fun c_17 => ?_)
    · refine V_aload_n dX6_copy_23 0 rfl ?_
      refine V_get (i := 0) inlX6 rfl (W_6 hw) rfl (by decide) q_15 rfl dX6_copy_24 ?_
      refine V_iload_n dX6_copy_27 1 rfl ?_
      refine V_cV (k_X4_isMissing l G hw g  x1 ) hy_X4_isMissing hi_X4_isMissing hs_X4_isMissing q_152 rfl rfl (W_4 hw) rfl rfl rfl rfl rfl ⟨by decide, by decide⟩ (Nat.le_of_ble_eq_true rfl) ⟨by decide, by decide⟩ dX6_copy_28 (V_kI ?_)
      refine V_if_ne (tgt := 45) dX6_copy_31 (by decide) (fun c_31 => ?_) (fun c_31 => ?_)
      · refine V_aload_n dX6_copy_45 0 rfl ?_
        refine V_iconst (v := 1) dX6_copy_46 (by decide) ?_
        refine V_cV (k_X6_found l G hw g  1 ) hy_X6_found hi_X6_found hs_X6_found q_112 rfl rfl (W_6 hw) rfl rfl rfl rfl rfl ⟨by decide, by decide⟩ (Nat.le_of_ble_eq_true rfl) ⟨by decide, by decide⟩ dX6_copy_47 (V_kM ?_)
        exact V_iret dX6_copy_50 rfl (lfM (by simp only [F_X6_copy, if_neg c_7, if_neg c_17, if_neg c_31]))
      · refine V_aload_n dX6_copy_34 0 rfl ?_
        refine V_get (i := 0) inlX6 rfl (W_6 hw) rfl (by decide) q_15 rfl dX6_copy_35 ?_
        refine V_iload_n dX6_copy_38 3 rfl ?_
        refine V_cV (k_X4_isMissing l G hw g  x3 ) hy_X4_isMissing hi_X4_isMissing hs_X4_isMissing q_152 rfl rfl (W_4 hw) rfl rfl rfl rfl rfl ⟨by decide, by decide⟩ (Nat.le_of_ble_eq_true rfl) ⟨by decide, by decide⟩ dX6_copy_39 (V_kI ?_)
        refine V_if_eq (tgt := 51) dX6_copy_42 (by decide) (fun c_42 => ?_) (fun c_42 => ?_)
        · refine V_aload_n dX6_copy_51 0 rfl ?_
          refine V_get (i := 0) inlX6 rfl (W_6 hw) rfl (by decide) q_15 rfl dX6_copy_52 ?_
          refine V_iload_n dX6_copy_55 1 rfl ?_
          refine V_cV (k_X4_laneOf l G hw g  x1 ) hy_X4_laneOf hi_X4_laneOf hs_X4_laneOf q_180 rfl rfl (W_4 hw) rfl rfl rfl rfl rfl ⟨by decide, by decide⟩ (Nat.le_of_ble_eq_true rfl) ⟨by decide, by decide⟩ dX6_copy_56 (V_kI ?_)
          refine V_aload_n dX6_copy_59 0 rfl ?_
          refine V_get (i := 0) inlX6 rfl (W_6 hw) rfl (by decide) q_15 rfl dX6_copy_60 ?_
          refine V_iload_n dX6_copy_63 3 rfl ?_
          refine V_cV (k_X4_laneOf l G hw g  x3 ) hy_X4_laneOf hi_X4_laneOf hs_X4_laneOf q_180 rfl rfl (W_4 hw) rfl rfl rfl rfl rfl ⟨by decide, by decide⟩ (Nat.le_of_ble_eq_true rfl) ⟨by decide, by decide⟩ dX6_copy_64 (V_kI ?_)
          refine V_ic_eq (tgt := 76) dX6_copy_67 (by decide) (fun c_67 => ?_) (fun c_67 => ?_)
          · refine V_aload_n dX6_copy_76 0 rfl ?_
            refine V_get (i := 0) inlX6 rfl (W_6 hw) rfl (by decide) q_15 rfl dX6_copy_77 ?_
            refine V_iload_n dX6_copy_80 1 rfl ?_
            refine V_iload_n dX6_copy_81 2 rfl ?_
            refine V_iload dX6_copy_82 5 rfl ?_
            refine V_cV (k_X4_holds l G hw g  x1 x2 x5 ) hy_X4_holds hi_X4_holds hs_X4_holds q_156 rfl rfl (W_4 hw) rfl rfl rfl rfl rfl ⟨by decide, by decide⟩ (Nat.le_of_ble_eq_true rfl) ⟨by decide, by decide⟩ dX6_copy_84 (V_kI ?_)
            refine V_if_eq (tgt := 105) dX6_copy_87 (by decide) (fun c_87 => ?_) (fun c_87 => ?_)
            · refine V_aload_n dX6_copy_105 0 rfl ?_
              refine V_iconst (v := 2) dX6_copy_106 (by decide) ?_
              refine V_cV (k_X6_found l G hw g  2 ) hy_X6_found hi_X6_found hs_X6_found q_112 rfl rfl (W_6 hw) rfl rfl rfl rfl rfl ⟨by decide, by decide⟩ (Nat.le_of_ble_eq_true rfl) ⟨by decide, by decide⟩ dX6_copy_107 (V_kM ?_)
              exact V_iret dX6_copy_110 rfl (lfM (by simp only [F_X6_copy, if_neg c_7, if_neg c_17, if_pos c_31, if_pos c_42, if_pos c_67, if_pos c_87]))
            · refine V_aload_n dX6_copy_90 0 rfl ?_
              refine V_get (i := 0) inlX6 rfl (W_6 hw) rfl (by decide) q_15 rfl dX6_copy_91 ?_
              refine V_iload_n dX6_copy_94 3 rfl ?_
              refine V_iload dX6_copy_95 4 rfl ?_
              refine V_iload dX6_copy_97 5 rfl ?_
              refine V_cV (k_X4_holds l G hw g  x3 x4 x5 ) hy_X4_holds hi_X4_holds hs_X4_holds q_156 rfl rfl (W_4 hw) rfl rfl rfl rfl rfl ⟨by decide, by decide⟩ (Nat.le_of_ble_eq_true rfl) ⟨by decide, by decide⟩ dX6_copy_99 (V_kI ?_)
              refine V_if_ne (tgt := 111) dX6_copy_102 (by decide) (fun c_102 => ?_) (fun c_102 => ?_)
              · refine V_aload_n dX6_copy_111 0 rfl ?_
                refine V_get (i := 0) inlX6 rfl (W_6 hw) rfl (by decide) q_15 rfl dX6_copy_112 ?_
                refine V_iload_n dX6_copy_115 1 rfl ?_
                refine V_iload_n dX6_copy_116 2 rfl ?_
                refine V_iload_n dX6_copy_117 3 rfl ?_
                refine V_iload dX6_copy_118 4 rfl ?_
                refine V_iload dX6_copy_120 5 rfl ?_
                refine V_cV (k_X4_carry l G hw g  x1 x2 x3 x4 x5 hR) hy_X4_carry hi_X4_carry hs_X4_carry q_184 rfl rfl (W_4 hw) rfl rfl rfl rfl rfl ⟨by decide, by decide⟩ (Nat.le_of_ble_eq_true rfl) ⟨by decide, by decide⟩ dX6_copy_122 (V_kN ?_)
                refine V_aload_n dX6_copy_125 0 rfl ?_
                refine V_iload dX6_copy_126 5 rfl ?_
                refine V_cV (k_X6_unfound l G hw (F_X4_carry g x1 x2 x3 x4 x5)  x5 ) hy_X6_unfound hi_X6_unfound hs_X6_unfound q_121 rfl rfl (W_6 hw) rfl rfl rfl rfl rfl ⟨by decide, by decide⟩ (Nat.le_of_ble_eq_true rfl) ⟨by decide, by decide⟩ dX6_copy_128 (V_kM ?_)
                exact V_iret dX6_copy_131 rfl (lfM (by simp only [F_X6_copy, if_neg c_7, if_neg c_17, if_pos c_31, if_pos c_42, if_pos c_67, if_neg c_87, if_neg c_102]))
              · refine V_aload_n dX6_copy_105 0 rfl ?_
                refine V_iconst (v := 2) dX6_copy_106 (by decide) ?_
                refine V_cV (k_X6_found l G hw g  2 ) hy_X6_found hi_X6_found hs_X6_found q_112 rfl rfl (W_6 hw) rfl rfl rfl rfl rfl ⟨by decide, by decide⟩ (Nat.le_of_ble_eq_true rfl) ⟨by decide, by decide⟩ dX6_copy_107 (V_kM ?_)
                exact V_iret dX6_copy_110 rfl (lfM (by simp only [F_X6_copy, if_neg c_7, if_neg c_17, if_pos c_31, if_pos c_42, if_pos c_67, if_neg c_87, if_pos c_102]))
          · refine V_aload_n dX6_copy_70 0 rfl ?_
            refine V_iconst (v := 5) dX6_copy_71 (by decide) ?_
            refine V_cV (k_X6_found l G hw g  5 ) hy_X6_found hi_X6_found hs_X6_found q_112 rfl rfl (W_6 hw) rfl rfl rfl rfl rfl ⟨by decide, by decide⟩ (Nat.le_of_ble_eq_true rfl) ⟨by decide, by decide⟩ dX6_copy_72 (V_kM ?_)
            exact V_iret dX6_copy_75 rfl (lfM (by simp only [F_X6_copy, if_neg c_7, if_neg c_17, if_pos c_31, if_pos c_42, if_neg c_67]))
        · refine V_aload_n dX6_copy_45 0 rfl ?_
          refine V_iconst (v := 1) dX6_copy_46 (by decide) ?_
          refine V_cV (k_X6_found l G hw g  1 ) hy_X6_found hi_X6_found hs_X6_found q_112 rfl rfl (W_6 hw) rfl rfl rfl rfl rfl ⟨by decide, by decide⟩ (Nat.le_of_ble_eq_true rfl) ⟨by decide, by decide⟩ dX6_copy_47 (V_kM ?_)
          exact V_iret dX6_copy_50 rfl (lfM (by simp only [F_X6_copy, if_neg c_7, if_neg c_17, if_pos c_31, if_neg c_42]))
    · refine V_ldc q_108 dX6_copy_20 ?_
      exact V_iret dX6_copy_22 rfl (lfM (by simp only [F_X6_copy, if_neg c_7, if_pos c_17]))
def F_X6_drop (g : mm_g) (x1 : Int32) : Int32 × mm_g := (if (F_X6_within x1 0 7) = 0 then ((-1000001), g) else (if (F_X4_isMissing g x1) = 0 then ((F_X6_unfound ((F_X4_lose g x1).2) ((F_X4_lose g x1).1)).1, (F_X6_unfound ((F_X4_lose g x1).2) ((F_X4_lose g x1).1)).2) else ((F_X6_found g 1).1, (F_X6_found g 1).2)))
set_option maxRecDepth 100000 in
set_option maxHeartbeats 4000000 in
theorem k_X6_drop (l : Launch) (G : mm_G) {pr : Nat → Nat → Prop} {ad : Nat → Nat → Nat → Nat} (hw : mm_W pr) (g : mm_g) (x1 : Int32)  : Mt l G yX6_drop cX6_drop 2 (some .int) (rmk 4 125) [.ref (ad 6 0 0), .int x1] pr ad g (qM pr ad (F_X6_drop g x1)) 0 0 := by
  refine Mt_of (by decide) (Nat.le_of_ble_eq_true rfl) ?_
  show V l G RX6 cX6_drop 2 (some .int) _ _ 0 0 0 0 0 [(0, .ref (ad 6 0 0)), (1, .int x1)] [] pr ad g
  refine V_iload_n dX6_drop_0 1 rfl ?_
  refine V_iconst (v := 0) dX6_drop_1 (by decide) ?_
  refine V_bipush (v := 7) dX6_drop_2 (by decide) ?_
  refine V_cS (k_X6_within l G hw g  x1 0 7 ) hy_X6_within hz_X6_within q_109 rfl rfl rfl rfl ⟨by decide, by decide⟩ (Nat.le_of_ble_eq_true rfl) ⟨by decide, by decide⟩ dX6_drop_4 (V_kI ?_)
  refine V_if_ne (tgt := 13) dX6_drop_7 (by decide) (fun c_7 => ?_) (fun c_7 => ?_)
  · refine V_aload_n dX6_drop_13 0 rfl ?_
    refine V_get (i := 0) inlX6 rfl (W_6 hw) rfl (by decide) q_15 rfl dX6_drop_14 ?_
    refine V_iload_n dX6_drop_17 1 rfl ?_
    refine V_cV (k_X4_isMissing l G hw g  x1 ) hy_X4_isMissing hi_X4_isMissing hs_X4_isMissing q_152 rfl rfl (W_4 hw) rfl rfl rfl rfl rfl ⟨by decide, by decide⟩ (Nat.le_of_ble_eq_true rfl) ⟨by decide, by decide⟩ dX6_drop_18 (V_kI ?_)
    refine V_if_eq (tgt := 30) dX6_drop_21 (by decide) (fun c_21 => ?_) (fun c_21 => ?_)
    · refine V_aload_n dX6_drop_30 0 rfl ?_
      refine V_aload_n dX6_drop_31 0 rfl ?_
      refine V_get (i := 0) inlX6 rfl (W_6 hw) rfl (by decide) q_15 rfl dX6_drop_32 ?_
      refine V_iload_n dX6_drop_35 1 rfl ?_
      refine V_cV (k_X4_lose l G hw g  x1 ) hy_X4_lose hi_X4_lose hs_X4_lose q_200 rfl rfl (W_4 hw) rfl rfl rfl rfl rfl ⟨by decide, by decide⟩ (Nat.le_of_ble_eq_true rfl) ⟨by decide, by decide⟩ dX6_drop_36 (V_kM ?_)
      refine V_cV (k_X6_unfound l G hw ((F_X4_lose g x1).2)  ((F_X4_lose g x1).1) ) hy_X6_unfound hi_X6_unfound hs_X6_unfound q_121 rfl rfl (W_6 hw) rfl rfl rfl rfl rfl ⟨by decide, by decide⟩ (Nat.le_of_ble_eq_true rfl) ⟨by decide, by decide⟩ dX6_drop_39 (V_kM ?_)
      exact V_iret dX6_drop_42 rfl (lfM (by simp only [F_X6_drop, if_neg c_7, if_pos c_21]))
    · refine V_aload_n dX6_drop_24 0 rfl ?_
      refine V_iconst (v := 1) dX6_drop_25 (by decide) ?_
      refine V_cV (k_X6_found l G hw g  1 ) hy_X6_found hi_X6_found hs_X6_found q_112 rfl rfl (W_6 hw) rfl rfl rfl rfl rfl ⟨by decide, by decide⟩ (Nat.le_of_ble_eq_true rfl) ⟨by decide, by decide⟩ dX6_drop_26 (V_kM ?_)
      exact V_iret dX6_drop_29 rfl (lfM (by simp only [F_X6_drop, if_neg c_7, if_neg c_21]))
  · refine V_ldc q_108 dX6_drop_10 ?_
    exact V_iret dX6_drop_12 rfl (lfM (by simp only [F_X6_drop, if_pos c_7]))
def F_X6_feed (g : mm_g) (x1 : Int32) : Int32 × mm_g := (if (F_X6_within x1 0 255) = 0 then ((-1000001), g) else (if (F_X5_length g) < 100 then ((F_X5_append g x1).1, (F_X5_append g x1).2) else ((-1000003), g)))
set_option maxRecDepth 100000 in
set_option maxHeartbeats 4000000 in
theorem k_X6_feed (l : Launch) (G : mm_G) {pr : Nat → Nat → Prop} {ad : Nat → Nat → Nat → Nat} (hw : mm_W pr) (g : mm_g) (x1 : Int32)  : Mt l G yX6_feed cX6_feed 2 (some .int) (rmk 2 82) [.ref (ad 6 0 0), .int x1] pr ad g (qM pr ad (F_X6_feed g x1)) 0 0 := by
  refine Mt_of (by decide) (Nat.le_of_ble_eq_true rfl) ?_
  show V l G RX6 cX6_feed 2 (some .int) _ _ 0 0 0 0 0 [(0, .ref (ad 6 0 0)), (1, .int x1)] [] pr ad g
  refine V_iload_n dX6_feed_0 1 rfl ?_
  refine V_iconst (v := 0) dX6_feed_1 (by decide) ?_
  refine V_sipush (v := 255) dX6_feed_2 (by decide) ?_
  refine V_cS (k_X6_within l G hw g  x1 0 255 ) hy_X6_within hz_X6_within q_109 rfl rfl rfl rfl ⟨by decide, by decide⟩ (Nat.le_of_ble_eq_true rfl) ⟨by decide, by decide⟩ dX6_feed_5 (V_kI ?_)
  refine V_if_ne (tgt := 14) dX6_feed_8 (by decide) (fun c_8 => ?_) (fun c_8 => ?_)
  · refine V_aload_n dX6_feed_14 0 rfl ?_
    refine V_get (i := 1) inlX6 rfl (W_6 hw) rfl (by decide) q_19 rfl dX6_feed_15 ?_
    refine V_cV (k_X5_length l G hw g   ) hy_X5_length hi_X5_length hs_X5_length q_213 rfl rfl (W_5 hw) rfl rfl rfl rfl rfl ⟨by decide, by decide⟩ (Nat.le_of_ble_eq_true rfl) ⟨by decide, by decide⟩ dX6_feed_18 (V_kI ?_)
    refine V_bipush (v := 100) dX6_feed_21 (by decide) ?_
    refine V_ic_lt (tgt := 29) dX6_feed_23 (by decide) (fun c_23 => ?_) (fun c_23 => ?_)
    · refine V_aload_n dX6_feed_29 0 rfl ?_
      refine V_get (i := 1) inlX6 rfl (W_6 hw) rfl (by decide) q_19 rfl dX6_feed_30 ?_
      refine V_iload_n dX6_feed_33 1 rfl ?_
      refine V_cV (k_X5_append l G hw g  x1 ) hy_X5_append hi_X5_append hs_X5_append q_217 rfl rfl (W_5 hw) rfl rfl rfl rfl rfl ⟨by decide, by decide⟩ (Nat.le_of_ble_eq_true rfl) ⟨by decide, by decide⟩ dX6_feed_34 (V_kM ?_)
      exact V_iret dX6_feed_37 rfl (lfM (by simp only [F_X6_feed, if_neg c_8, if_pos c_23]))
    · refine V_ldc q_212 dX6_feed_26 ?_
      exact V_iret dX6_feed_28 rfl (lfM (by simp only [F_X6_feed, if_neg c_8, if_neg c_23]))
  · refine V_ldc q_108 dX6_feed_11 ?_
    exact V_iret dX6_feed_13 rfl (lfM (by simp only [F_X6_feed, if_pos c_8]))
def F_X6_flat (g : mm_g) : Int32 × mm_g := (if (F_X5_readInto (F_X3_scratch g) 1).1 = 0 then (((F_X0_forget (F_X2_become (F_X5_clear ((F_X5_readInto (F_X3_scratch g) 1).2)) 0 1)) 2 0 0), (F_X0_forget (F_X2_become (F_X5_clear ((F_X5_readInto (F_X3_scratch g) 1).2)) 0 1))) else (((-1000100) - (F_X5_readTo (wr (F_X5_clear ((F_X5_readInto (F_X3_scratch g) 1).2)) 6 0 0 ((F_X5_readInto (F_X3_scratch g) 1).1)))), (wr (F_X5_clear ((F_X5_readInto (F_X3_scratch g) 1).2)) 6 0 0 ((F_X5_readInto (F_X3_scratch g) 1).1))))
set_option maxRecDepth 100000 in
set_option maxHeartbeats 4000000 in
theorem k_X6_flat (l : Launch) (G : mm_G) {pr : Nat → Nat → Prop} {ad : Nat → Nat → Nat → Nat} (hw : mm_W pr) (g : mm_g)  : Mt l G yX6_flat cX6_flat 3 (some .int) (rmk 7 195) [.ref (ad 6 0 0)] pr ad g (qM pr ad (F_X6_flat g)) 0 0 := by
  refine Mt_of (by decide) (Nat.le_of_ble_eq_true rfl) ?_
  show V l G RX6 cX6_flat 3 (some .int) _ _ 0 0 0 0 0 [(0, .ref (ad 6 0 0))] [] pr ad g
  refine V_aload_n dX6_flat_0 0 rfl ?_
  refine V_get (i := 5) inlX6 rfl (W_6 hw) rfl (by decide) q_32 rfl dX6_flat_1 ?_
  refine V_cV (k_X3_scratch l G hw g   ) hy_X3_scratch hi_X3_scratch hs_X3_scratch q_233 rfl rfl (W_3 hw) rfl rfl rfl rfl rfl ⟨by decide, by decide⟩ (Nat.le_of_ble_eq_true rfl) ⟨by decide, by decide⟩ dX6_flat_4 (V_kR ?_)
  refine V_astore_n (L2 := [(1, .ref (ad 2 1 0)), (0, .ref (ad 6 0 0))]) dX6_flat_7 (by decide) rfl ?_
  refine V_aload_n dX6_flat_8 1 rfl ?_
  refine V_get (i := 1) inlX6 rfl (W_6 hw) rfl (by decide) q_19 rfl dX6_flat_9 ?_
  refine V_aload_n dX6_flat_12 0 rfl ?_
  refine V_cV (k_X5_readInto l G hw (F_X3_scratch g) (W_21 hw)  ) hy_X5_readInto hi_X5_readInto hs_X5_readInto q_237 rfl rfl (W_5 hw) rfl rfl rfl rfl rfl ⟨by decide, by decide⟩ (Nat.le_of_ble_eq_true rfl) ⟨by decide, by decide⟩ dX6_flat_13 (V_kM ?_)
  refine V_istore_n (L2 := [(2, .int ((F_X5_readInto (F_X3_scratch g) 1).1)), (1, .ref (ad 2 1 0)), (0, .ref (ad 6 0 0))]) dX6_flat_16 (by decide) rfl ?_
  refine V_aload_n dX6_flat_17 2 rfl ?_
  refine V_get (i := 1) inlX6 rfl (W_6 hw) rfl (by decide) q_19 rfl dX6_flat_18 ?_
  refine V_cV (k_X5_clear l G hw ((F_X5_readInto (F_X3_scratch g) 1).2)   ) hy_X5_clear hi_X5_clear hs_X5_clear q_284 rfl rfl (W_5 hw) rfl rfl rfl rfl rfl ⟨by decide, by decide⟩ (Nat.le_of_ble_eq_true rfl) ⟨by decide, by decide⟩ dX6_flat_21 (V_kN ?_)
  refine V_iload_n dX6_flat_24 0 rfl ?_
  refine V_if_eq (tgt := 44) dX6_flat_25 (by decide) (fun c_25 => ?_) (fun c_25 => ?_)
  · refine V_aload_n dX6_flat_44 2 rfl ?_
    refine V_get (i := 2) inlX6 rfl (W_6 hw) rfl (by decide) q_23 rfl dX6_flat_45 ?_
    refine V_aload_n dX6_flat_48 1 rfl ?_
    refine V_cV (k_X2_become l G hw (F_X5_clear ((F_X5_readInto (F_X3_scratch g) 1).2)) (W_20 hw) (W_21 hw)  ) hy_X2_become hi_X2_become hs_X2_become q_292 rfl rfl (W_20 hw) rfl rfl rfl rfl rfl ⟨by decide, by decide⟩ (Nat.le_of_ble_eq_true rfl) ⟨by decide, by decide⟩ dX6_flat_49 (V_kN ?_)
    refine V_aload_n dX6_flat_52 2 rfl ?_
    refine V_get (i := 3) inlX6 rfl (W_6 hw) rfl (by decide) q_27 rfl dX6_flat_53 ?_
    refine V_cV (k_X0_forget l G hw (F_X2_become (F_X5_clear ((F_X5_readInto (F_X3_scratch g) 1).2)) 0 1)   ) hy_X0_forget hi_X0_forget hs_X0_forget q_297 rfl rfl (W_0 hw) rfl rfl rfl rfl rfl ⟨by decide, by decide⟩ (Nat.le_of_ble_eq_true rfl) ⟨by decide, by decide⟩ dX6_flat_56 (V_kN ?_)
    refine V_aload_n dX6_flat_59 2 rfl ?_
    refine V_get (i := 2) inlX6 rfl (W_6 hw) rfl (by decide) q_23 rfl dX6_flat_60 ?_
    refine V_getN (i := 0) inlX2 rfl (W_20 hw) rfl (by decide) nf_X6_129 rfl dX6_flat_63 ?_
    exact V_iret dX6_flat_66 rfl (lfM (by simp only [F_X6_flat, if_pos c_25]))
  · refine V_aload_n dX6_flat_28 2 rfl ?_
    refine V_iload_n dX6_flat_29 0 rfl ?_
    refine P_6_7 (W_6 hw) q_37 dX6_flat_30 ?_
    refine V_ldc q_232 dX6_flat_33 ?_
    refine V_aload_n dX6_flat_35 2 rfl ?_
    refine V_get (i := 1) inlX6 rfl (W_6 hw) rfl (by decide) q_19 rfl dX6_flat_36 ?_
    refine V_cV (k_X5_readTo l G hw (wr (F_X5_clear ((F_X5_readInto (F_X3_scratch g) 1).2)) 6 0 0 ((F_X5_readInto (F_X3_scratch g) 1).1))   ) hy_X5_readTo hi_X5_readTo hs_X5_readTo q_288 rfl rfl (W_5 hw) rfl rfl rfl rfl rfl ⟨by decide, by decide⟩ (Nat.le_of_ble_eq_true rfl) ⟨by decide, by decide⟩ dX6_flat_39 (V_kI ?_)
    refine V_isub dX6_flat_42 ?_
    exact V_iret dX6_flat_43 rfl (lfM (by simp only [F_X6_flat, if_neg c_25]))
def F_X6_fault (g : mm_g) : Int32 := (g 6 0 0)
set_option maxRecDepth 100000 in
set_option maxHeartbeats 4000000 in
theorem k_X6_fault (l : Launch) (G : mm_G) {pr : Nat → Nat → Prop} {ad : Nat → Nat → Nat → Nat} (hw : mm_W pr) (g : mm_g)  : Mt l G yX6_fault cX6_fault 1 (some .int) (rmk 1 60) [.ref (ad 6 0 0)] pr ad g (qI pr ad g (F_X6_fault g)) 0 0 := by
  refine Mt_of (by decide) (Nat.le_of_ble_eq_true rfl) ?_
  show V l G RX6 cX6_fault 1 (some .int) _ _ 0 0 0 0 0 [(0, .ref (ad 6 0 0))] [] pr ad g
  refine V_aload_n dX6_fault_0 0 rfl ?_
  refine V_get (i := 7) inlX6 rfl (W_6 hw) rfl (by decide) q_37 rfl dX6_fault_1 ?_
  exact V_iret dX6_fault_4 rfl (lfI (by simp only [F_X6_fault]))
def F_X6_undo (g : mm_g) : Int32 × mm_g := (if (F_X0_takeBack g 0).1 = 0 then ((-1000002), (F_X0_takeBack g 0).2) else ((F_X0_kept ((F_X0_takeBack g 0).2)), (F_X0_takeBack g 0).2))
set_option maxRecDepth 100000 in
set_option maxHeartbeats 4000000 in
theorem k_X6_undo (l : Launch) (G : mm_G) {pr : Nat → Nat → Prop} {ad : Nat → Nat → Nat → Nat} (hw : mm_W pr) (g : mm_g) (hA : ∀ i, i < 24 → ¬ g 0 1 i = 0 → pr 2 (2 + i))  : Mt l G yX6_undo cX6_undo 1 (some .int) (rmk 3 105) [.ref (ad 6 0 0)] pr ad g (qM pr ad (F_X6_undo g)) 0 0 := by
  refine Mt_of (by decide) (Nat.le_of_ble_eq_true rfl) ?_
  show V l G RX6 cX6_undo 1 (some .int) _ _ 0 0 0 0 0 [(0, .ref (ad 6 0 0))] [] pr ad g
  refine V_aload_n dX6_undo_0 0 rfl ?_
  refine V_get (i := 3) inlX6 rfl (W_6 hw) rfl (by decide) q_27 rfl dX6_undo_1 ?_
  refine V_aload_n dX6_undo_4 0 rfl ?_
  refine V_get (i := 2) inlX6 rfl (W_6 hw) rfl (by decide) q_23 rfl dX6_undo_5 ?_
  refine V_cV (k_X0_takeBack l G hw g (W_20 hw)  hA) hy_X0_takeBack hi_X0_takeBack hs_X0_takeBack q_358 rfl rfl (W_0 hw) rfl rfl rfl rfl rfl ⟨by decide, by decide⟩ (Nat.le_of_ble_eq_true rfl) ⟨by decide, by decide⟩ dX6_undo_8 (V_kM ?_)
  refine V_if_ne (tgt := 17) dX6_undo_11 (by decide) (fun c_11 => ?_) (fun c_11 => ?_)
  · refine V_aload_n dX6_undo_17 0 rfl ?_
    refine V_get (i := 3) inlX6 rfl (W_6 hw) rfl (by decide) q_27 rfl dX6_undo_18 ?_
    refine V_cV (k_X0_kept l G hw ((F_X0_takeBack g 0).2)   ) hy_X0_kept hi_X0_kept hs_X0_kept q_363 rfl rfl (W_0 hw) rfl rfl rfl rfl rfl ⟨by decide, by decide⟩ (Nat.le_of_ble_eq_true rfl) ⟨by decide, by decide⟩ dX6_undo_21 (V_kI ?_)
    exact V_iret dX6_undo_24 rfl (lfM (by simp only [F_X6_undo, if_neg c_11]))
  · refine V_ldc q_357 dX6_undo_14 ?_
    exact V_iret dX6_undo_16 rfl (lfM (by simp only [F_X6_undo, if_pos c_11]))
def F_X6_bed (g : mm_g) (x1 : Int32) (x2 : Int32) : Int32 := (if (F_X2_has g 0 x1) = 0 then (-1000001) else (if (F_X6_within x2 0 3) = 0 then (-1000001) else (if x2 = 3 then (if (F_X2_hasVeto g 0 x1) = 0 then 0 else 1) else (F_X2_tellOf g 0 x1 x2))))
set_option maxRecDepth 100000 in
set_option maxHeartbeats 4000000 in
theorem k_X6_bed (l : Launch) (G : mm_G) {pr : Nat → Nat → Prop} {ad : Nat → Nat → Nat → Nat} (hw : mm_W pr) (g : mm_g) (x1 : Int32) (x2 : Int32)  : Mt l G yX6_bed cX6_bed 3 (some .int) (rmk 4 126) [.ref (ad 6 0 0), .int x1, .int x2] pr ad g (qI pr ad g (F_X6_bed g x1 x2)) 0 0 := by
  refine Mt_of (by decide) (Nat.le_of_ble_eq_true rfl) ?_
  show V l G RX6 cX6_bed 3 (some .int) _ _ 0 0 0 0 0 [(0, .ref (ad 6 0 0)), (1, .int x1), (2, .int x2)] [] pr ad g
  refine V_aload_n dX6_bed_0 0 rfl ?_
  refine V_get (i := 2) inlX6 rfl (W_6 hw) rfl (by decide) q_23 rfl dX6_bed_1 ?_
  refine V_iload_n dX6_bed_4 1 rfl ?_
  refine V_cV (k_X2_has l G hw g (W_20 hw) x1 ) hy_X2_has hi_X2_has hs_X2_has q_462 rfl rfl (W_20 hw) rfl rfl rfl rfl rfl ⟨by decide, by decide⟩ (Nat.le_of_ble_eq_true rfl) ⟨by decide, by decide⟩ dX6_bed_5 (V_kI ?_)
  refine V_if_eq (tgt := 20) dX6_bed_8 (by decide) (fun c_8 => ?_) (fun c_8 => ?_)
  · refine V_ldc q_108 dX6_bed_20 ?_
    exact V_iret dX6_bed_22 rfl (lfI (by simp only [F_X6_bed, if_pos c_8]))
  · refine V_iload_n dX6_bed_11 2 rfl ?_
    refine V_iconst (v := 0) dX6_bed_12 (by decide) ?_
    refine V_iconst (v := 3) dX6_bed_13 (by decide) ?_
    refine V_cS (k_X6_within l G hw g  x2 0 3 ) hy_X6_within hz_X6_within q_109 rfl rfl rfl rfl ⟨by decide, by decide⟩ (Nat.le_of_ble_eq_true rfl) ⟨by decide, by decide⟩ dX6_bed_14 (V_kI ?_)
    refine V_if_ne (tgt := 23) dX6_bed_17 (by decide) (fun c_17 => ?_) (fun c_17 => ?_)
    · refine V_iload_n dX6_bed_23 2 rfl ?_
      refine V_iconst (v := 3) dX6_bed_24 (by decide) ?_
      refine V_ic_ne (tgt := 45) dX6_bed_25 (by decide) (fun c_25 => ?_) (fun c_25 => ?_)
      · refine V_aload_n dX6_bed_45 0 rfl ?_
        refine V_get (i := 2) inlX6 rfl (W_6 hw) rfl (by decide) q_23 rfl dX6_bed_46 ?_
        refine V_iload_n dX6_bed_49 1 rfl ?_
        refine V_iload_n dX6_bed_50 2 rfl ?_
        refine V_cV (k_X2_tellOf l G hw g (W_20 hw) x1 x2 ) hy_X2_tellOf hi_X2_tellOf hs_X2_tellOf q_547 rfl rfl (W_20 hw) rfl rfl rfl rfl rfl ⟨by decide, by decide⟩ (Nat.le_of_ble_eq_true rfl) ⟨by decide, by decide⟩ dX6_bed_51 (V_kI ?_)
        exact V_iret dX6_bed_54 rfl (lfI (by simp only [F_X6_bed, if_neg c_8, if_neg c_17, if_neg c_25]))
      · refine V_aload_n dX6_bed_28 0 rfl ?_
        refine V_get (i := 2) inlX6 rfl (W_6 hw) rfl (by decide) q_23 rfl dX6_bed_29 ?_
        refine V_iload_n dX6_bed_32 1 rfl ?_
        refine V_cV (k_X2_hasVeto l G hw g (W_20 hw) x1 ) hy_X2_hasVeto hi_X2_hasVeto hs_X2_hasVeto q_463 rfl rfl (W_20 hw) rfl rfl rfl rfl rfl ⟨by decide, by decide⟩ (Nat.le_of_ble_eq_true rfl) ⟨by decide, by decide⟩ dX6_bed_33 (V_kI ?_)
        refine V_if_eq (tgt := 43) dX6_bed_36 (by decide) (fun c_36 => ?_) (fun c_36 => ?_)
        · refine V_iconst (v := 0) dX6_bed_43 (by decide) ?_
          exact V_iret dX6_bed_44 rfl (lfI (by simp only [F_X6_bed, if_neg c_8, if_neg c_17, if_pos c_25, if_pos c_36]))
        · refine V_iconst (v := 1) dX6_bed_39 (by decide) ?_
          refine V_goto (tgt := 44) dX6_bed_40 (by decide) ?_
          exact V_iret dX6_bed_44 rfl (lfI (by simp only [F_X6_bed, if_neg c_8, if_neg c_17, if_pos c_25, if_neg c_36]))
    · refine V_ldc q_108 dX6_bed_20 ?_
      exact V_iret dX6_bed_22 rfl (lfI (by simp only [F_X6_bed, if_neg c_8, if_pos c_17]))
def F_X6_board (g : mm_g) (x1 : Int32) : Int32 := (if (F_X2_isNone g 0) = 0 then (if x1 = 0 then (F_X2_countedFor g 0 x1) else (if x1 = 1 then (F_X2_countedFor g 0 x1) else (if x1 = 2 then (F_X2_countedFor g 0 x1) else (if x1 = 3 then (g 2 0 1) else (if x1 = 4 then (g 2 0 2) else (if x1 = 5 then (g 2 0 3) else (-1000001))))))) else (-1000002))
set_option maxRecDepth 100000 in
set_option maxHeartbeats 4000000 in
theorem k_X6_board (l : Launch) (G : mm_G) {pr : Nat → Nat → Prop} {ad : Nat → Nat → Nat → Nat} (hw : mm_W pr) (g : mm_g) (x1 : Int32)  : Mt l G yX6_board cX6_board 2 (some .int) (rmk 3 103) [.ref (ad 6 0 0), .int x1] pr ad g (qI pr ad g (F_X6_board g x1)) 0 0 := by
  refine Mt_of (by decide) (Nat.le_of_ble_eq_true rfl) ?_
  show V l G RX6 cX6_board 2 (some .int) _ _ 0 0 0 0 0 [(0, .ref (ad 6 0 0)), (1, .int x1)] [] pr ad g
  refine V_aload_n dX6_board_0 0 rfl ?_
  refine V_get (i := 2) inlX6 rfl (W_6 hw) rfl (by decide) q_23 rfl dX6_board_1 ?_
  refine V_cV (k_X2_isNone l G hw g (W_20 hw)  ) hy_X2_isNone hi_X2_isNone hs_X2_isNone q_376 rfl rfl (W_20 hw) rfl rfl rfl rfl rfl ⟨by decide, by decide⟩ (Nat.le_of_ble_eq_true rfl) ⟨by decide, by decide⟩ dX6_board_4 (V_kI ?_)
  refine V_if_eq (tgt := 13) dX6_board_7 (by decide) (fun c_7 => ?_) (fun c_7 => ?_)
  · refine V_iload_n dX6_board_13 1 rfl ?_
    by_cases s_14_0 : x1 = 0
    · refine V_tabI (v := 0) (off := 38) (tgt := 52) dX6_board_14 s_14_0 (by decide) (by decide) rfl (by decide) ?_
      refine V_aload_n dX6_board_52 0 rfl ?_
      refine V_get (i := 2) inlX6 rfl (W_6 hw) rfl (by decide) q_23 rfl dX6_board_53 ?_
      refine V_iload_n dX6_board_56 1 rfl ?_
      refine V_cV (k_X2_countedFor l G hw g (W_20 hw) x1 ) hy_X2_countedFor hi_X2_countedFor hs_X2_countedFor q_565 rfl rfl (W_20 hw) rfl rfl rfl rfl rfl ⟨by decide, by decide⟩ (Nat.le_of_ble_eq_true rfl) ⟨by decide, by decide⟩ dX6_board_57 (V_kI ?_)
      exact V_iret dX6_board_60 rfl (lfI (by simp only [F_X6_board, if_pos c_7, if_pos s_14_0]))
    by_cases s_14_1 : x1 = 1
    · refine V_tabI (v := 1) (off := 38) (tgt := 52) dX6_board_14 s_14_1 (by decide) (by decide) rfl (by decide) ?_
      refine V_aload_n dX6_board_52 0 rfl ?_
      refine V_get (i := 2) inlX6 rfl (W_6 hw) rfl (by decide) q_23 rfl dX6_board_53 ?_
      refine V_iload_n dX6_board_56 1 rfl ?_
      refine V_cV (k_X2_countedFor l G hw g (W_20 hw) x1 ) hy_X2_countedFor hi_X2_countedFor hs_X2_countedFor q_565 rfl rfl (W_20 hw) rfl rfl rfl rfl rfl ⟨by decide, by decide⟩ (Nat.le_of_ble_eq_true rfl) ⟨by decide, by decide⟩ dX6_board_57 (V_kI ?_)
      exact V_iret dX6_board_60 rfl (lfI (by simp only [F_X6_board, if_pos c_7, if_neg s_14_0, if_pos s_14_1]))
    by_cases s_14_2 : x1 = 2
    · refine V_tabI (v := 2) (off := 38) (tgt := 52) dX6_board_14 s_14_2 (by decide) (by decide) rfl (by decide) ?_
      refine V_aload_n dX6_board_52 0 rfl ?_
      refine V_get (i := 2) inlX6 rfl (W_6 hw) rfl (by decide) q_23 rfl dX6_board_53 ?_
      refine V_iload_n dX6_board_56 1 rfl ?_
      refine V_cV (k_X2_countedFor l G hw g (W_20 hw) x1 ) hy_X2_countedFor hi_X2_countedFor hs_X2_countedFor q_565 rfl rfl (W_20 hw) rfl rfl rfl rfl rfl ⟨by decide, by decide⟩ (Nat.le_of_ble_eq_true rfl) ⟨by decide, by decide⟩ dX6_board_57 (V_kI ?_)
      exact V_iret dX6_board_60 rfl (lfI (by simp only [F_X6_board, if_pos c_7, if_neg s_14_0, if_neg s_14_1, if_pos s_14_2]))
    by_cases s_14_3 : x1 = 3
    · refine V_tabI (v := 3) (off := 47) (tgt := 61) dX6_board_14 s_14_3 (by decide) (by decide) rfl (by decide) ?_
      refine V_aload_n dX6_board_61 0 rfl ?_
      refine V_get (i := 2) inlX6 rfl (W_6 hw) rfl (by decide) q_23 rfl dX6_board_62 ?_
      refine V_getN (i := 4) inlX2 rfl (W_20 hw) rfl (by decide) nf_X6_186 rfl dX6_board_65 ?_
      exact V_iret dX6_board_68 rfl (lfI (by simp only [F_X6_board, if_pos c_7, if_neg s_14_0, if_neg s_14_1, if_neg s_14_2, if_pos s_14_3]))
    by_cases s_14_4 : x1 = 4
    · refine V_tabI (v := 4) (off := 55) (tgt := 69) dX6_board_14 s_14_4 (by decide) (by decide) rfl (by decide) ?_
      refine V_aload_n dX6_board_69 0 rfl ?_
      refine V_get (i := 2) inlX6 rfl (W_6 hw) rfl (by decide) q_23 rfl dX6_board_70 ?_
      refine V_getN (i := 5) inlX2 rfl (W_20 hw) rfl (by decide) nf_X6_189 rfl dX6_board_73 ?_
      exact V_iret dX6_board_76 rfl (lfI (by simp only [F_X6_board, if_pos c_7, if_neg s_14_0, if_neg s_14_1, if_neg s_14_2, if_neg s_14_3, if_pos s_14_4]))
    by_cases s_14_5 : x1 = 5
    · refine V_tabI (v := 5) (off := 63) (tgt := 77) dX6_board_14 s_14_5 (by decide) (by decide) rfl (by decide) ?_
      refine V_aload_n dX6_board_77 0 rfl ?_
      refine V_get (i := 2) inlX6 rfl (W_6 hw) rfl (by decide) q_23 rfl dX6_board_78 ?_
      refine V_getN (i := 2) inlX2 rfl (W_20 hw) rfl (by decide) nf_X6_201 rfl dX6_board_81 ?_
      exact V_iret dX6_board_84 rfl (lfI (by simp only [F_X6_board, if_pos c_7, if_neg s_14_0, if_neg s_14_1, if_neg s_14_2, if_neg s_14_3, if_neg s_14_4, if_pos s_14_5]))
    refine V_tabO (tgt := 85) dX6_board_14 (by have e0 := mm_ne s_14_0 (n := 0) (by decide); have e1 := mm_ne s_14_1 (n := 1) (by decide); have e2 := mm_ne s_14_2 (n := 2) (by decide); have e3 := mm_ne s_14_3 (n := 3) (by decide); have e4 := mm_ne s_14_4 (n := 4) (by decide); have e5 := mm_ne s_14_5 (n := 5) (by decide); omega) (by decide) ?_
    refine V_ldc q_108 dX6_board_85 ?_
    exact V_iret dX6_board_87 rfl (lfI (by simp only [F_X6_board, if_pos c_7, if_neg s_14_0, if_neg s_14_1, if_neg s_14_2, if_neg s_14_3, if_neg s_14_4, if_neg s_14_5]))
  · refine V_ldc q_357 dX6_board_10 ?_
    exact V_iret dX6_board_12 rfl (lfI (by simp only [F_X6_board, if_neg c_7]))
def F_X6_ahead (g : mm_g) (x1 : Int32) (x2 : Int32) (x3 : Int32) : Int32 × mm_g := (if (F_X2_has g 0 x1) = 0 then ((-1000001), g) else (if (F_X6_within x2 0 60) = 0 then ((-1000001), g) else (if (F_X6_within x3 0 2) = 0 then ((-1000001), g) else ((F_X2_tellOf (F_X3_after g 0 x2) 1 x1 x3), (F_X3_after g 0 x2)))))
set_option maxRecDepth 100000 in
set_option maxHeartbeats 4000000 in
theorem k_X6_ahead (l : Launch) (G : mm_G) {pr : Nat → Nat → Prop} {ad : Nat → Nat → Nat → Nat} (hw : mm_W pr) (g : mm_g) (x1 : Int32) (x2 : Int32) (x3 : Int32)  : Mt l G yX6_ahead cX6_ahead 4 (some .int) (rmk 6 170) [.ref (ad 6 0 0), .int x1, .int x2, .int x3] pr ad g (qM pr ad (F_X6_ahead g x1 x2 x3)) 0 0 := by
  refine Mt_of (by decide) (Nat.le_of_ble_eq_true rfl) ?_
  show V l G RX6 cX6_ahead 4 (some .int) _ _ 0 0 0 0 0 [(0, .ref (ad 6 0 0)), (1, .int x1), (2, .int x2), (3, .int x3)] [] pr ad g
  refine V_aload_n dX6_ahead_0 0 rfl ?_
  refine V_get (i := 2) inlX6 rfl (W_6 hw) rfl (by decide) q_23 rfl dX6_ahead_1 ?_
  refine V_iload_n dX6_ahead_4 1 rfl ?_
  refine V_cV (k_X2_has l G hw g (W_20 hw) x1 ) hy_X2_has hi_X2_has hs_X2_has q_462 rfl rfl (W_20 hw) rfl rfl rfl rfl rfl ⟨by decide, by decide⟩ (Nat.le_of_ble_eq_true rfl) ⟨by decide, by decide⟩ dX6_ahead_5 (V_kI ?_)
  refine V_if_eq (tgt := 30) dX6_ahead_8 (by decide) (fun c_8 => ?_) (fun c_8 => ?_)
  · refine V_ldc q_108 dX6_ahead_30 ?_
    exact V_iret dX6_ahead_32 rfl (lfM (by simp only [F_X6_ahead, if_pos c_8]))
  · refine V_iload_n dX6_ahead_11 2 rfl ?_
    refine V_iconst (v := 0) dX6_ahead_12 (by decide) ?_
    refine V_bipush (v := 60) dX6_ahead_13 (by decide) ?_
    refine V_cS (k_X6_within l G hw g  x2 0 60 ) hy_X6_within hz_X6_within q_109 rfl rfl rfl rfl ⟨by decide, by decide⟩ (Nat.le_of_ble_eq_true rfl) ⟨by decide, by decide⟩ dX6_ahead_15 (V_kI ?_)
    refine V_if_eq (tgt := 30) dX6_ahead_18 (by decide) (fun c_18 => ?_) (fun c_18 => ?_)
    · refine V_ldc q_108 dX6_ahead_30 ?_
      exact V_iret dX6_ahead_32 rfl (lfM (by simp only [F_X6_ahead, if_neg c_8, if_pos c_18]))
    · refine V_iload_n dX6_ahead_21 3 rfl ?_
      refine V_iconst (v := 0) dX6_ahead_22 (by decide) ?_
      refine V_iconst (v := 2) dX6_ahead_23 (by decide) ?_
      refine V_cS (k_X6_within l G hw g  x3 0 2 ) hy_X6_within hz_X6_within q_109 rfl rfl rfl rfl ⟨by decide, by decide⟩ (Nat.le_of_ble_eq_true rfl) ⟨by decide, by decide⟩ dX6_ahead_24 (V_kI ?_)
      refine V_if_ne (tgt := 33) dX6_ahead_27 (by decide) (fun c_27 => ?_) (fun c_27 => ?_)
      · refine V_aload_n dX6_ahead_33 0 rfl ?_
        refine V_get (i := 5) inlX6 rfl (W_6 hw) rfl (by decide) q_32 rfl dX6_ahead_34 ?_
        refine V_aload_n dX6_ahead_37 0 rfl ?_
        refine V_get (i := 2) inlX6 rfl (W_6 hw) rfl (by decide) q_23 rfl dX6_ahead_38 ?_
        refine V_iload_n dX6_ahead_41 2 rfl ?_
        refine V_cV (k_X3_after l G hw g (W_20 hw) x2 ) hy_X3_after hi_X3_after hs_X3_after q_578 rfl rfl (W_3 hw) rfl rfl rfl rfl rfl ⟨by decide, by decide⟩ (Nat.le_of_ble_eq_true rfl) ⟨by decide, by decide⟩ dX6_ahead_42 (V_kR ?_)
        refine V_iload_n dX6_ahead_45 1 rfl ?_
        refine V_iload_n dX6_ahead_46 3 rfl ?_
        refine V_cV (k_X2_tellOf l G hw (F_X3_after g 0 x2) (W_21 hw) x1 x3 ) hy_X2_tellOf hi_X2_tellOf hs_X2_tellOf q_547 rfl rfl (W_21 hw) rfl rfl rfl rfl rfl ⟨by decide, by decide⟩ (Nat.le_of_ble_eq_true rfl) ⟨by decide, by decide⟩ dX6_ahead_47 (V_kI ?_)
        exact V_iret dX6_ahead_50 rfl (lfM (by simp only [F_X6_ahead, if_neg c_8, if_neg c_18, if_neg c_27]))
      · refine V_ldc q_108 dX6_ahead_30 ?_
        exact V_iret dX6_ahead_32 rfl (lfM (by simp only [F_X6_ahead, if_neg c_8, if_neg c_18, if_pos c_27]))
def F_X6_tally (g : mm_g) (x1 : Int32) (x2 : Int32) : Int32 × mm_g := (if (F_X2_isNone g 0) = 0 then (if (F_X6_within x1 0 60) = 0 then ((-1000001), g) else (if (F_X6_within x2 0 2) = 0 then ((-1000001), g) else ((F_X2_tallyFor (F_X3_after g 0 x1) 1 x2), (F_X3_after g 0 x1)))) else ((-1000002), g))
set_option maxRecDepth 100000 in
set_option maxHeartbeats 4000000 in
theorem k_X6_tally (l : Launch) (G : mm_G) {pr : Nat → Nat → Prop} {ad : Nat → Nat → Nat → Nat} (hw : mm_W pr) (g : mm_g) (x1 : Int32) (x2 : Int32)  : Mt l G yX6_tally cX6_tally 3 (some .int) (rmk 6 170) [.ref (ad 6 0 0), .int x1, .int x2] pr ad g (qM pr ad (F_X6_tally g x1 x2)) 0 0 := by
  refine Mt_of (by decide) (Nat.le_of_ble_eq_true rfl) ?_
  show V l G RX6 cX6_tally 3 (some .int) _ _ 0 0 0 0 0 [(0, .ref (ad 6 0 0)), (1, .int x1), (2, .int x2)] [] pr ad g
  refine V_aload_n dX6_tally_0 0 rfl ?_
  refine V_get (i := 2) inlX6 rfl (W_6 hw) rfl (by decide) q_23 rfl dX6_tally_1 ?_
  refine V_cV (k_X2_isNone l G hw g (W_20 hw)  ) hy_X2_isNone hi_X2_isNone hs_X2_isNone q_376 rfl rfl (W_20 hw) rfl rfl rfl rfl rfl ⟨by decide, by decide⟩ (Nat.le_of_ble_eq_true rfl) ⟨by decide, by decide⟩ dX6_tally_4 (V_kI ?_)
  refine V_if_eq (tgt := 13) dX6_tally_7 (by decide) (fun c_7 => ?_) (fun c_7 => ?_)
  · refine V_iload_n dX6_tally_13 1 rfl ?_
    refine V_iconst (v := 0) dX6_tally_14 (by decide) ?_
    refine V_bipush (v := 60) dX6_tally_15 (by decide) ?_
    refine V_cS (k_X6_within l G hw g  x1 0 60 ) hy_X6_within hz_X6_within q_109 rfl rfl rfl rfl ⟨by decide, by decide⟩ (Nat.le_of_ble_eq_true rfl) ⟨by decide, by decide⟩ dX6_tally_17 (V_kI ?_)
    refine V_if_eq (tgt := 32) dX6_tally_20 (by decide) (fun c_20 => ?_) (fun c_20 => ?_)
    · refine V_ldc q_108 dX6_tally_32 ?_
      exact V_iret dX6_tally_34 rfl (lfM (by simp only [F_X6_tally, if_pos c_7, if_pos c_20]))
    · refine V_iload_n dX6_tally_23 2 rfl ?_
      refine V_iconst (v := 0) dX6_tally_24 (by decide) ?_
      refine V_iconst (v := 2) dX6_tally_25 (by decide) ?_
      refine V_cS (k_X6_within l G hw g  x2 0 2 ) hy_X6_within hz_X6_within q_109 rfl rfl rfl rfl ⟨by decide, by decide⟩ (Nat.le_of_ble_eq_true rfl) ⟨by decide, by decide⟩ dX6_tally_26 (V_kI ?_)
      refine V_if_ne (tgt := 35) dX6_tally_29 (by decide) (fun c_29 => ?_) (fun c_29 => ?_)
      · refine V_aload_n dX6_tally_35 0 rfl ?_
        refine V_get (i := 5) inlX6 rfl (W_6 hw) rfl (by decide) q_32 rfl dX6_tally_36 ?_
        refine V_aload_n dX6_tally_39 0 rfl ?_
        refine V_get (i := 2) inlX6 rfl (W_6 hw) rfl (by decide) q_23 rfl dX6_tally_40 ?_
        refine V_iload_n dX6_tally_43 1 rfl ?_
        refine V_cV (k_X3_after l G hw g (W_20 hw) x1 ) hy_X3_after hi_X3_after hs_X3_after q_578 rfl rfl (W_3 hw) rfl rfl rfl rfl rfl ⟨by decide, by decide⟩ (Nat.le_of_ble_eq_true rfl) ⟨by decide, by decide⟩ dX6_tally_44 (V_kR ?_)
        refine V_iload_n dX6_tally_47 2 rfl ?_
        refine V_cV (k_X2_tallyFor l G hw (F_X3_after g 0 x1) (W_21 hw) x2 ) hy_X2_tallyFor hi_X2_tallyFor hs_X2_tallyFor q_605 rfl rfl (W_21 hw) rfl rfl rfl rfl rfl ⟨by decide, by decide⟩ (Nat.le_of_ble_eq_true rfl) ⟨by decide, by decide⟩ dX6_tally_48 (V_kI ?_)
        exact V_iret dX6_tally_51 rfl (lfM (by simp only [F_X6_tally, if_pos c_7, if_neg c_20, if_neg c_29]))
      · refine V_ldc q_108 dX6_tally_32 ?_
        exact V_iret dX6_tally_34 rfl (lfM (by simp only [F_X6_tally, if_pos c_7, if_neg c_20, if_pos c_29]))
  · refine V_ldc q_357 dX6_tally_10 ?_
    exact V_iret dX6_tally_12 rfl (lfM (by simp only [F_X6_tally, if_neg c_7]))
def F_X6_when (g : mm_g) (x1 : Int32) (x2 : Int32) : Int32 × mm_g := (if (F_X2_has g 0 x1) = 0 then ((-1000001), g) else (if (F_X6_within x2 0 2) = 0 then ((-1000001), g) else ((F_X3_firstLying g 0 x1 x2).1, (F_X3_firstLying g 0 x1 x2).2)))
set_option maxRecDepth 100000 in
set_option maxHeartbeats 4000000 in
theorem k_X6_when (l : Launch) (G : mm_G) {pr : Nat → Nat → Prop} {ad : Nat → Nat → Nat → Nat} (hw : mm_W pr) (g : mm_g) (x1 : Int32) (x2 : Int32)  : Mt l G yX6_when cX6_when 3 (some .int) (rmk 6 171) [.ref (ad 6 0 0), .int x1, .int x2] pr ad g (qM pr ad (F_X6_when g x1 x2)) 0 0 := by
  refine Mt_of (by decide) (Nat.le_of_ble_eq_true rfl) ?_
  show V l G RX6 cX6_when 3 (some .int) _ _ 0 0 0 0 0 [(0, .ref (ad 6 0 0)), (1, .int x1), (2, .int x2)] [] pr ad g
  refine V_aload_n dX6_when_0 0 rfl ?_
  refine V_get (i := 2) inlX6 rfl (W_6 hw) rfl (by decide) q_23 rfl dX6_when_1 ?_
  refine V_iload_n dX6_when_4 1 rfl ?_
  refine V_cV (k_X2_has l G hw g (W_20 hw) x1 ) hy_X2_has hi_X2_has hs_X2_has q_462 rfl rfl (W_20 hw) rfl rfl rfl rfl rfl ⟨by decide, by decide⟩ (Nat.le_of_ble_eq_true rfl) ⟨by decide, by decide⟩ dX6_when_5 (V_kI ?_)
  refine V_if_eq (tgt := 20) dX6_when_8 (by decide) (fun c_8 => ?_) (fun c_8 => ?_)
  · refine V_ldc q_108 dX6_when_20 ?_
    exact V_iret dX6_when_22 rfl (lfM (by simp only [F_X6_when, if_pos c_8]))
  · refine V_iload_n dX6_when_11 2 rfl ?_
    refine V_iconst (v := 0) dX6_when_12 (by decide) ?_
    refine V_iconst (v := 2) dX6_when_13 (by decide) ?_
    refine V_cS (k_X6_within l G hw g  x2 0 2 ) hy_X6_within hz_X6_within q_109 rfl rfl rfl rfl ⟨by decide, by decide⟩ (Nat.le_of_ble_eq_true rfl) ⟨by decide, by decide⟩ dX6_when_14 (V_kI ?_)
    refine V_if_ne (tgt := 23) dX6_when_17 (by decide) (fun c_17 => ?_) (fun c_17 => ?_)
    · refine V_aload_n dX6_when_23 0 rfl ?_
      refine V_get (i := 5) inlX6 rfl (W_6 hw) rfl (by decide) q_32 rfl dX6_when_24 ?_
      refine V_aload_n dX6_when_27 0 rfl ?_
      refine V_get (i := 2) inlX6 rfl (W_6 hw) rfl (by decide) q_23 rfl dX6_when_28 ?_
      refine V_iload_n dX6_when_31 1 rfl ?_
      refine V_iload_n dX6_when_32 2 rfl ?_
      refine V_cV (k_X3_firstLying l G hw g (W_20 hw) x1 x2 ) hy_X3_firstLying hi_X3_firstLying hs_X3_firstLying q_627 rfl rfl (W_3 hw) rfl rfl rfl rfl rfl ⟨by decide, by decide⟩ (Nat.le_of_ble_eq_true rfl) ⟨by decide, by decide⟩ dX6_when_33 (V_kM ?_)
      exact V_iret dX6_when_36 rfl (lfM (by simp only [F_X6_when, if_neg c_8, if_neg c_17]))
    · refine V_ldc q_108 dX6_when_20 ?_
      exact V_iret dX6_when_22 rfl (lfM (by simp only [F_X6_when, if_neg c_8, if_pos c_17]))
def F_X6_place (g : mm_g) (x1 : Int32) (x2 : Int32) : Int32 × mm_g := (if (F_X2_isNone g 0) = 0 then (if (F_X6_isOne x1) = 0 then ((-1000001), g) else (if (F_X6_within x2 0 1) = 0 then ((-1000001), g) else (if x2 = 0 then ((F_X3_bestCell g 0 x1).1, (F_X3_bestCell g 0 x1).2) else ((F_X3_leadFrom ((F_X3_bestCell g 0 x1).2) 0 x1 ((F_X3_bestCell g 0 x1).1)).1, (F_X3_leadFrom ((F_X3_bestCell g 0 x1).2) 0 x1 ((F_X3_bestCell g 0 x1).1)).2)))) else ((-1000002), g))
set_option maxRecDepth 100000 in
set_option maxHeartbeats 4000000 in
theorem k_X6_place (l : Launch) (G : mm_G) {pr : Nat → Nat → Prop} {ad : Nat → Nat → Nat → Nat} (hw : mm_W pr) (g : mm_g) (x1 : Int32) (x2 : Int32)  : Mt l G yX6_place cX6_place 4 (some .int) (rmk 7 200) [.ref (ad 6 0 0), .int x1, .int x2] pr ad g (qM pr ad (F_X6_place g x1 x2)) 0 0 := by
  refine Mt_of (by decide) (Nat.le_of_ble_eq_true rfl) ?_
  show V l G RX6 cX6_place 4 (some .int) _ _ 0 0 0 0 0 [(0, .ref (ad 6 0 0)), (1, .int x1), (2, .int x2)] [] pr ad g
  refine V_aload_n dX6_place_0 0 rfl ?_
  refine V_get (i := 2) inlX6 rfl (W_6 hw) rfl (by decide) q_23 rfl dX6_place_1 ?_
  refine V_cV (k_X2_isNone l G hw g (W_20 hw)  ) hy_X2_isNone hi_X2_isNone hs_X2_isNone q_376 rfl rfl (W_20 hw) rfl rfl rfl rfl rfl ⟨by decide, by decide⟩ (Nat.le_of_ble_eq_true rfl) ⟨by decide, by decide⟩ dX6_place_4 (V_kI ?_)
  refine V_if_eq (tgt := 13) dX6_place_7 (by decide) (fun c_7 => ?_) (fun c_7 => ?_)
  · refine V_iload_n dX6_place_13 1 rfl ?_
    refine V_cS (k_X6_isOne l G hw g  x1 ) hy_X6_isOne hz_X6_isOne q_528 rfl rfl rfl rfl ⟨by decide, by decide⟩ (Nat.le_of_ble_eq_true rfl) ⟨by decide, by decide⟩ dX6_place_14 (V_kI ?_)
    refine V_if_eq (tgt := 29) dX6_place_17 (by decide) (fun c_17 => ?_) (fun c_17 => ?_)
    · refine V_ldc q_108 dX6_place_29 ?_
      exact V_iret dX6_place_31 rfl (lfM (by simp only [F_X6_place, if_pos c_7, if_pos c_17]))
    · refine V_iload_n dX6_place_20 2 rfl ?_
      refine V_iconst (v := 0) dX6_place_21 (by decide) ?_
      refine V_iconst (v := 1) dX6_place_22 (by decide) ?_
      refine V_cS (k_X6_within l G hw g  x2 0 1 ) hy_X6_within hz_X6_within q_109 rfl rfl rfl rfl ⟨by decide, by decide⟩ (Nat.le_of_ble_eq_true rfl) ⟨by decide, by decide⟩ dX6_place_23 (V_kI ?_)
      refine V_if_ne (tgt := 32) dX6_place_26 (by decide) (fun c_26 => ?_) (fun c_26 => ?_)
      · refine V_aload_n dX6_place_32 0 rfl ?_
        refine V_get (i := 5) inlX6 rfl (W_6 hw) rfl (by decide) q_32 rfl dX6_place_33 ?_
        refine V_aload_n dX6_place_36 0 rfl ?_
        refine V_get (i := 2) inlX6 rfl (W_6 hw) rfl (by decide) q_23 rfl dX6_place_37 ?_
        refine V_iload_n dX6_place_40 1 rfl ?_
        refine V_cV (k_X3_bestCell l G hw g (W_20 hw) x1 ) hy_X3_bestCell hi_X3_bestCell hs_X3_bestCell q_642 rfl rfl (W_3 hw) rfl rfl rfl rfl rfl ⟨by decide, by decide⟩ (Nat.le_of_ble_eq_true rfl) ⟨by decide, by decide⟩ dX6_place_41 (V_kM ?_)
        refine V_istore_n (L2 := [(3, .int ((F_X3_bestCell g 0 x1).1)), (0, .ref (ad 6 0 0)), (1, .int x1), (2, .int x2)]) dX6_place_44 (by decide) rfl ?_
        refine V_iload_n dX6_place_45 3 rfl ?_
        refine V_if_ne (tgt := 53) dX6_place_46 (by decide) (fun c_46 => ?_) (fun c_46 => ?_)
        · refine V_aload_n dX6_place_53 1 rfl ?_
          refine V_get (i := 5) inlX6 rfl (W_6 hw) rfl (by decide) q_32 rfl dX6_place_54 ?_
          refine V_aload_n dX6_place_57 1 rfl ?_
          refine V_get (i := 2) inlX6 rfl (W_6 hw) rfl (by decide) q_23 rfl dX6_place_58 ?_
          refine V_iload_n dX6_place_61 2 rfl ?_
          refine V_iload_n dX6_place_62 0 rfl ?_
          refine V_cV (k_X3_leadFrom l G hw ((F_X3_bestCell g 0 x1).2) (W_20 hw) x1 ((F_X3_bestCell g 0 x1).1) ) hy_X3_leadFrom hi_X3_leadFrom hs_X3_leadFrom q_663 rfl rfl (W_3 hw) rfl rfl rfl rfl rfl ⟨by decide, by decide⟩ (Nat.le_of_ble_eq_true rfl) ⟨by decide, by decide⟩ dX6_place_63 (V_kM ?_)
          exact V_iret dX6_place_66 rfl (lfM (by simp only [F_X6_place, if_pos c_7, if_neg c_17, if_neg c_26, if_neg c_46]))
        · refine V_iload_n dX6_place_49 0 rfl ?_
          refine V_goto (tgt := 66) dX6_place_50 (by decide) ?_
          exact V_iret dX6_place_66 rfl (lfM (by simp only [F_X6_place, if_pos c_7, if_neg c_17, if_neg c_26, if_pos c_46]))
      · refine V_ldc q_108 dX6_place_29 ?_
        exact V_iret dX6_place_31 rfl (lfM (by simp only [F_X6_place, if_pos c_7, if_neg c_17, if_pos c_26]))
  · refine V_ldc q_357 dX6_place_10 ?_
    exact V_iret dX6_place_12 rfl (lfM (by simp only [F_X6_place, if_neg c_7]))
def F_X6_rests (g : mm_g) (x1 : Int32) : Int32 × mm_g := (if (F_X2_isNone g 0) = 0 then (if (F_X6_within x1 0 1) = 0 then ((-1000001), g) else (if x1 = 0 then ((F_X3_restingPairs (F_X3_weighPairs g 0)), (F_X3_weighPairs g 0)) else ((F_X3_firstResting (F_X3_weighPairs g 0)), (F_X3_weighPairs g 0)))) else ((-1000002), g))
set_option maxRecDepth 100000 in
set_option maxHeartbeats 4000000 in
theorem k_X6_rests (l : Launch) (G : mm_G) {pr : Nat → Nat → Prop} {ad : Nat → Nat → Nat → Nat} (hw : mm_W pr) (g : mm_g) (x1 : Int32)  : Mt l G yX6_rests cX6_rests 2 (some .int) (rmk 6 174) [.ref (ad 6 0 0), .int x1] pr ad g (qM pr ad (F_X6_rests g x1)) 0 0 := by
  refine Mt_of (by decide) (Nat.le_of_ble_eq_true rfl) ?_
  show V l G RX6 cX6_rests 2 (some .int) _ _ 0 0 0 0 0 [(0, .ref (ad 6 0 0)), (1, .int x1)] [] pr ad g
  refine V_aload_n dX6_rests_0 0 rfl ?_
  refine V_get (i := 2) inlX6 rfl (W_6 hw) rfl (by decide) q_23 rfl dX6_rests_1 ?_
  refine V_cV (k_X2_isNone l G hw g (W_20 hw)  ) hy_X2_isNone hi_X2_isNone hs_X2_isNone q_376 rfl rfl (W_20 hw) rfl rfl rfl rfl rfl ⟨by decide, by decide⟩ (Nat.le_of_ble_eq_true rfl) ⟨by decide, by decide⟩ dX6_rests_4 (V_kI ?_)
  refine V_if_eq (tgt := 13) dX6_rests_7 (by decide) (fun c_7 => ?_) (fun c_7 => ?_)
  · refine V_iload_n dX6_rests_13 1 rfl ?_
    refine V_iconst (v := 0) dX6_rests_14 (by decide) ?_
    refine V_iconst (v := 1) dX6_rests_15 (by decide) ?_
    refine V_cS (k_X6_within l G hw g  x1 0 1 ) hy_X6_within hz_X6_within q_109 rfl rfl rfl rfl ⟨by decide, by decide⟩ (Nat.le_of_ble_eq_true rfl) ⟨by decide, by decide⟩ dX6_rests_16 (V_kI ?_)
    refine V_if_ne (tgt := 25) dX6_rests_19 (by decide) (fun c_19 => ?_) (fun c_19 => ?_)
    · refine V_aload_n dX6_rests_25 0 rfl ?_
      refine V_get (i := 5) inlX6 rfl (W_6 hw) rfl (by decide) q_32 rfl dX6_rests_26 ?_
      refine V_aload_n dX6_rests_29 0 rfl ?_
      refine V_get (i := 2) inlX6 rfl (W_6 hw) rfl (by decide) q_23 rfl dX6_rests_30 ?_
      refine V_cV (k_X3_weighPairs l G hw g (W_20 hw)  ) hy_X3_weighPairs hi_X3_weighPairs hs_X3_weighPairs q_687 rfl rfl (W_3 hw) rfl rfl rfl rfl rfl ⟨by decide, by decide⟩ (Nat.le_of_ble_eq_true rfl) ⟨by decide, by decide⟩ dX6_rests_33 (V_kN ?_)
      refine V_iload_n dX6_rests_36 1 rfl ?_
      refine V_if_ne (tgt := 50) dX6_rests_37 (by decide) (fun c_37 => ?_) (fun c_37 => ?_)
      · refine V_aload_n dX6_rests_50 0 rfl ?_
        refine V_get (i := 5) inlX6 rfl (W_6 hw) rfl (by decide) q_32 rfl dX6_rests_51 ?_
        refine V_cV (k_X3_firstResting l G hw (F_X3_weighPairs g 0)   ) hy_X3_firstResting hi_X3_firstResting hs_X3_firstResting q_699 rfl rfl (W_3 hw) rfl rfl rfl rfl rfl ⟨by decide, by decide⟩ (Nat.le_of_ble_eq_true rfl) ⟨by decide, by decide⟩ dX6_rests_54 (V_kI ?_)
        exact V_iret dX6_rests_57 rfl (lfM (by simp only [F_X6_rests, if_pos c_7, if_neg c_19, if_neg c_37]))
      · refine V_aload_n dX6_rests_40 0 rfl ?_
        refine V_get (i := 5) inlX6 rfl (W_6 hw) rfl (by decide) q_32 rfl dX6_rests_41 ?_
        refine V_cV (k_X3_restingPairs l G hw (F_X3_weighPairs g 0)   ) hy_X3_restingPairs hi_X3_restingPairs hs_X3_restingPairs q_691 rfl rfl (W_3 hw) rfl rfl rfl rfl rfl ⟨by decide, by decide⟩ (Nat.le_of_ble_eq_true rfl) ⟨by decide, by decide⟩ dX6_rests_44 (V_kI ?_)
        refine V_goto (tgt := 57) dX6_rests_47 (by decide) ?_
        exact V_iret dX6_rests_57 rfl (lfM (by simp only [F_X6_rests, if_pos c_7, if_neg c_19, if_pos c_37]))
    · refine V_ldc q_108 dX6_rests_22 ?_
      exact V_iret dX6_rests_24 rfl (lfM (by simp only [F_X6_rests, if_pos c_7, if_pos c_19]))
  · refine V_ldc q_357 dX6_rests_10 ?_
    exact V_iret dX6_rests_12 rfl (lfM (by simp only [F_X6_rests, if_neg c_7]))
def F_X6_rakes (g : mm_g) (x1 : Int32) (x2 : Int32) : Int32 × mm_g := (if (F_X2_isNone g 0) = 0 then (if (F_X6_isOne x1) = 0 then ((-1000001), g) else (if (F_X6_within x2 0 1) = 0 then ((-1000001), g) else (if (F_X3_fewestRaked g 0 x1).1 = (-1000000) then ((F_X3_fewestRaked g 0 x1).1, (F_X3_fewestRaked g 0 x1).2) else (if x2 = 1 then ((F_X3_fewestRaked g 0 x1).1, (F_X3_fewestRaked g 0 x1).2) else ((F_J6_bitCount_0f7a4 ((F_X3_fewestRaked g 0 x1).1)), (F_X3_fewestRaked g 0 x1).2))))) else ((-1000002), g))
set_option maxRecDepth 100000 in
set_option maxHeartbeats 4000000 in
theorem k_X6_rakes (l : Launch) (G : mm_G) {pr : Nat → Nat → Prop} {ad : Nat → Nat → Nat → Nat} (hw : mm_W pr) (g : mm_g) (x1 : Int32) (x2 : Int32)  : Mt l G yX6_rakes cX6_rakes 4 (some .int) (rmk 6 177) [.ref (ad 6 0 0), .int x1, .int x2] pr ad g (qM pr ad (F_X6_rakes g x1 x2)) 0 0 := by
  refine Mt_of (by decide) (Nat.le_of_ble_eq_true rfl) ?_
  show V l G RX6 cX6_rakes 4 (some .int) _ _ 0 0 0 0 0 [(0, .ref (ad 6 0 0)), (1, .int x1), (2, .int x2)] [] pr ad g
  refine V_aload_n dX6_rakes_0 0 rfl ?_
  refine V_get (i := 2) inlX6 rfl (W_6 hw) rfl (by decide) q_23 rfl dX6_rakes_1 ?_
  refine V_cV (k_X2_isNone l G hw g (W_20 hw)  ) hy_X2_isNone hi_X2_isNone hs_X2_isNone q_376 rfl rfl (W_20 hw) rfl rfl rfl rfl rfl ⟨by decide, by decide⟩ (Nat.le_of_ble_eq_true rfl) ⟨by decide, by decide⟩ dX6_rakes_4 (V_kI ?_)
  refine V_if_eq (tgt := 13) dX6_rakes_7 (by decide) (fun c_7 => ?_) (fun c_7 => ?_)
  · refine V_iload_n dX6_rakes_13 1 rfl ?_
    refine V_cS (k_X6_isOne l G hw g  x1 ) hy_X6_isOne hz_X6_isOne q_528 rfl rfl rfl rfl ⟨by decide, by decide⟩ (Nat.le_of_ble_eq_true rfl) ⟨by decide, by decide⟩ dX6_rakes_14 (V_kI ?_)
    refine V_if_eq (tgt := 29) dX6_rakes_17 (by decide) (fun c_17 => ?_) (fun c_17 => ?_)
    · refine V_ldc q_108 dX6_rakes_29 ?_
      exact V_iret dX6_rakes_31 rfl (lfM (by simp only [F_X6_rakes, if_pos c_7, if_pos c_17]))
    · refine V_iload_n dX6_rakes_20 2 rfl ?_
      refine V_iconst (v := 0) dX6_rakes_21 (by decide) ?_
      refine V_iconst (v := 1) dX6_rakes_22 (by decide) ?_
      refine V_cS (k_X6_within l G hw g  x2 0 1 ) hy_X6_within hz_X6_within q_109 rfl rfl rfl rfl ⟨by decide, by decide⟩ (Nat.le_of_ble_eq_true rfl) ⟨by decide, by decide⟩ dX6_rakes_23 (V_kI ?_)
      refine V_if_ne (tgt := 32) dX6_rakes_26 (by decide) (fun c_26 => ?_) (fun c_26 => ?_)
      · refine V_aload_n dX6_rakes_32 0 rfl ?_
        refine V_get (i := 5) inlX6 rfl (W_6 hw) rfl (by decide) q_32 rfl dX6_rakes_33 ?_
        refine V_aload_n dX6_rakes_36 0 rfl ?_
        refine V_get (i := 2) inlX6 rfl (W_6 hw) rfl (by decide) q_23 rfl dX6_rakes_37 ?_
        refine V_iload_n dX6_rakes_40 1 rfl ?_
        refine V_cV (k_X3_fewestRaked l G hw g (W_20 hw) x1 ) hy_X3_fewestRaked hi_X3_fewestRaked hs_X3_fewestRaked q_712 rfl rfl (W_3 hw) rfl rfl rfl rfl rfl ⟨by decide, by decide⟩ (Nat.le_of_ble_eq_true rfl) ⟨by decide, by decide⟩ dX6_rakes_41 (V_kM ?_)
        refine V_istore_n (L2 := [(3, .int ((F_X3_fewestRaked g 0 x1).1)), (0, .ref (ad 6 0 0)), (1, .int x1), (2, .int x2)]) dX6_rakes_44 (by decide) rfl ?_
        refine V_iload_n dX6_rakes_45 0 rfl ?_
        refine V_ldc q_711 dX6_rakes_46 ?_
        refine V_ic_eq (tgt := 56) dX6_rakes_48 (by decide) (fun c_48 => ?_) (fun c_48 => ?_)
        · refine V_iload_n dX6_rakes_56 0 rfl ?_
          refine V_goto (tgt := 64) dX6_rakes_57 (by decide) ?_
          exact V_iret dX6_rakes_64 rfl (lfM (by simp only [F_X6_rakes, if_pos c_7, if_neg c_17, if_neg c_26, if_pos c_48]))
        · refine V_iload_n dX6_rakes_51 3 rfl ?_
          refine V_iconst (v := 1) dX6_rakes_52 (by decide) ?_
          refine V_ic_ne (tgt := 60) dX6_rakes_53 (by decide) (fun c_53 => ?_) (fun c_53 => ?_)
          · refine V_iload_n dX6_rakes_60 0 rfl ?_
            refine V_cS (k_J6_bitCount_0f7a4 l G hw ((F_X3_fewestRaked g 0 x1).2)  ((F_X3_fewestRaked g 0 x1).1) ) hy_J6_bitCount_0f7a4 hz_J6_bitCount_0f7a4 q_735 rfl rfl rfl rfl ⟨by decide, by decide⟩ (Nat.le_of_ble_eq_true rfl) ⟨by decide, by decide⟩ dX6_rakes_61 (V_kI ?_)
            exact V_iret dX6_rakes_64 rfl (lfM (by simp only [F_X6_rakes, if_pos c_7, if_neg c_17, if_neg c_26, if_neg c_48, if_neg c_53]))
          · refine V_iload_n dX6_rakes_56 0 rfl ?_
            refine V_goto (tgt := 64) dX6_rakes_57 (by decide) ?_
            exact V_iret dX6_rakes_64 rfl (lfM (by simp only [F_X6_rakes, if_pos c_7, if_neg c_17, if_neg c_26, if_neg c_48, if_pos c_53]))
      · refine V_ldc q_108 dX6_rakes_29 ?_
        exact V_iret dX6_rakes_31 rfl (lfM (by simp only [F_X6_rakes, if_pos c_7, if_neg c_17, if_pos c_26]))
  · refine V_ldc q_357 dX6_rakes_10 ?_
    exact V_iret dX6_rakes_12 rfl (lfM (by simp only [F_X6_rakes, if_neg c_7]))
def F_X6_wards (g : mm_g) (x1 : Int32) (x2 : Int32) (x3 : Int32) : Int32 × mm_g := (if (F_X2_isNone g 0) = 0 then (if (F_X6_isOne x1) = 0 then ((-1000001), g) else (if (F_X6_within x2 1 3) = 0 then ((-1000001), g) else (if (F_X6_within x3 0 1) = 0 then ((-1000001), g) else (if (F_X3_bestCut g 0 x1 x2).1 = (-1000000) then ((F_X3_bestCut g 0 x1 x2).1, (F_X3_bestCut g 0 x1 x2).2) else (if x3 = 1 then ((F_X3_bestCut g 0 x1 x2).1, (F_X3_bestCut g 0 x1 x2).2) else ((F_X3_wardsLed ((F_X3_bestCut g 0 x1 x2).2) ((F_X3_bestCut g 0 x1 x2).1) (((F_X3_bestCut g 0 x1 x2).2) 2 0 0)), (F_X3_bestCut g 0 x1 x2).2)))))) else ((-1000002), g))
set_option maxRecDepth 100000 in
set_option maxHeartbeats 4000000 in
theorem k_X6_wards (l : Launch) (G : mm_G) {pr : Nat → Nat → Prop} {ad : Nat → Nat → Nat → Nat} (hw : mm_W pr) (g : mm_g) (x1 : Int32) (x2 : Int32) (x3 : Int32)  : Mt l G yX6_wards cX6_wards 5 (some .int) (rmk 6 178) [.ref (ad 6 0 0), .int x1, .int x2, .int x3] pr ad g (qM pr ad (F_X6_wards g x1 x2 x3)) 0 0 := by
  refine Mt_of (by decide) (Nat.le_of_ble_eq_true rfl) ?_
  show V l G RX6 cX6_wards 5 (some .int) _ _ 0 0 0 0 0 [(0, .ref (ad 6 0 0)), (1, .int x1), (2, .int x2), (3, .int x3)] [] pr ad g
  refine V_aload_n dX6_wards_0 0 rfl ?_
  refine V_get (i := 2) inlX6 rfl (W_6 hw) rfl (by decide) q_23 rfl dX6_wards_1 ?_
  refine V_cV (k_X2_isNone l G hw g (W_20 hw)  ) hy_X2_isNone hi_X2_isNone hs_X2_isNone q_376 rfl rfl (W_20 hw) rfl rfl rfl rfl rfl ⟨by decide, by decide⟩ (Nat.le_of_ble_eq_true rfl) ⟨by decide, by decide⟩ dX6_wards_4 (V_kI ?_)
  refine V_if_eq (tgt := 13) dX6_wards_7 (by decide) (fun c_7 => ?_) (fun c_7 => ?_)
  · refine V_iload_n dX6_wards_13 1 rfl ?_
    refine V_cS (k_X6_isOne l G hw g  x1 ) hy_X6_isOne hz_X6_isOne q_528 rfl rfl rfl rfl ⟨by decide, by decide⟩ (Nat.le_of_ble_eq_true rfl) ⟨by decide, by decide⟩ dX6_wards_14 (V_kI ?_)
    refine V_if_eq (tgt := 38) dX6_wards_17 (by decide) (fun c_17 => ?_) (fun c_17 => ?_)
    · refine V_ldc q_108 dX6_wards_38 ?_
      exact V_iret dX6_wards_40 rfl (lfM (by simp only [F_X6_wards, if_pos c_7, if_pos c_17]))
    · refine V_iload_n dX6_wards_20 2 rfl ?_
      refine V_iconst (v := 1) dX6_wards_21 (by decide) ?_
      refine V_iconst (v := 3) dX6_wards_22 (by decide) ?_
      refine V_cS (k_X6_within l G hw g  x2 1 3 ) hy_X6_within hz_X6_within q_109 rfl rfl rfl rfl ⟨by decide, by decide⟩ (Nat.le_of_ble_eq_true rfl) ⟨by decide, by decide⟩ dX6_wards_23 (V_kI ?_)
      refine V_if_eq (tgt := 38) dX6_wards_26 (by decide) (fun c_26 => ?_) (fun c_26 => ?_)
      · refine V_ldc q_108 dX6_wards_38 ?_
        exact V_iret dX6_wards_40 rfl (lfM (by simp only [F_X6_wards, if_pos c_7, if_neg c_17, if_pos c_26]))
      · refine V_iload_n dX6_wards_29 3 rfl ?_
        refine V_iconst (v := 0) dX6_wards_30 (by decide) ?_
        refine V_iconst (v := 1) dX6_wards_31 (by decide) ?_
        refine V_cS (k_X6_within l G hw g  x3 0 1 ) hy_X6_within hz_X6_within q_109 rfl rfl rfl rfl ⟨by decide, by decide⟩ (Nat.le_of_ble_eq_true rfl) ⟨by decide, by decide⟩ dX6_wards_32 (V_kI ?_)
        refine V_if_ne (tgt := 41) dX6_wards_35 (by decide) (fun c_35 => ?_) (fun c_35 => ?_)
        · refine V_aload_n dX6_wards_41 0 rfl ?_
          refine V_get (i := 5) inlX6 rfl (W_6 hw) rfl (by decide) q_32 rfl dX6_wards_42 ?_
          refine V_aload_n dX6_wards_45 0 rfl ?_
          refine V_get (i := 2) inlX6 rfl (W_6 hw) rfl (by decide) q_23 rfl dX6_wards_46 ?_
          refine V_iload_n dX6_wards_49 1 rfl ?_
          refine V_iload_n dX6_wards_50 2 rfl ?_
          refine V_cV (k_X3_bestCut l G hw g (W_20 hw) x1 x2 ) hy_X3_bestCut hi_X3_bestCut hs_X3_bestCut q_747 rfl rfl (W_3 hw) rfl rfl rfl rfl rfl ⟨by decide, by decide⟩ (Nat.le_of_ble_eq_true rfl) ⟨by decide, by decide⟩ dX6_wards_51 (V_kM ?_)
          refine V_istore (L2 := [(4, .int ((F_X3_bestCut g 0 x1 x2).1)), (0, .ref (ad 6 0 0)), (1, .int x1), (2, .int x2), (3, .int x3)]) dX6_wards_54 (by decide) rfl ?_
          refine V_iload dX6_wards_56 0 rfl ?_
          refine V_ldc q_711 dX6_wards_58 ?_
          refine V_ic_eq (tgt := 68) dX6_wards_60 (by decide) (fun c_60 => ?_) (fun c_60 => ?_)
          · refine V_iload dX6_wards_68 0 rfl ?_
            refine V_goto (tgt := 89) dX6_wards_70 (by decide) ?_
            exact V_iret dX6_wards_89 rfl (lfM (by simp only [F_X6_wards, if_pos c_7, if_neg c_17, if_neg c_26, if_neg c_35, if_pos c_60]))
          · refine V_iload_n dX6_wards_63 4 rfl ?_
            refine V_iconst (v := 1) dX6_wards_64 (by decide) ?_
            refine V_ic_ne (tgt := 73) dX6_wards_65 (by decide) (fun c_65 => ?_) (fun c_65 => ?_)
            · refine V_aload_n dX6_wards_73 1 rfl ?_
              refine V_get (i := 5) inlX6 rfl (W_6 hw) rfl (by decide) q_32 rfl dX6_wards_74 ?_
              refine V_iload dX6_wards_77 0 rfl ?_
              refine V_aload_n dX6_wards_79 1 rfl ?_
              refine V_get (i := 2) inlX6 rfl (W_6 hw) rfl (by decide) q_23 rfl dX6_wards_80 ?_
              refine V_getN (i := 0) inlX2 rfl (W_20 hw) rfl (by decide) nf_X6_129 rfl dX6_wards_83 ?_
              refine V_cV (k_X3_wardsLed l G hw ((F_X3_bestCut g 0 x1 x2).2)  ((F_X3_bestCut g 0 x1 x2).1) (((F_X3_bestCut g 0 x1 x2).2) 2 0 0) ) hy_X3_wardsLed hi_X3_wardsLed hs_X3_wardsLed q_762 rfl rfl (W_3 hw) rfl rfl rfl rfl rfl ⟨by decide, by decide⟩ (Nat.le_of_ble_eq_true rfl) ⟨by decide, by decide⟩ dX6_wards_86 (V_kI ?_)
              exact V_iret dX6_wards_89 rfl (lfM (by simp only [F_X6_wards, if_pos c_7, if_neg c_17, if_neg c_26, if_neg c_35, if_neg c_60, if_neg c_65]))
            · refine V_iload dX6_wards_68 0 rfl ?_
              refine V_goto (tgt := 89) dX6_wards_70 (by decide) ?_
              exact V_iret dX6_wards_89 rfl (lfM (by simp only [F_X6_wards, if_pos c_7, if_neg c_17, if_neg c_26, if_neg c_35, if_neg c_60, if_pos c_65]))
        · refine V_ldc q_108 dX6_wards_38 ?_
          exact V_iret dX6_wards_40 rfl (lfM (by simp only [F_X6_wards, if_pos c_7, if_neg c_17, if_neg c_26, if_pos c_35]))
  · refine V_ldc q_357 dX6_wards_10 ?_
    exact V_iret dX6_wards_12 rfl (lfM (by simp only [F_X6_wards, if_neg c_7]))
def F_X6_decide (g : mm_g) : Int32 := (if (F_X2_isNone g 0) = 0 then (F_X2_deciding g 0) else (-1000002))
set_option maxRecDepth 100000 in
set_option maxHeartbeats 4000000 in
theorem k_X6_decide (l : Launch) (G : mm_G) {pr : Nat → Nat → Prop} {ad : Nat → Nat → Nat → Nat} (hw : mm_W pr) (g : mm_g)  : Mt l G yX6_decide cX6_decide 1 (some .int) (rmk 6 176) [.ref (ad 6 0 0)] pr ad g (qI pr ad g (F_X6_decide g)) 0 0 := by
  refine Mt_of (by decide) (Nat.le_of_ble_eq_true rfl) ?_
  show V l G RX6 cX6_decide 1 (some .int) _ _ 0 0 0 0 0 [(0, .ref (ad 6 0 0))] [] pr ad g
  refine V_aload_n dX6_decide_0 0 rfl ?_
  refine V_get (i := 2) inlX6 rfl (W_6 hw) rfl (by decide) q_23 rfl dX6_decide_1 ?_
  refine V_cV (k_X2_isNone l G hw g (W_20 hw)  ) hy_X2_isNone hi_X2_isNone hs_X2_isNone q_376 rfl rfl (W_20 hw) rfl rfl rfl rfl rfl ⟨by decide, by decide⟩ (Nat.le_of_ble_eq_true rfl) ⟨by decide, by decide⟩ dX6_decide_4 (V_kI ?_)
  refine V_if_eq (tgt := 13) dX6_decide_7 (by decide) (fun c_7 => ?_) (fun c_7 => ?_)
  · refine V_aload_n dX6_decide_13 0 rfl ?_
    refine V_get (i := 2) inlX6 rfl (W_6 hw) rfl (by decide) q_23 rfl dX6_decide_14 ?_
    refine V_cV (k_X2_deciding l G hw g (W_20 hw)  ) hy_X2_deciding hi_X2_deciding hs_X2_deciding q_775 rfl rfl (W_20 hw) rfl rfl rfl rfl rfl ⟨by decide, by decide⟩ (Nat.le_of_ble_eq_true rfl) ⟨by decide, by decide⟩ dX6_decide_17 (V_kI ?_)
    exact V_iret dX6_decide_20 rfl (lfI (by simp only [F_X6_decide, if_pos c_7]))
  · refine V_ldc q_357 dX6_decide_10 ?_
    exact V_iret dX6_decide_12 rfl (lfI (by simp only [F_X6_decide, if_neg c_7]))
def F_X6_grown (g : mm_g) (x1 : Int32) (x2 : Int32) (x3 : Int32) (x4 : Int32) (x5 : Int32) : Int32 × mm_g := (if (F_X2_has g 0 x1) = 0 then ((-1000001), g) else (if (F_X6_within x2 0 2) = 0 then ((-1000001), g) else (if (F_X6_within x3 0 7) = 0 then ((-1000001), g) else (if (F_X6_within x5 1 12) = 0 then ((-1000001), g) else (if (F_X4_isMissing g x3) = 0 then (if (F_X4_holds g x3 x4 x5) = 0 then ((F_X6_found g 2).1, (F_X6_found g 2).2) else ((F_X6_unfound ((F_X3_grownBy (F_X3_hear g x3 x4 x5) 0 x1 x2 x5).2) ((F_X3_grownBy (F_X3_hear g x3 x4 x5) 0 x1 x2 x5).1)).1, (F_X6_unfound ((F_X3_grownBy (F_X3_hear g x3 x4 x5) 0 x1 x2 x5).2) ((F_X3_grownBy (F_X3_hear g x3 x4 x5) 0 x1 x2 x5).1)).2)) else ((F_X6_found g 1).1, (F_X6_found g 1).2))))))
set_option maxRecDepth 100000 in
set_option maxHeartbeats 4000000 in
theorem k_X6_grown (l : Launch) (G : mm_G) {pr : Nat → Nat → Prop} {ad : Nat → Nat → Nat → Nat} (hw : mm_W pr) (g : mm_g) (x1 : Int32) (x2 : Int32) (x3 : Int32) (x4 : Int32) (x5 : Int32) (hR : okR g)  : Mt l G yX6_grown cX6_grown 6 (some .int) (rmk 7 198) [.ref (ad 6 0 0), .int x1, .int x2, .int x3, .int x4, .int x5] pr ad g (qM pr ad (F_X6_grown g x1 x2 x3 x4 x5)) 0 0 := by
  refine Mt_of (by decide) (Nat.le_of_ble_eq_true rfl) ?_
  show V l G RX6 cX6_grown 6 (some .int) _ _ 0 0 0 0 0 [(0, .ref (ad 6 0 0)), (1, .int x1), (2, .int x2), (3, .int x3), (4, .int x4), (5, .int x5)] [] pr ad g
  refine V_aload_n dX6_grown_0 0 rfl ?_
  refine V_get (i := 2) inlX6 rfl (W_6 hw) rfl (by decide) q_23 rfl dX6_grown_1 ?_
  refine V_iload_n dX6_grown_4 1 rfl ?_
  refine V_cV (k_X2_has l G hw g (W_20 hw) x1 ) hy_X2_has hi_X2_has hs_X2_has q_462 rfl rfl (W_20 hw) rfl rfl rfl rfl rfl ⟨by decide, by decide⟩ (Nat.le_of_ble_eq_true rfl) ⟨by decide, by decide⟩ dX6_grown_5 (V_kI ?_)
  refine V_if_eq (tgt := 41) dX6_grown_8 (by decide) (fun c_8 => ?_) (fun c_8 => ?_)
  · refine V_ldc q_108 dX6_grown_41 ?_
    exact V_iret dX6_grown_43 rfl (lfM (by simp only [F_X6_grown, if_pos c_8]))
  · refine V_iload_n dX6_grown_11 2 rfl ?_
    refine V_iconst (v := 0) dX6_grown_12 (by decide) ?_
    refine V_iconst (v := 2) dX6_grown_13 (by decide) ?_
    refine V_cS (k_X6_within l G hw g  x2 0 2 ) hy_X6_within hz_X6_within q_109 rfl rfl rfl rfl ⟨by decide, by decide⟩ (Nat.le_of_ble_eq_true rfl) ⟨by decide, by decide⟩ dX6_grown_14 (V_kI ?_)
    refine V_if_eq (tgt := 41) dX6_grown_17 (by decide) (fun c_17 => ?_) (fun c_17 => ?_)
    · refine V_ldc q_108 dX6_grown_41 ?_
      exact V_iret dX6_grown_43 rfl (lfM (by simp only [F_X6_grown, if_neg c_8, if_pos c_17]))
    · refine V_iload_n dX6_grown_20 3 rfl ?_
      refine V_iconst (v := 0) dX6_grown_21 (by decide) ?_
      refine V_bipush (v := 7) dX6_grown_22 (by decide) ?_
      refine V_cS (k_X6_within l G hw g  x3 0 7 ) hy_X6_within hz_X6_within q_109 rfl rfl rfl rfl ⟨by decide, by decide⟩ (Nat.le_of_ble_eq_true rfl) ⟨by decide, by decide⟩ dX6_grown_24 (V_kI ?_)
      refine V_if_eq (tgt := 41) dX6_grown_27 (by decide) (fun c_27 => ?_) (fun c_27 => ?_)
      · refine V_ldc q_108 dX6_grown_41 ?_
        exact V_iret dX6_grown_43 rfl (lfM (by simp only [F_X6_grown, if_neg c_8, if_neg c_17, if_pos c_27]))
      · refine V_iload dX6_grown_30 5 rfl ?_
        refine V_iconst (v := 1) dX6_grown_32 (by decide) ?_
        refine V_bipush (v := 12) dX6_grown_33 (by decide) ?_
        refine V_cS (k_X6_within l G hw g  x5 1 12 ) hy_X6_within hz_X6_within q_109 rfl rfl rfl rfl ⟨by decide, by decide⟩ (Nat.le_of_ble_eq_true rfl) ⟨by decide, by decide⟩ dX6_grown_35 (V_kI ?_)
        refine V_if_ne (tgt := 44) dX6_grown_38 (by decide) (fun c_38 => ?_) (fun c_38 => ?_)
        · refine V_aload_n dX6_grown_44 0 rfl ?_
          refine V_get (i := 0) inlX6 rfl (W_6 hw) rfl (by decide) q_15 rfl dX6_grown_45 ?_
          refine V_iload_n dX6_grown_48 3 rfl ?_
          refine V_cV (k_X4_isMissing l G hw g  x3 ) hy_X4_isMissing hi_X4_isMissing hs_X4_isMissing q_152 rfl rfl (W_4 hw) rfl rfl rfl rfl rfl ⟨by decide, by decide⟩ (Nat.le_of_ble_eq_true rfl) ⟨by decide, by decide⟩ dX6_grown_49 (V_kI ?_)
          refine V_if_eq (tgt := 61) dX6_grown_52 (by decide) (fun c_52 => ?_) (fun c_52 => ?_)
          · refine V_aload_n dX6_grown_61 0 rfl ?_
            refine V_get (i := 0) inlX6 rfl (W_6 hw) rfl (by decide) q_15 rfl dX6_grown_62 ?_
            refine V_iload_n dX6_grown_65 3 rfl ?_
            refine V_iload dX6_grown_66 4 rfl ?_
            refine V_iload dX6_grown_68 5 rfl ?_
            refine V_cV (k_X4_holds l G hw g  x3 x4 x5 ) hy_X4_holds hi_X4_holds hs_X4_holds q_156 rfl rfl (W_4 hw) rfl rfl rfl rfl rfl ⟨by decide, by decide⟩ (Nat.le_of_ble_eq_true rfl) ⟨by decide, by decide⟩ dX6_grown_70 (V_kI ?_)
            refine V_if_ne (tgt := 82) dX6_grown_73 (by decide) (fun c_73 => ?_) (fun c_73 => ?_)
            · refine V_aload_n dX6_grown_82 0 rfl ?_
              refine V_get (i := 5) inlX6 rfl (W_6 hw) rfl (by decide) q_32 rfl dX6_grown_83 ?_
              refine V_aload_n dX6_grown_86 0 rfl ?_
              refine V_get (i := 0) inlX6 rfl (W_6 hw) rfl (by decide) q_15 rfl dX6_grown_87 ?_
              refine V_iload_n dX6_grown_90 3 rfl ?_
              refine V_iload dX6_grown_91 4 rfl ?_
              refine V_iload dX6_grown_93 5 rfl ?_
              refine V_cV (k_X3_hear l G hw g  x3 x4 x5 hR) hy_X3_hear hi_X3_hear hs_X3_hear q_794 rfl rfl (W_3 hw) rfl rfl rfl rfl rfl ⟨by decide, by decide⟩ (Nat.le_of_ble_eq_true rfl) ⟨by decide, by decide⟩ dX6_grown_95 (V_kN ?_)
              refine V_aload_n dX6_grown_98 0 rfl ?_
              refine V_aload_n dX6_grown_99 0 rfl ?_
              refine V_get (i := 5) inlX6 rfl (W_6 hw) rfl (by decide) q_32 rfl dX6_grown_100 ?_
              refine V_aload_n dX6_grown_103 0 rfl ?_
              refine V_get (i := 2) inlX6 rfl (W_6 hw) rfl (by decide) q_23 rfl dX6_grown_104 ?_
              refine V_iload_n dX6_grown_107 1 rfl ?_
              refine V_iload_n dX6_grown_108 2 rfl ?_
              refine V_iload dX6_grown_109 5 rfl ?_
              refine V_cV (k_X3_grownBy l G hw (F_X3_hear g x3 x4 x5) (W_20 hw) x1 x2 x5 ) hy_X3_grownBy hi_X3_grownBy hs_X3_grownBy q_802 rfl rfl (W_3 hw) rfl rfl rfl rfl rfl ⟨by decide, by decide⟩ (Nat.le_of_ble_eq_true rfl) ⟨by decide, by decide⟩ dX6_grown_111 (V_kM ?_)
              refine V_cV (k_X6_unfound l G hw ((F_X3_grownBy (F_X3_hear g x3 x4 x5) 0 x1 x2 x5).2)  ((F_X3_grownBy (F_X3_hear g x3 x4 x5) 0 x1 x2 x5).1) ) hy_X6_unfound hi_X6_unfound hs_X6_unfound q_121 rfl rfl (W_6 hw) rfl rfl rfl rfl rfl ⟨by decide, by decide⟩ (Nat.le_of_ble_eq_true rfl) ⟨by decide, by decide⟩ dX6_grown_114 (V_kM ?_)
              exact V_iret dX6_grown_117 rfl (lfM (by simp only [F_X6_grown, if_neg c_8, if_neg c_17, if_neg c_27, if_neg c_38, if_pos c_52, if_neg c_73]))
            · refine V_aload_n dX6_grown_76 0 rfl ?_
              refine V_iconst (v := 2) dX6_grown_77 (by decide) ?_
              refine V_cV (k_X6_found l G hw g  2 ) hy_X6_found hi_X6_found hs_X6_found q_112 rfl rfl (W_6 hw) rfl rfl rfl rfl rfl ⟨by decide, by decide⟩ (Nat.le_of_ble_eq_true rfl) ⟨by decide, by decide⟩ dX6_grown_78 (V_kM ?_)
              exact V_iret dX6_grown_81 rfl (lfM (by simp only [F_X6_grown, if_neg c_8, if_neg c_17, if_neg c_27, if_neg c_38, if_pos c_52, if_pos c_73]))
          · refine V_aload_n dX6_grown_55 0 rfl ?_
            refine V_iconst (v := 1) dX6_grown_56 (by decide) ?_
            refine V_cV (k_X6_found l G hw g  1 ) hy_X6_found hi_X6_found hs_X6_found q_112 rfl rfl (W_6 hw) rfl rfl rfl rfl rfl ⟨by decide, by decide⟩ (Nat.le_of_ble_eq_true rfl) ⟨by decide, by decide⟩ dX6_grown_57 (V_kM ?_)
            exact V_iret dX6_grown_60 rfl (lfM (by simp only [F_X6_grown, if_neg c_8, if_neg c_17, if_neg c_27, if_neg c_38, if_neg c_52]))
        · refine V_ldc q_108 dX6_grown_41 ?_
          exact V_iret dX6_grown_43 rfl (lfM (by simp only [F_X6_grown, if_neg c_8, if_neg c_17, if_neg c_27, if_pos c_38]))
def F_X6_lain (g : mm_g) (x1 : Int32) (x2 : Int32) (x3 : Int32) : Int32 × mm_g := (if (F_X2_isNone g 0) = 0 then (if (F_X6_isOne x1) = 0 then ((-1000001), g) else (if (F_X6_within x2 0 7) = 0 then ((-1000001), g) else (if (F_X4_isMissing g x2) = 0 then (if (F_X4_holds g x2 x3 (g 2 0 0)) = 0 then ((F_X6_found g 2).1, (F_X6_found g 2).2) else ((F_X6_unfound ((F_X3_lainBy (F_X3_hear g x2 x3 (g 2 0 0)) 0 x1).2) ((F_X3_lainBy (F_X3_hear g x2 x3 (g 2 0 0)) 0 x1).1)).1, (F_X6_unfound ((F_X3_lainBy (F_X3_hear g x2 x3 (g 2 0 0)) 0 x1).2) ((F_X3_lainBy (F_X3_hear g x2 x3 (g 2 0 0)) 0 x1).1)).2)) else ((F_X6_found g 1).1, (F_X6_found g 1).2)))) else ((-1000002), g))
set_option maxRecDepth 100000 in
set_option maxHeartbeats 4000000 in
theorem k_X6_lain (l : Launch) (G : mm_G) {pr : Nat → Nat → Prop} {ad : Nat → Nat → Nat → Nat} (hw : mm_W pr) (g : mm_g) (x1 : Int32) (x2 : Int32) (x3 : Int32) (hR : okR g)  : Mt l G yX6_lain cX6_lain 4 (some .int) (rmk 6 173) [.ref (ad 6 0 0), .int x1, .int x2, .int x3] pr ad g (qM pr ad (F_X6_lain g x1 x2 x3)) 0 0 := by
  refine Mt_of (by decide) (Nat.le_of_ble_eq_true rfl) ?_
  show V l G RX6 cX6_lain 4 (some .int) _ _ 0 0 0 0 0 [(0, .ref (ad 6 0 0)), (1, .int x1), (2, .int x2), (3, .int x3)] [] pr ad g
  refine V_aload_n dX6_lain_0 0 rfl ?_
  refine V_get (i := 2) inlX6 rfl (W_6 hw) rfl (by decide) q_23 rfl dX6_lain_1 ?_
  refine V_cV (k_X2_isNone l G hw g (W_20 hw)  ) hy_X2_isNone hi_X2_isNone hs_X2_isNone q_376 rfl rfl (W_20 hw) rfl rfl rfl rfl rfl ⟨by decide, by decide⟩ (Nat.le_of_ble_eq_true rfl) ⟨by decide, by decide⟩ dX6_lain_4 (V_kI ?_)
  refine V_if_eq (tgt := 13) dX6_lain_7 (by decide) (fun c_7 => ?_) (fun c_7 => ?_)
  · refine V_iload_n dX6_lain_13 1 rfl ?_
    refine V_cS (k_X6_isOne l G hw g  x1 ) hy_X6_isOne hz_X6_isOne q_528 rfl rfl rfl rfl ⟨by decide, by decide⟩ (Nat.le_of_ble_eq_true rfl) ⟨by decide, by decide⟩ dX6_lain_14 (V_kI ?_)
    refine V_if_eq (tgt := 30) dX6_lain_17 (by decide) (fun c_17 => ?_) (fun c_17 => ?_)
    · refine V_ldc q_108 dX6_lain_30 ?_
      exact V_iret dX6_lain_32 rfl (lfM (by simp only [F_X6_lain, if_pos c_7, if_pos c_17]))
    · refine V_iload_n dX6_lain_20 2 rfl ?_
      refine V_iconst (v := 0) dX6_lain_21 (by decide) ?_
      refine V_bipush (v := 7) dX6_lain_22 (by decide) ?_
      refine V_cS (k_X6_within l G hw g  x2 0 7 ) hy_X6_within hz_X6_within q_109 rfl rfl rfl rfl ⟨by decide, by decide⟩ (Nat.le_of_ble_eq_true rfl) ⟨by decide, by decide⟩ dX6_lain_24 (V_kI ?_)
      refine V_if_ne (tgt := 33) dX6_lain_27 (by decide) (fun c_27 => ?_) (fun c_27 => ?_)
      · refine V_aload_n dX6_lain_33 0 rfl ?_
        refine V_get (i := 0) inlX6 rfl (W_6 hw) rfl (by decide) q_15 rfl dX6_lain_34 ?_
        refine V_iload_n dX6_lain_37 2 rfl ?_
        refine V_cV (k_X4_isMissing l G hw g  x2 ) hy_X4_isMissing hi_X4_isMissing hs_X4_isMissing q_152 rfl rfl (W_4 hw) rfl rfl rfl rfl rfl ⟨by decide, by decide⟩ (Nat.le_of_ble_eq_true rfl) ⟨by decide, by decide⟩ dX6_lain_38 (V_kI ?_)
        refine V_if_eq (tgt := 50) dX6_lain_41 (by decide) (fun c_41 => ?_) (fun c_41 => ?_)
        · refine V_aload_n dX6_lain_50 0 rfl ?_
          refine V_get (i := 0) inlX6 rfl (W_6 hw) rfl (by decide) q_15 rfl dX6_lain_51 ?_
          refine V_iload_n dX6_lain_54 2 rfl ?_
          refine V_iload_n dX6_lain_55 3 rfl ?_
          refine V_aload_n dX6_lain_56 0 rfl ?_
          refine V_get (i := 2) inlX6 rfl (W_6 hw) rfl (by decide) q_23 rfl dX6_lain_57 ?_
          refine V_getN (i := 0) inlX2 rfl (W_20 hw) rfl (by decide) nf_X6_129 rfl dX6_lain_60 ?_
          refine V_cV (k_X4_holds l G hw g  x2 x3 (g 2 0 0) ) hy_X4_holds hi_X4_holds hs_X4_holds q_156 rfl rfl (W_4 hw) rfl rfl rfl rfl rfl ⟨by decide, by decide⟩ (Nat.le_of_ble_eq_true rfl) ⟨by decide, by decide⟩ dX6_lain_63 (V_kI ?_)
          refine V_if_ne (tgt := 75) dX6_lain_66 (by decide) (fun c_66 => ?_) (fun c_66 => ?_)
          · refine V_aload_n dX6_lain_75 0 rfl ?_
            refine V_get (i := 5) inlX6 rfl (W_6 hw) rfl (by decide) q_32 rfl dX6_lain_76 ?_
            refine V_aload_n dX6_lain_79 0 rfl ?_
            refine V_get (i := 0) inlX6 rfl (W_6 hw) rfl (by decide) q_15 rfl dX6_lain_80 ?_
            refine V_iload_n dX6_lain_83 2 rfl ?_
            refine V_iload_n dX6_lain_84 3 rfl ?_
            refine V_aload_n dX6_lain_85 0 rfl ?_
            refine V_get (i := 2) inlX6 rfl (W_6 hw) rfl (by decide) q_23 rfl dX6_lain_86 ?_
            refine V_getN (i := 0) inlX2 rfl (W_20 hw) rfl (by decide) nf_X6_129 rfl dX6_lain_89 ?_
            refine V_cV (k_X3_hear l G hw g  x2 x3 (g 2 0 0) hR) hy_X3_hear hi_X3_hear hs_X3_hear q_794 rfl rfl (W_3 hw) rfl rfl rfl rfl rfl ⟨by decide, by decide⟩ (Nat.le_of_ble_eq_true rfl) ⟨by decide, by decide⟩ dX6_lain_92 (V_kN ?_)
            refine V_aload_n dX6_lain_95 0 rfl ?_
            refine V_aload_n dX6_lain_96 0 rfl ?_
            refine V_get (i := 5) inlX6 rfl (W_6 hw) rfl (by decide) q_32 rfl dX6_lain_97 ?_
            refine V_aload_n dX6_lain_100 0 rfl ?_
            refine V_get (i := 2) inlX6 rfl (W_6 hw) rfl (by decide) q_23 rfl dX6_lain_101 ?_
            refine V_iload_n dX6_lain_104 1 rfl ?_
            refine V_cV (k_X3_lainBy l G hw (F_X3_hear g x2 x3 (g 2 0 0)) (W_20 hw) x1 ) hy_X3_lainBy hi_X3_lainBy hs_X3_lainBy q_837 rfl rfl (W_3 hw) rfl rfl rfl rfl rfl ⟨by decide, by decide⟩ (Nat.le_of_ble_eq_true rfl) ⟨by decide, by decide⟩ dX6_lain_105 (V_kM ?_)
            refine V_cV (k_X6_unfound l G hw ((F_X3_lainBy (F_X3_hear g x2 x3 (g 2 0 0)) 0 x1).2)  ((F_X3_lainBy (F_X3_hear g x2 x3 (g 2 0 0)) 0 x1).1) ) hy_X6_unfound hi_X6_unfound hs_X6_unfound q_121 rfl rfl (W_6 hw) rfl rfl rfl rfl rfl ⟨by decide, by decide⟩ (Nat.le_of_ble_eq_true rfl) ⟨by decide, by decide⟩ dX6_lain_108 (V_kM ?_)
            exact V_iret dX6_lain_111 rfl (lfM (by simp only [F_X6_lain, if_pos c_7, if_neg c_17, if_neg c_27, if_pos c_41, if_neg c_66]))
          · refine V_aload_n dX6_lain_69 0 rfl ?_
            refine V_iconst (v := 2) dX6_lain_70 (by decide) ?_
            refine V_cV (k_X6_found l G hw g  2 ) hy_X6_found hi_X6_found hs_X6_found q_112 rfl rfl (W_6 hw) rfl rfl rfl rfl rfl ⟨by decide, by decide⟩ (Nat.le_of_ble_eq_true rfl) ⟨by decide, by decide⟩ dX6_lain_71 (V_kM ?_)
            exact V_iret dX6_lain_74 rfl (lfM (by simp only [F_X6_lain, if_pos c_7, if_neg c_17, if_neg c_27, if_pos c_41, if_pos c_66]))
        · refine V_aload_n dX6_lain_44 0 rfl ?_
          refine V_iconst (v := 1) dX6_lain_45 (by decide) ?_
          refine V_cV (k_X6_found l G hw g  1 ) hy_X6_found hi_X6_found hs_X6_found q_112 rfl rfl (W_6 hw) rfl rfl rfl rfl rfl ⟨by decide, by decide⟩ (Nat.le_of_ble_eq_true rfl) ⟨by decide, by decide⟩ dX6_lain_46 (V_kM ?_)
          exact V_iret dX6_lain_49 rfl (lfM (by simp only [F_X6_lain, if_pos c_7, if_neg c_17, if_neg c_27, if_neg c_41]))
      · refine V_ldc q_108 dX6_lain_30 ?_
        exact V_iret dX6_lain_32 rfl (lfM (by simp only [F_X6_lain, if_pos c_7, if_neg c_17, if_pos c_27]))
  · refine V_ldc q_357 dX6_lain_10 ?_
    exact V_iret dX6_lain_12 rfl (lfM (by simp only [F_X6_lain, if_neg c_7]))
def F_X6_flood (g : mm_g) (x1 : Int32) (x2 : Int32) (x3 : Int32) : Int64 × mm_g := (if (F_X2_isNone g 0) = 0 then (if (F_X6_isOne x1) = 0 then (-1000001, g) else (if (F_X6_within x2 0 10) = 0 then (-1000001, g) else (if (F_X6_within x3 0 1) = 0 then (-1000001, g) else (if 0 ≤ (lg_cmp (F_X6_commonDivisor ((F_X3_casesLed g 0 x1 x2).2) ((F_X3_casesLed g 0 x1 x2).1) (F_X3_allCases ((F_X3_casesLed g 0 x1 x2).2) 0)) 1) then (if x3 = 0 then (((F_X3_casesLed g 0 x1 x2).1 / (F_X6_commonDivisor ((F_X3_casesLed g 0 x1 x2).2) ((F_X3_casesLed g 0 x1 x2).1) (F_X3_allCases ((F_X3_casesLed g 0 x1 x2).2) 0))), (F_X3_casesLed g 0 x1 x2).2) else (((F_X3_allCases ((F_X3_casesLed g 0 x1 x2).2) 0) / (F_X6_commonDivisor ((F_X3_casesLed g 0 x1 x2).2) ((F_X3_casesLed g 0 x1 x2).1) (F_X3_allCases ((F_X3_casesLed g 0 x1 x2).2) 0))), (F_X3_casesLed g 0 x1 x2).2)) else ((x3.toInt64), (F_X3_casesLed g 0 x1 x2).2))))) else (-1000002, g))
set_option maxRecDepth 100000 in
set_option maxHeartbeats 4000000 in
theorem k_X6_flood (l : Launch) (G : mm_G) {pr : Nat → Nat → Prop} {ad : Nat → Nat → Nat → Nat} (hw : mm_W pr) (g : mm_g) (x1 : Int32) (x2 : Int32) (x3 : Int32)  : Mt l G yX6_flood cX6_flood 10 (some .long) (rmk 6 178) [.ref (ad 6 0 0), .int x1, .int x2, .int x3] pr ad g (qJ pr ad (F_X6_flood g x1 x2 x3)) 0 0 := by
  refine Mt_of (by decide) (Nat.le_of_ble_eq_true rfl) ?_
  show V l G RX6 cX6_flood 10 (some .long) _ _ 0 0 0 0 0 [(0, .ref (ad 6 0 0)), (1, .int x1), (2, .int x2), (3, .int x3)] [] pr ad g
  refine V_aload_n dX6_flood_0 0 rfl ?_
  refine V_get (i := 2) inlX6 rfl (W_6 hw) rfl (by decide) q_23 rfl dX6_flood_1 ?_
  refine V_cV (k_X2_isNone l G hw g (W_20 hw)  ) hy_X2_isNone hi_X2_isNone hs_X2_isNone q_376 rfl rfl (W_20 hw) rfl rfl rfl rfl rfl ⟨by decide, by decide⟩ (Nat.le_of_ble_eq_true rfl) ⟨by decide, by decide⟩ dX6_flood_4 (V_kI ?_)
  refine V_if_eq (tgt := 14) dX6_flood_7 (by decide) (fun c_7 => ?_) (fun c_7 => ?_)
  · refine V_iload_n dX6_flood_14 1 rfl ?_
    refine V_cS (k_X6_isOne l G hw g  x1 ) hy_X6_isOne hz_X6_isOne q_528 rfl rfl rfl rfl ⟨by decide, by decide⟩ (Nat.le_of_ble_eq_true rfl) ⟨by decide, by decide⟩ dX6_flood_15 (V_kI ?_)
    refine V_if_eq (tgt := 40) dX6_flood_18 (by decide) (fun c_18 => ?_) (fun c_18 => ?_)
    · refine V_ldc2 q_854 dX6_flood_40 ?_
      exact V_lret dX6_flood_43 rfl (lfJ (by simp only [F_X6_flood, if_pos c_7, if_pos c_18]))
    · refine V_iload_n dX6_flood_21 2 rfl ?_
      refine V_iconst (v := 0) dX6_flood_22 (by decide) ?_
      refine V_bipush (v := 10) dX6_flood_23 (by decide) ?_
      refine V_cS (k_X6_within l G hw g  x2 0 10 ) hy_X6_within hz_X6_within q_109 rfl rfl rfl rfl ⟨by decide, by decide⟩ (Nat.le_of_ble_eq_true rfl) ⟨by decide, by decide⟩ dX6_flood_25 (V_kI ?_)
      refine V_if_eq (tgt := 40) dX6_flood_28 (by decide) (fun c_28 => ?_) (fun c_28 => ?_)
      · refine V_ldc2 q_854 dX6_flood_40 ?_
        exact V_lret dX6_flood_43 rfl (lfJ (by simp only [F_X6_flood, if_pos c_7, if_neg c_18, if_pos c_28]))
      · refine V_iload_n dX6_flood_31 3 rfl ?_
        refine V_iconst (v := 0) dX6_flood_32 (by decide) ?_
        refine V_iconst (v := 1) dX6_flood_33 (by decide) ?_
        refine V_cS (k_X6_within l G hw g  x3 0 1 ) hy_X6_within hz_X6_within q_109 rfl rfl rfl rfl ⟨by decide, by decide⟩ (Nat.le_of_ble_eq_true rfl) ⟨by decide, by decide⟩ dX6_flood_34 (V_kI ?_)
        refine V_if_ne (tgt := 44) dX6_flood_37 (by decide) (fun c_37 => ?_) (fun c_37 => ?_)
        · refine V_aload_n dX6_flood_44 0 rfl ?_
          refine V_get (i := 5) inlX6 rfl (W_6 hw) rfl (by decide) q_32 rfl dX6_flood_45 ?_
          refine V_aload_n dX6_flood_48 0 rfl ?_
          refine V_get (i := 2) inlX6 rfl (W_6 hw) rfl (by decide) q_23 rfl dX6_flood_49 ?_
          refine V_iload_n dX6_flood_52 1 rfl ?_
          refine V_iload_n dX6_flood_53 2 rfl ?_
          refine V_cV (k_X3_casesLed l G hw g (W_20 hw) x1 x2 ) hy_X3_casesLed hi_X3_casesLed hs_X3_casesLed q_855 rfl rfl (W_3 hw) rfl rfl rfl rfl rfl ⟨by decide, by decide⟩ (Nat.le_of_ble_eq_true rfl) ⟨by decide, by decide⟩ dX6_flood_54 (V_kJ ?_)
          refine V_lstore (L2 := [(4, .long ((F_X3_casesLed g 0 x1 x2).1)), (0, .ref (ad 6 0 0)), (1, .int x1), (2, .int x2), (3, .int x3)]) dX6_flood_57 (by decide) rfl ?_
          refine V_aload_n dX6_flood_59 1 rfl ?_
          refine V_get (i := 5) inlX6 rfl (W_6 hw) rfl (by decide) q_32 rfl dX6_flood_60 ?_
          refine V_aload_n dX6_flood_63 1 rfl ?_
          refine V_get (i := 2) inlX6 rfl (W_6 hw) rfl (by decide) q_23 rfl dX6_flood_64 ?_
          refine V_cV (k_X3_allCases l G hw ((F_X3_casesLed g 0 x1 x2).2) (W_20 hw)  ) hy_X3_allCases hi_X3_allCases hs_X3_allCases q_862 rfl rfl (W_3 hw) rfl rfl rfl rfl rfl ⟨by decide, by decide⟩ (Nat.le_of_ble_eq_true rfl) ⟨by decide, by decide⟩ dX6_flood_67 (V_kL ?_)
          refine V_lstore (L2 := [(6, .long (F_X3_allCases ((F_X3_casesLed g 0 x1 x2).2) 0)), (4, .long ((F_X3_casesLed g 0 x1 x2).1)), (0, .ref (ad 6 0 0)), (1, .int x1), (2, .int x2), (3, .int x3)]) dX6_flood_70 (by decide) rfl ?_
          refine V_lload dX6_flood_72 1 rfl ?_
          refine V_lload dX6_flood_74 0 rfl ?_
          refine V_cS (k_X6_commonDivisor l G hw ((F_X3_casesLed g 0 x1 x2).2)  ((F_X3_casesLed g 0 x1 x2).1) (F_X3_allCases ((F_X3_casesLed g 0 x1 x2).2) 0) ) hy_X6_commonDivisor hz_X6_commonDivisor q_867 rfl rfl rfl rfl ⟨by decide, by decide⟩ (Nat.le_of_ble_eq_true rfl) ⟨by decide, by decide⟩ dX6_flood_76 (V_kL ?_)
          refine V_lstore (L2 := [(8, .long (F_X6_commonDivisor ((F_X3_casesLed g 0 x1 x2).2) ((F_X3_casesLed g 0 x1 x2).1) (F_X3_allCases ((F_X3_casesLed g 0 x1 x2).2) 0))), (6, .long (F_X3_allCases ((F_X3_casesLed g 0 x1 x2).2) 0)), (4, .long ((F_X3_casesLed g 0 x1 x2).1)), (0, .ref (ad 6 0 0)), (1, .int x1), (2, .int x2), (3, .int x3)]) dX6_flood_79 (by decide) rfl ?_
          refine V_lload dX6_flood_81 0 rfl ?_
          refine V_lconst (v := 1) dX6_flood_83 (by decide) ?_
          refine V_lcmp dX6_flood_84 ?_
          refine V_if_ge (tgt := 91) dX6_flood_85 (by decide) (fun c_85 => ?_) (fun c_85 => ?_)
          · refine V_iload_n dX6_flood_91 6 rfl ?_
            refine V_if_ne (tgt := 100) dX6_flood_92 (by decide) (fun c_92 => ?_) (fun c_92 => ?_)
            · refine V_lload dX6_flood_100 1 rfl ?_
              refine V_lload dX6_flood_102 0 rfl ?_
              refine V_ldiv dX6_flood_104 (by exact ne_l1 c_85) ?_
              exact V_lret dX6_flood_105 rfl (lfJ (by simp only [F_X6_flood, if_pos c_7, if_neg c_18, if_neg c_28, if_neg c_37, if_pos c_85, if_neg c_92]))
            · refine V_lload dX6_flood_95 2 rfl ?_
              refine V_goto (tgt := 102) dX6_flood_97 (by decide) ?_
              refine V_lload dX6_flood_102 0 rfl ?_
              refine V_ldiv dX6_flood_104 (by exact ne_l1 c_85) ?_
              exact V_lret dX6_flood_105 rfl (lfJ (by simp only [F_X6_flood, if_pos c_7, if_neg c_18, if_neg c_28, if_neg c_37, if_pos c_85, if_pos c_92]))
          · refine V_iload_n dX6_flood_88 6 rfl ?_
            refine V_i2l dX6_flood_89 ?_
            exact V_lret dX6_flood_90 rfl (lfJ (by simp only [F_X6_flood, if_pos c_7, if_neg c_18, if_neg c_28, if_neg c_37, if_neg c_85]))
        · refine V_ldc2 q_854 dX6_flood_40 ?_
          exact V_lret dX6_flood_43 rfl (lfJ (by simp only [F_X6_flood, if_pos c_7, if_neg c_18, if_neg c_28, if_pos c_37]))
  · refine V_ldc2 q_853 dX6_flood_10 ?_
    exact V_lret dX6_flood_13 rfl (lfJ (by simp only [F_X6_flood, if_neg c_7]))
def F_X6_drawn (g : mm_g) (x1 : Int32) (x2 : Int32) (x3 : Int32) : Int32 × mm_g := (if (F_X2_isNone g 0) = 0 then (if (F_X6_within x1 0 60) = 0 then ((-1000001), g) else (if (F_X6_within x2 1 999999) = 0 then ((-1000001), g) else (if (F_X6_within x3 0 2) = 0 then ((-1000001), g) else ((F_X2_countedFor (F_X3_afterYears g 0 x1 x2) 1 x3), (F_X3_afterYears g 0 x1 x2))))) else ((-1000002), g))
set_option maxRecDepth 100000 in
set_option maxHeartbeats 4000000 in
theorem k_X6_drawn (l : Launch) (G : mm_G) {pr : Nat → Nat → Prop} {ad : Nat → Nat → Nat → Nat} (hw : mm_W pr) (g : mm_g) (x1 : Int32) (x2 : Int32) (x3 : Int32)  : Mt l G yX6_drawn cX6_drawn 4 (some .int) (rmk 6 174) [.ref (ad 6 0 0), .int x1, .int x2, .int x3] pr ad g (qM pr ad (F_X6_drawn g x1 x2 x3)) 0 0 := by
  refine Mt_of (by decide) (Nat.le_of_ble_eq_true rfl) ?_
  show V l G RX6 cX6_drawn 4 (some .int) _ _ 0 0 0 0 0 [(0, .ref (ad 6 0 0)), (1, .int x1), (2, .int x2), (3, .int x3)] [] pr ad g
  refine V_aload_n dX6_drawn_0 0 rfl ?_
  refine V_get (i := 2) inlX6 rfl (W_6 hw) rfl (by decide) q_23 rfl dX6_drawn_1 ?_
  refine V_cV (k_X2_isNone l G hw g (W_20 hw)  ) hy_X2_isNone hi_X2_isNone hs_X2_isNone q_376 rfl rfl (W_20 hw) rfl rfl rfl rfl rfl ⟨by decide, by decide⟩ (Nat.le_of_ble_eq_true rfl) ⟨by decide, by decide⟩ dX6_drawn_4 (V_kI ?_)
  refine V_if_eq (tgt := 13) dX6_drawn_7 (by decide) (fun c_7 => ?_) (fun c_7 => ?_)
  · refine V_iload_n dX6_drawn_13 1 rfl ?_
    refine V_iconst (v := 0) dX6_drawn_14 (by decide) ?_
    refine V_bipush (v := 60) dX6_drawn_15 (by decide) ?_
    refine V_cS (k_X6_within l G hw g  x1 0 60 ) hy_X6_within hz_X6_within q_109 rfl rfl rfl rfl ⟨by decide, by decide⟩ (Nat.le_of_ble_eq_true rfl) ⟨by decide, by decide⟩ dX6_drawn_17 (V_kI ?_)
    refine V_if_eq (tgt := 43) dX6_drawn_20 (by decide) (fun c_20 => ?_) (fun c_20 => ?_)
    · refine V_ldc q_108 dX6_drawn_43 ?_
      exact V_iret dX6_drawn_45 rfl (lfM (by simp only [F_X6_drawn, if_pos c_7, if_pos c_20]))
    · refine V_iload_n dX6_drawn_23 2 rfl ?_
      refine V_iconst (v := 1) dX6_drawn_24 (by decide) ?_
      refine V_ldcw q_881 dX6_drawn_25 ?_
      refine V_cS (k_X6_within l G hw g  x2 1 999999 ) hy_X6_within hz_X6_within q_109 rfl rfl rfl rfl ⟨by decide, by decide⟩ (Nat.le_of_ble_eq_true rfl) ⟨by decide, by decide⟩ dX6_drawn_28 (V_kI ?_)
      refine V_if_eq (tgt := 43) dX6_drawn_31 (by decide) (fun c_31 => ?_) (fun c_31 => ?_)
      · refine V_ldc q_108 dX6_drawn_43 ?_
        exact V_iret dX6_drawn_45 rfl (lfM (by simp only [F_X6_drawn, if_pos c_7, if_neg c_20, if_pos c_31]))
      · refine V_iload_n dX6_drawn_34 3 rfl ?_
        refine V_iconst (v := 0) dX6_drawn_35 (by decide) ?_
        refine V_iconst (v := 2) dX6_drawn_36 (by decide) ?_
        refine V_cS (k_X6_within l G hw g  x3 0 2 ) hy_X6_within hz_X6_within q_109 rfl rfl rfl rfl ⟨by decide, by decide⟩ (Nat.le_of_ble_eq_true rfl) ⟨by decide, by decide⟩ dX6_drawn_37 (V_kI ?_)
        refine V_if_ne (tgt := 46) dX6_drawn_40 (by decide) (fun c_40 => ?_) (fun c_40 => ?_)
        · refine V_aload_n dX6_drawn_46 0 rfl ?_
          refine V_get (i := 5) inlX6 rfl (W_6 hw) rfl (by decide) q_32 rfl dX6_drawn_47 ?_
          refine V_aload_n dX6_drawn_50 0 rfl ?_
          refine V_get (i := 2) inlX6 rfl (W_6 hw) rfl (by decide) q_23 rfl dX6_drawn_51 ?_
          refine V_iload_n dX6_drawn_54 1 rfl ?_
          refine V_iload_n dX6_drawn_55 2 rfl ?_
          refine V_cV (k_X3_afterYears l G hw g (W_20 hw) x1 x2 ) hy_X3_afterYears hi_X3_afterYears hs_X3_afterYears q_882 rfl rfl (W_3 hw) rfl rfl rfl rfl rfl ⟨by decide, by decide⟩ (Nat.le_of_ble_eq_true rfl) ⟨by decide, by decide⟩ dX6_drawn_56 (V_kR ?_)
          refine V_iload_n dX6_drawn_59 3 rfl ?_
          refine V_cV (k_X2_countedFor l G hw (F_X3_afterYears g 0 x1 x2) (W_21 hw) x3 ) hy_X2_countedFor hi_X2_countedFor hs_X2_countedFor q_565 rfl rfl (W_21 hw) rfl rfl rfl rfl rfl ⟨by decide, by decide⟩ (Nat.le_of_ble_eq_true rfl) ⟨by decide, by decide⟩ dX6_drawn_60 (V_kI ?_)
          exact V_iret dX6_drawn_63 rfl (lfM (by simp only [F_X6_drawn, if_pos c_7, if_neg c_20, if_neg c_31, if_neg c_40]))
        · refine V_ldc q_108 dX6_drawn_43 ?_
          exact V_iret dX6_drawn_45 rfl (lfM (by simp only [F_X6_drawn, if_pos c_7, if_neg c_20, if_neg c_31, if_pos c_40]))
  · refine V_ldc q_357 dX6_drawn_10 ?_
    exact V_iret dX6_drawn_12 rfl (lfM (by simp only [F_X6_drawn, if_neg c_7]))
def F_X6_restore (g : mm_g) (x1 : Int32) : Int32 × mm_g := (if (F_X6_within x1 0 1) = 0 then ((-1000001), g) else (if g 6 1 x1.toNatClampNeg = 0 then ((-1000002), g) else (1, (F_X0_forget (F_X2_become g 0 (26 + x1.toNatClampNeg))))))
set_option maxRecDepth 100000 in
set_option maxHeartbeats 4000000 in
theorem k_X6_restore (l : Launch) (G : mm_G) {pr : Nat → Nat → Prop} {ad : Nat → Nat → Nat → Nat} (hw : mm_W pr) (g : mm_g) (x1 : Int32) (hI : ∀ i, i < 2 → ¬ g 6 1 i = 0 → pr 2 (26 + i))  : Mt l G yX6_restore cX6_restore 3 (some .int) (rmk 2 82) [.ref (ad 6 0 0), .int x1] pr ad g (qM pr ad (F_X6_restore g x1)) 0 0 := by
  refine Mt_of (by decide) (Nat.le_of_ble_eq_true rfl) ?_
  show V l G RX6 cX6_restore 3 (some .int) _ _ 0 0 0 0 0 [(0, .ref (ad 6 0 0)), (1, .int x1)] [] pr ad g
  refine V_iload_n dX6_restore_0 1 rfl ?_
  refine V_iconst (v := 0) dX6_restore_1 (by decide) ?_
  refine V_iconst (v := 1) dX6_restore_2 (by decide) ?_
  refine V_cS (k_X6_within l G hw g  x1 0 1 ) hy_X6_within hz_X6_within q_109 rfl rfl rfl rfl ⟨by decide, by decide⟩ (Nat.le_of_ble_eq_true rfl) ⟨by decide, by decide⟩ dX6_restore_3 (V_kI ?_)
  refine V_if_ne (tgt := 12) dX6_restore_6 (by decide) (fun c_6 => ?_) (fun c_6 => ?_)
  · refine V_aload_n dX6_restore_12 0 rfl ?_
    refine V_get (i := 4) inlX6 rfl (W_6 hw) rfl (by decide) q_28 rfl dX6_restore_13 ?_
    refine V_iload_n dX6_restore_16 1 rfl ?_
    by_cases o_17 : g 6 1 x1.toNatClampNeg = 0
    · refine A_6_N (W_6 hw) (by first | exact ix_w1 c_6) o_17 dX6_restore_17 ?_
      refine V_astN (L2 := [(2, .null), (0, .ref (ad 6 0 0)), (1, .int x1)]) dX6_restore_18 (by decide) rfl ?_
      refine V_aldN dX6_restore_19 0 rfl ?_
      refine V_nnN dX6_restore_20 ?_
      refine V_ldc q_357 dX6_restore_23 ?_
      exact V_iret dX6_restore_25 rfl (lfM (by simp only [F_X6_restore, if_neg c_6, if_pos o_17]))
    · refine A_6_R (W_6 hw) (by first | exact ix_w1 c_6) o_17 dX6_restore_17 ?_
      refine V_astore_n (L2 := [(2, .ref (ad 2 (26 + x1.toNatClampNeg) 0)), (0, .ref (ad 6 0 0)), (1, .int x1)]) dX6_restore_18 (by decide) rfl ?_
      refine V_aload_n dX6_restore_19 0 rfl ?_
      refine V_nnR (tgt := 26) dX6_restore_20 (by decide) ?_
      refine V_aload_n dX6_restore_26 1 rfl ?_
      refine V_get (i := 2) inlX6 rfl (W_6 hw) rfl (by decide) q_23 rfl dX6_restore_27 ?_
      refine V_aload_n dX6_restore_30 0 rfl ?_
      refine V_cV (k_X2_become l G hw g (W_20 hw) (hI _ (vp_lt (by first | exact ix_w1 c_6)) o_17)  ) hy_X2_become hi_X2_become hs_X2_become q_292 rfl rfl (W_20 hw) rfl rfl rfl rfl rfl ⟨by decide, by decide⟩ (Nat.le_of_ble_eq_true rfl) ⟨by decide, by decide⟩ dX6_restore_31 (V_kN ?_)
      refine V_aload_n dX6_restore_34 1 rfl ?_
      refine V_get (i := 3) inlX6 rfl (W_6 hw) rfl (by decide) q_27 rfl dX6_restore_35 ?_
      refine V_cV (k_X0_forget l G hw (F_X2_become g 0 (26 + x1.toNatClampNeg))   ) hy_X0_forget hi_X0_forget hs_X0_forget q_297 rfl rfl (W_0 hw) rfl rfl rfl rfl rfl ⟨by decide, by decide⟩ (Nat.le_of_ble_eq_true rfl) ⟨by decide, by decide⟩ dX6_restore_38 (V_kN ?_)
      refine V_iconst (v := 1) dX6_restore_41 (by decide) ?_
      exact V_iret dX6_restore_42 rfl (lfM (by simp only [F_X6_restore, if_neg c_6, if_neg o_17]))
  · refine V_ldc q_108 dX6_restore_9 ?_
    exact V_iret dX6_restore_11 rfl (lfM (by simp only [F_X6_restore, if_pos c_6]))
def F_X6_kind (g : mm_g) (x1 : Int32) : Int32 := (if (F_X2_has g 0 x1) = 0 then (-1000001) else (F_X2_kindOf g 0 x1))
set_option maxRecDepth 100000 in
set_option maxHeartbeats 4000000 in
theorem k_X6_kind (l : Launch) (G : mm_G) {pr : Nat → Nat → Prop} {ad : Nat → Nat → Nat → Nat} (hw : mm_W pr) (g : mm_g) (x1 : Int32)  : Mt l G yX6_kind cX6_kind 2 (some .int) (rmk 3 102) [.ref (ad 6 0 0), .int x1] pr ad g (qI pr ad g (F_X6_kind g x1)) 0 0 := by
  refine Mt_of (by decide) (Nat.le_of_ble_eq_true rfl) ?_
  show V l G RX6 cX6_kind 2 (some .int) _ _ 0 0 0 0 0 [(0, .ref (ad 6 0 0)), (1, .int x1)] [] pr ad g
  refine V_aload_n dX6_kind_0 0 rfl ?_
  refine V_get (i := 2) inlX6 rfl (W_6 hw) rfl (by decide) q_23 rfl dX6_kind_1 ?_
  refine V_iload_n dX6_kind_4 1 rfl ?_
  refine V_cV (k_X2_has l G hw g (W_20 hw) x1 ) hy_X2_has hi_X2_has hs_X2_has q_462 rfl rfl (W_20 hw) rfl rfl rfl rfl rfl ⟨by decide, by decide⟩ (Nat.le_of_ble_eq_true rfl) ⟨by decide, by decide⟩ dX6_kind_5 (V_kI ?_)
  refine V_if_ne (tgt := 14) dX6_kind_8 (by decide) (fun c_8 => ?_) (fun c_8 => ?_)
  · refine V_aload_n dX6_kind_14 0 rfl ?_
    refine V_get (i := 2) inlX6 rfl (W_6 hw) rfl (by decide) q_23 rfl dX6_kind_15 ?_
    refine V_iload_n dX6_kind_18 1 rfl ?_
    refine V_cV (k_X2_kindOf l G hw g (W_20 hw) x1 ) hy_X2_kindOf hi_X2_kindOf hs_X2_kindOf q_919 rfl rfl (W_20 hw) rfl rfl rfl rfl rfl ⟨by decide, by decide⟩ (Nat.le_of_ble_eq_true rfl) ⟨by decide, by decide⟩ dX6_kind_19 (V_kI ?_)
    exact V_iret dX6_kind_22 rfl (lfI (by simp only [F_X6_kind, if_neg c_8]))
  · refine V_ldc q_108 dX6_kind_11 ?_
    exact V_iret dX6_kind_13 rfl (lfI (by simp only [F_X6_kind, if_pos c_8]))
def F_X6_as (g : mm_g) (x1 : Int32) (x2 : Int32) : Int32 × mm_g := (if (F_X2_has g 0 x1) = 0 then ((-1000001), g) else (if (F_X6_within x2 0 5) = 0 then ((-1000001), g) else (if (F_X1_isSuch g (F_X2_kindOf g 0 x1) x2) = 0 then ((F_X6_found g 3).1, (F_X6_found g 3).2) else ((F_X6_unfound g x1).1, (F_X6_unfound g x1).2))))
set_option maxRecDepth 100000 in
set_option maxHeartbeats 4000000 in
theorem k_X6_as (l : Launch) (G : mm_G) {pr : Nat → Nat → Prop} {ad : Nat → Nat → Nat → Nat} (hw : mm_W pr) (g : mm_g) (x1 : Int32) (x2 : Int32)  : Mt l G yX6_as cX6_as 3 (some .int) (rmk 3 105) [.ref (ad 6 0 0), .int x1, .int x2] pr ad g (qM pr ad (F_X6_as g x1 x2)) 0 0 := by
  refine Mt_of (by decide) (Nat.le_of_ble_eq_true rfl) ?_
  show V l G RX6 cX6_as 3 (some .int) _ _ 0 0 0 0 0 [(0, .ref (ad 6 0 0)), (1, .int x1), (2, .int x2)] [] pr ad g
  refine V_aload_n dX6_as_0 0 rfl ?_
  refine V_get (i := 2) inlX6 rfl (W_6 hw) rfl (by decide) q_23 rfl dX6_as_1 ?_
  refine V_iload_n dX6_as_4 1 rfl ?_
  refine V_cV (k_X2_has l G hw g (W_20 hw) x1 ) hy_X2_has hi_X2_has hs_X2_has q_462 rfl rfl (W_20 hw) rfl rfl rfl rfl rfl ⟨by decide, by decide⟩ (Nat.le_of_ble_eq_true rfl) ⟨by decide, by decide⟩ dX6_as_5 (V_kI ?_)
  refine V_if_eq (tgt := 20) dX6_as_8 (by decide) (fun c_8 => ?_) (fun c_8 => ?_)
  · refine V_ldc q_108 dX6_as_20 ?_
    exact V_iret dX6_as_22 rfl (lfM (by simp only [F_X6_as, if_pos c_8]))
  · refine V_iload_n dX6_as_11 2 rfl ?_
    refine V_iconst (v := 0) dX6_as_12 (by decide) ?_
    refine V_iconst (v := 5) dX6_as_13 (by decide) ?_
    refine V_cS (k_X6_within l G hw g  x2 0 5 ) hy_X6_within hz_X6_within q_109 rfl rfl rfl rfl ⟨by decide, by decide⟩ (Nat.le_of_ble_eq_true rfl) ⟨by decide, by decide⟩ dX6_as_14 (V_kI ?_)
    refine V_if_ne (tgt := 23) dX6_as_17 (by decide) (fun c_17 => ?_) (fun c_17 => ?_)
    · refine V_aload_n dX6_as_23 0 rfl ?_
      refine V_get (i := 2) inlX6 rfl (W_6 hw) rfl (by decide) q_23 rfl dX6_as_24 ?_
      refine V_iload_n dX6_as_27 1 rfl ?_
      refine V_cV (k_X2_kindOf l G hw g (W_20 hw) x1 ) hy_X2_kindOf hi_X2_kindOf hs_X2_kindOf q_919 rfl rfl (W_20 hw) rfl rfl rfl rfl rfl ⟨by decide, by decide⟩ (Nat.le_of_ble_eq_true rfl) ⟨by decide, by decide⟩ dX6_as_28 (V_kI ?_)
      refine V_iload_n dX6_as_31 2 rfl ?_
      refine V_cS (k_X1_isSuch l G hw g  (F_X2_kindOf g 0 x1) x2 ) hy_X1_isSuch hz_X1_isSuch q_931 rfl rfl rfl rfl ⟨by decide, by decide⟩ (Nat.le_of_ble_eq_true rfl) ⟨by decide, by decide⟩ dX6_as_32 (V_kI ?_)
      refine V_if_ne (tgt := 44) dX6_as_35 (by decide) (fun c_35 => ?_) (fun c_35 => ?_)
      · refine V_aload_n dX6_as_44 0 rfl ?_
        refine V_iload_n dX6_as_45 1 rfl ?_
        refine V_cV (k_X6_unfound l G hw g  x1 ) hy_X6_unfound hi_X6_unfound hs_X6_unfound q_121 rfl rfl (W_6 hw) rfl rfl rfl rfl rfl ⟨by decide, by decide⟩ (Nat.le_of_ble_eq_true rfl) ⟨by decide, by decide⟩ dX6_as_46 (V_kM ?_)
        exact V_iret dX6_as_49 rfl (lfM (by simp only [F_X6_as, if_neg c_8, if_neg c_17, if_neg c_35]))
      · refine V_aload_n dX6_as_38 0 rfl ?_
        refine V_iconst (v := 3) dX6_as_39 (by decide) ?_
        refine V_cV (k_X6_found l G hw g  3 ) hy_X6_found hi_X6_found hs_X6_found q_112 rfl rfl (W_6 hw) rfl rfl rfl rfl rfl ⟨by decide, by decide⟩ (Nat.le_of_ble_eq_true rfl) ⟨by decide, by decide⟩ dX6_as_40 (V_kM ?_)
        exact V_iret dX6_as_43 rfl (lfM (by simp only [F_X6_as, if_neg c_8, if_neg c_17, if_pos c_35]))
    · refine V_ldc q_108 dX6_as_20 ?_
      exact V_iret dX6_as_22 rfl (lfM (by simp only [F_X6_as, if_neg c_8, if_pos c_17]))
def F_X6_ask (g : mm_g) (x1 : Int32) (x2 : Int32) : Int32 × mm_g := (if (F_X2_has g 0 x1) = 0 then ((-1000001), g) else (if (F_X6_within x2 0 1) = 0 then ((-1000001), g) else ((F_X1_answer g 0 x1 x2).1, (F_X1_answer g 0 x1 x2).2)))
set_option maxRecDepth 100000 in
set_option maxHeartbeats 4000000 in
theorem k_X6_ask (l : Launch) (G : mm_G) {pr : Nat → Nat → Prop} {ad : Nat → Nat → Nat → Nat} (hw : mm_W pr) (g : mm_g) (x1 : Int32) (x2 : Int32)  : Mt l G yX6_ask cX6_ask 3 (some .int) (rmk 18 498) [.ref (ad 6 0 0), .int x1, .int x2] pr ad g (qM pr ad (F_X6_ask g x1 x2)) 0 0 := by
  refine Mt_of (by decide) (Nat.le_of_ble_eq_true rfl) ?_
  show V l G RX6 cX6_ask 3 (some .int) _ _ 0 0 0 0 0 [(0, .ref (ad 6 0 0)), (1, .int x1), (2, .int x2)] [] pr ad g
  refine V_aload_n dX6_ask_0 0 rfl ?_
  refine V_get (i := 2) inlX6 rfl (W_6 hw) rfl (by decide) q_23 rfl dX6_ask_1 ?_
  refine V_iload_n dX6_ask_4 1 rfl ?_
  refine V_cV (k_X2_has l G hw g (W_20 hw) x1 ) hy_X2_has hi_X2_has hs_X2_has q_462 rfl rfl (W_20 hw) rfl rfl rfl rfl rfl ⟨by decide, by decide⟩ (Nat.le_of_ble_eq_true rfl) ⟨by decide, by decide⟩ dX6_ask_5 (V_kI ?_)
  refine V_if_eq (tgt := 20) dX6_ask_8 (by decide) (fun c_8 => ?_) (fun c_8 => ?_)
  · refine V_ldc q_108 dX6_ask_20 ?_
    exact V_iret dX6_ask_22 rfl (lfM (by simp only [F_X6_ask, if_pos c_8]))
  · refine V_iload_n dX6_ask_11 2 rfl ?_
    refine V_iconst (v := 0) dX6_ask_12 (by decide) ?_
    refine V_iconst (v := 1) dX6_ask_13 (by decide) ?_
    refine V_cS (k_X6_within l G hw g  x2 0 1 ) hy_X6_within hz_X6_within q_109 rfl rfl rfl rfl ⟨by decide, by decide⟩ (Nat.le_of_ble_eq_true rfl) ⟨by decide, by decide⟩ dX6_ask_14 (V_kI ?_)
    refine V_if_ne (tgt := 23) dX6_ask_17 (by decide) (fun c_17 => ?_) (fun c_17 => ?_)
    · refine V_aload_n dX6_ask_23 0 rfl ?_
      refine V_get (i := 6) inlX6 rfl (W_6 hw) rfl (by decide) q_36 rfl dX6_ask_24 ?_
      refine V_aload_n dX6_ask_27 0 rfl ?_
      refine V_get (i := 2) inlX6 rfl (W_6 hw) rfl (by decide) q_23 rfl dX6_ask_28 ?_
      refine V_iload_n dX6_ask_31 1 rfl ?_
      refine V_iload_n dX6_ask_32 2 rfl ?_
      refine V_cV (k_X1_answer l G hw g (W_20 hw) x1 x2 ) hy_X1_answer hi_X1_answer hs_X1_answer q_946 rfl rfl (W_1 hw) rfl rfl rfl rfl rfl ⟨by decide, by decide⟩ (Nat.le_of_ble_eq_true rfl) ⟨by decide, by decide⟩ dX6_ask_33 (V_kM ?_)
      exact V_iret dX6_ask_36 rfl (lfM (by simp only [F_X6_ask, if_neg c_8, if_neg c_17]))
    · refine V_ldc q_108 dX6_ask_20 ?_
      exact V_iret dX6_ask_22 rfl (lfM (by simp only [F_X6_ask, if_neg c_8, if_pos c_17]))
def F_X6_trace (g : mm_g) (x1 : Int32) : Int32 := (F_X1_traced g x1)
set_option maxRecDepth 100000 in
set_option maxHeartbeats 4000000 in
theorem k_X6_trace (l : Launch) (G : mm_G) {pr : Nat → Nat → Prop} {ad : Nat → Nat → Nat → Nat} (hw : mm_W pr) (g : mm_g) (x1 : Int32)  : Mt l G yX6_trace cX6_trace 2 (some .int) (rmk 2 81) [.ref (ad 6 0 0), .int x1] pr ad g (qI pr ad g (F_X6_trace g x1)) 0 0 := by
  refine Mt_of (by decide) (Nat.le_of_ble_eq_true rfl) ?_
  show V l G RX6 cX6_trace 2 (some .int) _ _ 0 0 0 0 0 [(0, .ref (ad 6 0 0)), (1, .int x1)] [] pr ad g
  refine V_aload_n dX6_trace_0 0 rfl ?_
  refine V_get (i := 6) inlX6 rfl (W_6 hw) rfl (by decide) q_36 rfl dX6_trace_1 ?_
  refine V_iload_n dX6_trace_4 1 rfl ?_
  refine V_cV (k_X1_traced l G hw g  x1 ) hy_X1_traced hi_X1_traced hs_X1_traced q_1009 rfl rfl (W_1 hw) rfl rfl rfl rfl rfl ⟨by decide, by decide⟩ (Nat.le_of_ble_eq_true rfl) ⟨by decide, by decide⟩ dX6_trace_5 (V_kI ?_)
  exact V_iret dX6_trace_8 rfl (lfI (by simp only [F_X6_trace]))
def F_X6_count (g : mm_g) (x1 : Int32) : Int32 := (if x1 = 0 then (F_X4_present g) else (if x1 = 1 then (g 2 0 0) else (if x1 = 2 then (g 2 0 4) else (if x1 = 3 then (F_X2_allStock g 0) else (if x1 = 4 then (F_X2_allCounted g 0) else (if x1 = 5 then (g 2 0 5) else (if x1 = 6 then (F_X0_kept g) else (if x1 = 7 then (F_X5_length g) else (-1000001)))))))))
set_option maxRecDepth 100000 in
set_option maxHeartbeats 4000000 in
theorem k_X6_count (l : Launch) (G : mm_G) {pr : Nat → Nat → Prop} {ad : Nat → Nat → Nat → Nat} (hw : mm_W pr) (g : mm_g) (x1 : Int32)  : Mt l G yX6_count cX6_count 2 (some .int) (rmk 4 124) [.ref (ad 6 0 0), .int x1] pr ad g (qI pr ad g (F_X6_count g x1)) 0 0 := by
  refine Mt_of (by decide) (Nat.le_of_ble_eq_true rfl) ?_
  show V l G RX6 cX6_count 2 (some .int) _ _ 0 0 0 0 0 [(0, .ref (ad 6 0 0)), (1, .int x1)] [] pr ad g
  refine V_iload_n dX6_count_0 1 rfl ?_
  by_cases s_1_0 : x1 = 0
  · refine V_tabI (v := 0) (off := 47) (tgt := 48) dX6_count_1 s_1_0 (by decide) (by decide) rfl (by decide) ?_
    refine V_aload_n dX6_count_48 0 rfl ?_
    refine V_get (i := 0) inlX6 rfl (W_6 hw) rfl (by decide) q_15 rfl dX6_count_49 ?_
    refine V_cV (k_X4_present l G hw g   ) hy_X4_present hi_X4_present hs_X4_present q_1022 rfl rfl (W_4 hw) rfl rfl rfl rfl rfl ⟨by decide, by decide⟩ (Nat.le_of_ble_eq_true rfl) ⟨by decide, by decide⟩ dX6_count_52 (V_kI ?_)
    exact V_iret dX6_count_55 rfl (lfI (by simp only [F_X6_count, if_pos s_1_0]))
  by_cases s_1_1 : x1 = 1
  · refine V_tabI (v := 1) (off := 55) (tgt := 56) dX6_count_1 s_1_1 (by decide) (by decide) rfl (by decide) ?_
    refine V_aload_n dX6_count_56 0 rfl ?_
    refine V_get (i := 2) inlX6 rfl (W_6 hw) rfl (by decide) q_23 rfl dX6_count_57 ?_
    refine V_getN (i := 0) inlX2 rfl (W_20 hw) rfl (by decide) nf_X6_129 rfl dX6_count_60 ?_
    exact V_iret dX6_count_63 rfl (lfI (by simp only [F_X6_count, if_neg s_1_0, if_pos s_1_1]))
  by_cases s_1_2 : x1 = 2
  · refine V_tabI (v := 2) (off := 63) (tgt := 64) dX6_count_1 s_1_2 (by decide) (by decide) rfl (by decide) ?_
    refine V_aload_n dX6_count_64 0 rfl ?_
    refine V_get (i := 2) inlX6 rfl (W_6 hw) rfl (by decide) q_23 rfl dX6_count_65 ?_
    refine V_getN (i := 1) inlX2 rfl (W_20 hw) rfl (by decide) nf_X6_144 rfl dX6_count_68 ?_
    exact V_iret dX6_count_71 rfl (lfI (by simp only [F_X6_count, if_neg s_1_0, if_neg s_1_1, if_pos s_1_2]))
  by_cases s_1_3 : x1 = 3
  · refine V_tabI (v := 3) (off := 71) (tgt := 72) dX6_count_1 s_1_3 (by decide) (by decide) rfl (by decide) ?_
    refine V_aload_n dX6_count_72 0 rfl ?_
    refine V_get (i := 2) inlX6 rfl (W_6 hw) rfl (by decide) q_23 rfl dX6_count_73 ?_
    refine V_cV (k_X2_allStock l G hw g (W_20 hw)  ) hy_X2_allStock hi_X2_allStock hs_X2_allStock q_421 rfl rfl (W_20 hw) rfl rfl rfl rfl rfl ⟨by decide, by decide⟩ (Nat.le_of_ble_eq_true rfl) ⟨by decide, by decide⟩ dX6_count_76 (V_kI ?_)
    exact V_iret dX6_count_79 rfl (lfI (by simp only [F_X6_count, if_neg s_1_0, if_neg s_1_1, if_neg s_1_2, if_pos s_1_3]))
  by_cases s_1_4 : x1 = 4
  · refine V_tabI (v := 4) (off := 79) (tgt := 80) dX6_count_1 s_1_4 (by decide) (by decide) rfl (by decide) ?_
    refine V_aload_n dX6_count_80 0 rfl ?_
    refine V_get (i := 2) inlX6 rfl (W_6 hw) rfl (by decide) q_23 rfl dX6_count_81 ?_
    refine V_cV (k_X2_allCounted l G hw g (W_20 hw)  ) hy_X2_allCounted hi_X2_allCounted hs_X2_allCounted q_1026 rfl rfl (W_20 hw) rfl rfl rfl rfl rfl ⟨by decide, by decide⟩ (Nat.le_of_ble_eq_true rfl) ⟨by decide, by decide⟩ dX6_count_84 (V_kI ?_)
    exact V_iret dX6_count_87 rfl (lfI (by simp only [F_X6_count, if_neg s_1_0, if_neg s_1_1, if_neg s_1_2, if_neg s_1_3, if_pos s_1_4]))
  by_cases s_1_5 : x1 = 5
  · refine V_tabI (v := 5) (off := 87) (tgt := 88) dX6_count_1 s_1_5 (by decide) (by decide) rfl (by decide) ?_
    refine V_aload_n dX6_count_88 0 rfl ?_
    refine V_get (i := 2) inlX6 rfl (W_6 hw) rfl (by decide) q_23 rfl dX6_count_89 ?_
    refine V_getN (i := 3) inlX2 rfl (W_20 hw) rfl (by decide) nf_X6_180 rfl dX6_count_92 ?_
    exact V_iret dX6_count_95 rfl (lfI (by simp only [F_X6_count, if_neg s_1_0, if_neg s_1_1, if_neg s_1_2, if_neg s_1_3, if_neg s_1_4, if_pos s_1_5]))
  by_cases s_1_6 : x1 = 6
  · refine V_tabI (v := 6) (off := 95) (tgt := 96) dX6_count_1 s_1_6 (by decide) (by decide) rfl (by decide) ?_
    refine V_aload_n dX6_count_96 0 rfl ?_
    refine V_get (i := 3) inlX6 rfl (W_6 hw) rfl (by decide) q_27 rfl dX6_count_97 ?_
    refine V_cV (k_X0_kept l G hw g   ) hy_X0_kept hi_X0_kept hs_X0_kept q_363 rfl rfl (W_0 hw) rfl rfl rfl rfl rfl ⟨by decide, by decide⟩ (Nat.le_of_ble_eq_true rfl) ⟨by decide, by decide⟩ dX6_count_100 (V_kI ?_)
    exact V_iret dX6_count_103 rfl (lfI (by simp only [F_X6_count, if_neg s_1_0, if_neg s_1_1, if_neg s_1_2, if_neg s_1_3, if_neg s_1_4, if_neg s_1_5, if_pos s_1_6]))
  by_cases s_1_7 : x1 = 7
  · refine V_tabI (v := 7) (off := 103) (tgt := 104) dX6_count_1 s_1_7 (by decide) (by decide) rfl (by decide) ?_
    refine V_aload_n dX6_count_104 0 rfl ?_
    refine V_get (i := 1) inlX6 rfl (W_6 hw) rfl (by decide) q_19 rfl dX6_count_105 ?_
    refine V_cV (k_X5_length l G hw g   ) hy_X5_length hi_X5_length hs_X5_length q_213 rfl rfl (W_5 hw) rfl rfl rfl rfl rfl ⟨by decide, by decide⟩ (Nat.le_of_ble_eq_true rfl) ⟨by decide, by decide⟩ dX6_count_108 (V_kI ?_)
    exact V_iret dX6_count_111 rfl (lfI (by simp only [F_X6_count, if_neg s_1_0, if_neg s_1_1, if_neg s_1_2, if_neg s_1_3, if_neg s_1_4, if_neg s_1_5, if_neg s_1_6, if_pos s_1_7]))
  refine V_tabO (tgt := 112) dX6_count_1 (by have e0 := mm_ne s_1_0 (n := 0) (by decide); have e1 := mm_ne s_1_1 (n := 1) (by decide); have e2 := mm_ne s_1_2 (n := 2) (by decide); have e3 := mm_ne s_1_3 (n := 3) (by decide); have e4 := mm_ne s_1_4 (n := 4) (by decide); have e5 := mm_ne s_1_5 (n := 5) (by decide); have e6 := mm_ne s_1_6 (n := 6) (by decide); have e7 := mm_ne s_1_7 (n := 7) (by decide); omega) (by decide) ?_
  refine V_ldc q_108 dX6_count_112 ?_
  exact V_iret dX6_count_114 rfl (lfI (by simp only [F_X6_count, if_neg s_1_0, if_neg s_1_1, if_neg s_1_2, if_neg s_1_3, if_neg s_1_4, if_neg s_1_5, if_neg s_1_6, if_neg s_1_7]))
def F_X6_status (g : mm_g) : Int32 := (g 6 0 1)
set_option maxRecDepth 100000 in
set_option maxHeartbeats 4000000 in
theorem k_X6_status (l : Launch) (G : mm_G) {pr : Nat → Nat → Prop} {ad : Nat → Nat → Nat → Nat} (hw : mm_W pr) (g : mm_g)  : Mt l G yX6_status cX6_status 1 (some .int) (rmk 1 60) [.ref (ad 6 0 0)] pr ad g (qI pr ad g (F_X6_status g)) 0 0 := by
  refine Mt_of (by decide) (Nat.le_of_ble_eq_true rfl) ?_
  show V l G RX6 cX6_status 1 (some .int) _ _ 0 0 0 0 0 [(0, .ref (ad 6 0 0))] [] pr ad g
  refine V_aload_n dX6_status_0 0 rfl ?_
  refine V_get (i := 8) inlX6 rfl (W_6 hw) rfl (by decide) q_38 rfl dX6_status_1 ?_
  exact V_iret dX6_status_4 rfl (lfI (by simp only [F_X6_status]))
