def F_X7_when_29 (x1 : Int32) (x2 : Int32) (K : Nat → mm_g → Int32 × mm_g) : Nat → Nat → mm_g → Int32 × mm_g
  | 0, j, s => K j s
  | n + 1, j, s => (if (F_X7_lies s x1) = x2 then K j s else (if 60 ≤ (nI j) then K j s else F_X7_when_29 x1 x2 K n (j + 1) (F_X7_oneTide s)))
def F_X7_when (g : mm_g) (x1 : Int32) (x2 : Int32) : Int32 × mm_g := (if (F_X7_isBed g x1) = 0 then ((-1000001), g) else (if (F_X7_in (x2.toInt64) 0 2) = 0 then ((-1000001), g) else (F_X7_when_29 x1 x2 (fun (j29 : Nat) (s29 : mm_g) => (if (F_X7_lies s29 x1) = x2 then ((nI j29), (F_X7_takeBack s29)) else ((-1000000), (F_X7_takeBack s29)))) ((60 : Int32).toInt.toNat + 1) 0 (F_X7_putAside g))))
set_option maxRecDepth 100000 in
set_option maxHeartbeats 4000000 in
theorem w_X7_when_29 (l : Launch) (G : mm_G) {pr : Nat → Nat → Prop} {ad : Nat → Nat → Nat → Nat} (hw : mm_W pr) (x1 : Int32) (x2 : Int32)  (hx : vp_in x1 9) (K : Nat → mm_g → Int32 × mm_g) (hK : ∀ (j : Nat) (s : mm_g) (hj : j ≤ (60 : Int32).toInt.toNat) (hB : okB s), V l G RX7 cX7_when 5 (some .int) (rmk 5 152) (qM pr ad (K j s)) 0 0 0 0 54 [(0, .ref (ad 7 0 0)), (1, .int x1), (2, .int x2), (3, .int (nI j))] [] pr ad s) : ∀ (n : Nat) (j : Nat) (s : mm_g) (hj : j ≤ (60 : Int32).toInt.toNat) (hB : okB s) (hm : (60 : Int32).toInt.toNat - j < n), V l G RX7 cX7_when 5 (some .int) (rmk 5 152) (qM pr ad (F_X7_when_29 x1 x2 K n j s)) 0 0 0 0 29 [(0, .ref (ad 7 0 0)), (1, .int x1), (2, .int x2), (3, .int (nI j))] [] pr ad s := by
  intro n
  induction n with
  | zero => intro j s hj hB hm; exact absurd hm (Nat.not_lt_zero _)
  | succ n ih =>
      intro j s hj hB hm
      refine V_aload_n dX7_when_29 0 rfl ?_
      refine V_iload_n dX7_when_30 1 rfl ?_
      refine V_cV (k_X7_lies l G hw s  x1 hx) hy_X7_lies hi_X7_lies hs_X7_lies q_442 rfl rfl (W_7 hw) rfl rfl rfl rfl rfl ⟨by decide, by decide⟩ (Nat.le_of_ble_eq_true rfl) ⟨by decide, by decide⟩ dX7_when_31 (V_kI ?_)
      refine V_iload_n dX7_when_34 2 rfl ?_
      refine V_ic_eq (tgt := 54) dX7_when_35 (by decide) (fun c_35 => ?_) (fun c_35 => ?_)
      · refine V_rp (R2 := K j s) (by simp only [F_X7_when_29, if_pos c_35]) ?_
        refine V_lp [0, 1, 2, 3] rfl ?_
        exact hK j s (by assumption) (by assumption)
      · refine V_iload_n dX7_when_38 3 rfl ?_
        refine V_bipush (v := 60) dX7_when_39 (by decide) ?_
        refine V_ic_ge (tgt := 54) dX7_when_41 (by decide) (fun c_41 => ?_) (fun c_41 => ?_)
        · refine V_rp (R2 := K j s) (by simp only [F_X7_when_29, if_neg c_35, if_pos c_41]) ?_
          refine V_lp [0, 1, 2, 3] rfl ?_
          exact hK j s (by assumption) (by assumption)
        · refine V_aload_n dX7_when_44 0 rfl ?_
          refine V_cV (k_X7_oneTide l G hw s   hB) hy_X7_oneTide hi_X7_oneTide hs_X7_oneTide q_438 rfl rfl (W_7 hw) rfl rfl rfl rfl rfl ⟨by decide, by decide⟩ (Nat.le_of_ble_eq_true rfl) ⟨by decide, by decide⟩ dX7_when_45 (V_kN ?_)
          refine V_iinc (v := (nI (j + 1))) (L2 := [(3, .int (nI (j + 1))), (0, .ref (ad 7 0 0)), (1, .int x1), (2, .int x2)]) dX7_when_48 3 rfl (nI_1 _) (by decide) rfl ?_
          refine V_goto (tgt := 29) dX7_when_51 (by decide) ?_
          refine V_rp (R2 := F_X7_when_29 x1 x2 K n (j + 1) (F_X7_oneTide s)) (by simp only [F_X7_when_29, if_neg c_35, if_neg c_41]) ?_
          refine V_lp [1, 2, 3, 0] rfl ?_
          exact ih (j + 1) (F_X7_oneTide s) (by exact (lp_up hj c_41 hm).1) (by exact okB_tide hB) (by exact (lp_up hj c_41 hm).2) 
set_option maxRecDepth 100000 in
set_option maxHeartbeats 4000000 in
theorem k_X7_when (l : Launch) (G : mm_G) {pr : Nat → Nat → Prop} {ad : Nat → Nat → Nat → Nat} (hw : mm_W pr) (g : mm_g) (x1 : Int32) (x2 : Int32) (hB : okB g)  : Mt l G yX7_when cX7_when 5 (some .int) (rmk 5 152) [.ref (ad 7 0 0), .int x1, .int x2] pr ad g (qM pr ad (F_X7_when g x1 x2)) 0 0 := by
  refine Mt_of (by decide) (Nat.le_of_ble_eq_true rfl) ?_
  show V l G RX7 cX7_when 5 (some .int) _ _ 0 0 0 0 0 [(0, .ref (ad 7 0 0)), (1, .int x1), (2, .int x2)] [] pr ad g
  refine V_aload_n dX7_when_0 0 rfl ?_
  refine V_iload_n dX7_when_1 1 rfl ?_
  refine V_cV (k_X7_isBed l G hw g  x1 ) hy_X7_isBed hi_X7_isBed hs_X7_isBed q_480 rfl rfl (W_7 hw) rfl rfl rfl rfl rfl ⟨by decide, by decide⟩ (Nat.le_of_ble_eq_true rfl) ⟨by decide, by decide⟩ dX7_when_2 (V_kI ?_)
  refine V_if_eq (tgt := 20) dX7_when_5 (by decide) (fun c_5 => ?_) (fun c_5 => ?_)
  · refine V_ldc q_130 dX7_when_20 ?_
    exact V_iret dX7_when_22 rfl (lfM (by simp only [F_X7_when, if_pos c_5]))
  · refine V_iload_n dX7_when_8 2 rfl ?_
    refine V_i2l dX7_when_9 ?_
    refine V_lconst (v := 0) dX7_when_10 (by decide) ?_
    refine V_ldc2 q_129 dX7_when_11 ?_
    refine V_cS (k_X7_in l G hw g  (x2.toInt64) 0 2 ) hy_X7_in hz_X7_in q_135 rfl rfl rfl rfl ⟨by decide, by decide⟩ (Nat.le_of_ble_eq_true rfl) ⟨by decide, by decide⟩ dX7_when_14 (V_kI ?_)
    refine V_if_ne (tgt := 23) dX7_when_17 (by decide) (fun c_17 => ?_) (fun c_17 => ?_)
    · refine V_aload_n dX7_when_23 0 rfl ?_
      refine V_cV (k_X7_putAside l G hw g   ) hy_X7_putAside hi_X7_putAside hs_X7_putAside q_589 rfl rfl (W_7 hw) rfl rfl rfl rfl rfl ⟨by decide, by decide⟩ (Nat.le_of_ble_eq_true rfl) ⟨by decide, by decide⟩ dX7_when_24 (V_kN ?_)
      refine V_iconst (v := 0) dX7_when_27 (by decide) ?_
      refine V_istore_n (L2 := [(3, .int 0), (0, .ref (ad 7 0 0)), (1, .int x1), (2, .int x2)]) dX7_when_28 (by decide) rfl ?_
      refine V_rp (R2 := F_X7_when_29 x1 x2 (fun (j29 : Nat) (s29 : mm_g) => (if (F_X7_lies s29 x1) = x2 then ((nI j29), (F_X7_takeBack s29)) else ((-1000000), (F_X7_takeBack s29)))) ((60 : Int32).toInt.toNat + 1) 0 (F_X7_putAside g)) (by simp only [F_X7_when, if_neg c_5, if_neg c_17]) ?_
      refine V_lp [1, 2, 3, 0] rfl ?_
      refine w_X7_when_29 l G hw x1 x2  (by exact ix_bed hB c_5) _ (fun j29 s29 hj29 hB29 => ?_) ((60 : Int32).toInt.toNat + 1) 0 (F_X7_putAside g) (by first | exact Nat.zero_le _ | decide) (by exact okB_aside hB) (by omega)
      refine V_aload_n dX7_when_54 0 rfl ?_
      refine V_iload_n dX7_when_55 1 rfl ?_
      refine V_cV (k_X7_lies l G hw s29  x1 (ix_bed hB c_5)) hy_X7_lies hi_X7_lies hs_X7_lies q_442 rfl rfl (W_7 hw) rfl rfl rfl rfl rfl ⟨by decide, by decide⟩ (Nat.le_of_ble_eq_true rfl) ⟨by decide, by decide⟩ dX7_when_56 (V_kI ?_)
      refine V_iload_n dX7_when_59 2 rfl ?_
      refine V_ic_ne (tgt := 67) dX7_when_60 (by decide) (fun c_60 => ?_) (fun c_60 => ?_)
      · refine V_iconst (v := 0) dX7_when_67 (by decide) ?_
        refine V_istore (L2 := [(4, .int 0), (0, .ref (ad 7 0 0)), (1, .int x1), (2, .int x2), (3, .int (nI j29))]) dX7_when_68 (by decide) rfl ?_
        refine V_aload_n dX7_when_70 1 rfl ?_
        refine V_cV (k_X7_takeBack l G hw s29   ) hy_X7_takeBack hi_X7_takeBack hs_X7_takeBack q_597 rfl rfl (W_7 hw) rfl rfl rfl rfl rfl ⟨by decide, by decide⟩ (Nat.le_of_ble_eq_true rfl) ⟨by decide, by decide⟩ dX7_when_71 (V_kN ?_)
        refine V_iload dX7_when_74 0 rfl ?_
        refine V_if_eq (tgt := 83) dX7_when_76 (by decide) (fun c_76 => ?_) (fun c_76 => ?_)
        · refine V_ldc q_637 dX7_when_83 ?_
          exact V_iret dX7_when_85 rfl (lfM (by simp only [if_neg c_60]))
        · exact absurd (by decide) c_76
      · refine V_iconst (v := 1) dX7_when_63 (by decide) ?_
        refine V_goto (tgt := 68) dX7_when_64 (by decide) ?_
        refine V_istore (L2 := [(4, .int 1), (0, .ref (ad 7 0 0)), (1, .int x1), (2, .int x2), (3, .int (nI j29))]) dX7_when_68 (by decide) rfl ?_
        refine V_aload_n dX7_when_70 1 rfl ?_
        refine V_cV (k_X7_takeBack l G hw s29   ) hy_X7_takeBack hi_X7_takeBack hs_X7_takeBack q_597 rfl rfl (W_7 hw) rfl rfl rfl rfl rfl ⟨by decide, by decide⟩ (Nat.le_of_ble_eq_true rfl) ⟨by decide, by decide⟩ dX7_when_71 (V_kN ?_)
        refine V_iload dX7_when_74 0 rfl ?_
        refine V_if_eq (tgt := 83) dX7_when_76 (by decide) (fun c_76 => ?_) (fun c_76 => ?_)
        · exact absurd c_76 (by decide)
        · refine V_iload_n dX7_when_79 4 rfl ?_
          refine V_goto (tgt := 85) dX7_when_80 (by decide) ?_
          exact V_iret dX7_when_85 rfl (lfM (by simp only [if_pos c_60]))
    · refine V_ldc q_130 dX7_when_20 ?_
      exact V_iret dX7_when_22 rfl (lfM (by simp only [F_X7_when, if_neg c_5, if_pos c_17]))
