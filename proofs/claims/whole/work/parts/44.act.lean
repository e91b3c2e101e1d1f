def qP (pr : Nat → Nat → Prop) (ad : Nat → Nat → Nat → Nat) (R : Int32 × mm_g) : mm_T := fun r pr2 ad2 g2 => r = some (.int R.1) ∧ g2 = R.2 ∧ mm_x pr ad pr2 ad2 ∧ okF pr2 g2
theorem lfP {pr pr2 : Nat → Nat → Prop} {ad ad2 : Nat → Nat → Nat → Nat} {g : mm_g} {R : Int32 × mm_g} {x : Int32} (h : R = (x, g)) (hx : mm_x pr ad pr2 ad2) (hF : okF pr2 g) : qP pr ad R (some (.int x)) pr2 ad2 g := ⟨by rw [h], by rw [h], hx, hF⟩
theorem okF_to {pr : Nat → Nat → Prop} {g g2 : mm_g} (hF : okF pr g) (h : ∀ t c, t ≠ 2 → g2 t c = g t c) : okF pr g2 := by
  unfold okF
  rw [h 0 1 (by decide), h 6 1 (by decide)]
  exact hF
theorem mm_xx {pr pr2 pr3 : Nat → Nat → Prop} {ad ad2 ad3 : Nat → Nat → Nat → Nat} (h : mm_x pr ad pr2 ad2) (h2 : mm_x pr2 ad2 pr3 ad3) : mm_x pr ad pr3 ad3 := ⟨fun t k q => h2.1 _ _ (h.1 _ _ q), fun t k c q => (h2.2 t k c (h.1 _ _ q)).trans (h.2 t k c q)⟩
theorem wr_t2 {g : mm_g} {k j : Nat} {x : Int32} {t c : Nat} (ht : t ≠ 2) : wr g 2 k j x t c = g t c := wr_ne _ _ _ (fun q => ht q.1)
theorem rakeUp_k {g : mm_g} {k : Nat} {a b : Int32} {t c : Nat} (ht : t ≠ 2) : (F_X2_rakeUp g k a b).2 t c = g t c := by
  unfold F_X2_rakeUp
  (repeat' split) <;> simp only [wr_t2 ht]
theorem warmTo_k {g : mm_g} {k : Nat} {a b : Int32} {t c : Nat} (ht : t ≠ 2) : (F_X2_warmTo g k a b) t c = g t c := by
  unfold F_X2_warmTo
  (repeat' split) <;> simp only [wr_t2 ht]
theorem turnVeto_k {g : mm_g} {k : Nat} {a : Int32} {t c : Nat} (ht : t ≠ 2) : (F_X2_turnVeto g k a) t c = g t c := by
  unfold F_X2_turnVeto
  (repeat' split) <;> simp only [wr_t2 ht]
theorem standIn_k {g : mm_g} {k : Nat} {a b : Int32} {t c : Nat} (ht : t ≠ 2) : (F_X2_standIn g k a b) t c = g t c := by
  unfold F_X2_standIn
  (repeat' split) <;> simp only [wr_t2 ht]
theorem swell_k {g : mm_g} {k : Nat} {a : Int32} {t c : Nat} (ht : t ≠ 2) : (F_X2_swell g k a) t c = g t c := by
  unfold F_X2_swell
  (repeat' split) <;> simp only [wr_t2 ht]
theorem flow_ka (k : Nat) (K : Nat → mm_g → mm_g) {t c : Nat} (ht : t ≠ 2) (hK : ∀ j s, (K j s) t c = s t c) : ∀ (n j : Nat) (s : mm_g), (F_X2_flow_2 k K n j s) t c = s t c
  | 0, j, s => hK j s
  | n + 1, j, s => by
    unfold F_X2_flow_2
    split
    · exact hK j s
    · rw [flow_ka k K ht hK n, swell_k ht]
theorem flow_k {g : mm_g} {k t c : Nat} (ht : t ≠ 2) : (F_X2_flow g k) t c = g t c := flow_ka k _ ht (fun j s => wr_t2 ht) _ _ _
def F_X6_rake (g : mm_g) (x1 : Int32) (x2 : Int32) : Int32 × mm_g := (if (F_X2_has g 0 x1) = 0 then ((-1000001), g) else (if (F_X6_within x2 1 99) = 0 then ((-1000001), g) else (if (F_X2_hasVeto g 0 x1) = 0 then (if x2 ≤ (F_X2_stockOf g 0 x1) then ((F_X2_rakeUp (F_X0_keep g 0) 0 x1 x2).1, (F_X2_rakeUp (F_X0_keep g 0) 0 x1 x2).2) else ((-1000002), g)) else ((-1000002), g))))
set_option maxRecDepth 100000 in
set_option maxHeartbeats 4000000 in
theorem w_X6_rake_61 {l : Launch} {G : mm_G} {pr : Nat → Nat → Prop} {ad : Nat → Nat → Nat → Nat} {g : mm_g} {Q0 : mm_T} (hw : mm_W pr) (x1 : Int32) (x2 : Int32) (hQ : Q0 (some (.int ((F_X2_rakeUp g 0 x1 x2).1))) pr ad ((F_X2_rakeUp g 0 x1 x2).2)) : V l G RX6 cX6_rake 3 (some .int) ({ frames := 4, cells := 5, slots := 40, locals := 132 }) Q0 5 40 5 40 61 [(0, .ref (ad 6 0 0)), (1, .int x1), (2, .int x2)] [] pr ad g := by
  refine V_aload_n dX6_rake_61 0 rfl ?_
  refine V_get (i := 2) inlX6 rfl (W_6 hw) rfl (by decide) q_23 rfl dX6_rake_62 ?_
  refine V_iload_n dX6_rake_65 1 rfl ?_
  refine V_iload_n dX6_rake_66 2 rfl ?_
  refine V_cV (k_X2_rakeUp l G hw g (W_20 hw) x1 x2 ) hy_X2_rakeUp hi_X2_rakeUp hs_X2_rakeUp q_468 rfl rfl (W_20 hw) rfl rfl rfl rfl rfl ⟨by decide, by decide⟩ (Nat.le_of_ble_eq_true rfl) ⟨by decide, by decide⟩ dX6_rake_67 (V_kM ?_)
  exact V_iret dX6_rake_70 rfl hQ
set_option maxRecDepth 100000 in
set_option maxHeartbeats 4000000 in
theorem k_X6_rake (l : Launch) (G : mm_G) {pr : Nat → Nat → Prop} {ad : Nat → Nat → Nat → Nat} (hw : mm_W pr) (g : mm_g) (x1 : Int32) (x2 : Int32) (hF : okF pr g) : Mt l G yX6_rake cX6_rake 3 (some .int) ({ frames := 4, cells := 5, slots := 40, locals := 132 }) [.ref (ad 6 0 0), .int x1, .int x2] pr ad g (qP pr ad (F_X6_rake g x1 x2)) 5 40 := by
  refine Mt_of (by decide) (Nat.le_of_ble_eq_true rfl) ?_
  show V l G RX6 cX6_rake 3 (some .int) _ _ 5 40 0 0 0 [(0, .ref (ad 6 0 0)), (1, .int x1), (2, .int x2)] [] pr ad g
  refine V_aload_n dX6_rake_0 0 rfl ?_
  refine V_get (i := 2) inlX6 rfl (W_6 hw) rfl (by decide) q_23 rfl dX6_rake_1 ?_
  refine V_iload_n dX6_rake_4 1 rfl ?_
  refine V_cV (k_X2_has l G hw g (W_20 hw) x1 ) hy_X2_has hi_X2_has hs_X2_has q_462 rfl rfl (W_20 hw) rfl rfl rfl rfl rfl ⟨by decide, by decide⟩ (Nat.le_of_ble_eq_true rfl) ⟨by decide, by decide⟩ dX6_rake_5 (V_kI ?_)
  refine V_if_eq (tgt := 21) dX6_rake_8 (by decide) (fun c_8 => ?_) (fun c_8 => ?_)
  · refine V_ldc q_108 dX6_rake_21 ?_
    refine V_wi (c2 := 5) (s2 := 40) (by decide) (by decide) ?_
    exact V_iret dX6_rake_23 rfl (lfP (by simp only [F_X6_rake, if_pos c_8]) mm_x0 hF)
  · refine V_iload_n dX6_rake_11 2 rfl ?_
    refine V_iconst (v := 1) dX6_rake_12 (by decide) ?_
    refine V_bipush (v := 99) dX6_rake_13 (by decide) ?_
    refine V_cS (k_X6_within l G hw g  x2 1 99 ) hy_X6_within hz_X6_within q_109 rfl rfl rfl rfl ⟨by decide, by decide⟩ (Nat.le_of_ble_eq_true rfl) ⟨by decide, by decide⟩ dX6_rake_15 (V_kI ?_)
    refine V_if_ne (tgt := 24) dX6_rake_18 (by decide) (fun c_18 => ?_) (fun c_18 => ?_)
    · refine V_aload_n dX6_rake_24 0 rfl ?_
      refine V_get (i := 2) inlX6 rfl (W_6 hw) rfl (by decide) q_23 rfl dX6_rake_25 ?_
      refine V_iload_n dX6_rake_28 1 rfl ?_
      refine V_cV (k_X2_hasVeto l G hw g (W_20 hw) x1 ) hy_X2_hasVeto hi_X2_hasVeto hs_X2_hasVeto q_463 rfl rfl (W_20 hw) rfl rfl rfl rfl rfl ⟨by decide, by decide⟩ (Nat.le_of_ble_eq_true rfl) ⟨by decide, by decide⟩ dX6_rake_29 (V_kI ?_)
      refine V_if_ne (tgt := 47) dX6_rake_32 (by decide) (fun c_32 => ?_) (fun c_32 => ?_)
      · refine V_ldc q_357 dX6_rake_47 ?_
        refine V_wi (c2 := 5) (s2 := 40) (by decide) (by decide) ?_
        exact V_iret dX6_rake_49 rfl (lfP (by simp only [F_X6_rake, if_neg c_8, if_neg c_18, if_neg c_32]) mm_x0 hF)
      · refine V_aload_n dX6_rake_35 0 rfl ?_
        refine V_get (i := 2) inlX6 rfl (W_6 hw) rfl (by decide) q_23 rfl dX6_rake_36 ?_
        refine V_iload_n dX6_rake_39 1 rfl ?_
        refine V_cV (k_X2_stockOf l G hw g (W_20 hw) x1 ) hy_X2_stockOf hi_X2_stockOf hs_X2_stockOf q_467 rfl rfl (W_20 hw) rfl rfl rfl rfl rfl ⟨by decide, by decide⟩ (Nat.le_of_ble_eq_true rfl) ⟨by decide, by decide⟩ dX6_rake_40 (V_kI ?_)
        refine V_iload_n dX6_rake_43 2 rfl ?_
        refine V_ic_ge (tgt := 50) dX6_rake_44 (by decide) (fun c_44 => ?_) (fun c_44 => ?_)
        · refine V_aload_n dX6_rake_50 0 rfl ?_
          refine V_get (i := 3) inlX6 rfl (W_6 hw) rfl (by decide) q_27 rfl dX6_rake_51 ?_
          refine V_aload_n dX6_rake_54 0 rfl ?_
          refine V_get (i := 2) inlX6 rfl (W_6 hw) rfl (by decide) q_23 rfl dX6_rake_55 ?_
          refine V_cV (k_X0_keep l G hw g (W_20 hw) hF) hy_X0_keep hi_X0_keep hs_X0_keep q_380 rfl rfl (W_0 hw) rfl rfl rfl rfl rfl ⟨by decide, by decide⟩ (Nat.le_of_ble_eq_true rfl) ⟨by decide, by decide⟩ dX6_rake_58 ?_
          rintro _ pr1 ad1 g1 ⟨rfl, rfl, hx, hF1⟩
          rw [show ad 6 0 0 = ad1 6 0 0 from (hx.2 _ _ _ (W_6 hw)).symm]
          refine w_X6_rake_61 (mm_xW hx hw) x1 x2 ?_
          exact lfP (by simp only [F_X6_rake, if_neg c_8, if_neg c_18, if_pos c_32, if_pos c_44]) hx (okF_to hF1 (fun t c ht => rakeUp_k ht))
        · refine V_ldc q_357 dX6_rake_47 ?_
          refine V_wi (c2 := 5) (s2 := 40) (by decide) (by decide) ?_
          exact V_iret dX6_rake_49 rfl (lfP (by simp only [F_X6_rake, if_neg c_8, if_neg c_18, if_pos c_32, if_neg c_44]) mm_x0 hF)
    · refine V_ldc q_108 dX6_rake_21 ?_
      refine V_wi (c2 := 5) (s2 := 40) (by decide) (by decide) ?_
      exact V_iret dX6_rake_23 rfl (lfP (by simp only [F_X6_rake, if_neg c_8, if_pos c_18]) mm_x0 hF)
def F_X6_rain (g : mm_g) (x1 : Int32) (x2 : Int32) : Int32 × mm_g := (if (F_X2_has g 0 x1) = 0 then ((-1000001), g) else (if (F_X6_within x2 0 9) = 0 then ((-1000001), g) else ((F_X2_warmOf g 0 x1), (F_X2_warmTo (F_X0_keep g 0) 0 x1 x2))))
set_option maxRecDepth 100000 in
set_option maxHeartbeats 4000000 in
theorem w_X6_rain_44 {l : Launch} {G : mm_G} {pr : Nat → Nat → Prop} {ad : Nat → Nat → Nat → Nat} {g : mm_g} {Q0 : mm_T} (hw : mm_W pr) (f3 : Int32) (x1 : Int32) (x2 : Int32) (hQ : Q0 (some (.int f3)) pr ad (F_X2_warmTo g 0 x1 x2)) : V l G RX6 cX6_rain 4 (some .int) ({ frames := 4, cells := 5, slots := 40, locals := 132 }) Q0 5 40 5 40 44 [(3, .int f3), (0, .ref (ad 6 0 0)), (1, .int x1), (2, .int x2)] [] pr ad g := by
  refine V_aload_n dX6_rain_44 1 rfl ?_
  refine V_get (i := 2) inlX6 rfl (W_6 hw) rfl (by decide) q_23 rfl dX6_rain_45 ?_
  refine V_iload_n dX6_rain_48 2 rfl ?_
  refine V_iload_n dX6_rain_49 3 rfl ?_
  refine V_cV (k_X2_warmTo l G hw g (W_20 hw) x1 x2 ) hy_X2_warmTo hi_X2_warmTo hs_X2_warmTo q_503 rfl rfl (W_20 hw) rfl rfl rfl rfl rfl ⟨by decide, by decide⟩ (Nat.le_of_ble_eq_true rfl) ⟨by decide, by decide⟩ dX6_rain_50 (V_kN ?_)
  refine V_iload_n dX6_rain_53 0 rfl ?_
  exact V_iret dX6_rain_54 rfl hQ
set_option maxRecDepth 100000 in
set_option maxHeartbeats 4000000 in
theorem k_X6_rain (l : Launch) (G : mm_G) {pr : Nat → Nat → Prop} {ad : Nat → Nat → Nat → Nat} (hw : mm_W pr) (g : mm_g) (x1 : Int32) (x2 : Int32) (hF : okF pr g) : Mt l G yX6_rain cX6_rain 4 (some .int) ({ frames := 4, cells := 5, slots := 40, locals := 132 }) [.ref (ad 6 0 0), .int x1, .int x2] pr ad g (qP pr ad (F_X6_rain g x1 x2)) 5 40 := by
  refine Mt_of (by decide) (Nat.le_of_ble_eq_true rfl) ?_
  show V l G RX6 cX6_rain 4 (some .int) _ _ 5 40 0 0 0 [(0, .ref (ad 6 0 0)), (1, .int x1), (2, .int x2)] [] pr ad g
  refine V_aload_n dX6_rain_0 0 rfl ?_
  refine V_get (i := 2) inlX6 rfl (W_6 hw) rfl (by decide) q_23 rfl dX6_rain_1 ?_
  refine V_iload_n dX6_rain_4 1 rfl ?_
  refine V_cV (k_X2_has l G hw g (W_20 hw) x1 ) hy_X2_has hi_X2_has hs_X2_has q_462 rfl rfl (W_20 hw) rfl rfl rfl rfl rfl ⟨by decide, by decide⟩ (Nat.le_of_ble_eq_true rfl) ⟨by decide, by decide⟩ dX6_rain_5 (V_kI ?_)
  refine V_if_eq (tgt := 21) dX6_rain_8 (by decide) (fun c_8 => ?_) (fun c_8 => ?_)
  · refine V_ldc q_108 dX6_rain_21 ?_
    refine V_wi (c2 := 5) (s2 := 40) (by decide) (by decide) ?_
    exact V_iret dX6_rain_23 rfl (lfP (by simp only [F_X6_rain, if_pos c_8]) mm_x0 hF)
  · refine V_iload_n dX6_rain_11 2 rfl ?_
    refine V_iconst (v := 0) dX6_rain_12 (by decide) ?_
    refine V_bipush (v := 9) dX6_rain_13 (by decide) ?_
    refine V_cS (k_X6_within l G hw g  x2 0 9 ) hy_X6_within hz_X6_within q_109 rfl rfl rfl rfl ⟨by decide, by decide⟩ (Nat.le_of_ble_eq_true rfl) ⟨by decide, by decide⟩ dX6_rain_15 (V_kI ?_)
    refine V_if_ne (tgt := 24) dX6_rain_18 (by decide) (fun c_18 => ?_) (fun c_18 => ?_)
    · refine V_aload_n dX6_rain_24 0 rfl ?_
      refine V_get (i := 2) inlX6 rfl (W_6 hw) rfl (by decide) q_23 rfl dX6_rain_25 ?_
      refine V_iload_n dX6_rain_28 1 rfl ?_
      refine V_cV (k_X2_warmOf l G hw g (W_20 hw) x1 ) hy_X2_warmOf hi_X2_warmOf hs_X2_warmOf q_499 rfl rfl (W_20 hw) rfl rfl rfl rfl rfl ⟨by decide, by decide⟩ (Nat.le_of_ble_eq_true rfl) ⟨by decide, by decide⟩ dX6_rain_29 (V_kI ?_)
      refine V_istore_n (L2 := [(3, .int (F_X2_warmOf g 0 x1)), (0, .ref (ad 6 0 0)), (1, .int x1), (2, .int x2)]) dX6_rain_32 (by decide) rfl ?_
      refine V_aload_n dX6_rain_33 1 rfl ?_
      refine V_get (i := 3) inlX6 rfl (W_6 hw) rfl (by decide) q_27 rfl dX6_rain_34 ?_
      refine V_aload_n dX6_rain_37 1 rfl ?_
      refine V_get (i := 2) inlX6 rfl (W_6 hw) rfl (by decide) q_23 rfl dX6_rain_38 ?_
      refine V_cV (k_X0_keep l G hw g (W_20 hw) hF) hy_X0_keep hi_X0_keep hs_X0_keep q_380 rfl rfl (W_0 hw) rfl rfl rfl rfl rfl ⟨by decide, by decide⟩ (Nat.le_of_ble_eq_true rfl) ⟨by decide, by decide⟩ dX6_rain_41 ?_
      rintro _ pr1 ad1 g1 ⟨rfl, rfl, hx, hF1⟩
      rw [show ad 6 0 0 = ad1 6 0 0 from (hx.2 _ _ _ (W_6 hw)).symm]
      refine w_X6_rain_44 (mm_xW hx hw) (F_X2_warmOf g 0 x1) x1 x2 ?_
      exact lfP (by simp only [F_X6_rain, if_neg c_8, if_neg c_18]) hx (okF_to hF1 (fun t c ht => warmTo_k ht))
    · refine V_ldc q_108 dX6_rain_21 ?_
      refine V_wi (c2 := 5) (s2 := 40) (by decide) (by decide) ?_
      exact V_iret dX6_rain_23 rfl (lfP (by simp only [F_X6_rain, if_neg c_8, if_pos c_18]) mm_x0 hF)
def F_X6_veto (g : mm_g) (x1 : Int32) (x2 : Int32) : Int32 × mm_g := (if (F_X2_has g 0 x1) = 0 then ((-1000001), g) else (if (F_X6_within x2 0 1) = 0 then ((-1000001), g) else (if x2 = 1 then (if (F_X2_hasVeto g 0 x1) = 1 then ((-1000002), g) else (((F_X2_turnVeto (F_X0_keep g 0) 0 x1) 2 0 5), (F_X2_turnVeto (F_X0_keep g 0) 0 x1))) else (if (F_X2_hasVeto g 0 x1) = 0 then ((-1000002), g) else (((F_X2_turnVeto (F_X0_keep g 0) 0 x1) 2 0 5), (F_X2_turnVeto (F_X0_keep g 0) 0 x1))))))
set_option maxRecDepth 100000 in
set_option maxHeartbeats 4000000 in
theorem w_X6_veto_58 {l : Launch} {G : mm_G} {pr : Nat → Nat → Prop} {ad : Nat → Nat → Nat → Nat} {g : mm_g} {Q0 : mm_T} (hw : mm_W pr) (x1 : Int32) (x2 : Int32) (hQ : Q0 (some (.int ((F_X2_turnVeto g 0 x1) 2 0 5))) pr ad (F_X2_turnVeto g 0 x1)) : V l G RX6 cX6_veto 3 (some .int) ({ frames := 4, cells := 5, slots := 40, locals := 132 }) Q0 5 40 5 40 58 [(0, .ref (ad 6 0 0)), (1, .int x1), (2, .int x2)] [] pr ad g := by
  refine V_aload_n dX6_veto_58 0 rfl ?_
  refine V_get (i := 2) inlX6 rfl (W_6 hw) rfl (by decide) q_23 rfl dX6_veto_59 ?_
  refine V_iload_n dX6_veto_62 1 rfl ?_
  refine V_cV (k_X2_turnVeto l G hw g (W_20 hw) x1 ) hy_X2_turnVeto hi_X2_turnVeto hs_X2_turnVeto q_516 rfl rfl (W_20 hw) rfl rfl rfl rfl rfl ⟨by decide, by decide⟩ (Nat.le_of_ble_eq_true rfl) ⟨by decide, by decide⟩ dX6_veto_63 (V_kN ?_)
  refine V_aload_n dX6_veto_66 0 rfl ?_
  refine V_get (i := 2) inlX6 rfl (W_6 hw) rfl (by decide) q_23 rfl dX6_veto_67 ?_
  refine V_getN (i := 3) inlX2 rfl (W_20 hw) rfl (by decide) nf_X6_180 rfl dX6_veto_70 ?_
  exact V_iret dX6_veto_73 rfl hQ
set_option maxRecDepth 100000 in
set_option maxHeartbeats 4000000 in
theorem k_X6_veto (l : Launch) (G : mm_G) {pr : Nat → Nat → Prop} {ad : Nat → Nat → Nat → Nat} (hw : mm_W pr) (g : mm_g) (x1 : Int32) (x2 : Int32) (hF : okF pr g) : Mt l G yX6_veto cX6_veto 3 (some .int) ({ frames := 4, cells := 5, slots := 40, locals := 132 }) [.ref (ad 6 0 0), .int x1, .int x2] pr ad g (qP pr ad (F_X6_veto g x1 x2)) 5 40 := by
  refine Mt_of (by decide) (Nat.le_of_ble_eq_true rfl) ?_
  show V l G RX6 cX6_veto 3 (some .int) _ _ 5 40 0 0 0 [(0, .ref (ad 6 0 0)), (1, .int x1), (2, .int x2)] [] pr ad g
  refine V_aload_n dX6_veto_0 0 rfl ?_
  refine V_get (i := 2) inlX6 rfl (W_6 hw) rfl (by decide) q_23 rfl dX6_veto_1 ?_
  refine V_iload_n dX6_veto_4 1 rfl ?_
  refine V_cV (k_X2_has l G hw g (W_20 hw) x1 ) hy_X2_has hi_X2_has hs_X2_has q_462 rfl rfl (W_20 hw) rfl rfl rfl rfl rfl ⟨by decide, by decide⟩ (Nat.le_of_ble_eq_true rfl) ⟨by decide, by decide⟩ dX6_veto_5 (V_kI ?_)
  refine V_if_eq (tgt := 20) dX6_veto_8 (by decide) (fun c_8 => ?_) (fun c_8 => ?_)
  · refine V_ldc q_108 dX6_veto_20 ?_
    refine V_wi (c2 := 5) (s2 := 40) (by decide) (by decide) ?_
    exact V_iret dX6_veto_22 rfl (lfP (by simp only [F_X6_veto, if_pos c_8]) mm_x0 hF)
  · refine V_iload_n dX6_veto_11 2 rfl ?_
    refine V_iconst (v := 0) dX6_veto_12 (by decide) ?_
    refine V_iconst (v := 1) dX6_veto_13 (by decide) ?_
    refine V_cS (k_X6_within l G hw g  x2 0 1 ) hy_X6_within hz_X6_within q_109 rfl rfl rfl rfl ⟨by decide, by decide⟩ (Nat.le_of_ble_eq_true rfl) ⟨by decide, by decide⟩ dX6_veto_14 (V_kI ?_)
    refine V_if_ne (tgt := 23) dX6_veto_17 (by decide) (fun c_17 => ?_) (fun c_17 => ?_)
    · refine V_aload_n dX6_veto_23 0 rfl ?_
      refine V_get (i := 2) inlX6 rfl (W_6 hw) rfl (by decide) q_23 rfl dX6_veto_24 ?_
      refine V_iload_n dX6_veto_27 1 rfl ?_
      refine V_cV (k_X2_hasVeto l G hw g (W_20 hw) x1 ) hy_X2_hasVeto hi_X2_hasVeto hs_X2_hasVeto q_463 rfl rfl (W_20 hw) rfl rfl rfl rfl rfl ⟨by decide, by decide⟩ (Nat.le_of_ble_eq_true rfl) ⟨by decide, by decide⟩ dX6_veto_28 (V_kI ?_)
      refine V_iload_n dX6_veto_31 2 rfl ?_
      refine V_iconst (v := 1) dX6_veto_32 (by decide) ?_
      refine V_ic_ne (tgt := 40) dX6_veto_33 (by decide) (fun c_33 => ?_) (fun c_33 => ?_)
      · refine V_iconst (v := 0) dX6_veto_40 (by decide) ?_
        refine V_ic_ne (tgt := 47) dX6_veto_41 (by decide) (fun c_41 => ?_) (fun c_41 => ?_)
        · refine V_aload_n dX6_veto_47 0 rfl ?_
          refine V_get (i := 3) inlX6 rfl (W_6 hw) rfl (by decide) q_27 rfl dX6_veto_48 ?_
          refine V_aload_n dX6_veto_51 0 rfl ?_
          refine V_get (i := 2) inlX6 rfl (W_6 hw) rfl (by decide) q_23 rfl dX6_veto_52 ?_
          refine V_cV (k_X0_keep l G hw g (W_20 hw) hF) hy_X0_keep hi_X0_keep hs_X0_keep q_380 rfl rfl (W_0 hw) rfl rfl rfl rfl rfl ⟨by decide, by decide⟩ (Nat.le_of_ble_eq_true rfl) ⟨by decide, by decide⟩ dX6_veto_55 ?_
          rintro _ pr1 ad1 g1 ⟨rfl, rfl, hx, hF1⟩
          rw [show ad 6 0 0 = ad1 6 0 0 from (hx.2 _ _ _ (W_6 hw)).symm]
          refine w_X6_veto_58 (mm_xW hx hw) x1 x2 ?_
          exact lfP (by simp only [F_X6_veto, if_neg c_8, if_neg c_17, if_neg c_33, if_neg c_41]) hx (okF_to hF1 (fun t c ht => turnVeto_k ht))
        · refine V_ldc q_357 dX6_veto_44 ?_
          refine V_wi (c2 := 5) (s2 := 40) (by decide) (by decide) ?_
          exact V_iret dX6_veto_46 rfl (lfP (by simp only [F_X6_veto, if_neg c_8, if_neg c_17, if_neg c_33, if_pos c_41]) mm_x0 hF)
      · refine V_iconst (v := 1) dX6_veto_36 (by decide) ?_
        refine V_goto (tgt := 41) dX6_veto_37 (by decide) ?_
        refine V_ic_ne (tgt := 47) dX6_veto_41 (by decide) (fun c_41 => ?_) (fun c_41 => ?_)
        · refine V_aload_n dX6_veto_47 0 rfl ?_
          refine V_get (i := 3) inlX6 rfl (W_6 hw) rfl (by decide) q_27 rfl dX6_veto_48 ?_
          refine V_aload_n dX6_veto_51 0 rfl ?_
          refine V_get (i := 2) inlX6 rfl (W_6 hw) rfl (by decide) q_23 rfl dX6_veto_52 ?_
          refine V_cV (k_X0_keep l G hw g (W_20 hw) hF) hy_X0_keep hi_X0_keep hs_X0_keep q_380 rfl rfl (W_0 hw) rfl rfl rfl rfl rfl ⟨by decide, by decide⟩ (Nat.le_of_ble_eq_true rfl) ⟨by decide, by decide⟩ dX6_veto_55 ?_
          rintro _ pr1 ad1 g1 ⟨rfl, rfl, hx, hF1⟩
          rw [show ad 6 0 0 = ad1 6 0 0 from (hx.2 _ _ _ (W_6 hw)).symm]
          refine w_X6_veto_58 (mm_xW hx hw) x1 x2 ?_
          exact lfP (by simp only [F_X6_veto, if_neg c_8, if_neg c_17, if_pos c_33, if_neg c_41]) hx (okF_to hF1 (fun t c ht => turnVeto_k ht))
        · refine V_ldc q_357 dX6_veto_44 ?_
          refine V_wi (c2 := 5) (s2 := 40) (by decide) (by decide) ?_
          exact V_iret dX6_veto_46 rfl (lfP (by simp only [F_X6_veto, if_neg c_8, if_neg c_17, if_pos c_33, if_pos c_41]) mm_x0 hF)
    · refine V_ldc q_108 dX6_veto_20 ?_
      refine V_wi (c2 := 5) (s2 := 40) (by decide) (by decide) ?_
      exact V_iret dX6_veto_22 rfl (lfP (by simp only [F_X6_veto, if_neg c_8, if_pos c_17]) mm_x0 hF)
def F_X6_stand (g : mm_g) (x1 : Int32) (x2 : Int32) : Int32 × mm_g := (if (F_X2_isNone g 0) = 0 then (if (F_X6_isOne x1) = 0 then ((-1000001), g) else (if (F_X6_within x2 0 8) = 0 then ((-1000001), g) else (if x1 = 0 then ((g 2 0 1), (F_X2_standIn (F_X0_keep g 0) 0 x1 x2)) else ((g 2 0 2), (F_X2_standIn (F_X0_keep g 0) 0 x1 x2))))) else ((-1000002), g))
set_option maxRecDepth 100000 in
set_option maxHeartbeats 4000000 in
theorem w_X6_stand_66 {l : Launch} {G : mm_G} {pr : Nat → Nat → Prop} {ad : Nat → Nat → Nat → Nat} {g : mm_g} {Q0 : mm_T} (hw : mm_W pr) (f3 : Int32) (x1 : Int32) (x2 : Int32) (hQ : Q0 (some (.int f3)) pr ad (F_X2_standIn g 0 x1 x2)) : V l G RX6 cX6_stand 4 (some .int) ({ frames := 4, cells := 5, slots := 40, locals := 132 }) Q0 5 40 5 40 66 [(3, .int f3), (0, .ref (ad 6 0 0)), (1, .int x1), (2, .int x2)] [] pr ad g := by
  refine V_aload_n dX6_stand_66 1 rfl ?_
  refine V_get (i := 2) inlX6 rfl (W_6 hw) rfl (by decide) q_23 rfl dX6_stand_67 ?_
  refine V_iload_n dX6_stand_70 2 rfl ?_
  refine V_iload_n dX6_stand_71 3 rfl ?_
  refine V_cV (k_X2_standIn l G hw g (W_20 hw) x1 x2 ) hy_X2_standIn hi_X2_standIn hs_X2_standIn q_531 rfl rfl (W_20 hw) rfl rfl rfl rfl rfl ⟨by decide, by decide⟩ (Nat.le_of_ble_eq_true rfl) ⟨by decide, by decide⟩ dX6_stand_72 (V_kN ?_)
  refine V_iload_n dX6_stand_75 0 rfl ?_
  exact V_iret dX6_stand_76 rfl hQ
set_option maxRecDepth 100000 in
set_option maxHeartbeats 4000000 in
theorem k_X6_stand (l : Launch) (G : mm_G) {pr : Nat → Nat → Prop} {ad : Nat → Nat → Nat → Nat} (hw : mm_W pr) (g : mm_g) (x1 : Int32) (x2 : Int32) (hF : okF pr g) : Mt l G yX6_stand cX6_stand 4 (some .int) ({ frames := 4, cells := 5, slots := 40, locals := 132 }) [.ref (ad 6 0 0), .int x1, .int x2] pr ad g (qP pr ad (F_X6_stand g x1 x2)) 5 40 := by
  refine Mt_of (by decide) (Nat.le_of_ble_eq_true rfl) ?_
  show V l G RX6 cX6_stand 4 (some .int) _ _ 5 40 0 0 0 [(0, .ref (ad 6 0 0)), (1, .int x1), (2, .int x2)] [] pr ad g
  refine V_aload_n dX6_stand_0 0 rfl ?_
  refine V_get (i := 2) inlX6 rfl (W_6 hw) rfl (by decide) q_23 rfl dX6_stand_1 ?_
  refine V_cV (k_X2_isNone l G hw g (W_20 hw)  ) hy_X2_isNone hi_X2_isNone hs_X2_isNone q_376 rfl rfl (W_20 hw) rfl rfl rfl rfl rfl ⟨by decide, by decide⟩ (Nat.le_of_ble_eq_true rfl) ⟨by decide, by decide⟩ dX6_stand_4 (V_kI ?_)
  refine V_if_eq (tgt := 13) dX6_stand_7 (by decide) (fun c_7 => ?_) (fun c_7 => ?_)
  · refine V_iload_n dX6_stand_13 1 rfl ?_
    refine V_cS (k_X6_isOne l G hw g  x1 ) hy_X6_isOne hz_X6_isOne q_528 rfl rfl rfl rfl ⟨by decide, by decide⟩ (Nat.le_of_ble_eq_true rfl) ⟨by decide, by decide⟩ dX6_stand_14 (V_kI ?_)
    refine V_if_eq (tgt := 30) dX6_stand_17 (by decide) (fun c_17 => ?_) (fun c_17 => ?_)
    · refine V_ldc q_108 dX6_stand_30 ?_
      refine V_wi (c2 := 5) (s2 := 40) (by decide) (by decide) ?_
      exact V_iret dX6_stand_32 rfl (lfP (by simp only [F_X6_stand, if_pos c_7, if_pos c_17]) mm_x0 hF)
    · refine V_iload_n dX6_stand_20 2 rfl ?_
      refine V_iconst (v := 0) dX6_stand_21 (by decide) ?_
      refine V_bipush (v := 8) dX6_stand_22 (by decide) ?_
      refine V_cS (k_X6_within l G hw g  x2 0 8 ) hy_X6_within hz_X6_within q_109 rfl rfl rfl rfl ⟨by decide, by decide⟩ (Nat.le_of_ble_eq_true rfl) ⟨by decide, by decide⟩ dX6_stand_24 (V_kI ?_)
      refine V_if_ne (tgt := 33) dX6_stand_27 (by decide) (fun c_27 => ?_) (fun c_27 => ?_)
      · refine V_iload_n dX6_stand_33 1 rfl ?_
        refine V_if_ne (tgt := 47) dX6_stand_34 (by decide) (fun c_34 => ?_) (fun c_34 => ?_)
        · refine V_aload_n dX6_stand_47 0 rfl ?_
          refine V_get (i := 2) inlX6 rfl (W_6 hw) rfl (by decide) q_23 rfl dX6_stand_48 ?_
          refine V_getN (i := 5) inlX2 rfl (W_20 hw) rfl (by decide) nf_X6_189 rfl dX6_stand_51 ?_
          refine V_istore_n (L2 := [(3, .int (g 2 0 2)), (0, .ref (ad 6 0 0)), (1, .int x1), (2, .int x2)]) dX6_stand_54 (by decide) rfl ?_
          refine V_aload_n dX6_stand_55 1 rfl ?_
          refine V_get (i := 3) inlX6 rfl (W_6 hw) rfl (by decide) q_27 rfl dX6_stand_56 ?_
          refine V_aload_n dX6_stand_59 1 rfl ?_
          refine V_get (i := 2) inlX6 rfl (W_6 hw) rfl (by decide) q_23 rfl dX6_stand_60 ?_
          refine V_cV (k_X0_keep l G hw g (W_20 hw) hF) hy_X0_keep hi_X0_keep hs_X0_keep q_380 rfl rfl (W_0 hw) rfl rfl rfl rfl rfl ⟨by decide, by decide⟩ (Nat.le_of_ble_eq_true rfl) ⟨by decide, by decide⟩ dX6_stand_63 ?_
          rintro _ pr1 ad1 g1 ⟨rfl, rfl, hx, hF1⟩
          rw [show ad 6 0 0 = ad1 6 0 0 from (hx.2 _ _ _ (W_6 hw)).symm]
          refine w_X6_stand_66 (mm_xW hx hw) (g 2 0 2) x1 x2 ?_
          exact lfP (by simp only [F_X6_stand, if_pos c_7, if_neg c_17, if_neg c_27, if_neg c_34]) hx (okF_to hF1 (fun t c ht => standIn_k ht))
        · refine V_aload_n dX6_stand_37 0 rfl ?_
          refine V_get (i := 2) inlX6 rfl (W_6 hw) rfl (by decide) q_23 rfl dX6_stand_38 ?_
          refine V_getN (i := 4) inlX2 rfl (W_20 hw) rfl (by decide) nf_X6_186 rfl dX6_stand_41 ?_
          refine V_goto (tgt := 54) dX6_stand_44 (by decide) ?_
          refine V_istore_n (L2 := [(3, .int (g 2 0 1)), (0, .ref (ad 6 0 0)), (1, .int x1), (2, .int x2)]) dX6_stand_54 (by decide) rfl ?_
          refine V_aload_n dX6_stand_55 1 rfl ?_
          refine V_get (i := 3) inlX6 rfl (W_6 hw) rfl (by decide) q_27 rfl dX6_stand_56 ?_
          refine V_aload_n dX6_stand_59 1 rfl ?_
          refine V_get (i := 2) inlX6 rfl (W_6 hw) rfl (by decide) q_23 rfl dX6_stand_60 ?_
          refine V_cV (k_X0_keep l G hw g (W_20 hw) hF) hy_X0_keep hi_X0_keep hs_X0_keep q_380 rfl rfl (W_0 hw) rfl rfl rfl rfl rfl ⟨by decide, by decide⟩ (Nat.le_of_ble_eq_true rfl) ⟨by decide, by decide⟩ dX6_stand_63 ?_
          rintro _ pr1 ad1 g1 ⟨rfl, rfl, hx, hF1⟩
          rw [show ad 6 0 0 = ad1 6 0 0 from (hx.2 _ _ _ (W_6 hw)).symm]
          refine w_X6_stand_66 (mm_xW hx hw) (g 2 0 1) x1 x2 ?_
          exact lfP (by simp only [F_X6_stand, if_pos c_7, if_neg c_17, if_neg c_27, if_pos c_34]) hx (okF_to hF1 (fun t c ht => standIn_k ht))
      · refine V_ldc q_108 dX6_stand_30 ?_
        refine V_wi (c2 := 5) (s2 := 40) (by decide) (by decide) ?_
        exact V_iret dX6_stand_32 rfl (lfP (by simp only [F_X6_stand, if_pos c_7, if_neg c_17, if_pos c_27]) mm_x0 hF)
  · refine V_ldc q_357 dX6_stand_10 ?_
    refine V_wi (c2 := 5) (s2 := 40) (by decide) (by decide) ?_
    exact V_iret dX6_stand_12 rfl (lfP (by simp only [F_X6_stand, if_neg c_7]) mm_x0 hF)
theorem ge_1 {v b : Int32} (h : ¬ F_X6_within v 1 b = 0) : 1 ≤ v.toInt := (F_X6_within_1 h).1
theorem le_24 {v a : Int32} (h : ¬ F_X6_within v a 24 = 0) : v.toInt ≤ 24 := (F_X6_within_1 h).2
set_option maxRecDepth 100000 in
set_option maxHeartbeats 4000000 in
theorem w_X6_tides_75 {l : Launch} {G : mm_G} {pr : Nat → Nat → Prop} {ad : Nat → Nat → Nat → Nat} {g : mm_g} {x1 : Int32} {j : Nat} {Q0 : mm_T} (hw : mm_W pr) (hQ : Q0 (some (.int (F_X2_allStock g 0))) pr ad g) : V l G RX6 cX6_tides 3 (some .int) ({ frames := 5, cells := 120, slots := 960, locals := 147 }) Q0 120 960 120 960 75 [(2, .int (nI j)), (0, .ref (ad 6 0 0)), (1, .int x1)] [] pr ad g := by
  refine V_aload_n dX6_tides_75 1 rfl ?_
  refine V_get (i := 2) inlX6 rfl (W_6 hw) rfl (by decide) q_23 rfl dX6_tides_76 ?_
  refine V_cV (k_X2_allStock l G hw g (W_20 hw)  ) hy_X2_allStock hi_X2_allStock hs_X2_allStock q_421 rfl rfl (W_20 hw) rfl rfl rfl rfl rfl ⟨by decide, by decide⟩ (Nat.le_of_ble_eq_true rfl) ⟨by decide, by decide⟩ dX6_tides_79 (V_kI ?_)
  exact V_iret dX6_tides_82 rfl hQ
set_option maxRecDepth 100000 in
set_option maxHeartbeats 4000000 in
theorem w_X6_tides_62 {l : Launch} {G : mm_G} {pr : Nat → Nat → Prop} {ad : Nat → Nat → Nat → Nat} {g : mm_g} {x1 : Int32} {j : Nat} {Q0 : mm_T} (hw : mm_W pr) {c s : Nat} (hc : c ≤ 120) (hs : s ≤ 960) (kk : V l G RX6 cX6_tides 3 (some .int) ({ frames := 5, cells := 120, slots := 960, locals := 147 }) Q0 120 960 c s 46 [(2, .int (nI (j + 1))), (0, .ref (ad 6 0 0)), (1, .int x1)] [] pr ad (F_X2_flow g 0)) : V l G RX6 cX6_tides 3 (some .int) ({ frames := 5, cells := 120, slots := 960, locals := 147 }) Q0 120 960 c s 62 [(2, .int (nI j)), (0, .ref (ad 6 0 0)), (1, .int x1)] [] pr ad g := by
  refine V_aload_n dX6_tides_62 1 rfl ?_
  refine V_get (i := 2) inlX6 rfl (W_6 hw) rfl (by decide) q_23 rfl dX6_tides_63 ?_
  refine V_cV (k_X2_flow l G hw g (W_20 hw)  ) hy_X2_flow hi_X2_flow hs_X2_flow q_388 rfl rfl (W_20 hw) rfl rfl rfl rfl rfl ⟨by decide, by decide⟩ (Nat.le_of_ble_eq_true rfl) ⟨hc, hs⟩ dX6_tides_66 (V_kN ?_)
  refine V_iinc (v := (nI (j + 1))) (L2 := [(2, .int (nI (j + 1))), (0, .ref (ad 6 0 0)), (1, .int x1)]) dX6_tides_69 0 rfl (nI_1 _) (by decide) rfl ?_
  refine V_goto (tgt := 46) dX6_tides_72 (by decide) ?_
  exact kk
def F_X6_tides_46 (x1 : Int32) : Nat → Nat → mm_g → mm_g
  | 0, _, s => s
  | n + 1, j, s => if x1 ≤ nI j then s else F_X6_tides_46 x1 n (j + 1) (F_X2_flow (F_X0_keep s 0) 0)
set_option maxRecDepth 100000 in
set_option maxHeartbeats 4000000 in
theorem w_X6_tides_46 {l : Launch} {G : mm_G} {x1 : Int32} {Q0 : mm_T} : ∀ {pr : Nat → Nat → Prop} {ad : Nat → Nat → Nat → Nat} {g : mm_g} (hw : mm_W pr) (h1 : 1 ≤ x1.toInt ∧ x1.toInt ≤ 24) (hF : okF pr g) (n j : Nat) (hj : j ≤ x1.toInt.toNat) (hm : x1.toInt.toNat - j < n) (hQ : ∀ pr2 ad2, mm_x pr ad pr2 ad2 → okF pr2 (F_X6_tides_46 x1 n j g) → Q0 (some (.int (F_X2_allStock (F_X6_tides_46 x1 n j g) 0))) pr2 ad2 (F_X6_tides_46 x1 n j g)), V l G RX6 cX6_tides 3 (some .int) ({ frames := 5, cells := 120, slots := 960, locals := 147 }) Q0 120 960 (5 * j) (40 * j) 46 [(2, .int (nI j)), (0, .ref (ad 6 0 0)), (1, .int x1)] [] pr ad g := by
  intro pr ad g hw h1 hF n
  induction n generalizing pr ad g with
  | zero => intro j hj hm; omega
  | succ n ih =>
      intro j hj hm hQ
      refine V_iload_n dX6_tides_46 0 rfl ?_
      refine V_iload_n dX6_tides_47 2 rfl ?_
      refine V_ic_ge (tgt := 75) dX6_tides_48 (by decide) (fun c_48 => ?_) (fun c_48 => ?_)
      · have e : F_X6_tides_46 x1 (n + 1) j g = g := if_pos c_48
        rw [e] at hQ
        refine V_wi (c2 := 120) (s2 := 960) (by omega) (by omega) ?_
        exact w_X6_tides_75 hw (hQ pr ad mm_x0 hF)
      · have e : F_X6_tides_46 x1 (n + 1) j g = F_X6_tides_46 x1 n (j + 1) (F_X2_flow (F_X0_keep g 0) 0) := if_neg c_48
        rw [e] at hQ
        have hlt := lp_up (x := x1) hj c_48 hm
        refine V_aload_n dX6_tides_51 1 rfl ?_
        refine V_get (i := 3) inlX6 rfl (W_6 hw) rfl (by decide) q_27 rfl dX6_tides_52 ?_
        refine V_aload_n dX6_tides_55 1 rfl ?_
        refine V_get (i := 2) inlX6 rfl (W_6 hw) rfl (by decide) q_23 rfl dX6_tides_56 ?_
        refine V_cV (k_X0_keep l G hw g (W_20 hw) hF) hy_X0_keep hi_X0_keep hs_X0_keep q_380 rfl rfl (W_0 hw) rfl rfl rfl rfl rfl ⟨by decide, by decide⟩ (Nat.le_of_ble_eq_true rfl) ⟨by show 5 * j + 5 ≤ 120; omega, by show 40 * j + 40 ≤ 960; omega⟩ dX6_tides_59 ?_
        rintro _ pr1 ad1 g1 ⟨rfl, rfl, hx, hF1⟩
        rw [show ad 6 0 0 = ad1 6 0 0 from (hx.2 _ _ _ (W_6 hw)).symm]
        refine w_X6_tides_62 (mm_xW hx hw) (by omega) (by omega) ?_
        exact ih (mm_xW hx hw) (okF_to hF1 (fun t c ht => flow_k ht)) (j + 1) hlt.1 hlt.2 (fun pr2 ad2 hx2 hF2 => hQ pr2 ad2 (mm_xx hx hx2) hF2)
def F_X6_tides (g : mm_g) (x1 : Int32) : Int32 × mm_g := (if (F_X2_isNone g 0) = 0 then (if (F_X6_within x1 1 24) = 0 then ((-1000001), g) else (if ((g 2 0 4) + x1) ≤ 999 then ((F_X2_allStock (F_X6_tides_46 x1 25 0 g) 0), (F_X6_tides_46 x1 25 0 g)) else ((-1000003), g))) else ((-1000002), g))
set_option maxRecDepth 100000 in
set_option maxHeartbeats 4000000 in
theorem k_X6_tides (l : Launch) (G : mm_G) {pr : Nat → Nat → Prop} {ad : Nat → Nat → Nat → Nat} (hw : mm_W pr) (g : mm_g) (x1 : Int32) (hF : okF pr g) : Mt l G yX6_tides cX6_tides 3 (some .int) ({ frames := 5, cells := 120, slots := 960, locals := 147 }) [.ref (ad 6 0 0), .int x1] pr ad g (qP pr ad (F_X6_tides g x1)) 120 960 := by
  refine Mt_of (by decide) (Nat.le_of_ble_eq_true rfl) ?_
  show V l G RX6 cX6_tides 3 (some .int) _ _ 120 960 0 0 0 [(0, .ref (ad 6 0 0)), (1, .int x1)] [] pr ad g
  refine V_aload_n dX6_tides_0 0 rfl ?_
  refine V_get (i := 2) inlX6 rfl (W_6 hw) rfl (by decide) q_23 rfl dX6_tides_1 ?_
  refine V_cV (k_X2_isNone l G hw g (W_20 hw)  ) hy_X2_isNone hi_X2_isNone hs_X2_isNone q_376 rfl rfl (W_20 hw) rfl rfl rfl rfl rfl ⟨by decide, by decide⟩ (Nat.le_of_ble_eq_true rfl) ⟨by decide, by decide⟩ dX6_tides_4 (V_kI ?_)
  refine V_if_eq (tgt := 13) dX6_tides_7 (by decide) (fun c_7 => ?_) (fun c_7 => ?_)
  · refine V_iload_n dX6_tides_13 1 rfl ?_
    refine V_iconst (v := 1) dX6_tides_14 (by decide) ?_
    refine V_bipush (v := 24) dX6_tides_15 (by decide) ?_
    refine V_cS (k_X6_within l G hw g  x1 1 24 ) hy_X6_within hz_X6_within q_109 rfl rfl rfl rfl ⟨by decide, by decide⟩ (Nat.le_of_ble_eq_true rfl) ⟨by decide, by decide⟩ dX6_tides_17 (V_kI ?_)
    refine V_if_ne (tgt := 26) dX6_tides_20 (by decide) (fun c_20 => ?_) (fun c_20 => ?_)
    · refine V_aload_n dX6_tides_26 0 rfl ?_
      refine V_get (i := 2) inlX6 rfl (W_6 hw) rfl (by decide) q_23 rfl dX6_tides_27 ?_
      refine V_getN (i := 1) inlX2 rfl (W_20 hw) rfl (by decide) nf_X6_144 rfl dX6_tides_30 ?_
      refine V_iload_n dX6_tides_33 1 rfl ?_
      refine V_iadd dX6_tides_34 ?_
      refine V_sipush (v := 999) dX6_tides_35 (by decide) ?_
      refine V_ic_le (tgt := 44) dX6_tides_38 (by decide) (fun c_38 => ?_) (fun c_38 => ?_)
      · refine V_iconst (v := 0) dX6_tides_44 (by decide) ?_
        refine V_istore_n (L2 := [(2, .int 0), (0, .ref (ad 6 0 0)), (1, .int x1)]) dX6_tides_45 (by decide) rfl ?_
        refine w_X6_tides_46 hw ⟨ge_1 c_20, le_24 c_20⟩ hF 25 0 (Nat.zero_le _) (by have := le_24 c_20; omega) (fun pr2 ad2 hx hF2 => ?_)
        exact lfP (by simp only [F_X6_tides, if_pos c_7, if_neg c_20, if_pos c_38]) hx hF2
      · refine V_ldc q_212 dX6_tides_41 ?_
        refine V_wi (c2 := 120) (s2 := 960) (by decide) (by decide) ?_
        exact V_iret dX6_tides_43 rfl (lfP (by simp only [F_X6_tides, if_pos c_7, if_neg c_20, if_neg c_38]) mm_x0 hF)
    · refine V_ldc q_108 dX6_tides_23 ?_
      refine V_wi (c2 := 120) (s2 := 960) (by decide) (by decide) ?_
      exact V_iret dX6_tides_25 rfl (lfP (by simp only [F_X6_tides, if_pos c_7, if_pos c_20]) mm_x0 hF)
  · refine V_ldc q_357 dX6_tides_10 ?_
    refine V_wi (c2 := 120) (s2 := 960) (by decide) (by decide) ?_
    exact V_iret dX6_tides_12 rfl (lfP (by simp only [F_X6_tides, if_neg c_7]) mm_x0 hF)
set_option maxRecDepth 100000 in
set_option maxHeartbeats 4000000 in
theorem w_X6_image_51 {l : Launch} {G : mm_G} {pr : Nat → Nat → Prop} {ad : Nat → Nat → Nat → Nat} {g : mm_g} {k : Nat} {x1 : Int32} {Q0 : mm_T} (hw : mm_W pr) (hk : pr 2 k) (hQ : Q0 (some (.int 1)) pr ad (F_X2_become g k 0)) : V l G RX6 cX6_image 3 (some .int) ({ frames := 2, cells := 5, slots := 40, locals := 82 }) Q0 5 40 5 40 51 [(2, .ref (ad 2 k 0)), (0, .ref (ad 6 0 0)), (1, .int x1)] [] pr ad g := by
  refine V_aload_n dX6_image_51 0 rfl ?_
  refine V_aload_n dX6_image_52 1 rfl ?_
  refine V_get (i := 2) inlX6 rfl (W_6 hw) rfl (by decide) q_23 rfl dX6_image_53 ?_
  refine V_cV (k_X2_become l G hw g hk (W_20 hw)  ) hy_X2_become hi_X2_become hs_X2_become q_292 rfl rfl hk rfl rfl rfl rfl rfl ⟨by decide, by decide⟩ (Nat.le_of_ble_eq_true rfl) ⟨by decide, by decide⟩ dX6_image_56 (V_kN ?_)
  refine V_iconst (v := 1) dX6_image_59 (by decide) ?_
  exact V_iret dX6_image_60 rfl hQ
def F_X6_image (g : mm_g) (x1 : Int32) : Int32 × mm_g := (if (F_X6_within x1 0 1) = 0 then ((-1000001), g) else (if (F_X2_isNone g 0) = 0 then (if g 6 1 x1.toNatClampNeg = 0 then (1, F_X2_become (wr (mw g 2 (26 + x1.toNatClampNeg) (fun _ => 0)) 6 1 x1.toNatClampNeg 1) (26 + x1.toNatClampNeg) 0) else (1, F_X2_become g (26 + x1.toNatClampNeg) 0)) else ((-1000002), g)))
set_option maxRecDepth 100000 in
set_option maxHeartbeats 4000000 in
theorem k_X6_image (l : Launch) (G : mm_G) {pr : Nat → Nat → Prop} {ad : Nat → Nat → Nat → Nat} (hw : mm_W pr) (g : mm_g) (x1 : Int32) (hF : okF pr g) : Mt l G yX6_image cX6_image 3 (some .int) ({ frames := 2, cells := 5, slots := 40, locals := 82 }) [.ref (ad 6 0 0), .int x1] pr ad g (qP pr ad (F_X6_image g x1)) 5 40 := by
  refine Mt_of (by decide) (Nat.le_of_ble_eq_true rfl) ?_
  show V l G RX6 cX6_image 3 (some .int) _ _ 5 40 0 0 0 [(0, .ref (ad 6 0 0)), (1, .int x1)] [] pr ad g
  refine V_iload_n dX6_image_0 1 rfl ?_
  refine V_iconst (v := 0) dX6_image_1 (by decide) ?_
  refine V_iconst (v := 1) dX6_image_2 (by decide) ?_
  refine V_cS (k_X6_within l G hw g  x1 0 1 ) hy_X6_within hz_X6_within q_109 rfl rfl rfl rfl ⟨by decide, by decide⟩ (Nat.le_of_ble_eq_true rfl) ⟨by decide, by decide⟩ dX6_image_3 (V_kI ?_)
  refine V_if_ne (tgt := 12) dX6_image_6 (by decide) (fun c_6 => ?_) (fun c_6 => ?_)
  · refine V_aload_n dX6_image_12 0 rfl ?_
    refine V_get (i := 2) inlX6 rfl (W_6 hw) rfl (by decide) q_23 rfl dX6_image_13 ?_
    refine V_cV (k_X2_isNone l G hw g (W_20 hw)  ) hy_X2_isNone hi_X2_isNone hs_X2_isNone q_376 rfl rfl (W_20 hw) rfl rfl rfl rfl rfl ⟨by decide, by decide⟩ (Nat.le_of_ble_eq_true rfl) ⟨by decide, by decide⟩ dX6_image_16 (V_kI ?_)
    refine V_if_eq (tgt := 25) dX6_image_19 (by decide) (fun c_19 => ?_) (fun c_19 => ?_)
    · refine V_aload_n dX6_image_25 0 rfl ?_
      refine V_get (i := 4) inlX6 rfl (W_6 hw) rfl (by decide) q_28 rfl dX6_image_26 ?_
      refine V_iload_n dX6_image_29 1 rfl ?_
      have hin := ix_w1 c_6
      have hlt := vp_lt hin
      by_cases o_30 : g 6 1 x1.toNatClampNeg = 0
      · have hk : ¬ pr 2 (26 + x1.toNatClampNeg) := hF.2.2.2 _ hlt o_30
        refine A_6_N (W_6 hw) hin o_30 dX6_image_30 ?_
        refine V_astN (L2 := [(2, .null), (0, .ref (ad 6 0 0)), (1, .int x1)]) dX6_image_31 (by decide) rfl ?_
        refine V_aldN dX6_image_32 0 rfl ?_
        refine V_nnN dX6_image_33 ?_
        refine V_newF (k := 26 + x1.toNatClampNeg) hk (by omega) (by omega) (fun i hi z => by have := (hF.1 i hi).1; omega) (fun i hi z => by rw [show i = x1.toNatClampNeg by omega] at hi; exact hi o_30) q_20 q_21 nm_X6_25 dX6_image_36 dX6_image_39 dX6_image_40 ⟨by decide, by decide⟩ (Nat.le_of_ble_eq_true rfl) (by decide) (by decide) (fun q u1 u2 u3 u4 => ?_)
        have hx := mm_xU (pr := pr) (ad := ad) (q := q) (u1 := u1) (u2 := u2) (u3 := u3) (u4 := u4) hk
        have hw1 := mm_xW hx hw
        rw [show ad 6 0 0 = adU ad (26 + x1.toNatClampNeg) q u1 u2 u3 u4 6 0 0 from (hx.2 _ _ _ (W_6 hw)).symm]
        have hp : (prU pr (26 + x1.toNatClampNeg)) 2 (26 + x1.toNatClampNeg) := Or.inr ⟨rfl, rfl⟩
        refine V_astore_n (L2 := [(2, .ref (adU ad (26 + x1.toNatClampNeg) q u1 u2 u3 u4 2 (26 + x1.toNatClampNeg) 0)), (0, .ref (adU ad (26 + x1.toNatClampNeg) q u1 u2 u3 u4 6 0 0)), (1, .int x1)]) dX6_image_43 (by decide) rfl ?_
        refine V_aload_n dX6_image_44 1 rfl ?_
        refine V_get (i := 4) inlX6 rfl (W_6 hw1) rfl (by decide) q_28 rfl dX6_image_45 ?_
        refine V_iload_n dX6_image_48 2 rfl ?_
        refine V_aload_n dX6_image_49 0 rfl ?_
        refine AS_6 rfl (W_6 hw1) hp hin dX6_image_50 ?_
        refine w_X6_image_51 hw1 hp ?_
        refine lfP (by simp only [F_X6_image, if_neg c_6, if_pos c_19, if_pos o_30]) hx ?_
        refine okF_to (g := wr (mw g 2 (26 + x1.toNatClampNeg) (fun _ => 0)) 6 1 x1.toNatClampNeg 1) ?_ (fun t c ht => become_k ht)
        unfold okF
        rw [wr_key, wr_ne (t' := 0) _ _ _ (by decide), mw_n (t' := 0) _ _ (fun z => absurd z.1 (by decide)), mw_n (t' := 6) _ _ (fun z => absurd z.1 (by decide))]
        refine ⟨fun j hj => ?_, fun j hlj hj hp => ?_, fun j hj => ?_, fun j hlj hj hp => ?_⟩
        · exact ⟨(hF.1 j hj).1, Or.inl (hF.1 j hj).2⟩
        · rcases hp with hp | hp
          · exact hF.2.1 j hlj hj hp
          · omega
        · by_cases e : j = x1.toNatClampNeg
          · exact ⟨by omega, Or.inr ⟨rfl, by omega⟩⟩
          · rw [upd, if_neg e] at hj
            exact ⟨(hF.2.2.1 j hj).1, Or.inl (hF.2.2.1 j hj).2⟩
        · by_cases e : j = x1.toNatClampNeg
          · rw [upd, if_pos e] at hj
            exact absurd hj (by decide)
          · rw [upd, if_neg e] at hj
            rcases hp with hp | hp
            · exact hF.2.2.2 j hlj hj hp
            · omega
      · have hp := (hF.2.2.1 _ o_30).2
        refine A_6_R (W_6 hw) hin o_30 dX6_image_30 ?_
        refine V_astore_n (L2 := [(2, .ref (ad 2 (26 + x1.toNatClampNeg) 0)), (0, .ref (ad 6 0 0)), (1, .int x1)]) dX6_image_31 (by decide) rfl ?_
        refine V_aload_n dX6_image_32 0 rfl ?_
        refine V_nnR (tgt := 51) dX6_image_33 (by decide) ?_
        refine V_wi (c2 := 5) (s2 := 40) (by decide) (by decide) ?_
        refine w_X6_image_51 hw hp ?_
        exact lfP (by simp only [F_X6_image, if_neg c_6, if_pos c_19, if_neg o_30]) mm_x0 (okF_to hF (fun t c ht => become_k ht))
    · refine V_ldc q_357 dX6_image_22 ?_
      refine V_wi (c2 := 5) (s2 := 40) (by decide) (by decide) ?_
      exact V_iret dX6_image_24 rfl (lfP (by simp only [F_X6_image, if_neg c_6, if_neg c_19]) mm_x0 hF)
  · refine V_ldc q_108 dX6_image_9 ?_
    refine V_wi (c2 := 5) (s2 := 40) (by decide) (by decide) ?_
    exact V_iret dX6_image_11 rfl (lfP (by simp only [F_X6_image, if_pos c_6]) mm_x0 hF)
