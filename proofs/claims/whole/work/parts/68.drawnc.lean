theorem yrT_F {s : mm_g} {rec : mm_g → mm_g} {f : Fl} {b : Nat} (v : Vd f) (hb : b < nb f) : yrT rec (nI b) (F_X2_flow (mw s 2 1 f) 1) = rec (mw s 2 1 (if vetoF (tideF f) b = 0 then rakeF (tideF f) b (tideF f (18 + b)) else tideF f)) := by
  have vT := tideF_vd v
  have bT : b < nb (tideF f) := by rw [tideF_nb v]; exact hb
  have e1 : F_X2_flow (mw s 2 1 f) 1 = mw s 2 1 (tideF f) := by rw [flow_F (by rw [mw_s]; exact v), mw_s, mw_w]
  unfold yrT
  rw [e1, hasVeto_F (by rw [mw_s]; exact vT) (by rw [mw_s]; exact bT), stockOf_F (by rw [mw_s]; exact vT) (by rw [mw_s]; exact bT), rake_F (by rw [mw_s]; exact vT) (by rw [mw_s]; exact bT), mw_s, mw_w]
  by_cases z : vetoF (tideF f) b = 0
  · rw [if_pos z, if_pos z]
  · rw [if_neg z, if_neg z]
theorem yrC_F {s : mm_g} {rec : mm_g → mm_g} {p2 p3 : Prop} {d2 : Decidable p2} {d3 : Decidable p3} {c w b : Nat} (v : Vd (s 2 1)) (hc : c < 9) (hw : w < 10) (hb : b < nb (s 2 1)) : yrC s rec p2 p3 d2 d3 (nI c) (nI w) (nI b) = rec (mw s 2 1 (yrF p2 p3 d2 d3 c w b (s 2 1))) := by
  have kw : ∀ (f : Fl), Vd f → b < nb f → F_X2_warmTo (mw s 2 1 f) 1 (nI b) (nI w) = mw s 2 1 (upd f (27 + b) (nI w)) := fun f vf hf => by
    rw [warmTo_F (by rw [mw_s]; exact vf) (by rw [mw_s]; exact hf), mw_s, mw_w]
  have v0 := cell_vd (w := 0) (j := c) (Or.inl rfl) hc v
  have v1 := cell_vd (w := 1) (j := c) (Or.inr rfl) hc v
  have b0 : b < nb (cellF (s 2 1) 0 (nI c)) := by rw [cell_nb (Or.inl rfl)]; exact hb
  have b1 : b < nb (cellF (s 2 1) 1 (nI c)) := by rw [cell_nb (Or.inr rfl)]; exact hb
  have w0 := warm_vd (b := b) (w := w) v0 (by omega)
  have w1 := warm_vd (b := b) (w := w) v1 (by omega)
  have c0' : b < nb (upd (cellF (s 2 1) 0 (nI c)) (27 + b) (nI w)) := by rw [upd_nb (by omega)]; exact b0
  have c1' : b < nb (upd (cellF (s 2 1) 1 (nI c)) (27 + b) (nI w)) := by rw [upd_nb (by omega)]; exact b1
  unfold yrC yrF
  dsimp only
  rw [stand_F (g := s) (k := 1) (w := 0) (x := nI c) (Or.inl rfl), stand_F (g := s) (k := 1) (w := 1) (x := nI c) (Or.inr rfl), kw _ v0 b0, kw _ v1 b1, yrT_F w0 c0', yrT_F v0 b0, yrT_F w1 c1', yrT_F v1 b1]
  by_cases q2 : p2
  · by_cases q3 : p3
    · simp only [if_pos q2, if_pos q3]
    · simp only [if_pos q2, if_neg q3]
  · by_cases q3 : p3
    · simp only [if_neg q2, if_pos q3]
    · simp only [if_neg q2, if_neg q3]
theorem yrT7_F {s : mm_g} {rec : mm_g → Int32 × mm_g} {f : Fl} {b : Nat} (v : Vd f) (hb : b < nb f) : yrT7 rec (nI b) (F_X7_oneTide (mw s 7 4 f)) = rec (mw s 7 4 (if vetoF (tideF f) b = 0 then rakeF (tideF f) b (tideF f (18 + b)) else tideF f)) := by
  have h9 := v.n9
  have vT := tideF_vd v
  have bT : b < nb (tideF f) := by rw [tideF_nb v]; exact hb
  have e1 : F_X7_oneTide (mw s 7 4 f) = mw s 7 4 (tideF f) := by rw [oneTide_F (by rw [mw_s]; exact v), mw_s, mw_w]
  unfold yrT7
  rw [e1, hasVeto7_F, rake7_F (by omega), mw_s, mw_w, c18 (by omega)]
  by_cases z : vetoF (tideF f) b = 0
  · rw [if_pos z, if_pos z]
  · rw [if_neg z, if_neg z]
theorem yrC7_F {s : mm_g} {rec : mm_g → Int32 × mm_g} {p2 p3 : Prop} {d2 : Decidable p2} {d3 : Decidable p3} {c w b : Nat} (v : Vd (s 7 4)) (hc : c < 9) (hw : w < 10) (hb : b < nb (s 7 4)) : yrC7 s rec p2 p3 d2 d3 (nI c) (nI w) (nI b) = rec (mw s 7 4 (yrF p2 p3 d2 d3 c w b (s 7 4))) := by
  have h9 := v.n9
  have e0 : wr s 7 4 ((1 : Int32) + 0).toNatClampNeg (nI c) = mw s 7 4 (cellF (s 7 4) 0 (nI c)) := rfl
  have e1 : wr s 7 4 ((1 : Int32) + 1).toNatClampNeg (nI c) = mw s 7 4 (cellF (s 7 4) 1 (nI c)) := rfl
  have kw : ∀ (f : Fl), wr (mw s 7 4 f) 7 4 (27 + b) (nI w) = mw s 7 4 (upd f (27 + b) (nI w)) := fun f => by
    unfold wr
    rw [mw_s, mw_w]
  have v0 := cell_vd (w := 0) (j := c) (Or.inl rfl) hc v
  have v1 := cell_vd (w := 1) (j := c) (Or.inr rfl) hc v
  have b0 : b < nb (cellF (s 7 4) 0 (nI c)) := by rw [cell_nb (Or.inl rfl)]; exact hb
  have b1 : b < nb (cellF (s 7 4) 1 (nI c)) := by rw [cell_nb (Or.inr rfl)]; exact hb
  have w0 := warm_vd (b := b) (w := w) v0 (by omega)
  have w1 := warm_vd (b := b) (w := w) v1 (by omega)
  have c0' : b < nb (upd (cellF (s 7 4) 0 (nI c)) (27 + b) (nI w)) := by rw [upd_nb (by omega)]; exact b0
  have c1' : b < nb (upd (cellF (s 7 4) 1 (nI c)) (27 + b) (nI w)) := by rw [upd_nb (by omega)]; exact b1
  unfold yrC7 yrF
  dsimp only
  rw [e0, e1, c27 (by omega), kw, kw, yrT7_F w0 c0', yrT7_F v0 b0, yrT7_F w1 c1', yrT7_F v1 b1]
  by_cases q2 : p2
  · by_cases q3 : p3
    · simp only [if_pos q2, if_pos q3]
    · simp only [if_pos q2, if_neg q3]
  · by_cases q3 : p3
    · simp only [if_neg q2, if_pos q3]
    · simp only [if_neg q2, if_neg q3]
theorem year_31 {N : Nat} {x2 : Int32} {K : Int64 → Nat → mm_g → mm_g} (hK : ∀ y j s, K y j s = s) (hN : N < 1000) : ∀ (m n : Nat) (y : Int64) (j : Nat) (s : mm_g), m + j = N → m < n → (0 ≤ y.toInt ∧ y.toInt < 2147483648) → Vd (s 2 1) → 0 < nb (s 2 1) → F_X3_afterYears_31 0 (nI N) x2 K n y j s = mw s 2 1 (yrL m y (s 2 1)) := by
  intro m
  induction m with
  | zero =>
    intro n y j s h1 h2 hy v h0
    obtain ⟨n1, e⟩ : ∃ n1, n = n1 + 1 := ⟨n - 1, by omega⟩
    subst e
    rw [y31_eq, if_pos (show nI N ≤ nI j from nI_le (by omega) (by omega)), hK, yrL_0, mw_i]
  | succ m ih =>
    intro n y j s h1 h2 hy v h0
    obtain ⟨n1, e⟩ : ∃ n1, n = n1 + 1 := ⟨n - 1, by omega⟩
    subst e
    have h9 := v.n9
    have hX := nx_p hy
    have hk : (s 2 1 0).toInt64.toInt = nb (s 2 1) := by rw [Int32.toInt_toInt64, v.f0, nI_toInt (by omega)]
    obtain ⟨hc, ec⟩ := rem_n (X := nx y) (k := 9) (m := 9) hX.1 rfl (by decide) (by decide)
    obtain ⟨hw, ew⟩ := rem_n (X := nx y) (k := 10) (m := 10) hX.1 rfl (by decide) (by decide)
    obtain ⟨hb, eb⟩ := rem_n (X := nx y) (m := nb (s 2 1)) hX.1 hk h0 (by omega)
    have hS := yrS_s hX.1 v h0 EqF.rfl
    rw [y31_eq, if_neg (show ¬ nI N ≤ nI j from nI_ge (by omega) (by omega)), ec, ew, eb, yrC_F v hc hw hb, yrL_1]
    have go := ih n1 (nx y) (j + 1) (mw s 2 1 (yrS (nx y) (s 2 1))) (by omega) (by omega) hX (by rw [mw_s]; exact hS.1) (by rw [mw_s, hS.2.1]; exact h0)
    rw [mw_s, mw_w] at go
    unfold yrS at go ⊢
    exact go
theorem drawn_60 {N : Nat} {x2 x3 : Int32} {g : mm_g} {K : Int64 → Nat → mm_g → Int32 × mm_g} (hN : N < 1000) : ∀ (m n : Nat) (y : Int64) (j : Nat) (s : mm_g), m + j = N → m < n → (0 ≤ y.toInt ∧ y.toInt < 2147483648) → Vd (s 7 4) → 0 < nb (s 7 4) → Sw g s → ∃ y2 s2, F_X7_drawn_60 (nI N) x2 x3 K n y j s = K y2 N s2 ∧ s2 7 4 = yrL m y (s 7 4) ∧ Sw g s2 := by
  intro m
  induction m with
  | zero =>
    intro n y j s h1 h2 hy v h0 hs
    obtain ⟨n1, e⟩ : ∃ n1, n = n1 + 1 := ⟨n - 1, by omega⟩
    subst e
    unfold F_X7_drawn_60
    refine ⟨y, s, ?_, by rw [yrL_0], hs⟩
    rw [if_pos (show nI N ≤ nI j from nI_le (by omega) (by omega)), show j = N by omega]
  | succ m ih =>
    intro n y j s h1 h2 hy v h0 hs
    obtain ⟨n1, e⟩ : ∃ n1, n = n1 + 1 := ⟨n - 1, by omega⟩
    subst e
    have h9 := v.n9
    have hX := nx_p hy
    have hk : (s 7 4 0).toInt64.toInt = nb (s 7 4) := by rw [Int32.toInt_toInt64, v.f0, nI_toInt (by omega)]
    obtain ⟨hc, ec⟩ := rem_n (X := nx y) (k := 9) (m := 9) hX.1 rfl (by decide) (by decide)
    obtain ⟨hw, ew⟩ := rem_n (X := nx y) (k := 10) (m := 10) hX.1 rfl (by decide) (by decide)
    obtain ⟨hb, eb⟩ := rem_n (X := nx y) (m := nb (s 7 4)) hX.1 hk h0 (by omega)
    have hS := yrS_s hX.1 v h0 EqF.rfl
    obtain ⟨y2, s2, g1, g2, g3⟩ := ih n1 (nx y) (j + 1) (mw s 7 4 (yrS (nx y) (s 7 4))) (by omega) (by omega) hX (by rw [mw_s]; exact hS.1) (by rw [mw_s, hS.2.1]; exact h0) (Sw_f hs)
    rw [mw_s] at g2
    refine ⟨y2, s2, ?_, by rw [yrL_1]; exact g2, g3⟩
    rw [y60_eq, if_neg (show ¬ nI N ≤ nI j from nI_ge (by omega) (by omega)), ec, ew, eb, yrC7_F v hc hw hb]
    unfold yrS at g1
    exact g1
theorem e_drawn {n : Nat} {g : mm_g} {x1 x2 x3 : Int32} (hr : Rel n g) : Ok n g (F_X6_drawn g x1 x2 x3) (fun s => F_X7_drawn s x1 x2 x3) ∧ Fr g (F_X6_drawn g x1 x2 x3).2 := by
  have hv := hr.now.1
  have h9 := hv.n9
  by_cases q1 : nb (g 2 0) = 0
  · refine Ok_b hr (a := -1000002) ?_ ?_
    · unfold F_X6_drawn; rw [if_neg (fun z => (isN_2 hr).mp z q1)]
    · show F_X7_drawn g x1 x2 x3 = _
      unfold F_X7_drawn; rw [if_pos ((there_2 hr).mpr q1)]
  · by_cases q2 : F_X6_within x1 0 60 = 0
    · refine Ok_b hr (a := -1000001) ?_ ?_
      · unfold F_X6_drawn; rw [if_pos ((isN_2 hr).mpr q1), if_pos q2]
      · show F_X7_drawn g x1 x2 x3 = _
        unfold F_X7_drawn; rw [if_neg (fun z => q1 ((there_2 hr).mp z)), in_w (a := 0) (b := 60) (A := 0) (B := 60) rfl rfl, if_pos q2]
    · by_cases q3 : F_X6_within x2 1 999999 = 0
      · refine Ok_b hr (a := -1000001) ?_ ?_
        · unfold F_X6_drawn; rw [if_pos ((isN_2 hr).mpr q1), if_neg q2, if_pos q3]
        · show F_X7_drawn g x1 x2 x3 = _
          unfold F_X7_drawn; rw [if_neg (fun z => q1 ((there_2 hr).mp z)), in_w (a := 0) (b := 60) (A := 0) (B := 60) rfl rfl, if_neg q2, in_w (a := 1) (b := 999999) (A := 1) (B := 999999) rfl rfl, if_pos q3]
      · by_cases q4 : F_X6_within x3 0 2 = 0
        · refine Ok_b hr (a := -1000001) ?_ ?_
          · unfold F_X6_drawn; rw [if_pos ((isN_2 hr).mpr q1), if_neg q2, if_neg q3, if_pos q4]
          · show F_X7_drawn g x1 x2 x3 = _
            unfold F_X7_drawn; rw [if_neg (fun z => q1 ((there_2 hr).mp z)), in_w (a := 0) (b := 60) (A := 0) (B := 60) rfl rfl, if_neg q2, in_w (a := 1) (b := 999999) (A := 1) (B := 999999) rfl rfl, if_neg q3, in_w (a := 0) (b := 2) (A := 0) (B := 2) rfl rfl, if_pos q4]
        · obtain ⟨N, hN, e⟩ := within_nI (n := 60) (by decide) q2
          subst e
          have hy := sd_y (x := x2) (by rw [in_w (a := 1) (b := 999999) (A := 1) (B := 999999) rfl rfl]; exact q3)
          have hE := then_E hv
          have hvT := hE.vd hv
          have hnT : nb (thenF g) = nb (g 2 0) := hE.nb
          have eA : F_X3_afterYears g 0 (nI N) x2 = mw g 2 1 (yrL N x2.toInt64 (thenF g)) := by
            unfold F_X3_afterYears
            rw [become_1, if_pos (by rw [mw_s, hvT.f0, hnT]; exact nI_le (a := 1) (by omega) (by omega)), year_31 (N := N) (x2 := x2) (fun _ _ _ => rfl) (by omega) N ((nI N).toInt.toNat + 1) x2.toInt64 0 (mw g 2 1 (thenF g)) (Nat.add_zero N) (by rw [nI_n (by omega)]; omega) hy (by rw [mw_s]; exact hvT) (by rw [mw_s, hnT]; omega), mw_s, mw_w]
          obtain ⟨b1, b2, b3⟩ := yrL_s N x2.toInt64 (g 2 0) (thenF g) hy hv (by omega) hE
          obtain ⟨w, hw, ew⟩ := within_nI (n := 2) (by decide) q4
          have e : F_X6_drawn g (nI N) x2 x3 = (yrL N x2.toInt64 (g 2 0) (6 + w), mw g 2 1 (yrL N x2.toInt64 (thenF g))) := by
            unfold F_X6_drawn F_X2_countedFor; rw [if_pos ((isN_2 hr).mpr q1), if_neg q2, if_neg q3, if_neg q4, eA, if_neg q4, mw_s, ew, c0 (by omega), b3.lo (6 + w) (by omega)]
          rw [e]
          refine Ok_p hr _ rfl (Sc_2 Sc_r) (fun s hs h2 => ?_)
          have he := hs.now.2.2.1
          have v7 := hs.vd7
          have hn7 : nb (s 7 4) = nb (g 2 0) := by rw [he.nb, h2]
          obtain ⟨y2, s2, r1, r2, r3⟩ := drawn_60 (x2 := x2) (x3 := x3) (g := s) (K := fun (y60 : Int64) (j60 : Nat) (s60 : mm_g) => ((s60 7 4 (6 + x3).toNatClampNeg), (F_X7_takeBack s60))) (show N < 1000 by omega) N ((nI N).toInt.toNat + 1) x2.toInt64 0 (F_X7_putAside s) rfl (by rw [nI_n (by omega)]; omega) hy (by rw [aside_4F]; exact v7) (by rw [aside_4F, hn7]; omega) Sw_a
          rw [aside_4F] at r2
          obtain ⟨d1, d2, d3⟩ := yrL_s N x2.toInt64 (s 2 0) (s 7 4) hy hs.now.1 (by rw [h2]; omega) he
          have e7 : F_X7_drawn s (nI N) x2 x3 = (yrL N x2.toInt64 (g 2 0) (6 + w), F_X7_takeBack s2) := by
            unfold F_X7_drawn; rw [if_neg (fun z => q1 (by rw [← h2]; exact (there_2 hs).mp z)), in_w (a := 0) (b := 60) (A := 0) (B := 60) rfl rfl, if_neg q2, in_w (a := 1) (b := 999999) (A := 1) (B := 999999) rfl rfl, if_neg q3, in_w (a := 0) (b := 2) (A := 0) (B := 2) rfl rfl, if_neg q4, r1, r2, ew, c6 (by omega), ← d3.lo (6 + w) (by omega), h2]
          show (F_X7_drawn s (nI N) x2 x3).1 = _ ∧ Sr s (F_X7_drawn s (nI N) x2 x3).2
          rw [e7]
          exact ⟨rfl, Sw_b r3⟩
