theorem Ok_p {n : Nat} {g : mm_g} {R : Int32 × mm_g} {Q : mm_g → Int32 × mm_g} (hr : Rel n g) (A : Int32) (h1 : R.1 = A) (h2 : Sc g R.2) (hq : ∀ s, Rel n s → s 2 0 = g 2 0 → (Q s).1 = A ∧ Sr s (Q s).2) : Ok n g R Q ∧ Fr g R.2 := by
  have h := hq R.2 (hr.sc h2) (h2 2 0 (by decide) (by decide))
  exact Ok_s hr h2 h.2 (h.1.trans h1.symm)
theorem no_bed {n : Nat} {g : mm_g} {x : Int32} (hr : Rel n g) : F_X7_isBed g x = hasF (g 2 0) x := (has_2 hr).2
theorem no_bed2 {n : Nat} {g : mm_g} {x : Int32} (hr : Rel n g) : F_X2_has g 0 x = hasF (g 2 0) x := (has_2 hr).1
theorem there_2 {n : Nat} {g : mm_g} (hr : Rel n g) : g 7 0 1 = 0 ↔ nb (g 2 0) = 0 := by
  rw [hr.now.2.2.2]
  by_cases q : 1 ≤ nb (g 2 0)
  · rw [if_pos q]
    exact ⟨fun z => absurd z (by decide), fun z => by omega⟩
  · rw [if_neg q]
    exact ⟨fun _ => by omega, fun _ => rfl⟩
theorem isN_2 {n : Nat} {g : mm_g} (hr : Rel n g) : F_X2_isNone g 0 = 0 ↔ ¬ nb (g 2 0) = 0 := by
  rw [none_2 hr, there_2 hr]
theorem nI_n {N : Nat} (h : N < 1000) : (nI N).toInt.toNat = N := by
  rw [nI_toInt (by omega)]
  omega
def iterT : Nat → Fl → Fl
  | 0, f => f
  | m + 1, f => iterT m (tideF f)
theorem iterT_eq : ∀ (m : Nat) {f f2 : Fl}, Vd f → EqF f f2 → EqF (iterT m f) (iterT m f2)
  | 0, _, _, _, h => h
  | m + 1, _, _, v, h => iterT_eq m (tideF_vd v) (tideF_eq v h)
theorem iterT_vd : ∀ (m : Nat) {f : Fl}, Vd f → Vd (iterT m f)
  | 0, _, v => v
  | m + 1, _, v => iterT_vd m (tideF_vd v)
theorem iterT_nb : ∀ (m : Nat) {f : Fl}, Vd f → nb (iterT m f) = nb f
  | 0, _, _ => rfl
  | m + 1, _, v => (iterT_nb m (tideF_vd v)).trans (tideF_nb v)
theorem after_10 {k2 N : Nat} {K : Nat → mm_g → mm_g} (hN : N < 1000) : ∀ (n j : Nat) (s : mm_g), Vd (s 2 1) → j ≤ N → N - j < n → F_X3_after_10 k2 (nI N) K n j s = K N (mw s 2 1 (iterT (N - j) (s 2 1))) := by
  intro n
  induction n with
  | zero => intro j s v h1 h2; omega
  | succ n ih =>
    intro j s v h1 h2
    unfold F_X3_after_10
    by_cases q : j = N
    · rw [if_pos (show nI N ≤ nI j from nI_le (by omega) (by omega)), q, Nat.sub_self, iterT, mw_i]
    · rw [if_neg (show ¬ nI N ≤ nI j from nI_ge (by omega) (by omega)), flow_F v, ih _ _ (by rw [mw_s]; exact tideF_vd v) (by omega) (by omega), mw_s, mw_w, sub_succ (show j < N by omega), iterT]
theorem go7_2 {N : Nat} {K : Nat → mm_g → mm_g} (hN : N < 1000) : ∀ (n j : Nat) (s : mm_g), Vd (s 7 4) → j ≤ N → N - j < n → F_X7_goOn_2 (nI N) K n j s = K N (mw s 7 4 (iterT (N - j) (s 7 4))) := by
  intro n
  induction n with
  | zero => intro j s v h1 h2; omega
  | succ n ih =>
    intro j s v h1 h2
    unfold F_X7_goOn_2
    by_cases q : j = N
    · rw [if_pos (show nI N ≤ nI j from nI_le (by omega) (by omega)), q, Nat.sub_self, iterT, mw_i]
    · rw [if_neg (show ¬ nI N ≤ nI j from nI_ge (by omega) (by omega)), oneTide_F v, ih _ _ (by rw [mw_s]; exact tideF_vd v) (by omega) (by omega), mw_s, mw_w, sub_succ (show j < N by omega), iterT]
theorem goOn_F {g : mm_g} {N : Nat} (hN : N < 1000) (v : Vd (g 7 4)) : F_X7_goOn g (nI N) = mw g 7 4 (iterT N (g 7 4)) := by
  unfold F_X7_goOn
  rw [go7_2 hN _ 0 g v (by omega) (by rw [nI_n hN]; omega)]
  rfl
/-- the flat that is supposed: as the one that is -/
def thenF (g : mm_g) : Fl := cpy (g 2 0) (g 2 1)
theorem then_E {g : mm_g} (v : Vd (g 2 0)) : EqF (g 2 0) (thenF g) := cpy_eq v.n9
theorem become_1 {g : mm_g} : F_X2_become g 1 0 = mw g 2 1 (thenF g) := become_F (by decide)
theorem after_F {g : mm_g} {N : Nat} (hN : N < 1000) (v : Vd (g 2 0)) : F_X3_after g 0 (nI N) = mw g 2 1 (iterT N (thenF g)) := by
  unfold F_X3_after
  rw [become_1, after_10 hN _ 0 _ (by rw [mw_s]; exact (then_E v).vd v) (by omega) (by rw [nI_n hN]; omega), mw_s, mw_w]
  rfl
/-! ahead -/
theorem c_ahead {g : mm_g} {N b : Nat} {w : Int32} (hN : N ≤ 60) (v : Vd (g 2 0)) (hb : b < nb (g 2 0)) : F_X2_tellOf (F_X3_after g 0 (nI N)) 1 (nI b) w = toldF (iterT N (g 2 0)) b w := by
  have e := iterT_eq N v (then_E v)
  have v2 := iterT_vd N v
  have n2 := iterT_nb N v
  rw [after_F (by omega) v, tellOf_F (by rw [mw_s]; exact e.vd v2) (by rw [mw_s, e.nb, n2]; exact hb), mw_s]
  exact toldF_eq e (by rw [n2]; exact hb)
theorem r_ahead {g : mm_g} {N b : Nat} {w : Int32} (hN : N ≤ 60) (v : Vd (g 2 0)) (he : EqF (g 2 0) (g 7 4)) (hb : b < nb (g 2 0)) : F_X7_toldOf (F_X7_goOn (F_X7_putAside g) (nI N)) (nI b) w = toldF (iterT N (g 2 0)) b w ∧ Sr g (F_X7_takeBack (F_X7_goOn (F_X7_putAside g) (nI N))) := by
  have h9 := v.n9
  rw [goOn_F (by omega) (by rw [aside_4F]; exact he.vd v), aside_4F, toldOf_F (by omega), mw_s]
  exact ⟨toldF_eq (iterT_eq N v he) (by rw [iterT_nb N v]; exact hb), Sw_b (Sw_f Sw_a)⟩
theorem e_ahead {n : Nat} {g : mm_g} {x1 x2 x3 : Int32} (hr : Rel n g) : Ok n g (F_X6_ahead g x1 x2 x3) (fun s => F_X7_ahead s x1 x2 x3) ∧ Fr g (F_X6_ahead g x1 x2 x3).2 := by
  have hv := hr.now.1
  by_cases q1 : hasF (g 2 0) x1 = 0
  · refine Ok_b hr (a := -1000001) ?_ ?_
    · unfold F_X6_ahead; rw [no_bed2 hr, if_pos q1]
    · show F_X7_ahead g x1 x2 x3 = _
      unfold F_X7_ahead; rw [no_bed hr, if_pos q1]
  · by_cases q2 : F_X6_within x2 0 60 = 0
    · refine Ok_b hr (a := -1000001) ?_ ?_
      · unfold F_X6_ahead; rw [no_bed2 hr, if_neg q1, if_pos q2]
      · show F_X7_ahead g x1 x2 x3 = _
        unfold F_X7_ahead; rw [no_bed hr, if_neg q1, in_w (a := 0) (b := 60) (A := 0) (B := 60) rfl rfl, if_pos q2]
    · by_cases q3 : F_X6_within x3 0 2 = 0
      · refine Ok_b hr (a := -1000001) ?_ ?_
        · unfold F_X6_ahead; rw [no_bed2 hr, if_neg q1, if_neg q2, if_pos q3]
        · show F_X7_ahead g x1 x2 x3 = _
          unfold F_X7_ahead; rw [no_bed hr, if_neg q1, in_w (a := 0) (b := 60) (A := 0) (B := 60) rfl rfl, if_neg q2, in_w (a := 0) (b := 2) (A := 0) (B := 2) rfl rfl, if_pos q3]
      · obtain ⟨b, hb, e1⟩ := (hasF_iff hv).mp q1
        obtain ⟨m, hm, e2⟩ := within_nI (n := 60) (by decide) q2
        rw [e1] at q1 ⊢
        rw [e2] at q2 ⊢
        have e : F_X6_ahead g (nI b) (nI m) x3 = (F_X2_tellOf (F_X3_after g 0 (nI m)) 1 (nI b) x3, F_X3_after g 0 (nI m)) := by
          unfold F_X6_ahead; rw [no_bed2 hr, if_neg q1, if_neg q2, if_neg q3]
        rw [e]
        refine Ok_p hr (toldF (iterT m (g 2 0)) b x3) (c_ahead hm hv hb) ?_ (fun s hs h2 => ?_)
        · show Sc g (F_X3_after g 0 (nI m))
          rw [after_F (by omega) hv]
          exact Sc_2 Sc_r
        · have e7 : F_X7_ahead s (nI b) (nI m) x3 = (F_X7_toldOf (F_X7_goOn (F_X7_putAside s) (nI m)) (nI b) x3, F_X7_takeBack (F_X7_goOn (F_X7_putAside s) (nI m))) := by
            unfold F_X7_ahead; rw [no_bed hs, h2, if_neg q1, in_w (a := 0) (b := 60) (A := 0) (B := 60) rfl rfl, if_neg q2, in_w (a := 0) (b := 2) (A := 0) (B := 2) rfl rfl, if_neg q3]
          show (F_X7_ahead s (nI b) (nI m) x3).1 = _ ∧ Sr s (F_X7_ahead s (nI b) (nI m) x3).2
          rw [e7, ← h2]
          exact r_ahead hm hs.now.1 hs.now.2.2.1 (by rw [h2]; exact hb)
/-! tally -/
def tallF (f : Fl) (w : Int32) : Int32 := f (6 + w.toNatClampNeg) + sumR (tallyH f w) 0 (nb f)
theorem tallF_eq {f f2 : Fl} {w : Int32} (h : EqF f f2) (hw : ¬ F_X6_within w 0 2 = 0) : tallF f2 w = tallF f w := by
  obtain ⟨j, hj, e⟩ := within_nI (n := 2) (by decide) hw
  unfold tallF
  rw [h.nb, e, c0 (by omega), h.lo (6 + j) (by omega), sumR_congr (fun i h1 h2 => tallyH_eq h (by omega))]
theorem e_tally {n : Nat} {g : mm_g} {x1 x2 : Int32} (hr : Rel n g) : Ok n g (F_X6_tally g x1 x2) (fun s => F_X7_tally s x1 x2) ∧ Fr g (F_X6_tally g x1 x2).2 := by
  have hv := hr.now.1
  by_cases q1 : nb (g 2 0) = 0
  · refine Ok_b hr (a := -1000002) ?_ ?_
    · unfold F_X6_tally; rw [if_neg (fun z => (isN_2 hr).mp z q1)]
    · show F_X7_tally g x1 x2 = _
      unfold F_X7_tally; rw [if_pos ((there_2 hr).mpr q1)]
  · by_cases q2 : F_X6_within x1 0 60 = 0
    · refine Ok_b hr (a := -1000001) ?_ ?_
      · unfold F_X6_tally; rw [if_pos ((isN_2 hr).mpr q1), if_pos q2]
      · show F_X7_tally g x1 x2 = _
        unfold F_X7_tally; rw [if_neg (fun z => q1 ((there_2 hr).mp z)), in_w (a := 0) (b := 60) (A := 0) (B := 60) rfl rfl, if_pos q2]
    · by_cases q3 : F_X6_within x2 0 2 = 0
      · refine Ok_b hr (a := -1000001) ?_ ?_
        · unfold F_X6_tally; rw [if_pos ((isN_2 hr).mpr q1), if_neg q2, if_pos q3]
        · show F_X7_tally g x1 x2 = _
          unfold F_X7_tally; rw [if_neg (fun z => q1 ((there_2 hr).mp z)), in_w (a := 0) (b := 60) (A := 0) (B := 60) rfl rfl, if_neg q2, in_w (a := 0) (b := 2) (A := 0) (B := 2) rfl rfl, if_pos q3]
      · obtain ⟨m, hm, e2⟩ := within_nI (n := 60) (by decide) q2
        rw [e2] at q2 ⊢
        have e : F_X6_tally g (nI m) x2 = (F_X2_tallyFor (F_X3_after g 0 (nI m)) 1 x2, F_X3_after g 0 (nI m)) := by
          unfold F_X6_tally; rw [if_pos ((isN_2 hr).mpr q1), if_neg q2, if_neg q3]
        rw [e]
        refine Ok_p hr (tallF (iterT m (g 2 0)) x2) ?_ ?_ (fun s hs h2 => ?_)
        · have e3 := iterT_eq m hv (then_E hv)
          show F_X2_tallyFor (F_X3_after g 0 (nI m)) 1 x2 = _
          rw [after_F (by omega) hv, tallyF8 (by rw [mw_s]; exact e3.vd (iterT_vd m hv)) q3, mw_s]
          exact tallF_eq e3 q3
        · show Sc g (F_X3_after g 0 (nI m))
          rw [after_F (by omega) hv]
          exact Sc_2 Sc_r
        · have e7 : F_X7_tally s (nI m) x2 = (F_X7_tallyOf (F_X7_goOn (F_X7_putAside s) (nI m)) x2, F_X7_takeBack (F_X7_goOn (F_X7_putAside s) (nI m))) := by
            unfold F_X7_tally; rw [if_neg (fun z => q1 (by rw [← h2]; exact (there_2 hs).mp z)), in_w (a := 0) (b := 60) (A := 0) (B := 60) rfl rfl, if_neg q2, in_w (a := 0) (b := 2) (A := 0) (B := 2) rfl rfl, if_neg q3]
          have v7 := hs.vd7
          have e3 := iterT_eq m hs.now.1 hs.now.2.2.1
          show (F_X7_tally s (nI m) x2).1 = _ ∧ Sr s (F_X7_tally s (nI m) x2).2
          rw [e7, goOn_F (by omega) (by rw [aside_4F]; exact v7), aside_4F, ← h2]
          refine ⟨?_, Sw_b (Sw_f Sw_a)⟩
          show F_X7_tallyOf _ x2 = _
          rw [tallyOf_F (by rw [mw_s]; exact iterT_vd m v7), mw_s, c6w q3]
          exact tallF_eq e3 q3
/-! when -/
def whenL (b : Nat) (w : Int32) : Nat → Nat → Fl → Int32
  | 0, j, f => if lieF f b = w then nI j else -1000000
  | m + 1, j, f => if lieF f b = w then nI j else whenL b w m (j + 1) (tideF f)
theorem whenL_eq {b : Nat} {w : Int32} : ∀ (m j : Nat) {f f2 : Fl}, Vd f → b < nb f → EqF f f2 → whenL b w m j f2 = whenL b w m j f
  | 0, j, f, f2, v, hb, h => by rw [whenL, whenL, lieF_eq h hb]
  | m + 1, j, f, f2, v, hb, h => by
    rw [whenL, whenL, lieF_eq h hb, whenL_eq m (j + 1) (tideF_vd v) (by rw [tideF_nb v]; exact hb) (tideF_eq v h)]
theorem first_11 {b : Nat} {w : Int32} {K : Nat → mm_g → Int32 × mm_g} (hK : ∀ j s, K j s = (-1000000, s)) : ∀ (m n j : Nat) (s : mm_g), Vd (s 2 1) → b < nb (s 2 1) → m + j = 60 → m + 1 < n → (F_X3_firstLying_11 0 (nI b) w K n j s).1 = whenL b w m j (s 2 1) ∧ Sc s (F_X3_firstLying_11 0 (nI b) w K n j s).2 := by
  intro m
  induction m with
  | zero =>
    intro n j s v hb h1 h2
    obtain ⟨n1, e⟩ : ∃ n1, n = n1 + 2 := ⟨n - 2, by omega⟩
    subst e
    have ej : j = 60 := by omega
    subst ej
    unfold F_X3_firstLying_11
    rw [if_neg (by decide), lying_F v hb, whenL]
    by_cases q : lieF (s 2 1) b = w
    · rw [if_pos q, if_pos q]
      exact ⟨rfl, Sc_r⟩
    · rw [if_neg q, if_neg q]
      unfold F_X3_firstLying_11
      rw [if_pos (by decide), hK, flow_F v]
      exact ⟨rfl, Sc_2 Sc_r⟩
  | succ m ih =>
    intro n j s v hb h1 h2
    obtain ⟨n1, e⟩ : ∃ n1, n = n1 + 1 := ⟨n - 1, by omega⟩
    subst e
    unfold F_X3_firstLying_11
    rw [if_neg (show ¬ (60 : Int32) < nI j from nI_nlt (a := 60) (b := j) (by omega) (by decide)), lying_F v hb, whenL]
    by_cases q : lieF (s 2 1) b = w
    · rw [if_pos q, if_pos q]
      exact ⟨rfl, Sc_r⟩
    · rw [if_neg q, if_neg q, flow_F v]
      have h3 := ih n1 (j + 1) (mw s 2 1 (tideF (s 2 1))) (by rw [mw_s]; exact tideF_vd v) (by rw [mw_s, tideF_nb v]; exact hb) (by omega) (by omega)
      rw [mw_s] at h3
      exact ⟨h3.1, Sc_t (Sc_2 Sc_r) h3.2⟩
theorem when_29 {b : Nat} {w : Int32} {g : mm_g} {K : Nat → mm_g → Int32 × mm_g} (hK : ∀ j s, K j s = if F_X7_lies s (nI b) = w then (nI j, F_X7_takeBack s) else (-1000000, F_X7_takeBack s)) : ∀ (m n j : Nat) (s : mm_g), Vd (s 7 4) → b < nb (s 7 4) → Sw g s → m + j = 60 → m < n → (F_X7_when_29 (nI b) w K n j s).1 = whenL b w m j (s 7 4) ∧ Sr g (F_X7_when_29 (nI b) w K n j s).2 := by
  intro m
  induction m with
  | zero =>
    intro n j s v hb hs h1 h2
    have h9 := v.n9
    obtain ⟨n1, e⟩ : ∃ n1, n = n1 + 1 := ⟨n - 1, by omega⟩
    subst e
    have ej : j = 60 := by omega
    subst ej
    unfold F_X7_when_29
    rw [hK, lies_F (show b < 9 by omega), whenL]
    by_cases q : lieF (s 7 4) b = w
    · rw [if_pos q, if_pos q, if_pos q]
      exact ⟨rfl, Sw_b hs⟩
    · rw [if_neg q, if_pos (by decide), if_neg q, if_neg q]
      exact ⟨rfl, Sw_b hs⟩
  | succ m ih =>
    intro n j s v hb hs h1 h2
    have h9 := v.n9
    obtain ⟨n1, e⟩ : ∃ n1, n = n1 + 1 := ⟨n - 1, by omega⟩
    subst e
    unfold F_X7_when_29
    rw [hK, lies_F (show b < 9 by omega), whenL]
    by_cases q : lieF (s 7 4) b = w
    · rw [if_pos q, if_pos q, if_pos q]
      exact ⟨rfl, Sw_b hs⟩
    · rw [if_neg q, if_neg (show ¬ (60 : Int32) ≤ nI j from nI_ge (a := j) (b := 60) (by omega) (by decide)), if_neg q, oneTide_F v]
      have h3 := ih n1 (j + 1) (mw s 7 4 (tideF (s 7 4))) (by rw [mw_s]; exact tideF_vd v) (by rw [mw_s, tideF_nb v]; exact hb) (Sw_f hs) (by omega) (by omega)
      rw [mw_s] at h3
      exact h3
theorem e_when {n : Nat} {g : mm_g} {x1 x2 : Int32} (hr : Rel n g) : Ok n g (F_X6_when g x1 x2) (fun s => F_X7_when s x1 x2) ∧ Fr g (F_X6_when g x1 x2).2 := by
  have hv := hr.now.1
  by_cases q1 : hasF (g 2 0) x1 = 0
  · refine Ok_b hr (a := -1000001) ?_ ?_
    · unfold F_X6_when; rw [no_bed2 hr, if_pos q1]
    · show F_X7_when g x1 x2 = _
      unfold F_X7_when; rw [no_bed hr, if_pos q1]
  · by_cases q2 : F_X6_within x2 0 2 = 0
    · refine Ok_b hr (a := -1000001) ?_ ?_
      · unfold F_X6_when; rw [no_bed2 hr, if_neg q1, if_pos q2]
      · show F_X7_when g x1 x2 = _
        unfold F_X7_when; rw [no_bed hr, if_neg q1, in_w (a := 0) (b := 2) (A := 0) (B := 2) rfl rfl, if_pos q2]
    · obtain ⟨b, hb, e1⟩ := (hasF_iff hv).mp q1
      rw [e1] at q1 ⊢
      have e : F_X6_when g (nI b) x2 = F_X3_firstLying g 0 (nI b) x2 := by
        unfold F_X6_when; rw [no_bed2 hr, if_neg q1, if_neg q2]
      have hE := then_E hv
      have h3 := first_11 (b := b) (w := x2) (K := fun (j11 : Nat) (s11 : mm_g) => ((-1000000 : Int32), s11)) (fun _ _ => rfl) 60 62 0 (mw g 2 1 (thenF g)) (by rw [mw_s]; exact hE.vd hv) (by rw [mw_s, hE.nb]; exact hb) rfl (by decide)
      rw [mw_s, whenL_eq 60 0 hv hb hE] at h3
      rw [e]
      unfold F_X3_firstLying
      rw [become_1]
      refine Ok_p hr (whenL b x2 60 0 (g 2 0)) h3.1 (Sc_t (Sc_2 Sc_r) h3.2) (fun s hs h2 => ?_)
      have hb2 : b < nb (s 2 0) := by rw [h2]; exact hb
      have he := hs.now.2.2.1
      have h4 := when_29 (b := b) (w := x2) (g := s) (K := fun (j29 : Nat) (s29 : mm_g) => (if (F_X7_lies s29 (nI b)) = x2 then ((nI j29), (F_X7_takeBack s29)) else ((-1000000), (F_X7_takeBack s29)))) (fun _ _ => rfl) 60 ((60 : Int32).toInt.toNat + 1) 0 (F_X7_putAside s) (by rw [aside_4F]; exact hs.vd7) (by rw [aside_4F, he.nb]; exact hb2) Sw_a rfl (by decide)
      rw [aside_4F, whenL_eq 60 0 hs.now.1 hb2 he, h2] at h4
      show (F_X7_when s (nI b) x2).1 = _ ∧ Sr s (F_X7_when s (nI b) x2).2
      have e7 : F_X7_when s (nI b) x2 = F_X7_when_29 (nI b) x2 (fun (j29 : Nat) (s29 : mm_g) => (if (F_X7_lies s29 (nI b)) = x2 then ((nI j29), (F_X7_takeBack s29)) else ((-1000000), (F_X7_takeBack s29)))) ((60 : Int32).toInt.toNat + 1) 0 (F_X7_putAside s) := by
        unfold F_X7_when; rw [no_bed hs, h2, if_neg q1, in_w (a := 0) (b := 2) (A := 0) (B := 2) rfl rfl, if_neg q2]
      rw [e7]
      exact h4
/-! place -/
def cellF (f : Fl) (w x : Int32) : Fl := upd f (1 + w).toNatClampNeg x
theorem c1w {w : Int32} (h : w = 0 ∨ w = 1) : (1 + w).toNatClampNeg = 1 ∧ w = 0 ∨ (1 + w).toNatClampNeg = 2 ∧ w = 1 := by
  rcases h with e | e <;> subst e
  · exact Or.inl ⟨by decide, rfl⟩
  · exact Or.inr ⟨by decide, rfl⟩
theorem stand_F {g : mm_g} {k : Nat} {w x : Int32} (h : w = 0 ∨ w = 1) : F_X2_standIn g k w x = mw g 2 k (cellF (g 2 k) w x) := by
  unfold F_X2_standIn cellF
  rcases c1w h with ⟨a, b⟩ | ⟨a, b⟩
  · rw [a, if_pos b]; rfl
  · rw [a, if_neg (by rw [b]; decide)]; rfl
theorem cell_nb {f : Fl} {w x : Int32} (h : w = 0 ∨ w = 1) : nb (cellF f w x) = nb f := by
  unfold cellF
  rcases c1w h with ⟨a, b⟩ | ⟨a, b⟩ <;> rw [a] <;> exact upd_nb (by decide)
theorem cell_vd {f : Fl} {w : Int32} {j : Nat} (h : w = 0 ∨ w = 1) (hj : j < 9) (v : Vd f) : Vd (cellF f w (nI j)) := by
  have hn := cell_nb (f := f) (x := nI j) h
  have hJ : 0 ≤ (nI j).toInt ∧ (nI j).toInt ≤ 8 := by rw [nI_toInt (by omega)]; omega
  refine ⟨?_, ?_, ?_, ?_, fun b hb => ?_⟩
  · unfold cellF upd
    rcases c1w h with ⟨a, b⟩ | ⟨a, b⟩ <;> rw [a, if_neg (by decide)] <;> exact v.b0
  · unfold cellF upd
    rcases c1w h with ⟨a, b⟩ | ⟨a, b⟩ <;> rw [a]
    · rw [if_pos rfl]; exact hJ
    · rw [if_neg (by decide)]; exact v.ca
  · unfold cellF upd
    rcases c1w h with ⟨a, b⟩ | ⟨a, b⟩ <;> rw [a]
    · rw [if_neg (by decide)]; exact v.cb
    · rw [if_pos rfl]; exact hJ
  · unfold cellF upd
    rcases c1w h with ⟨a, b⟩ | ⟨a, b⟩ <;> rw [a, if_neg (by decide)] <;> exact v.lot
  · rw [hn] at hb
    have h2 := v.bed b hb
    unfold cellF upd
    rcases c1w h with ⟨a, _⟩ | ⟨a, _⟩ <;> rw [a, if_neg (by omega), if_neg (by omega), if_neg (by omega)] <;> exact h2
theorem cell_eq {f f2 : Fl} {w x : Int32} (h : w = 0 ∨ w = 1) (e : EqF f f2) : EqF (cellF f w x) (cellF f2 w x) := by
  unfold cellF
  rcases c1w h with ⟨a, b⟩ | ⟨a, b⟩ <;> rw [a] <;> exact upd_eq e (by decide) (by decide)
def leadAt (f : Fl) (w : Int32) (j : Nat) : Int32 := leadF (cellF f w (nI j)) w
theorem leadAt_eq {f f2 : Fl} {w : Int32} {j : Nat} (h : w = 0 ∨ w = 1) (e : EqF f f2) : leadAt f2 w j = leadAt f w j := leadF_eq (cell_eq h e)
theorem leadFrom_F {g : mm_g} {w : Int32} {j : Nat} (h : w = 0 ∨ w = 1) (hj : j < 9) (v : Vd (g 2 0)) : (F_X3_leadFrom g 0 w (nI j)).1 = leadAt (g 2 0) w j ∧ Sc g (F_X3_leadFrom g 0 w (nI j)).2 := by
  have hE := then_E v
  have hv := cell_vd h hj (hE.vd v)
  unfold F_X3_leadFrom
  rw [become_1, stand_F h, mw_s, mw_w]
  refine ⟨?_, Sc_2 Sc_r⟩
  show F_X2_leadOf _ 1 w = _
  rw [leadOf_F (by rw [mw_s]; exact hv), mw_s]
  exact leadAt_eq h hE
def bestL (f : Fl) (w : Int32) : Nat → Int32 → Int32 → Nat → Int32
  | 0, a, _, _ => a
  | m + 1, a, b, j => if leadAt f w j ≤ b then bestL f w m a b (j + 1) else bestL f w m (nI j) (leadAt f w j) (j + 1)
def bestF (f : Fl) (w : Int32) : Int32 := bestL f w 8 0 (leadAt f w 0) 1
theorem bestL_eq {f f2 : Fl} {w : Int32} (h : w = 0 ∨ w = 1) (e : EqF f f2) : ∀ (m : Nat) (a b : Int32) (j : Nat), bestL f2 w m a b j = bestL f w m a b j
  | 0, _, _, _ => rfl
  | m + 1, a, b, j => by rw [bestL, bestL, leadAt_eq h e, bestL_eq h e m, bestL_eq h e m]
theorem bestF_eq {f f2 : Fl} {w : Int32} (h : w = 0 ∨ w = 1) (e : EqF f f2) : bestF f2 w = bestF f w := by
  unfold bestF
  rw [leadAt_eq h e, bestL_eq h e]
theorem bestL_9 {f : Fl} {w : Int32} : ∀ (m : Nat) (a b : Int32) (j : Nat), m + j ≤ 9 → (∃ i, i < 9 ∧ a = nI i) → ∃ i, i < 9 ∧ bestL f w m a b j = nI i
  | 0, _, _, _, _, h => h
  | m + 1, a, b, j, hj, h => by
    rw [bestL]
    split
    · exact bestL_9 m a b (j + 1) (by omega) h
    · exact bestL_9 m _ _ (j + 1) (by omega) ⟨j, by omega, rfl⟩
theorem bestF_9 {f : Fl} {w : Int32} : ∃ i, i < 9 ∧ bestF f w = nI i := bestL_9 8 0 _ 1 (by decide) ⟨0, by decide, rfl⟩
theorem best_14 {w : Int32} {K : Int32 → Int32 → Nat → mm_g → Int32 × mm_g} (h : w = 0 ∨ w = 1) (hK : ∀ a b j s, K a b j s = (a, s)) : ∀ (m n : Nat) (a b : Int32) (j : Nat) (s : mm_g), Vd (s 2 0) → m + j = 9 → m < n → (F_X3_bestCell_14 0 w K n a b j s).1 = bestL (s 2 0) w m a b j ∧ Sc s (F_X3_bestCell_14 0 w K n a b j s).2 := by
  intro m
  induction m with
  | zero =>
    intro n a b j s v h1 h2
    obtain ⟨n1, e⟩ : ∃ n1, n = n1 + 1 := ⟨n - 1, by omega⟩
    subst e
    have ej : j = 9 := by omega
    subst ej
    unfold F_X3_bestCell_14
    rw [if_pos (by decide), hK]
    exact ⟨rfl, Sc_r⟩
  | succ m ih =>
    intro n a b j s v h1 h2
    obtain ⟨n1, e⟩ : ∃ n1, n = n1 + 1 := ⟨n - 1, by omega⟩
    subst e
    obtain ⟨l1, l2⟩ := leadFrom_F (j := j) h (by omega) v
    have e2 := l2 2 0 (by decide) (by decide)
    unfold F_X3_bestCell_14
    rw [if_neg (show ¬ (9 : Int32) ≤ nI j from nI_ge (a := j) (b := 9) (by omega) (by decide)), l1, bestL]
    by_cases q : leadAt (s 2 0) w j ≤ b
    · rw [if_pos q, if_pos q]
      have h3 := ih n1 a b (j + 1) (F_X3_leadFrom s 0 w (nI j)).2 (by rw [e2]; exact v) (by omega) (by omega)
      rw [e2] at h3
      exact ⟨h3.1, Sc_t l2 h3.2⟩
    · rw [if_neg q, if_neg q]
      have h3 := ih n1 (nI j) (leadAt (s 2 0) w j) (j + 1) (F_X3_leadFrom s 0 w (nI j)).2 (by rw [e2]; exact v) (by omega) (by omega)
      rw [e2] at h3
      exact ⟨h3.1, Sc_t l2 h3.2⟩
theorem bestCell_F {g : mm_g} {w : Int32} (h : w = 0 ∨ w = 1) (v : Vd (g 2 0)) : (F_X3_bestCell g 0 w).1 = bestF (g 2 0) w ∧ Sc g (F_X3_bestCell g 0 w).2 := by
  obtain ⟨l1, l2⟩ := leadFrom_F (j := 0) h (by decide) v
  have e2 := l2 2 0 (by decide) (by decide)
  have l1' : (F_X3_leadFrom g 0 w 0).1 = leadAt (g 2 0) w 0 := l1
  unfold F_X3_bestCell
  rw [l1']
  have h3 := best_14 (K := fun (a14 : Int32) (b14 : Int32) (j14 : Nat) (s14 : mm_g) => (a14, s14)) h (fun _ _ _ _ => rfl) 8 ((9 : Int32).toInt.toNat + 1) 0 (leadAt (g 2 0) w 0) 1 (F_X3_leadFrom g 0 w 0).2 (by rw [show (F_X3_leadFrom g 0 w 0).2 2 0 = g 2 0 from e2]; exact v) rfl (by decide)
  rw [show (F_X3_leadFrom g 0 w 0).2 2 0 = g 2 0 from e2] at h3
  exact ⟨h3.1, Sc_t l2 h3.2⟩
theorem lf7_F {s : mm_g} {w : Int32} {j : Nat} (h : w = 0 ∨ w = 1) (hj : j < 9) (v : Vd (s 7 4)) : F_X7_leadOf (wr s 7 4 (1 + w).toNatClampNeg (nI j)) w = leadAt (s 7 4) w j := by
  unfold wr
  rw [leadOf7_F (by rw [mw_s]; exact cell_vd h hj v) h, mw_s]
  rfl
theorem upd_upd {f : Fl} {j : Nat} {x y : Int32} : upd (upd f j x) j y = upd f j y := by
  funext i
  unfold upd
  split <;> rfl
theorem wr_wr {g : mm_g} {t k j : Nat} {x y : Int32} : wr (wr g t k j x) t k j y = wr g t k j y := by
  unfold wr
  rw [mw_s, mw_w, upd_upd]
theorem wr_id {g : mm_g} {t k j : Nat} : wr g t k j (g t k j) = g := by
  unfold wr
  rw [upd_same, mw_i]
theorem lead_wr {s : mm_g} {w x : Int32} {j : Nat} : leadAt (wr s 7 4 (1 + w).toNatClampNeg x 7 4) w j = leadAt (s 7 4) w j := by
  unfold leadAt cellF wr
  rw [mw_s, upd_upd]
theorem bst7_17 {g : mm_g} {w f2 : Int32} {K : Int32 → Int32 → Nat → mm_g → Int32 × mm_g} (h : w = 0 ∨ w = 1) (v0 : Vd (g 7 4)) (hK : ∀ a b j s, K a b j s = (a, wr s 7 4 (1 + w).toNatClampNeg (g 7 4 (1 + w).toNatClampNeg))) : ∀ (m n : Nat) (a b : Int32) (j : Nat) (x : Int32), 0 < j → m + j = 9 → m < n → F_X7_bestCell_17 w f2 K n a b j (wr g 7 4 (1 + w).toNatClampNeg x) = (bestL (g 7 4) w m a b j, g) := by
  intro m
  induction m with
  | zero =>
    intro n a b j x h0 h1 h2
    obtain ⟨n1, e⟩ : ∃ n1, n = n1 + 1 := ⟨n - 1, by omega⟩
    subst e
    have ej : j = 9 := by omega
    subst ej
    unfold F_X7_bestCell_17
    rw [if_pos (by decide), hK, wr_wr, wr_id]
    rfl
  | succ m ih =>
    intro n a b j x h0 h1 h2
    obtain ⟨n1, e⟩ : ∃ n1, n = n1 + 1 := ⟨n - 1, by omega⟩
    subst e
    unfold F_X7_bestCell_17
    rw [if_neg (show ¬ (9 : Int32) ≤ nI j from nI_ge (a := j) (b := 9) (by omega) (by decide)), if_neg (nI_ne0 h0 (by omega)), wr_wr, lf7_F h (by omega) v0, bestL, ih _ _ _ _ _ (by omega) (by omega) (by omega), ih _ _ _ _ _ (by omega) (by omega) (by omega)]
    by_cases q : leadAt (g 7 4) w j ≤ b
    · rw [if_pos q, if_pos q]
    · rw [if_neg q, if_neg q]
theorem best7_F {g : mm_g} {w : Int32} (h : w = 0 ∨ w = 1) (v : Vd (g 7 4)) : F_X7_bestCell g w = (bestF (g 7 4) w, g) := by
  unfold F_X7_bestCell
  rw [show (9 : Int32).toInt.toNat + 1 = 9 + 1 from rfl]
  unfold F_X7_bestCell_17
  rw [if_neg (by decide), if_pos (show nI 0 = 0 from rfl), lf7_F h (by decide) v, bst7_17 h v (fun _ _ _ _ => rfl) 8 _ _ _ _ _ (by decide) rfl (by decide)]
  rfl
theorem lead7_F {g : mm_g} {w : Int32} {j : Nat} (h : w = 0 ∨ w = 1) (hj : j < 9) (v : Vd (g 7 4)) : F_X7_leadFrom g w (nI j) = (leadAt (g 7 4) w j, g) := by
  unfold F_X7_leadFrom
  rw [lf7_F h hj v, wr_wr, wr_id]
theorem e_place {n : Nat} {g : mm_g} {x1 x2 : Int32} (hr : Rel n g) : Ok n g (F_X6_place g x1 x2) (fun s => F_X7_place s x1 x2) ∧ Fr g (F_X6_place g x1 x2).2 := by
  have hv := hr.now.1
  by_cases q1 : nb (g 2 0) = 0
  · refine Ok_b hr (a := -1000002) ?_ ?_
    · unfold F_X6_place; rw [if_neg (fun z => (isN_2 hr).mp z q1)]
    · show F_X7_place g x1 x2 = _
      unfold F_X7_place; rw [if_pos ((there_2 hr).mpr q1)]
  · by_cases q2 : F_X6_within x1 0 1 = 0
    · refine Ok_b hr (a := -1000001) ?_ ?_
      · unfold F_X6_place; rw [if_pos ((isN_2 hr).mpr q1), isOne_within, if_pos q2]
      · show F_X7_place g x1 x2 = _
        unfold F_X7_place; rw [if_neg (fun z => q1 ((there_2 hr).mp z)), isWho_within, if_pos q2]
    · by_cases q3 : F_X6_within x2 0 1 = 0
      · refine Ok_b hr (a := -1000001) ?_ ?_
        · unfold F_X6_place; rw [if_pos ((isN_2 hr).mpr q1), isOne_within, if_neg q2, if_pos q3]
        · show F_X7_place g x1 x2 = _
          unfold F_X7_place; rw [if_neg (fun z => q1 ((there_2 hr).mp z)), isWho_within, if_neg q2, isWhat_within, if_pos q3]
      · have hw := two_cases q2
        obtain ⟨l1, l2⟩ := bestCell_F hw hv
        have e2 := l2 2 0 (by decide) (by decide)
        obtain ⟨i, hi, ei⟩ := bestF_9 (f := g 2 0) (w := x1)
        obtain ⟨m1, m2⟩ := leadFrom_F (g := (F_X3_bestCell g 0 x1).2) (j := i) hw hi (by rw [e2]; exact hv)
        rw [e2] at m1
        refine Ok_p hr (if x2 = 0 then bestF (g 2 0) x1 else leadAt (g 2 0) x1 i) ?_ ?_ (fun s hs h2 => ?_)
        · unfold F_X6_place; rw [if_pos ((isN_2 hr).mpr q1), isOne_within, if_neg q2, if_neg q3, l1, ei]
          by_cases z : x2 = 0
          · rw [if_pos z, if_pos z]
          · rw [if_neg z, if_neg z]; exact m1
        · unfold F_X6_place; rw [if_pos ((isN_2 hr).mpr q1), isOne_within, if_neg q2, if_neg q3, l1, ei]
          by_cases z : x2 = 0
          · rw [if_pos z]; exact l2
          · rw [if_neg z]; exact Sc_t l2 m2
        · have v7 := hs.vd7
          have he := hs.now.2.2.1
          show (F_X7_place s x1 x2).1 = _ ∧ Sr s (F_X7_place s x1 x2).2
          have e7 : F_X7_place s x1 x2 = (if x2 = 0 then bestF (g 2 0) x1 else leadAt (g 2 0) x1 i, s) := by
            unfold F_X7_place; rw [if_neg (fun z => q1 (by rw [← h2]; exact (there_2 hs).mp z)), isWho_within, if_neg q2, isWhat_within, if_neg q3, best7_F hw v7, bestF_eq hw he, h2, ei]
            show (if x2 = 0 then (nI i, s) else ((F_X7_leadFrom s x1 (nI i)).1, (F_X7_leadFrom s x1 (nI i)).2)) = _
            rw [lead7_F hw hi v7, leadAt_eq hw he, h2]
            by_cases z : x2 = 0
            · rw [if_pos z, if_pos z]
            · rw [if_neg z, if_neg z]
          rw [e7]
          exact ⟨rfl, Sr_r⟩
