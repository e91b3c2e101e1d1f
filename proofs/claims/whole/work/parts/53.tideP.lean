theorem sw_o {f : Fl} {b j : Nat} (h : j ≠ 18 + b) (h2 : j ≠ 27 + b) : swF f b j = f j := by
  unfold swF upd
  rw [if_neg h2, if_neg h]
theorem sw_s {f : Fl} {b : Nat} : swF f b (18 + b) = stkF f b := by
  unfold swF upd
  rw [if_neg (by omega), if_pos rfl]
theorem sw_w {f : Fl} {b : Nat} : swF f b (27 + b) = wrmF f b := by
  unfold swF upd
  rw [if_pos rfl]
theorem sw_nb {f : Fl} {b : Nat} : nb (swF f b) = nb f := by
  unfold nb
  rw [sw_o (by omega) (by omega)]
theorem sw_eq {f f2 : Fl} {b : Nat} (h : EqF f f2) (hb : b < nb f) (h9 : nb f ≤ 9) : EqF (swF f b) (swF f2 b) := by
  have h1 := h.bed b hb
  have es : stkF f2 b = stkF f b := by
    unfold stkF moreF
    rw [lieF_eq h hb, h1.2.1, h1.2.2, h.lo 3 (by decide)]
  have ew : wrmF f2 b = wrmF f b := by
    unfold wrmF oddF
    rw [h1.2.2, h.lo 4 (by decide)]
  refine ⟨fun j hj => ?_, fun c hc => ?_⟩
  · rw [sw_o (by omega) (by omega), sw_o (by omega) (by omega), h.lo j hj]
  · rw [sw_nb] at hc
    have h2 := h.bed c hc
    by_cases e : c = b
    · subst e
      rw [sw_s, sw_s, sw_w, sw_w, es, ew, sw_o (by omega) (by omega), sw_o (by omega) (by omega)]
      exact ⟨h2.1, rfl, rfl⟩
    · rw [sw_o (by omega) (by omega), sw_o (by omega) (by omega), sw_o (j := 18 + c) (by omega) (by omega), sw_o (j := 18 + c) (by omega) (by omega), sw_o (j := 27 + c) (by omega) (by omega), sw_o (j := 27 + c) (by omega) (by omega)]
      exact h2
theorem half_9 : ∀ j, j ≤ 9 → 0 ≤ ((nI j + 1) / 2).toInt ∧ ((nI j + 1) / 2).toInt ≤ 5 := by decide +kernel
theorem nI_ofT {x : Int32} {m : Nat} (h : 0 ≤ x.toInt ∧ x.toInt ≤ m) : ∃ j, j ≤ m ∧ x = nI j := by
  obtain ⟨j, hj, e⟩ := nI_of (x := x) (by rw [toI_lt]; have e0 : (0 : Int32).toInt = 0 := Eq.refl _; omega)
  subst e
  rw [nI_toInt hj] at h
  exact ⟨j, by omega, Eq.refl _⟩
theorem add_T {x y : Int32} {m : Int} (h : 0 ≤ x.toInt ∧ x.toInt ≤ m) (h2 : 0 ≤ y.toInt ∧ y.toInt ≤ m) (hm : m < 2 ^ 30) : (x + y).toInt = x.toInt + y.toInt := by
  rw [Int32.toInt_add, Int.bmod_eq_of_le_mul_two (by omega) (by omega)]
theorem more_T {f : Fl} {b : Nat} (hw : 0 ≤ (f (27 + b)).toInt ∧ (f (27 + b)).toInt ≤ 9) (hl : 0 ≤ (f 3).toInt ∧ (f 3).toInt ≤ 9) : 0 ≤ (moreF f b).toInt ∧ (moreF f b).toInt ≤ 14 := by
  unfold moreF
  obtain ⟨j, hj, e⟩ := nI_ofT (m := 9) hw
  have h5 := half_9 j hj
  rw [e]
  by_cases c : lieF f b = 2
  · rw [if_pos c, add_T (m := 9) (by omega) (by omega) (by decide)]
    omega
  · rw [if_neg c, Int32.add_zero]
    omega
theorem sw_vd {f : Fl} {b : Nat} (v : Vd f) (hb : b < nb f) : Vd (swF f b) := by
  have h9 := v.n9
  have h1 := v.bed b hb
  have hm := more_T h1.2.2 v.lot
  have es : 0 ≤ (stkF f b).toInt ∧ (stkF f b).toInt ≤ 99 := by
    unfold stkF
    have e99 : (99 : Int32).toInt = 99 := rfl
    by_cases c : f (18 + b) + moreF f b ≤ 99
    · rw [if_pos c]
      rw [toI_le, add_T (m := 99) (by omega) (by omega) (by decide)] at c
      rw [add_T (m := 99) (by omega) (by omega) (by decide)]
      omega
    · rw [if_neg c]
      omega
  have ew : 0 ≤ (wrmF f b).toInt ∧ (wrmF f b).toInt ≤ 9 := by
    unfold wrmF
    have e1 : (1 : Int32).toInt = 1 := rfl
    have e0 : (0 : Int32).toInt = 0 := rfl
    split
    · split
      · exact h1.2.2
      · next c =>
        rw [toI_le] at c
        rw [Int32.toInt_sub, e1, Int.bmod_eq_of_le_mul_two (by omega) (by omega)]
        omega
    · exact h1.2.2
  refine ⟨?_, ?_, ?_, ?_, fun c hc => ?_⟩
  · rw [sw_o (by omega) (by omega)]; exact v.b0
  · rw [sw_o (by omega) (by omega)]; exact v.ca
  · rw [sw_o (by omega) (by omega)]; exact v.cb
  · rw [sw_o (by omega) (by omega)]; exact v.lot
  · rw [sw_nb] at hc
    by_cases e : c = b
    · subst e
      rw [sw_s, sw_w, sw_o (by omega) (by omega)]
      exact ⟨h1.1, es, ew⟩
    · rw [sw_o (by omega) (by omega), sw_o (j := 18 + c) (by omega) (by omega), sw_o (j := 27 + c) (by omega) (by omega)]
      exact v.bed c hc
def tideL : Fl → Nat → Nat → Fl
  | f, _, 0 => f
  | f, j, m + 1 => tideL (swF f j) (j + 1) m
def tideF (f : Fl) : Fl := upd (tideL f 0 (nb f)) 4 ((tideL f 0 (nb f)) 4 + 1)
theorem tideL_vd : ∀ (m : Nat) {f : Fl} {j : Nat}, Vd f → j + m ≤ nb f → Vd (tideL f j m) ∧ nb (tideL f j m) = nb f ∧ ∀ i, i < 9 → tideL f j m i = f i
  | 0, f, j, v, _ => ⟨v, rfl, fun _ _ => rfl⟩
  | m + 1, f, j, v, h => by
    have h1 := tideL_vd m (f := swF f j) (j := j + 1) (sw_vd v (by omega)) (by rw [sw_nb]; omega)
    rw [sw_nb] at h1
    exact ⟨h1.1, h1.2.1, fun i hi => (h1.2.2 i hi).trans (sw_o (by omega) (by omega))⟩
theorem tideL_eq : ∀ (m : Nat) {f f2 : Fl} {j : Nat}, Vd f → EqF f f2 → j + m ≤ nb f → EqF (tideL f j m) (tideL f2 j m)
  | 0, f, f2, j, v, h, _ => h
  | m + 1, f, f2, j, v, h, hj => tideL_eq m (sw_vd v (by omega)) (sw_eq h (by omega) v.n9) (by rw [sw_nb]; omega)
theorem upd_nb {f : Fl} {j : Nat} {x : Int32} (h : j ≠ 0) : nb (upd f j x) = nb f := by
  unfold nb upd
  rw [if_neg (fun q => h q.symm)]
theorem upd4_vd {f : Fl} {x : Int32} (v : Vd f) : Vd (upd f 4 x) := by
  refine ⟨?_, ?_, ?_, ?_, fun b hb => ?_⟩
  · rw [upd, if_neg (by decide)]; exact v.b0
  · rw [upd, if_neg (by decide)]; exact v.ca
  · rw [upd, if_neg (by decide)]; exact v.cb
  · rw [upd, if_neg (by decide)]; exact v.lot
  · rw [upd_nb (by decide)] at hb
    rw [upd, upd, upd, if_neg (by omega), if_neg (by omega), if_neg (by omega)]
    exact v.bed b hb
theorem upd_eq {f f2 : Fl} {j : Nat} {x : Int32} (h : EqF f f2) (hj : j < 9) (h0 : j ≠ 0) : EqF (upd f j x) (upd f2 j x) := by
  refine ⟨fun i hi => ?_, fun b hb => ?_⟩
  · unfold upd
    split
    · rfl
    · exact h.lo i hi
  · rw [upd_nb h0] at hb
    unfold upd
    rw [if_neg (by omega), if_neg (by omega), if_neg (by omega), if_neg (by omega), if_neg (by omega), if_neg (by omega)]
    exact h.bed b hb
theorem tideF_vd {f : Fl} (v : Vd f) : Vd (tideF f) := upd4_vd (tideL_vd _ v (by omega)).1
theorem tideF_nb {f : Fl} (v : Vd f) : nb (tideF f) = nb f := by
  unfold tideF
  rw [upd_nb (by decide)]
  exact (tideL_vd _ v (by omega)).2.1
theorem tideF_o {f : Fl} {i : Nat} (v : Vd f) (h : i < 9) (h4 : i ≠ 4) : tideF f i = f i := by
  unfold tideF
  rw [upd, if_neg h4]
  exact (tideL_vd _ v (by omega)).2.2 i h
theorem tideF_eq {f f2 : Fl} (v : Vd f) (h : EqF f f2) : EqF (tideF f) (tideF f2) := by
  unfold tideF
  have h1 := tideL_eq (nb f) (j := 0) v h (by omega)
  rw [h.nb, ← h1.lo 4 (by decide)]
  exact upd_eq h1 (by decide) (by decide)
theorem tideF_ct {f : Fl} {n : Nat} (v : Vd f) (h : Ct n f) : Ct n (tideF f) := fun i hi => by
  rw [tideF_o v (by omega) (by omega)]
  exact h i hi
theorem flow_2 {k : Nat} {K : Nat → mm_g → mm_g} : ∀ (n j : Nat) (s : mm_g), Vd (s 2 k) → j ≤ nb (s 2 k) → nb (s 2 k) - j < n → F_X2_flow_2 k K n j s = K (nb (s 2 k)) (mw s 2 k (tideL (s 2 k) j (nb (s 2 k) - j))) := by
  intro n
  induction n with
  | zero => intro j s v hj hm; omega
  | succ n ih =>
    intro j s v hj hm
    unfold F_X2_flow_2
    by_cases c : j = nb (s 2 k)
    · rw [if_pos ((le_0 v hj).mpr c), c, Nat.sub_self, tideL, mw_i]
    · have hlt : j < nb (s 2 k) := by omega
      have hv := sw_vd v hlt
      rw [if_neg (fun q => c ((le_0 v hj).mp q)), swell_F v hlt, ih _ _ (by rw [mw_s]; exact hv) (by rw [mw_s, sw_nb]; omega) (by rw [mw_s, sw_nb]; omega), mw_s, sw_nb, mw_w, sub_succ hlt, tideL]
theorem flow_F {g : mm_g} {k : Nat} (v : Vd (g 2 k)) : F_X2_flow g k = mw g 2 k (tideF (g 2 k)) := by
  unfold F_X2_flow
  rw [flow_2 _ 0 g v (Nat.zero_le _) (by show _ < nb (g 2 k) + 1; omega)]
  show wr _ 2 k 4 _ = _
  unfold wr
  rw [mw_s, mw_w]
  rfl
theorem tideS_2 {K : Nat → mm_g → mm_g} {n j : Nat} {s : mm_g} (hj : j < 9) (c : ¬ s 7 4 0 ≤ nI j) : F_X7_oneTide_2 K (n + 1) j s = F_X7_oneTide_2 K n (j + 1) (mw s 7 4 (swF (s 7 4) j)) := by
  have hL : F_X7_lies s (nI j) = lieF (s 7 4) j := lies_F hj
  rw [F_X7_oneTide_2, if_neg c]
  simp only [c18 (show j < 1000 by omega), c27 (show j < 1000 by omega), hL, wr_at, true_and, show ¬ (4 = 18 + j) by omega, show ¬ (27 + j = 18 + j) by omega, if_false, Int32.add_zero]
  unfold swF wrmF stkF moreF oddF
  by_cases h1 : lieF (s 7 4) j = 2
  · simp only [h1, if_true]
    by_cases h3 : s 7 4 (18 + j) + ((s 7 4 (27 + j) + 1) / 2 + s 7 4 3) ≤ 99
    · by_cases h2 : s 7 4 4 - s 7 4 4 / 2 * 2 = 1
      · by_cases h4 : s 7 4 (27 + j) ≤ 0
        · simp only [h2, h3, h4, if_true]
          rw [wr1 (j := 27 + j) (by omega)]
        · simp only [h2, h3, h4, if_true, if_false]
          rw [wr2]
      · simp only [h2, h3, if_true, if_false]
        rw [wr1 (j := 27 + j) (by omega)]
    · by_cases h2 : s 7 4 4 - s 7 4 4 / 2 * 2 = 1
      · by_cases h4 : s 7 4 (27 + j) ≤ 0
        · simp only [h2, h3, h4, if_true, if_false]
          rw [wr1 (j := 27 + j) (by omega)]
        · simp only [h2, h3, h4, if_true, if_false]
          rw [wr2]
      · simp only [h2, h3, if_true, if_false]
        rw [wr1 (j := 27 + j) (by omega)]
  · simp only [h1, if_false, Int32.add_zero]
    by_cases h3 : s 7 4 (18 + j) + (s 7 4 (27 + j) + 1) / 2 ≤ 99
    · by_cases h2 : s 7 4 4 - s 7 4 4 / 2 * 2 = 1
      · by_cases h4 : s 7 4 (27 + j) ≤ 0
        · simp only [h2, h3, h4, if_true]
          rw [wr1 (j := 27 + j) (by omega)]
        · simp only [h2, h3, h4, if_true, if_false]
          rw [wr2]
      · simp only [h2, h3, if_true, if_false]
        rw [wr1 (j := 27 + j) (by omega)]
    · by_cases h2 : s 7 4 4 - s 7 4 4 / 2 * 2 = 1
      · by_cases h4 : s 7 4 (27 + j) ≤ 0
        · simp only [h2, h3, h4, if_true, if_false]
          rw [wr1 (j := 27 + j) (by omega)]
        · simp only [h2, h3, h4, if_true, if_false]
          rw [wr2]
      · simp only [h2, h3, if_true, if_false]
        rw [wr1 (j := 27 + j) (by omega)]
theorem tide7_2 {K : Nat → mm_g → mm_g} : ∀ (n j : Nat) (s : mm_g), Vd (s 7 4) → j ≤ nb (s 7 4) → nb (s 7 4) - j < n → F_X7_oneTide_2 K n j s = K (nb (s 7 4)) (mw s 7 4 (tideL (s 7 4) j (nb (s 7 4) - j))) := by
  intro n
  induction n with
  | zero => intro j s v hj hm; omega
  | succ n ih =>
    intro j s v hj hm
    have h9 := v.n9
    by_cases c : j = nb (s 7 4)
    · rw [F_X7_oneTide_2, if_pos ((le_0 v hj).mpr c), c, Nat.sub_self, tideL, mw_i]
    · have hlt : j < nb (s 7 4) := by omega
      have hv := sw_vd v hlt
      rw [tideS_2 (by omega) (fun q => c ((le_0 v hj).mp q)), ih _ _ (by rw [mw_s]; exact hv) (by rw [mw_s, sw_nb]; omega) (by rw [mw_s, sw_nb]; omega), mw_s, sw_nb, mw_w, sub_succ hlt, tideL]
theorem oneTide_F {g : mm_g} (v : Vd (g 7 4)) : F_X7_oneTide g = mw g 7 4 (tideF (g 7 4)) := by
  unfold F_X7_oneTide
  rw [tide7_2 _ 0 g v (Nat.zero_le _) (by show _ < nb (g 7 4) + 1; omega)]
  show wr _ 7 4 4 _ = _
  unfold wr
  rw [mw_s, mw_w]
  rfl
