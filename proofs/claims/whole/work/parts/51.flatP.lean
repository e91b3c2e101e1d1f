theorem mw_at (g : mm_g) (t k : Nat) (f : Fl) (t2 k2 j : Nat) : mw g t k f t2 k2 j = if t2 = t ∧ k2 = k then f j else g t2 k2 j := by
  unfold mw
  split <;> rfl
theorem abs_sym : ∀ j, j < 9 → ∀ b, b < 9 → (if 0 ≤ nI b - nI j then nI b - nI j else 0 - (nI b - nI j)) = (if 0 ≤ nI j - nI b then nI j - nI b else -(nI j - nI b)) := by decide +kernel
theorem cell_of {x : Int32} (h : 0 ≤ x.toInt ∧ x.toInt ≤ 8) : ∃ j, j < 9 ∧ x = nI j := by
  obtain ⟨j, hj, e⟩ := nI_of (x := x) (by rw [toI_lt]; have e0 : (0 : Int32).toInt = 0 := Eq.refl _; omega)
  subst e
  rw [nI_toInt hj] at h
  exact ⟨j, by omega, Eq.refl _⟩
theorem near_F {g : mm_g} {k b : Nat} {y : Int32} (v : Vd (g 2 k)) (hb : b < 9) : F_X2_nearerBy g k (nI b) y = nearF (g 2 k) b y := by
  unfold F_X2_nearerBy nearF offF
  obtain ⟨i, hi, ei⟩ := cell_of v.ca
  obtain ⟨j, hj, ej⟩ := cell_of v.cb
  rw [show 1 + 1 = 2 from rfl, show 1 + 0 = 1 from rfl, ei, ej, abs_sym i hi b hb, abs_sym j hj b hb]
theorem Int32_ne {x y : Int32} (h : x.toInt ≠ y.toInt) : x ≠ y := fun q => h (by rw [q])
theorem kind_5 {x : Int32} (h : 1 ≤ x.toInt ∧ x.toInt ≤ 5) : x = 1 ∨ x = 2 ∨ x = 3 ∨ x = 4 ∨ x = 5 := by
  obtain ⟨j, hj, e⟩ := nI_of (x := x) (by rw [toI_lt]; have e0 : (0 : Int32).toInt = 0 := Eq.refl _; omega)
  subst e
  rw [nI_toInt hj] at h
  rcases (show j = 1 ∨ j = 2 ∨ j = 3 ∨ j = 4 ∨ j = 5 by omega) with q | q | q | q | q <;> subst q
  · exact Or.inl rfl
  · exact Or.inr (Or.inl rfl)
  · exact Or.inr (Or.inr (Or.inl rfl))
  · exact Or.inr (Or.inr (Or.inr (Or.inl rfl)))
  · exact Or.inr (Or.inr (Or.inr (Or.inr rfl)))
theorem lying_F {g : mm_g} {k b : Nat} (v : Vd (g 2 k)) (hb : b < nb (g 2 k)) : F_X2_lying g k (nI b) = lieF (g 2 k) b := by
  have h9 := v.n9
  have hk := kind_5 (v.bed b hb).1
  unfold F_X2_lying lieF warmF F_X2_byWarmth
  rw [has_F v, hasF_nI v hb, if_neg (by decide), near_F v (by omega), near_F v (by omega), c0 (show b < 1000 by omega)]
  rcases hk with q | q | q | q | q <;> rw [q]
  · rw [if_pos rfl, if_pos rfl]
  · rw [if_neg (by decide), if_pos rfl, if_neg (by decide), if_pos rfl]
  · rw [if_neg (by decide), if_neg (by decide), if_pos rfl, if_neg (by decide), if_neg (by decide), if_pos rfl]
    rcases nearF_012 (f := g 2 k) (b := b) (y := 1) with h | h | h <;> rw [h] <;> decide
  · simp only [show ¬ (4 : Int32) = 1 by decide, show ¬ (4 : Int32) = 2 by decide, show ¬ (4 : Int32) = 3 by decide, if_false, if_true]
  · simp only [show ¬ (5 : Int32) = 1 by decide, show ¬ (5 : Int32) = 2 by decide, show ¬ (5 : Int32) = 3 by decide, show ¬ (5 : Int32) = 4 by decide, if_false, if_true]
def vetoF (f : Fl) (b : Nat) : Int32 := if ((f 5 >>> (nI b &&& 31)) &&& 1) = 1 then 1 else 0
theorem veto_01 {f : Fl} {b : Nat} : vetoF f b = 0 ∨ vetoF f b = 1 := by
  unfold vetoF
  split
  · exact Or.inr rfl
  · exact Or.inl rfl
theorem hasVeto_F {g : mm_g} {k b : Nat} (v : Vd (g 2 k)) (hb : b < nb (g 2 k)) : F_X2_hasVeto g k (nI b) = vetoF (g 2 k) b := by
  unfold F_X2_hasVeto vetoF
  rw [has_F v, hasF_nI v hb, if_neg (by decide)]
theorem hasVeto7_F {g : mm_g} {b : Nat} : F_X7_hasVeto g (nI b) = vetoF (g 7 4) b := rfl
theorem stockOf_F {g : mm_g} {k b : Nat} (v : Vd (g 2 k)) (hb : b < nb (g 2 k)) : F_X2_stockOf g k (nI b) = g 2 k (18 + b) := by
  have h9 := v.n9
  unfold F_X2_stockOf
  rw [has_F v, hasF_nI v hb, if_neg (by decide), c0 (by omega)]
theorem warmOf_F {g : mm_g} {k b : Nat} (v : Vd (g 2 k)) (hb : b < nb (g 2 k)) : F_X2_warmOf g k (nI b) = g 2 k (27 + b) := by
  have h9 := v.n9
  unfold F_X2_warmOf
  rw [has_F v, hasF_nI v hb, if_neg (by decide), c0 (by omega)]
theorem kindOf_F {g : mm_g} {k b : Nat} (v : Vd (g 2 k)) (hb : b < nb (g 2 k)) : F_X2_kindOf g k (nI b) = g 2 k (9 + b) := by
  have h9 := v.n9
  unfold F_X2_kindOf
  rw [has_F v, hasF_nI v hb, if_neg (by decide), c0 (by omega)]
def toldF (f : Fl) (b : Nat) (w : Int32) : Int32 := if w = 0 then f (18 + b) else if w = 1 then f (27 + b) else lieF f b
theorem tellOf_F {g : mm_g} {k b : Nat} {w : Int32} (v : Vd (g 2 k)) (hb : b < nb (g 2 k)) : F_X2_tellOf g k (nI b) w = toldF (g 2 k) b w := by
  unfold F_X2_tellOf toldF
  rw [stockOf_F v hb, warmOf_F v hb, lying_F v hb]
theorem toldOf_F {g : mm_g} {b : Nat} {w : Int32} (hb : b < 9) : F_X7_toldOf g (nI b) w = toldF (g 7 4) b w := by
  unfold F_X7_toldOf toldF
  rw [lies_F hb, c18 (by omega), c27 (by omega)]
theorem toldF_eq {f f2 : Fl} {b : Nat} {w : Int32} (h : EqF f f2) (hb : b < nb f) : toldF f2 b w = toldF f b w := by
  unfold toldF
  rw [lieF_eq h hb, (h.bed b hb).2.1, (h.bed b hb).2.2]
def bushF (f : Fl) (b : Nat) : Int32 := 3 * f (18 + b) / 4
def gainW (f : Fl) (w : Int32) (b : Nat) : Int32 := if lieF f b = 2 then 0 else if lieF f b = w then bushF f b else -(bushF f b)
theorem sieved_F {x : Int32} : F_X2_sieved x = 3 * x / 4 := by
  unfold F_X2_sieved
  rw [Int32.mul_comm]
theorem gainBy_F {g : mm_g} {k b : Nat} {w : Int32} (v : Vd (g 2 k)) (hb : b < nb (g 2 k)) : F_X2_gainBy g k (nI b) w = gainW (g 2 k) w b := by
  unfold F_X2_gainBy gainW bushF
  rw [lying_F v hb, stockOf_F v hb, sieved_F]
theorem gainW_eq {f f2 : Fl} {b : Nat} {w : Int32} (h : EqF f f2) (hb : b < nb f) : gainW f2 w b = gainW f w b := by
  unfold gainW bushF
  rw [lieF_eq h hb, (h.bed b hb).2.1]
theorem vetoF_eq {f f2 : Fl} {b : Nat} (h : EqF f f2) : vetoF f2 b = vetoF f b := by
  unfold vetoF
  rw [h.lo 5 (by decide)]
/-! sums over the beds -/
theorem le_0 {f : Fl} {j : Nat} (v : Vd f) (hj : j ≤ nb f) : f 0 ≤ nI j ↔ j = nb f := by
  have h9 := v.n9
  rw [v.f0, nI_leI (by omega) (by omega)]
  omega
def tallyH (f : Fl) (w : Int32) (b : Nat) : Int32 := if vetoF f b = 0 then (if lieF f b = w then bushF f b else 0) else 0
theorem tally_8 {g : mm_g} {k : Nat} {w : Int32} {K : Int32 → Nat → Int32} (v : Vd (g 2 k)) : ∀ (n : Nat) (a : Int32) (j : Nat), j ≤ nb (g 2 k) → nb (g 2 k) - j < n → F_X2_tallyFor_8 g k w K n a j = K (a + sumR (tallyH (g 2 k) w) j (nb (g 2 k) - j)) (nb (g 2 k)) := by
  intro n
  induction n with
  | zero => intro a j hj hm; omega
  | succ n ih =>
    intro a j hj hm
    unfold F_X2_tallyFor_8
    by_cases c : j = nb (g 2 k)
    · rw [if_pos ((le_0 v hj).mpr c), c, Nat.sub_self, sumR, Int32.add_zero]
    · have hlt : j < nb (g 2 k) := by omega
      obtain ⟨d, hd⟩ : ∃ d, nb (g 2 k) - j = d + 1 := ⟨nb (g 2 k) - j - 1, by omega⟩
      rw [if_neg (fun q => c ((le_0 v hj).mp q)), hasVeto_F v hlt, lying_F v hlt, stockOf_F v hlt, sieved_F, ih _ _ (by omega) (by omega), ih _ _ (by omega) (by omega), hd, sumR, show nb (g 2 k) - (j + 1) = d by omega, ← Int32.add_assoc]
      unfold tallyH bushF
      rcases veto_01 (f := g 2 k) (b := j) with h | h <;> rw [h]
      · by_cases h3 : lieF (g 2 k) j = w
        · rw [if_pos h3]; simp only [h3, if_true]
        · simp only [h3, if_false, if_true, Int32.add_zero]
      · simp
