theorem sub_succ {N j : Nat} (h : j < N) : N - j = (N - (j + 1)) + 1 := by omega
theorem tallyF8 {g : mm_g} {k : Nat} {w : Int32} (v : Vd (g 2 k)) (hw : ¬ F_X6_within w 0 2 = 0) : F_X2_tallyFor g k w = g 2 k (6 + w.toNatClampNeg) + sumR (tallyH (g 2 k) w) 0 (nb (g 2 k)) := by
  unfold F_X2_tallyFor F_X2_countedFor
  rw [if_neg hw]
  exact tally_8 v _ _ 0 (Nat.zero_le _) (by show _ < nb (g 2 k) + 1; omega)
def leadH (f : Fl) (w : Int32) (b : Nat) : Int32 := if vetoF f b = 0 then gainW f w b else 0
theorem lead_8 {g : mm_g} {k : Nat} {w : Int32} {K : Int32 → Nat → Int32} (v : Vd (g 2 k)) : ∀ (n : Nat) (a : Int32) (j : Nat), j ≤ nb (g 2 k) → nb (g 2 k) - j < n → F_X2_leadOf_8 g k w K n a j = K (a + sumR (leadH (g 2 k) w) j (nb (g 2 k) - j)) (nb (g 2 k)) := by
  intro n
  induction n with
  | zero => intro a j hj hm; omega
  | succ n ih =>
    intro a j hj hm
    unfold F_X2_leadOf_8
    by_cases c : j = nb (g 2 k)
    · rw [if_pos ((le_0 v hj).mpr c), c, Nat.sub_self, sumR, Int32.add_zero]
    · have hlt : j < nb (g 2 k) := by omega
      rw [if_neg (fun q => c ((le_0 v hj).mp q)), hasVeto_F v hlt, gainBy_F v hlt, ih _ _ (by omega) (by omega), ih _ _ (by omega) (by omega), sub_succ hlt, sumR, ← Int32.add_assoc]
      unfold leadH
      rcases veto_01 (f := g 2 k) (b := j) with h | h <;> rw [h] <;> simp
def countF (f : Fl) (w : Int32) : Int32 := if w = 0 then f 6 - f 7 else -(f 6 - f 7)
def leadF (f : Fl) (w : Int32) : Int32 := countF f w + sumR (leadH f w) 0 (nb f)
theorem leadOf_F {g : mm_g} {k : Nat} {w : Int32} (v : Vd (g 2 k)) : F_X2_leadOf g k w = leadF (g 2 k) w := by
  unfold F_X2_leadOf leadF
  rw [lead_8 v _ _ 0 (Nat.zero_le _) (by show _ < nb (g 2 k) + 1; omega)]
  rfl
theorem stock_4 {g : mm_g} {k : Nat} {K : Int32 → Nat → Int32} (v : Vd (g 2 k)) : ∀ (n : Nat) (a : Int32) (j : Nat), j ≤ nb (g 2 k) → nb (g 2 k) - j < n → F_X2_allStock_4 g k K n a j = K (a + sumR (fun b => g 2 k (18 + b)) j (nb (g 2 k) - j)) (nb (g 2 k)) := by
  intro n
  induction n with
  | zero => intro a j hj hm; omega
  | succ n ih =>
    intro a j hj hm
    unfold F_X2_allStock_4
    by_cases c : j = nb (g 2 k)
    · rw [if_pos ((le_0 v hj).mpr c), c, Nat.sub_self, sumR, Int32.add_zero]
    · have hlt : j < nb (g 2 k) := by omega
      rw [if_neg (fun q => c ((le_0 v hj).mp q)), stockOf_F v hlt, ih _ _ (by omega) (by omega), sub_succ hlt, sumR, ← Int32.add_assoc]
def stocksF (f : Fl) : Int32 := sumR (fun b => f (18 + b)) 0 (nb f)
theorem allStock_F {g : mm_g} {k : Nat} (v : Vd (g 2 k)) : F_X2_allStock g k = stocksF (g 2 k) := by
  unfold F_X2_allStock stocksF
  rw [stock_4 v _ _ 0 (Nat.zero_le _) (by show _ < nb (g 2 k) + 1; omega), Int32.zero_add]
  rfl
theorem stock7_4 {g : mm_g} {K : Int32 → Nat → Int32} (v : Vd (g 7 4)) : ∀ (n : Nat) (a : Int32) (j : Nat), j ≤ nb (g 7 4) → nb (g 7 4) - j < n → F_X7_allSizes_4 g K n a j = K (a + sumR (fun b => g 7 4 (18 + b)) j (nb (g 7 4) - j)) (nb (g 7 4)) := by
  intro n
  induction n with
  | zero => intro a j hj hm; omega
  | succ n ih =>
    intro a j hj hm
    have h9 := v.n9
    unfold F_X7_allSizes_4
    by_cases c : j = nb (g 7 4)
    · rw [if_pos ((le_0 v hj).mpr c), c, Nat.sub_self, sumR, Int32.add_zero]
    · have hlt : j < nb (g 7 4) := by omega
      rw [if_neg (fun q => c ((le_0 v hj).mp q)), c18 (by omega), ih _ _ (by omega) (by omega), sub_succ hlt, sumR, ← Int32.add_assoc]
theorem allSizes_F {g : mm_g} (v : Vd (g 7 4)) : F_X7_allSizes g = stocksF (g 7 4) := by
  unfold F_X7_allSizes stocksF
  rw [stock7_4 v _ _ 0 (Nat.zero_le _) (by show _ < nb (g 7 4) + 1; omega), Int32.zero_add]
  rfl
/-- what the beds of a set bring for one -/
def setF (s : Int32) (b : Nat) : Int32 := if ((s >>> (nI b &&& 31)) &&& 1) = 1 then 1 else 0
theorem set_01 {s : Int32} {b : Nat} : setF s b = 0 ∨ setF s b = 1 := by
  unfold setF
  split
  · exact Or.inr rfl
  · exact Or.inl rfl
def bringH (f : Fl) (w s : Int32) (b : Nat) : Int32 := if setF s b = 0 then 0 else tallyH f w b
theorem bring_5 {g : mm_g} {w s : Int32} {K : Int32 → Nat → Int32} (v : Vd (g 7 4)) : ∀ (n : Nat) (a : Int32) (j : Nat), j ≤ nb (g 7 4) → nb (g 7 4) - j < n → F_X7_bringFor_5 g w s K n a j = K (a + sumR (bringH (g 7 4) w s) j (nb (g 7 4) - j)) (nb (g 7 4)) := by
  intro n
  induction n with
  | zero => intro a j hj hm; omega
  | succ n ih =>
    intro a j hj hm
    have h9 := v.n9
    unfold F_X7_bringFor_5
    by_cases c : j = nb (g 7 4)
    · rw [if_pos ((le_0 v hj).mpr c), c, Nat.sub_self, sumR, Int32.add_zero]
    · have hlt : j < nb (g 7 4) := by omega
      rw [if_neg (fun q => c ((le_0 v hj).mp q)), hasVeto7_F, lies_F (by omega), c18 (by omega), ih _ _ (by omega) (by omega), ih _ _ (by omega) (by omega), sub_succ hlt, sumR, ← Int32.add_assoc]
      show (if setF s j = 0 then _ else _) = _
      unfold bringH tallyH bushF
      rcases set_01 (s := s) (b := j) with h0 | h0 <;> rw [h0]
      · simp
      · rcases veto_01 (f := g 7 4) (b := j) with h | h <;> rw [h]
        · by_cases h3 : lieF (g 7 4) j = w
          · rw [if_pos h3]; simp [h3]
          · rw [if_neg h3]; simp [h3]
        · simp
def bringF (f : Fl) (w s : Int32) : Int32 := sumR (bringH f w s) 0 (nb f)
theorem bringFor_F {g : mm_g} {w s : Int32} (v : Vd (g 7 4)) : F_X7_bringFor g w s = bringF (g 7 4) w s := by
  unfold F_X7_bringFor bringF
  rw [bring_5 v _ _ 0 (Nat.zero_le _) (by show _ < nb (g 7 4) + 1; omega), Int32.zero_add]
  rfl
theorem all_511 : ∀ b, b < 9 → setF 511 b = 1 := by decide +kernel
theorem bring_511 {f : Fl} {w : Int32} (h9 : nb f ≤ 9) : bringF f w 511 = sumR (tallyH f w) 0 (nb f) := by
  unfold bringF
  refine sumR_congr (fun i h1 h2 => ?_)
  unfold bringH
  rw [all_511 i (by omega), if_neg (by decide)]
theorem tallyOf_F {g : mm_g} {w : Int32} (v : Vd (g 7 4)) : F_X7_tallyOf g w = g 7 4 (6 + w).toNatClampNeg + sumR (tallyH (g 7 4) w) 0 (nb (g 7 4)) := by
  unfold F_X7_tallyOf
  rw [bringFor_F v, bring_511 v.n9]
theorem c6w {w : Int32} (hw : ¬ F_X6_within w 0 2 = 0) : (6 + w).toNatClampNeg = 6 + w.toNatClampNeg := by
  obtain ⟨j, hj, e⟩ := within_nI (n := 2) (by decide) hw
  subst e
  rw [c6 (by omega), c0 (by omega)]
theorem gain_two {f : Fl} {b : Nat} {w : Int32} (hw : w = 0 ∨ w = 1) : leadH f w b = tallyH f w b - tallyH f (1 - w) b := by
  unfold leadH tallyH gainW
  rcases veto_01 (f := f) (b := b) with h | h <;> rw [h]
  · rcases hw with e | e <;> subst e <;> rcases lieF_012 (f := f) (b := b) with h2 | h2 | h2 <;> rw [h2] <;> simp
  · simp
theorem leadOf7_F {g : mm_g} {w : Int32} (v : Vd (g 7 4)) (hw : w = 0 ∨ w = 1) : F_X7_leadOf g w = leadF (g 7 4) w := by
  unfold F_X7_leadOf leadF
  rw [tallyOf_F v, tallyOf_F v, sumR_congr (fun i _ _ => gain_two (f := g 7 4) (b := i) hw), sumR_sub]
  unfold countF
  rcases hw with e | e <;> subst e
  · rw [if_pos rfl]
    show g 7 4 6 + _ - (g 7 4 7 + _) = _
    grind
  · rw [if_neg (by decide)]
    show g 7 4 7 + _ - (g 7 4 6 + _) = _
    grind
theorem leadF_eq {f f2 : Fl} {w : Int32} (h : EqF f f2) : leadF f2 w = leadF f w := by
  unfold leadF countF
  rw [h.nb, h.lo 6 (by decide), h.lo 7 (by decide)]
  congr 1
  refine sumR_congr (fun i h1 h2 => ?_)
  unfold leadH
  rw [vetoF_eq h, gainW_eq h (by omega)]
theorem tallyH_eq {f f2 : Fl} {w : Int32} {b : Nat} (h : EqF f f2) (hb : b < nb f) : tallyH f2 w b = tallyH f w b := by
  unfold tallyH bushF
  rw [vetoF_eq h, lieF_eq h hb, (h.bed b hb).2.1]
theorem stocksF_eq {f f2 : Fl} (h : EqF f f2) : stocksF f2 = stocksF f := by
  unfold stocksF
  rw [h.nb]
  exact sumR_congr (fun i h1 h2 => ((h.bed i (by omega)).2.1).symm)
/-! a tide -/
def moreF (f : Fl) (b : Nat) : Int32 := (f (27 + b) + 1) / 2 + (if lieF f b = 2 then f 3 else 0)
def stkF (f : Fl) (b : Nat) : Int32 := if f (18 + b) + moreF f b ≤ 99 then f (18 + b) + moreF f b else 99
def oddF (f : Fl) : Int32 := f 4 - f 4 / 2 * 2
def wrmF (f : Fl) (b : Nat) : Int32 := if oddF f = 1 then (if f (27 + b) ≤ 0 then f (27 + b) else f (27 + b) - 1) else f (27 + b)
def swF (f : Fl) (b : Nat) : Fl := upd (upd f (18 + b) (stkF f b)) (27 + b) (wrmF f b)
theorem wr2 {g : mm_g} {t k i j : Nat} {x y : Int32} : wr (wr g t k i x) t k j y = mw g t k (upd (upd (g t k) i x) j y) := by
  unfold wr
  rw [mw_s, mw_w]
theorem upd_same {f : Fl} {j : Nat} : upd f j (f j) = f := by
  funext i
  unfold upd
  split
  · next h => rw [h]
  · rfl
theorem wr1 {g : mm_g} {t k i j : Nat} {x : Int32} (h : j ≠ i) : wr g t k i x = mw g t k (upd (upd (g t k) i x) j (g t k j)) := by
  unfold wr
  rw [show g t k j = upd (g t k) i x j from (if_neg h).symm, upd_same]
theorem min_99 {a : Int32} : (if a < 99 then a else 99) = (if a ≤ 99 then a else 99) := by
  by_cases h : a = 99
  · subst h; decide
  · by_cases h1 : a < 99
    · rw [if_pos h1, if_pos (by rw [toI_le]; rw [toI_lt] at h1; omega)]
    · rw [if_neg h1, if_neg]
      rw [toI_le]; rw [toI_lt] at h1
      have : a.toInt ≠ (99 : Int32).toInt := fun q => h (Int32.toInt_inj.mp q)
      omega
theorem max_0 {a : Int32} (h : 0 ≤ a.toInt) : (if 0 < a - 1 then a - 1 else 0) = (if a ≤ 0 then a else a - 1) := by
  have e0 : (0 : Int32).toInt = 0 := rfl
  have e1 : (1 : Int32).toInt = 1 := rfl
  have b1 := Int32.toInt_lt a
  have es : (a - 1).toInt = a.toInt - 1 := by rw [Int32.toInt_sub, e1, Int.bmod_eq_of_le_mul_two (by omega) (by omega)]
  by_cases h1 : a = 0
  · subst h1; decide
  · have h2 : a.toInt ≠ 0 := fun q => h1 (Int32.toInt_inj.mp (q.trans e0.symm))
    rw [if_neg (show ¬ a ≤ 0 by rw [toI_le]; omega)]
    by_cases h3 : 0 < a - 1
    · rw [if_pos h3]
    · rw [if_neg h3]
      rw [toI_lt] at h3
      refine Int32.toInt_inj.mp ?_
      omega
theorem swell_F {g : mm_g} {k b : Nat} (v : Vd (g 2 k)) (hb : b < nb (g 2 k)) : F_X2_swell g k (nI b) = mw g 2 k (swF (g 2 k) b) := by
  have h9 := v.n9
  have hw := (v.bed b hb).2.2.1
  unfold F_X2_swell
  rw [has_F v, hasF_nI v hb, if_neg (by decide), lying_F v hb, c0 (by omega)]
  simp only [wr_at, true_and, show ¬ (4 = 18 + b) by omega, show ¬ (27 + b = 18 + b) by omega, if_false, min_99, max_0 hw]
  unfold swF wrmF stkF moreF oddF
  by_cases h1 : lieF (g 2 k) b = 2
  · simp only [h1, if_true]
    by_cases h2 : g 2 k 4 - g 2 k 4 / 2 * 2 = 1
    · simp only [h2, if_true]
      exact wr2
    · simp only [h2, if_false]
      exact wr1 (by omega)
  · simp only [h1, if_false, Int32.add_zero]
    by_cases h2 : g 2 k 4 - g 2 k 4 / 2 * 2 = 1
    · simp only [h2, if_true]
      exact wr2
    · simp only [h2, if_false]
      exact wr1 (by omega)
