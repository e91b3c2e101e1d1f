/-! the pure part: a flat's content as a function of 36 places, and what the class and the reference compute of it -/
abbrev Fl : Type := Nat → Int32
def nb (f : Fl) : Nat := (f 0).toInt.toNat
/-- h j + .. + h (j + m - 1) -/
def sumR (h : Nat → Int32) : Nat → Nat → Int32
  | _, 0 => 0
  | j, m + 1 => h j + sumR h (j + 1) m
theorem sumR_congr {h h2 : Nat → Int32} : ∀ {m j : Nat}, (∀ i, j ≤ i → i < j + m → h i = h2 i) → sumR h j m = sumR h2 j m
  | 0, _, _ => rfl
  | m + 1, j, H => by
    rw [sumR, sumR, H j (Nat.le_refl j) (by omega), sumR_congr (fun i h1 h2 => H i (by omega) (by omega))]
theorem sumR_add {h h2 : Nat → Int32} : ∀ (m j : Nat), sumR (fun i => h i + h2 i) j m = sumR h j m + sumR h2 j m
  | 0, _ => rfl
  | m + 1, j => by
    rw [sumR, sumR, sumR, sumR_add m]
    grind
theorem sumR_sub {h h2 : Nat → Int32} : ∀ (m j : Nat), sumR (fun i => h i - h2 i) j m = sumR h j m - sumR h2 j m
  | 0, _ => by simp [sumR]
  | m + 1, j => by
    rw [sumR, sumR, sumR, sumR_sub m]
    grind
theorem sumR_neg {h : Nat → Int32} : ∀ (m j : Nat), sumR (fun i => -(h i)) j m = -(sumR h j m)
  | 0, _ => by simp [sumR]
  | m + 1, j => by
    rw [sumR, sumR, sumR_neg m]
    grind
/-- a flat as it may be -/
def Vd (f : Fl) : Prop := (0 ≤ (f 0).toInt ∧ (f 0).toInt ≤ 9) ∧ (0 ≤ (f 1).toInt ∧ (f 1).toInt ≤ 8) ∧ (0 ≤ (f 2).toInt ∧ (f 2).toInt ≤ 8) ∧ (0 ≤ (f 3).toInt ∧ (f 3).toInt ≤ 9) ∧ ∀ b, b < nb f → (1 ≤ (f (9 + b)).toInt ∧ (f (9 + b)).toInt ≤ 5) ∧ (0 ≤ (f (18 + b)).toInt ∧ (f (18 + b)).toInt ≤ 99) ∧ (0 ≤ (f (27 + b)).toInt ∧ (f (27 + b)).toInt ≤ 9)
theorem Vd.b0 {f : Fl} (h : Vd f) : 0 ≤ (f 0).toInt ∧ (f 0).toInt ≤ 9 := h.1
theorem Vd.ca {f : Fl} (h : Vd f) : 0 ≤ (f 1).toInt ∧ (f 1).toInt ≤ 8 := h.2.1
theorem Vd.cb {f : Fl} (h : Vd f) : 0 ≤ (f 2).toInt ∧ (f 2).toInt ≤ 8 := h.2.2.1
theorem Vd.lot {f : Fl} (h : Vd f) : 0 ≤ (f 3).toInt ∧ (f 3).toInt ≤ 9 := h.2.2.2.1
theorem Vd.bed {f : Fl} (h : Vd f) : ∀ b, b < nb f → (1 ≤ (f (9 + b)).toInt ∧ (f (9 + b)).toInt ≤ 5) ∧ (0 ≤ (f (18 + b)).toInt ∧ (f (18 + b)).toInt ≤ 99) ∧ (0 ≤ (f (27 + b)).toInt ∧ (f (27 + b)).toInt ≤ 9) := h.2.2.2.2
/-- what is counted -/
def Ct (n : Nat) (f : Fl) : Prop := ∀ i, i < 3 → 0 ≤ (f (6 + i)).toInt ∧ (f (6 + i)).toInt ≤ 74 * n
/-- two flats that no answer tells apart -/
def EqF (f f2 : Fl) : Prop := (∀ j, j < 9 → f j = f2 j) ∧ ∀ b, b < nb f → f (9 + b) = f2 (9 + b) ∧ f (18 + b) = f2 (18 + b) ∧ f (27 + b) = f2 (27 + b)
theorem EqF.lo {f f2 : Fl} (h : EqF f f2) : ∀ j, j < 9 → f j = f2 j := h.1
theorem EqF.bed {f f2 : Fl} (h : EqF f f2) : ∀ b, b < nb f → f (9 + b) = f2 (9 + b) ∧ f (18 + b) = f2 (18 + b) ∧ f (27 + b) = f2 (27 + b) := h.2
theorem EqF.nb {f f2 : Fl} (h : EqF f f2) : nb f2 = nb f := by unfold Jvm.Pilot.CCockleSquiresLaw_law_r8645_33e73f.nb; rw [h.lo 0 (by decide)]
theorem EqF.rfl {f : Fl} : EqF f f := ⟨fun _ _ => Eq.refl _, fun _ _ => ⟨Eq.refl _, Eq.refl _, Eq.refl _⟩⟩
theorem EqF.symm {f f2 : Fl} (h : EqF f f2) : EqF f2 f := ⟨fun j hj => (h.lo j hj).symm, fun b hb => by
  rw [h.nb] at hb
  exact ⟨(h.bed b hb).1.symm, (h.bed b hb).2.1.symm, (h.bed b hb).2.2.symm⟩⟩
theorem EqF.trans {f f2 f3 : Fl} (h : EqF f f2) (h2 : EqF f2 f3) : EqF f f3 := ⟨fun j hj => (h.lo j hj).trans (h2.lo j hj), fun b hb => by
  have h3 := h2.bed b (by rw [h.nb]; exact hb)
  have h4 := h.bed b hb
  exact ⟨h4.1.trans h3.1, h4.2.1.trans h3.2.1, h4.2.2.trans h3.2.2⟩⟩
theorem EqF.vd {f f2 : Fl} (h : EqF f f2) (v : Vd f) : Vd f2 := by
  refine ⟨?_, ?_, ?_, ?_, fun b hb => ?_⟩
  · rw [← h.lo 0 (by decide)]; exact v.b0
  · rw [← h.lo 1 (by decide)]; exact v.ca
  · rw [← h.lo 2 (by decide)]; exact v.cb
  · rw [← h.lo 3 (by decide)]; exact v.lot
  · rw [h.nb] at hb
    rw [← (h.bed b hb).1, ← (h.bed b hb).2.1, ← (h.bed b hb).2.2]
    exact v.bed b hb
theorem EqF.ct {f f2 : Fl} {n : Nat} (h : EqF f f2) (c : Ct n f) : Ct n f2 := fun i hi => by
  rw [← h.lo (6 + i) (by omega)]
  exact c i hi
theorem Vd.n9 {f : Fl} (v : Vd f) : nb f ≤ 9 := by
  have := v.b0
  unfold nb
  omega
theorem Vd.f0 {f : Fl} (v : Vd f) : f 0 = nI (nb f) := by
  have h := v.b0
  have h9 := v.n9
  refine Int32.toInt_inj.mp ?_
  rw [nI_toInt (by omega)]
  unfold nb
  omega
/-! numbers -/
theorem c9 {b : Nat} (hb : b < 1000) : (9 + nI b).toNatClampNeg = 9 + b := by
  rw [show (9 : Int32) = nI 9 from rfl, nI_add, nI_clamp (by omega)]
theorem c18 {b : Nat} (hb : b < 1000) : (18 + nI b).toNatClampNeg = 18 + b := by
  rw [show (18 : Int32) = nI 18 from rfl, nI_add, nI_clamp (by omega)]
theorem c27 {b : Nat} (hb : b < 1000) : (27 + nI b).toNatClampNeg = 27 + b := by
  rw [show (27 : Int32) = nI 27 from rfl, nI_add, nI_clamp (by omega)]
theorem c6 {b : Nat} (hb : b < 1000) : (6 + nI b).toNatClampNeg = 6 + b := by
  rw [show (6 : Int32) = nI 6 from rfl, nI_add, nI_clamp (by omega)]
theorem c1 {b : Nat} (hb : b < 1000) : (1 + nI b).toNatClampNeg = 1 + b := by
  rw [show (1 : Int32) = nI 1 from rfl, nI_add, nI_clamp (by omega)]
theorem c0 {b : Nat} (hb : b < 1000) : (nI b).toNatClampNeg = b := nI_clamp (by omega)
/-- the reference's 'in' over ints is the class' 'within' -/
theorem in_within {x a b : Int32} : F_X7_in x.toInt64 a.toInt64 b.toInt64 = F_X6_within x a b := by
  unfold F_X7_in F_X6_within
  simp only [lg_cmp_lt, lg_cmp_gt]
  simp only [Int64.lt_iff_toInt_lt, Int32.toInt_toInt64, Int32.lt_iff_toInt_lt]
theorem within_01 {x a b : Int32} : F_X6_within x a b = 0 ∨ F_X6_within x a b = 1 := by
  unfold F_X6_within
  (repeat' split) <;> simp
theorem within_iff {x a b : Int32} : ¬ F_X6_within x a b = 0 ↔ a.toInt ≤ x.toInt ∧ x.toInt ≤ b.toInt := by
  refine ⟨F_X6_within_1, fun h => ?_⟩
  unfold F_X6_within
  rw [if_neg (by rw [toI_lt]; omega), if_neg (by rw [toI_lt]; omega)]
  decide
/-- a number between 0 and a small n -/
theorem within_nI {x b : Int32} {n : Nat} (hb : b.toInt = n) (h : ¬ F_X6_within x 0 b = 0) : ∃ j, j ≤ n ∧ x = nI j := by
  have h1 := within_iff.mp h
  have e0 : (0 : Int32).toInt = 0 := Eq.refl _
  have b1 := Int32.toInt_lt b
  obtain ⟨j, hj, e⟩ := nI_of (x := x) (by rw [toI_lt]; omega)
  subst e
  rw [nI_toInt hj] at h1
  exact ⟨j, by omega, Eq.refl _⟩
theorem isRow_within {x : Int32} : F_X7_isRow x = F_X6_within x 0 7 := in_within (a := 0) (b := 7)
theorem isWhat_within {x : Int32} : F_X7_isWhat x = F_X6_within x 0 1 := in_within (a := 0) (b := 1)
theorem isWho_within {x : Int32} : F_X7_isWho x = F_X6_within x 0 1 := in_within (a := 0) (b := 1)
theorem two_cases {x : Int32} (h : ¬ F_X6_within x 0 1 = 0) : x = 0 ∨ x = 1 := by
  obtain ⟨j, hj, e⟩ := within_nI (n := 1) (by decide) h
  subst e
  rcases (show j = 0 ∨ j = 1 by omega) with q | q <;> subst q
  · exact Or.inl (Eq.refl _)
  · exact Or.inr (Eq.refl _)
theorem isOne_within {x : Int32} : F_X6_isOne x = F_X6_within x 0 1 := by
  by_cases h : F_X6_within x 0 1 = 0
  · rw [h]
    unfold F_X6_isOne
    rw [if_neg (fun q => by subst q; exact absurd h (by decide)), if_neg (fun q => by subst q; exact absurd h (by decide))]
  · rcases two_cases h with q | q <;> (subst q; decide)
/-- a bed's number -/
def hasF (f : Fl) (x : Int32) : Int32 := if x < 0 then 0 else if f 0 ≤ x then 0 else 1
theorem hasF_iff {f : Fl} {x : Int32} (v : Vd f) : ¬ hasF f x = 0 ↔ ∃ b, b < nb f ∧ x = nI b := by
  have h9 := v.n9
  unfold hasF
  constructor
  · intro h
    by_cases h1 : x < 0
    · rw [if_pos h1] at h; exact absurd (Eq.refl _) h
    · by_cases h2 : f 0 ≤ x
      · rw [if_neg h1, if_pos h2] at h; exact absurd (Eq.refl _) h
      · obtain ⟨j, hj, e⟩ := nI_of h1
        subst e
        rw [v.f0, nI_leI (by omega) hj] at h2
        exact ⟨j, by omega, Eq.refl _⟩
  · rintro ⟨b, hb, e⟩
    subst e
    rw [v.f0, if_neg (nI_pos (by omega)), if_neg (nI_ge hb (by omega))]
    decide
theorem hasF_nI {f : Fl} {b : Nat} (v : Vd f) (hb : b < nb f) : hasF f (nI b) = 1 := by
  have h9 := v.n9
  unfold hasF
  rw [v.f0, if_neg (nI_pos (by omega)), if_neg (nI_ge hb (by omega))]
theorem hasF_eq {f f2 : Fl} {x : Int32} (h : EqF f f2) : hasF f2 x = hasF f x := by unfold hasF; rw [h.lo 0 (by decide)]
theorem has_F {g : mm_g} {k : Nat} {x : Int32} (v : Vd (g 2 k)) : F_X2_has g k x = hasF (g 2 k) x := by
  unfold F_X2_has hasF
  by_cases h1 : x < 0
  · rw [if_pos h1, if_pos h1]
  · by_cases h2 : g 2 k 0 ≤ x
    · rw [if_neg h1, if_pos h2, if_neg h1, if_pos h2]
    · rw [if_neg h1, if_neg h2, if_neg h1, if_neg h2, if_neg]
      rw [toI_le] at h2 ⊢
      have := v.b0
      have e9 : (9 : Int32).toInt = 9 := Eq.refl _
      omega
theorem isBed_F {g : mm_g} {x : Int32} (v : Vd (g 7 4)) : F_X7_isBed g x = hasF (g 7 4) x := by
  show F_X7_in x.toInt64 (Int32.toInt64 0) (g 7 4 0 - 1).toInt64 = _
  rw [in_within]
  unfold F_X6_within hasF
  by_cases h1 : x < 0
  · rw [if_pos h1, if_pos h1]
  · rw [if_neg h1, if_neg h1]
    have e : g 7 4 0 - 1 < x ↔ g 7 4 0 ≤ x := by
      rw [toI_lt, toI_le]
      have := v.b0
      have e1 : (1 : Int32).toInt = 1 := Eq.refl _
      rw [Int32.toInt_sub, e1, Int.bmod_eq_of_le_mul_two (by omega) (by omega)]
      omega
    simp only [e]
/-! how a bed lies -/
def offF (f : Fl) (w b : Nat) : Int32 := if 0 ≤ f (1 + w) - nI b then f (1 + w) - nI b else -(f (1 + w) - nI b)
def nearF (f : Fl) (b : Nat) (y : Int32) : Int32 := if offF f 1 b - offF f 0 b < y then (if -y < offF f 1 b - offF f 0 b then 2 else 1) else 0
def warmF (f : Fl) (b : Nat) : Int32 := if f (27 + b) < 5 then 1 else 0
def lieF (f : Fl) (b : Nat) : Int32 :=
  if f (9 + b) = 1 then nearF f b 1 else if f (9 + b) = 2 then nearF f b 2 else if f (9 + b) = 3 then (if nearF f b 1 = 2 then 2 else 1 - nearF f b 1) else if f (9 + b) = 4 then warmF f b else if 10 ≤ f (18 + b) then warmF f b else 2
theorem nearF_012 {f : Fl} {b : Nat} {y : Int32} : nearF f b y = 0 ∨ nearF f b y = 1 ∨ nearF f b y = 2 := by
  unfold nearF
  (repeat' split) <;> simp
theorem lieF_012 {f : Fl} {b : Nat} : lieF f b = 0 ∨ lieF f b = 1 ∨ lieF f b = 2 := by
  unfold lieF warmF
  rcases nearF_012 (f := f) (b := b) (y := 1) with h | h | h <;> rcases nearF_012 (f := f) (b := b) (y := 2) with h2 | h2 | h2 <;> rw [h, h2] <;> (repeat' split) <;> simp_all
theorem lieF_eq {f f2 : Fl} {b : Nat} (h : EqF f f2) (hb : b < nb f) : lieF f2 b = lieF f b := by
  have h1 := h.bed b hb
  unfold lieF nearF offF warmF
  rw [h1.1, h1.2.1, h1.2.2, h.lo (1 + 1) (by decide), h.lo (1 + 0) (by decide)]
theorem lies_F {g : mm_g} {b : Nat} (hb : b < 9) : F_X7_lies g (nI b) = lieF (g 7 4) b := by
  have e : ∀ y, F_X7_nearer g (nI b) y = nearF (g 7 4) b y := fun y => Eq.refl _
  unfold F_X7_lies lieF warmF
  simp only [c9 (show b < 1000 by omega), c18 (show b < 1000 by omega), c27 (show b < 1000 by omega), e]
  (repeat' split) <;> first | rfl | (exfalso; contradiction) | skip
