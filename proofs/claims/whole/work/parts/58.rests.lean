/-! the lead's bound, and the other one's lead -/
theorem countF_1 {f : Fl} : countF f 1 = -(countF f 0) := by
  unfold countF
  rw [if_neg (by decide), if_pos rfl]
theorem leadH_1 {f : Fl} {b : Nat} : leadH f 1 b = -(leadH f 0 b) := by
  unfold leadH gainW
  rcases veto_01 (f := f) (b := b) with h | h <;> rw [h]
  · rcases lieF_012 (f := f) (b := b) with h2 | h2 | h2 <;> rw [h2] <;> simp
  · simp
theorem leadF_1 {f : Fl} : leadF f 1 = -(leadF f 0) := by
  unfold leadF
  rw [countF_1, sumR_congr (fun i _ _ => leadH_1 (f := f) (b := i)), sumR_neg, Int32.neg_add, Int32.sub_eq_add_neg]
theorem bush_100 : ∀ j, j < 100 → 0 ≤ (3 * nI j / 4).toInt ∧ (3 * nI j / 4).toInt ≤ 74 := by decide +kernel
theorem bush_b {f : Fl} {b : Nat} (v : Vd f) (hb : b < nb f) : 0 ≤ (bushF f b).toInt ∧ (bushF f b).toInt ≤ 74 := by
  obtain ⟨j, hj, e⟩ := nI_ofT (m := 99) (v.bed b hb).2.1
  unfold bushF
  rw [e]
  exact bush_100 j (by omega)
theorem neg_T {x : Int32} (h : -1000000 ≤ x.toInt ∧ x.toInt ≤ 1000000) : (-x).toInt = -x.toInt := by
  rw [Int32.toInt_neg, Int.bmod_eq_of_le_mul_two (by omega) (by omega)]
theorem leadH_b {f : Fl} {w : Int32} {b : Nat} (v : Vd f) (hb : b < nb f) : -74 ≤ (leadH f w b).toInt ∧ (leadH f w b).toInt ≤ 74 := by
  have h := bush_b v hb
  have e0 : (0 : Int32).toInt = 0 := rfl
  unfold leadH gainW
  split
  · split
    · omega
    · split
      · omega
      · rw [neg_T (by omega)]; omega
  · omega
theorem sumR_b {h : Nat → Int32} {M : Nat} (hM : M ≤ 1000) : ∀ (m j : Nat), m ≤ 20 → (∀ i, j ≤ i → i < j + m → -(M : Int) ≤ (h i).toInt ∧ (h i).toInt ≤ M) → -((M * m : Nat) : Int) ≤ (sumR h j m).toInt ∧ (sumR h j m).toInt ≤ (M * m : Nat)
  | 0, j, _, _ => by
    rw [sumR]
    have e0 : (0 : Int32).toInt = 0 := rfl
    omega
  | m + 1, j, hm, H => by
    have h1 := sumR_b hM m (j + 1) (by omega) (fun i a b => H i (by omega) (by omega))
    have h2 := H j (Nat.le_refl j) (by omega)
    have h3 : M * m ≤ 1000 * 20 := Nat.mul_le_mul hM (by omega)
    rw [sumR, Nat.mul_succ]
    generalize M * m = P at h1 h3
    rw [Int32.toInt_add, Int.bmod_eq_of_le_mul_two (by omega) (by omega)]
    omega
theorem leadF_b {f : Fl} {w : Int32} {n : Nat} (v : Vd f) (c : Ct n f) (hn : n ≤ 1000) (hw : w = 0 ∨ w = 1) : -1000000 ≤ (leadF f w).toInt ∧ (leadF f w).toInt ≤ 1000000 := by
  have h9 := v.n9
  have h1 := sumR_b (h := leadH f w) (M := 74) (by decide) (nb f) 0 (by omega) (fun i _ b => leadH_b v (by omega))
  have h6 : 0 ≤ (f 6).toInt ∧ (f 6).toInt ≤ 74 * n := c 0 (by decide)
  have h7 : 0 ≤ (f 7).toInt ∧ (f 7).toInt ≤ 74 * n := c 1 (by decide)
  have h2 : -74000 ≤ (countF f w).toInt ∧ (countF f w).toInt ≤ 74000 := by
    have h3 : (f 6 - f 7).toInt = (f 6).toInt - (f 7).toInt := by
      rw [Int32.toInt_sub, Int.bmod_eq_of_le_mul_two (by omega) (by omega)]
    unfold countF
    rcases hw with e | e <;> subst e
    · rw [if_pos rfl, h3]; omega
    · rw [if_neg (by decide), neg_T (by omega), h3]; omega
  unfold leadF
  rw [Int32.toInt_add, Int.bmod_eq_of_le_mul_two (by omega) (by omega)]
  omega
/-! both cells -/
theorem cell0 {f : Fl} {x : Int32} : cellF f 0 x = upd f 1 x := by
  unfold cellF
  rw [show ((1 : Int32) + 0).toNatClampNeg = 1 from by decide]
theorem cell1 {f : Fl} {x : Int32} : cellF f 1 x = upd f 2 x := by
  unfold cellF
  rw [show ((1 : Int32) + 1).toNatClampNeg = 2 from by decide]
def Two (f h : Fl) : Prop := ∀ x y, cellF (cellF h 0 x) 1 y = cellF (cellF f 0 x) 1 y
theorem upd_c {f : Fl} {i j : Nat} {x y : Int32} (h : i ≠ j) : upd (upd f i x) j y = upd (upd f j y) i x := by
  funext k
  unfold upd
  by_cases h1 : k = j
  · rw [if_pos h1, if_neg (by omega), if_pos h1]
  · rw [if_neg h1]
    by_cases h2 : k = i
    · rw [if_pos h2, if_pos h2]
    · rw [if_neg h2, if_neg h2, if_neg h1]
theorem Two_0 {f h : Fl} {x : Int32} (t : Two f h) : Two f (cellF h 0 x) := fun a b => by rw [← t a b, cell0, cell0, upd_upd, cell0]
theorem Two_1 {f h : Fl} {x : Int32} (t : Two f h) : Two f (cellF h 1 x) := fun a b => by rw [← t a b, cell1, cell0, cell1, cell0, cell1, upd_c (by decide), upd_upd, upd_c (i := 2) (j := 1) (by decide)]
theorem Two_r {f : Fl} : Two f f := fun _ _ => rfl
def LL (f : Fl) (a b : Nat) : Int32 := leadF (cellF (cellF f 0 (nI a)) 1 (nI b)) 0
theorem LL_eq {f f2 : Fl} {a b : Nat} (e : EqF f f2) : LL f2 a b = LL f a b := leadF_eq (cell_eq (Or.inr rfl) (cell_eq (Or.inl rfl) e))
/-! the class: a table of leads -/
theorem pairs_27 {g : mm_g} {f : Fl} {j : Nat} {K : Nat → mm_g → mm_g} (hj : j < 9) : ∀ (n i : Nat) (s : mm_g), i ≤ 9 → 9 - i < n → Sc g s → Vd (s 2 1) → (∀ y, cellF (s 2 1) 1 y = cellF (cellF f 0 (nI j)) 1 y) → (∀ a b, b < 9 → (a < j ∨ a = j ∧ b < i) → s 3 3 (9 * a + b) = LL f a b) → ∃ s2, F_X3_weighPairs_27 0 j K n i s = K 9 s2 ∧ Sc g s2 ∧ Vd (s2 2 1) ∧ (∀ y, cellF (s2 2 1) 1 y = cellF (cellF f 0 (nI j)) 1 y) ∧ ∀ a b, b < 9 → a < j + 1 → s2 3 3 (9 * a + b) = LL f a b := by
  intro n
  induction n with
  | zero => intro i s h1 h2; omega
  | succ n ih =>
    intro i s h1 h2 hs v ht hT
    unfold F_X3_weighPairs_27
    by_cases q : i = 9
    · subst q
      rw [if_pos (by decide)]
      exact ⟨s, rfl, hs, v, ht, fun a b h3 h4 => hT a b h3 (by omega)⟩
    · have v2 := cell_vd (w := 1) (j := i) (Or.inr rfl) (by omega) v
      rw [if_neg (show ¬ (9 : Int32) ≤ nI i from nI_ge (a := i) (b := 9) (by omega) (by decide)), stand_F (Or.inr rfl), leadOf_F (by rw [mw_s]; exact v2), mw_s, ht, show (nI j * 9 + nI i).toNatClampNeg = 9 * j + i from by rw [show (9 : Int32) = nI 9 from rfl, pk_mul, nI_add, nI_clamp (by omega)]; omega]
      refine ih (i + 1) _ (by omega) (by omega) (Sc_w3 (Sc_2 hs)) ?_ ?_ ?_
      · rw [wr_nk (by decide), mw_s, ← ht]; exact v2
      · intro y
        rw [wr_nk (by decide), mw_s, cell1, cell1, upd_upd, ← cell1]
      · intro a b h3 h4
        rw [wr_ss]
        by_cases z : 9 * a + b = 9 * j + i
        · have ea : a = j := by omega
          have eb : b = i := by omega
          rw [if_pos z, ea, eb]
          rfl
        · rw [if_neg z, mw_n _ _ (by decide)]
          exact hT a b h3 (by omega)
theorem pairs_10 {g : mm_g} {f : Fl} {K : Nat → mm_g → mm_g} : ∀ (n j : Nat) (s : mm_g), j ≤ 9 → 9 - j < n → Sc g s → Vd (s 2 1) → Two f (s 2 1) → (∀ a b, b < 9 → a < j → s 3 3 (9 * a + b) = LL f a b) → ∃ s2, F_X3_weighPairs_10 0 K n j s = K 9 s2 ∧ Sc g s2 ∧ ∀ a b, b < 9 → a < 9 → s2 3 3 (9 * a + b) = LL f a b := by
  intro n
  induction n with
  | zero => intro j s h1 h2; omega
  | succ n ih =>
    intro j s h1 h2 hs v ht hT
    unfold F_X3_weighPairs_10
    by_cases q : j = 9
    · subst q
      rw [if_pos (by decide)]
      exact ⟨s, rfl, hs, hT⟩
    · have v2 := cell_vd (w := 0) (j := j) (Or.inl rfl) (by omega) v
      rw [if_neg (show ¬ (9 : Int32) ≤ nI j from nI_ge (a := j) (b := 9) (by omega) (by decide)), stand_F (Or.inl rfl)]
      obtain ⟨s2, e1, e2, e3, e4, e5⟩ := pairs_27 (g := g) (f := f) (j := j) (K := fun (i27 : Nat) (s27 : mm_g) => F_X3_weighPairs_10 0 K n (j + 1) s27) (by omega) ((9 : Int32).toInt.toNat + 1) 0 (mw s 2 1 (cellF (s 2 1) 0 (nI j))) (by decide) (by decide) (Sc_2 hs) (by rw [mw_s]; exact v2) (fun y => by rw [mw_s]; exact ht _ _) (fun a b h3 h4 => by rw [mw_n _ _ (by decide)]; exact hT a b h3 (by omega))
      rw [e1]
      refine ih (j + 1) s2 (by omega) (by omega) e2 e3 (fun x y => ?_) e5
      have h5 : ∀ z, cellF (cellF (s2 2 1) 0 x) 1 z = cellF (cellF (s2 2 1) 1 z) 0 x := fun z => by rw [cell0, cell1, cell1, cell0, upd_c (by decide)]
      rw [h5, e4, cell0, cell1, cell1, cell0, cell0, upd_c (by decide), upd_upd]
theorem pairs_F {g : mm_g} (v : Vd (g 2 0)) : ∃ s2, F_X3_weighPairs g 0 = s2 ∧ Sc g s2 ∧ ∀ a b, b < 9 → a < 9 → s2 3 3 (9 * a + b) = LL (g 2 0) a b := by
  have hE := then_E v
  unfold F_X3_weighPairs
  rw [become_1]
  obtain ⟨s2, e1, e2, e3⟩ := pairs_10 (g := g) (f := thenF g) (K := fun (j10 : Nat) (s10 : mm_g) => s10) ((9 : Int32).toInt.toNat + 1) 0 (mw g 2 1 (thenF g)) (by decide) (by decide) (Sc_2 Sc_r) (by rw [mw_s]; exact hE.vd v) (by rw [mw_s]; exact Two_r) (fun a b _ h => absurd h (Nat.not_lt_zero _))
  exact ⟨s2, e1, e2, fun a b h1 h2 => by rw [e3 a b h1 h2, LL_eq hE]⟩
def rstL (f : Fl) (a b : Nat) : Nat → Nat → Int32
  | 0, _ => 1
  | m + 1, i => if LL f a b < LL f i b then 0 else if LL f a b ≤ LL f a i then rstL f a b m (i + 1) else 0
def rst (f : Fl) (a b : Nat) : Int32 := rstL f a b 9 0
theorem rest_37 {g : mm_g} {f : Fl} {a b : Nat} {K : Nat → Int32} (hK : ∀ j, K j = 1) (ha : a < 9) (hb : b < 9) (hT : ∀ a b, b < 9 → a < 9 → g 3 3 (9 * a + b) = LL f a b) : ∀ (m n i : Nat), m + i = 9 → m < n → F_X3_isResting_37 g (nI a) (nI b) (LL f a b) K n i = rstL f a b m i := by
  intro m
  induction m with
  | zero =>
    intro n i h1 h2
    obtain ⟨n1, e⟩ : ∃ n1, n = n1 + 1 := ⟨n - 1, by omega⟩
    subst e
    have ei : i = 9 := by omega
    subst ei
    unfold F_X3_isResting_37
    rw [if_pos (by decide), hK]
    rfl
  | succ m ih =>
    intro n i h1 h2
    obtain ⟨n1, e⟩ : ∃ n1, n = n1 + 1 := ⟨n - 1, by omega⟩
    subst e
    unfold F_X3_isResting_37
    rw [if_neg (show ¬ (9 : Int32) ≤ nI i from nI_ge (a := i) (b := 9) (by omega) (by decide)), show (nI i * 9 + nI b).toNatClampNeg = 9 * i + b from by rw [show (9 : Int32) = nI 9 from rfl, pk_mul, nI_add, nI_clamp (by omega)]; omega, show (nI a * 9 + nI i).toNatClampNeg = 9 * a + i from by rw [show (9 : Int32) = nI 9 from rfl, pk_mul, nI_add, nI_clamp (by omega)]; omega, hT i b hb (by omega), hT a i (by omega) ha, ih n1 (i + 1) (by omega) (by omega), rstL]
theorem w_8 : ∀ a, a < 9 → ¬ F_X6_within (nI a) 0 8 = 0 := by decide +kernel
theorem rest_F {g : mm_g} {f : Fl} {a b : Nat} (ha : a < 9) (hb : b < 9) (hT : ∀ a b, b < 9 → a < 9 → g 3 3 (9 * a + b) = LL f a b) : F_X3_isResting g (nI a) (nI b) = rst f a b := by
  unfold F_X3_isResting
  rw [if_neg (w_8 a ha), if_neg (w_8 b hb), show (nI a * 9 + nI b).toNatClampNeg = 9 * a + b from by rw [show (9 : Int32) = nI 9 from rfl, pk_mul, nI_add, nI_clamp (by omega)]; omega, hT a b hb ha]
  exact rest_37 (fun _ => rfl) ha hb hT 9 _ 0 rfl (by decide)
/-! counting them, the first of them -/
def rk (f : Fl) (k : Nat) : Int32 := rst f (k / 9) (k % 9)
def cnt (f : Fl) : Nat → Int32 → Nat → Int32
  | 0, a, _ => a
  | m + 1, a, k => if rk f k = 0 then cnt f m a (k + 1) else cnt f m (a + 1) (k + 1)
theorem cnt_add {f : Fl} : ∀ (p m : Nat) (a : Int32) (k : Nat), cnt f (p + m) a k = cnt f m (cnt f p a k) (k + p)
  | 0, m, a, k => by rw [Nat.zero_add, cnt, Nat.add_zero]
  | p + 1, m, a, k => by
    rw [show p + 1 + m = (p + m) + 1 by omega, cnt, cnt, cnt_add p m, cnt_add p m, show k + 1 + p = k + (p + 1) by omega]
    split <;> rfl
def fst (f : Fl) : Nat → Nat → Int32 → Int32
  | 0, _, d => d
  | m + 1, k, d => if rk f k = 0 then fst f m (k + 1) d else 10 * nI (k / 9) + nI (k % 9)
theorem fst_add {f : Fl} : ∀ (p m k : Nat) (d : Int32), fst f (p + m) k d = fst f p k (fst f m (k + p) d)
  | 0, m, k, d => by rw [Nat.zero_add, fst, Nat.add_zero]
  | p + 1, m, k, d => by
    rw [show p + 1 + m = (p + m) + 1 by omega, fst, fst, fst_add p m, show k + 1 + p = k + (p + 1) by omega]
theorem pairs_12 {g : mm_g} {f : Fl} {j : Nat} {K : Int32 → Nat → Int32} (hj : j < 9) (hT : ∀ a b, b < 9 → a < 9 → g 3 3 (9 * a + b) = LL f a b) : ∀ (m n : Nat) (a : Int32) (i : Nat), m + i = 9 → m < n → F_X3_restingPairs_12 g j K n a i = K (cnt f m a (9 * j + i)) 9 := by
  intro m
  induction m with
  | zero =>
    intro n a i h1 h2
    obtain ⟨n1, e⟩ : ∃ n1, n = n1 + 1 := ⟨n - 1, by omega⟩
    subst e
    have ei : i = 9 := by omega
    subst ei
    unfold F_X3_restingPairs_12
    rw [if_pos (by decide), cnt]
  | succ m ih =>
    intro n a i h1 h2
    obtain ⟨n1, e⟩ : ∃ n1, n = n1 + 1 := ⟨n - 1, by omega⟩
    subst e
    unfold F_X3_restingPairs_12
    rw [if_neg (show ¬ (9 : Int32) ≤ nI i from nI_ge (a := i) (b := 9) (by omega) (by decide)), rest_F hj (show i < 9 by omega) hT, ih _ _ _ (by omega) (by omega), ih _ _ _ (by omega) (by omega), cnt, rk, show (9 * j + i) / 9 = j by omega, show (9 * j + i) % 9 = i by omega, show 9 * j + (i + 1) = 9 * j + i + 1 by omega]
    split <;> rfl
theorem pairs_4 {g : mm_g} {f : Fl} {K : Int32 → Nat → Int32} (hT : ∀ a b, b < 9 → a < 9 → g 3 3 (9 * a + b) = LL f a b) : ∀ (m n : Nat) (a : Int32) (j : Nat), m + j = 9 → m < n → F_X3_restingPairs_4 g K n a j = K (cnt f (9 * m) a (9 * j)) 9 := by
  intro m
  induction m with
  | zero =>
    intro n a j h1 h2
    obtain ⟨n1, e⟩ : ∃ n1, n = n1 + 1 := ⟨n - 1, by omega⟩
    subst e
    have ei : j = 9 := by omega
    subst ei
    unfold F_X3_restingPairs_4
    rw [if_pos (by decide)]
    rfl
  | succ m ih =>
    intro n a j h1 h2
    obtain ⟨n1, e⟩ : ∃ n1, n = n1 + 1 := ⟨n - 1, by omega⟩
    subst e
    unfold F_X3_restingPairs_4
    rw [if_neg (show ¬ (9 : Int32) ≤ nI j from nI_ge (a := j) (b := 9) (by omega) (by decide)), pairs_12 (f := f) (by omega) hT 9 _ _ _ rfl (by decide), ih _ _ _ (by omega) (by omega), show 9 * (m + 1) = 9 + 9 * m by omega, cnt_add, show 9 * j + 0 = 9 * j by omega, show 9 * (j + 1) = 9 * j + 9 by omega]
theorem firsts_10 {g : mm_g} {f : Fl} {j : Nat} {K : Nat → Int32} (hj : j < 9) (hT : ∀ a b, b < 9 → a < 9 → g 3 3 (9 * a + b) = LL f a b) : ∀ (m n i : Nat), m + i = 9 → m < n → F_X3_firstResting_10 g j K n i = fst f m (9 * j + i) (K 9) := by
  intro m
  induction m with
  | zero =>
    intro n i h1 h2
    obtain ⟨n1, e⟩ : ∃ n1, n = n1 + 1 := ⟨n - 1, by omega⟩
    subst e
    have ei : i = 9 := by omega
    subst ei
    unfold F_X3_firstResting_10
    rw [if_pos (by decide), fst]
  | succ m ih =>
    intro n i h1 h2
    obtain ⟨n1, e⟩ : ∃ n1, n = n1 + 1 := ⟨n - 1, by omega⟩
    subst e
    unfold F_X3_firstResting_10
    rw [if_neg (show ¬ (9 : Int32) ≤ nI i from nI_ge (a := i) (b := 9) (by omega) (by decide)), rest_F hj (show i < 9 by omega) hT, ih _ _ (by omega) (by omega), fst, rk, show (9 * j + i) / 9 = j by omega, show (9 * j + i) % 9 = i by omega, show 9 * j + (i + 1) = 9 * j + i + 1 by omega]
theorem firsts_2 {g : mm_g} {f : Fl} {K : Nat → Int32} (hT : ∀ a b, b < 9 → a < 9 → g 3 3 (9 * a + b) = LL f a b) : ∀ (m n j : Nat), m + j = 9 → m < n → F_X3_firstResting_2 g K n j = fst f (9 * m) (9 * j) (K 9) := by
  intro m
  induction m with
  | zero =>
    intro n j h1 h2
    obtain ⟨n1, e⟩ : ∃ n1, n = n1 + 1 := ⟨n - 1, by omega⟩
    subst e
    have ei : j = 9 := by omega
    subst ei
    unfold F_X3_firstResting_2
    rw [if_pos (by decide)]
    rfl
  | succ m ih =>
    intro n j h1 h2
    obtain ⟨n1, e⟩ : ∃ n1, n = n1 + 1 := ⟨n - 1, by omega⟩
    subst e
    unfold F_X3_firstResting_2
    rw [if_neg (show ¬ (9 : Int32) ≤ nI j from nI_ge (a := j) (b := 9) (by omega) (by decide)), firsts_10 (f := f) (by omega) hT 9 _ _ rfl (by decide), ih _ _ (by omega) (by omega), show 9 * (m + 1) = 9 + 9 * m by omega, fst_add, show 9 * j + 0 = 9 * j by omega, show 9 * (j + 1) = 9 * j + 9 by omega]
/-! what rests, told by the best -/
theorem rstL_1 {f : Fl} {a b : Nat} : ∀ (m i : Nat), ¬ rstL f a b m i = 0 ↔ ∀ j, i ≤ j → j < i + m → LL f j b ≤ LL f a b ∧ LL f a b ≤ LL f a j
  | 0, i => by
    rw [rstL]
    exact ⟨fun _ j h1 h2 => by omega, fun _ => by decide⟩
  | m + 1, i => by
    have ih := rstL_1 (f := f) (a := a) (b := b) m (i + 1)
    rw [rstL]
    by_cases h1 : LL f a b < LL f i b
    · rw [if_pos h1]
      refine ⟨fun q => absurd rfl q, fun q => ?_⟩
      have h2 := (q i (Nat.le_refl i) (by omega)).1
      rw [toI_le] at h2
      rw [toI_lt] at h1
      omega
    · rw [if_neg h1]
      by_cases h2 : LL f a b ≤ LL f a i
      · rw [if_pos h2, ih]
        refine ⟨fun q j h3 h4 => ?_, fun q j h3 h4 => q j (by omega) (by omega)⟩
        by_cases e : j = i
        · subst e
          refine ⟨?_, h2⟩
          rw [toI_le]
          rw [toI_lt] at h1
          omega
        · exact q j (by omega) (by omega)
      · rw [if_neg h2]
        exact ⟨fun q => absurd rfl q, fun q => absurd (q i (Nat.le_refl i) (by omega)).2 h2⟩
theorem bestL_m {f : Fl} {w : Int32} : ∀ (m : Nat) (a b : Int32) (j : Nat), m + j ≤ 9 → (∃ i, i < j ∧ a = nI i ∧ b = leadAt f w i) → (∀ i, i < j → leadAt f w i ≤ b) → ∃ i, i < j + m ∧ bestL f w m a b j = nI i ∧ ∀ k, k < j + m → leadAt f w k ≤ leadAt f w i
  | 0, a, b, j, _, ⟨i, h1, h2, h3⟩, h4 => ⟨i, h1, h2, fun k hk => by rw [← h3]; exact h4 k hk⟩
  | m + 1, a, b, j, hj, ⟨i, h1, h2, h3⟩, h4 => by
    rw [bestL]
    by_cases q : leadAt f w j ≤ b
    · rw [if_pos q]
      obtain ⟨i2, e1, e2, e3⟩ := bestL_m m a b (j + 1) (by omega) ⟨i, by omega, h2, h3⟩ (fun k hk => by
        by_cases e : k = j
        · rw [e]; exact q
        · exact h4 k (by omega))
      exact ⟨i2, by omega, e2, fun k hk => e3 k (by omega)⟩
    · rw [if_neg q]
      obtain ⟨i2, e1, e2, e3⟩ := bestL_m m (nI j) (leadAt f w j) (j + 1) (by omega) ⟨j, by omega, rfl, rfl⟩ (fun k hk => by
        by_cases e : k = j
        · rw [e]; rw [toI_le]; omega
        · have h5 := h4 k (by omega)
          rw [toI_le] at h5 q ⊢
          omega)
      exact ⟨i2, by omega, e2, fun k hk => e3 k (by omega)⟩
theorem bestF_m {f : Fl} {w : Int32} : ∃ i, i < 9 ∧ bestF f w = nI i ∧ ∀ k, k < 9 → leadAt f w k ≤ leadAt f w i := by
  obtain ⟨i, h1, h2, h3⟩ := bestL_m (f := f) (w := w) 8 0 (leadAt f w 0) 1 (by decide) ⟨0, by decide, rfl, rfl⟩ (fun i hi => by
    rw [show i = 0 by omega, toI_le]; omega)
  exact ⟨i, by omega, h2, fun k hk => h3 k (by omega)⟩
/-- the reference's test at one pair -/
theorem pair_7 {f f1 : Fl} {a b n : Nat} (ha : a < 9) (hb : b < 9) (v : Vd f) (c : Ct n f) (hn : n ≤ 1000) (e1 : f1 = cellF (cellF f 0 (nI a)) 1 (nI b)) {i0 i1 : Nat} (h0 : i0 < 9) (h1 : i1 < 9) (m0 : ∀ k, k < 9 → leadAt f1 0 k ≤ leadAt f1 0 i0) (m1 : ∀ k, k < 9 → leadAt f1 1 k ≤ leadAt f1 1 i1) : (leadAt f1 0 i0 = leadF f1 0 ∧ leadAt f1 1 i1 = leadF f1 1) ↔ ¬ rst f a b = 0 := by
  have e2 : ∀ k, leadAt f1 0 k = LL f k b := fun k => by
    unfold leadAt LL
    rw [e1, cell0, cell1, cell0, cell0, cell1, upd_c (by decide), upd_upd]
  have e3 : ∀ k, leadAt f1 1 k = -(LL f a k) := fun k => by
    unfold leadAt LL
    rw [leadF_1, e1, cell1, cell1, upd_upd, cell1]
  have e4 : leadF f1 0 = LL f a b := by rw [e1]; rfl
  have e5 : leadF f1 1 = -(LL f a b) := by rw [leadF_1, e4]
  have hB : ∀ x y, x < 9 → y < 9 → -1000000 ≤ (LL f x y).toInt ∧ (LL f x y).toInt ≤ 1000000 := fun x y hx hy => by
    refine leadF_b (n := n) (cell_vd (Or.inr rfl) hy (cell_vd (Or.inl rfl) hx v)) (fun i hi => ?_) hn (Or.inl rfl)
    rw [cell0, cell1, upd, upd, if_neg (by omega), if_neg (by omega)]
    exact c i hi
  have hab := hB a b ha hb
  rw [e2, e3, e4, e5, rst, rstL_1]
  constructor
  · rintro ⟨q0, q1⟩ j _ hj
    have k0 := m0 j (by omega)
    have k1 := m1 j (by omega)
    rw [e2, e2, q0] at k0
    rw [e3, e3, q1] at k1
    refine ⟨k0, ?_⟩
    rw [toI_le, neg_T (hB a j ha (by omega)), neg_T hab] at k1
    rw [toI_le]
    omega
  · intro q
    have k0 := m0 a ha
    have k1 := m1 b hb
    have q0 := (q i0 (by omega) (by omega)).1
    have q1 := (q i1 (by omega) (by omega)).2
    rw [e2, e2] at k0
    rw [e3, e3] at k1
    rw [toI_le] at k0 k1 q0 q1
    rw [neg_T hab, neg_T (hB a i1 ha h1)] at k1
    refine ⟨Int32.toInt_inj.mp (by omega), ?_⟩
    rw [show LL f a i1 = LL f a b from Int32.toInt_inj.mp (by omega)]
def fsA (f : Fl) : Nat → Nat → Int32 → Int32
  | 0, _, b => b
  | m + 1, k, b => if rk f k = 0 then fsA f m (k + 1) b else if 0 ≤ b then fsA f m (k + 1) b else fsA f m (k + 1) (10 * nI (k / 9) + nI (k % 9))
theorem fsA_p {f : Fl} {b : Int32} (h : 0 ≤ b) : ∀ (m k : Nat), fsA f m k b = b
  | 0, _ => rfl
  | m + 1, k => by
    rw [fsA, if_pos h, fsA_p h m]
    split <;> rfl
theorem k81 : ∀ k, k < 81 → nI k / 9 = nI (k / 9) ∧ nI k - nI k / 9 * 9 = nI (k % 9) ∧ 0 ≤ 10 * nI (k / 9) + nI (k % 9) := by decide +kernel
theorem fsA_F {f : Fl} : ∀ (m k : Nat), m + k ≤ 81 → fsA f m k (-1000000) = fst f m k (-1000000)
  | 0, _, _ => rfl
  | m + 1, k, h => by
    rw [fsA, fst, if_neg (show ¬ (0 : Int32) ≤ -1000000 by decide), fsA_F m (k + 1) (by omega), fsA_p (k81 k (by omega)).2.2]
theorem rests_32 {g : mm_g} {f : Fl} {x1 : Int32} {n0 : Nat} {K : Int32 → Int32 → Nat → mm_g → Int32 × mm_g} (c : Ct n0 f) (hn : n0 ≤ 1000) (v : Vd f) : ∀ (m n : Nat) (a b : Int32) (j : Nat) (s : mm_g), m + j = 81 → m < n → Sw g s → Vd (s 7 4) → Two f (s 7 4) → ∃ s2, F_X7_rests_32 x1 K n a b j s = K (cnt f m a j) (fsA f m j b) 81 s2 ∧ Sw g s2 := by
  intro m
  induction m with
  | zero =>
    intro n a b j s h1 h2 hs vs ht
    obtain ⟨n1, e⟩ : ∃ n1, n = n1 + 1 := ⟨n - 1, by omega⟩
    subst e
    have ej : j = 81 := by omega
    subst ej
    unfold F_X7_rests_32
    rw [if_pos (by decide)]
    exact ⟨s, rfl, hs⟩
  | succ m ih =>
    intro n a b j s h1 h2 hs vs ht
    obtain ⟨n1, e⟩ : ∃ n1, n = n1 + 1 := ⟨n - 1, by omega⟩
    subst e
    obtain ⟨k1, k2, k3⟩ := k81 j (by omega)
    have ha : j / 9 < 9 := by omega
    have hb : j % 9 < 9 := by omega
    have eS : wr (wr s 7 4 1 (nI (j / 9))) 7 4 2 (nI (j % 9)) = mw s 7 4 (cellF (cellF (s 7 4) 0 (nI (j / 9))) 1 (nI (j % 9))) := by
      unfold wr
      rw [mw_s, mw_w, cell0, cell1]
    have vS : Vd (cellF (cellF (s 7 4) 0 (nI (j / 9))) 1 (nI (j % 9))) := cell_vd (Or.inr rfl) hb (cell_vd (Or.inl rfl) ha vs)
    have v1 : Vd ((wr (wr s 7 4 1 (nI (j / 9))) 7 4 2 (nI (j % 9))) 7 4) := by rw [eS, mw_s]; exact vS
    have t1 : Two f ((wr (wr s 7 4 1 (nI (j / 9))) 7 4 2 (nI (j % 9))) 7 4) := by rw [eS, mw_s]; exact Two_1 (Two_0 ht)
    have f1 : (wr (wr s 7 4 1 (nI (j / 9))) 7 4 2 (nI (j % 9))) 7 4 = cellF (cellF f 0 (nI (j / 9))) 1 (nI (j % 9)) := by rw [eS, mw_s]; exact ht _ _
    have s1 : Sw g (wr (wr s 7 4 1 (nI (j / 9))) 7 4 2 (nI (j % 9))) := Sw_w (Sw_w hs)
    unfold F_X7_rests_32
    rw [if_neg (show ¬ (81 : Int32) ≤ nI j from nI_ge (a := j) (b := 81) (by omega) (by decide)), k1, show nI j - nI (j / 9) * 9 = nI (j % 9) from by rw [← k1]; exact k2]
    generalize wr (wr s 7 4 1 (nI (j / 9))) 7 4 2 (nI (j % 9)) = S at v1 t1 f1 s1 ⊢
    obtain ⟨i0, a1, a2, a3⟩ := bestF_m (f := S 7 4) (w := 0)
    obtain ⟨i1, b1, b2, b3⟩ := bestF_m (f := S 7 4) (w := 1)
    simp only [best7_F (g := S) (w := 0) (Or.inl rfl) v1, a2, lead7_F (g := S) (w := 0) (j := i0) (Or.inl rfl) a1 v1, best7_F (g := S) (w := 1) (Or.inr rfl) v1, b2, lead7_F (g := S) (w := 1) (j := i1) (Or.inr rfl) b1 v1, leadOf7_F (g := S) (w := 0) v1 (Or.inl rfl), leadOf7_F (g := S) (w := 1) v1 (Or.inr rfl), Int32.add_zero]
    have hp := pair_7 (n := n0) ha hb v c hn f1 a1 b1 a3 b3
    by_cases q : rk f j = 0
    · have hq : ¬ (leadAt (S 7 4) 0 i0 = leadF (S 7 4) 0 ∧ leadAt (S 7 4) 1 i1 = leadF (S 7 4) 1) := fun z => hp.mp z q
      rw [cnt, if_pos q, fsA, if_pos q]
      by_cases q0 : leadAt (S 7 4) 0 i0 = leadF (S 7 4) 0
      · rw [if_pos q0, if_neg (fun z => hq ⟨q0, z⟩)]
        exact ih n1 a b (j + 1) S (by omega) (by omega) s1 v1 t1
      · rw [if_neg q0]
        exact ih n1 a b (j + 1) S (by omega) (by omega) s1 v1 t1
    · have hq := hp.mpr q
      rw [cnt, if_neg q, fsA, if_neg q, if_pos hq.1, if_pos hq.2]
      by_cases q0 : 0 ≤ b
      · rw [if_pos q0, if_pos q0]
        exact ih n1 (a + 1) b (j + 1) S (by omega) (by omega) s1 v1 t1
      · rw [if_neg q0, if_neg q0]
        exact ih n1 (a + 1) _ (j + 1) S (by omega) (by omega) s1 v1 t1
theorem rk_eq {f f2 : Fl} (e : EqF f f2) {k : Nat} : rk f2 k = rk f k := by
  have h : ∀ m i, rstL f2 (k / 9) (k % 9) m i = rstL f (k / 9) (k % 9) m i := by
    intro m
    induction m with
    | zero => intro i; rfl
    | succ m ih => intro i; rw [rstL, rstL, LL_eq e, LL_eq e, LL_eq e, ih]
  exact h 9 0
theorem cnt_eq {f f2 : Fl} (e : EqF f f2) : ∀ (m : Nat) (a : Int32) (k : Nat), cnt f2 m a k = cnt f m a k
  | 0, _, _ => rfl
  | m + 1, a, k => by rw [cnt, cnt, rk_eq e, cnt_eq e m, cnt_eq e m]
theorem fst_eq {f f2 : Fl} (e : EqF f f2) {d : Int32} : ∀ (m k : Nat), fst f2 m k d = fst f m k d
  | 0, _ => rfl
  | m + 1, k => by rw [fst, fst, rk_eq e, fst_eq e m]
theorem e_rests {n : Nat} {g : mm_g} {x1 : Int32} (hn : n ≤ 1000) (hr : Rel n g) : Ok n g (F_X6_rests g x1) (fun s => F_X7_rests s x1) ∧ Fr g (F_X6_rests g x1).2 := by
  have hv := hr.now.1
  by_cases q1 : nb (g 2 0) = 0
  · refine Ok_b hr (a := -1000002) ?_ ?_
    · unfold F_X6_rests; rw [if_neg (fun z => (isN_2 hr).mp z q1)]
    · show F_X7_rests g x1 = _
      unfold F_X7_rests; rw [if_pos ((there_2 hr).mpr q1)]
  · by_cases q2 : F_X6_within x1 0 1 = 0
    · refine Ok_b hr (a := -1000001) ?_ ?_
      · unfold F_X6_rests; rw [if_pos ((isN_2 hr).mpr q1), if_pos q2]
      · show F_X7_rests g x1 = _
        unfold F_X7_rests; rw [if_neg (fun z => q1 ((there_2 hr).mp z)), isWhat_within, if_pos q2]
    · obtain ⟨s2, e1, e2, e3⟩ := pairs_F hv
      have p1 : F_X3_restingPairs s2 = cnt (g 2 0) 81 0 0 := pairs_4 e3 9 _ 0 0 rfl (by decide)
      have p2 : F_X3_firstResting s2 = fst (g 2 0) 81 0 (-1000000) := firsts_2 e3 9 _ 0 rfl (by decide)
      have e : F_X6_rests g x1 = (if x1 = 0 then cnt (g 2 0) 81 0 0 else fst (g 2 0) 81 0 (-1000000), s2) := by
        unfold F_X6_rests; rw [if_pos ((isN_2 hr).mpr q1), if_neg q2, e1, p1, p2]
        by_cases z : x1 = 0
        · rw [if_pos z, if_pos z]
        · rw [if_neg z, if_neg z]
      rw [e]
      refine Ok_p hr _ rfl e2 (fun s hs h2 => ?_)
      have he := hs.now.2.2.1
      have hv7 := hs.vd7
      obtain ⟨s3, r1, r2⟩ := rests_32 (g := s) (f := s 7 4) (x1 := x1) (K := fun (a32 : Int32) (b32 : Int32) (j32 : Nat) (s32 : mm_g) => (if x1 = 0 then (a32, (F_X7_takeBack s32)) else (b32, (F_X7_takeBack s32)))) (he.ct hs.now.2.1) hn hv7 81 ((81 : Int32).toInt.toNat + 1) 0 (-1000000) 0 (F_X7_putAside s) rfl (by decide) Sw_a (by rw [aside_4F]; exact hv7) (by rw [aside_4F]; exact Two_r)
      have e7 : F_X7_rests s x1 = if x1 = 0 then (cnt (s 7 4) 81 0 0, F_X7_takeBack s3) else (fsA (s 7 4) 81 0 (-1000000), F_X7_takeBack s3) := by
        unfold F_X7_rests; rw [if_neg (fun z => q1 (by rw [← h2]; exact (there_2 hs).mp z)), isWhat_within, if_neg q2]
        exact r1
      show (F_X7_rests s x1).1 = _ ∧ Sr s (F_X7_rests s x1).2
      rw [e7, fsA_F 81 0 (by decide), cnt_eq he, fst_eq he, h2]
      by_cases z : x1 = 0
      · rw [if_pos z, if_pos z]
        exact ⟨rfl, Sw_b r2⟩
      · rw [if_neg z, if_neg z]
        exact ⟨rfl, Sw_b r2⟩
