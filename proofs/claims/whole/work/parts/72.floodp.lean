/-! products and sums of the class -/
def caL (f : Fl) (d p : Int32) : Nat → Int64 → Nat → Int64
  | 0, a, _ => a
  | m + 1, a, i => if vetoF f i = 0 then (if setF d i = 1 then caL f d p m (a * (10 - p).toInt64) (i + 1) else caL f d p m (a * p.toInt64) (i + 1)) else caL f d p m a (i + 1)
theorem cases_5 {g : mm_g} {d p : Int32} {K : Int64 → Nat → Int64} (v : Vd (g 2 0)) : ∀ (m n : Nat) (a : Int64) (i : Nat), m + i = nb (g 2 0) → m < n → F_X3_casesOf_5 g 0 d p K n a i = K (caL (g 2 0) d p m a i) (nb (g 2 0)) := by
  have h9 := v.n9
  intro m
  induction m with
  | zero =>
    intro n a i h1 h2
    obtain ⟨n1, e⟩ : ∃ n1, n = n1 + 1 := ⟨n - 1, by omega⟩
    subst e
    unfold F_X3_casesOf_5
    rw [if_pos ((le_0 v (by omega)).mpr (by omega)), show i = nb (g 2 0) by omega]
    rfl
  | succ m ih =>
    intro n a i h1 h2
    obtain ⟨n1, e⟩ : ∃ n1, n = n1 + 1 := ⟨n - 1, by omega⟩
    subst e
    have hi : i < nb (g 2 0) := by omega
    unfold F_X3_casesOf_5
    rw [if_neg (fun z => absurd ((le_0 v (by omega)).mp z) (by omega)), hasVeto_F v hi, ih _ _ _ (by omega) (by omega), ih _ _ _ (by omega) (by omega), ih _ _ _ (by omega) (by omega), caL]
    by_cases z : vetoF (g 2 0) i = 0
    · rw [if_pos z, if_pos z]
      by_cases y : ((d >>> (nI i &&& 31)) &&& 1) = 1
      · rw [if_pos y, show setF d i = 1 from if_pos y, if_pos rfl]
      · rw [if_neg y, show setF d i = 0 from if_neg y, if_neg (by decide)]
    · rw [if_neg z, if_neg z]
def caF (f : Fl) (p d : Int32) : Int64 := caL f d p (nb f) 1 0
theorem casesOf_F {g : mm_g} {d p : Int32} (v : Vd (g 2 0)) : F_X3_casesOf g 0 d p = caF (g 2 0) p d := by
  have h9 := v.n9
  unfold F_X3_casesOf caF
  rw [cases_5 v (nb (g 2 0)) _ 1 0 rfl (by rw [v.f0, nI_n (by omega)]; omega)]
def G1 (f : Fl) (w p : Int32) (d : Nat) : Int64 := if nI d &&& f 5 = 0 then (if VV f w (nI d) ≤ 0 then 0 else caF f p (nI d)) else 0
def sum6 (h : Nat → Int64) : Nat → Nat → Int64
  | _, 0 => 0
  | j, m + 1 => h j + sum6 h (j + 1) m
theorem cases_19 {g : mm_g} {w p : Int32} {K : Int64 → Nat → Int64 × mm_g} (v : Vd (g 2 0)) (h : Wg (g 2 0) w g) : ∀ (m n : Nat) (a : Int64) (j : Nat), m + j = 2 ^ nb (g 2 0) → m < n → F_X3_casesLed_19 g 0 w p (countF (g 2 0) w) K n a j = K (a + sum6 (G1 (g 2 0) w p) j m) (2 ^ nb (g 2 0)) := by
  have h9 := v.n9
  have hp := p512 h9
  intro m
  induction m with
  | zero =>
    intro n a j h1 h2
    obtain ⟨n1, e⟩ : ∃ n1, n = n1 + 1 := ⟨n - 1, by omega⟩
    subst e
    unfold F_X3_casesLed_19
    rw [v.f0, pw9 _ (by omega), if_pos (nI_le (by omega) (by omega)), sum6, Int64.add_zero, show j = 2 ^ nb (g 2 0) by omega]
  | succ m ih =>
    intro n a j h1 h2
    obtain ⟨n1, e⟩ : ∃ n1, n = n1 + 1 := ⟨n - 1, by omega⟩
    subst e
    unfold F_X3_casesLed_19
    rw [v.f0, pw9 _ (by omega), if_neg (nI_ge (by omega) (by omega)), gainAll_F v h, casesOf_F v, ih _ _ _ (by omega) (by omega), ih _ _ _ (by omega) (by omega), sum6, ← Int64.add_assoc]
    by_cases z : nI j &&& g 2 0 5 = 0
    · rw [if_pos z]
      by_cases y : VV (g 2 0) w (nI j) ≤ 0
      · rw [show G1 (g 2 0) w p j = 0 from (if_pos z).trans (if_pos y), Int64.add_zero]
        exact if_pos y
      · rw [show G1 (g 2 0) w p j = caF (g 2 0) p (nI j) from (if_pos z).trans (if_neg y)]
        exact if_neg y
    · rw [if_neg z, show G1 (g 2 0) w p j = 0 from if_neg z, Int64.add_zero]
theorem sum6_congr {h h2 : Nat → Int64} : ∀ (m j : Nat), (∀ i, j ≤ i → i < j + m → h i = h2 i) → sum6 h j m = sum6 h2 j m
  | 0, _, _ => rfl
  | m + 1, j, H => by rw [sum6, sum6, H j (Nat.le_refl j) (by omega), sum6_congr m (j + 1) (fun i a b => H i (by omega) (by omega))]
theorem sum6_split {h : Nat → Int64} : ∀ (p m j : Nat), sum6 h j (p + m) = sum6 h j p + sum6 h (j + p) m
  | 0, m, j => by rw [Nat.zero_add, sum6, Nat.add_zero, Int64.zero_add]
  | p + 1, m, j => by rw [show p + 1 + m = (p + m) + 1 by omega, sum6, sum6, sum6_split p m, show j + 1 + p = j + (p + 1) by omega, Int64.add_assoc]
theorem sum6_0 {h : Nat → Int64} : ∀ (m j : Nat), (∀ i, j ≤ i → i < j + m → h i = 0) → sum6 h j m = 0
  | 0, _, _ => rfl
  | m + 1, j, H => by rw [sum6, H j (Nat.le_refl j) (by omega), sum6_0 m (j + 1) (fun i a b => H i (by omega) (by omega)), Int64.add_zero]
theorem sum6_rev {h : Nat → Int64} : ∀ (m : Nat), sum6 h 0 m = sum6 (fun i => h (m - 1 - i)) 0 m
  | 0 => rfl
  | m + 1 => by
    have e1 : sum6 h 0 (m + 1) = sum6 h 0 m + h m := by
      rw [sum6_split m 1 0, sum6, sum6, Int64.add_zero, Nat.zero_add]
    have e2 : sum6 (fun i => h (m + 1 - 1 - i)) 0 (m + 1) = h m + sum6 (fun i => h (m - 1 - i)) 0 m := by
      rw [sum6]
      have sh : ∀ (k j : Nat) (q q2 : Nat → Int64), (∀ i, q (i + 1) = q2 i) → sum6 q (j + 1) k = sum6 q2 j k := by
        intro k
        induction k with
        | zero => intro j q q2 _; rfl
        | succ k ih => intro j q q2 H; rw [sum6, sum6, H j, ih (j + 1) q q2 H]
      rw [sh m 0 _ (fun i => h (m - 1 - i)) (fun i => by show h (m + 1 - 1 - (i + 1)) = h (m - 1 - i); rw [show m + 1 - 1 - (i + 1) = m - 1 - i by omega])]
      rfl
    rw [e1, e2, sum6_rev m, Int64.add_comm]
/-! bits of sets of beds -/
theorem bt_nI {k i : Nat} (hi : i < 32) : bt (nI k) i = k.testBit i := by
  show (BitVec.ofNat 32 k).getLsbD i = _
  rw [BitVec.getLsbD_ofNat, decide_eq_true hi, Bool.true_and]
theorem and_0 {x y : Int32} : x &&& y = 0 ↔ ∀ i, i < 32 → (bt x i && bt y i) = false := by
  constructor
  · intro h i hi
    rw [← b_and, h, b_0]
  · intro h
    refine b_ext (fun i hi => ?_)
    rw [b_and, h i hi, b_0]
theorem mask_bt : ∀ n, n < 10 → ∀ i, i < 32 → bt (((1 : Int32) <<< (nI n &&& 31)) - 1) i = decide (i < n) := by decide +kernel
theorem could_bt {f : Fl} {n i : Nat} (hn : n < 10) (hi : i < 32) : bt ((((1 : Int32) <<< (nI n &&& 31)) - 1) &&& (f 5 ^^^ (-1))) i = (decide (i < n) && !(bt (f 5) i)) := by
  rw [b_and, mask_bt n hn i hi, b_xor, b_m1 i hi, Bool.xor_true]
theorem lt_bits {n d i : Nat} (hd : d < 2 ^ n) (h : d.testBit i = true) : i < n := by
  by_cases z : i < n
  · exact z
  · rw [Nat.testBit_lt_two_pow (Nat.lt_of_lt_of_le hd (Nat.pow_le_pow_right (by decide) (by omega)))] at h
    exact absurd h (by decide)
theorem sub_all : (List.range 512).all (fun t => (List.range 512).all (fun s => if s &&& t = s then decide (s ≤ t ∧ t - s = t ^^^ s) else true)) = true := by decide +kernel
theorem sub_x {t s : Nat} (ht : t < 512) (hs : s < 512) (h : s &&& t = s) : s ≤ t ∧ t - s = t ^^^ s := by
  have h1 := List.all_eq_true.mp (List.all_eq_true.mp sub_all t (List.mem_range.mpr ht)) s (List.mem_range.mpr hs)
  rw [if_pos h] at h1
  exact of_decide_eq_true h1
theorem and_s {s t : Nat} (hs : s < 512) : s &&& t = s ↔ ∀ i, i < 9 → s.testBit i = true → t.testBit i = true := by
  constructor
  · intro h i _ hi
    rw [← h, Nat.testBit_and] at hi
    exact (Bool.and_eq_true_iff.mp hi).2
  · intro h
    refine Nat.eq_of_testBit_eq (fun i => ?_)
    rw [Nat.testBit_and]
    cases y : s.testBit i with
    | false => rfl
    | true =>
      have hi := lt_bits (n := 9) hs y
      rw [h i hi y]
      rfl
/-- t tells the beds without a veto -/
def Cd (f : Fl) (t : Nat) : Prop := t < 512 ∧ t < 2 ^ nb f ∧ ∀ i, i < 9 → t.testBit i = (decide (i < nb f) && !(bt (f 5) i))
theorem cd_of {f : Fl} {t : Nat} (v : Vd f) (ht : t ≤ 511) (h : (((1 : Int32) <<< (nI (nb f) &&& 31)) - 1) &&& (f 5 ^^^ (-1)) = nI t) : Cd f t := by
  have h9 := v.n9
  have h1 : ∀ i, i < 9 → t.testBit i = (decide (i < nb f) && !(bt (f 5) i)) := fun i hi => by
    rw [← bt_nI (by omega), ← h, could_bt (by omega) (by omega)]
  refine ⟨by omega, ?_, h1⟩
  refine Nat.lt_pow_two_of_testBit t (fun i hi => ?_)
  by_cases z : i < 9
  · rw [h1 i z, decide_eq_false (by omega), Bool.false_and]
  · exact Nat.testBit_lt_two_pow (Nat.lt_of_lt_of_le (show t < 2 ^ 9 by omega) (Nat.pow_le_pow_right (by decide) (by omega)))
theorem dry_iff {f : Fl} {t d : Nat} (v : Vd f) (h : Cd f t) (hd : d < 2 ^ nb f) : nI d &&& f 5 = 0 ↔ d &&& t = d := by
  have h9 := v.n9
  have hp := p512 h9
  rw [and_0, and_s (by omega)]
  constructor
  · intro q i hi hb
    have h1 := q i (by omega)
    rw [bt_nI (by omega), hb, Bool.true_and] at h1
    rw [h.2.2 i hi, h1, decide_eq_true (lt_bits hd hb)]
    rfl
  · intro q i hi
    rw [bt_nI hi]
    cases y : d.testBit i with
    | false => rfl
    | true =>
      have h2 := lt_bits hd y
      have h1 := q i (by omega) y
      rw [h.2.2 i (by omega)] at h1
      have h3 := (Bool.and_eq_true_iff.mp h1).2
      cases y2 : bt (f 5) i with
      | false => rfl
      | true => rw [y2] at h3; exact absurd h3 (by decide)
theorem set_iff {s t : Nat} (hs : s < 512) (ht : t < 512) : nI s &&& (nI t ^^^ (-1)) = 0 ↔ s &&& t = s := by
  rw [and_0, and_s hs]
  constructor
  · intro q i hi hb
    have h1 := q i (by omega)
    rw [bt_nI (by omega), hb, Bool.true_and, b_xor, b_m1 i (by omega), bt_nI (by omega), Bool.xor_true] at h1
    cases y : t.testBit i with
    | false => rw [y] at h1; exact absurd h1 (by decide)
    | true => rfl
  · intro q i hi
    rw [bt_nI hi]
    cases y : s.testBit i with
    | false => rfl
    | true =>
      have h2 := lt_bits (n := 9) hs y
      rw [b_xor, b_m1 i hi, bt_nI hi, q i h2 y]
      rfl
/-! what the reference adds for a flooded set -/
theorem VV_set {f : Fl} {w s s2 : Int32} (h : ∀ i, i < nb f → vetoF f i = 0 → setF s i = setF s2 i) : VV f w s = VV f w s2 := by
  unfold VV
  congr 1
  refine sumR_congr (fun i _ hi => ?_)
  by_cases z : vetoF f i = 0
  · rw [h i (by omega) z]
  · have e : leadH f w i = 0 := if_neg z
    rw [e]
    split <;> split <;> rfl
theorem m511 : ∀ i, i < 9 → bt 511 i = true := by decide +kernel
theorem not_set {f : Fl} {t s i : Nat} (v : Vd f) (h : Cd f t) (hs : s < 512) (hS : s &&& t = s) (hi : i < nb f) (z : vetoF f i = 0) : setF (nI (t - s)) i = setF (511 &&& (nI s ^^^ (-1))) i ∧ (setF (nI (t - s)) i = 1 ↔ setF (nI s) i = 0) := by
  have h9 := v.n9
  have hv : bt (f 5) i = false := by
    rw [vetoF_bt (by omega)] at z
    cases y : bt (f 5) i with
    | false => rfl
    | true => rw [y, if_pos rfl] at z; exact absurd z (by decide)
  have ht : t.testBit i = true := by rw [h.2.2 i (by omega), hv, decide_eq_true hi]; rfl
  have hd : (t - s).testBit i = !(s.testBit i) := by rw [(sub_x h.1 hs hS).2, Nat.testBit_xor, ht, Bool.true_xor]
  rw [setF_bt (by omega), setF_bt (by omega), setF_bt (by omega), bt_nI (by omega), hd, b_and, m511 i (by omega), b_xor, b_m1 i (by omega), bt_nI (by omega), Bool.true_and, Bool.xor_true]
  cases s.testBit i <;> decide
theorem part_120 {g : mm_g} {f : Fl} {w p x3 : Int32} {a q75 : Int64} {t s : Nat} {K : Int64 → Nat → Int64} (v : Vd (g 7 4)) (hf : f = g 7 4) (h : Cd f t) (hs : s < 512) (hS : s &&& t = s) : ∀ (m n : Nat) (c : Int64) (i : Nat), m + i = nb (g 7 4) → m < n → F_X7_flood_120 g w p x3 (nI t) a q75 s K n c i = K (caL f (nI (t - s)) p m c i) (nb (g 7 4)) := by
  have h9 := v.n9
  intro m
  induction m with
  | zero =>
    intro n c i h1 h2
    obtain ⟨n1, e⟩ : ∃ n1, n = n1 + 1 := ⟨n - 1, by omega⟩
    subst e
    unfold F_X7_flood_120
    rw [if_pos ((le_0 v (by omega)).mpr (by omega)), show i = nb (g 7 4) by omega]
    rfl
  | succ m ih =>
    intro n c i h1 h2
    obtain ⟨n1, e⟩ : ∃ n1, n = n1 + 1 := ⟨n - 1, by omega⟩
    subst e
    have hi : i < nb f := by rw [hf]; omega
    have hT : F_X7_has (nI t) (nI i) = if vetoF f i = 0 then 1 else 0 := by
      show setF (nI t) i = _
      rw [setF_bt (by omega), bt_nI (by omega), h.2.2 i (by omega), decide_eq_true hi, Bool.true_and, vetoF_bt (by omega)]
      cases bt (f 5) i <;> decide
    have hSs : F_X7_has (nI s) (nI i) = setF (nI s) i := rfl
    unfold F_X7_flood_120
    rw [if_neg (fun z => absurd ((le_0 v (by omega)).mp z) (by omega)), hT, hSs, ih _ _ _ (by omega) (by omega), ih _ _ _ (by omega) (by omega), ih _ _ _ (by omega) (by omega), caL, Int64.mul_one]
    by_cases z : vetoF f i = 0
    · have n1 := (not_set (by rw [hf]; exact v) h hs hS hi z).2
      rw [if_pos z, if_neg (show ¬ (1 : Int32) = 0 by decide), if_pos z]
      by_cases y : setF (nI s) i = 0
      · rw [if_pos y, if_pos (n1.mpr y)]
      · rw [if_neg y, if_neg (fun q => y (n1.mp q))]
    · rw [if_neg z, if_pos rfl, if_neg z]
def H1 (f : Fl) (w p : Int32) (t s : Nat) : Int64 := if s &&& t = s then (if VV f w (nI (t - s)) ≤ 0 then 0 else caF f p (nI (t - s))) else 0
theorem flood_97 {g : mm_g} {w p x3 : Int32} {q75 : Int64} {t : Nat} {K : Int64 → Nat → Int64} (v : Vd (g 7 4)) (hw : w = 0 ∨ w = 1) (h : Cd (g 7 4) t) : ∀ (m n : Nat) (a : Int64) (j : Nat), m + j = t + 1 → m < n → F_X7_flood_97 g w p x3 (nI t) q75 K n a j = K (a + sum6 (H1 (g 7 4) w p t) j m) (t + 1) := by
  have h9 := v.n9
  have ht := h.1
  intro m
  induction m with
  | zero =>
    intro n a j h1 h2
    obtain ⟨n1, e⟩ : ∃ n1, n = n1 + 1 := ⟨n - 1, by omega⟩
    subst e
    unfold F_X7_flood_97
    rw [if_pos (nI_lt (by omega) (by omega)), sum6, Int64.add_zero, show j = t + 1 by omega]
  | succ m ih =>
    intro n a j h1 h2
    obtain ⟨n1, e⟩ : ∃ n1, n = n1 + 1 := ⟨n - 1, by omega⟩
    subst e
    have hj : j < 512 := by omega
    unfold F_X7_flood_97
    rw [if_neg (nI_nlt (by omega) (by omega)), sum6, ← Int64.add_assoc]
    by_cases z : j &&& t = j
    · rw [if_pos ((set_iff hj ht).mpr z), part_120 (f := g 7 4) v rfl h hj z (nb (g 7 4)) _ 1 0 rfl (by rw [v.f0, nI_n (by omega)]; omega), ref_V v hw, ← VV_set (w := w) (s := nI (t - j)) (fun i hi hz => (not_set v h hj z hi hz).1), ih _ _ _ (by omega) (by omega), ih _ _ _ (by omega) (by omega), Int64.add_zero]
      by_cases y : VV (g 7 4) w (nI (t - j)) ≤ 0
      · rw [if_pos y, show H1 (g 7 4) w p t j = 0 from (if_pos z).trans (if_pos y), Int64.add_zero]
      · rw [if_neg y, show H1 (g 7 4) w p t j = caF (g 7 4) p (nI (t - j)) from (if_pos z).trans (if_neg y)]
        rfl
    · rw [if_neg (fun q => z ((set_iff hj ht).mp q)), ih _ _ _ (by omega) (by omega), show H1 (g 7 4) w p t j = 0 from if_neg z, Int64.add_zero]
/-- both sums are one -/
theorem sums_1 {f : Fl} {w p : Int32} {t : Nat} (v : Vd f) (h : Cd f t) : sum6 (G1 f w p) 0 (2 ^ nb f) = sum6 (H1 f w p t) 0 (t + 1) := by
  have h9 := v.n9
  have hp := p512 h9
  have ht2 := h.2.1
  rw [show 2 ^ nb f = (t + 1) + (2 ^ nb f - (t + 1)) by omega, sum6_split, sum6_0 (2 ^ nb f - (t + 1)) (0 + (t + 1)) (fun i a b => ?_), Int64.add_zero, sum6_rev (t + 1)]
  · refine sum6_congr _ _ (fun i _ hi => ?_)
    have hi2 : i ≤ t := by omega
    show G1 f w p (t + 1 - 1 - i) = _
    rw [show t + 1 - 1 - i = t - i by omega]
    unfold G1 H1
    have e1 : nI (t - i) &&& f 5 = 0 ↔ i &&& t = i := by
      rw [dry_iff v h (by omega)]
      constructor
      · intro q
        have h1 := sub_x h.1 (show t - i < 512 by omega) q
        have h2 : t - (t - i) = i := by omega
        rw [h2] at h1
        refine (and_s (by omega)).mpr (fun k hk hb => ?_)
        rw [h1.2, Nat.testBit_xor] at hb
        cases y : t.testBit k with
        | true => rfl
        | false =>
          rw [y, Bool.false_xor] at hb
          have h3 := (and_s (show t - i < 512 by omega)).mp q k hk hb
          rw [y] at h3
          exact absurd h3 (by decide)
      · intro q
        have h1 := sub_x h.1 (show i < 512 by omega) q
        refine (and_s (by omega)).mpr (fun k hk hb => ?_)
        rw [h1.2, Nat.testBit_xor] at hb
        cases y : t.testBit k with
        | true => rfl
        | false =>
          rw [y, Bool.false_xor] at hb
          have h3 := (and_s (show i < 512 by omega)).mp q k hk hb
          rw [y] at h3
          exact absurd h3 (by decide)
    by_cases z : i &&& t = i
    · rw [if_pos (e1.mpr z), if_pos z]
    · rw [if_neg (fun q => z (e1.mp q)), if_neg z]
  · refine if_neg (fun q => ?_)
    have h1 := (dry_iff v h (by omega)).mp q
    have h2 := (sub_x h.1 (by omega) h1).1
    omega
/-! how many there are -/
def tenT : Nat → Int64 → Int64
  | 0, q => q
  | k + 1, q => tenT k (q * 10)
def pcT (t : Nat) : Nat → Nat → Nat
  | 0, _ => 0
  | m + 1, i => (if t.testBit i then 1 else 0) + pcT t m (i + 1)
theorem all_5 {g : mm_g} {t : Nat} {K : Int64 → Nat → Int64} (v : Vd (g 2 0)) (h : Cd (g 2 0) t) : ∀ (m n : Nat) (a : Int64) (i : Nat), m + i = nb (g 2 0) → m < n → F_X3_allCases_5 g 0 K n a i = K (tenT (pcT t m i) a) (nb (g 2 0)) := by
  have h9 := v.n9
  intro m
  induction m with
  | zero =>
    intro n a i h1 h2
    obtain ⟨n1, e⟩ : ∃ n1, n = n1 + 1 := ⟨n - 1, by omega⟩
    subst e
    unfold F_X3_allCases_5
    rw [if_pos ((le_0 v (by omega)).mpr (by omega)), show i = nb (g 2 0) by omega]
    rfl
  | succ m ih =>
    intro n a i h1 h2
    obtain ⟨n1, e⟩ : ∃ n1, n = n1 + 1 := ⟨n - 1, by omega⟩
    subst e
    have hi : i < nb (g 2 0) := by omega
    unfold F_X3_allCases_5
    rw [if_neg (fun z => absurd ((le_0 v (by omega)).mp z) (by omega)), hasVeto_F v hi, ih _ _ _ (by omega) (by omega), ih _ _ _ (by omega) (by omega), pcT, h.2.2 i (by omega), decide_eq_true hi, Bool.true_and, vetoF_bt (by omega)]
    cases bt (g 2 0 5) i
    · rw [if_pos (by decide), if_pos (by decide), Nat.add_comm 1]; rfl
    · rw [if_neg (by decide), if_neg (by decide), Nat.zero_add]
theorem pc_ones : (List.range 512).all (fun t => decide (F_X7_ones g00 (nI t) = nI (pcT t 9 0))) = true := by decide +kernel
theorem pcT_le {t : Nat} : ∀ (m i : Nat), pcT t m i ≤ m
  | 0, _ => Nat.le_refl _
  | m + 1, i => by
    have := pcT_le (t := t) m (i + 1)
    rw [pcT]
    split <;> omega
theorem pcT_9 {f : Fl} {t : Nat} (v : Vd f) (h : Cd f t) : pcT t 9 0 = pcT t (nb f) 0 := by
  have h9 := v.n9
  have sp : ∀ p m i, pcT t (p + m) i = pcT t p i + pcT t m (i + p) := by
    intro p
    induction p with
    | zero => intro m i; rw [Nat.zero_add, pcT, Nat.zero_add, Nat.add_zero]
    | succ p ih => intro m i; rw [show p + 1 + m = (p + m) + 1 by omega, pcT, pcT, ih, show i + 1 + p = i + (p + 1) by omega]; omega
  have z0 : ∀ m i, nb f ≤ i → i + m ≤ 9 → pcT t m i = 0 := by
    intro m
    induction m with
    | zero => intro i _ _; rfl
    | succ m ih => intro i h1 h2; rw [pcT, ih (i + 1) (by omega) (by omega), h.2.2 i (by omega), decide_eq_false (by omega), Bool.false_and]; rfl
  have e : pcT t 9 0 = pcT t (nb f + (9 - nb f)) 0 := by rw [show nb f + (9 - nb f) = 9 by omega]
  rw [e, sp, z0 (9 - nb f) (0 + nb f) (by omega) (by omega), Nat.add_zero]
theorem onesT_F {g : mm_g} {f : Fl} {t : Nat} (v : Vd f) (h : Cd f t) : F_X7_ones g (nI t) = nI (pcT t (nb f) 0) := by
  have e : F_X7_ones g (nI t) = F_X7_ones g00 (nI t) := ones_g _ _ _
  rw [e, ← pcT_9 v h]
  exact of_decide_eq_true (List.all_eq_true.mp pc_ones t (List.mem_range.mpr h.1))
theorem ten_75 {g : mm_g} {w p x3 f4 : Int32} {f5 : Int64} {K : Int64 → Int32 → Int64} : ∀ (k n : Nat) (q : Int64), k < 100 → k < n → F_X7_flood_75 g w p x3 f4 f5 K n q (nI k) = K (tenT k q) (nI 0) := by
  intro k
  induction k with
  | zero =>
    intro n q h1 h2
    obtain ⟨n1, e⟩ : ∃ n1, n = n1 + 1 := ⟨n - 1, by omega⟩
    subst e
    unfold F_X7_flood_75
    rw [if_pos (by decide)]
    rfl
  | succ k ih =>
    intro n q h1 h2
    obtain ⟨n1, e⟩ : ∃ n1, n = n1 + 1 := ⟨n - 1, by omega⟩
    subst e
    unfold F_X7_flood_75
    rw [if_neg (nI_nle (by omega) (by omega)), show nI (k + 1) + (-1) = nI k from by rw [← nI_pred k, Int32.sub_eq_add_neg], ih n1 _ (by omega) (by omega)]
    rfl
