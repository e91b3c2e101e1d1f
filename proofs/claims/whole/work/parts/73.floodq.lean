theorem lN_0 {j : Nat} (hj : j < 2 ^ 63) : lg_cmp (lN j) 0 = 0 ↔ j = 0 := by
  rw [lg_cmp_eq]
  constructor
  · intro q
    have h := congrArg Int64.toInt q
    rw [pk_lT hj] at h
    have e0 : (0 : Int64).toInt = 0 := rfl
    omega
  · intro q
    subst q
    rfl
theorem gcd_s {i j : Nat} : Nat.gcd i j = Nat.gcd j (i % j) := by rw [Nat.gcd_comm i j, Nat.gcd_rec j i, Nat.gcd_comm]
theorem gc_3 {g : mm_g} {K : Int64 → Int64 → Nat → Int64} (hK : ∀ a b j, K a b j = a) : ∀ (k n i j q : Nat), i < 2 ^ 63 → j < 2 ^ k → k ≤ 60 → q + 2 * k + 1 ≤ 128 → 2 * k + 2 ≤ n → F_X6_commonDivisor_3 g K n (lN i) (lN j) q = lN (Nat.gcd i j) := by
  intro k
  induction k with
  | zero =>
    intro n i j q hi hj hk h1 h2
    obtain ⟨n1, e⟩ : ∃ n1, n = n1 + 1 := ⟨n - 1, by omega⟩
    subst e
    have ej : j = 0 := by omega
    subst ej
    unfold F_X6_commonDivisor_3
    rw [if_neg (show ¬ (128 : Int32) ≤ nI q from nI_ge (a := q) (b := 128) (by omega) (by decide)), if_pos ((lN_0 (by decide)).mpr rfl), hK, Nat.gcd_zero_right]
  | succ k ih =>
    intro n i j q hi hj hk h1 h2
    obtain ⟨n1, e⟩ : ∃ n1, n = n1 + 2 := ⟨n - 2, by omega⟩
    subst e
    have hp : 2 ^ (k + 1) ≤ 2 ^ 60 := Nat.pow_le_pow_right (by decide) hk
    have hj6 : j < 2 ^ 63 := by omega
    unfold F_X6_commonDivisor_3
    rw [if_neg (show ¬ (128 : Int32) ≤ nI q from nI_ge (a := q) (b := 128) (by omega) (by decide))]
    by_cases z : j = 0
    · subst z
      rw [if_pos ((lN_0 (by decide)).mpr rfl), hK, Nat.gcd_zero_right]
    · rw [if_neg (fun y => z ((lN_0 hj6).mp y)), pk_lRem hi (by omega) hj6]
      have hr : i % j < j := Nat.mod_lt _ (by omega)
      unfold F_X6_commonDivisor_3
      rw [if_neg (show ¬ (128 : Int32) ≤ nI (q + 1) from nI_ge (a := q + 1) (b := 128) (by omega) (by decide))]
      by_cases z2 : i % j = 0
      · rw [z2, if_pos ((lN_0 (by decide)).mpr rfl), hK, gcd_s, z2, Nat.gcd_zero_right]
      · have h6 : j % (i % j) < i % j := Nat.mod_lt _ (by omega)
        have h7 : (i % j) * (j / (i % j)) + j % (i % j) = j := Nat.div_add_mod j (i % j)
        have h8 : 0 < j / (i % j) := Nat.div_pos (by omega) (by omega)
        have h9 : (i % j) * 1 ≤ (i % j) * (j / (i % j)) := Nat.mul_le_mul_left _ h8
        have h10 : j % (i % j) < 2 ^ k := by
          rw [Nat.pow_succ] at hj
          generalize (i % j) * (j / (i % j)) = P at h7 h9
          omega
        rw [if_neg (fun y => z2 ((lN_0 (by omega)).mp y)), pk_lRem hj6 (by omega) (by omega), ih n1 (i % j) (j % (i % j)) (q + 1 + 1) (by omega) h10 (by omega) (by omega) (by omega), gcd_s (i := i) (j := j), gcd_s (i := j) (j := i % j)]
theorem gc_257 {g : mm_g} {w p x3 f4 : Int32} {a q : Int64} {K : Int64 → Int64 → Int64} : ∀ (n i j : Nat), i < 2 ^ 63 → j < 2 ^ 63 → j < n → F_X7_flood_257 g w p x3 f4 a q K n (lN i) (lN j) = K (lN (Nat.gcd i j)) (lN 0) := by
  intro n
  induction n with
  | zero => intro i j hi hj h; omega
  | succ n ih =>
    intro i j hi hj h
    unfold F_X7_flood_257
    by_cases z : j = 0
    · subst z
      rw [if_pos ((lN_0 hj).mpr rfl), Nat.gcd_zero_right]
    · have hr : i % j < j := Nat.mod_lt _ (by omega)
      rw [if_neg (fun y => z ((lN_0 hj).mp y)), pk_lRem hi (by omega) hj, ih j (i % j) hj (by omega) (by omega), ← gcd_s]
theorem caL_b {f : Fl} {d p : Int32} (hp : 0 ≤ p.toInt ∧ p.toInt ≤ 10) : ∀ (m : Nat) (a : Int64) (i : Nat), i + m ≤ 9 → (0 ≤ a.toInt ∧ a.toInt ≤ 10 ^ i) → 0 ≤ (caL f d p m a i).toInt ∧ (caL f d p m a i).toInt ≤ 10 ^ (i + m)
  | 0, a, i, _, h => h
  | m + 1, a, i, hi, h => by
    rw [caL, show i + (m + 1) = i + 1 + m by omega]
    split
    · split
      · exact caL_b hp m _ (i + 1) (by omega) (fl_x h (fl_h hp) (by omega))
      · exact caL_b hp m _ (i + 1) (by omega) (fl_x h (fl_g hp) (by omega))
    · refine caL_b hp m _ (i + 1) (by omega) ⟨h.1, Int.le_trans h.2 ?_⟩
      rw [Int.pow_succ]
      have h1 : (0 : Int) ≤ 10 ^ i := Int.le_trans h.1 h.2
      generalize (10 : Int) ^ i = P at h1
      omega
theorem caF_b {f : Fl} {d p : Int32} (v : Vd f) (hp : 0 ≤ p.toInt ∧ p.toInt ≤ 10) : 0 ≤ (caF f p d).toInt ∧ (caF f p d).toInt ≤ 1000000000 := by
  have h9 := v.n9
  have h := caL_b (f := f) (d := d) hp (nb f) 1 0 (by omega) (by decide)
  unfold caF
  refine ⟨h.1, Int.le_trans h.2 (p_le ⟨0 + nb f, by omega⟩)⟩
theorem sum6_b {h : Nat → Int64} (H : ∀ i, 0 ≤ (h i).toInt ∧ (h i).toInt ≤ 1000000000) : ∀ (m j : Nat), m ≤ 1000 → 0 ≤ (sum6 h j m).toInt ∧ (sum6 h j m).toInt ≤ (m : Int) * 1000000000
  | 0, j, _ => by
    rw [sum6]
    have e0 : (0 : Int64).toInt = 0 := rfl
    omega
  | m + 1, j, hm => by
    have h1 := sum6_b H m (j + 1) (by omega)
    have h2 := H j
    rw [sum6, Int64.toInt_add, Int.bmod_eq_of_le_mul_two (by omega) (by omega)]
    omega
theorem G1_b {f : Fl} {w p : Int32} (v : Vd f) (hp : 0 ≤ p.toInt ∧ p.toInt ≤ 10) (d : Nat) : 0 ≤ (G1 f w p d).toInt ∧ (G1 f w p d).toInt ≤ 1000000000 := by
  have h := caF_b (d := nI d) v hp
  have e0 : (0 : Int64).toInt = 0 := rfl
  unfold G1
  split
  · split
    · omega
    · exact h
  · omega
theorem tenT_F : ∀ (k q : Nat), tenT k (lN q) = lN (q * 10 ^ k)
  | 0, q => by rw [tenT, Nat.pow_zero, Nat.mul_one]
  | k + 1, q => by
    rw [tenT, show (10 : Int64) = lN 10 from rfl, lN_mul, tenT_F k, Nat.pow_succ, Nat.mul_assoc, Nat.mul_comm 10]
theorem lN_of {x : Int64} (h : 0 ≤ x.toInt) : ∃ i, i < 2 ^ 63 ∧ x = lN i := pk_lOf (by
  rw [Int64.lt_iff_toInt_lt]
  have e0 : (0 : Int64).toInt = 0 := rfl
  omega)
theorem Cd_to {f f2 : Fl} {t : Nat} (e : EqF f f2) (h : Cd f2 t) : Cd f t := by
  have hn := e.nb
  refine ⟨h.1, by rw [← hn]; exact h.2.1, fun i hi => ?_⟩
  rw [e.lo 5 (by decide), ← hn]
  exact h.2.2 i hi
theorem H1_eq {f f2 : Fl} {w p : Int32} {t : Nat} (e : EqF f f2) (h9 : nb f ≤ 9) : H1 f2 w p t = H1 f w p t := by
  have hc : ∀ d m a i, i + m ≤ nb f → caL f2 d p m a i = caL f d p m a i := by
    intro d m
    induction m with
    | zero => intro a i _; rfl
    | succ m ih => intro a i hi; rw [caL, caL, vetoF_eq e, ih _ _ (by omega), ih _ _ (by omega), ih _ _ (by omega)]
  funext s
  unfold H1 caF
  rw [VV_eq e, e.nb, hc _ _ _ _ (by omega)]
theorem nI_n2 {N : Nat} (h : N < 100000) : (nI N).toInt.toNat = N := by
  rw [nI_toInt (by omega)]
  omega
theorem e_flood {n : Nat} {g : mm_g} {x1 x2 x3 : Int32} (hr : Rel n g) : Sc g (F_X6_flood g x1 x2 x3).2 ∧ F_X7_flood (F_X6_flood g x1 x2 x3).2 x1 x2 x3 = (F_X6_flood g x1 x2 x3).1 := by
  have hv := hr.now.1
  have h9 := hv.n9
  have he := hr.now.2.2.1
  by_cases q1 : nb (g 2 0) = 0
  · have e : F_X6_flood g x1 x2 x3 = (-1000002, g) := by unfold F_X6_flood; rw [if_neg (fun z => (isN_2 hr).mp z q1)]
    rw [e]
    refine ⟨Sc_r, ?_⟩
    show F_X7_flood g x1 x2 x3 = _
    unfold F_X7_flood; rw [if_pos ((there_2 hr).mpr q1)]
  · have q1b : ¬ g 7 0 1 = 0 := fun z => q1 ((there_2 hr).mp z)
    by_cases q2 : F_X6_within x1 0 1 = 0
    · have e : F_X6_flood g x1 x2 x3 = (-1000001, g) := by unfold F_X6_flood; rw [if_pos ((isN_2 hr).mpr q1), isOne_within, if_pos q2]
      rw [e]
      refine ⟨Sc_r, ?_⟩
      show F_X7_flood g x1 x2 x3 = _
      unfold F_X7_flood; rw [if_neg q1b, isWho_within, if_pos q2]
    · by_cases q3 : F_X6_within x2 0 10 = 0
      · have e : F_X6_flood g x1 x2 x3 = (-1000001, g) := by unfold F_X6_flood; rw [if_pos ((isN_2 hr).mpr q1), isOne_within, if_neg q2, if_pos q3]
        rw [e]
        refine ⟨Sc_r, ?_⟩
        show F_X7_flood g x1 x2 x3 = _
        unfold F_X7_flood; rw [if_neg q1b, isWho_within, if_neg q2, in_w (a := 0) (b := 10) (A := 0) (B := 10) rfl rfl, if_pos q3]
      · by_cases q4 : F_X6_within x3 0 1 = 0
        · have e : F_X6_flood g x1 x2 x3 = (-1000001, g) := by unfold F_X6_flood; rw [if_pos ((isN_2 hr).mpr q1), isOne_within, if_neg q2, if_neg q3, if_pos q4]
          rw [e]
          refine ⟨Sc_r, ?_⟩
          show F_X7_flood g x1 x2 x3 = _
          unfold F_X7_flood; rw [if_neg q1b, isWho_within, if_neg q2, in_w (a := 0) (b := 10) (A := 0) (B := 10) rfl rfl, if_neg q3, isWhat_within, if_pos q4]
        · have hw := two_cases q2
          have hp10 := within_iff.mp q3
          have e10 : (10 : Int32).toInt = 10 := rfl
          have e00 : (0 : Int32).toInt = 0 := rfl
          have hpp : 0 ≤ x2.toInt ∧ x2.toInt ≤ 10 := by omega
          have hp := p512 h9
          have v7 := hr.vd7
          have hn7 : nb (g 7 4) = nb (g 2 0) := he.nb
          obtain ⟨t, ht, ct⟩ := cu_n (g := g) ⟨v7.b0.1, v7.b0.2⟩
          rw [v7.f0] at ct
          have hC7 := cd_of v7 ht ct
          have hC := Cd_to he hC7
          obtain ⟨w1, w2⟩ := weigh_F (g := g) (w := x1) hv
          have w3 := w1 2 0 (by decide) (by decide)
          have hv' := hv
          have w2' := w2
          rw [← w3] at hv' w2'
          obtain ⟨b1, b2⟩ := sum6_b (G1_b (w := x1) hv hpp) (2 ^ nb (g 2 0)) 0 (by omega)
          obtain ⟨α, hα, eα⟩ := lN_of b1
          have hαB : (α : Int) ≤ (2 ^ nb (g 2 0) : Nat) * 1000000000 := by rw [eα, pk_lT hα] at b2; exact b2
          have eL : F_X3_casesLed g 0 x1 x2 = (lN α, F_X3_weighBeds g 0 x1) := by
            unfold F_X3_casesLed
            rw [clead_F, cases_19 (K := fun (a19 : Int64) (j19 : Nat) => (a19, (F_X3_weighBeds g 0 x1))) hv' w2' (2 ^ nb (g 2 0)) _ 0 0 (by rw [w3]; rfl) (by rw [w3, hv.f0, pw9 _ (by omega), nI_n2 (by omega)]; omega), w3, Int64.zero_add, eα]
          have hk9 : pcT t (nb (g 2 0)) 0 ≤ 9 := Nat.le_trans (pcT_le _ _) h9
          have h10 : 10 ^ pcT t (nb (g 2 0)) 0 ≤ 10 ^ 9 := Nat.pow_le_pow_right (by decide) hk9
          have h10p : 0 < 10 ^ pcT t (nb (g 2 0)) 0 := Nat.pow_pos (by decide)
          have eA : F_X3_allCases (F_X3_weighBeds g 0 x1) 0 = lN (10 ^ pcT t (nb (g 2 0)) 0) := by
            unfold F_X3_allCases
            rw [all_5 (t := t) hv' (by rw [w3]; exact hC) (nb (g 2 0)) _ 1 0 (by rw [w3]; rfl) (by rw [w3, hv.f0, nI_n (by omega)]; omega), show (1 : Int64) = lN 1 from rfl, tenT_F, Nat.one_mul]
          generalize 10 ^ pcT t (nb (g 2 0)) 0 = β at eA h10 h10p
          have hβ : β < 2 ^ 31 := by omega
          have eG : F_X6_commonDivisor (F_X3_weighBeds g 0 x1) (lN α) (lN β) = lN (Nat.gcd α β) := by
            unfold F_X6_commonDivisor
            exact gc_3 (fun _ _ _ => rfl) 31 _ α β 0 hα hβ (by decide) (by decide) (by decide)
          have hG0 : 0 < Nat.gcd α β := Nat.gcd_pos_of_pos_right _ h10p
          have hGle : Nat.gcd α β ≤ β := Nat.gcd_le_right _ h10p
          have hcmp : 0 ≤ lg_cmp (lN (Nat.gcd α β)) 1 := by
            have h1 : ¬ lg_cmp (lN (Nat.gcd α β)) 1 < 0 := by
              rw [lg_cmp_lt, Int64.lt_iff_toInt_lt, pk_lT (by omega)]
              have e1 : (1 : Int64).toInt = 1 := rfl
              omega
            rw [toI_lt] at h1
            rw [toI_le]
            omega
          have eF : F_X6_flood g x1 x2 x3 = (if x3 = 0 then lN α / lN (Nat.gcd α β) else lN β / lN (Nat.gcd α β), F_X3_weighBeds g 0 x1) := by
            unfold F_X6_flood
            rw [if_pos ((isN_2 hr).mpr q1), isOne_within, if_neg q2, if_neg q3, if_neg q4, eL]
            dsimp only
            rw [eA, eG, if_pos hcmp]
            by_cases z : x3 = 0
            · rw [if_pos z, if_pos z]
            · rw [if_neg z, if_neg z]
          rw [eF]
          refine ⟨w1, ?_⟩
          show F_X7_flood (F_X3_weighBeds g 0 x1) x1 x2 x3 = _
          have g7 : ∀ k, F_X3_weighBeds g 0 x1 7 k = g 7 k := fun k => w1 7 k (by omega) (by decide)
          have vs : Vd (F_X3_weighBeds g 0 x1 7 4) := by rw [g7]; exact v7
          have eO : F_X7_ones (F_X3_weighBeds g 0 x1) (nI t) = nI (pcT t (nb (g 2 0)) 0) := onesT_F hv hC
          have eβ : lN β = tenT (pcT t (nb (g 2 0)) 0) 1 := by
            rw [← eA]
            unfold F_X3_allCases
            rw [all_5 (t := t) hv' (by rw [w3]; exact hC) (nb (g 2 0)) _ 1 0 (by rw [w3]; rfl) (by rw [w3, hv.f0, nI_n (by omega)]; omega)]
          unfold F_X7_flood
          rw [g7, if_neg q1b, isWho_within, if_neg q2, in_w (a := 0) (b := 10) (A := 0) (B := 10) rfl rfl, if_neg q3, isWhat_within, if_neg q4, g7, v7.f0, ct, eO, ten_75 (pcT t (nb (g 2 0)) 0) 11 1 (by omega) (by omega), ← eβ]
          rw [flood_97 (t := t) vs hw (by rw [g7]; exact hC7) (t + 1) 514 0 0 rfl (by omega), Int64.zero_add, g7, H1_eq he h9, ← sums_1 hv hC, eα]
          rw [gc_257 ((lN β).toInt.toNat + 1) α β hα (by omega) (by rw [pk_lT (by omega)]; omega)]
