def gF (f : Fl) (w : Int32) (i : Nat) : Int32 := if i < nb f then leadH f w i else 0
theorem hasF_no {f : Fl} {b : Nat} (v : Vd f) (hb : ¬ b < nb f) (h : b < 1000) : hasF f (nI b) = 0 := by
  have h9 := v.n9
  by_cases q : hasF f (nI b) = 0
  · exact q
  · obtain ⟨j, hj, e⟩ := (hasF_iff v).mp q
    exact absurd ((nI_eq (by omega) (by omega)).mp e) (by omega)
theorem weigh_2 {w : Int32} {f : Fl} {K : Nat → mm_g → mm_g} (v : Vd f) : ∀ (n j : Nat) (s : mm_g), j ≤ 9 → 9 - j < n → s 2 0 = f → F_X3_weighBeds_2 0 w K n j s = K 9 (mw s 3 2 (fun i => if j ≤ i ∧ i < 9 then gF f w i else s 3 2 i)) := by
  intro n
  induction n with
  | zero => intro j s h1 h2; omega
  | succ n ih =>
    intro j s h1 h2 h3
    unfold F_X3_weighBeds_2
    by_cases q : j = 9
    · rw [if_pos (show (9 : Int32) ≤ nI j from nI_le (a := 9) (b := j) (by omega) (by omega)), mw_id (fun i => by rw [if_neg (by omega)]), q]
    · have vs : Vd (s 2 0) := by rw [h3]; exact v
      have hstep : ∀ x, x = gF f w j → F_X3_weighBeds_2 0 w K n (j + 1) (wr s 3 2 j x) = K 9 (mw s 3 2 (fun i => if j ≤ i ∧ i < 9 then gF f w i else s 3 2 i)) := fun x hx => by
        rw [ih (j + 1) (wr s 3 2 j x) (by omega) (by omega) (by rw [wr_nk (by decide)]; exact h3)]
        refine congrArg (K 9) (mw_wr (fun i => ?_))
        try dsimp only
        by_cases e : i = j
        · subst e
          rw [if_neg (by omega), wr_ss, if_pos rfl, if_pos (by omega), hx]
        · by_cases e2 : j + 1 ≤ i ∧ i < 9
          · rw [if_pos e2, if_pos (by omega)]
          · rw [if_neg e2, wr_ss, if_neg e, if_neg (by omega)]
      rw [if_neg (show ¬ (9 : Int32) ≤ nI j from nI_ge (a := j) (b := 9) (by omega) (by decide)), c0 (b := j) (by omega), has_F vs]
      by_cases hb : j < nb f
      · have hb2 : j < nb (s 2 0) := by rw [h3]; exact hb
        rw [hasF_nI vs hb2, if_neg (by decide), hasVeto_F vs hb2, gainBy_F vs hb2, h3]
        rcases veto_01 (f := f) (b := j) with z | z <;> rw [z]
        · rw [if_pos rfl]
          exact hstep _ (by rw [gF, if_pos hb, leadH, z, if_pos rfl])
        · rw [if_neg (by decide)]
          exact hstep _ (by rw [gF, if_pos hb, leadH, z, if_neg (by decide)])
      · rw [hasF_no vs (by rw [h3]; exact hb) (by omega), if_pos rfl]
        exact hstep _ (by rw [gF, if_neg hb])
/-- the gains are weighed -/
def Wg (f : Fl) (w : Int32) (s : mm_g) : Prop := ∀ i, i < 9 → s 3 2 i = gF f w i
theorem weigh_F {g : mm_g} {w : Int32} (v : Vd (g 2 0)) : Sc g (F_X3_weighBeds g 0 w) ∧ Wg (g 2 0) w (F_X3_weighBeds g 0 w) := by
  unfold F_X3_weighBeds
  rw [weigh_2 v _ 0 g (by decide) (by decide) rfl]
  refine ⟨Sc_3 Sc_r, fun i hi => ?_⟩
  show mw g 3 2 _ 3 2 i = _
  rw [mw_s]
  exact if_pos ⟨Nat.zero_le _, hi⟩
theorem sumR_0 {h : Nat → Int32} : ∀ (m j : Nat), (∀ i, j ≤ i → i < j + m → h i = 0) → sumR h j m = 0
  | 0, _, _ => rfl
  | m + 1, j, H => by rw [sumR, H j (Nat.le_refl j) (by omega), sumR_0 m (j + 1) (fun i a b => H i (by omega) (by omega)), Int32.add_zero]
theorem sumR_split {h : Nat → Int32} : ∀ (p m j : Nat), sumR h j (p + m) = sumR h j p + sumR h (j + p) m
  | 0, m, j => by rw [Nat.zero_add, sumR, Nat.add_zero, Int32.zero_add]
  | p + 1, m, j => by
    rw [show p + 1 + m = (p + m) + 1 by omega, sumR, sumR, sumR_split p m, show j + 1 + p = j + (p + 1) by omega, Int32.add_assoc]
theorem sumR_9 {h : Nat → Int32} {N : Nat} (hN : N ≤ 9) (H : ∀ i, N ≤ i → i < 9 → h i = 0) : sumR h 0 9 = sumR h 0 N := by
  rw [show 9 = N + (9 - N) by omega, sumR_split, sumR_0 (9 - N) (0 + N) (fun i a b => H i (by omega) (by omega)), Int32.add_zero]
def VV (f : Fl) (w s : Int32) : Int32 := countF f w + sumR (fun b => if setF s b = 0 then 0 else leadH f w b) 0 (nb f)
theorem all_4 {g : mm_g} {x : Int32} {K : Int32 → Nat → Int32} : ∀ (m n : Nat) (a : Int32) (j : Nat), m + j = 9 → m < n → F_X3_gainOfAll_4 g x K n a j = K (a + sumR (fun i => if setF x i = 0 then 0 else g 3 2 i) j m) 9 := by
  intro m
  induction m with
  | zero =>
    intro n a j h1 h2
    obtain ⟨n1, e⟩ : ∃ n1, n = n1 + 1 := ⟨n - 1, by omega⟩
    subst e
    have ei : j = 9 := by omega
    subst ei
    unfold F_X3_gainOfAll_4
    rw [if_pos (by decide), sumR, Int32.add_zero]
  | succ m ih =>
    intro n a j h1 h2
    obtain ⟨n1, e⟩ : ∃ n1, n = n1 + 1 := ⟨n - 1, by omega⟩
    subst e
    unfold F_X3_gainOfAll_4
    rw [if_neg (show ¬ (9 : Int32) ≤ nI j from nI_ge (a := j) (b := 9) (by omega) (by decide)), c0 (b := j) (by omega), ih _ _ _ (by omega) (by omega), ih _ _ _ (by omega) (by omega), sumR, ← Int32.add_assoc]
    by_cases z : ((x >>> ((nI j) &&& 31)) &&& 1) = 1
    · rw [if_pos z, show setF x j = 1 from if_pos z, if_neg (by decide)]
    · rw [if_neg z, show setF x j = 0 from if_neg z, if_pos rfl, Int32.add_zero]
theorem gainAll_F {g : mm_g} {f : Fl} {w x : Int32} (v : Vd f) (h : Wg f w g) : F_X3_gainOfAll g x = sumR (fun b => if setF x b = 0 then 0 else leadH f w b) 0 (nb f) := by
  unfold F_X3_gainOfAll
  rw [all_4 9 _ 0 0 rfl (by decide), Int32.zero_add, sumR_congr (h2 := fun i => if setF x i = 0 then 0 else gF f w i) (fun i _ b => by rw [h i (by omega)]), sumR_9 v.n9 (fun i a b => by rw [show gF f w i = 0 from if_neg (by omega)]; split <;> rfl)]
  exact sumR_congr (fun i _ b => by rw [show gF f w i = leadH f w i from if_pos (by omega)])
theorem clead_F {g : mm_g} {w : Int32} : F_X2_countedLead g 0 w = countF (g 2 0) w := rfl
theorem pw9 : ∀ n, n < 10 → (1 : Int32) <<< (nI n &&& 31) = nI (2 ^ n) := by decide +kernel
theorem p512 {n : Nat} (h : n ≤ 9) : 2 ^ n ≤ 512 := Nat.pow_le_pow_right (by decide) h
theorem bring_d {f : Fl} {w s : Int32} (hw : w = 0 ∨ w = 1) : bringF f w s - bringF f (1 - w) s = sumR (fun b => if setF s b = 0 then 0 else leadH f w b) 0 (nb f) := by
  unfold bringF
  rw [← sumR_sub]
  refine sumR_congr (fun i _ _ => ?_)
  unfold bringH
  rcases set_01 (s := s) (b := i) with z | z <;> rw [z]
  · rw [if_pos rfl, if_pos rfl, if_pos rfl]; rfl
  · rw [if_neg (by decide), if_neg (by decide), if_neg (by decide), gain_two hw]
theorem ref_V {g : mm_g} {w s : Int32} (v : Vd (g 7 4)) (hw : w = 0 ∨ w = 1) : ((g 7 4 (6 + w).toNatClampNeg + F_X7_bringFor g w s) - g 7 4 (7 - w).toNatClampNeg) - F_X7_bringFor g (1 - w) s = VV (g 7 4) w s := by
  rw [bringFor_F v, bringFor_F v, VV, ← bring_d hw]
  generalize bringF (g 7 4) w s = B1
  generalize bringF (g 7 4) (1 - w) s = B2
  unfold countF
  rcases hw with e | e <;> subst e
  · rw [if_pos rfl]
    show g 7 4 6 + B1 - g 7 4 7 - B2 = _
    grind
  · rw [if_neg (by decide)]
    show g 7 4 7 + B1 - g 7 4 6 - B2 = _
    grind
theorem VV_eq {f f2 : Fl} {w s : Int32} (e : EqF f f2) : VV f2 w s = VV f w s := by
  unfold VV countF
  rw [e.nb, e.lo 6 (by decide), e.lo 7 (by decide)]
  congr 1
  refine sumR_congr (fun i _ b => ?_)
  unfold leadH
  rw [vetoF_eq e, gainW_eq e (by omega)]
def rkL (f : Fl) (w : Int32) : Nat → Int32 → Nat → Int32
  | 0, a, _ => a
  | m + 1, a, j => if a = -1000000 then (if nI j &&& f 5 = 0 then (if VV f w (nI j) ≤ 0 then rkL f w m a (j + 1) else rkL f w m (nI j) (j + 1)) else rkL f w m a (j + 1)) else (if F_J6_bitCount_0f7a4 a ≤ F_J6_bitCount_0f7a4 (nI j) then rkL f w m a (j + 1) else (if nI j &&& f 5 = 0 then (if VV f w (nI j) ≤ 0 then rkL f w m a (j + 1) else rkL f w m (nI j) (j + 1)) else rkL f w m a (j + 1)))
theorem rkL_eq {f f2 : Fl} {w : Int32} (e : EqF f f2) : ∀ (m : Nat) (a : Int32) (j : Nat), rkL f2 w m a j = rkL f w m a j
  | 0, _, _ => rfl
  | m + 1, a, j => by rw [rkL, rkL, VV_eq e, ← e.lo 5 (by decide), rkL_eq e m, rkL_eq e m]
theorem few_19 {g : mm_g} {w : Int32} {K : Int32 → Nat → Int32 × mm_g} (v : Vd (g 2 0)) (h : Wg (g 2 0) w g) : ∀ (m n : Nat) (a : Int32) (j : Nat), m + j = 2 ^ nb (g 2 0) → m < n → F_X3_fewestRaked_19 g 0 w (countF (g 2 0) w) K n a j = K (rkL (g 2 0) w m a j) (2 ^ nb (g 2 0)) := by
  have h9 := v.n9
  have hp := p512 h9
  intro m
  induction m with
  | zero =>
    intro n a j h1 h2
    obtain ⟨n1, e⟩ : ∃ n1, n = n1 + 1 := ⟨n - 1, by omega⟩
    subst e
    unfold F_X3_fewestRaked_19
    rw [v.f0, pw9 _ (by omega), if_pos (nI_le (by omega) (by omega)), rkL, show j = 2 ^ nb (g 2 0) by omega]
  | succ m ih =>
    intro n a j h1 h2
    obtain ⟨n1, e⟩ : ∃ n1, n = n1 + 1 := ⟨n - 1, by omega⟩
    subst e
    unfold F_X3_fewestRaked_19
    rw [v.f0, pw9 _ (by omega), if_neg (nI_ge (by omega) (by omega)), gainAll_F v h, ih _ _ _ (by omega) (by omega), ih _ _ _ (by omega) (by omega), rkL]
    show _ = K (if a = -1000000 then (if nI j &&& g 2 0 5 = 0 then (if VV (g 2 0) w (nI j) ≤ 0 then _ else _) else _) else (if F_J6_bitCount_0f7a4 a ≤ F_J6_bitCount_0f7a4 (nI j) then _ else (if nI j &&& g 2 0 5 = 0 then (if VV (g 2 0) w (nI j) ≤ 0 then _ else _) else _))) _
    unfold VV
    repeat' split
    all_goals rfl
theorem ones_g {g g2 : mm_g} {x : Int32} {K : Int32 → Int32 → Int32} : ∀ (n : Nat) (a b : Int32), F_X7_ones_4 g x K n a b = F_X7_ones_4 g2 x K n a b
  | 0, _, _ => rfl
  | n + 1, a, b => by
    unfold F_X7_ones_4
    rw [ones_g n]
theorem ones_bc : (List.range 512).all (fun t => decide (F_X7_ones g00 (nI t) = F_J6_bitCount_0f7a4 (nI t))) = true := by decide +kernel
theorem ones_F {g : mm_g} {t : Nat} (h : t < 512) : F_X7_ones g (nI t) = F_J6_bitCount_0f7a4 (nI t) := by
  have e : F_X7_ones g (nI t) = F_X7_ones g00 (nI t) := ones_g _ _ _
  rw [e]
  exact of_decide_eq_true (List.all_eq_true.mp ones_bc t (List.mem_range.mpr h))
def Few (a : Int32) : Prop := a = -1000000 ∨ ∃ t, t < 512 ∧ a = nI t
theorem few_n {a : Int32} (h : Few a) : a < 0 ↔ a = -1000000 := by
  rcases h with e | ⟨t, ht, e⟩ <;> subst e
  · exact ⟨fun _ => rfl, fun _ => by decide⟩
  · refine ⟨fun q => absurd q (nI_pos (by omega)), fun q => absurd ?_ (nI_pos (n := t) (by omega))⟩
    rw [q]; decide
theorem few_o {g : mm_g} {a : Int32} (h : Few a) (q : ¬ a = -1000000) : F_X7_ones g a = F_J6_bitCount_0f7a4 a := by
  rcases h with e | ⟨t, ht, e⟩
  · exact absurd e q
  · rw [e]; exact ones_F ht
theorem rakes_33 {g : mm_g} {w x2 : Int32} {K : Int32 → Nat → Int32} (v : Vd (g 7 4)) (hw : w = 0 ∨ w = 1) : ∀ (m n : Nat) (a : Int32) (j : Nat), m + j = 2 ^ nb (g 7 4) → m < n → Few a → F_X7_rakes_33 g w x2 K n a j = K (rkL (g 7 4) w m a j) (2 ^ nb (g 7 4)) ∧ Few (rkL (g 7 4) w m a j) := by
  have h9 := v.n9
  have hp := p512 h9
  intro m
  induction m with
  | zero =>
    intro n a j h1 h2 hf
    obtain ⟨n1, e⟩ : ∃ n1, n = n1 + 1 := ⟨n - 1, by omega⟩
    subst e
    unfold F_X7_rakes_33
    rw [v.f0, pw9 _ (by omega), if_pos (nI_le (by omega) (by omega)), rkL, show j = 2 ^ nb (g 7 4) by omega]
    exact ⟨rfl, hf⟩
  | succ m ih =>
    intro n a j h1 h2 hf
    obtain ⟨n1, e⟩ : ∃ n1, n = n1 + 1 := ⟨n - 1, by omega⟩
    subst e
    have ha := ih n1 a (j + 1) (by omega) (by omega) hf
    have hj := ih n1 (nI j) (j + 1) (by omega) (by omega) (Or.inr ⟨j, by omega, rfl⟩)
    unfold F_X7_rakes_33
    rw [v.f0, pw9 _ (by omega), if_neg (nI_ge (by omega) (by omega)), ref_V v hw, rkL]
    by_cases q : a = -1000000
    · rw [if_pos ((few_n hf).mpr q), if_pos q]
      by_cases q2 : nI j &&& g 7 4 5 = 0
      · rw [if_pos q2, if_pos q2]
        by_cases q3 : VV (g 7 4) w (nI j) ≤ 0
        · rw [if_pos q3, if_pos q3]; exact ha
        · rw [if_neg q3, if_neg q3]; exact hj
      · rw [if_neg q2, if_neg q2]; exact ha
    · rw [if_neg (fun z => q ((few_n hf).mp z)), if_neg q, few_o hf q, ones_F (by omega)]
      by_cases q1 : F_J6_bitCount_0f7a4 a ≤ F_J6_bitCount_0f7a4 (nI j)
      · rw [if_pos q1, if_pos q1]
        by_cases q2 : nI j &&& g 7 4 5 = 0
        · rw [if_pos q2]; exact ha
        · rw [if_neg q2]; exact ha
      · rw [if_neg q1, if_neg q1]
        by_cases q2 : nI j &&& g 7 4 5 = 0
        · rw [if_pos q2, if_pos q2]
          by_cases q3 : VV (g 7 4) w (nI j) ≤ 0
          · rw [if_pos q3, if_pos q3]; exact ha
          · rw [if_neg q3, if_neg q3]; exact hj
        · rw [if_neg q2, if_neg q2]; exact ha
theorem e_rakes {n : Nat} {g : mm_g} {x1 x2 : Int32} (hr : Rel n g) : Ok n g (F_X6_rakes g x1 x2) (fun s => (F_X7_rakes s x1 x2, s)) ∧ Fr g (F_X6_rakes g x1 x2).2 := by
  have hv := hr.now.1
  by_cases q1 : nb (g 2 0) = 0
  · refine Ok_b hr (a := -1000002) ?_ ?_
    · unfold F_X6_rakes; rw [if_neg (fun z => (isN_2 hr).mp z q1)]
    · show (F_X7_rakes g x1 x2, g) = _
      unfold F_X7_rakes; rw [if_pos ((there_2 hr).mpr q1)]
  · by_cases q2 : F_X6_within x1 0 1 = 0
    · refine Ok_b hr (a := -1000001) ?_ ?_
      · unfold F_X6_rakes; rw [if_pos ((isN_2 hr).mpr q1), isOne_within, if_pos q2]
      · show (F_X7_rakes g x1 x2, g) = _
        unfold F_X7_rakes; rw [if_neg (fun z => q1 ((there_2 hr).mp z)), isWho_within, if_pos q2]
    · by_cases q3 : F_X6_within x2 0 1 = 0
      · refine Ok_b hr (a := -1000001) ?_ ?_
        · unfold F_X6_rakes; rw [if_pos ((isN_2 hr).mpr q1), isOne_within, if_neg q2, if_pos q3]
        · show (F_X7_rakes g x1 x2, g) = _
          unfold F_X7_rakes; rw [if_neg (fun z => q1 ((there_2 hr).mp z)), isWho_within, if_neg q2, isWhat_within, if_pos q3]
      · have hw := two_cases q2
        have h9 := hv.n9
        have hp := p512 h9
        obtain ⟨w1, w2⟩ := weigh_F (g := g) (w := x1) hv
        have w3 := w1 2 0 (by decide) (by decide)
        have e : F_X3_fewestRaked g 0 x1 = (rkL (g 2 0) x1 (2 ^ nb (g 2 0)) (-1000000) 0, F_X3_weighBeds g 0 x1) := by
          unfold F_X3_fewestRaked
          rw [clead_F]
          have w2' := w2
          have hv' := hv
          rw [← w3] at w2' hv'
          rw [few_19 hv' w2' (2 ^ nb (g 2 0)) _ _ _ (by rw [w3]; rfl) (by rw [w3, hv.f0, pw9 _ (by omega), nI_toInt (by omega)]; omega), w3]
        refine Ok_p hr (if rkL (g 2 0) x1 (2 ^ nb (g 2 0)) (-1000000) 0 = -1000000 then rkL (g 2 0) x1 (2 ^ nb (g 2 0)) (-1000000) 0 else if x2 = 1 then rkL (g 2 0) x1 (2 ^ nb (g 2 0)) (-1000000) 0 else F_J6_bitCount_0f7a4 (rkL (g 2 0) x1 (2 ^ nb (g 2 0)) (-1000000) 0)) ?_ ?_ (fun s hs h2 => ?_)
        · unfold F_X6_rakes; rw [if_pos ((isN_2 hr).mpr q1), isOne_within, if_neg q2, if_neg q3, e]
          dsimp only
          repeat' split
          all_goals first | rfl | contradiction
        · unfold F_X6_rakes; rw [if_pos ((isN_2 hr).mpr q1), isOne_within, if_neg q2, if_neg q3, e]
          dsimp only
          repeat' split
          all_goals exact w1
        · have he := hs.now.2.2.1
          have v7 := hs.vd7
          refine ⟨?_, Sr_r⟩
          show F_X7_rakes s x1 x2 = _
          have hn7 : nb (s 7 4) = nb (g 2 0) := by rw [he.nb, h2]
          obtain ⟨r1, r2⟩ := rakes_33 (g := s) (w := x1) (x2 := x2) (K := fun (a33 : Int32) (j33 : Nat) => (if a33 < 0 then a33 else (if x2 = 1 then a33 else (F_X7_ones s a33)))) v7 hw (2 ^ nb (s 7 4)) (((1 : Int32) <<< (s 7 4 0 &&& 31)).toInt.toNat + 1) (-1000000) 0 rfl (by rw [v7.f0, pw9 _ (by rw [hn7]; omega), nI_toInt (by rw [hn7]; omega)]; omega) (Or.inl rfl)
          unfold F_X7_rakes
          rw [if_neg (fun z => q1 (by rw [← h2]; exact (there_2 hs).mp z)), isWho_within, if_neg q2, isWhat_within, if_neg q3, r1]
          rw [hn7, rkL_eq he, h2] at r2 ⊢
          generalize rkL (g 2 0) x1 (2 ^ nb (g 2 0)) (-1000000) 0 = A at r2 ⊢
          by_cases z : A = -1000000
          · rw [if_pos ((few_n r2).mpr z), if_pos z]
          · rw [if_neg (fun y => z ((few_n r2).mp y)), if_neg z, few_o r2 z]
