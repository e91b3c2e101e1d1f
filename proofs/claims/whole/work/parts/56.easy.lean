theorem Rel.now {n : Nat} {g : mm_g} (hr : Rel n g) : RNow n g := hr.1.2.2.2.1
theorem Rel.vd7 {n : Nat} {g : mm_g} (hr : Rel n g) : Vd (g 7 4) := hr.now.2.2.1.vd hr.now.1
theorem Ok_y {n : Nat} {g g1 s : mm_g} {a : Int32} {R : Int32 × mm_g} {Q : mm_g → Int32 × mm_g} (hR : R = (a, g1)) (hQ : Q g1 = (a, s)) (hF : Fr g g1) (h2 : ∀ t k, t ≠ 7 → s t k = g1 t k) (hl : Rl n s) (hs : s 6 0 1 = s 7 0 0) : Ok n g R Q ∧ Fr g R.2 := by
  subst hR
  refine ⟨⟨hF.1, ?_, ?_, ?_⟩, hF⟩
  · show (Q g1).1 = a
    rw [hQ]
  · show Rel (n + 1) (Q g1).2
    rw [hQ]
    exact ⟨hl.up (Nat.le_succ n), hs⟩
  · show ∀ t k, t ≠ 7 → (Q g1).2 t k = g1 t k
    rw [hQ]
    exact h2
theorem e_fault {n : Nat} {g : mm_g} (hr : Rel n g) : Ok n g (F_X6_fault g, g) (fun s => (F_X7_fault s, s)) ∧ Fr g (F_X6_fault g, g).2 := Ok_i (A := F_X6_fault) (B := F_X7_fault) hr (Eq.symm hr.1.2.2.1)
theorem e_status {n : Nat} {g : mm_g} (hr : Rel n g) : Ok n g (F_X6_status g, g) (fun s => (F_X7_status s, s)) ∧ Fr g (F_X6_status g, g).2 := Ok_i (A := F_X6_status) (B := F_X7_status) hr (Eq.symm hr.2)
theorem e_bed {n : Nat} {g : mm_g} {x1 x2 : Int32} (hr : Rel n g) : Ok n g (F_X6_bed g x1 x2, g) (fun s => (F_X7_bed s x1 x2, s)) ∧ Fr g (F_X6_bed g x1 x2, g).2 := by
  refine Ok_i (A := fun g => F_X6_bed g x1 x2) (B := fun g => F_X7_bed g x1 x2) hr ?_
  obtain ⟨ha, hb⟩ := has_2 (x := x1) hr
  have hv := hr.now.1
  have h9 := hv.n9
  have he := hr.now.2.2.1
  show F_X7_bed g x1 x2 = F_X6_bed g x1 x2
  unfold F_X7_bed F_X6_bed
  rw [ha, hb, in_w (a := 0) (b := 3) (A := 0) (B := 3) rfl rfl]
  by_cases c : hasF (g 2 0) x1 = 0
  · rw [if_pos c, if_pos c]
  · rw [if_neg c, if_neg c]
    obtain ⟨b, hb3, rfl⟩ := (hasF_iff hv).mp c
    by_cases c2 : F_X6_within x2 0 3 = 0
    · rw [if_pos c2, if_pos c2]
    · rw [if_neg c2, if_neg c2, hasVeto_F hv hb3, hasVeto7_F, vetoF_eq he, tellOf_F hv hb3, toldOf_F (by omega), toldF_eq he hb3]
      by_cases c3 : x2 = 3
      · subst c3
        rw [if_pos (show (3 : Int32) ≤ 3 by decide), if_pos rfl]
      · have h3 := (within_iff.mp c2).2
        have h4 := mm_ne c3 (n := 3) rfl
        have e3 : (3 : Int32).toInt = 3 := rfl
        rw [if_neg c3, if_neg (by rw [toI_le]; omega)]
theorem five_of {x : Int32} (h : ¬ F_X6_within x 0 5 = 0) : x = 0 ∨ x = 1 ∨ x = 2 ∨ x = 3 ∨ x = 4 ∨ x = 5 := by
  obtain ⟨j, hj, e⟩ := within_nI (n := 5) (by decide) h
  subst e
  rcases (show j = 0 ∨ j = 1 ∨ j = 2 ∨ j = 3 ∨ j = 4 ∨ j = 5 by omega) with q | q | q | q | q | q <;> subst q
  · exact Or.inl rfl
  · exact Or.inr (Or.inl rfl)
  · exact Or.inr (Or.inr (Or.inl rfl))
  · exact Or.inr (Or.inr (Or.inr (Or.inl rfl)))
  · exact Or.inr (Or.inr (Or.inr (Or.inr (Or.inl rfl))))
  · exact Or.inr (Or.inr (Or.inr (Or.inr (Or.inr rfl))))
theorem e_board {n : Nat} {g : mm_g} {x1 : Int32} (hr : Rel n g) : Ok n g (F_X6_board g x1, g) (fun s => (F_X7_board s x1, s)) ∧ Fr g (F_X6_board g x1, g).2 := by
  refine Ok_i (A := fun g => F_X6_board g x1) (B := fun g => F_X7_board g x1) hr ?_
  have hn := none_2 hr
  have he := hr.now.2.2.1
  show F_X7_board g x1 = F_X6_board g x1
  unfold F_X7_board F_X6_board
  rw [in_w (a := 0) (b := 5) (A := 0) (B := 5) rfl rfl]
  by_cases c : g 7 0 1 = 0
  · rw [if_pos c, if_neg (fun q => hn.mp q c)]
  · rw [if_neg c, if_pos (hn.mpr c)]
    by_cases c2 : F_X6_within x1 0 5 = 0
    · rw [if_pos c2]
      have hne : ∀ v : Int32, ¬ F_X6_within v 0 5 = 0 → ¬ x1 = v := fun v hv q => hv (by rw [← q]; exact c2)
      rw [if_neg (hne 0 (by decide)), if_neg (hne 1 (by decide)), if_neg (hne 2 (by decide)), if_neg (hne 3 (by decide)), if_neg (hne 4 (by decide)), if_neg (hne 5 (by decide))]
    · rw [if_neg c2]
      rcases five_of c2 with q | q | q | q | q | q <;> subst q
      · rw [if_neg (by decide), if_pos rfl, F_X2_countedFor, if_neg (by decide)]
        exact (he.lo 6 (by decide)).symm
      · rw [if_neg (by decide), if_neg (by decide), if_pos rfl, F_X2_countedFor, if_neg (by decide)]
        exact (he.lo 7 (by decide)).symm
      · rw [if_neg (by decide), if_neg (by decide), if_neg (by decide), if_pos rfl, F_X2_countedFor, if_neg (by decide)]
        exact (he.lo 8 (by decide)).symm
      · rw [if_pos (by decide), if_neg (by decide), if_neg (by decide), if_neg (by decide), if_neg (by decide), if_pos rfl]
        exact (he.lo 1 (by decide)).symm
      · rw [if_pos (by decide), if_neg (by decide), if_neg (by decide), if_neg (by decide), if_neg (by decide), if_neg (by decide), if_pos rfl]
        exact (he.lo 2 (by decide)).symm
      · rw [if_pos (by decide), if_pos (by decide), if_neg (by decide), if_neg (by decide), if_neg (by decide), if_neg (by decide), if_neg (by decide), if_pos rfl]
        exact (he.lo 3 (by decide)).symm
theorem e_kind {n : Nat} {g : mm_g} {x1 : Int32} (hr : Rel n g) : Ok n g (F_X6_kind g x1, g) (fun s => (F_X7_kind s x1, s)) ∧ Fr g (F_X6_kind g x1, g).2 := by
  refine Ok_i (A := fun g => F_X6_kind g x1) (B := fun g => F_X7_kind g x1) hr ?_
  obtain ⟨ha, hb⟩ := has_2 (x := x1) hr
  have hv := hr.now.1
  have h9 := hv.n9
  have he := hr.now.2.2.1
  show F_X7_kind g x1 = F_X6_kind g x1
  unfold F_X7_kind F_X6_kind
  rw [ha, hb]
  by_cases c : hasF (g 2 0) x1 = 0
  · rw [if_pos c, if_pos c]
  · rw [if_neg c, if_neg c]
    obtain ⟨b, hb3, rfl⟩ := (hasF_iff hv).mp c
    rw [kindOf_F hv hb3, c9 (by omega)]
    exact (he.bed b hb3).1.symm
theorem such_g {g g2 : mm_g} {x1 x2 : Int32} {K : Int32 → Nat → Int32} : ∀ (n : Nat) (a : Int32) (j : Nat), F_X1_isSuch_4 g x1 x2 K n a j = F_X1_isSuch_4 g2 x1 x2 K n a j
  | 0, _, _ => rfl
  | n + 1, a, j => by
    unfold F_X1_isSuch_4
    rw [such_g n]
theorem such_all : ∀ k, k < 5 → ∀ x, x < 6 → F_X1_isSuch g00 (nI (k + 1)) (nI x) = F_X7_isKind (nI (k + 1)) (nI x) := by decide +kernel
theorem such_F {g : mm_g} {k x : Int32} (hk : 1 ≤ k.toInt ∧ k.toInt ≤ 5) (hx : ¬ F_X6_within x 0 5 = 0) : F_X1_isSuch g k x = F_X7_isKind k x := by
  have e : F_X1_isSuch g k x = F_X1_isSuch g00 k x := such_g _ _ _
  rw [e]
  obtain ⟨j, hj, rfl⟩ := within_nI (n := 5) (by decide) hx
  rcases kind_5 hk with q | q | q | q | q <;> subst q
  · exact such_all 0 (by decide) j (by omega)
  · exact such_all 1 (by decide) j (by omega)
  · exact such_all 2 (by decide) j (by omega)
  · exact such_all 3 (by decide) j (by omega)
  · exact such_all 4 (by decide) j (by omega)
theorem e_as {n : Nat} {g : mm_g} {x1 x2 : Int32} (hr : Rel n g) : Ok n g (F_X6_as g x1 x2) (fun s => F_X7_as s x1 x2) ∧ Fr g (F_X6_as g x1 x2).2 := by
  obtain ⟨ha, hb⟩ := has_2 (x := x1) hr
  have hv := hr.now.1
  have h9 := hv.n9
  have he := hr.now.2.2.1
  by_cases c : hasF (g 2 0) x1 = 0
  · refine Ok_b hr (a := -1000001) ?_ ?_
    · unfold F_X6_as; rw [ha, if_pos c]
    · show F_X7_as g x1 x2 = _
      unfold F_X7_as; rw [hb, if_pos c]
  · by_cases c2 : F_X6_within x2 0 5 = 0
    · refine Ok_b hr (a := -1000001) ?_ ?_
      · unfold F_X6_as; rw [ha, if_neg c, if_pos c2]
      · show F_X7_as g x1 x2 = _
        unfold F_X7_as; rw [hb, if_neg c, in_w (a := 0) (b := 5) (A := 0) (B := 5) rfl rfl, if_pos c2]
    · have hb2 : ∀ u, F_X7_isBed (wr g 6 0 1 u) x1 = hasF (g 2 0) x1 := fun u => by rw [← hb]; unfold F_X7_isBed; rw [wr67]
      obtain ⟨b, hb3, rfl⟩ := (hasF_iff hv).mp c
      have hk : F_X1_isSuch g (F_X2_kindOf g 0 (nI b)) x2 = F_X7_isKind (g 7 4 (9 + nI b).toNatClampNeg) x2 := by
        rw [kindOf_F hv hb3, c9 (by omega), ← (he.bed b hb3).1]
        exact such_F (hv.bed b hb3).1 c2
      by_cases c3 : F_X7_isKind (g 7 4 (9 + nI b).toNatClampNeg) x2 = 0
      · refine Ok_e (u := 3) hr ?_ ?_
        · unfold F_X6_as; rw [ha, if_neg c, if_neg c2, hk, if_pos c3]
        · show F_X7_as (wr g 6 0 1 3) (nI b) x2 = _
          unfold F_X7_as; rw [hb2, if_neg c, in_w (a := 0) (b := 5) (A := 0) (B := 5) rfl rfl, if_neg c2, wr67, if_pos c3]
      · refine Ok_w (u := 0) (a := nI b) (g1 := g) (s := wr g 6 0 1 0) hr ?_ Sc_r ?_ Sr_r
        · unfold F_X6_as; rw [ha, if_neg c, if_neg c2, hk, if_neg c3]; rfl
        · show F_X7_as (wr g 6 0 1 0) (nI b) x2 = _
          unfold F_X7_as; rw [hb2, if_neg c, in_w (a := 0) (b := 5) (A := 0) (B := 5) rfl rfl, if_neg c2, wr67, if_neg c3]; rfl
theorem m1_iff {x : Int32} (h : -1 ≤ x.toInt) : x = -1 ↔ x < 0 := by
  have e0 : (0 : Int32).toInt = 0 := rfl
  have e1 : (-1 : Int32).toInt = -1 := rfl
  constructor
  · intro q; subst q; decide
  · intro q
    rw [toI_lt] at q
    exact Int32.toInt_inj.mp (by omega)
theorem count_8 {g : mm_g} (h : RRow g) {x1 : Int32} {K : Int32 → Nat → Int32} : ∀ (n : Nat) (a : Int32) (j : Nat), j ≤ 8 → 8 - j < n → F_X7_count_4 g x1 K n a j = K (F_X4_present_4 g (fun (a4 : Int32) (j4 : Nat) => a4) n a j) 8 := by
  intro n
  induction n with
  | zero => intro a j hj hm; omega
  | succ n ih =>
    intro a j hj hm
    unfold F_X7_count_4 F_X4_present_4
    by_cases c : j = 8
    · subst c
      rw [if_pos (by decide), if_pos (by decide)]
    · have h8 : ¬ (8 : Int32) ≤ nI j := nI_ge (a := j) (b := 8) (by omega) (by decide)
      have hh := h j (by omega)
      rw [if_neg h8, if_neg h8, c0 (by omega), ← hh.1, ih _ _ (by omega) (by omega), ih _ _ (by omega) (by omega), Int32.add_zero]
      by_cases c2 : g 4 3 j = -1
      · rw [if_pos ((m1_iff hh.2.1.1).mp c2), if_pos c2]
      · rw [if_neg (fun q => c2 ((m1_iff hh.2.1.1).mpr q)), if_neg c2]
theorem e_count {n : Nat} {g : mm_g} {x1 : Int32} (hr : Rel n g) : Ok n g (F_X6_count g x1, g) (fun s => (F_X7_count s x1, s)) ∧ Fr g (F_X6_count g x1, g).2 := by
  refine Ok_i (A := fun g => F_X6_count g x1) (B := fun g => F_X7_count g x1) hr ?_
  have hv := hr.now.1
  have he := hr.now.2.2.1
  obtain ⟨a, m, h1, h2, h3, h4, h5, h6, h7⟩ := hr.1.2.2.2.2.1
  obtain ⟨l, h8, h9, h10, h11⟩ := hr.1.2.1
  show F_X7_count g x1 = F_X6_count g x1
  unfold F_X7_count F_X6_count
  rw [count_8 hr.1.1 _ _ _ (by decide) (by decide), allStock_F hv, allSizes_F hr.vd7, stocksF_eq he, ← he.lo 0 (by decide), ← he.lo 4 (by decide), ← he.lo 5 (by decide), ← he.lo 6 (by decide), ← he.lo 7 (by decide), ← he.lo 8 (by decide), h5, h10, show F_X0_kept g = nI m from h4, show F_X5_length g = nI l from h9]
  rfl
theorem tr_le {x : Int32} {m : Nat} (hm : m ≤ 1000) : nI m - 1 < x ↔ nI m ≤ x := by
  have e1 : (1 : Int32).toInt = 1 := rfl
  rw [toI_lt, toI_le, Int32.toInt_sub, e1, nI_toInt (by omega), Int.bmod_eq_of_le_mul_two (by omega) (by omega)]
  omega
theorem e_trace {n : Nat} {g : mm_g} {x1 : Int32} (hr : Rel n g) : Ok n g (F_X6_trace g x1, g) (fun s => (F_X7_trace s x1, s)) ∧ Fr g (F_X6_trace g x1, g).2 := by
  refine Ok_i (A := fun g => F_X6_trace g x1) (B := fun g => F_X7_trace g x1) hr ?_
  obtain ⟨m, h1, h2, h3, h4⟩ := hr.1.2.2.2.2.2.2
  show F_X7_trace g x1 = F_X1_traced g x1
  unfold F_X7_trace F_X1_traced
  rw [h3, h2, in_w (a := 0) (b := nI m - 1) (A := 0) (B := (nI m - 1).toInt64) rfl rfl]
  unfold F_X6_within
  simp only [tr_le (show m ≤ 1000 by omega)]
  by_cases c : x1 < 0
  · rw [if_pos c, if_pos c, if_pos rfl]
  · rw [if_neg c, if_neg c]
    by_cases c2 : nI m ≤ x1
    · rw [if_pos c2, if_pos c2, if_pos rfl]
    · obtain ⟨j, hj, rfl⟩ := nI_of c
      rw [nI_leI (by omega) hj] at c2
      rw [if_neg (show ¬ nI m ≤ nI j from nI_ge (by omega) (by omega)), if_neg (show ¬ nI m ≤ nI j from nI_ge (by omega) (by omega)), if_neg (by decide), if_neg (show ¬ (16 : Int32) ≤ nI j from nI_ge (a := j) (b := 16) (by omega) (by decide)), c0 (by omega)]
      exact (h4 j (by omega)).symm
theorem append_F {g : mm_g} {m : Nat} {x : Int32} (h : g 5 0 0 = nI m) (hm : m < 100) : F_X5_append g x = (nI (m + 1), wr (wr g 5 1 m x) 5 0 0 (nI (m + 1))) := by
  unfold F_X5_append
  rw [h, if_neg (nI_pos (by omega)), if_neg (show ¬ (100 : Int32) ≤ nI m from nI_ge (a := m) (b := 100) (by omega) (by decide)), c0 (by omega), wr_nk (t := 5) (k := 1) (t' := 5) (k' := 0) (by decide), h, nI_1, wr_ss, if_pos rfl]
theorem feed7_F {g : mm_g} {m : Nat} {x : Int32} (h : g 7 0 2 = nI m) (hm : m < 100) (hx : ¬ F_X6_within x 0 255 = 0) : F_X7_feed g x = (nI (m + 1), wr (wr g 7 6 m x) 7 0 2 (nI (m + 1))) := by
  unfold F_X7_feed
  rw [in_w (a := 0) (b := 255) (A := 0) (B := 255) rfl rfl, if_neg hx, h, if_neg (fun q => absurd ((nI_eq (by omega) (by decide)).mp (q.trans (show (100 : Int32) = nI 100 from rfl))) (by omega)), c0 (by omega), wr_nk (t := 7) (k := 6) (t' := 7) (k' := 0) (by decide), h, nI_1, wr_ss, if_pos rfl]
theorem e_feed {n : Nat} {g : mm_g} {x1 : Int32} (hr : Rel n g) : Ok n g (F_X6_feed g x1) (fun s => F_X7_feed s x1) ∧ Fr g (F_X6_feed g x1).2 := by
  obtain ⟨m, h1, h2, h3, h4⟩ := hr.1.2.1
  by_cases c : F_X6_within x1 0 255 = 0
  · refine Ok_b hr (a := -1000001) ?_ ?_
    · unfold F_X6_feed; rw [if_pos c]
    · show F_X7_feed g x1 = _
      unfold F_X7_feed; rw [in_w (a := 0) (b := 255) (A := 0) (B := 255) rfl rfl, if_pos c]
  · by_cases c2 : m = 100
    · subst c2
      refine Ok_b hr (a := -1000003) ?_ ?_
      · unfold F_X6_feed F_X5_length; rw [if_neg c, h2, if_neg (by decide)]
      · show F_X7_feed g x1 = _
        unfold F_X7_feed; rw [in_w (a := 0) (b := 255) (A := 0) (B := 255) rfl rfl, if_neg c, h3, if_pos (show nI 100 = (100 : Int32) from rfl)]
    · refine Ok_y (a := nI (m + 1)) (g1 := wr (wr g 5 1 m x1) 5 0 0 (nI (m + 1))) (s := wr (wr (wr (wr g 5 1 m x1) 5 0 0 (nI (m + 1))) 7 6 m x1) 7 0 2 (nI (m + 1))) ?_ ?_ ?_ ?_ ?_ ?_
      · unfold F_X6_feed F_X5_length
        rw [if_neg c, h2, if_pos (show nI m < (100 : Int32) from nI_lt (a := m) (b := 100) (by omega) (by decide)), append_F h2 (by omega)]
      · exact feed7_F (by rw [wr_nk (by decide), wr_nk (by decide)]; exact h3) (by omega) c
      · exact ⟨fun k => by rw [wr_nk (fun z => absurd z.1 (by decide)), wr_nk (fun z => absurd z.1 (by decide))], by rw [wr_nk (by decide), wr_nk (by decide)], by rw [wr_nk (by decide), wr_nk (by decide)]⟩
      · intro t k h
        rw [wr_nk (fun z => h z.1), wr_nk (fun z => h z.1)]
      · obtain ⟨a1, a2, a3, a4, a5, a6, a7⟩ := hr.1
        refine ⟨a1.q (fun t k j u => by unfold uRow at u; simp only [wr_at, mw_at]; repeat rw [if_neg (by omega)]), ⟨m + 1, by omega, ?_, ?_, fun i hi => ?_⟩, a3.q (fun t k j u => by unfold uMsg at u; simp only [wr_at, mw_at]; repeat rw [if_neg (by omega)]), a4.q (fun t k j u => by unfold uNow at u; simp only [wr_at, mw_at]; repeat rw [if_neg (by omega)]), a5.q (fun t k j u => by unfold uActs at u; simp only [wr_at, mw_at]; repeat rw [if_neg (by omega)]), a6.q (fun t k j u => by unfold uImg at u; simp only [wr_at, mw_at]; repeat rw [if_neg (by omega)]), a7.q (fun t k j u => by unfold uTr at u; simp only [wr_at, mw_at]; repeat rw [if_neg (by omega)])⟩
        · rw [wr_nk (by decide), wr_nk (by decide), wr_ss, if_pos rfl]
        · rw [wr_ss, if_pos rfl]
        · simp only [wr_at]
          by_cases e : i = m
          · subst e; simp
          · have h5 := h4 i (by omega)
            simpa [e] using h5
      · simpa [wr_at] using hr.2
