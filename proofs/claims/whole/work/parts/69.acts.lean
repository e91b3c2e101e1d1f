def mn (m : Nat) : Nat := if m = 24 then 24 else m + 1
theorem nxt_a : ∀ a, a < 24 → nI a + 1 - (nI a + 1) / 24 * 24 = nI ((a + 1) % 24) := by decide +kernel
theorem nxt_m : ∀ m, m < 25 → (if nI m + 1 < 24 then nI m + 1 else 24) = nI (mn m) := by decide +kernel
theorem keep46_F {g : mm_g} {k a m : Nat} (hk : 0 ≠ k) (h0 : g 0 0 0 = nI a) (ha : a < 24) (h1 : g 0 0 1 = nI m) (hm : m ≤ 24) : F_X0_keep_46 g k 0 = wr (wr (mw g 2 k (cpy (g 2 0) (g 2 k))) 0 0 0 (nI ((a + 1) % 24))) 0 0 1 (nI (mn m)) := by
  unfold F_X0_keep_46
  rw [become_F hk, mw_n (t := 2) (k := k) (t' := 0) (k' := 0) _ _ (fun z => absurd z.1 (by decide)), h0, nxt_a a ha, wr_ss, if_neg (show ¬ (1 : Nat) = 0 by decide), mw_n (t := 2) (k := k) (t' := 0) (k' := 0) _ _ (fun z => absurd z.1 (by decide)), h1, nxt_m m (by omega)]
theorem w23 : ∀ a, a < 24 → ¬ F_X6_within (nI a) 0 23 = 0 := by decide +kernel
/-- what keeping does -/
def KpF (g s : mm_g) (a m : Nat) : Prop := (∃ f, s 2 (2 + a) = cpy (g 2 0) f) ∧ (∀ i, i ≠ a → s 0 1 i = g 0 1 i) ∧ ¬ s 0 1 a = 0 ∧ s 0 0 0 = nI ((a + 1) % 24) ∧ s 0 0 1 = nI (mn m) ∧ ∀ t k, t ≠ 0 → ¬ (t = 2 ∧ k = 2 + a) → s t k = g t k
theorem keep_F {g : mm_g} {a m : Nat} (h0 : g 0 0 0 = nI a) (ha : a < 24) (h1 : g 0 0 1 = nI m) (hm : m ≤ 24) : KpF g (F_X0_keep g 0) a m := by
  have key : ∀ g' : mm_g, g' 0 0 0 = nI a → g' 0 0 1 = nI m → g' 2 0 = g 2 0 → (∀ i, i ≠ a → g' 0 1 i = g 0 1 i) → ¬ g' 0 1 a = 0 → (∀ t k, t ≠ 0 → ¬ (t = 2 ∧ k = 2 + a) → g' t k = g t k) → KpF g (F_X0_keep_46 g' (2 + a) 0) a m := fun g' e0 e1 e2 e3 e4 e5 => by
    rw [keep46_F (by omega) e0 ha e1 hm]
    refine ⟨⟨g' 2 (2 + a), ?_⟩, fun i hi => ?_, ?_, ?_, ?_, fun t k ht hk => ?_⟩
    · rw [wr_nk (by omega), wr_nk (by omega), mw_s, e2]
    · rw [wr_nk (by decide), wr_nk (by decide), mw_n _ _ (by omega)]; exact e3 i hi
    · rw [wr_nk (by decide), wr_nk (by decide), mw_n _ _ (by omega)]; exact e4
    · rw [wr_ss, if_neg (by decide), wr_ss, if_pos rfl]
    · rw [wr_ss, if_pos rfl]
    · rw [wr_nk (fun z => ht z.1), wr_nk (fun z => ht z.1), mw_n _ _ hk]; exact e5 t k ht hk
  unfold F_X0_keep
  rw [h0, if_neg (w23 a ha), c0 (by omega)]
  by_cases z : g 0 1 a = 0
  · rw [if_pos z]
    refine key _ ?_ ?_ ?_ (fun i hi => ?_) ?_ (fun t k ht hk => ?_)
    · rw [wr_nk (by decide), mw_n _ _ (fun z => absurd z.1 (by decide))]; exact h0
    · rw [wr_nk (by decide), mw_n _ _ (fun z => absurd z.1 (by decide))]; exact h1
    · rw [wr_nk (by decide), mw_n _ _ (by omega)]
    · rw [wr_ss, if_neg hi, mw_n _ _ (fun z => absurd z.1 (by decide))]
    · rw [wr_ss, if_pos rfl]; decide
    · rw [wr_nk (fun z => ht z.1), mw_n _ _ hk]
  · rw [if_neg z]
    exact key g h0 h1 rfl (fun _ _ => rfl) z (fun _ _ _ _ => rfl)
/-- what noting does -/
def NtF (g s : mm_g) (m : Nat) : Prop := s 7 0 9 = nI (mn m) ∧ (∀ j, j < 36 → s 7 8 (36 * (mn m - 1) + j) = g 7 4 j) ∧ (∀ i j, i < mn m - 1 → j < 36 → s 7 8 (36 * i + j) = g 7 8 (36 * (if m = 24 then i + 1 else i) + j)) ∧ (∀ t k, t ≠ 7 → s t k = g t k) ∧ (∀ k, k ≠ 0 → k ≠ 8 → s 7 k = g 7 k) ∧ ∀ j, j ≠ 9 → s 7 0 j = g 7 0 j
theorem note_F {g : mm_g} {m : Nat} (h : g 7 0 9 = nI m) (hm : m ≤ 24) : NtF g (F_X7_note g) m := by
  unfold F_X7_note
  by_cases z : m = 24
  · subst z
    rw [if_pos (by rw [h]; rfl), L_note11 _ 0 g (by decide) (by decide)]
    have e9 : wr (mw g 7 8 (fun i => if 0 ≤ i ∧ i < 828 then g 7 8 (i + 36) else g 7 8 i)) 7 0 9 (mw g 7 8 (fun i => if 0 ≤ i ∧ i < 828 then g 7 8 (i + 36) else g 7 8 i) 7 0 9 - 1) 7 0 9 = nI 23 := by
      rw [wr_ss, if_pos rfl, mw_n (t := 7) (k := 8) (t' := 7) (k' := 0) _ _ (by decide), h]
      decide
    rw [L_note51 (m := 23) (by decide) _ 0 _ e9 (by decide) (by decide)]
    generalize hS : wr (mw g 7 8 (fun i => if 0 ≤ i ∧ i < 828 then g 7 8 (i + 36) else g 7 8 i)) 7 0 9 (mw g 7 8 (fun i => if 0 ≤ i ∧ i < 828 then g 7 8 (i + 36) else g 7 8 i) 7 0 9 - 1) = S at e9 ⊢
    have s4 : S 7 4 = g 7 4 := by rw [← hS, wr_nk (by decide), mw_n _ _ (by decide)]
    have s8 : ∀ i, S 7 8 i = if 0 ≤ i ∧ i < 828 then g 7 8 (i + 36) else g 7 8 i := fun i => by rw [← hS, wr_nk (by decide), mw_s]
    refine ⟨?_, fun j hj => ?_, fun i j hi hj => ?_, fun t k ht => ?_, fun k k0 k8 => ?_, fun j hj => ?_⟩
    · show wr (mw S 7 8 _) 7 0 9 (mw S 7 8 _ 7 0 9 + 1) 7 0 9 = _
      rw [wr_ss, if_pos rfl, mw_n (t := 7) (k := 8) (t' := 7) (k' := 0) _ _ (by decide), e9]
      decide
    · show wr (mw S 7 8 _) 7 0 9 _ 7 8 (36 * (24 - 1) + j) = _
      rw [wr_nk (by decide), mw_s, if_pos (by omega), s4]
      refine congrArg (g 7 4) ?_
      omega
    · have hi2 : i < 23 := hi
      show wr (mw S 7 8 _) 7 0 9 _ 7 8 (36 * i + j) = _
      rw [wr_nk (by decide), mw_s, if_neg (by omega), s8, if_pos (by omega), if_pos rfl]
      refine congrArg (g 7 8) ?_
      omega
    · show wr (mw S 7 8 _) 7 0 9 _ t k = _
      rw [wr_nk (fun z => ht z.1), mw_n _ _ (fun z => ht z.1), ← hS, wr_nk (fun z => ht z.1), mw_n _ _ (fun z => ht z.1)]
    · show wr (mw S 7 8 _) 7 0 9 _ 7 k = _
      rw [wr_nk (fun z => k0 z.2), mw_n _ _ (fun z => k8 z.2), ← hS, wr_nk (fun z => k0 z.2), mw_n _ _ (fun z => k8 z.2)]
    · show wr (mw S 7 8 _) 7 0 9 _ 7 0 j = _
      rw [wr_ss, if_neg hj, mw_n (t := 7) (k := 8) (t' := 7) (k' := 0) _ _ (by decide), ← hS, wr_ss, if_neg hj, mw_n (t := 7) (k := 8) (t' := 7) (k' := 0) _ _ (by decide)]
  · have hn : ¬ g 7 0 9 = 24 := fun q => z ((nI_eq (a := m) (b := 24) (by omega) (by decide)).mp (h.symm.trans q))
    have em : mn m = m + 1 := if_neg z
    rw [if_neg hn, L_note51 (m := m) (by omega) _ 0 g h (by decide) (by decide)]
    refine ⟨?_, fun j hj => ?_, fun i j hi hj => ?_, fun t k ht => ?_, fun k k0 k8 => ?_, fun j hj => ?_⟩
    · show wr (mw g 7 8 _) 7 0 9 (mw g 7 8 _ 7 0 9 + 1) 7 0 9 = _
      rw [wr_ss, if_pos rfl, mw_n (t := 7) (k := 8) (t' := 7) (k' := 0) _ _ (by decide), h, nI_1, em]
    · show wr (mw g 7 8 _) 7 0 9 _ 7 8 (36 * (mn m - 1) + j) = _
      rw [em, wr_nk (by decide), mw_s, if_pos (by omega)]
      refine congrArg (g 7 4) ?_
      omega
    · rw [em] at hi
      show wr (mw g 7 8 _) 7 0 9 _ 7 8 (36 * i + j) = _
      rw [wr_nk (by decide), mw_s, if_neg (by omega), if_neg z]
    · show wr (mw g 7 8 _) 7 0 9 _ t k = _
      rw [wr_nk (fun z => ht z.1), mw_n _ _ (fun z => ht z.1)]
    · show wr (mw g 7 8 _) 7 0 9 _ 7 k = _
      rw [wr_nk (fun z => k0 z.2), mw_n _ _ (fun z => k8 z.2)]
    · show wr (mw g 7 8 _) 7 0 9 _ 7 0 j = _
      rw [wr_ss, if_neg hj, mw_n (t := 7) (k := 8) (t' := 7) (k' := 0) _ _ (by decide)]
/-- flats and acts, the class' in one memory, the reference's in another -/
def AA (n : Nat) (gc gr : mm_g) : Prop := (Vd (gc 2 0) ∧ Ct n (gc 2 0) ∧ EqF (gc 2 0) (gr 7 4) ∧ 1 ≤ nb (gc 2 0)) ∧ ∃ a m : Nat, a < 24 ∧ m ≤ 24 ∧ gc 0 0 0 = nI a ∧ gc 0 0 1 = nI m ∧ gr 7 0 9 = nI m ∧ ∀ i, i < m → ¬ gc 0 1 (slot a m i) = 0 ∧ FOK n (gc 2 (2 + slot a m i)) (fun j => gr 7 8 (36 * i + j))
theorem AA_keep {n : Nat} {gc gr : mm_g} (h : AA n gc gr) : AA n (F_X0_keep gc 0) (F_X7_note gr) := by
  obtain ⟨⟨v, c, e, b⟩, a, m, ha, hm, h0, h1, h9, hI⟩ := h
  obtain ⟨⟨f, k1⟩, k2, k3, k4, k5, k6⟩ := keep_F h0 ha h1 hm
  obtain ⟨t1, t2, t3, t4, t5, t6⟩ := note_F h9 hm
  have f20 : F_X0_keep gc 0 2 0 = gc 2 0 := k6 2 0 (by decide) (by omega)
  have f74 : F_X7_note gr 7 4 = gr 7 4 := t5 4 (by decide) (by decide)
  have hmn : mn m ≤ 24 ∧ 0 < mn m := by unfold mn; split <;> omega
  refine ⟨⟨by rw [f20]; exact v, by rw [f20]; exact c, by rw [f20, f74]; exact e, by rw [f20]; exact b⟩, (a + 1) % 24, mn m, Nat.mod_lt _ (by decide), hmn.1, k4, k5, t1, fun i hi => ?_⟩
  by_cases z : i = mn m - 1
  · have es : slot ((a + 1) % 24) (mn m) i = a := by unfold slot; omega
    rw [es, k1]
    refine ⟨k3, (cpy_eq v.n9).vd v, (cpy_eq v.n9).ct c, ?_, by rw [(cpy_eq v.n9).nb]; exact b⟩
    refine EqF_far ((cpy_eq v.n9).symm.trans e) (by rw [(cpy_eq (f2 := f) v.n9).nb]; exact v.n9) (fun j hj => ?_)
    show F_X7_note gr 7 8 (36 * i + j) = _
    rw [z]
    exact t2 j hj
  · by_cases q : m = 24
    · have em : mn m = 24 := if_pos q
      have es : slot ((a + 1) % 24) (mn m) i = slot a m (i + 1) := by unfold slot; rw [em, q]; omega
      have hne : slot a m (i + 1) ≠ a := by unfold slot; rw [q]; omega
      obtain ⟨y1, y2⟩ := hI (i + 1) (by omega)
      rw [es, k2 _ hne, k6 2 _ (by decide) (by omega)]
      refine ⟨y1, y2.1, y2.2.1, EqF_far y2.2.2.1 y2.1.n9 (fun j hj => ?_), y2.2.2.2⟩
      show F_X7_note gr 7 8 (36 * i + j) = _
      rw [t3 i j (by omega) hj, if_pos q]
    · have em : mn m = m + 1 := if_neg q
      have es : slot ((a + 1) % 24) (mn m) i = slot a m i := by unfold slot; rw [em]; omega
      have hne : slot a m i ≠ a := by unfold slot; omega
      obtain ⟨y1, y2⟩ := hI i (by omega)
      rw [es, k2 _ hne, k6 2 _ (by decide) (by omega)]
      refine ⟨y1, y2.1, y2.2.1, EqF_far y2.2.2.1 y2.1.n9 (fun j hj => ?_), y2.2.2.2⟩
      show F_X7_note gr 7 8 (36 * i + j) = _
      rw [t3 i j (by omega) hj, if_neg q]
theorem AA_mod {n n2 : Nat} {gc gr : mm_g} {f f2 : Fl} (h : AA n gc gr) (hn : n ≤ n2) (v : Vd f) (c : Ct n2 f) (e : EqF f f2) (b : 1 ≤ nb f) : AA n2 (mw gc 2 0 f) (mw gr 7 4 f2) := by
  obtain ⟨_, a, m, ha, hm, h0, h1, h9, hI⟩ := h
  refine ⟨⟨by rw [mw_s]; exact v, by rw [mw_s]; exact c, by rw [mw_s, mw_s]; exact e, by rw [mw_s]; exact b⟩, a, m, ha, hm, ?_, ?_, ?_, fun i hi => ?_⟩
  · rw [mw_n _ _ (by decide)]; exact h0
  · rw [mw_n _ _ (by decide)]; exact h1
  · rw [mw_n _ _ (by decide)]; exact h9
  · obtain ⟨y1, y2⟩ := hI i hi
    rw [mw_n _ _ (by decide), mw_n (t := 2) (k := 0) _ _ (by omega), mw_n (t := 7) (k := 4) (t' := 7) (k' := 8) _ _ (by decide)]
    exact ⟨y1, y2.up hn⟩
/-- the class' part of an act changes no more -/
def KC (g gc : mm_g) : Prop := ∀ t k, t ≠ 0 → ¬ (t = 2 ∧ k ≠ 1 ∧ k < 26) → gc t k = g t k
def KR (g s : mm_g) : Prop := (∀ t k, t ≠ 7 → s t k = g t k) ∧ ∀ k j, sees7 k j → k ≠ 4 → k ≠ 8 → ¬ (k = 0 ∧ j = 9) → s 7 k j = g 7 k j
theorem KC_t {g g2 g3 : mm_g} (h : KC g g2) (h2 : KC g2 g3) : KC g g3 := fun t k a b => (h2 t k a b).trans (h t k a b)
theorem KR_t {g g2 g3 : mm_g} (h : KR g g2) (h2 : KR g2 g3) : KR g g3 := ⟨fun t k a => (h2.1 t k a).trans (h.1 t k a), fun k j a b c d => (h2.2 k j a b c d).trans (h.2 k j a b c d)⟩
theorem KC_m {g : mm_g} {f : Fl} : KC g (mw g 2 0 f) := fun t k _ b => mw_n _ _ (fun z => b ⟨z.1, by omega, by omega⟩)
theorem KR_m {g : mm_g} {f : Fl} : KR g (mw g 7 4 f) := ⟨fun t k a => mw_n _ _ (fun z => a z.1), fun k j _ b _ _ => by rw [mw_n _ _ (fun z => b z.2)]⟩
theorem KC_k {n : Nat} {gc gr : mm_g} (h : AA n gc gr) : KC gc (F_X0_keep gc 0) := by
  obtain ⟨_, a, m, ha, hm, h0, h1, h9, hI⟩ := h
  exact fun t k x y => (keep_F h0 ha h1 hm).2.2.2.2.2 t k x (fun z => y ⟨z.1, by omega, by omega⟩)
theorem KR_n {n : Nat} {gc gr : mm_g} (h : AA n gc gr) : KR gr (F_X7_note gr) := by
  obtain ⟨_, a, m, ha, hm, h0, h1, h9, hI⟩ := h
  obtain ⟨t1, t2, t3, t4, t5, t6⟩ := note_F h9 hm
  refine ⟨t4, fun k j x y z w => ?_⟩
  by_cases k0 : k = 0
  · subst k0
    exact t6 j (fun q => w ⟨rfl, q⟩)
  · rw [t5 k k0 z]
theorem AA_0 {n : Nat} {g gr : mm_g} (h : Rl n g) (h0 : 1 ≤ nb (g 2 0)) (e : ∀ k, gr 7 k = g 7 k) : AA n g gr := by
  obtain ⟨a, m, h1, h2, h3, h4, h5, h6, h7⟩ := h.2.2.2.2.1
  have hw := h.2.2.2.1
  refine ⟨⟨hw.1, hw.2.1, by rw [e]; exact hw.2.2.1, h0⟩, a, m, h1, h2, h3, h4, by rw [e]; exact h5, fun i hi => ?_⟩
  rw [e]
  exact h7 i hi
theorem KR_p {g s : mm_g} (q : KR g s) {t k j : Nat} (h : t = 7 → sees7 k j ∧ k ≠ 4 ∧ k ≠ 8 ∧ ¬ (k = 0 ∧ j = 9)) : s t k j = g t k j := by
  by_cases e : t = 7
  · subst e
    have h2 := h rfl
    exact q.2 k j h2.1 h2.2.1 h2.2.2.1 h2.2.2.2
  · exact congrFun (q.1 t k e) j
theorem Rl_act {n n2 : Nat} {g gc s : mm_g} (h : Rl n g) (hn : n ≤ n2) (h0 : 1 ≤ nb (g 2 0)) (q1 : KC g gc) (q2 : KR gc s) (hA : AA n2 gc s) : Rl n2 s := by
  obtain ⟨h1, h2, h3, h4, h5, h6, h7⟩ := h
  have hp : ∀ t k j, t ≠ 0 → ¬ (t = 2 ∧ k ≠ 1 ∧ k < 26) → (t = 7 → sees7 k j ∧ k ≠ 4 ∧ k ≠ 8 ∧ ¬ (k = 0 ∧ j = 9)) → s t k j = g t k j := fun t k j a b c => (KR_p q2 c).trans (congrFun (q1 t k a b) j)
  have e20 : s 2 0 = gc 2 0 := q2.1 2 0 (by decide)
  obtain ⟨⟨v, c, e, b⟩, a, m, ha, hm, g0, g1, g9, hI⟩ := hA
  refine ⟨h1.q (fun t k j u => ?_), h2.q (fun t k j u => ?_), h3.q (fun t k j u => ?_), ?_, ?_, fun k hk => ?_, h7.q (fun t k j u => ?_)⟩
  · unfold uRow at u; exact hp t k j (by omega) (by omega) (fun _ => by unfold sees7; omega)
  · unfold uTape at u; exact hp t k j (by omega) (by omega) (fun _ => by unfold sees7; omega)
  · unfold uMsg at u; exact hp t k j (by omega) (by omega) (fun _ => by unfold sees7; omega)
  · refine ⟨by rw [e20]; exact v, by rw [e20]; exact c, by rw [e20]; exact e, ?_⟩
    rw [e20, if_pos b, hp 7 0 1 (by decide) (by decide) (fun _ => by unfold sees7; omega), h4.2.2.2, if_pos h0]
  · refine ⟨a, m, ha, hm, by rw [q2.1 0 0 (by decide)]; exact g0, by rw [q2.1 0 0 (by decide)]; exact g1, g9, fun _ => by rw [e20]; exact b, fun i hi => ?_⟩
    rw [q2.1 0 1 (by decide), q2.1 2 _ (by decide)]
    exact hI i hi
  · obtain ⟨y1, y2⟩ := h6 k hk
    have e61 : s 6 1 k = g 6 1 k := hp 6 1 k (by decide) (by decide) (fun z => absurd z (by decide))
    have e26 : s 2 (26 + k) = g 2 (26 + k) := funext fun j => hp 2 (26 + k) j (by decide) (by omega) (fun z => absurd z (by decide))
    have e10 : s 7 10 k = g 7 10 k := hp 7 10 k (by decide) (by decide) (fun _ => by unfold sees7; omega)
    have e11 : s 7 11 = g 7 11 := funext fun j => hp 7 11 j (by decide) (by decide) (fun _ => by unfold sees7; omega)
    rw [e61, e10, e26, e11, e20]
    exact ⟨y1, fun z => ⟨b, (y2 z).2.up hn⟩⟩
  · unfold uTr at u; exact hp t k j (by omega) (by omega) (fun _ => by unfold sees7; omega)
/-- an act of both: kept, then the flat as it becomes -/
theorem Ok_act {n : Nat} {g gc s : mm_g} {a : Int32} {R : Int32 × mm_g} {Q : mm_g → Int32 × mm_g} (hr : Rel n g) (h0 : 1 ≤ nb (g 2 0)) (hR : R = (a, gc)) (hQ : Q gc = (a, s)) (q1 : KC g gc) (q2 : KR gc s) (hA : AA (n + 1) gc s) : Ok n g R Q := by
  subst hR
  refine ⟨fun k => q1 7 k (by decide) (by omega), ?_, ?_, ?_⟩
  · show (Q gc).1 = a
    rw [hQ]
  · show Rel (n + 1) (Q gc).2
    rw [hQ]
    refine ⟨Rl_act hr.1 (Nat.le_succ n) h0 q1 q2 hA, ?_⟩
    show s 6 0 1 = s 7 0 0
    rw [q2.1 6 0 (by decide), q1 6 0 (by decide) (by decide), q2.2 0 0 (by unfold sees7; omega) (by decide) (by decide) (by decide), q1 7 0 (by decide) (by decide)]
    exact hr.2
  · show ∀ t k, t ≠ 7 → (Q gc).2 t k = gc t k
    rw [hQ]
    exact q2.1
theorem keep_20 {n : Nat} {gc gr : mm_g} (h : AA n gc gr) : F_X0_keep gc 0 2 0 = gc 2 0 := by
  obtain ⟨_, a, m, ha, hm, h0, h1, h9, hI⟩ := h
  exact (keep_F h0 ha h1 hm).2.2.2.2.2 2 0 (by decide) (by omega)
theorem note_74 {n : Nat} {gc gr : mm_g} (h : AA n gc gr) : F_X7_note gr 7 4 = gr 7 4 := by
  obtain ⟨_, a, m, ha, hm, h0, h1, h9, hI⟩ := h
  exact (note_F h9 hm).2.2.2.2.1 4 (by decide) (by decide)
theorem Ok_mod {n : Nat} {g : mm_g} {a : Int32} {f : Fl} {F2 : Fl → Fl} {R : Int32 × mm_g} {Q : mm_g → Int32 × mm_g} (hr : Rel n g) (h0 : 1 ≤ nb (g 2 0)) (hR : R = (a, mw (F_X0_keep g 0) 2 0 f)) (hQ : ∀ gc, (∀ k, gc 7 k = g 7 k) → Q gc = (a, mw (F_X7_note gc) 7 4 (F2 (g 7 4)))) (v : Vd f) (c : Ct (n + 1) f) (e : EqF f (F2 (g 7 4))) (b : 1 ≤ nb f) : Ok n g R Q := by
  have A0 := AA_0 (gr := g) hr.1 h0 (fun _ => rfl)
  have k1 : KC g (mw (F_X0_keep g 0) 2 0 f) := KC_t (KC_k A0) KC_m
  have e7 : ∀ k, mw (F_X0_keep g 0) 2 0 f 7 k = g 7 k := fun k => k1 7 k (by decide) (by omega)
  have A1 := AA_0 (gr := mw (F_X0_keep g 0) 2 0 f) hr.1 h0 e7
  exact Ok_act hr h0 hR (hQ _ e7) k1 (KR_t (KR_n A1) KR_m) (AA_mod (AA_keep A1) (Nat.le_succ n) v c e b)
theorem has_nb {f : Fl} {x : Int32} (v : Vd f) (h : ¬ hasF f x = 0) : 1 ≤ nb f := by
  obtain ⟨b, hb, _⟩ := (hasF_iff v).mp h
  omega
theorem bed_7 {n : Nat} {g s : mm_g} {x : Int32} (hr : Rel n g) (h : ∀ k, s 7 k = g 7 k) : F_X7_isBed s x = hasF (g 2 0) x := by
  rw [← no_bed hr]
  unfold F_X7_isBed
  rw [h]
/-! rake, rain, veto, stand -/
theorem e_rake {n : Nat} {g : mm_g} {x1 x2 : Int32} (hn : n ≤ 1000) (hr : Rel n g) : Ok n g (F_X6_rake g x1 x2) (fun s => F_X7_rake s x1 x2) := by
  have hv := hr.now.1
  have he := hr.now.2.2.1
  have h9 := hv.n9
  by_cases q1 : hasF (g 2 0) x1 = 0
  · refine (Ok_b hr (a := -1000001) ?_ ?_).1
    · unfold F_X6_rake; rw [no_bed2 hr, if_pos q1]
    · show F_X7_rake g x1 x2 = _
      unfold F_X7_rake; rw [no_bed hr, if_pos q1]
  · by_cases q2 : F_X6_within x2 1 99 = 0
    · refine (Ok_b hr (a := -1000001) ?_ ?_).1
      · unfold F_X6_rake; rw [no_bed2 hr, if_neg q1, if_pos q2]
      · show F_X7_rake g x1 x2 = _
        unfold F_X7_rake; rw [no_bed hr, if_neg q1, in_w (a := 1) (b := 99) (A := 1) (B := 99) rfl rfl, if_pos q2]
    · have h0 := has_nb hv q1
      obtain ⟨b, hb, e⟩ := (hasF_iff hv).mp q1
      subst e
      have hB := he.bed b hb
      by_cases q3 : vetoF (g 2 0) b = 0
      · by_cases q4 : x2 ≤ g 2 0 (18 + b)
        · have h2 := within_iff.mp q2
          have e1 : (1 : Int32).toInt = 1 := rfl
          have e99 : (99 : Int32).toInt = 99 := rfl
          obtain ⟨m, hm, em⟩ := nI_ofT (x := x2) (m := 99) (by omega)
          subst em
          have hS := (hv.bed b hb).2.1
          have h5 : (m : Int) ≤ (g 2 0 (18 + b)).toInt := by
            rw [toI_le, nI_toInt (by omega)] at q4
            exact q4
          have A0 := AA_0 (gr := g) hr.1 h0 (fun _ => rfl)
          have k20 := keep_20 A0
          refine Ok_mod (f := rakeF (g 2 0) b (nI m)) (F2 := fun h => rakeF h b (nI m)) (a := 3 * nI m / 4) hr h0 ?_ (fun gc e7 => ?_) (rake_vd hv hb (by omega) h5) (rake_ct hr.now.2.1 (by omega) hn) (rake_eq he hb) (by rw [rake_nb]; exact h0)
          · unfold F_X6_rake
            rw [no_bed2 hr, if_neg q1, if_neg q2, hasVeto_F hv hb, if_pos q3, stockOf_F hv hb, if_pos q4, rake_F (by rw [k20]; exact hv) (by rw [k20]; exact hb), k20]
          · have A1 := AA_0 (gr := gc) hr.1 h0 e7
            unfold F_X7_rake
            rw [bed_7 hr e7, if_neg q1, in_w (a := 1) (b := 99) (A := 1) (B := 99) rfl rfl, if_neg q2, hasVeto7_F, e7, vetoF_eq he, if_pos q3, c18 (by omega), ← hB.2.1, if_pos q4, rake7_F (by omega), note_74 A1, e7]
        · refine (Ok_b hr (a := -1000002) ?_ ?_).1
          · unfold F_X6_rake; rw [no_bed2 hr, if_neg q1, if_neg q2, hasVeto_F hv hb, if_pos q3, stockOf_F hv hb, if_neg q4]
          · show F_X7_rake g (nI b) x2 = _
            unfold F_X7_rake; rw [no_bed hr, if_neg q1, in_w (a := 1) (b := 99) (A := 1) (B := 99) rfl rfl, if_neg q2, hasVeto7_F, vetoF_eq he, if_pos q3, c18 (by omega), ← hB.2.1, if_neg q4]
      · refine (Ok_b hr (a := -1000002) ?_ ?_).1
        · unfold F_X6_rake; rw [no_bed2 hr, if_neg q1, if_neg q2, hasVeto_F hv hb, if_neg q3]
        · show F_X7_rake g (nI b) x2 = _
          unfold F_X7_rake; rw [no_bed hr, if_neg q1, in_w (a := 1) (b := 99) (A := 1) (B := 99) rfl rfl, if_neg q2, hasVeto7_F, vetoF_eq he, if_neg q3]
theorem ct_low {n : Nat} {f f2 : Fl} (c : Ct n f) (h : ∀ i, i < 3 → f2 (6 + i) = f (6 + i)) : Ct (n + 1) f2 := fun i hi => by
  have h1 := c i hi
  rw [h i hi]
  omega
theorem e_rain {n : Nat} {g : mm_g} {x1 x2 : Int32} (hr : Rel n g) : Ok n g (F_X6_rain g x1 x2) (fun s => F_X7_rain s x1 x2) := by
  have hv := hr.now.1
  have he := hr.now.2.2.1
  have h9 := hv.n9
  by_cases q1 : hasF (g 2 0) x1 = 0
  · refine (Ok_b hr (a := -1000001) ?_ ?_).1
    · unfold F_X6_rain; rw [no_bed2 hr, if_pos q1]
    · show F_X7_rain g x1 x2 = _
      unfold F_X7_rain; rw [no_bed hr, if_pos q1]
  · by_cases q2 : F_X6_within x2 0 9 = 0
    · refine (Ok_b hr (a := -1000001) ?_ ?_).1
      · unfold F_X6_rain; rw [no_bed2 hr, if_neg q1, if_pos q2]
      · show F_X7_rain g x1 x2 = _
        unfold F_X7_rain; rw [no_bed hr, if_neg q1, in_w (a := 0) (b := 9) (A := 0) (B := 9) rfl rfl, if_pos q2]
    · have h0 := has_nb hv q1
      obtain ⟨b, hb, e⟩ := (hasF_iff hv).mp q1
      subst e
      obtain ⟨w, hw, e⟩ := within_nI (n := 9) (by decide) q2
      subst e
      have hB := he.bed b hb
      have A0 := AA_0 (gr := g) hr.1 h0 (fun _ => rfl)
      have k20 := keep_20 A0
      refine Ok_mod (f := upd (g 2 0) (27 + b) (nI w)) (F2 := fun h => upd h (27 + b) (nI w)) (a := g 2 0 (27 + b)) hr h0 ?_ (fun gc e7 => ?_) (warm_vd hv hw) (ct_low hr.now.2.1 (fun i hi => by rw [upd, if_neg (by omega)])) (warm_eq he) (by rw [upd_nb (by omega)]; exact h0)
      · unfold F_X6_rain
        rw [no_bed2 hr, if_neg q1, if_neg q2, warmOf_F hv hb, warmTo_F (by rw [k20]; exact hv) (by rw [k20]; exact hb), k20]
      · have A1 := AA_0 (gr := gc) hr.1 h0 e7
        unfold F_X7_rain
        rw [bed_7 hr e7, if_neg q1, in_w (a := 0) (b := 9) (A := 0) (B := 9) rfl rfl, if_neg q2, c27 (by omega), note_74 A1, e7, ← hB.2.2]
        show (_, mw (F_X7_note gc) 7 4 (upd (F_X7_note gc 7 4) (27 + b) (nI w))) = _
        rw [note_74 A1, e7]
theorem e_stand {n : Nat} {g : mm_g} {x1 x2 : Int32} (hr : Rel n g) : Ok n g (F_X6_stand g x1 x2) (fun s => F_X7_stand s x1 x2) := by
  have hv := hr.now.1
  have he := hr.now.2.2.1
  by_cases q1 : nb (g 2 0) = 0
  · refine (Ok_b hr (a := -1000002) ?_ ?_).1
    · unfold F_X6_stand; rw [if_neg (fun z => (isN_2 hr).mp z q1)]
    · show F_X7_stand g x1 x2 = _
      unfold F_X7_stand; rw [if_pos ((there_2 hr).mpr q1)]
  · have q1b : ¬ g 7 0 1 = 0 := fun z => q1 ((there_2 hr).mp z)
    by_cases q2 : F_X6_within x1 0 1 = 0
    · refine (Ok_b hr (a := -1000001) ?_ ?_).1
      · unfold F_X6_stand; rw [if_pos ((isN_2 hr).mpr q1), isOne_within, if_pos q2]
      · show F_X7_stand g x1 x2 = _
        unfold F_X7_stand; rw [if_neg q1b, isWho_within, if_pos q2]
    · by_cases q3 : F_X6_within x2 0 8 = 0
      · refine (Ok_b hr (a := -1000001) ?_ ?_).1
        · unfold F_X6_stand; rw [if_pos ((isN_2 hr).mpr q1), isOne_within, if_neg q2, if_pos q3]
        · show F_X7_stand g x1 x2 = _
          unfold F_X7_stand; rw [if_neg q1b, isWho_within, if_neg q2, in_w (a := 0) (b := 8) (A := 0) (B := 8) rfl rfl, if_pos q3]
      · have hw := two_cases q2
        have h0 : 1 ≤ nb (g 2 0) := by omega
        obtain ⟨j, hj, e⟩ := within_nI (n := 8) (by decide) q3
        subst e
        have A0 := AA_0 (gr := g) hr.1 h0 (fun _ => rfl)
        have k20 := keep_20 A0
        refine Ok_mod (f := cellF (g 2 0) x1 (nI j)) (F2 := fun h => cellF h x1 (nI j)) (a := g 2 0 (1 + x1).toNatClampNeg) hr h0 ?_ (fun gc e7 => ?_) (cell_vd hw (by omega) hv) (ct_low hr.now.2.1 (fun i hi => ?_)) (cell_eq hw he) (by rw [cell_nb hw]; exact h0)
        · unfold F_X6_stand
          rw [if_pos ((isN_2 hr).mpr q1), isOne_within, if_neg q2, if_neg q3, stand_F hw, k20]
          rcases c1w hw with ⟨y1, y2⟩ | ⟨y1, y2⟩
          · rw [y1, if_pos y2]
          · rw [y1, if_neg (by rw [y2]; decide)]
        · have A1 := AA_0 (gr := gc) hr.1 h0 e7
          have hc : gc 7 4 (1 + x1).toNatClampNeg = g 2 0 (1 + x1).toNatClampNeg := by
            rw [e7]
            rcases c1w hw with ⟨y1, y2⟩ | ⟨y1, y2⟩ <;> rw [y1]
            · exact (he.lo 1 (by decide)).symm
            · exact (he.lo 2 (by decide)).symm
          unfold F_X7_stand
          rw [e7, if_neg q1b, isWho_within, if_neg q2, in_w (a := 0) (b := 8) (A := 0) (B := 8) rfl rfl, if_neg q3, note_74 A1, hc]
          show (_, mw (F_X7_note gc) 7 4 (cellF (F_X7_note gc 7 4) x1 (nI j))) = _
          rw [note_74 A1, e7]
        · unfold cellF
          rcases c1w hw with ⟨y1, y2⟩ | ⟨y1, y2⟩ <;> rw [y1, upd, if_neg (by omega)]
theorem e_veto {n : Nat} {g : mm_g} {x1 x2 : Int32} (hr : Rel n g) : Ok n g (F_X6_veto g x1 x2) (fun s => F_X7_veto s x1 x2) := by
  have hv := hr.now.1
  have he := hr.now.2.2.1
  have h9 := hv.n9
  by_cases q1 : hasF (g 2 0) x1 = 0
  · refine (Ok_b hr (a := -1000001) ?_ ?_).1
    · unfold F_X6_veto; rw [no_bed2 hr, if_pos q1]
    · show F_X7_veto g x1 x2 = _
      unfold F_X7_veto; rw [no_bed hr, if_pos q1]
  · by_cases q2 : F_X6_within x2 0 1 = 0
    · refine (Ok_b hr (a := -1000001) ?_ ?_).1
      · unfold F_X6_veto; rw [no_bed2 hr, if_neg q1, if_pos q2]
      · show F_X7_veto g x1 x2 = _
        unfold F_X7_veto; rw [no_bed hr, if_neg q1, in_w (a := 0) (b := 1) (A := 0) (B := 1) rfl rfl, if_pos q2]
    · have h0 := has_nb hv q1
      obtain ⟨b, hb, e⟩ := (hasF_iff hv).mp q1
      subst e
      have A0 := AA_0 (gr := g) hr.1 h0 (fun _ => rfl)
      have k20 := keep_20 A0
      have hh : F_X2_has (F_X0_keep g 0) 0 (nI b) = 1 := by rw [has_F (by rw [k20]; exact hv), hasF_nI (by rw [k20]; exact hv) (by rw [k20]; exact hb)]
      have eT : F_X2_turnVeto (F_X0_keep g 0) 0 (nI b) = mw (F_X0_keep g 0) 2 0 (tgl (g 2 0) b) := by
        unfold F_X2_turnVeto
        rw [hh, if_neg (by decide)]
        show mw (F_X0_keep g 0) 2 0 (upd (F_X0_keep g 0 2 0) 5 (F_X0_keep g 0 2 0 5 ^^^ _)) = _
        rw [k20]
        rfl
      have vt : Vd (tgl (g 2 0) b) := upd5_vd hv
      have et : EqF (tgl (g 2 0) b) (tgl (g 7 4) b) := by
        unfold tgl
        rw [← he.lo 5 (by decide)]
        exact upd_eq he (by decide) (by decide)
      have go : ∀ R Q, R = (tgl (g 2 0) b 5, F_X2_turnVeto (F_X0_keep g 0) 0 (nI b)) → (∀ gc, (∀ k, gc 7 k = g 7 k) → Q gc = (wr (F_X7_note gc) 7 4 5 (F_X7_note gc 7 4 5 ^^^ ((1 : Int32) <<< (nI b &&& 31))) 7 4 5, wr (F_X7_note gc) 7 4 5 (F_X7_note gc 7 4 5 ^^^ ((1 : Int32) <<< (nI b &&& 31))))) → Ok n g R Q := fun R Q hR hQ => by
        refine Ok_mod (f := tgl (g 2 0) b) (F2 := fun h => tgl h b) (a := tgl (g 2 0) b 5) hr h0 (by rw [hR, eT]) (fun gc e7 => ?_) vt (ct_low hr.now.2.1 (fun i hi => tgl_o (by omega))) et (by rw [tgl_nb]; exact h0)
        have A1 := AA_0 (gr := gc) hr.1 h0 e7
        rw [hQ gc e7]
        have eW : wr (F_X7_note gc) 7 4 5 (F_X7_note gc 7 4 5 ^^^ ((1 : Int32) <<< (nI b &&& 31))) = mw (F_X7_note gc) 7 4 (tgl (g 7 4) b) := by
          show mw (F_X7_note gc) 7 4 (tgl (F_X7_note gc 7 4) b) = _
          rw [note_74 A1, e7]
        rw [eW, mw_s, et.lo 5 (by decide)]
      have e75 : F_X2_turnVeto (F_X0_keep g 0) 0 (nI b) 2 0 5 = tgl (g 2 0) b 5 := by rw [eT, mw_s]
      by_cases q3 : x2 = 1
      · by_cases q4 : vetoF (g 2 0) b = 1
        · refine (Ok_b hr (a := -1000002) ?_ ?_).1
          · unfold F_X6_veto; rw [no_bed2 hr, if_neg q1, if_neg q2, if_pos q3, hasVeto_F hv hb, if_pos q4]
          · show F_X7_veto g (nI b) x2 = _
            unfold F_X7_veto; rw [no_bed hr, if_neg q1, in_w (a := 0) (b := 1) (A := 0) (B := 1) rfl rfl, if_neg q2, if_pos q3, hasVeto7_F, vetoF_eq he, if_pos q4]
        · refine go _ _ ?_ (fun gc e7 => ?_)
          · unfold F_X6_veto; rw [no_bed2 hr, if_neg q1, if_neg q2, if_pos q3, hasVeto_F hv hb, if_neg q4, e75]
          · unfold F_X7_veto; rw [bed_7 hr e7, if_neg q1, in_w (a := 0) (b := 1) (A := 0) (B := 1) rfl rfl, if_neg q2, if_pos q3, hasVeto7_F, e7, vetoF_eq he, if_neg q4]
      · by_cases q4 : vetoF (g 2 0) b = 0
        · refine (Ok_b hr (a := -1000002) ?_ ?_).1
          · unfold F_X6_veto; rw [no_bed2 hr, if_neg q1, if_neg q2, if_neg q3, hasVeto_F hv hb, if_pos q4]
          · show F_X7_veto g (nI b) x2 = _
            unfold F_X7_veto; rw [no_bed hr, if_neg q1, in_w (a := 0) (b := 1) (A := 0) (B := 1) rfl rfl, if_neg q2, if_neg q3, hasVeto7_F, vetoF_eq he, if_pos q4]
        · refine go _ _ ?_ (fun gc e7 => ?_)
          · unfold F_X6_veto; rw [no_bed2 hr, if_neg q1, if_neg q2, if_neg q3, hasVeto_F hv hb, if_neg q4, e75]
          · unfold F_X7_veto; rw [bed_7 hr e7, if_neg q1, in_w (a := 0) (b := 1) (A := 0) (B := 1) rfl rfl, if_neg q2, if_neg q3, hasVeto7_F, e7, vetoF_eq he, if_neg q4]
/-! tides -/
theorem AA_tide {n : Nat} {gc gr : mm_g} (h : AA n gc gr) : AA n (F_X2_flow (F_X0_keep gc 0) 0) (F_X7_oneTide (F_X7_note gr)) ∧ KC gc (F_X2_flow (F_X0_keep gc 0) 0) ∧ KR gr (F_X7_oneTide (F_X7_note gr)) := by
  have hk := AA_keep h
  have v := hk.1.1
  have v7 := hk.1.2.2.1.vd v
  rw [flow_F v, oneTide_F v7]
  exact ⟨AA_mod hk (Nat.le_refl n) (tideF_vd v) (tideF_ct v hk.1.2.1) (tideF_eq v hk.1.2.2.1) (by rw [tideF_nb v]; exact hk.1.2.2.2), KC_t (KC_k h) KC_m, KR_t (KR_n h) KR_m⟩
theorem tides_46 {N n0 : Nat} (hN : N < 1000) : ∀ (m n j : Nat) (gc gr : mm_g) (K : Nat → mm_g → Int32 × mm_g) (n7 : Nat), m + j = N → m < n → m < n7 → AA n0 gc gr → ∃ gr2, F_X7_tides_44 (nI N) K n7 j gr = K N gr2 ∧ AA n0 (F_X6_tides_46 (nI N) n j gc) gr2 ∧ KC gc (F_X6_tides_46 (nI N) n j gc) ∧ KR gr gr2 := by
  intro m
  induction m with
  | zero =>
    intro n j gc gr K n7 h1 h2 h3 hA
    obtain ⟨n1, e⟩ : ∃ n1, n = n1 + 1 := ⟨n - 1, by omega⟩
    subst e
    obtain ⟨n2, e⟩ : ∃ n2, n7 = n2 + 1 := ⟨n7 - 1, by omega⟩
    subst e
    unfold F_X6_tides_46 F_X7_tides_44
    rw [if_pos (show nI N ≤ nI j from nI_le (by omega) (by omega)), if_pos (show nI N ≤ nI j from nI_le (by omega) (by omega)), show j = N by omega]
    exact ⟨gr, rfl, hA, fun _ _ _ _ => rfl, ⟨fun _ _ _ => rfl, fun _ _ _ _ _ _ => rfl⟩⟩
  | succ m ih =>
    intro n j gc gr K n7 h1 h2 h3 hA
    obtain ⟨n1, e⟩ : ∃ n1, n = n1 + 1 := ⟨n - 1, by omega⟩
    subst e
    obtain ⟨n2, e⟩ : ∃ n2, n7 = n2 + 1 := ⟨n7 - 1, by omega⟩
    subst e
    obtain ⟨t1, t2, t3⟩ := AA_tide hA
    obtain ⟨gr2, y1, y2, y3, y4⟩ := ih n1 (j + 1) _ _ K n2 (by omega) (by omega) (by omega) t1
    unfold F_X6_tides_46 F_X7_tides_44
    rw [if_neg (show ¬ nI N ≤ nI j from nI_ge (by omega) (by omega)), if_neg (show ¬ nI N ≤ nI j from nI_ge (by omega) (by omega))]
    exact ⟨gr2, y1, y2, KC_t t2 y3, KR_t t3 y4⟩
theorem AA_up {n m : Nat} {gc gr : mm_g} (h : AA n gc gr) (hn : n ≤ m) : AA m gc gr := by
  obtain ⟨⟨v, c, e, b⟩, a, k, ha, hm, h0, h1, h9, hI⟩ := h
  exact ⟨⟨v, c.up hn, e, b⟩, a, k, ha, hm, h0, h1, h9, fun i hi => ⟨(hI i hi).1, (hI i hi).2.up hn⟩⟩
theorem e_tides {n : Nat} {g : mm_g} {x1 : Int32} (hr : Rel n g) : Ok n g (F_X6_tides g x1) (fun s => F_X7_tides s x1) := by
  have hv := hr.now.1
  have he := hr.now.2.2.1
  by_cases q1 : nb (g 2 0) = 0
  · refine (Ok_b hr (a := -1000002) ?_ ?_).1
    · unfold F_X6_tides; rw [if_neg (fun z => (isN_2 hr).mp z q1)]
    · show F_X7_tides g x1 = _
      unfold F_X7_tides; rw [if_pos ((there_2 hr).mpr q1)]
  · have q1b : ¬ g 7 0 1 = 0 := fun z => q1 ((there_2 hr).mp z)
    by_cases q2 : F_X6_within x1 1 24 = 0
    · refine (Ok_b hr (a := -1000001) ?_ ?_).1
      · unfold F_X6_tides; rw [if_pos ((isN_2 hr).mpr q1), if_pos q2]
      · show F_X7_tides g x1 = _
        unfold F_X7_tides; rw [if_neg q1b, in_w (a := 1) (b := 24) (A := 1) (B := 24) rfl rfl, if_pos q2]
    · by_cases q3 : g 2 0 4 + x1 ≤ 999
      · have h2 := within_iff.mp q2
        have e1 : (1 : Int32).toInt = 1 := rfl
        have e24 : (24 : Int32).toInt = 24 := rfl
        obtain ⟨N, hN, e⟩ := nI_ofT (x := x1) (m := 24) (by omega)
        subst e
        have h0 : 1 ≤ nb (g 2 0) := by omega
        have A0 := AA_0 (gr := g) hr.1 h0 (fun _ => rfl)
        obtain ⟨_, _, _, k1, _⟩ := tides_46 (show N < 1000 by omega) N 25 0 g g (fun _ s => (0, s)) 25 rfl (by omega) (by omega) A0
        have e7 : ∀ k, F_X6_tides_46 (nI N) 25 0 g 7 k = g 7 k := fun k => k1 7 k (by decide) (by omega)
        have A1 := AA_0 (gr := F_X6_tides_46 (nI N) 25 0 g) hr.1 h0 e7
        obtain ⟨gr2, y1, y2, y3, y4⟩ := tides_46 (show N < 1000 by omega) N 25 0 g (F_X6_tides_46 (nI N) 25 0 g) (fun (j44 : Nat) (s44 : mm_g) => ((F_X7_allSizes s44), s44)) ((nI N).toInt.toNat + 1) rfl (by omega) (by rw [nI_n (by omega)]; omega) A1
        refine Ok_act (a := stocksF (F_X6_tides_46 (nI N) 25 0 g 2 0)) hr h0 (gc := F_X6_tides_46 (nI N) 25 0 g) (s := gr2) ?_ ?_ y3 y4 (AA_up y2 (Nat.le_succ n))
        · unfold F_X6_tides; rw [if_pos ((isN_2 hr).mpr q1), if_neg q2, if_pos q3, allStock_F y2.1.1]
        · show F_X7_tides (F_X6_tides_46 (nI N) 25 0 g) (nI N) = _
          unfold F_X7_tides
          rw [e7, if_neg q1b, in_w (a := 1) (b := 24) (A := 1) (B := 24) rfl rfl, if_neg q2, e7, ← he.lo 4 (by decide), if_pos q3, y1, allSizes_F (y2.1.2.2.1.vd y2.1.1), stocksF_eq y2.1.2.2.1]
      · refine (Ok_b hr (a := -1000003) ?_ ?_).1
        · unfold F_X6_tides; rw [if_pos ((isN_2 hr).mpr q1), if_neg q2, if_neg q3]
        · show F_X7_tides g x1 = _
          unfold F_X7_tides; rw [if_neg q1b, in_w (a := 1) (b := 24) (A := 1) (B := 24) rfl rfl, if_neg q2, ← he.lo 4 (by decide), if_neg q3]
