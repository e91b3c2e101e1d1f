theorem lst_a : ∀ a, a < 24 → nI a + 24 - 1 - (nI a + 24 - 1) / 24 * 24 = nI ((a + 23) % 24) := by decide +kernel
theorem e_undo {n : Nat} {g : mm_g} (hr : Rel n g) : Ok n g (F_X6_undo g) (fun s => F_X7_undo s) ∧ Fr g (F_X6_undo g).2 := by
  obtain ⟨a, m, ha, hm, h0, h1, h9, hP, hI⟩ := hr.1.2.2.2.2.1
  by_cases q : m = 0
  · subst q
    have eB0 : F_X0_takeBack g 0 = (0, g) := by
      unfold F_X0_takeBack
      rw [h1, if_neg (show ¬ (1 : Int32) ≤ nI 0 by decide)]
    refine Ok_b hr (a := -1000002) ?_ ?_
    · unfold F_X6_undo
      rw [eB0]
      exact if_pos rfl
    · show F_X7_undo g = _
      unfold F_X7_undo
      rw [h9, if_pos (show nI 0 = 0 from rfl)]
  · have hb := hP (by omega)
    obtain ⟨y1, y2⟩ := hI (m - 1) (by omega)
    have el : slot a m (m - 1) = (a + 23) % 24 := by unfold slot; omega
    rw [el] at y1 y2
    have hl : (a + 23) % 24 < 24 := Nat.mod_lt _ (by decide)
    have eB : F_X0_takeBack g 0 = (1, wr (wr (mw g 2 0 (cpy (g 2 (2 + (a + 23) % 24)) (g 2 0))) 0 0 0 (nI ((a + 23) % 24))) 0 0 1 (nI (m - 1))) := by
      unfold F_X0_takeBack
      rw [h1, if_pos (show (1 : Int32) ≤ nI m from nI_le (a := 1) (by omega) (by omega)), h0, lst_a a ha, if_neg (w23 _ hl), c0 (by omega), if_neg y1, become_F (by omega), wr_ss, if_neg (show ¬ (1 : Nat) = 0 by decide), mw_n (t := 2) (k := 0) (t' := 0) (k' := 0) _ _ (by decide), h1, show (1 : Int32) = nI 1 from rfl, pk_sub (by omega)]
    have eF : F_X6_undo g = (nI (m - 1), wr (wr (mw g 2 0 (cpy (g 2 (2 + (a + 23) % 24)) (g 2 0))) 0 0 0 (nI ((a + 23) % 24))) 0 0 1 (nI (m - 1))) := by
      unfold F_X6_undo F_X0_kept
      rw [eB, if_neg (show ¬ (1 : Int32) = 0 by decide)]
      dsimp only
      rw [wr_ss, if_pos rfl]
    generalize hG : wr (wr (mw g 2 0 (cpy (g 2 (2 + (a + 23) % 24)) (g 2 0))) 0 0 0 (nI ((a + 23) % 24))) 0 0 1 (nI (m - 1)) = gc at eF
    have hKC : KC g gc := fun t k x y => by rw [← hG, wr_nk (fun z => x z.1), wr_nk (fun z => x z.1), mw_n _ _ (fun z => y ⟨z.1, by omega, by omega⟩)]
    have e7 : ∀ k, gc 7 k = g 7 k := fun k => hKC 7 k (by decide) (by omega)
    have hFr : Fr g gc := ⟨e7, by rw [← hG, wr_nk (by decide), wr_nk (by decide), mw_n _ _ (by decide)], hKC 6 1 (by decide) (by decide)⟩
    have e9 : gc 7 0 9 = nI m := by rw [e7]; exact h9
    have eQ : F_X7_undo gc = (nI (m - 1), mw (wr gc 7 0 9 (nI (m - 1))) 7 4 (fun i => if 0 ≤ i ∧ i < 36 then g 7 8 (36 * (m - 1) + i) else g 7 4 i)) := by
      unfold F_X7_undo
      rw [e9, if_neg (nI_ne0 (by omega) (by omega)), show (1 : Int32) = nI 1 from rfl, pk_sub (show 1 ≤ m by omega), L_undo (m := m - 1) (by omega) _ 0 _ (by rw [wr_ss, if_pos rfl]) (by decide) (by decide)]
      rw [wr_nk (t := 7) (k := 0) (t' := 7) (k' := 8) (by decide), wr_nk (t := 7) (k := 0) (t' := 7) (k' := 4) (by decide), e7, e7]
      show (mw _ 7 4 _ 7 0 9, _) = _
      rw [mw_n (t := 7) (k := 4) (t' := 7) (k' := 0) _ _ (by decide), wr_ss, if_pos rfl]
    have c1 := cpy_eq (f2 := g 2 0) y2.1.n9
    have e20 : gc 2 0 = cpy (g 2 (2 + (a + 23) % 24)) (g 2 0) := by rw [← hG, wr_nk (by decide), wr_nk (by decide), mw_s]
    rw [eF]
    refine ⟨Ok_act (gc := gc) (s := mw (wr gc 7 0 9 (nI (m - 1))) 7 4 (fun i => if 0 ≤ i ∧ i < 36 then g 7 8 (36 * (m - 1) + i) else g 7 4 i)) hr hb rfl eQ hKC ?_ ?_, hFr⟩
    · refine ⟨fun t k x => by rw [mw_n _ _ (fun z => x z.1), wr_nk (fun z => x z.1)], fun k j x y z w => ?_⟩
      rw [mw_n _ _ (fun z => y z.2), wr_at, if_neg (fun z => w ⟨z.2.1, z.2.2⟩)]
    · refine ⟨⟨by rw [e20]; exact c1.vd y2.1, by rw [e20]; exact (c1.ct y2.2.1).up (Nat.le_succ n), ?_, by rw [e20, c1.nb]; exact y2.2.2.2⟩, (a + 23) % 24, m - 1, hl, by omega, ?_, ?_, ?_, fun i hi => ?_⟩
      · rw [e20, mw_s]
        refine EqF_far (c1.symm.trans y2.2.2.1) (by rw [c1.nb]; exact y2.1.n9) (fun j hj => ?_)
        rw [if_pos ⟨Nat.zero_le _, hj⟩]
      · rw [← hG, wr_ss, if_neg (by decide), wr_ss, if_pos rfl]
      · rw [← hG, wr_ss, if_pos rfl]
      · rw [mw_n _ _ (by decide), wr_ss, if_pos rfl]
      · obtain ⟨z1, z2⟩ := hI i (by omega)
        have es : slot ((a + 23) % 24) (m - 1) i = slot a m i := by unfold slot; omega
        rw [es, ← hG, wr_nk (t := 0) (k := 0) (t' := 0) (k' := 1) (by decide), wr_nk (t := 0) (k := 0) (t' := 0) (k' := 1) (by decide), mw_n (t := 2) (k := 0) (t' := 0) (k' := 1) _ _ (by decide), wr_nk (t' := 2) (fun z => absurd z.1 (by decide)), wr_nk (t' := 2) (fun z => absurd z.1 (by decide)), mw_n (t := 2) (k := 0) (t' := 2) _ _ (by omega), mw_n (t := 7) (k := 4) (t' := 7) (k' := 8) _ _ (by decide), hG, wr_nk (t := 7) (k := 0) (t' := 7) (k' := 8) (by decide), e7]
        exact ⟨z1, z2.up (Nat.le_succ n)⟩
/-! images -/
theorem k_2 {x : Int32} (h : ¬ F_X6_within x 0 1 = 0) : ∃ k, k < 2 ∧ x = nI k := by
  obtain ⟨j, hj, e⟩ := within_nI (n := 1) (by decide) h
  exact ⟨j, by omega, e⟩
theorem Ok_z {n : Nat} {g g1 s : mm_g} {a : Int32} {R : Int32 × mm_g} {Q : mm_g → Int32 × mm_g} (hR : R = (a, g1)) (hQ : Q g1 = (a, s)) (hF : ∀ k, g1 7 k = g 7 k) (h2 : ∀ t k, t ≠ 7 → s t k = g1 t k) (hl : Rl (n + 1) s) (hs : s 6 0 1 = s 7 0 0) : Ok n g R Q := by
  subst hR
  refine ⟨hF, ?_, ?_, ?_⟩
  · show (Q g1).1 = a
    rw [hQ]
  · show Rel (n + 1) (Q g1).2
    rw [hQ]
    exact ⟨hl, hs⟩
  · show ∀ t k, t ≠ 7 → (Q g1).2 t k = g1 t k
    rw [hQ]
    exact h2
theorem nar_1 : vp_nar .boolean 1 = 1 := by decide
theorem e_image {n : Nat} {g : mm_g} {x1 : Int32} (hr : Rel n g) : Ok n g (F_X6_image g x1) (fun s => F_X7_image s x1) := by
  have hv := hr.now.1
  have he := hr.now.2.2.1
  by_cases q1 : F_X6_within x1 0 1 = 0
  · refine (Ok_b hr (a := -1000001) ?_ ?_).1
    · unfold F_X6_image; rw [if_pos q1]
    · show F_X7_image g x1 = _
      unfold F_X7_image; rw [in_w (a := 0) (b := 1) (A := 0) (B := 1) rfl rfl, if_pos q1]
  · by_cases q2 : nb (g 2 0) = 0
    · refine (Ok_b hr (a := -1000002) ?_ ?_).1
      · unfold F_X6_image; rw [if_neg q1, if_neg (fun z => (isN_2 hr).mp z q2)]
      · show F_X7_image g x1 = _
        unfold F_X7_image; rw [in_w (a := 0) (b := 1) (A := 0) (B := 1) rfl rfl, if_neg q1, if_pos ((there_2 hr).mpr q2)]
    · have q2b : ¬ g 7 0 1 = 0 := fun z => q2 ((there_2 hr).mp z)
      have hb : 1 ≤ nb (g 2 0) := by omega
      obtain ⟨k, hk, e⟩ := k_2 q1
      subst e
      have c1 : ∀ f, EqF (g 2 0) (cpy (g 2 0) f) := fun f => cpy_eq hv.n9
      have hC : ∃ gc f, F_X6_image g (nI k) = (1, gc) ∧ gc 2 (26 + k) = cpy (g 2 0) f ∧ ¬ gc 6 1 k = 0 ∧ (∀ i, i ≠ k → gc 6 1 i = g 6 1 i) ∧ gc 6 0 = g 6 0 ∧ ∀ t k2, t ≠ 6 → ¬ (t = 2 ∧ k2 = 26 + k) → gc t k2 = g t k2 := by
        unfold F_X6_image
        rw [if_neg q1, if_pos ((isN_2 hr).mpr q2), c0 (by omega)]
        by_cases z : g 6 1 k = 0
        · rw [if_pos z, become_F (by omega)]
          refine ⟨_, wr (mw g 2 (26 + k) (fun _ => 0)) 6 1 k 1 2 (26 + k), rfl, ?_, ?_, fun i hi => ?_, ?_, fun t k2 x y => ?_⟩
          · rw [mw_s, wr_nk (t := 6) (t' := 2) (k' := 0) (by decide), mw_n (t := 2) (k := 26 + k) (t' := 2) (k' := 0) _ _ (by omega)]
          · rw [mw_n _ _ (fun z => absurd z.1 (by decide)), wr_ss, if_pos rfl]; decide
          · rw [mw_n _ _ (fun z => absurd z.1 (by decide)), wr_ss, if_neg hi, mw_n _ _ (fun z => absurd z.1 (by decide))]
          · rw [mw_n _ _ (fun z => absurd z.1 (by decide)), wr_nk (by decide), mw_n _ _ (fun z => absurd z.1 (by decide))]
          · rw [mw_n _ _ y, wr_nk (fun z => x z.1), mw_n _ _ y]
        · rw [if_neg z, become_F (by omega)]
          refine ⟨_, g 2 (26 + k), rfl, by rw [mw_s], ?_, fun i hi => ?_, ?_, fun t k2 x y => ?_⟩
          · rw [mw_n _ _ (fun z => absurd z.1 (by decide))]; exact z
          · rw [mw_n _ _ (fun z => absurd z.1 (by decide))]
          · rw [mw_n _ _ (fun z => absurd z.1 (by decide))]
          · rw [mw_n _ _ y]
      obtain ⟨gc, f, c2, c3, c4, c5, c6, c7⟩ := hC
      have e7 : ∀ k2, gc 7 k2 = g 7 k2 := fun k2 => c7 7 k2 (by decide) (by omega)
      have eQ : F_X7_image gc (nI k) = (1, wr (mw gc 7 11 (fun i => if 36 * k + 0 ≤ i ∧ i < 36 * k + 36 then g 7 4 (i - 36 * k) else g 7 11 i)) 7 10 k 1) := by
        unfold F_X7_image
        rw [in_w (a := 0) (b := 1) (A := 0) (B := 1) rfl rfl, if_neg q1, e7, if_neg q2b, L_image (by omega) _ 0 gc (by decide) (by decide), c0 (by omega), nar_1, e7, e7]
      refine Ok_z c2 eQ e7 (fun t k2 x => by rw [wr_nk (fun z => x z.1), mw_n _ _ (fun z => x z.1)]) ?_ ?_
      · have hR1 := Rl.up (Nat.le_succ n) hr.1
        obtain ⟨a1, a2, a3, a4, a5, a6, a7⟩ := hR1
        have hp : ∀ t k2 j, ¬ (t = 6 ∧ k2 = 1) → ¬ (t = 2 ∧ k2 = 26 + k) → ¬ (t = 7 ∧ (k2 = 10 ∨ k2 = 11)) → wr (mw gc 7 11 (fun i => if 36 * k + 0 ≤ i ∧ i < 36 * k + 36 then g 7 4 (i - 36 * k) else g 7 11 i)) 7 10 k 1 t k2 j = g t k2 j := fun t k2 j x y z => by
          rw [wr_nk (fun w => z ⟨w.1, Or.inl w.2⟩), mw_n _ _ (fun w => z ⟨w.1, Or.inr w.2⟩)]
          by_cases e : t = 6
          · subst e
            by_cases e2 : k2 = 0
            · subst e2; rw [c6]
            · by_cases e3 : k2 = 1
              · exact absurd ⟨rfl, e3⟩ x
              · have : F_X6_image g (nI k) = (1, gc) := c2
                unfold F_X6_image at this
                rw [if_neg q1, if_pos ((isN_2 hr).mpr q2), c0 (by omega)] at this
                by_cases w : g 6 1 k = 0
                · rw [if_pos w, become_F (by omega)] at this
                  have e4 := (Prod.mk.inj this).2
                  rw [← e4, mw_n _ _ (fun z => absurd z.1 (by decide)), wr_nk (by omega), mw_n _ _ (fun z => absurd z.1 (by decide))]
                · rw [if_neg w, become_F (by omega)] at this
                  have e4 := (Prod.mk.inj this).2
                  rw [← e4, mw_n _ _ (fun z => absurd z.1 (by decide))]
          · rw [c7 t k2 e y]
        refine ⟨a1.q (fun t k2 j u => by unfold uRow at u; exact hp t k2 j (by omega) (by omega) (by omega)), a2.q (fun t k2 j u => by unfold uTape at u; exact hp t k2 j (by omega) (by omega) (by omega)), a3.q (fun t k2 j u => by unfold uMsg at u; exact hp t k2 j (by omega) (by omega) (by omega)), a4.q (fun t k2 j u => by unfold uNow at u; exact hp t k2 j (by omega) (by omega) (by omega)), a5.q (fun t k2 j u => by unfold uActs at u; exact hp t k2 j (by omega) (by omega) (by omega)), fun i hi => ?_, a7.q (fun t k2 j u => by unfold uTr at u; exact hp t k2 j (by omega) (by omega) (by omega))⟩
        have e20 : wr (mw gc 7 11 (fun i => if 36 * k + 0 ≤ i ∧ i < 36 * k + 36 then g 7 4 (i - 36 * k) else g 7 11 i)) 7 10 k 1 2 0 = g 2 0 := funext fun j => hp 2 0 j (by decide) (by omega) (by decide)
        rw [e20, wr_nk (t := 7) (k := 10) (t' := 6) (k' := 1) (by decide), mw_n (t := 7) (k := 11) (t' := 6) (k' := 1) _ _ (by decide), wr_nk (t := 7) (k := 10) (t' := 2) (fun z => absurd z.1 (by decide)), mw_n (t := 7) (k := 11) (t' := 2) _ _ (fun z => absurd z.1 (by decide)), wr_nk (t := 7) (k := 10) (t' := 7) (k' := 11) (by decide), mw_s, wr_ss, mw_n (t := 7) (k := 11) (t' := 7) (k' := 10) _ _ (by decide), e7]
        by_cases z : i = k
        · subst z
          rw [if_pos rfl, c3]
          refine ⟨⟨fun y => absurd y c4, fun y => absurd y (by decide)⟩, fun _ => ⟨hb, (c1 f).vd hv, (c1 f).ct a4.2.1, ?_, by rw [(c1 f).nb]; exact hb⟩⟩
          refine EqF_far ((c1 f).symm.trans he) (by rw [(c1 f).nb]; exact hv.n9) (fun j hj => ?_)
          rw [if_pos (by omega)]
          refine congrArg (g 7 4) ?_
          omega
        · rw [if_neg z, c5 i z, c7 2 (26 + i) (by decide) (by omega)]
          obtain ⟨y1, y2⟩ := a6 i hi
          refine ⟨y1, fun w => ⟨hb, (y2 w).2.1, (y2 w).2.2.1, ?_, (y2 w).2.2.2.2⟩⟩
          refine EqF_far (y2 w).2.2.2.1 (y2 w).2.1.n9 (fun j hj => ?_)
          rw [if_neg (by omega)]
      · rw [wr_nk (by decide), mw_n _ _ (by decide), wr_nk (by decide), mw_n _ _ (by decide), c6, e7]
        exact hr.2
theorem e_restore {n : Nat} {g : mm_g} {x1 : Int32} (hr : Rel n g) : Ok n g (F_X6_restore g x1) (fun s => F_X7_restore s x1) ∧ Fr g (F_X6_restore g x1).2 := by
  by_cases q1 : F_X6_within x1 0 1 = 0
  · refine Ok_b hr (a := -1000001) ?_ ?_
    · unfold F_X6_restore; rw [if_pos q1]
    · show F_X7_restore g x1 = _
      unfold F_X7_restore; rw [in_w (a := 0) (b := 1) (A := 0) (B := 1) rfl rfl, if_pos q1]
  · obtain ⟨k, hk, e⟩ := k_2 q1
    subst e
    obtain ⟨i1, i2⟩ := hr.1.2.2.2.2.2.1 k hk
    by_cases q2 : g 6 1 k = 0
    · refine Ok_b hr (a := -1000002) ?_ ?_
      · unfold F_X6_restore; rw [if_neg q1, c0 (by omega), if_pos q2]
      · show F_X7_restore g (nI k) = _
        unfold F_X7_restore; rw [in_w (a := 0) (b := 1) (A := 0) (B := 1) rfl rfl, if_neg q1, c0 (by omega), if_pos (i1.mp q2)]
    · obtain ⟨hb, y2⟩ := i2 q2
      obtain ⟨a, m, ha, hm, h0, h1, h9, hP, hI⟩ := hr.1.2.2.2.2.1
      have eF : F_X6_restore g (nI k) = (1, wr (mw g 2 0 (cpy (g 2 (26 + k)) (g 2 0))) 0 0 1 0) := by
        unfold F_X6_restore F_X0_forget; rw [if_neg q1, c0 (by omega), if_neg q2, become_F (by omega)]
      generalize hG : wr (mw g 2 0 (cpy (g 2 (26 + k)) (g 2 0))) 0 0 1 0 = gc at eF
      have hKC : KC g gc := fun t k2 x y => by rw [← hG, wr_nk (fun z => x z.1), mw_n _ _ (fun z => y ⟨z.1, by omega, by omega⟩)]
      have e7 : ∀ k2, gc 7 k2 = g 7 k2 := fun k2 => hKC 7 k2 (by decide) (by omega)
      have hFr : Fr g gc := ⟨e7, by rw [← hG, wr_nk (by decide), mw_n _ _ (by decide)], hKC 6 1 (by decide) (by decide)⟩
      have eQ : F_X7_restore gc (nI k) = (1, wr (mw gc 7 4 (fun i => if 0 ≤ i ∧ i < 36 then g 7 11 (36 * k + i) else g 7 4 i)) 7 0 9 0) := by
        unfold F_X7_restore
        rw [in_w (a := 0) (b := 1) (A := 0) (B := 1) rfl rfl, if_neg q1, c0 (by omega), e7, if_neg (fun z => q2 (i1.mpr z)), L_restore (by omega) _ 0 gc (by decide) (by decide), e7, e7]
      have c1 := cpy_eq (f2 := g 2 0) y2.1.n9
      have e20 : gc 2 0 = cpy (g 2 (26 + k)) (g 2 0) := by rw [← hG, wr_nk (by decide), mw_s]
      rw [eF]
      refine ⟨Ok_act (gc := gc) (s := wr (mw gc 7 4 (fun i => if 0 ≤ i ∧ i < 36 then g 7 11 (36 * k + i) else g 7 4 i)) 7 0 9 0) hr hb rfl eQ hKC ?_ ?_, hFr⟩
      · refine ⟨fun t k2 x => by rw [wr_nk (fun z => x z.1), mw_n _ _ (fun z => x z.1)], fun k2 j x y z w => ?_⟩
        rw [wr_at, if_neg (fun z => w ⟨z.2.1, z.2.2⟩), mw_n _ _ (fun z => y z.2)]
      · refine ⟨⟨by rw [e20]; exact c1.vd y2.1, by rw [e20]; exact (c1.ct y2.2.1).up (Nat.le_succ n), ?_, by rw [e20, c1.nb]; exact y2.2.2.2⟩, a, 0, ha, by decide, ?_, ?_, ?_, fun i hi => absurd hi (Nat.not_lt_zero _)⟩
        · rw [e20, wr_nk (by decide), mw_s]
          refine EqF_far (c1.symm.trans y2.2.2.1) (by rw [c1.nb]; exact y2.1.n9) (fun j hj => ?_)
          rw [if_pos ⟨Nat.zero_le _, hj⟩]
        · rw [← hG, wr_ss, if_neg (by decide), mw_n _ _ (by decide)]; exact h0
        · rw [← hG, wr_ss, if_pos rfl]; rfl
        · rw [wr_ss, if_pos rfl]; rfl
