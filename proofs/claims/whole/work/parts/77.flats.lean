theorem Cs_o {g : mm_g} {p : Nat} {w : Int32} {f : Fl} {t k : Nat} (h : ¬ (t = 5 ∧ k = 0)) (h2 : ¬ (t = 2 ∧ k = 1)) : Cs g p w f t k = g t k := by
  unfold Cs
  rw [mw_n _ _ h2, mw_n _ _ h]
theorem TS_o {g : mm_g} {c : Fl} {m p : Nat} {w : Int32} {f : Fl} {t k : Nat} (h : ¬ (t = 7 ∧ k = 0)) (h2 : ¬ (t = 7 ∧ k = 7)) : TS g c m p w f t k = g t k := by
  unfold TS Ds
  rw [mw_n _ _ h2, mw_n _ _ h]
theorem TS_h {g : mm_g} {c : Fl} {m p : Nat} {w : Int32} {f : Fl} {j : Nat} (h : j < 4 ∨ 8 < j) : TS g c m p w f 7 0 j = g 7 0 j := by
  unfold TS
  rw [Ds_0]
  unfold hd
  rw [if_neg (by omega), if_neg (by omega), if_neg (by omega), if_neg (by omega), if_neg (by omega)]
theorem TS_j {g : mm_g} {c : Fl} {m p : Nat} {w : Int32} {f : Fl} {t k j : Nat} (h : ¬ (t = 7 ∧ k = 0 ∧ 4 ≤ j ∧ j ≤ 8)) (h2 : ¬ (t = 7 ∧ k = 7)) : TS g c m p w f t k j = g t k j := by
  by_cases e : t = 7 ∧ k = 0
  · obtain ⟨rfl, rfl⟩ := e
    exact TS_h (by omega)
  · rw [TS_o e h2]
/-- the flat's call, where the text is at fault -/
theorem flat_f {n m q : Nat} {g : mm_g} {c f f7 : Fl} {e : Int32} (hr : Rel n g) (he : e ≠ 0) (hR : F_X5_readInto g 1 = (e, Cs g q e f))
    (h7 : F_X7_readFlat (F_X6_flat g).2 = (0, TS (F_X6_flat g).2 c m q e f7)) : Ok n g (F_X6_flat g) (fun s => F_X7_flat s) ∧ Fr g (F_X6_flat g).2 := by
  have eF : F_X6_flat g = (-1000100 - nI q, wr (wr (Cs g q e f) 5 0 0 0) 6 0 0 e) := by
    unfold F_X6_flat F_X3_scratch F_X5_readTo F_X5_clear
    rw [hR, if_neg he]
    show (-1000100 - wr (wr (Cs g q e f) 5 0 0 0) 6 0 0 e 5 0 1, _) = _
    rw [wr_nk (by decide), wr_ss, if_neg (by decide), Cs_p]
  rw [eF] at h7 ⊢
  dsimp only at h7 ⊢
  generalize hG : wr (wr (Cs g q e f) 5 0 0 0) 6 0 0 e = gS at h7
  have o1 : ∀ t k j, ¬ (t = 5 ∧ k = 0) → ¬ (t = 2 ∧ k = 1) → ¬ (t = 6 ∧ k = 0 ∧ j = 0) → gS t k j = g t k j := fun t k j a b d => by
    rw [← hG, wr_at, if_neg d, wr_nk a, Cs_o a b]
  have e7 : ∀ k, gS 7 k = g 7 k := fun k => funext fun j => o1 7 k j (by omega) (by omega) (by omega)
  have eQ : F_X7_flat gS = (-1000100 - nI q, wr (wr (TS gS c m q e f7) 7 0 2 0) 7 0 3 e) := by
    unfold F_X7_flat
    rw [h7, if_pos rfl]
    dsimp only
    rw [wr_ss, if_neg (by decide), wr_ss, if_neg (by decide), TS_b, wr_ss, if_neg (by decide), TS_8]
  have o2 : ∀ t k j, ¬ (t = 5 ∧ k = 0) → ¬ (t = 2 ∧ k = 1) → ¬ (t = 6 ∧ k = 0 ∧ j = 0) → ¬ (t = 7 ∧ k = 7) → ¬ (t = 7 ∧ k = 0 ∧ 2 ≤ j ∧ j ≤ 8) → wr (wr (TS gS c m q e f7) 7 0 2 0) 7 0 3 e t k j = g t k j := fun t k j a b d x y => by
    rw [wr_at, if_neg (by omega), wr_at, if_neg (by omega), TS_j (by omega) x]
    exact o1 t k j a b d
  obtain ⟨a1, a2, a3, a4, a5, a6, a7⟩ := hr.1
  refine ⟨Ok_z (g1 := gS) (s := wr (wr (TS gS c m q e f7) 7 0 2 0) 7 0 3 e) rfl eQ e7 (fun t k h => ?_) (Rl.up (Nat.le_succ n) ⟨a1.q ?_, ⟨0, by decide, ?_, ?_, fun i hi => absurd hi (Nat.not_lt_zero i)⟩, ?_, a4.q ?_, a5.q ?_, a6.q ?_, a7.q ?_⟩) ?_, e7, funext fun j => o1 0 1 j (by omega) (by omega) (by omega), funext fun j => o1 6 1 j (by omega) (by omega) (by omega)⟩
  · rw [wr_nk (fun z => h z.1), wr_nk (fun z => h z.1), TS_o (fun z => h z.1) (fun z => h z.1)]
  · intro t k j u
    unfold uRow at u
    exact o2 t k j (by omega) (by omega) (by omega) (by omega) (by omega)
  · rw [wr_nk (by decide), wr_nk (by decide), TS_o (by decide) (by decide), ← hG, wr_nk (by decide), wr_ss, if_pos rfl]
    rfl
  · rw [wr_ss, if_neg (by decide), wr_ss, if_pos rfl]
    rfl
  · show wr (wr (TS gS c m q e f7) 7 0 2 0) 7 0 3 e 6 0 0 = wr (wr (TS gS c m q e f7) 7 0 2 0) 7 0 3 e 7 0 3
    rw [wr_ss, if_pos rfl, wr_nk (by decide), wr_nk (by decide), TS_o (by decide) (by decide), ← hG, wr_ss, if_pos rfl]
  · intro t k j u
    unfold uNow at u
    exact o2 t k j (by omega) (by omega) (by omega) (by omega) (by omega)
  · intro t k j u
    unfold uActs at u
    exact o2 t k j (by omega) (by omega) (by omega) (by omega) (by omega)
  · intro t k j u
    unfold uImg at u
    exact o2 t k j (by omega) (by omega) (by omega) (by omega) (by omega)
  · intro t k j u
    unfold uTr at u
    exact o2 t k j (by omega) (by omega) (by omega) (by omega) (by omega)
  · rw [o2 6 0 1 (by omega) (by omega) (by omega) (by omega) (by omega), o2 7 0 0 (by omega) (by omega) (by omega) (by omega) (by omega)]
    exact hr.2
/-- the flat's call, where the text is read -/
theorem flat_t {n m q k : Nat} {g : mm_g} {c f f7 : Fl} {w7 : Int32} (hr : Rel n g) (hR : F_X5_readInto g 1 = (0, Cs g q 0 f)) (hk : 1 ≤ k) (B : BR f f7 k)
    (h7 : F_X7_readFlat (F_X6_flat g).2 = (1, TS (F_X6_flat g).2 c m q w7 f7)) : Ok n g (F_X6_flat g) (fun s => F_X7_flat s) ∧ Fr g (F_X6_flat g).2 := by
  have h9 := B.2.1.n9
  have hc := cpy_eq (f2 := g 2 0) h9
  have eF : F_X6_flat g = (f 0, wr (mw (wr (Cs g q 0 f) 5 0 0 0) 2 0 (cpy f (g 2 0))) 0 0 1 0) := by
    unfold F_X6_flat F_X3_scratch F_X0_forget F_X5_clear
    rw [hR, if_pos rfl]
    dsimp only
    rw [become_F (by decide), wr_nk (t := 5) (k := 0) (t' := 2) (k' := 1) (by decide), Cs_f, wr_nk (t := 5) (k := 0) (t' := 2) (k' := 0) (by decide), Cs_o (t := 2) (k := 0) (by decide) (by decide), wr_nk (t := 0) (k := 0) (t' := 2) (k' := 0) (by decide), mw_s]
    rfl
  rw [eF] at h7 ⊢
  dsimp only at h7 ⊢
  generalize hG : wr (mw (wr (Cs g q 0 f) 5 0 0 0) 2 0 (cpy f (g 2 0))) 0 0 1 0 = gS at h7
  have o1 : ∀ t k j, ¬ (t = 5 ∧ k = 0) → ¬ (t = 2 ∧ (k = 0 ∨ k = 1)) → ¬ (t = 0 ∧ k = 0 ∧ j = 1) → gS t k j = g t k j := fun t k j a b d => by
    rw [← hG, wr_at, if_neg d, mw_n _ _ (by omega), wr_nk a, Cs_o a (by omega)]
  have e7 : ∀ k, gS 7 k = g 7 k := fun k => funext fun j => o1 7 k j (by omega) (by omega) (by omega)
  have e20 : gS 2 0 = cpy f (g 2 0) := by rw [← hG, wr_nk (by decide), mw_s]
  have f70 : f7 0 = f 0 := (B.1.lo 0 (by decide)).symm
  generalize hS : wr (wr (mw (wr (TS gS c m q w7 f7) 7 0 2 0) 7 4 (fun i => if 0 ≤ i ∧ i < 36 then f7 i else g 7 4 i)) 7 0 1 1) 7 0 9 0 = s
  have eQ : F_X7_flat gS = (f 0, s) := by
    unfold F_X7_flat
    rw [h7, if_neg (show ¬ (1 : Int32) = 0 by decide), L_flat _ 0 _ (by decide) (by decide)]
    dsimp only
    rw [wr_nk (t := 7) (k := 0) (t' := 7) (k' := 7) (by decide), TS_7, show wr (TS gS c m q w7 f7) 7 0 2 0 7 4 = g 7 4 from by rw [wr_nk (by decide), TS_o (by decide) (by decide), e7], hS, ← hS, wr_nk (t := 7) (k := 0) (t' := 7) (k' := 4) (by decide), wr_nk (t := 7) (k := 0) (t' := 7) (k' := 4) (by decide), mw_s, if_pos (by decide), f70]
  have o2 : ∀ t k j, ¬ (t = 5 ∧ k = 0) → ¬ (t = 2 ∧ (k = 0 ∨ k = 1)) → ¬ (t = 0 ∧ k = 0 ∧ j = 1) → ¬ (t = 7 ∧ (k = 7 ∨ k = 4)) → ¬ (t = 7 ∧ k = 0 ∧ (j = 1 ∨ j = 2 ∨ j = 9 ∨ (4 ≤ j ∧ j ≤ 8))) → s t k j = g t k j := fun t k j a b d x y => by
    rw [← hS, wr_at, if_neg (by omega), wr_at, if_neg (by omega), mw_n _ _ (by omega), wr_at, if_neg (by omega), TS_j (by omega) (by omega)]
    exact o1 t k j a b d
  have o3 : ∀ t k, t ≠ 7 → s t k = gS t k := fun t k h => by
    rw [← hS, wr_nk (fun z => h z.1), wr_nk (fun z => h z.1), mw_n _ _ (fun z => h z.1), wr_nk (fun z => h z.1), TS_o (fun z => h z.1) (fun z => h z.1)]
  have s20 : s 2 0 = cpy f (g 2 0) := (o3 2 0 (by decide)).trans e20
  have nbs : nb (s 2 0) = k := by rw [s20, hc.nb]; exact B.2.2.2
  obtain ⟨a1, a2, a3, a4, a5, a6, a7⟩ := hr.1
  refine ⟨Ok_z (g1 := gS) (s := s) rfl eQ e7 o3 (Rl.up (Nat.le_succ n) ⟨a1.q ?_, ⟨0, by decide, ?_, ?_, fun i hi => absurd hi (Nat.not_lt_zero i)⟩, a3.q ?_, ⟨?_, ?_, ?_, ?_⟩, ?_, ?_, a7.q ?_⟩) ?_, e7, funext fun j => o1 0 1 j (by omega) (by omega) (by omega), funext fun j => o1 6 1 j (by omega) (by omega) (by omega)⟩
  · intro t k j u
    unfold uRow at u
    exact o2 t k j (by omega) (by omega) (by omega) (by omega) (by omega)
  · rw [o3 5 0 (by decide), ← hG, wr_nk (by decide), mw_n _ _ (by decide), wr_ss, if_pos rfl]
    rfl
  · rw [← hS, wr_ss, if_neg (by decide), wr_ss, if_neg (by decide), mw_n _ _ (by decide), wr_ss, if_pos rfl]
    rfl
  · intro t k j u
    unfold uMsg at u
    exact o2 t k j (by omega) (by omega) (by omega) (by omega) (by omega)
  · rw [s20]
    exact hc.vd B.2.1
  · rw [s20]
    exact (hc.ct B.2.2.1).up (Nat.zero_le n)
  · rw [s20]
    refine EqF_far (hc.symm.trans B.1) (by rw [hc.nb]; exact h9) (fun j hj => ?_)
    rw [← hS, wr_nk (by decide), wr_nk (by decide), mw_s, if_pos ⟨Nat.zero_le j, hj⟩]
  · rw [← hS, wr_ss, if_neg (by decide), wr_ss, if_pos rfl, hS, if_pos (by rw [nbs]; exact hk)]
  · obtain ⟨a, m0, ha, hm0, h0, h1, h9, hP, hI⟩ := a5
    refine ⟨a, 0, ha, Nat.zero_le _, ?_, ?_, ?_, fun z => absurd z (Nat.lt_irrefl 0), fun i hi => absurd hi (Nat.not_lt_zero i)⟩
    · rw [o2 0 0 0 (by omega) (by omega) (by omega) (by omega) (by omega)]
      exact h0
    · rw [o3 0 0 (by decide), ← hG, wr_ss, if_pos rfl]
      rfl
    · rw [← hS, wr_ss, if_pos rfl]
      rfl
  · intro j hj
    have b1 := a6 j hj
    have x1 : s 6 1 j = g 6 1 j := o2 6 1 j (by omega) (by omega) (by omega) (by omega) (by omega)
    have x2 : s 7 10 j = g 7 10 j := o2 7 10 j (by omega) (by omega) (by omega) (by omega) (by omega)
    have x3 : s 2 (26 + j) = g 2 (26 + j) := funext fun i => o2 2 (26 + j) i (by omega) (by omega) (by omega) (by omega) (by omega)
    have x4 : s 7 11 = g 7 11 := funext fun i => o2 7 11 i (by omega) (by omega) (by omega) (by omega) (by omega)
    rw [x1, x2, x3, x4, nbs]
    exact ⟨b1.1, fun z => ⟨hk, (b1.2 z).2⟩⟩
  · intro t k j u
    unfold uTr at u
    exact o2 t k j (by omega) (by omega) (by omega) (by omega) (by omega)
  · rw [o2 6 0 1 (by omega) (by omega) (by omega) (by omega) (by omega), o2 7 0 0 (by omega) (by omega) (by omega) (by omega) (by omega)]
    exact hr.2
theorem e_flat {n : Nat} {g : mm_g} (hr : Rel n g) : Ok n g (F_X6_flat g) (fun s => F_X7_flat s) ∧ Fr g (F_X6_flat g).2 := by
  obtain ⟨m, hm, h1, h2, h3⟩ := hr.1.2.1
  have hC : Ch (fun p => if p < m then g 5 1 p else -1) m := ⟨hm, fun p hp => if_neg (by omega)⟩
  have T5 : Tp g (fun p => if p < m then g 5 1 p else -1) m := ⟨hC, h1, fun i hi => (if_pos hi).symm⟩
  have T7 : ∀ gr : mm_g, (∀ k, gr 7 k = g 7 k) → Tr gr (fun p => if p < m then g 5 1 p else -1) m := fun gr h => ⟨hC, by rw [h]; exact h2, fun i hi => by rw [h]; exact (h3 i hi).symm.trans (if_pos hi).symm⟩
  have e7 : ∀ k, (F_X6_flat g).2 7 k = g 7 k := fun k => by
    obtain ⟨q, e, f, hR, _⟩ := read_1 T5 (T7 g (fun _ => rfl))
    unfold F_X6_flat F_X3_scratch F_X5_clear F_X0_forget
    rw [hR]
    by_cases z : e = 0
    · rw [if_pos z]
      show wr (F_X2_become (wr (Cs g q e f) 5 0 0 0) 0 1) 0 0 1 0 7 k = _
      rw [become_F (by decide), wr_nk (t := 0) (k := 0) (t' := 7) (k' := k) (by omega), mw_n (t := 2) (k := 0) (t' := 7) (k' := k) _ _ (by omega), wr_nk (t := 5) (k := 0) (t' := 7) (k' := k) (by omega), Cs_o (by omega) (by omega)]
    · rw [if_neg z]
      show wr (wr (Cs g q e f) 5 0 0 0) 6 0 0 e 7 k = _
      rw [wr_nk (by omega), wr_nk (by omega), Cs_o (by omega) (by omega)]
  obtain ⟨q, e, f, hR, hh⟩ := read_1 T5 (T7 _ e7)
  rcases hh with ⟨he, f7, h7⟩ | ⟨he, f7, k, w7, hk, h7, B⟩
  · exact flat_f hr he hR h7
  · subst he
    exact flat_t hr hR hk B h7
