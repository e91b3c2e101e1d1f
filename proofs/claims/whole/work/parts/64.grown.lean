theorem item_F {s : mm_g} {r i : Nat} (h : RRow s) (hr : r < 8) (hm : 0 ≤ s 7 2 r) (hi : ((i + 1 : Nat) : Int) ≤ (s 7 2 r).toInt) : F_X4_itemOf s (nI r) (nI i) = s 4 1 (40 * r + i) := by
  have hb := size_b h hr hm
  have e1 : (1 : Int32).toInt = 1 := rfl
  have q : ¬ F_X4_holds s (nI r) (nI i) 1 = 0 := (holds_F h hr hm).mpr ⟨by rw [nI_toInt (by omega)]; omega, by decide, by rw [nI_toInt (by omega), e1]; omega⟩
  unfold F_X4_itemOf
  rw [if_neg q, c40x (by omega) (by omega)]
theorem hear_3 {r a N : Nat} {K : Nat → mm_g → mm_g} (hr : r < 8) (ha : a < 100) (hN : N ≤ 12) : ∀ (n j : Nat) (s : mm_g), RRow s → 0 ≤ s 7 2 r → ((a + N : Nat) : Int) ≤ (s 7 2 r).toInt → j ≤ N → N - j < n → F_X3_hear_3 (nI r) (nI a) (nI N) K n j s = K N (mw s 3 1 (fun k => if j ≤ k ∧ k < N then s 4 1 (40 * r + a + k) else s 3 1 k)) := by
  intro n
  induction n with
  | zero => intro j s h0 hm hz h1 h2; omega
  | succ n ih =>
    intro j s h0 hm hz h1 h2
    unfold F_X3_hear_3
    by_cases q : j = N
    · rw [if_pos (show nI N ≤ nI j from nI_le (by omega) (by omega)), mw_id (fun i => by rw [if_neg (by omega)]), q]
    · have h3 : RRow (wr s 3 1 j (s 4 1 (40 * r + (a + j)))) := h0.q (fun t k i u => by unfold uRow at u; rw [wr_at, if_neg (by omega)])
      rw [if_neg (show ¬ nI N ≤ nI j from nI_ge (by omega) (by omega)), if_neg (show ¬ (12 : Int32) ≤ nI j from nI_ge (a := j) (b := 12) (by omega) (by decide)), c0 (b := j) (by omega), nI_add, item_F h0 hr hm (by omega), ih (j + 1) _ h3 (by rw [wr_nk (by decide)]; exact hm) (by rw [wr_nk (by decide)]; exact hz) (by omega) (by omega)]
      refine congrArg (K N) (mw_wr (fun i => ?_))
      try dsimp only
      by_cases e : i = j
      · subst e
        rw [if_neg (by omega), wr_ss, if_pos rfl, if_pos (by omega), Nat.add_assoc]
      · by_cases e2 : j + 1 ≤ i ∧ i < N
        · rw [if_pos e2, if_pos (by omega), wr_nk (by decide)]
        · rw [if_neg e2, wr_ss, if_neg e, if_neg (by omega)]
theorem hear_F {g : mm_g} {r a N : Nat} (h : RRow g) (hr : r < 8) (hm : 0 ≤ g 7 2 r) (hz : ((a + N : Nat) : Int) ≤ (g 7 2 r).toInt) (hN : N ≤ 12) : F_X3_hear g (nI r) (nI a) (nI N) = mw g 3 1 (fun k => if 0 ≤ k ∧ k < N then g 4 1 (40 * r + a + k) else g 3 1 k) := by
  have hb := size_b h hr hm
  unfold F_X3_hear
  rw [hear_3 hr (by omega) hN _ 0 g h hm hz (by omega) (by show N - 0 < 12 + 1; omega)]
/-! as it grew -/
def soL (T : Nat → Int32) (b : Nat) : Nat → Nat → Fl → Int32
  | 0, _, _ => 1
  | m + 1, k, h => if tideF h (18 + b) = T k then soL T b m (k + 1) (tideF h) else 0
theorem soL_eq {T T2 : Nat → Int32} {b : Nat} : ∀ (m k : Nat) {f f2 : Fl}, Vd f → b < nb f → EqF f f2 → (∀ i, k ≤ i → i < k + m → T2 i = T i) → soL T2 b m k f2 = soL T b m k f
  | 0, _, _, _, _, _, _, _ => rfl
  | m + 1, k, f, f2, v, hb, e, hT => by
    have e2 := tideF_eq v e
    have hb2 : b < nb (tideF f) := by rw [tideF_nb v]; exact hb
    rw [soL, soL, hT k (Nat.le_refl k) (by omega), ← (e2.bed b hb2).2.1, soL_eq m (k + 1) (tideF_vd v) hb2 e2 (fun i h1 h2 => hT i (by omega) (by omega))]
theorem told_2 {N b : Nat} {K : Nat → mm_g → Int32 × mm_g} (hK : ∀ j s, K j s = (1, s)) (hN : N ≤ 12) : ∀ (m n j : Nat) (s : mm_g), Vd (s 2 1) → b < nb (s 2 1) → m + j = N → m < n → (F_X3_growsAsTold_2 (nI b) (nI N) K n j s).1 = soL (s 3 1) b m j (s 2 1) ∧ Sc s (F_X3_growsAsTold_2 (nI b) (nI N) K n j s).2 ∧ (F_X3_growsAsTold_2 (nI b) (nI N) K n j s).2 3 1 = s 3 1 := by
  intro m
  induction m with
  | zero =>
    intro n j s v hb h1 h2
    obtain ⟨n1, e⟩ : ∃ n1, n = n1 + 1 := ⟨n - 1, by omega⟩
    subst e
    unfold F_X3_growsAsTold_2
    rw [if_pos (show nI N ≤ nI j from nI_le (by omega) (by omega)), hK]
    exact ⟨rfl, Sc_r, rfl⟩
  | succ m ih =>
    intro n j s v hb h1 h2
    obtain ⟨n1, e⟩ : ∃ n1, n = n1 + 1 := ⟨n - 1, by omega⟩
    subst e
    have hb2 : b < nb (tideF (s 2 1)) := by rw [tideF_nb v]; exact hb
    have v2 := tideF_vd v
    unfold F_X3_growsAsTold_2
    rw [if_neg (show ¬ nI N ≤ nI j from nI_ge (by omega) (by omega)), if_neg (show ¬ (12 : Int32) ≤ nI j from nI_ge (a := j) (b := 12) (by omega) (by decide)), flow_F v, stockOf_F (by rw [mw_s]; exact v2) (by rw [mw_s]; exact hb2), mw_s, mw_n _ _ (by decide), c0 (b := j) (by omega), soL]
    by_cases q : tideF (s 2 1) (18 + b) = s 3 1 j
    · rw [if_pos q, if_pos q]
      have h3 := ih n1 (j + 1) (mw s 2 1 (tideF (s 2 1))) (by rw [mw_s]; exact v2) (by rw [mw_s]; exact hb2) (by omega) (by omega)
      rw [mw_s, mw_n (k' := 1) _ _ (show ¬ (3 = 2 ∧ 1 = 1) by decide)] at h3
      exact ⟨h3.1, Sc_t (Sc_2 Sc_r) h3.2.1, h3.2.2⟩
    · rw [if_neg q, if_neg q]
      refine ⟨rfl, Sc_2 Sc_r, ?_⟩
      show mw s 2 1 (tideF (s 2 1)) 3 1 = s 3 1
      exact mw_n _ _ (by decide)
/-- which place is tried, with which values -/
def At (x2 : Int32) (b at' last : Nat) : Prop := (x2 = 0 ∧ at' = 9 + b ∧ last = 5) ∨ (x2 = 1 ∧ at' = 27 + b ∧ last = 9) ∨ (x2 = 2 ∧ at' = 3 ∧ last = 9)
theorem updA_nb {x2 x : Int32} {b p last : Nat} {f : Fl} (h : At x2 b p last) : nb (upd f p x) = nb f := upd_nb (by rcases h with ⟨_, e, _⟩ | ⟨_, e, _⟩ | ⟨_, e, _⟩ <;> omega)
theorem updA_eq {x2 x : Int32} {b p last : Nat} {f f2 : Fl} (h : At x2 b p last) (e : EqF f f2) : EqF (upd f p x) (upd f2 p x) := by
  have h1 := updA_nb (x := x) (f := f) h
  refine ⟨fun j hj => ?_, fun c hc => ?_⟩
  · unfold upd
    split
    · rfl
    · exact e.lo j hj
  · rw [h1] at hc
    have h2 := e.bed c hc
    unfold upd
    refine ⟨?_, ?_, ?_⟩
    · split
      · rfl
      · exact h2.1
    · split
      · rfl
      · exact h2.2.1
    · split
      · rfl
      · exact h2.2.2
theorem updA_vd {x2 : Int32} {b p last j : Nat} {f : Fl} (h : At x2 b p last) (hb : b < nb f) (v : Vd f) (h1 : j ≤ last) (h0 : x2 = 1 ∨ 1 ≤ j) : Vd (upd f p (nI j)) := by
  have hn := updA_nb (x := nI j) (f := f) h
  have h9 := v.n9
  have hp : p = 3 ∨ 9 ≤ p := by rcases h with ⟨_, e, _⟩ | ⟨_, e, _⟩ | ⟨_, e, _⟩ <;> omega
  have hl : last ≤ 9 := by rcases h with ⟨_, _, e⟩ | ⟨_, _, e⟩ | ⟨_, _, e⟩ <;> omega
  have hT := nI_toInt (n := j) (by omega)
  refine ⟨?_, ?_, ?_, ?_, fun c hc => ?_⟩
  · rw [upd, if_neg (by omega)]; exact v.b0
  · rw [upd, if_neg (by omega)]; exact v.ca
  · rw [upd, if_neg (by omega)]; exact v.cb
  · unfold upd
    split
    · rw [hT]; omega
    · exact v.lot
  · rw [hn] at hc
    have h2 := v.bed c hc
    unfold upd
    refine ⟨?_, ?_, ?_⟩
    · split
      · next z =>
        rcases h with ⟨e0, e, e3⟩ | ⟨_, e, _⟩ | ⟨_, e, _⟩
        · rw [hT]
          have : 1 ≤ j := h0.resolve_left (fun y => by rw [e0] at y; exact absurd y (by decide))
          omega
        · omega
        · omega
      · exact h2.1
    · split
      · next z => rcases h with ⟨_, e, _⟩ | ⟨_, e, _⟩ | ⟨_, e, _⟩ <;> omega
      · exact h2.2.1
    · split
      · rw [hT]; omega
      · exact h2.2.2
def grL (f : Fl) (p b N : Nat) (T : Nat → Int32) : Nat → Int32 → Nat → Int32
  | 0, a, _ => a
  | m + 1, a, j => if soL T b N 0 (upd f p (nI j)) = 0 then grL f p b N T m a (j + 1) else grL f p b N T m (a ||| ((1 : Int32) <<< (nI j &&& 31))) (j + 1)
theorem try_F {s : mm_g} {x2 : Int32} {b p last j : Nat} (h : At x2 b p last) (v : Vd (s 2 0)) (hb : b < nb (s 2 0)) : (x2 = 0 → F_X2_kindTo (F_X2_become s 1 0) 1 (nI b) (nI j) = mw s 2 1 (upd (thenF s) p (nI j))) ∧ (x2 = 1 → F_X2_warmTo (F_X2_become s 1 0) 1 (nI b) (nI j) = mw s 2 1 (upd (thenF s) p (nI j))) ∧ (x2 = 2 → F_X2_lotTo (F_X2_become s 1 0) 1 (nI j) = mw s 2 1 (upd (thenF s) p (nI j))) := by
  have hE := then_E v
  have h9 := v.n9
  have hv : Vd (mw s 2 1 (thenF s) 2 1) := by rw [mw_s]; exact hE.vd v
  have hh : F_X2_has (mw s 2 1 (thenF s)) 1 (nI b) = 1 := by rw [has_F hv, hasF_nI hv (by rw [mw_s, hE.nb]; exact hb)]
  rw [become_1]
  refine ⟨fun e => ?_, fun e => ?_, fun e => ?_⟩
  · unfold F_X2_kindTo wr
    rw [hh, if_neg (by decide), c0 (by omega), mw_s, mw_w]
    rcases h with ⟨_, e2, _⟩ | ⟨e2, _⟩ | ⟨e2, _⟩
    · rw [e2]
    · rw [e] at e2; exact absurd e2 (by decide)
    · rw [e] at e2; exact absurd e2 (by decide)
  · unfold F_X2_warmTo wr
    rw [hh, if_neg (by decide), c0 (by omega), mw_s, mw_w]
    rcases h with ⟨e2, _⟩ | ⟨_, e2, _⟩ | ⟨e2, _⟩
    · rw [e] at e2; exact absurd e2 (by decide)
    · rw [e2]
    · rw [e] at e2; exact absurd e2 (by decide)
  · unfold F_X2_lotTo wr
    rw [mw_s, mw_w]
    rcases h with ⟨e2, _⟩ | ⟨e2, _⟩ | ⟨_, e2, _⟩
    · rw [e] at e2; exact absurd e2 (by decide)
    · rw [e] at e2; exact absurd e2 (by decide)
    · rw [e2]
theorem by_49 {x2 f5 f6 : Int32} {b p last N : Nat} {f : Fl} {T : Nat → Int32} {K : Int32 → Nat → mm_g → Int32 × mm_g} (h : At x2 b p last) (h6 : f6 = nI last) (hN : N ≤ 12) (v : Vd f) (hb : b < nb f) : ∀ (m n : Nat) (a : Int32) (j : Nat) (s : mm_g), m + j = last + 1 → m < n → s 2 0 = f → s 3 1 = T → (x2 = 1 ∨ 1 ≤ j) → ∃ s2, F_X3_grownBy_49 0 (nI b) x2 (nI N) f5 f6 K n a j s = K (grL f p b N T m a j) (last + 1) s2 ∧ Sc s s2 := by
  have hl : last ≤ 9 := by rcases h with ⟨_, _, e⟩ | ⟨_, _, e⟩ | ⟨_, _, e⟩ <;> omega
  intro m
  induction m with
  | zero =>
    intro n a j s h1 h2 h3 h4 h5
    obtain ⟨n1, e⟩ : ∃ n1, n = n1 + 1 := ⟨n - 1, by omega⟩
    subst e
    unfold F_X3_grownBy_49
    rw [h6, if_pos (nI_lt (by omega) (by omega)), show j = last + 1 by omega]
    exact ⟨s, rfl, Sc_r⟩
  | succ m ih =>
    intro n a j s h1 h2 h3 h4 h5
    obtain ⟨n1, e⟩ : ∃ n1, n = n1 + 1 := ⟨n - 1, by omega⟩
    subst e
    have vs : Vd (s 2 0) := by rw [h3]; exact v
    have hbs : b < nb (s 2 0) := by rw [h3]; exact hb
    obtain ⟨t0, t1, t2⟩ := try_F (j := j) h vs hbs
    have hE := then_E vs
    have e1 : EqF (upd f p (nI j)) (upd (thenF s) p (nI j)) := by rw [← h3]; exact updA_eq h hE
    have v1 : Vd (upd f p (nI j)) := updA_vd h hb v (by omega) h5
    have hbu : b < nb (upd f p (nI j)) := by rw [updA_nb h]; exact hb
    obtain ⟨k1, k2, k3⟩ := told_2 (N := N) (b := b) (K := fun (j2 : Nat) (s2 : mm_g) => ((1 : Int32), s2)) (fun _ _ => rfl) hN N ((12 : Int32).toInt.toNat + 1) 0 (mw s 2 1 (upd (thenF s) p (nI j))) (by rw [mw_s]; exact e1.vd v1) (by rw [mw_s, e1.nb]; exact hbu) rfl (by show N < 12 + 1; omega)
    rw [mw_s, mw_n (k' := 1) _ _ (show ¬ (3 = 2 ∧ 1 = 1) by decide), h4, soL_eq N 0 v1 hbu e1 (fun _ _ _ => rfl)] at k1
    rw [mw_n (k' := 1) _ _ (show ¬ (3 = 2 ∧ 1 = 1) by decide)] at k3
    have kk : Sc s (F_X3_growsAsTold (mw s 2 1 (upd (thenF s) p (nI j))) (nI b) (nI N)).2 := Sc_t (Sc_2 Sc_r) k2
    have k1' : (F_X3_growsAsTold (mw s 2 1 (upd (thenF s) p (nI j))) (nI b) (nI N)).1 = soL T b N 0 (upd f p (nI j)) := k1
    have k3' : (F_X3_growsAsTold (mw s 2 1 (upd (thenF s) p (nI j))) (nI b) (nI N)).2 3 1 = T := Eq.trans k3 h4
    have f2 : (F_X3_growsAsTold (mw s 2 1 (upd (thenF s) p (nI j))) (nI b) (nI N)).2 2 0 = f := (kk 2 0 (by decide) (by decide)).trans h3
    have hgo : ∀ a', ∃ s2, F_X3_grownBy_49 0 (nI b) x2 (nI N) f5 f6 K n1 a' (j + 1) (F_X3_growsAsTold (mw s 2 1 (upd (thenF s) p (nI j))) (nI b) (nI N)).2 = K (grL f p b N T m a' (j + 1)) (last + 1) s2 ∧ Sc s s2 := fun a' => by
      obtain ⟨s2, y1, y2⟩ := ih n1 a' (j + 1) _ (by omega) (by omega) f2 k3' (Or.inr (by omega))
      exact ⟨s2, y1, Sc_t kk y2⟩
    have hun : F_X3_grownBy_49 0 (nI b) x2 (nI N) f5 f6 K (n1 + 1) a j s = if soL T b N 0 (upd f p (nI j)) = 0 then F_X3_grownBy_49 0 (nI b) x2 (nI N) f5 f6 K n1 a (j + 1) (F_X3_growsAsTold (mw s 2 1 (upd (thenF s) p (nI j))) (nI b) (nI N)).2 else F_X3_grownBy_49 0 (nI b) x2 (nI N) f5 f6 K n1 (a ||| ((1 : Int32) <<< (nI j &&& 31))) (j + 1) (F_X3_growsAsTold (mw s 2 1 (upd (thenF s) p (nI j))) (nI b) (nI N)).2 := by
      rw [F_X3_grownBy_49, h6, if_neg (nI_nlt (by omega) (by omega))]
      rcases h with ⟨e2, _⟩ | ⟨e2, _⟩ | ⟨e2, _⟩
      · rw [if_pos e2, t0 e2, k1']
      · rw [if_neg (by rw [e2]; decide), if_pos e2, t1 e2, k1']
      · rw [if_neg (by rw [e2]; decide), if_neg (by rw [e2]; decide), t2 e2, k1']
    rw [hun, grL]
    by_cases z : soL T b N 0 (upd f p (nI j)) = 0
    · rw [if_pos z, if_pos z]; exact hgo a
    · rw [if_neg z, if_neg z]; exact hgo _
theorem grL_eq {f f2 : Fl} {x2 : Int32} {p b N last : Nat} {T T2 : Nat → Int32} (h : At x2 b p last) (v : Vd f) (hb : b < nb f) (e : EqF f f2) (hT : ∀ i, i < N → T2 i = T i) : ∀ (m : Nat) (a : Int32) (j : Nat), m + j = last + 1 → (x2 = 1 ∨ 1 ≤ j) → grL f2 p b N T2 m a j = grL f p b N T m a j
  | 0, _, _, _, _ => rfl
  | m + 1, a, j, h1, h2 => by
    have h3 : soL T2 b N 0 (upd f2 p (nI j)) = soL T b N 0 (upd f p (nI j)) := soL_eq N 0 (updA_vd h hb v (by omega) h2) (by rw [updA_nb h]; exact hb) (updA_eq h e) (fun i _ hi => hT i (by omega))
    rw [grL, grL, h3, grL_eq h v hb e hT m _ (j + 1) (by omega) (Or.inr (by omega)), grL_eq h v hb e hT m _ (j + 1) (by omega) (Or.inr (by omega))]
/-! the reference -/
theorem so_6 {b q N : Nat} {T : Nat → Int32} {K : Int32 → Nat → mm_g → Int32 × mm_g} (hq : q < 1000) (hN : N < 100) : ∀ (m n : Nat) (a : Int32) (j : Nat) (s : mm_g), m + j = N → m < n → Vd (s 7 4) → b < nb (s 7 4) → (∀ k, s 7 3 (q + k) = T k) → (a = 0 ∨ a = 1) → ∃ h, F_X7_isSo_6 (nI b) (nI q) (nI N) K n a j s = K (if a = 0 then 0 else soL T b m j (s 7 4)) N (mw s 7 4 h) := by
  intro m
  induction m with
  | zero =>
    intro n a j s h1 h2 v hb hT ha
    obtain ⟨n1, e⟩ : ∃ n1, n = n1 + 1 := ⟨n - 1, by omega⟩
    subst e
    unfold F_X7_isSo_6
    rw [if_pos (show nI N ≤ nI j from nI_le (by omega) (by omega)), show j = N by omega]
    refine ⟨s 7 4, ?_⟩
    rw [mw_i]
    rcases ha with e | e <;> subst e
    · rw [if_pos rfl]
    · rw [if_neg (by decide)]; rfl
  | succ m ih =>
    intro n a j s h1 h2 v hb hT ha
    obtain ⟨n1, e⟩ : ∃ n1, n = n1 + 1 := ⟨n - 1, by omega⟩
    subst e
    have h9 := v.n9
    have hb2 : b < nb (tideF (s 7 4)) := by rw [tideF_nb v]; exact hb
    have v2 := tideF_vd v
    have hT2 : ∀ k, mw s 7 4 (tideF (s 7 4)) 7 3 (q + k) = T k := fun k => by rw [mw_n _ _ (by decide)]; exact hT k
    have go : ∀ a', (a' = 0 ∨ a' = 1) → ∃ h, F_X7_isSo_6 (nI b) (nI q) (nI N) K n1 a' (j + 1) (mw s 7 4 (tideF (s 7 4))) = K (if a' = 0 then 0 else soL T b m (j + 1) (tideF (s 7 4))) N (mw s 7 4 h) := fun a' h' => by
      obtain ⟨h, e⟩ := ih n1 a' (j + 1) (mw s 7 4 (tideF (s 7 4))) (by omega) (by omega) (by rw [mw_s]; exact v2) (by rw [mw_s]; exact hb2) hT2 h'
      rw [mw_s, mw_w] at e
      exact ⟨h, e⟩
    unfold F_X7_isSo_6
    rw [if_neg (show ¬ nI N ≤ nI j from nI_ge (by omega) (by omega)), oneTide_F v, nI_add, nI_clamp (by omega), hT2, c18 (by omega), mw_s]
    rcases ha with e | e <;> subst e
    · rw [if_pos rfl, if_pos rfl]
      obtain ⟨h, e⟩ := go 0 (Or.inl rfl)
      exact ⟨h, e⟩
    · rw [if_neg (show ¬ (1 : Int32) = 0 by decide), if_neg (show ¬ (1 : Int32) = 0 by decide), soL]
      by_cases z : tideF (s 7 4) (18 + b) = T j
      · rw [if_pos z.symm, if_pos z]
        obtain ⟨h, e⟩ := go 1 (Or.inr rfl)
        exact ⟨h, e⟩
      · rw [if_neg (fun y => z y.symm), if_neg z]
        obtain ⟨h, e⟩ := go 0 (Or.inl rfl)
        exact ⟨h, e⟩
/-- the reference's flat is as it was put aside -/
def Sz (g s : mm_g) : Prop := Sw g s ∧ ∀ j, j < 36 → s 7 4 j = g 7 4 j
theorem Sz_sr {g s : mm_g} (h : Sz g s) : Sr g s := ⟨h.1.1, fun k j q => by
  by_cases e : k = 4
  · subst e
    have := q.2.2
    exact h.2 j (by omega)
  · exact h.1.2.1 k j q e⟩
theorem Sz_b {g s : mm_g} (h : Sw g s) : Sz g (F_X7_takeBack s) := by
  rw [takeBack_F]
  exact ⟨Sw_f h, fun j hj => by rw [mw_s, cpy, if_pos hj]; exact h.2.2 j hj⟩
theorem Sz_eq {g s : mm_g} {f : Fl} (h : Sz g s) (e : EqF f (g 7 4)) (h9 : nb f ≤ 9) : EqF f (s 7 4) := EqF_far e h9 h.2
theorem gr_109 {g : mm_g} {x2 x3 x4 f6 f7 : Int32} {b p last q N : Nat} {f : Fl} {T : Nat → Int32} {K : Int32 → Nat → mm_g → Int32 × mm_g} (h : At x2 b p last) (h7 : f7.toNatClampNeg = p) (hq : 40 * x3 + x4 = nI q) (hq2 : q < 1000) (hN : N < 100) (v : Vd f) (hb : b < nb f) (e0 : EqF f (g 7 4)) (hT : ∀ k, g 7 3 (q + k) = T k) : ∀ (m n : Nat) (a : Int32) (j : Nat) (s : mm_g), m + j = last + 1 → m < n → Sz g s → (x2 = 1 ∨ 1 ≤ j) → ∃ s2, F_X7_grown_109 (nI b) x2 x3 x4 (nI N) f6 f7 K n a j s = K (grL f p b N T m a j) (last + 1) s2 ∧ Sz g s2 := by
  have hl : last ≤ 9 := by rcases h with ⟨_, _, e⟩ | ⟨_, _, e⟩ | ⟨_, _, e⟩ <;> omega
  have h9 := v.n9
  intro m
  induction m with
  | zero =>
    intro n a j s h1 h2 hs h5
    obtain ⟨n1, e⟩ : ∃ n1, n = n1 + 1 := ⟨n - 1, by omega⟩
    subst e
    unfold F_X7_grown_109
    refine ⟨s, ?_, hs⟩
    rcases h with ⟨e1, _, e2⟩ | ⟨e1, _, e2⟩ | ⟨e1, _, e2⟩
    · rw [if_pos e1, if_pos (show (5 : Int32) < nI j from nI_lt (a := 5) (b := j) (by omega) (by omega)), show j = last + 1 by omega]; rfl
    · rw [if_neg (by rw [e1]; decide), if_pos (show (9 : Int32) < nI j from nI_lt (a := 9) (b := j) (by omega) (by omega)), show j = last + 1 by omega]; rfl
    · rw [if_neg (by rw [e1]; decide), if_pos (show (9 : Int32) < nI j from nI_lt (a := 9) (b := j) (by omega) (by omega)), show j = last + 1 by omega]; rfl
  | succ m ih =>
    intro n a j s h1 h2 hs h5
    obtain ⟨n1, e⟩ : ∃ n1, n = n1 + 1 := ⟨n - 1, by omega⟩
    subst e
    have eS := Sz_eq hs e0 h9
    have e1 : EqF (upd f p (nI j)) (upd (s 7 4) p (nI j)) := updA_eq h eS
    have v1 : Vd (upd f p (nI j)) := updA_vd h hb v (by omega) h5
    have hbu : b < nb (upd f p (nI j)) := by rw [updA_nb h]; exact hb
    have eW : wr s 7 4 p (nI j) = mw s 7 4 (upd (s 7 4) p (nI j)) := rfl
    obtain ⟨y, ey⟩ := so_6 (b := b) (q := q) (N := N) (T := T) (K := fun (a6 : Int32) (j6 : Nat) (s6 : mm_g) => (a6, (F_X7_takeBack s6))) hq2 hN N ((nI N).toInt.toNat + 1) 1 0 (mw s 7 4 (upd (s 7 4) p (nI j))) rfl (by rw [nI_n (by omega)]; omega) (by rw [mw_s]; exact e1.vd v1) (by rw [mw_s, e1.nb]; exact hbu) (fun k => by rw [mw_n _ _ (by decide), hs.1.2.1 3 _ (by unfold sees7; omega) (by decide)]; exact hT k) (Or.inr rfl)
    rw [if_neg (by decide), mw_s, mw_w, soL_eq N 0 v1 hbu e1 (fun _ _ _ => rfl)] at ey
    have eso : F_X7_isSo (wr s 7 4 f7.toNatClampNeg (nI j)) (nI b) (40 * x3 + x4) (nI N) = (soL T b N 0 (upd f p (nI j)), F_X7_takeBack (mw s 7 4 y)) := by
      rw [h7, eW, hq]
      exact ey
    have go : ∀ a', ∃ s2, F_X7_grown_109 (nI b) x2 x3 x4 (nI N) f6 f7 K n1 a' (j + 1) (F_X7_takeBack (mw s 7 4 y)) = K (grL f p b N T m a' (j + 1)) (last + 1) s2 ∧ Sz g s2 := fun a' => ih n1 a' (j + 1) _ (by omega) (by omega) (Sz_b (Sw_f hs.1)) (Or.inr (by omega))
    rw [F_X7_grown_109, eso, grL, Int32.or_zero]
    have hun : ∀ (A B : Int32 × mm_g), (if x2 = 0 then (if 5 < nI j then K a j s else A) else (if 9 < nI j then K a j s else B)) = if x2 = 0 then A else B := fun A B => by
      rcases h with ⟨e1, _, e2⟩ | ⟨e1, _, e2⟩ | ⟨e1, _, e2⟩
      · rw [if_pos e1, if_neg (show ¬ (5 : Int32) < nI j from nI_nlt (a := 5) (b := j) (by omega) (by omega)), if_pos e1]
      · rw [if_neg (by rw [e1]; decide), if_neg (show ¬ (9 : Int32) < nI j from nI_nlt (a := 9) (b := j) (by omega) (by omega)), if_neg (by rw [e1]; decide)]
      · rw [if_neg (by rw [e1]; decide), if_neg (show ¬ (9 : Int32) < nI j from nI_nlt (a := 9) (b := j) (by omega) (by omega)), if_neg (by rw [e1]; decide)]
    rw [hun]
    by_cases z : soL T b N 0 (upd f p (nI j)) = 0
    · rw [if_pos z, if_pos z, ite_self]; exact go a
    · rw [if_neg z, if_neg z, ite_self]; exact go _
theorem lack_h {g : mm_g} {r : Nat} {i n : Int32} (h : RRow g) (hr : r < 8) (hm : 0 ≤ g 7 2 r) (hn : 0 ≤ n.toInt ∧ n.toInt ≤ 40) : F_X7_in i.toInt64 0 (g 7 2 r - n).toInt64 = 0 ↔ F_X4_holds g (nI r) i n = 0 := by
  have hb := size_b h hr hm
  rw [← in_holds h hr hm hn.1, show (g 7 2 r - n).toInt64 = (g 7 2 r).toInt64 - n.toInt64 from Int64.toInt_inj.mp (by
    rw [Int32.toInt_toInt64, Int64.toInt_sub, Int32.toInt_toInt64, Int32.toInt_toInt64, Int32.toInt_sub, Int.bmod_eq_of_le_mul_two (by omega) (by omega), Int.bmod_eq_of_le_mul_two (by omega) (by omega)])]
theorem e_grown {n : Nat} {g : mm_g} {x1 x2 x3 x4 x5 : Int32} (hr : Rel n g) : Ok n g (F_X6_grown g x1 x2 x3 x4 x5) (fun s => F_X7_grown s x1 x2 x3 x4 x5) ∧ Fr g (F_X6_grown g x1 x2 x3 x4 x5).2 := by
  have hv := hr.now.1
  have hR := hr.row
  by_cases q1 : hasF (g 2 0) x1 = 0
  · refine Ok_b hr (a := -1000001) ?_ ?_
    · unfold F_X6_grown; rw [no_bed2 hr, if_pos q1]
    · show F_X7_grown g x1 x2 x3 x4 x5 = _
      unfold F_X7_grown; rw [no_bed hr, if_pos q1]
  · by_cases q2 : F_X6_within x2 0 2 = 0
    · refine Ok_b hr (a := -1000001) ?_ ?_
      · unfold F_X6_grown; rw [no_bed2 hr, if_neg q1, if_pos q2]
      · show F_X7_grown g x1 x2 x3 x4 x5 = _
        unfold F_X7_grown; rw [no_bed hr, if_neg q1, in_w (a := 0) (b := 2) (A := 0) (B := 2) rfl rfl, if_pos q2]
    · by_cases q3 : F_X6_within x3 0 7 = 0
      · refine Ok_b hr (a := -1000001) ?_ ?_
        · unfold F_X6_grown; rw [no_bed2 hr, if_neg q1, if_neg q2, if_pos q3]
        · show F_X7_grown g x1 x2 x3 x4 x5 = _
          unfold F_X7_grown; rw [no_bed hr, if_neg q1, in_w (a := 0) (b := 2) (A := 0) (B := 2) rfl rfl, if_neg q2, isRow_within, if_pos q3]
      · by_cases q4 : F_X6_within x5 1 12 = 0
        · refine Ok_b hr (a := -1000001) ?_ ?_
          · unfold F_X6_grown; rw [no_bed2 hr, if_neg q1, if_neg q2, if_neg q3, if_pos q4]
          · show F_X7_grown g x1 x2 x3 x4 x5 = _
            unfold F_X7_grown; rw [no_bed hr, if_neg q1, in_w (a := 0) (b := 2) (A := 0) (B := 2) rfl rfl, if_neg q2, isRow_within, if_neg q3, in_w (a := 1) (b := 12) (A := 1) (B := 12) rfl rfl, if_pos q4]
        · obtain ⟨r, h8, e⟩ := within_nI (n := 7) (by decide) q3
          subst e
          have hm := miss_F hR (show r < 8 by omega)
          have hn5 := within_iff.mp q4
          have e1 : (1 : Int32).toInt = 1 := rfl
          have e12 : (12 : Int32).toInt = 12 := rfl
          obtain ⟨N, hN, e⟩ := nI_ofT (x := x5) (m := 12) (by omega)
          subst e
          obtain ⟨b, hb, e⟩ := (hasF_iff hv).mp q1
          subst e
          have hT : (nI N).toInt = N := nI_toInt (by omega)
          have b2 : ∀ u, F_X7_isBed (wr g 6 0 1 u) (nI b) = hasF (g 2 0) (nI b) := fun u => by rw [← no_bed hr]; unfold F_X7_isBed; rw [wr67]
          have hun : ∀ u, ¬ 0 ≤ (F_X7_lacks (wr g 6 0 1 u) (nI r) x4 (nI N)).1 → F_X7_grown (wr g 6 0 1 u) (nI b) x2 (nI r) x4 (nI N) = F_X7_lacks (wr g 6 0 1 u) (nI r) x4 (nI N) := fun u hu => by
            unfold F_X7_grown; rw [b2, if_neg q1, in_w (a := 0) (b := 2) (A := 0) (B := 2) rfl rfl, if_neg q2, isRow_within, if_neg q3, in_w (a := 1) (b := 12) (A := 1) (B := 12) rfl rfl, if_neg q4, if_neg hu]
          by_cases q5 : 0 ≤ g 7 2 r
          · by_cases q6 : F_X4_holds g (nI r) x4 (nI N) = 0
            · have hl : F_X7_lacks (wr g 6 0 1 2) (nI r) x4 (nI N) = F_X7_find (wr g 6 0 1 2) 2 := by
                unfold F_X7_lacks; rw [c0 (by omega), wr_67, if_pos q5, if_pos ((lack_h hR (by omega) q5 (by omega)).mpr q6)]
              refine Ok_e (u := 2) hr ?_ ?_
              · unfold F_X6_grown; rw [no_bed2 hr, if_neg q1, if_neg q2, if_neg q3, if_neg q4, if_pos (hm.mpr q5), if_pos q6]
              · show F_X7_grown (wr g 6 0 1 2) (nI b) x2 (nI r) x4 (nI N) = _
                rw [hun 2 (by rw [hl]; show ¬ (0 : Int32) ≤ -1000010 - 2; decide), hl]
            · have k6 := (holds_F hR (show r < 8 by omega) q5).mp q6
              have hsz := size_b hR (show r < 8 by omega) q5
              obtain ⟨a, ha, e⟩ := nI_ofT (x := x4) (m := 40) (by omega)
              subst e
              rw [nI_toInt (by omega), nI_toInt (by omega)] at k6
              have hH := hear_F (a := a) (N := N) hR (show r < 8 by omega) q5 (by omega) hN
              have hsc : Sc g (F_X3_hear g (nI r) (nI a) (nI N)) := by rw [hH]; exact Sc_3 Sc_r
              have hf : (F_X3_hear g (nI r) (nI a) (nI N)) 2 0 = g 2 0 := hsc 2 0 (by decide) (by decide)
              have hi0 : x2 = 0 ∨ x2 = 1 ∨ x2 = 2 := by
                obtain ⟨j, hj, e⟩ := within_nI (n := 2) (by decide) q2
                subst e
                rcases (show j = 0 ∨ j = 1 ∨ j = 2 by omega) with z | z | z <;> subst z
                · exact Or.inl rfl
                · exact Or.inr (Or.inl rfl)
                · exact Or.inr (Or.inr rfl)
              -- what both compute
              obtain ⟨p, last, j0, hA, hj0, hjl, hdef⟩ : ∃ p last j0, At x2 b p last ∧ (x2 = 1 ∨ 1 ≤ j0) ∧ j0 ≤ last + 1 ∧ ((x2 = 0 ∧ j0 = 1) ∨ (x2 = 1 ∧ j0 = 0) ∨ (x2 = 2 ∧ j0 = 1)) := by
                rcases hi0 with z | z | z
                · exact ⟨9 + b, 5, 1, Or.inl ⟨z, rfl, rfl⟩, Or.inr (by decide), by decide, Or.inl ⟨z, rfl⟩⟩
                · exact ⟨27 + b, 9, 0, Or.inr (Or.inl ⟨z, rfl, rfl⟩), Or.inl z, by decide, Or.inr (Or.inl ⟨z, rfl⟩)⟩
                · exact ⟨3, 9, 1, Or.inr (Or.inr ⟨z, rfl, rfl⟩), Or.inr (by decide), by decide, Or.inr (Or.inr ⟨z, rfl⟩)⟩
              have hC : ∃ s2, F_X3_grownBy (F_X3_hear g (nI r) (nI a) (nI N)) 0 (nI b) x2 (nI N) = (grL (g 2 0) p b N ((F_X3_hear g (nI r) (nI a) (nI N)) 3 1) (last + 1 - j0) 0 j0, s2) ∧ Sc g s2 := by
                have go : ∀ (f5 f6 : Int32), f6 = nI last → ∃ s2, F_X3_grownBy_49 0 (nI b) x2 (nI N) f5 f6 (fun (a49 : Int32) (j49 : Nat) (s49 : mm_g) => (a49, s49)) 12 0 j0 (F_X3_hear g (nI r) (nI a) (nI N)) = (grL (g 2 0) p b N ((F_X3_hear g (nI r) (nI a) (nI N)) 3 1) (last + 1 - j0) 0 j0, s2) ∧ Sc g s2 := fun f5 f6 h6 => by
                  have hl9 : last ≤ 9 := by rcases hA with ⟨_, _, e⟩ | ⟨_, _, e⟩ | ⟨_, _, e⟩ <;> omega
                  obtain ⟨s2, y1, y2⟩ := by_49 (f5 := f5) (K := fun (a49 : Int32) (j49 : Nat) (s49 : mm_g) => (a49, s49)) hA h6 hN hv hb (last + 1 - j0) 12 0 j0 (F_X3_hear g (nI r) (nI a) (nI N)) (by omega) (by omega) hf rfl hj0
                  exact ⟨s2, y1, Sc_t hsc y2⟩
                unfold F_X3_grownBy
                rcases hA with ⟨z, _, zl⟩ | ⟨z, _, zl⟩ | ⟨z, _, zl⟩
                · rcases hdef with ⟨_, w⟩ | ⟨w, _⟩ | ⟨w, _⟩
                  · rw [if_pos z]; rw [w] at go ⊢; exact go 1 5 (by rw [zl]; rfl)
                  · rw [z] at w; exact absurd w (by decide)
                  · rw [z] at w; exact absurd w (by decide)
                · rcases hdef with ⟨w, _⟩ | ⟨_, w⟩ | ⟨w, _⟩
                  · rw [z] at w; exact absurd w (by decide)
                  · rw [if_neg (by rw [z]; decide), if_pos z]; rw [w] at go ⊢; exact go 0 9 (by rw [zl]; rfl)
                  · rw [z] at w; exact absurd w (by decide)
                · rcases hdef with ⟨w, _⟩ | ⟨w, _⟩ | ⟨_, w⟩
                  · rw [z] at w; exact absurd w (by decide)
                  · rw [z] at w; exact absurd w (by decide)
                  · rw [if_neg (by rw [z]; decide), if_neg (by rw [z]; decide)]; rw [w] at go ⊢; exact go 1 9 (by rw [zl]; rfl)
              obtain ⟨s2, c1, c2⟩ := hC
              have hF : F_X6_grown g (nI b) x2 (nI r) (nI a) (nI N) = (grL (g 2 0) p b N ((F_X3_hear g (nI r) (nI a) (nI N)) 3 1) (last + 1 - j0) 0 j0, wr s2 6 0 1 0) := by
                unfold F_X6_grown; rw [no_bed2 hr, if_neg q1, if_neg q2, if_neg q3, if_neg q4, if_pos (hm.mpr q5), if_neg q6, c1]; rfl
              have g7 : ∀ k, wr s2 6 0 1 0 7 k = g 7 k := fun k => by rw [wr67]; exact c2 7 k (by omega) (by decide)
              have he := hr.now.2.2.1
              have h9 := hv.n9
              have hq : 40 * nI r + nI a = nI (40 * r + a) := by rw [show (40 : Int32) = nI 40 from rfl, pk_mul, nI_add]
              have hQ : ∃ s3, F_X7_grown (wr s2 6 0 1 0) (nI b) x2 (nI r) (nI a) (nI N) = (grL (g 2 0) p b N (fun k => g 7 3 (40 * r + a + k)) (last + 1 - j0) 0 j0, wr s3 7 0 0 0) ∧ Sr (wr s2 6 0 1 0) s3 := by
                have hl : F_X7_lacks (wr s2 6 0 1 0) (nI r) (nI a) (nI N) = (0, wr s2 6 0 1 0) := by
                  unfold F_X7_lacks; rw [c0 (by omega), g7, if_pos q5, if_neg (fun z => q6 ((lack_h hR (by omega) q5 (by omega)).mp z))]
                have b3 : F_X7_isBed (wr s2 6 0 1 0) (nI b) = hasF (g 2 0) (nI b) := by rw [← no_bed hr]; unfold F_X7_isBed; rw [g7]
                have go : ∀ (f6 f7 : Int32), f7.toNatClampNeg = p → ∃ s3, F_X7_grown_109 (nI b) x2 (nI r) (nI a) (nI N) f6 f7 (fun (a109 : Int32) (j109 : Nat) (s109 : mm_g) => ((F_X7_well s109 a109).1, (F_X7_well s109 a109).2)) 12 0 j0 (F_X7_putAside (wr s2 6 0 1 0)) = (grL (g 2 0) p b N (fun k => g 7 3 (40 * r + a + k)) (last + 1 - j0) 0 j0, wr s3 7 0 0 0) ∧ Sr (wr s2 6 0 1 0) s3 := fun f6 f7 h7 => by
                  have hl9 : last ≤ 9 := by rcases hA with ⟨_, _, e⟩ | ⟨_, _, e⟩ | ⟨_, _, e⟩ <;> omega
                  obtain ⟨s3, y1, y2⟩ := gr_109 (g := wr s2 6 0 1 0) (N := N) (f6 := f6) (T := fun k => g 7 3 (40 * r + a + k)) (K := fun (a109 : Int32) (j109 : Nat) (s109 : mm_g) => ((F_X7_well s109 a109).1, (F_X7_well s109 a109).2)) hA h7 hq (by omega) (by omega) hv hb (by rw [g7]; exact he) (fun k => by rw [g7]) (last + 1 - j0) 12 0 j0 (F_X7_putAside (wr s2 6 0 1 0)) (by omega) (by omega) ⟨Sw_a, fun j hj => by rw [aside_4F]⟩ hj0
                  exact ⟨s3, y1, Sz_sr y2⟩
                unfold F_X7_grown
                rw [b3, if_neg q1, in_w (a := 0) (b := 2) (A := 0) (B := 2) rfl rfl, if_neg q2, isRow_within, if_neg q3, in_w (a := 1) (b := 12) (A := 1) (B := 12) rfl rfl, if_neg q4, hl, if_pos (show (0 : Int32) ≤ (0, wr s2 6 0 1 0).1 from (by decide : (0 : Int32) ≤ 0))]
                rcases hA with ⟨z, zp, zl⟩ | ⟨z, zp, zl⟩ | ⟨z, zp, zl⟩
                · rcases hdef with ⟨_, w⟩ | ⟨w, _⟩ | ⟨w, _⟩
                  · rw [if_pos z, if_neg (by rw [z]; decide)]; rw [w] at go ⊢; exact go _ (9 + nI b) (by rw [zp, c9 (by omega)])
                  · rw [z] at w; exact absurd w (by decide)
                  · rw [z] at w; exact absurd w (by decide)
                · rcases hdef with ⟨w, _⟩ | ⟨_, w⟩ | ⟨w, _⟩
                  · rw [z] at w; exact absurd w (by decide)
                  · rw [if_neg (by rw [z]; decide), if_pos z]; rw [w] at go ⊢; exact go _ (27 + nI b) (by rw [zp, c27 (by omega)])
                  · rw [z] at w; exact absurd w (by decide)
                · rcases hdef with ⟨w, _⟩ | ⟨w, _⟩ | ⟨_, w⟩
                  · rw [z] at w; exact absurd w (by decide)
                  · rw [z] at w; exact absurd w (by decide)
                  · rw [if_neg (by rw [z]; decide), if_neg (by rw [z]; decide)]; rw [w] at go ⊢; exact go _ 3 (by rw [zp]; decide)
              obtain ⟨s3, d1, d2⟩ := hQ
              have hT2 : ∀ i, i < N → (fun k => g 7 3 (40 * r + a + k)) i = ((F_X3_hear g (nI r) (nI a) (nI N)) 3 1) i := fun i hi => by
                have h5 := ((hR r (by omega)).2.2 (by rw [(hR r (by omega)).1]; intro z; rw [z] at q5; exact absurd q5 (by decide))).2 (a + i) (by rw [(hR r (by omega)).1]; omega)
                show g 7 3 (40 * r + a + i) = _
                rw [hH, mw_s, if_pos ⟨Nat.zero_le _, hi⟩, Nat.add_assoc]
                exact h5.symm
              rw [hF]
              refine Ok_w (u := 0) (a := grL (g 2 0) p b N ((F_X3_hear g (nI r) (nI a) (nI N)) 3 1) (last + 1 - j0) 0 j0) (g1 := s2) (s := s3) hr rfl c2 ?_ d2
              show F_X7_grown (wr s2 6 0 1 0) (nI b) x2 (nI r) (nI a) (nI N) = _
              rw [d1, grL_eq hA hv hb EqF.rfl hT2 _ _ _ (by omega) hj0]
          · have hl : F_X7_lacks (wr g 6 0 1 1) (nI r) x4 (nI N) = F_X7_find (wr g 6 0 1 1) 1 := by
              unfold F_X7_lacks; rw [c0 (by omega), wr_67, if_neg q5]
            refine Ok_e (u := 1) hr ?_ ?_
            · unfold F_X6_grown; rw [no_bed2 hr, if_neg q1, if_neg q2, if_neg q3, if_neg q4, if_neg (fun z => q5 (hm.mp z))]
            · show F_X7_grown (wr g 6 0 1 1) (nI b) x2 (nI r) x4 (nI N) = _
              rw [hun 1 (by rw [hl]; show ¬ (0 : Int32) ≤ -1000010 - 1; decide), hl]
