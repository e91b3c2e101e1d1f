/-! the memory behind both constructors -/
def ls_ix (t k c : Nat) : Nat := if t = 0 then 12 + c else if t = 1 then 24 + c else if t = 2 then (if k = 0 then 7 + c else 16 + c) else if t = 3 then (if c = 0 then 15 else 20 + c) else if t = 4 then 1 + c else if t = 5 then 5 + c else if t = 6 then (if c = 0 then 0 else 14) else 26 + c
def ls_pr (t k : Nat) : Prop := t ≤ 7 ∧ (k = 0 ∨ (t = 2 ∧ k = 1))
def ls_ad (ws : va_W) (t k c : Nat) : Nat := ((ws[ls_ix t k c]?).map Prod.fst).getD 0
def ls_g : mm_g := fun t k => if (t = 4 ∧ k = 3) ∨ (t = 7 ∧ k = 2) then mz 8 else fun _ => 0
theorem ls_W : mm_W ls_pr := ⟨⟨by decide, Or.inl rfl⟩, ⟨by decide, Or.inl rfl⟩, ⟨by decide, Or.inl rfl⟩, ⟨by decide, Or.inr ⟨rfl, rfl⟩⟩, ⟨by decide, Or.inl rfl⟩, ⟨by decide, Or.inl rfl⟩, ⟨by decide, Or.inl rfl⟩, ⟨by decide, Or.inl rfl⟩, ⟨by decide, Or.inl rfl⟩⟩
theorem ls_F : okF ls_pr ls_g := ⟨fun i h => absurd rfl h, fun i _ _ z => by unfold ls_pr at z; omega, fun i h => absurd rfl h, fun i _ _ z => by unfold ls_pr at z; omega⟩
theorem ls_R : Rel 0 ls_g := by
  refine ⟨⟨fun r hr => ?_, ⟨0, by decide, rfl, rfl, fun i hi => absurd hi (Nat.not_lt_zero i)⟩, rfl, ⟨⟨(by decide : 0 ≤ (0 : Int32).toInt ∧ (0 : Int32).toInt ≤ 9), (by decide : 0 ≤ (0 : Int32).toInt ∧ (0 : Int32).toInt ≤ 8), (by decide : 0 ≤ (0 : Int32).toInt ∧ (0 : Int32).toInt ≤ 8), (by decide : 0 ≤ (0 : Int32).toInt ∧ (0 : Int32).toInt ≤ 9), fun b hb => absurd hb (Nat.not_lt_zero b)⟩, fun i _ => (by decide : 0 ≤ (0 : Int32).toInt ∧ (0 : Int32).toInt ≤ 74 * (0 : Nat)), ⟨fun _ _ => rfl, fun b hb => absurd hb (Nat.not_lt_zero b)⟩, rfl⟩, ⟨0, 0, by decide, by decide, rfl, rfl, rfl, fun h => absurd h (Nat.lt_irrefl 0), fun i hi => absurd hi (Nat.not_lt_zero i)⟩, fun k _ => ⟨⟨fun _ => rfl, fun _ => rfl⟩, fun h => absurd rfl h⟩, ⟨0, by decide, rfl, rfl, fun i hi => absurd hi (Nat.not_lt_zero i)⟩⟩, rfl⟩
  have h1 : ls_g 4 3 r = -1 := if_pos hr
  have h2 : ls_g 7 2 r = -1 := if_pos hr
  rw [h1, h2]
  exact ⟨rfl, by decide, fun z => absurd rfl z⟩
theorem mn_13 : ∀ t, t < 8 → mm_n t ≤ 13 := by decide
def ls_iv (i : Nat) : Nat × Nat × Nat := if i = 0 then (6, 0, 0) else if i < 5 then (4, 0, i - 1) else if i < 7 then (5, 0, i - 5) else if i < 12 then (2, 0, i - 7) else if i < 14 then (0, 0, i - 12) else if i = 14 then (6, 0, 1) else if i = 15 then (3, 0, 0) else if i < 21 then (2, 1, i - 16) else if i < 24 then (3, 0, i - 20) else if i < 26 then (1, 0, i - 24) else (7, 0, i - 26)
theorem iv_al0 : (List.range 8).all (fun t => (List.range 2).all (fun k => (List.range 13).all (fun c => !(decide (k = 0) || decide (t = 2)) || !(decide (c < mm_n t)) || decide (ls_iv (ls_ix t k c) = (t, k, c))))) = true := by decide +kernel
theorem iv_all (t : Nat) (ht : t < 8) (k : Nat) (hk : k < 2) (c : Nat) (hc : c < 13) (h1 : k = 0 ∨ t = 2) (h2 : c < mm_n t) : ls_iv (ls_ix t k c) = (t, k, c) := by
  have h := List.all_eq_true.mp (List.all_eq_true.mp (List.all_eq_true.mp iv_al0 t (List.mem_range.mpr ht)) k (List.mem_range.mpr hk)) c (List.mem_range.mpr hc)
  have h3 : (decide (k = 0) || decide (t = 2)) = true := by simpa using h1
  rw [h3, decide_eq_true h2] at h
  simpa using h
theorem iv_ix {t k c : Nat} (h1 : ls_pr t k) (h2 : c < mm_n t) : ls_iv (ls_ix t k c) = (t, k, c) := by
  obtain ⟨a1, a2⟩ := h1
  have m1 := mn_13 t (by omega)
  exact iv_all t (by omega) k (by omega) c (by omega) (by omega) h2
theorem ix_inj {t k c t' k' c' : Nat} (h1 : ls_pr t k) (h2 : c < mm_n t) (h3 : ls_pr t' k') (h4 : c' < mm_n t') (h : ls_ix t k c = ls_ix t' k' c') : t = t' ∧ k = k' ∧ c = c' := by
  have e := iv_ix h1 h2
  rw [h, iv_ix h3 h4] at e
  injection e with e1 e2
  injection e2 with e2 e3
  exact ⟨e1.symm, e2.symm, e3.symm⟩
/-- a list of cells, apart, is a picture of addresses and contents -/
theorem wl_pl {A : Nat → Prop} {ws : va_W} (hD : va_D A ws) : ∃ f : Nat → va_E, va_pl (ws.map Prod.fst) f = ws ∧ ∀ (i : Nat) (q : Nat × va_E), ws[i]? = some q → f q.1 = q.2 := by
  have key : ∀ (i : Nat) (q : Nat × va_E), ws[i]? = some q → (((ws.find? (fun x => x.1 == q.1)).map Prod.snd).getD (.inr (0, []))) = q.2 := by
    intro i q hi
    have hm : q ∈ ws := List.mem_of_getElem? hi
    cases hf : ws.find? (fun x => x.1 == q.1) with
    | none =>
      have := List.find?_eq_none.mp hf q hm
      simp at this
    | some y =>
      have hy := List.mem_of_find?_eq_some hf
      have he : y.1 = q.1 := by
        have := List.find?_some hf
        simpa using this
      obtain ⟨j, hj⟩ := List.getElem?_of_mem hy
      have hij := hD.1 j i y q hj hi he
      subst hij
      rw [hi] at hj
      cases hj
      rfl
  refine ⟨fun a => ((ws.find? (fun x => x.1 == a)).map Prod.snd).getD (.inr (0, [])), ?_, key⟩
  unfold va_pl
  rw [List.map_map]
  conv => rhs; rw [← List.map_id ws]
  refine List.map_congr_left (fun q hq => ?_)
  obtain ⟨i, hi⟩ := List.getElem?_of_mem hq
  exact Prod.ext rfl (key i q hi)
theorem mm_of {G : mm_G} {A : Nat → Prop} {H : Heap} {ws : va_W} (hP : va_P G.1 vwCl ws H) (hD : va_D A ws) (hE : ∀ (t k c : Nat) (e : va_E), ls_pr t k → mm_ent G (ls_ad ws) ls_g t k c = some e → ws[ls_ix t k c]? = some (ls_ad ws t k c, e)) (hI : ∀ i, i < ws.length → ∃ t k c, ls_pr t k ∧ c < mm_n t ∧ ls_ix t k c = i) : mm_R G ls_pr (ls_ad ws) ls_g A H := by
  obtain ⟨f, h1, h2⟩ := wl_pl hD
  refine ⟨ws.map Prod.fst, f, by rw [h1]; exact hP, by rw [h1]; exact hD, ⟨fun t k c e hp he => ?_, fun q hq => ?_⟩, fun t k c t' k' c' a1 a2 a3 a4 h => ?_, fun t k hp ht => ?_⟩
  · have h3 := hE t k c e hp he
    exact ⟨List.mem_map.mpr ⟨_, List.mem_of_getElem? h3, rfl⟩, h2 _ _ h3⟩
  · obtain ⟨x, hx, rfl⟩ := List.mem_map.mp hq
    obtain ⟨i, hi⟩ := List.getElem?_of_mem hx
    obtain ⟨t, k, c, b1, b2, b3⟩ := hI i (List.getElem?_eq_some_iff.mp hi).1
    refine ⟨t, k, c, b1, b2, ?_⟩
    unfold ls_ad
    rw [b3, hi]
    rfl
  · obtain ⟨e, he⟩ := mm_ex (G := G) (ad := ls_ad ws) (g := ls_g) (k := k) a2
    obtain ⟨e', he'⟩ := mm_ex (G := G) (ad := ls_ad ws) (g := ls_g) (k := k') a4
    exact ix_inj a1 a2 a3 a4 (hD.1 _ _ _ _ (hE t k c e a1 he) (hE t' k' c' e' a3 he') h)
  · rcases hp.2 with h | h
    · exact h
    · exact absurd h.1 ht
theorem ls_all : ∀ i, i < 39 → ∃ t, t < 8 ∧ ∃ k, k < 2 ∧ ∃ c, c < mm_n t ∧ (k = 0 ∨ t = 2) ∧ ls_ix t k c = i := by decide +kernel
theorem f3 {n : Nat} : (fun i => if i < n then (0 : Int32) else 0) = fun _ => 0 := funext fun i => by split <;> rfl
theorem L00 {G : mm_G} {ad : Nat → Nat → Nat → Nat} : mm_cs G ad ls_g 0 0 = [.inr (0, [.ref (ad 0 0 1), .int 0, .int 0]), .inl (G.2.2.2.1, 24, .inr (.inr (.inr (.inr (fun _ => none)))))] := rfl
theorem L10 {G : mm_G} {ad : Nat → Nat → Nat → Nat} : mm_cs G ad ls_g 0 1 = [.inr (1, [.ref (ad 1 0 1), .int 0]), .inl (G.2.1, 16, .inl (fun _ => 0))] := rfl
theorem L20 {G : mm_G} {ad : Nat → Nat → Nat → Nat} : mm_cs G ad ls_g 0 2 = [.inr (2, [.int 0, .int 0, .int 0, .int 0, .int 0, .int 0, .ref (ad 2 0 1), .ref (ad 2 0 2), .ref (ad 2 0 3), .ref (ad 2 0 4)]), .inl (G.2.1, 3, .inl (fun _ => 0)), .inl (G.2.1, 9, .inl (fun _ => 0)), .inl (G.2.1, 9, .inl (fun _ => 0)), .inl (G.2.1, 9, .inl (fun _ => 0))] := by
  have z : ls_g 2 0 = fun _ => 0 := rfl
  simp only [mm_cs, z, f3]
theorem L21 {G : mm_G} {ad : Nat → Nat → Nat → Nat} : mm_cs G ad ls_g 1 2 = [.inr (2, [.int 0, .int 0, .int 0, .int 0, .int 0, .int 0, .ref (ad 2 1 1), .ref (ad 2 1 2), .ref (ad 2 1 3), .ref (ad 2 1 4)]), .inl (G.2.1, 3, .inl (fun _ => 0)), .inl (G.2.1, 9, .inl (fun _ => 0)), .inl (G.2.1, 9, .inl (fun _ => 0)), .inl (G.2.1, 9, .inl (fun _ => 0))] := by
  have z : ls_g 2 1 = fun _ => 0 := rfl
  simp only [mm_cs, z, f3]
theorem L30 {G : mm_G} {ad : Nat → Nat → Nat → Nat} : mm_cs G ad ls_g 0 3 = [.inr (3, [.ref (ad 2 1 0), .ref (ad 3 0 1), .ref (ad 3 0 2), .ref (ad 3 0 3)]), .inl (G.2.1, 12, .inl (fun _ => 0)), .inl (G.2.1, 9, .inl (fun _ => 0)), .inl (G.2.1, 81, .inl (fun _ => 0))] := rfl
theorem L40 {G : mm_G} {ad : Nat → Nat → Nat → Nat} : mm_cs G ad ls_g 0 4 = [.inr (4, [.ref (ad 4 0 1), .ref (ad 4 0 2), .ref (ad 4 0 3)]), .inl (G.2.1, 320, .inl (fun _ => 0)), .inl (G.2.1, 8, .inl (fun _ => 0)), .inl (G.2.1, 8, .inl (mz 8))] := rfl
theorem L50 {G : mm_G} {ad : Nat → Nat → Nat → Nat} : mm_cs G ad ls_g 0 5 = [.inr (5, [.ref (ad 5 0 1), .int 0, .int 0, .int 0]), .inl (G.2.1, 100, .inl (fun _ => 0))] := rfl
theorem L60 {G : mm_G} {ad : Nat → Nat → Nat → Nat} : mm_cs G ad ls_g 0 6 = [.inr (6, [.ref (ad 4 0 0), .ref (ad 5 0 0), .ref (ad 2 0 0), .ref (ad 0 0 0), .ref (ad 6 0 1), .ref (ad 3 0 0), .ref (ad 1 0 0), .int 0, .int 0]), .inl (G.2.2.2.1, 2, .inr (.inr (.inr (.inr (fun _ => none)))))] := rfl
theorem L70 {G : mm_G} {ad : Nat → Nat → Nat → Nat} : mm_cs G ad ls_g 0 7 = [.inr (7, [.ref (ad 7 0 1), .ref (ad 7 0 2), .ref (ad 7 0 3), .int 0, .int 0, .ref (ad 7 0 4), .ref (ad 7 0 5), .ref (ad 7 0 6), .int 0, .int 0, .int 0, .int 0, .int 0, .int 0, .int 0, .ref (ad 7 0 7), .ref (ad 7 0 8), .int 0, .ref (ad 7 0 9), .ref (ad 7 0 10), .ref (ad 7 0 11), .ref (ad 7 0 12), .int 0]), .inl (G.2.1, 8, .inl (fun _ => 0)), .inl (G.2.1, 8, .inl (mz 8)), .inl (G.2.1, 320, .inl (fun _ => 0)), .inl (G.2.1, 36, .inl (fun _ => 0)), .inl (G.2.1, 40, .inl (fun _ => 0)), .inl (G.2.1, 100, .inl (fun _ => 0)), .inl (G.2.1, 36, .inl (fun _ => 0)), .inl (G.2.1, 864, .inl (fun _ => 0)), .inl (G.2.1, 36, .inl (fun _ => 0)), .inl (G.2.2.1, 2, .inl (fun _ => 0)), .inl (G.2.1, 72, .inl (fun _ => 0)), .inl (G.2.1, 16, .inl (fun _ => 0))] := rfl
set_option maxRecDepth 100000 in
set_option maxHeartbeats 4000000 in
theorem ls_E {G : mm_G} {q6 q7 : Nat} {u : Nat × Nat × Nat × Nat × Nat × Nat × Nat × Nat × Nat × Nat × Nat × Nat × Nat × Nat × Nat × Nat × Nat × Nat × Nat × Nat × Nat × Nat × Nat × Nat × Nat} {v : Nat × Nat × Nat × Nat × Nat × Nat × Nat × Nat × Nat × Nat × Nat × Nat} : ∀ (t k c : Nat) (e : va_E), ls_pr t k → mm_ent G (ls_ad (at_X6 G q6 u ++ at_X7 G q7 v)) ls_g t k c = some e → (at_X6 G q6 u ++ at_X7 G q7 v)[ls_ix t k c]? = some (ls_ad (at_X6 G q6 u ++ at_X7 G q7 v) t k c, e) := by
  obtain ⟨u0, u1, u2, u3, u4, u5, u6, u7, u8, u9, u10, u11, u12, u13, u14, u15, u16, u17, u18, u19, u20, u21, u22, u23, u24⟩ := u
  obtain ⟨v0, v1, v2, v3, v4, v5, v6, v7, v8, v9, v10, v11⟩ := v
  intro t k c e hp he
  have hc := mm_lt he
  obtain ⟨h1, h2⟩ := hp
  have g0 : ∀ t k, ¬ ((t = 4 ∧ k = 3) ∨ (t = 7 ∧ k = 2)) → ls_g t k = fun _ => 0 := fun t k h => if_neg h
  have g1 : ls_g 4 3 = mz 8 := if_pos (by decide)
  have g2 : ls_g 7 2 = mz 8 := if_pos (by decide)
  unfold mm_ent at he
  match t, h1 with
  | 0, _ =>
    have hk : k = 0 := by omega
    subst hk
    have hc : c < 2 := hc
    rw [L00] at he
    rcases (show c = 0 ∨ c = 1 by omega) with rfl | rfl <;> (cases he; rfl)
  | 1, _ =>
    have hk : k = 0 := by omega
    subst hk
    have hc : c < 2 := hc
    rw [L10] at he
    rcases (show c = 0 ∨ c = 1 by omega) with rfl | rfl <;> (cases he; rfl)
  | 2, _ =>
    rcases (show k = 0 ∨ k = 1 by omega) with rfl | rfl
    · have hc : c < 5 := hc
      rw [L20] at he
      rcases (show c = 0 ∨ c = 1 ∨ c = 2 ∨ c = 3 ∨ c = 4 by omega) with rfl | rfl | rfl | rfl | rfl <;> (cases he; rfl)
    · have hc : c < 5 := hc
      rw [L21] at he
      rcases (show c = 0 ∨ c = 1 ∨ c = 2 ∨ c = 3 ∨ c = 4 by omega) with rfl | rfl | rfl | rfl | rfl <;> (cases he; rfl)
  | 3, _ =>
    have hk : k = 0 := by omega
    subst hk
    have hc : c < 4 := hc
    rw [L30] at he
    rcases (show c = 0 ∨ c = 1 ∨ c = 2 ∨ c = 3 by omega) with rfl | rfl | rfl | rfl <;> (cases he; rfl)
  | 4, _ =>
    have hk : k = 0 := by omega
    subst hk
    have hc : c < 4 := hc
    rw [L40] at he
    rcases (show c = 0 ∨ c = 1 ∨ c = 2 ∨ c = 3 by omega) with rfl | rfl | rfl | rfl <;> (cases he; rfl)
  | 5, _ =>
    have hk : k = 0 := by omega
    subst hk
    have hc : c < 2 := hc
    rw [L50] at he
    rcases (show c = 0 ∨ c = 1 by omega) with rfl | rfl <;> (cases he; rfl)
  | 6, _ =>
    have hk : k = 0 := by omega
    subst hk
    have hc : c < 2 := hc
    rw [L60] at he
    rcases (show c = 0 ∨ c = 1 by omega) with rfl | rfl <;> (cases he; rfl)
  | 7, _ =>
    have hk : k = 0 := by omega
    subst hk
    have hc : c < 13 := hc
    rw [L70] at he
    rcases (show c = 0 ∨ c = 1 ∨ c = 2 ∨ c = 3 ∨ c = 4 ∨ c = 5 ∨ c = 6 ∨ c = 7 ∨ c = 8 ∨ c = 9 ∨ c = 10 ∨ c = 11 ∨ c = 12 by omega) with rfl | rfl | rfl | rfl | rfl | rfl | rfl | rfl | rfl | rfl | rfl | rfl | rfl <;> (cases he; rfl)
  | t + 8, h => omega
theorem ls_len {G : mm_G} {q6 q7 : Nat} {u : Nat × Nat × Nat × Nat × Nat × Nat × Nat × Nat × Nat × Nat × Nat × Nat × Nat × Nat × Nat × Nat × Nat × Nat × Nat × Nat × Nat × Nat × Nat × Nat × Nat} {v : Nat × Nat × Nat × Nat × Nat × Nat × Nat × Nat × Nat × Nat × Nat × Nat} : (at_X6 G q6 u ++ at_X7 G q7 v).length = 39 := rfl
theorem ls_mm {G : mm_G} {A : Nat → Prop} {H : Heap} {q6 q7 : Nat} {u : Nat × Nat × Nat × Nat × Nat × Nat × Nat × Nat × Nat × Nat × Nat × Nat × Nat × Nat × Nat × Nat × Nat × Nat × Nat × Nat × Nat × Nat × Nat × Nat × Nat} {v : Nat × Nat × Nat × Nat × Nat × Nat × Nat × Nat × Nat × Nat × Nat × Nat} (hP : va_P G.1 vwCl (at_X6 G q6 u ++ at_X7 G q7 v) H) (hD : va_D A (at_X6 G q6 u ++ at_X7 G q7 v)) : ∃ ad : Nat → Nat → Nat → Nat, mm_R G ls_pr ad ls_g A H ∧ ad 6 0 0 = q6 ∧ ad 7 0 0 = q7 :=
  ⟨ls_ad (at_X6 G q6 u ++ at_X7 G q7 v), mm_of hP hD ls_E (fun i hi => by
    rw [ls_len] at hi
    obtain ⟨t, h1, k, h2, c, h3, h4, h5⟩ := ls_all i hi
    exact ⟨t, k, c, ⟨by omega, by omega⟩, h3, h5⟩), rfl, rfl⟩
