/-! the memory of the system as numbers: which cells are there, where they lie, what they hold; cells are told by kind, number, place in the kind -/
abbrev mm_G : Type := va_G × ClassId × ClassId × ClassId × Nat × Nat × Nat
abbrev mm_M : Type := (Nat → Nat → Prop) × (Nat → Nat → Nat → Nat) × (Nat → Nat → Nat → Int32)
/-- what the content of one key becomes -/
def mw (g : Nat → Nat → Nat → Int32) (t k : Nat) (f : Nat → Int32) : Nat → Nat → Nat → Int32 := fun t' k' => if t' = t ∧ k' = k then f else g t' k'
theorem mw_s (g : Nat → Nat → Nat → Int32) (t k : Nat) (f : Nat → Int32) : mw g t k f t k = f := by simp [mw]
theorem mw_n (g : Nat → Nat → Nat → Int32) {t k t' k' : Nat} (f : Nat → Int32) (h : ¬ (t' = t ∧ k' = k)) : mw g t k f t' k' = g t' k' := by simp only [mw, if_neg h]
theorem mw_w (g : Nat → Nat → Nat → Int32) (t k : Nat) (f f2 : Nat → Int32) : mw (mw g t k f) t k f2 = mw g t k f2 := by
  funext a b
  by_cases h : a = t ∧ b = k
  · simp only [mw, if_pos h]
  · simp only [mw, if_neg h]
theorem mw_i (g : Nat → Nat → Nat → Int32) (t k : Nat) : mw g t k (g t k) = g := by
  funext a b
  by_cases h : a = t ∧ b = k
  · obtain ⟨h1, h2⟩ := h
    subst h1; subst h2
    simp [mw]
  · simp only [mw, if_neg h]
theorem mw_c (g : Nat → Nat → Nat → Int32) {t k t' k' : Nat} (f f2 : Nat → Int32) (h : ¬ (t' = t ∧ k' = k)) : mw (mw g t k f) t' k' f2 = mw (mw g t' k' f2) t k f := by
  funext a b
  by_cases h1 : a = t ∧ b = k
  · have h2 : ¬ (a = t' ∧ b = k') := fun q => h ⟨q.1.symm.trans h1.1, q.2.symm.trans h1.2⟩
    simp only [mw, if_pos h1, if_neg h2]
  · simp only [mw, if_neg h1]
def mm_cs (G : mm_G) (ad : Nat → Nat → Nat → Nat) (g : Nat → Nat → Nat → Int32) (k : Nat) : Nat → List va_E
  | 0 => [.inr (0, [.ref (ad 0 0 1), .int (g 0 0 0), .int (g 0 0 1)]), .inl (G.2.2.2.1, 24, .inr (.inr (.inr (.inr (fun i => if g 0 1 i = 0 then none else some (ad 2 (2 + i) 0))))))]
  | 1 => [.inr (1, [.ref (ad 1 0 1), .int (g 1 0 0)]), .inl (G.2.1, 16, .inl (g 1 1))]
  | 2 => [.inr (2, [.int (g 2 k 0), .int (g 2 k 4), .int (g 2 k 3), .int (g 2 k 5), .int (g 2 k 1), .int (g 2 k 2), .ref (ad 2 k 1), .ref (ad 2 k 2), .ref (ad 2 k 3), .ref (ad 2 k 4)]), .inl (G.2.1, 3, .inl (fun i => if i < 3 then g 2 k (6 + i) else 0)), .inl (G.2.1, 9, .inl (fun i => if i < 9 then g 2 k (9 + i) else 0)), .inl (G.2.1, 9, .inl (fun i => if i < 9 then g 2 k (18 + i) else 0)), .inl (G.2.1, 9, .inl (fun i => if i < 9 then g 2 k (27 + i) else 0))]
  | 3 => [.inr (3, [.ref (ad 2 1 0), .ref (ad 3 0 1), .ref (ad 3 0 2), .ref (ad 3 0 3)]), .inl (G.2.1, 12, .inl (g 3 1)), .inl (G.2.1, 9, .inl (g 3 2)), .inl (G.2.1, 81, .inl (g 3 3))]
  | 4 => [.inr (4, [.ref (ad 4 0 1), .ref (ad 4 0 2), .ref (ad 4 0 3)]), .inl (G.2.1, 320, .inl (g 4 1)), .inl (G.2.1, 8, .inl (g 4 2)), .inl (G.2.1, 8, .inl (g 4 3))]
  | 5 => [.inr (5, [.ref (ad 5 0 1), .int (g 5 0 0), .int (g 5 0 1), .int (g 5 0 2)]), .inl (G.2.1, 100, .inl (g 5 1))]
  | 6 => [.inr (6, [.ref (ad 4 0 0), .ref (ad 5 0 0), .ref (ad 2 0 0), .ref (ad 0 0 0), .ref (ad 6 0 1), .ref (ad 3 0 0), .ref (ad 1 0 0), .int (g 6 0 0), .int (g 6 0 1)]), .inl (G.2.2.2.1, 2, .inr (.inr (.inr (.inr (fun i => if g 6 1 i = 0 then none else some (ad 2 (26 + i) 0))))))]
  | 7 => [.inr (7, [.ref (ad 7 0 1), .ref (ad 7 0 2), .ref (ad 7 0 3), .int (g 7 0 0), .int (g 7 0 1), .ref (ad 7 0 4), .ref (ad 7 0 5), .ref (ad 7 0 6), .int (g 7 0 2), .int (g 7 0 3), .int (g 7 0 4), .int (g 7 0 5), .int (g 7 0 6), .int (g 7 0 7), .int (g 7 0 8), .ref (ad 7 0 7), .ref (ad 7 0 8), .int (g 7 0 9), .ref (ad 7 0 9), .ref (ad 7 0 10), .ref (ad 7 0 11), .ref (ad 7 0 12), .int (g 7 0 10)]), .inl (G.2.1, 8, .inl (g 7 1)), .inl (G.2.1, 8, .inl (g 7 2)), .inl (G.2.1, 320, .inl (g 7 3)), .inl (G.2.1, 36, .inl (g 7 4)), .inl (G.2.1, 40, .inl (g 7 5)), .inl (G.2.1, 100, .inl (g 7 6)), .inl (G.2.1, 36, .inl (g 7 7)), .inl (G.2.1, 864, .inl (g 7 8)), .inl (G.2.1, 36, .inl (g 7 9)), .inl (G.2.2.1, 2, .inl (g 7 10)), .inl (G.2.1, 72, .inl (g 7 11)), .inl (G.2.1, 16, .inl (g 7 12))]
  | _ => []
def mm_n : Nat → Nat
  | 0 => 2
  | 1 => 2
  | 2 => 5
  | 3 => 4
  | 4 => 4
  | 5 => 2
  | 6 => 2
  | 7 => 13
  | _ => 0
def mm_ent (G : mm_G) (ad : Nat → Nat → Nat → Nat) (g : Nat → Nat → Nat → Int32) (t k c : Nat) : Option va_E := (mm_cs G ad g k t)[c]?
theorem mm_len (G : mm_G) (ad : Nat → Nat → Nat → Nat) (g : Nat → Nat → Nat → Int32) (k : Nat) : ∀ t, (mm_cs G ad g k t).length = mm_n t
  | 0 => rfl | 1 => rfl | 2 => rfl | 3 => rfl | 4 => rfl | 5 => rfl | 6 => rfl | 7 => rfl | _ + 8 => rfl
theorem mm_lt {G : mm_G} {ad : Nat → Nat → Nat → Nat} {g : Nat → Nat → Nat → Int32} {t k c : Nat} {e : va_E} (h : mm_ent G ad g t k c = some e) : c < mm_n t := by
  rw [← mm_len G ad g k t]
  exact (List.getElem?_eq_some_iff.mp h).1
theorem mm_ex {G : mm_G} {ad : Nat → Nat → Nat → Nat} {g : Nat → Nat → Nat → Int32} {t k c : Nat} (h : c < mm_n t) : ∃ e, mm_ent G ad g t k c = some e := by
  rw [← mm_len G ad g k t] at h
  exact ⟨_, List.getElem?_eq_getElem h⟩
/-- a key that is no flat's: the other cells stay -/
theorem mm_oth (G : mm_G) (ad : Nat → Nat → Nat → Nat) (g : Nat → Nat → Nat → Int32) {t c : Nat} (ht : t ≠ 2) (f : Nat → Int32) : ∀ (t' k' c' : Nat), ¬ (t' = t ∧ c' = c) → mm_ent G ad (mw g t c f) t' k' c' = mm_ent G ad g t' k' c'
  | 0, k', 0, h => by simp only [mm_ent, mm_cs, List.getElem?_cons_zero, List.getElem?_cons_succ, mw_n g f h]
  | 0, k', 1, h => by simp only [mm_ent, mm_cs, List.getElem?_cons_zero, List.getElem?_cons_succ, mw_n g f h]
  | 0, k', _ + 2, _ => rfl
  | 1, k', 0, h => by simp only [mm_ent, mm_cs, List.getElem?_cons_zero, List.getElem?_cons_succ, mw_n g f h]
  | 1, k', 1, h => by simp only [mm_ent, mm_cs, List.getElem?_cons_zero, List.getElem?_cons_succ, mw_n g f h]
  | 1, k', _ + 2, _ => rfl
  | 2, k', c', _ => by simp only [mm_ent, mm_cs, mw_n g f (show ¬ (2 = t ∧ k' = c) from fun q => ht q.1.symm)]
  | 3, k', 0, h => by simp only [mm_ent, mm_cs, List.getElem?_cons_zero, List.getElem?_cons_succ, mw_n g f h]
  | 3, k', 1, h => by simp only [mm_ent, mm_cs, List.getElem?_cons_zero, List.getElem?_cons_succ, mw_n g f h]
  | 3, k', 2, h => by simp only [mm_ent, mm_cs, List.getElem?_cons_zero, List.getElem?_cons_succ, mw_n g f h]
  | 3, k', 3, h => by simp only [mm_ent, mm_cs, List.getElem?_cons_zero, List.getElem?_cons_succ, mw_n g f h]
  | 3, k', _ + 4, _ => rfl
  | 4, k', 0, h => by simp only [mm_ent, mm_cs, List.getElem?_cons_zero, List.getElem?_cons_succ, mw_n g f h]
  | 4, k', 1, h => by simp only [mm_ent, mm_cs, List.getElem?_cons_zero, List.getElem?_cons_succ, mw_n g f h]
  | 4, k', 2, h => by simp only [mm_ent, mm_cs, List.getElem?_cons_zero, List.getElem?_cons_succ, mw_n g f h]
  | 4, k', 3, h => by simp only [mm_ent, mm_cs, List.getElem?_cons_zero, List.getElem?_cons_succ, mw_n g f h]
  | 4, k', _ + 4, _ => rfl
  | 5, k', 0, h => by simp only [mm_ent, mm_cs, List.getElem?_cons_zero, List.getElem?_cons_succ, mw_n g f h]
  | 5, k', 1, h => by simp only [mm_ent, mm_cs, List.getElem?_cons_zero, List.getElem?_cons_succ, mw_n g f h]
  | 5, k', _ + 2, _ => rfl
  | 6, k', 0, h => by simp only [mm_ent, mm_cs, List.getElem?_cons_zero, List.getElem?_cons_succ, mw_n g f h]
  | 6, k', 1, h => by simp only [mm_ent, mm_cs, List.getElem?_cons_zero, List.getElem?_cons_succ, mw_n g f h]
  | 6, k', _ + 2, _ => rfl
  | 7, k', 0, h => by simp only [mm_ent, mm_cs, List.getElem?_cons_zero, List.getElem?_cons_succ, mw_n g f h]
  | 7, k', 1, h => by simp only [mm_ent, mm_cs, List.getElem?_cons_zero, List.getElem?_cons_succ, mw_n g f h]
  | 7, k', 2, h => by simp only [mm_ent, mm_cs, List.getElem?_cons_zero, List.getElem?_cons_succ, mw_n g f h]
  | 7, k', 3, h => by simp only [mm_ent, mm_cs, List.getElem?_cons_zero, List.getElem?_cons_succ, mw_n g f h]
  | 7, k', 4, h => by simp only [mm_ent, mm_cs, List.getElem?_cons_zero, List.getElem?_cons_succ, mw_n g f h]
  | 7, k', 5, h => by simp only [mm_ent, mm_cs, List.getElem?_cons_zero, List.getElem?_cons_succ, mw_n g f h]
  | 7, k', 6, h => by simp only [mm_ent, mm_cs, List.getElem?_cons_zero, List.getElem?_cons_succ, mw_n g f h]
  | 7, k', 7, h => by simp only [mm_ent, mm_cs, List.getElem?_cons_zero, List.getElem?_cons_succ, mw_n g f h]
  | 7, k', 8, h => by simp only [mm_ent, mm_cs, List.getElem?_cons_zero, List.getElem?_cons_succ, mw_n g f h]
  | 7, k', 9, h => by simp only [mm_ent, mm_cs, List.getElem?_cons_zero, List.getElem?_cons_succ, mw_n g f h]
  | 7, k', 10, h => by simp only [mm_ent, mm_cs, List.getElem?_cons_zero, List.getElem?_cons_succ, mw_n g f h]
  | 7, k', 11, h => by simp only [mm_ent, mm_cs, List.getElem?_cons_zero, List.getElem?_cons_succ, mw_n g f h]
  | 7, k', 12, h => by simp only [mm_ent, mm_cs, List.getElem?_cons_zero, List.getElem?_cons_succ, mw_n g f h]
  | 7, k', _ + 13, _ => rfl
  | _ + 8, _, _, _ => rfl
/-- a flat's key: the cells of the others stay -/
theorem mm_othF (G : mm_G) (ad : Nat → Nat → Nat → Nat) (g : Nat → Nat → Nat → Int32) {k : Nat} (f : Nat → Int32) : ∀ (t' k' c' : Nat), ¬ (t' = 2 ∧ k' = k) → mm_ent G ad (mw g 2 k f) t' k' c' = mm_ent G ad g t' k' c'
  | 0, k', c', _ => by simp only [mm_ent, mm_cs, mw_n g f (show ¬ (0 = 2 ∧ 0 = k) from fun q => absurd q.1 (by decide)), mw_n g f (show ¬ (0 = 2 ∧ 1 = k) from fun q => absurd q.1 (by decide))]
  | 1, k', c', _ => by simp only [mm_ent, mm_cs, mw_n g f (show ¬ (1 = 2 ∧ 0 = k) from fun q => absurd q.1 (by decide)), mw_n g f (show ¬ (1 = 2 ∧ 1 = k) from fun q => absurd q.1 (by decide))]
  | 2, k', c', h => by simp only [mm_ent, mm_cs, mw_n g f h]
  | 3, k', c', _ => by simp only [mm_ent, mm_cs, mw_n g f (show ¬ (3 = 2 ∧ 0 = k) from fun q => absurd q.1 (by decide)), mw_n g f (show ¬ (3 = 2 ∧ 1 = k) from fun q => absurd q.1 (by decide)), mw_n g f (show ¬ (3 = 2 ∧ 2 = k) from fun q => absurd q.1 (by decide)), mw_n g f (show ¬ (3 = 2 ∧ 3 = k) from fun q => absurd q.1 (by decide))]
  | 4, k', c', _ => by simp only [mm_ent, mm_cs, mw_n g f (show ¬ (4 = 2 ∧ 0 = k) from fun q => absurd q.1 (by decide)), mw_n g f (show ¬ (4 = 2 ∧ 1 = k) from fun q => absurd q.1 (by decide)), mw_n g f (show ¬ (4 = 2 ∧ 2 = k) from fun q => absurd q.1 (by decide)), mw_n g f (show ¬ (4 = 2 ∧ 3 = k) from fun q => absurd q.1 (by decide))]
  | 5, k', c', _ => by simp only [mm_ent, mm_cs, mw_n g f (show ¬ (5 = 2 ∧ 0 = k) from fun q => absurd q.1 (by decide)), mw_n g f (show ¬ (5 = 2 ∧ 1 = k) from fun q => absurd q.1 (by decide))]
  | 6, k', c', _ => by simp only [mm_ent, mm_cs, mw_n g f (show ¬ (6 = 2 ∧ 0 = k) from fun q => absurd q.1 (by decide)), mw_n g f (show ¬ (6 = 2 ∧ 1 = k) from fun q => absurd q.1 (by decide))]
  | 7, k', c', _ => by simp only [mm_ent, mm_cs, mw_n g f (show ¬ (7 = 2 ∧ 0 = k) from fun q => absurd q.1 (by decide)), mw_n g f (show ¬ (7 = 2 ∧ 1 = k) from fun q => absurd q.1 (by decide)), mw_n g f (show ¬ (7 = 2 ∧ 2 = k) from fun q => absurd q.1 (by decide)), mw_n g f (show ¬ (7 = 2 ∧ 3 = k) from fun q => absurd q.1 (by decide)), mw_n g f (show ¬ (7 = 2 ∧ 4 = k) from fun q => absurd q.1 (by decide)), mw_n g f (show ¬ (7 = 2 ∧ 5 = k) from fun q => absurd q.1 (by decide)), mw_n g f (show ¬ (7 = 2 ∧ 6 = k) from fun q => absurd q.1 (by decide)), mw_n g f (show ¬ (7 = 2 ∧ 7 = k) from fun q => absurd q.1 (by decide)), mw_n g f (show ¬ (7 = 2 ∧ 8 = k) from fun q => absurd q.1 (by decide)), mw_n g f (show ¬ (7 = 2 ∧ 9 = k) from fun q => absurd q.1 (by decide)), mw_n g f (show ¬ (7 = 2 ∧ 10 = k) from fun q => absurd q.1 (by decide)), mw_n g f (show ¬ (7 = 2 ∧ 11 = k) from fun q => absurd q.1 (by decide)), mw_n g f (show ¬ (7 = 2 ∧ 12 = k) from fun q => absurd q.1 (by decide))]
  | _ + 8, _, _, _ => rfl
/-- the addresses that a world has -/
def mm_in (pr : Nat → Nat → Prop) (ad : Nat → Nat → Nat → Nat) (q : Nat) : Prop := ∃ t k c : Nat, pr t k ∧ c < mm_n t ∧ q = ad t k c
def mm_A (pr : Nat → Nat → Prop) (ad : Nat → Nat → Nat → Nat) (sz : Nat) (q : Nat) : Prop := mm_in pr ad q ∨ sz ≤ q
/-- cells are apart; what is no flat is there once -/
def mm_J (pr : Nat → Nat → Prop) (ad : Nat → Nat → Nat → Nat) : Prop := (∀ t k c t' k' c' : Nat, pr t k → c < mm_n t → pr t' k' → c' < mm_n t' → ad t k c = ad t' k' c' → t = t' ∧ k = k' ∧ c = c') ∧ ∀ t k : Nat, pr t k → t ≠ 2 → k = 0
def mm_L (G : mm_G) (pr : Nat → Nat → Prop) (ad : Nat → Nat → Nat → Nat) (g : Nat → Nat → Nat → Int32) (Ls : List Nat) (f : Nat → va_E) : Prop := (∀ (t k c : Nat) (e : va_E), pr t k → mm_ent G ad g t k c = some e → ad t k c ∈ Ls ∧ f (ad t k c) = e) ∧ (∀ q : Nat, q ∈ Ls → mm_in pr ad q)
def mm_R (G : mm_G) (pr : Nat → Nat → Prop) (ad : Nat → Nat → Nat → Nat) (g : Nat → Nat → Nat → Int32) (A : Nat → Prop) (H : Heap) : Prop := ∃ (Ls : List Nat) (f : Nat → va_E), va_P G.1 vwCl (va_pl Ls f) H ∧ va_D A (va_pl Ls f) ∧ mm_L G pr ad g Ls f ∧ mm_J pr ad
theorem mm_pl_mem {Ls : List Nat} {f : Nat → va_E} {k : Nat} {q : Nat × va_E} (h : (va_pl Ls f)[k]? = some q) : q.1 ∈ Ls := by
  have h1 := List.mem_of_getElem? h
  obtain ⟨a, ha, rfl⟩ := List.mem_map.mp h1
  exact ha
theorem mm_R.to {G : mm_G} {pr : Nat → Nat → Prop} {ad : Nat → Nat → Nat → Nat} {g : Nat → Nat → Nat → Int32} {A B : Nat → Prop} {H : Heap} (h : mm_R G pr ad g A H) (hAB : ∀ q, mm_in pr ad q → B q) : mm_R G pr ad g B H := by
  obtain ⟨Ls, f, hP, hD, hL, hJ⟩ := h
  exact ⟨Ls, f, hP, hD.weaken (fun k q hk _ => hAB _ (hL.2 _ (mm_pl_mem hk))), hL, hJ⟩
theorem mm_R.inA {G : mm_G} {pr : Nat → Nat → Prop} {ad : Nat → Nat → Nat → Nat} {g : Nat → Nat → Nat → Int32} {A : Nat → Prop} {H : Heap} (h : mm_R G pr ad g A H) {q : Nat} (hq : mm_in pr ad q) : A q := by
  obtain ⟨Ls, f, hP, hD, hL, hJ⟩ := h
  obtain ⟨t, k, c, hp, hc, rfl⟩ := hq
  obtain ⟨e, he⟩ := mm_ex (G := G) (ad := ad) (g := g) (k := k) hc
  obtain ⟨h1, h2⟩ := hL.1 t k c e hp he
  obtain ⟨i, hi⟩ := va_pl_get (X := []) (f := f) h1
  exact hD.2 i _ hi
/-- one cell is written -/
theorem mm_upd {G : mm_G} {pr : Nat → Nat → Prop} {ad : Nat → Nat → Nat → Nat} {g g' : Nat → Nat → Nat → Int32} {A : Nat → Prop} {H1 : Heap} {t k c : Nat} {e e' : va_E} {Ls : List Nat} {f : Nat → va_E} (hL : mm_L G pr ad g Ls f) (hJ : mm_J pr ad) (hp : pr t k) (he : mm_ent G ad g t k c = some e) (he' : mm_ent G ad g' t k c = some e') (ho : ∀ t' k' c' : Nat, pr t' k' → ¬ (t' = t ∧ k' = k ∧ c' = c) → mm_ent G ad g' t' k' c' = mm_ent G ad g t' k' c') (hP1 : va_P G.1 vwCl (va_pl Ls (va_up f (ad t k c) e')) H1) (hD1 : va_D A (va_pl Ls (va_up f (ad t k c) e'))) : mm_R G pr ad g' A H1 := by
  refine ⟨Ls, va_up f (ad t k c) e', hP1, hD1, ⟨?_, hL.2⟩, hJ⟩
  intro t' k' c' x hp' hx
  by_cases h : t' = t ∧ k' = k ∧ c' = c
  · obtain ⟨rfl, rfl, rfl⟩ := h
    have h1 := hL.1 _ _ _ _ hp he
    rw [he'] at hx
    cases hx
    exact ⟨h1.1, va_up_self _ _ _⟩
  · have h2 := hx
    rw [ho t' k' c' hp' h] at h2
    have h1 := hL.1 _ _ _ _ hp' h2
    refine ⟨h1.1, ?_⟩
    rw [va_up_ne _ _ (fun q => h (hJ.1 _ _ _ _ _ _ hp' (mm_lt h2) hp (mm_lt he) q))]
    exact h1.2
/-- the three tables of a kind's bodies, read alone -/
def mm_t0 (j : Nat) : Int32 := match j with | 0 => -1 | 1 => 0 | 2 => 1 | 3 => 1 | 4 => 0 | _ => 4
def mm_t1 (j : Nat) : Int32 := match j with | 0 => 10 | 1 => 11 | 2 => 12 | 3 => 11 | 4 => 13 | _ => 14
def mm_t2 (j : Nat) : Int32 := match j with | 0 => 20 | 1 => 21 | 2 => 24 | 3 => 22 | 4 => 23 | _ => 23
def mm_S1 (C n : String) (a : Nat) (f : Nat → Int32) (A : Nat → Prop) (U : State) (H : Heap) : Prop := va_Z C n "[I" (.ref a) A U H ∧ va_T .int a 6 (fun j => .int (f j)) A U H
def mm_S (G : mm_G) (A : Nat → Prop) (U : State) (H : Heap) : Prop := mm_S1 RX1 "PARENTS" G.2.2.2.2.1 mm_t0 A U H ∧ mm_S1 RX1 "SIZE_BODIES" G.2.2.2.2.2.1 mm_t1 A U H ∧ mm_S1 RX1 "MARK_BODIES" G.2.2.2.2.2.2 mm_t2 A U H
theorem mm_S1.on {C n : String} {a : Nat} {f : Nat → Int32} {A B : Nat → Prop} {u U : State} {H H1 : Heap} (h : mm_S1 C n a f A u H) (hq : ∀ a : Nat, a < H.size → ¬ A a → H1[a]? = H[a]?) (hAB : ∀ q, B q → A q) (hvm : u.vm.Alike U.vm) : mm_S1 C n a f B U H1 :=
  ⟨((h.1.kept hq).narrow hAB).moved hvm, ((h.2.kept hq).narrow hAB).moved hvm⟩
theorem mm_S.on {G : mm_G} {A B : Nat → Prop} {u U : State} {H H1 : Heap} (h : mm_S G A u H) (hq : ∀ a : Nat, a < H.size → ¬ A a → H1[a]? = H[a]?) (hAB : ∀ q, B q → A q) (hvm : u.vm.Alike U.vm) : mm_S G B U H1 :=
  ⟨h.1.on hq hAB hvm, h.2.1.on hq hAB hvm, h.2.2.on hq hAB hvm⟩
def mm_nF : List (String × Nat × String × String × String) := [(RX6, 129, "CockleSquires$Flat", "beds", "I"), (RX5, 60, "CockleSquires$Flat", "beds", "I"), (RX3, 82, "CockleSquires$Flat", "beds", "I"), (RX6, 144, "CockleSquires$Flat", "tide", "I"), (RX6, 201, "CockleSquires$Flat", "lot", "I"), (RX6, 180, "CockleSquires$Flat", "vetoes", "I"), (RX3, 91, "CockleSquires$Flat", "vetoes", "I"), (RX6, 186, "CockleSquires$Flat", "cellA", "I"), (RX6, 189, "CockleSquires$Flat", "cellB", "I")]
def mm_nM : List (String × Nat × MethodName) := [(RX6, 18, yX5_init), (RX6, 25, yX2_init), (RX6, 32, yX0_init), (RX6, 43, yX3_init), (RX3, 11, yX2_init), (RX6, 50, yX1_init), (RX4, 21, yX6_within), (RX5, 70, yX6_within), (RX0, 24, yX6_within), (RX0, 28, yX2_init), (RX2, 63, yX6_within), (RX3, 61, yX6_within), (RX1, 22, yX6_within)]
theorem nf_X6_129 : (RX6, 129, "CockleSquires$Flat", "beds", "I") ∈ mm_nF := List.mem_of_getElem? (i := 0) rfl
theorem nf_X5_60 : (RX5, 60, "CockleSquires$Flat", "beds", "I") ∈ mm_nF := List.mem_of_getElem? (i := 1) rfl
theorem nf_X3_82 : (RX3, 82, "CockleSquires$Flat", "beds", "I") ∈ mm_nF := List.mem_of_getElem? (i := 2) rfl
theorem nf_X6_144 : (RX6, 144, "CockleSquires$Flat", "tide", "I") ∈ mm_nF := List.mem_of_getElem? (i := 3) rfl
theorem nf_X6_201 : (RX6, 201, "CockleSquires$Flat", "lot", "I") ∈ mm_nF := List.mem_of_getElem? (i := 4) rfl
theorem nf_X6_180 : (RX6, 180, "CockleSquires$Flat", "vetoes", "I") ∈ mm_nF := List.mem_of_getElem? (i := 5) rfl
theorem nf_X3_91 : (RX3, 91, "CockleSquires$Flat", "vetoes", "I") ∈ mm_nF := List.mem_of_getElem? (i := 6) rfl
theorem nf_X6_186 : (RX6, 186, "CockleSquires$Flat", "cellA", "I") ∈ mm_nF := List.mem_of_getElem? (i := 7) rfl
theorem nf_X6_189 : (RX6, 189, "CockleSquires$Flat", "cellB", "I") ∈ mm_nF := List.mem_of_getElem? (i := 8) rfl
theorem nm_X6_18 : (RX6, 18, yX5_init) ∈ mm_nM := List.mem_of_getElem? (i := 0) rfl
theorem nm_X6_25 : (RX6, 25, yX2_init) ∈ mm_nM := List.mem_of_getElem? (i := 1) rfl
theorem nm_X6_32 : (RX6, 32, yX0_init) ∈ mm_nM := List.mem_of_getElem? (i := 2) rfl
theorem nm_X6_43 : (RX6, 43, yX3_init) ∈ mm_nM := List.mem_of_getElem? (i := 3) rfl
theorem nm_X3_11 : (RX3, 11, yX2_init) ∈ mm_nM := List.mem_of_getElem? (i := 4) rfl
theorem nm_X6_50 : (RX6, 50, yX1_init) ∈ mm_nM := List.mem_of_getElem? (i := 5) rfl
theorem nm_X4_21 : (RX4, 21, yX6_within) ∈ mm_nM := List.mem_of_getElem? (i := 6) rfl
theorem nm_X5_70 : (RX5, 70, yX6_within) ∈ mm_nM := List.mem_of_getElem? (i := 7) rfl
theorem nm_X0_24 : (RX0, 24, yX6_within) ∈ mm_nM := List.mem_of_getElem? (i := 8) rfl
theorem nm_X0_28 : (RX0, 28, yX2_init) ∈ mm_nM := List.mem_of_getElem? (i := 9) rfl
theorem nm_X2_63 : (RX2, 63, yX6_within) ∈ mm_nM := List.mem_of_getElem? (i := 10) rfl
theorem nm_X3_61 : (RX3, 61, yX6_within) ∈ mm_nM := List.mem_of_getElem? (i := 11) rfl
theorem nm_X1_22 : (RX1, 22, yX6_within) ∈ mm_nM := List.mem_of_getElem? (i := 12) rfl
def mm_N (U : State) : Prop := (∀ w, w ∈ mm_nF → va_Nw (.fieldLinkNest w.1 w.2.1 w.2.2.1 w.2.2.2.1 w.2.2.2.2 "CockleSquires") U) ∧ (∀ w, w ∈ mm_nM → va_Nw (.methodLinkNest w.1 w.2.1 w.2.2 "CockleSquires") U)
theorem mm_N.warm {s U : State} (hW : s.WarmedH U.vm) (h : mm_N s) : mm_N U := ⟨fun w hw => va_Nw.warmF hW (h.1 w hw), fun w hw => va_Nw.warmM hW (h.2 w hw)⟩
theorem mm_N.same {u U : State} (hv : u.vm = U.vm) (h : mm_N u) : mm_N U := ⟨fun w hw => va_Nw.same rfl hv (h.1 w hw), fun w hw => va_Nw.same rfl hv (h.2 w hw)⟩
def mm_ty (G : mm_G) : List (ClassId × FieldType) := [(G.2.1, .int), (G.2.2.1, .boolean), (G.2.2.2.1, .object RX2)]
def mm_K (G : mm_G) (U : State) : Prop := va_K G.1 vwCl (mm_ty G) U ∧ mm_N U
theorem mm_K.warm {G : mm_G} {s U : State} (hW : s.WarmedH U.vm) (h : mm_K G s) : mm_K G U := ⟨va_K.moved hW.alike h.1, h.2.warm hW⟩
theorem mm_K.same {G : mm_G} {u U : State} (hv : u.vm = U.vm) (h : mm_K G u) : mm_K G U := ⟨va_K.moved (by rw [hv]; exact Vm.Alike.refl U.vm) h.1, h.2.same hv⟩
/-- what is so at each instruction of a method -/
def mm_C (G : mm_G) (own : String) (cc : ByteArray) (nL : Nat) (ret : Option FieldType) (p : Program) (s : State) (m : MethodId) (args : Array Value) (meth : Method) (c : Code) (A : Nat → Prop) : Prop :=
  p.tables.exec = Jvm.exec ∧ c.code = cc ∧ c.maxLocals = nL ∧ meth.sig.returnType = ret ∧ meth.locks = false ∧ s.vm.findClass own = some m.cls ∧ (∀ w, w ∈ wsL_law → w.before args s = true) ∧ mm_K G s ∧ mm_S G A s s.heap ∧ ∀ q, s.heap.size ≤ q → A q
abbrev mm_T : Type := Option Value → (Nat → Nat → Prop) → (Nat → Nat → Nat → Nat) → (Nat → Nat → Nat → Int32) → Prop
def mm_D (r : Option Value) (pr : Nat → Nat → Prop) (ad : Nat → Nat → Nat → Nat) (g : Nat → Nat → Nat → Int32) : mm_T := fun r' pr' ad' g' => r' = r ∧ pr' = pr ∧ ad' = ad ∧ g' = g
def mm_Q (G : mm_G) (Q0 : mm_T) (A : Nat → Prop) : Array Value → State → Outcome → State → Prop := fun _ st o t => (∃ (r : Option Value) (pr : Nat → Nat → Prop) (ad : Nat → Nat → Nat → Nat) (g : Nat → Nat → Nat → Int32), o = .returned r ∧ Q0 r pr ad g ∧ mm_R G pr ad g A t.heap) ∧ va_F A st t
/-- from here the method ends, with an answer and a memory of which Q0 holds -/
def V (l : Launch) (G : mm_G) (own : String) (cc : ByteArray) (nL : Nat) (ret : Option FieldType) (rm : Room) (Q0 : mm_T) (mc ms cells slots pc : Nat) (L : List (Nat × Value)) (S : List Value) (pr : Nat → Nat → Prop) (ad : Nat → Nat → Nat → Nat) (g : Nat → Nat → Nat → Int32) : Prop :=
  ∀ (p : Program) (e : Env) (s : State) (m : MethodId) (args : Array Value) (below : List Frame) (meth : Method) (c : Code) (H : Heap) (locs : List Loc) (A : Nat → Prop) (ls : Array Slot), mm_C G own cc nL ret p s m args meth c A → mm_R G pr ad g A H → va_S A s.heap H locs → lv_has ls nL L → W p l e rm s m args below meth c H locs cells slots (MQ below (mm_Q G Q0 A) args s mc ms A) (F0 m pc ls S)
/-- a method's contract, from a memory -/
def Mt (l : Launch) (G : mm_G) (y : MethodName) (cc : ByteArray) (nL : Nat) (ret : Option FieldType) (rm : Room) (args : List Value) (pr : Nat → Nat → Prop) (ad : Nat → Nat → Nat → Nat) (g : Nat → Nat → Nat → Int32) (Q0 : mm_T) (mc ms : Nat) : Prop :=
  ∀ sz : Nat, Met l y (.code y cc nL ret :: wsL_law) rm (va_Pc args (fun U => U.heap.size = sz ∧ mm_R G pr ad g (fun _ => True) U.heap ∧ mm_K G U ∧ mm_S G (mm_A pr ad sz) U U.heap)) (mm_Q G Q0 (mm_A pr ad sz)) mc ms (mm_A pr ad sz)
theorem Mt_of {l : Launch} {G : mm_G} {y : MethodName} {cc : ByteArray} {nL : Nat} {ret : Option FieldType} {rm : Room} {args : List Value} {pr : Nat → Nat → Prop} {ad : Nat → Nat → Nat → Nat} {g : Nat → Nat → Nat → Int32} {Q0 : mm_T} {mc ms : Nat} (hpl : plainName y.cls = true) (hn : (lg_sl args).length ≤ nL) (hV : V l G y.cls cc nL ret rm Q0 mc ms 0 0 0 (lv_args 0 args) [] pr ad g) : Mt l G y cc nL ret rm args pr ad g Q0 mc ms := by
  intro sz
  refine Met.ofW (cc := cc) (maxL := nL) (ret := ret) hpl rfl ?_
  intro p e s m a below meth c s₁ B hml hv
  obtain ⟨rfl, hsz, hR, hK, hS⟩ := hv
  subst hsz
  have hts := atoms_spec (ws := .code y cc nL ret :: wsL_law) B.pre
  have hl := lv_entry args (n := nL) hn
  rw [lg_entry_eq]
  exact hV p e s m _ below meth c s.heap [] (mm_A pr ad s.heap.size) _ ⟨B.exec, B.bytes, hml, B.returns, B.notSynchronized, findClass_of_methodNamed B.named, fun w hw => hts w (List.mem_cons_of_mem _ hw), hK, hS, fun q h => Or.inr h⟩ (hR.to (fun q h => Or.inl h)) va_S.rf hl
