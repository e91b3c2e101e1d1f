def prU (pr : Nat → Nat → Prop) (k : Nat) : Nat → Nat → Prop := fun t k2 => pr t k2 ∨ (t = 2 ∧ k2 = k)
def adU (ad : Nat → Nat → Nat → Nat) (k q u1 u2 u3 u4 : Nat) : Nat → Nat → Nat → Nat := fun t k2 c => if t = 2 ∧ k2 = k then (match c with | 0 => q | 1 => u1 | 2 => u2 | 3 => u3 | _ => u4) else ad t k2 c
theorem adU_n {ad : Nat → Nat → Nat → Nat} {k q u1 u2 u3 u4 t k2 c : Nat} (h : ¬ (t = 2 ∧ k2 = k)) : adU ad k q u1 u2 u3 u4 t k2 c = ad t k2 c := if_neg h
theorem adU_0 {ad : Nat → Nat → Nat → Nat} {k q u1 u2 u3 u4 : Nat} : adU ad k q u1 u2 u3 u4 2 k 0 = q := by simp [adU]
theorem adU_1 {ad : Nat → Nat → Nat → Nat} {k q u1 u2 u3 u4 : Nat} : adU ad k q u1 u2 u3 u4 2 k 1 = u1 := by simp [adU]
theorem adU_2 {ad : Nat → Nat → Nat → Nat} {k q u1 u2 u3 u4 : Nat} : adU ad k q u1 u2 u3 u4 2 k 2 = u2 := by simp [adU]
theorem adU_3 {ad : Nat → Nat → Nat → Nat} {k q u1 u2 u3 u4 : Nat} : adU ad k q u1 u2 u3 u4 2 k 3 = u3 := by simp [adU]
theorem adU_4 {ad : Nat → Nat → Nat → Nat} {k q u1 u2 u3 u4 : Nat} : adU ad k q u1 u2 u3 u4 2 k 4 = u4 := by simp [adU]
theorem pl_not {A : Nat → Prop} {L : List Nat} {f : Nat → va_E} {a : Nat} {e : va_E} {r : va_W} (hD : va_D A (va_pl L f ++ (a, e) :: r)) : a ∉ L := fun h => by
  obtain ⟨i, hi⟩ := List.getElem?_of_mem h
  have hlt : i < L.length := (List.getElem?_eq_some_iff.mp hi).1
  have h1 : (va_pl L f ++ (a, e) :: r)[i]? = some (a, f a) := by
    rw [List.getElem?_append_left (by rw [va_pl, List.length_map]; exact hlt)]
    simp only [va_pl, List.getElem?_map, hi]
    rfl
  have h2 : (va_pl L f ++ (a, e) :: r)[L.length]? = some (a, e) := by
    rw [List.getElem?_append_right (by rw [va_pl, List.length_map]; exact Nat.le_refl _)]
    simp [va_pl]
  have h3 := hD.1 i L.length _ _ h1 h2 rfl
  omega
theorem pl_push {A : Nat → Prop} {L : List Nat} {f : Nat → va_E} {a : Nat} {e : va_E} {r : va_W} (hD : va_D A (va_pl L f ++ (a, e) :: r)) : va_pl L f ++ (a, e) :: r = va_pl (L ++ [a]) (va_up f a e) ++ r := by
  rw [← va_pl_push (pl_not hD), List.append_assoc]
  rfl
/-- cells that are no part of the new flat hold what they held -/
theorem ent_old {G : mm_G} {ad : Nat → Nat → Nat → Nat} {g : mm_g} {k q u1 u2 u3 u4 : Nat} (hk0 : k ≠ 0) (hk1 : k ≠ 1) (h01 : ∀ i, ¬ g 0 1 i = 0 → 2 + i ≠ k) (h61 : ∀ i, ¬ g 6 1 i = 0 → 26 + i ≠ k) : ∀ t k2 c, ¬ (t = 2 ∧ k2 = k) → mm_ent G (adU ad k q u1 u2 u3 u4) (mw g 2 k (fun _ => 0)) t k2 c = mm_ent G ad g t k2 c := by
  intro t k2 c h
  rw [mm_othF G _ g _ t k2 c h]
  have e0 : ∀ t' k' c', t' ≠ 2 → adU ad k q u1 u2 u3 u4 t' k' c' = ad t' k' c' := fun t' k' c' h' => adU_n (fun z => h' z.1)
  have f0 : ∀ c', adU ad k q u1 u2 u3 u4 2 0 c' = ad 2 0 c' := fun c' => adU_n (fun z => hk0 z.2.symm)
  have f1 : ∀ c', adU ad k q u1 u2 u3 u4 2 1 c' = ad 2 1 c' := fun c' => adU_n (fun z => hk1 z.2.symm)
  have r0 : (fun i => if g 0 1 i = 0 then none else some (adU ad k q u1 u2 u3 u4 2 (2 + i) 0)) = (fun i => if g 0 1 i = 0 then none else some (ad 2 (2 + i) 0)) := by
    funext i
    by_cases hi : g 0 1 i = 0
    · rw [if_pos hi, if_pos hi]
    · rw [if_neg hi, if_neg hi, adU_n (fun z => h01 i hi z.2)]
  have r6 : (fun i => if g 6 1 i = 0 then none else some (adU ad k q u1 u2 u3 u4 2 (26 + i) 0)) = (fun i => if g 6 1 i = 0 then none else some (ad 2 (26 + i) 0)) := by
    funext i
    by_cases hi : g 6 1 i = 0
    · rw [if_pos hi, if_pos hi]
    · rw [if_neg hi, if_neg hi, adU_n (fun z => h61 i hi z.2)]
  match t, h with
  | 0, h => simp only [mm_ent, mm_cs, e0 _ _ _ (show (0 : Nat) ≠ 2 by decide), r0]
  | 1, h => simp only [mm_ent, mm_cs, e0 _ _ _ (show (1 : Nat) ≠ 2 by decide)]
  | 2, h =>
    have hk : k2 ≠ k := fun z => h ⟨rfl, z⟩
    have e2 : ∀ c', adU ad k q u1 u2 u3 u4 2 k2 c' = ad 2 k2 c' := fun c' => adU_n (fun z => hk z.2)
    simp only [mm_ent, mm_cs, e2]
  | 3, h => simp only [mm_ent, mm_cs, e0 _ _ _ (show (3 : Nat) ≠ 2 by decide), f1]
  | 4, h => simp only [mm_ent, mm_cs, e0 _ _ _ (show (4 : Nat) ≠ 2 by decide)]
  | 5, h => simp only [mm_ent, mm_cs, e0 _ _ _ (show (5 : Nat) ≠ 2 by decide)]
  | 6, h => simp only [mm_ent, mm_cs, e0 _ _ _ (show (0 : Nat) ≠ 2 by decide), e0 _ _ _ (show (1 : Nat) ≠ 2 by decide), e0 _ _ _ (show (3 : Nat) ≠ 2 by decide), e0 _ _ _ (show (4 : Nat) ≠ 2 by decide), e0 _ _ _ (show (5 : Nat) ≠ 2 by decide), e0 _ _ _ (show (6 : Nat) ≠ 2 by decide), f0, r6]
  | 7, h => simp only [mm_ent, mm_cs, e0 _ _ _ (show (7 : Nat) ≠ 2 by decide)]
  | n + 8, h => rfl
theorem mm_grow {G : mm_G} {pr : Nat → Nat → Prop} {ad : Nat → Nat → Nat → Nat} {g : mm_g} {A : Nat → Prop} {H : Heap} {k q u1 u2 u3 u4 : Nat} {Ls : List Nat} {f : Nat → va_E} (hk : ¬ pr 2 k) (hk0 : k ≠ 0) (hk1 : k ≠ 1) (h01 : ∀ i, ¬ g 0 1 i = 0 → 2 + i ≠ k) (h61 : ∀ i, ¬ g 6 1 i = 0 → 26 + i ≠ k) (hP : va_P G.1 vwCl (va_pl Ls f ++ at_X2 G q (u1, u2, u3, u4)) H) (hD : va_D A (va_pl Ls f ++ at_X2 G q (u1, u2, u3, u4))) (hL : mm_L G pr ad g Ls f) (hJ : mm_J pr ad) : mm_R G (prU pr k) (adU ad k q u1 u2 u3 u4) (mw g 2 k (fun _ => 0)) A H := by
  unfold at_X2 at hP hD
  dsimp only at hP hD
  have n0 := pl_not hD
  rw [pl_push hD] at hP hD
  have n1 := pl_not hD
  rw [pl_push hD] at hP hD
  have n2 := pl_not hD
  rw [pl_push hD] at hP hD
  have n3 := pl_not hD
  rw [pl_push hD] at hP hD
  have n4 := pl_not hD
  rw [pl_push hD] at hP hD
  rw [List.append_nil] at hP hD
  simp only [List.mem_append, List.mem_singleton, not_or] at n0 n1 n2 n3 n4
  have old : ∀ t k2 c : Nat, pr t k2 → ¬ (t = 2 ∧ k2 = k) := fun t k2 c h z => hk (by rw [← z.1, ← z.2]; exact h)
  have inL : ∀ t k2 c : Nat, pr t k2 → c < mm_n t → ad t k2 c ∈ Ls := fun t k2 c h hc => by
    obtain ⟨e, he⟩ := mm_ex (G := G) (ad := ad) (g := g) (k := k2) hc
    exact (hL.1 t k2 c e h he).1
  refine ⟨_, _, hP, hD, ⟨?_, ?_⟩, ?_, ?_⟩
  · intro t k2 c e hp he
    by_cases h : t = 2 ∧ k2 = k
    · obtain ⟨rfl, rfl⟩ := h
      have hc := mm_lt he
      have z3 : (fun i => if i < 3 then mw g 2 k2 (fun _ => 0) 2 k2 (6 + i) else 0) = (fun _ => (0 : Int32)) := by
        funext i; rw [mw_s]; split <;> rfl
      have z9 : ∀ a, (fun i => if i < 9 then mw g 2 k2 (fun _ => 0) 2 k2 (a + i) else 0) = (fun _ => (0 : Int32)) := by
        intro a; funext i; rw [mw_s]; split <;> rfl
      match c, hc, he with
      | 0, _, he =>
        rw [adU_0]
        simp only [mm_ent, mm_cs, List.getElem?_cons_zero, mw_s, adU_1, adU_2, adU_3, adU_4] at he
        refine ⟨by simp, ?_⟩
        rw [← Option.some.inj he, va_up_ne _ _ (fun z => n4.1.1.1.2 z.symm), va_up_ne _ _ (fun z => n3.1.1.2 z.symm), va_up_ne _ _ (fun z => n2.1.2 z.symm), va_up_ne _ _ (fun z => n1.2 z.symm), va_up_self]
      | 1, _, he =>
        rw [adU_1]
        simp only [mm_ent, mm_cs, List.getElem?_cons_zero, List.getElem?_cons_succ, z3] at he
        refine ⟨by simp, ?_⟩
        rw [← Option.some.inj he, va_up_ne _ _ (fun z => n4.1.1.2 z.symm), va_up_ne _ _ (fun z => n3.1.2 z.symm), va_up_ne _ _ (fun z => n2.2 z.symm), va_up_self]
      | 2, _, he =>
        rw [adU_2]
        simp only [mm_ent, mm_cs, List.getElem?_cons_zero, List.getElem?_cons_succ, z9] at he
        refine ⟨by simp, ?_⟩
        rw [← Option.some.inj he, va_up_ne _ _ (fun z => n4.1.2 z.symm), va_up_ne _ _ (fun z => n3.2 z.symm), va_up_self]
      | 3, _, he =>
        rw [adU_3]
        simp only [mm_ent, mm_cs, List.getElem?_cons_zero, List.getElem?_cons_succ, z9] at he
        refine ⟨by simp, ?_⟩
        rw [← Option.some.inj he, va_up_ne _ _ (fun z => n4.2 z.symm), va_up_self]
      | 4, _, he =>
        rw [adU_4]
        simp only [mm_ent, mm_cs, List.getElem?_cons_zero, List.getElem?_cons_succ, z9] at he
        refine ⟨by simp, ?_⟩
        rw [← Option.some.inj he, va_up_self]
      | n + 5, hc, _ => exact absurd hc (by show ¬ (n + 5 < 5); omega)
    · have hp2 : pr t k2 := hp.resolve_right h
      rw [ent_old hk0 hk1 h01 h61 t k2 c h] at he
      rw [adU_n h]
      obtain ⟨h1, h2⟩ := hL.1 t k2 c e hp2 he
      refine ⟨by simp [h1], ?_⟩
      rw [va_up_ne _ _ (fun z : ad t k2 c = u4 => n4.1.1.1.1 (by rw [← z]; exact h1)), va_up_ne _ _ (fun z : ad t k2 c = u3 => n3.1.1.1 (by rw [← z]; exact h1)), va_up_ne _ _ (fun z : ad t k2 c = u2 => n2.1.1 (by rw [← z]; exact h1)), va_up_ne _ _ (fun z : ad t k2 c = u1 => n1.1 (by rw [← z]; exact h1)), va_up_ne _ _ (fun z : ad t k2 c = q => n0 (by rw [← z]; exact h1))]
      exact h2
  · intro x hx
    simp only [List.mem_append, List.mem_singleton] at hx
    rcases hx with ((((hx | rfl) | rfl) | rfl) | rfl) | rfl
    · obtain ⟨t, k2, c, h1, h2, rfl⟩ := hL.2 x hx
      exact ⟨t, k2, c, Or.inl h1, h2, (adU_n (old t k2 c h1)).symm⟩
    · exact ⟨2, k, 0, Or.inr ⟨rfl, rfl⟩, by decide, adU_0.symm⟩
    · exact ⟨2, k, 1, Or.inr ⟨rfl, rfl⟩, by decide, adU_1.symm⟩
    · exact ⟨2, k, 2, Or.inr ⟨rfl, rfl⟩, by decide, adU_2.symm⟩
    · exact ⟨2, k, 3, Or.inr ⟨rfl, rfl⟩, by decide, adU_3.symm⟩
    · exact ⟨2, k, 4, Or.inr ⟨rfl, rfl⟩, by decide, adU_4.symm⟩
  · intro t k2 c t' k' c' hp hc hp' hc' he
    by_cases h : t = 2 ∧ k2 = k
    · by_cases h' : t' = 2 ∧ k' = k
      · obtain ⟨rfl, rfl⟩ := h
        obtain ⟨rfl, rfl⟩ := h'
        refine ⟨rfl, rfl, ?_⟩
        have q1 : c < 5 := hc
        have q2 : c' < 5 := hc'
        rcases (show c = 0 ∨ c = 1 ∨ c = 2 ∨ c = 3 ∨ c = 4 by omega) with rfl | rfl | rfl | rfl | rfl <;> rcases (show c' = 0 ∨ c' = 1 ∨ c' = 2 ∨ c' = 3 ∨ c' = 4 by omega) with rfl | rfl | rfl | rfl | rfl <;> first | rfl | (exfalso; clear hP hD hL inL old hJ; simp only [adU_0, adU_1, adU_2, adU_3, adU_4] at he; simp_all)
      · have hp2 : pr t' k' := hp'.resolve_right h'
        obtain ⟨rfl, rfl⟩ := h
        rw [adU_n h'] at he
        have hm := inL t' k' c' hp2 hc'
        rw [← he] at hm
        exfalso
        clear he
        have q1 : c < 5 := hc
        rcases (show c = 0 ∨ c = 1 ∨ c = 2 ∨ c = 3 ∨ c = 4 by omega) with rfl | rfl | rfl | rfl | rfl
        · rw [adU_0] at hm; exact n0 hm
        · rw [adU_1] at hm; exact n1.1 hm
        · rw [adU_2] at hm; exact n2.1.1 hm
        · rw [adU_3] at hm; exact n3.1.1.1 hm
        · rw [adU_4] at hm; exact n4.1.1.1.1 hm
    · have hp2 : pr t k2 := hp.resolve_right h
      by_cases h' : t' = 2 ∧ k' = k
      · obtain ⟨rfl, rfl⟩ := h'
        rw [adU_n h] at he
        have hm := inL t k2 c hp2 hc
        rw [he] at hm
        exfalso
        clear he
        have q1 : c' < 5 := hc'
        rcases (show c' = 0 ∨ c' = 1 ∨ c' = 2 ∨ c' = 3 ∨ c' = 4 by omega) with rfl | rfl | rfl | rfl | rfl
        · rw [adU_0] at hm; exact n0 hm
        · rw [adU_1] at hm; exact n1.1 hm
        · rw [adU_2] at hm; exact n2.1.1 hm
        · rw [adU_3] at hm; exact n3.1.1.1 hm
        · rw [adU_4] at hm; exact n4.1.1.1.1 hm
      · rw [adU_n h, adU_n h'] at he
        exact hJ.1 t k2 c t' k' c' hp2 hc (hp'.resolve_right h') hc' he
  · intro t k2 hp ht
    rcases hp with hp | hp
    · exact hJ.2 t k2 hp ht
    · exact absurd hp.1 ht
