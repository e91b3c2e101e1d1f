theorem ix_7m {x : Int32} (h : vp_in x 2) : vp_in (7 - x) 36 := by
  obtain ⟨i, hi, rfl⟩ := vp_in_of h (by decide)
  have e1 : (7 : Int32) = nI 7 := rfl
  rw [e1, pk_sub (by omega)]
  exact vp_in_nI (by omega) (by decide)
theorem lp_u1 {x : Int32} {j n : Nat} (hj : j ≤ x.toInt.toNat + 1) (h : ¬ x ≤ nI j) (hx : 0 ≤ x.toInt ∧ x.toInt ≤ 9) (hm : x.toInt.toNat + 1 - j < n + 1) : j + 1 ≤ x.toInt.toNat + 1 ∧ x.toInt.toNat + 1 - (j + 1) < n := by
  rw [toI_le, nI_toInt (by omega)] at h
  omega
theorem wi_s {x c : Int32} {n : Nat} (hc : 0 ≤ c.toInt ∧ c.toInt ≤ x.toInt + 1) (hx : 0 ≤ x.toInt ∧ x.toInt ≤ 9) (h : ¬ x ≤ c) (hm : (x.toInt + 1 - c.toInt).toNat < n + 1) : (0 ≤ (c + 1).toInt ∧ (c + 1).toInt ≤ x.toInt + 1) ∧ (x.toInt + 1 - (c + 1).toInt).toNat < n := by
  rw [toI_le] at h
  rw [i_p1 (by omega) (by omega)]
  omega
theorem wi_t {x c : Int32} {n : Nat} (hc : 0 ≤ c.toInt ∧ c.toInt ≤ x.toInt + 1) (hx : 0 ≤ x.toInt ∧ x.toInt ≤ 9) (h : ¬ x + 1 ≤ c) (hm : (x.toInt + 1 - c.toInt).toNat < n + 1) : (0 ≤ (c + 1).toInt ∧ (c + 1).toInt ≤ x.toInt + 1) ∧ (x.toInt + 1 - (c + 1).toInt).toNat < n := by
  rw [toI_le, i_p1 (by omega) (by omega)] at h
  rw [i_p1 (by omega) (by omega)]
  omega
theorem wi_e {x : Int32} {j : Nat} (hj : j ≤ x.toInt.toNat + 1) (h : ¬ x ≤ nI j) (hx : 0 ≤ x.toInt ∧ x.toInt ≤ 9) : 0 ≤ (nI j + 1).toInt ∧ (nI j + 1).toInt ≤ x.toInt + 1 := by
  rw [toI_le, nI_toInt (by omega)] at h
  rw [nI_1, nI_toInt (by omega)]
  omega
theorem wi_f {x : Int32} (hx : 0 ≤ x.toInt ∧ x.toInt ≤ 9) : 0 ≤ x.toInt ∧ x.toInt ≤ x.toInt + 1 := by omega
theorem wi_m {x c : Int32} (hc : 0 ≤ c.toInt ∧ c.toInt ≤ x.toInt + 1) (hx : 0 ≤ x.toInt ∧ x.toInt ≤ 9) : (x.toInt + 1 - c.toInt).toNat < 12 := by omega
theorem ix_it {i n : Int32} {j : Nat} (h : 0 ≤ i.toInt ∧ i.toInt + n.toInt ≤ 320) (hj : j ≤ n.toInt.toNat) (h2 : ¬ n ≤ nI j) : vp_in (i + nI j) 320 := by
  obtain ⟨b, hb, rfl⟩ := nI_of (x := i) (by rw [toI_lt]; have e0 : (0 : Int32).toInt = 0 := rfl; omega)
  have hn := Int32.toInt_lt n
  rw [toI_le, nI_toInt (by omega)] at h2
  rw [nI_toInt hb] at h
  rw [nI_add]
  exact vp_in_nI (by omega) (by decide)
theorem lt_59 {j : Nat} (h : ¬ (5 : Int32) < nI j) : ¬ (9 : Int32) < nI j := fun q => h (by
  rw [toI_lt] at q ⊢
  have e5 : (5 : Int32).toInt = 5 := rfl
  have e9 : (9 : Int32).toInt = 9 := rfl
  omega)
theorem h7_9 {x : Int32} (h : vp_in x 9) : vp_in (9 + x) 36 ∧ (9 + x).toNatClampNeg ≠ 0 := by
  refine ⟨ix_9 h, ?_⟩
  obtain ⟨i, hi, rfl⟩ := vp_in_of h (by decide)
  have e1 : (9 : Int32) = nI 9 := rfl
  rw [e1, nI_add, nI_clamp (by omega)]
  omega
theorem h7_27 {x : Int32} (h : vp_in x 9) : vp_in (27 + x) 36 ∧ (27 + x).toNatClampNeg ≠ 0 := by
  refine ⟨ix_27 h, ?_⟩
  obtain ⟨i, hi, rfl⟩ := vp_in_of h (by decide)
  have e1 : (27 : Int32) = nI 27 := rfl
  rw [e1, nI_add, nI_clamp (by omega)]
  omega
theorem h7_3 : vp_in 3 36 ∧ (3 : Int32).toNatClampNeg ≠ 0 := ⟨by unfold vp_in; decide, by decide⟩
theorem lacks_4 {g : mm_g} {r i n : Int32} : (F_X7_lacks g r i n).2 7 4 0 = g 7 4 0 := by
  unfold F_X7_lacks F_X7_find
  repeat' split
  all_goals first | rfl | exact wr_k (by decide)
theorem okB_lacks {g : mm_g} {r i n : Int32} (h : okB g) : okB (F_X7_lacks g r i n).2 := by
  unfold okB
  rw [lacks_4]
  exact h
theorem lk_2 {g : mm_g} {r i n : Int32} (hR : okR7 g) (h1 : vp_in r 8) (h : 0 ≤ (F_X7_lacks g r i n).1) : 0 ≤ i.toInt ∧ i.toInt + n.toInt ≤ 40 := by
  unfold F_X7_lacks F_X7_find at h
  have h3 := hR _ (vp_lt h1)
  by_cases h4 : 0 ≤ g 7 2 r.toNatClampNeg
  · rw [if_pos h4] at h
    by_cases h5 : F_X7_in i.toInt64 0 (g 7 2 r.toNatClampNeg - n).toInt64 = 0
    · rw [if_pos h5] at h
      exact absurd h (by show ¬ (0 : Int32) ≤ -1000010 - 2; decide)
    · have h2 := F_X7_in_1 h5
      rw [toI_le] at h4
      have a1 := Int32.toInt_lt n
      have a2 := Int32.le_toInt n
      have e0 : (0 : Int32).toInt = 0 := rfl
      have e2 : (0 : Int64).toInt = 0 := rfl
      rw [Int32.toInt_toInt64, Int32.toInt_toInt64, Int32.toInt_sub] at h2
      have h6 : ((g 7 2 r.toNatClampNeg).toInt - n.toInt).bmod (2 ^ 32) ≤ (g 7 2 r.toNatClampNeg).toInt - n.toInt := by
        by_cases h7 : (g 7 2 r.toNatClampNeg).toInt - n.toInt < 2 ^ 31
        · rw [Int.bmod_eq_of_le_mul_two (by omega) (by omega)]
          exact Int.le_refl _
        · have := Int.bmod_lt (x := (g 7 2 r.toNatClampNeg).toInt - n.toInt) (m := 2 ^ 32) (by decide)
          omega
      omega
  · rw [if_neg h4] at h
    exact absurd h (by show ¬ (0 : Int32) ≤ -1000010 - 1; decide)
theorem in_n {x : Int32} (h : ¬ F_X7_in x.toInt64 1 12 = 0) : 0 ≤ x.toInt := by
  have h1 := F_X7_in_1 h
  have e1 : (1 : Int64).toInt = 1 := rfl
  rw [Int32.toInt_toInt64] at h1
  omega
theorem lk_1 {g : mm_g} {r i n : Int32} (hR : okR7 g) (h1 : vp_in r 8) (h : 0 ≤ (F_X7_lacks g r i n).1) (hn : 0 ≤ n.toInt) : 0 ≤ (40 * r + i).toInt ∧ (40 * r + i).toInt + n.toInt ≤ 320 := by
  have h2 := lk_2 hR h1 h
  obtain ⟨a, ha, rfl⟩ := vp_in_of h1 (by decide)
  obtain ⟨b, hb, rfl⟩ := nI_of (x := i) (by rw [toI_lt]; have e0 : (0 : Int32).toInt = 0 := rfl; omega)
  rw [nI_toInt hb] at h2
  have e40 : (40 : Int32) = nI 40 := rfl
  rw [e40, pk_mul, nI_add, nI_toInt (by omega)]
  omega
def okC (g : mm_g) : Prop := okB g ∧ 0 ≤ (g 7 9 0).toInt ∧ (g 7 9 0).toInt ≤ 9
theorem okC_j {s : mm_g} {j : Nat} {x : Int32} (hj : j ≠ 0) (h : okC s) : okC (wr s 7 4 j x) := by
  refine ⟨okB_j hj h.1, ?_⟩
  rw [wr_k (by decide)]
  exact h.2
theorem okC_tide {g : mm_g} (h : okC g) : okC (F_X7_oneTide g) := by
  refine ⟨okB_tide h.1, ?_⟩
  rw [tide_k (by decide)]
  exact h.2
theorem take_2 {P Q : mm_g → Prop} (hP : ∀ s i, P s → P (wr s 7 4 i (s 7 9 i))) {K : Nat → mm_g → mm_g} (hK : ∀ j s, P s → Q (K j s)) : ∀ (n j : Nat) (s : mm_g), P s → Q (F_X7_takeBack_2 K n j s)
  | 0, j, s, h => hK j s h
  | n + 1, j, s, h => by
    unfold F_X7_takeBack_2
    split
    · exact hK j s h
    · exact take_2 hP hK n (j + 1) _ (hP _ _ h)
theorem okC_take {g : mm_g} (h : okC g) : okC (F_X7_takeBack g) := by
  unfold F_X7_takeBack
  refine take_2 (P := okC) (fun s i q => ?_) (fun j s q => q) _ _ _ h
  by_cases hi : i = 0
  · subst hi
    refine ⟨?_, ?_⟩
    · unfold okB
      rw [wr_at, if_pos ⟨rfl, rfl, rfl⟩]
      exact q.2
    · rw [wr_k (by decide)]
      exact q.2
  · exact okC_j hi q
theorem aside_4 {g : mm_g} : (F_X7_putAside g) 7 4 0 = g 7 4 0 := by
  unfold F_X7_putAside
  exact aside_2 (P := fun s => s 7 4 0 = g 7 4 0) (Q := fun s => s 7 4 0 = g 7 4 0) (fun s i x q => (wr_k (by decide)).trans q) (fun j s q => q) _ _ _ rfl
theorem aside_1 {v : Int32} {K : Nat → mm_g → mm_g} (hK : ∀ j s, s 7 9 0 = v → (K j s) 7 9 0 = v) : ∀ (n j : Nat) (s : mm_g), 1 ≤ j → j ≤ 36 → s 7 9 0 = v → (F_X7_putAside_2 K n j s) 7 9 0 = v
  | 0, j, s, h1, h2, h => hK j s h
  | n + 1, j, s, h1, h2, h => by
    unfold F_X7_putAside_2
    by_cases c : (36 : Int32) ≤ nI j
    · rw [if_pos c]; exact hK j s h
    · have h3 := (lp_up (x := 36) (n := 36) (show j ≤ (36 : Int32).toInt.toNat from h2) c (show 36 - j < 36 + 1 by omega)).1
      rw [if_neg c]
      exact aside_1 hK n (j + 1) _ (by omega) h3 (by rw [wr_o (by rw [nI_clamp (by omega)]; omega)]; exact h)
theorem okC_aside {g : mm_g} (h : okB g) : okC (F_X7_putAside g) := by
  refine ⟨okB_aside h, ?_⟩
  have h1 : (F_X7_putAside g) 7 9 0 = g 7 4 0 := by
    unfold F_X7_putAside
    rw [show ((36 : Int32).toInt.toNat + 1) = 36 + 1 from rfl, F_X7_putAside_2, if_neg (by decide)]
    exact aside_1 (fun j s q => q) 36 1 _ (by omega) (by omega) (by rw [show (nI 0).toNatClampNeg = 0 from rfl, wr_at, if_pos ⟨rfl, rfl, rfl⟩])
  rw [h1]
  exact h
theorem okB_27 {g : mm_g} {x y : Int32} (hv : vp_in x 9) (h : okB g) : okB (wr g 7 4 (27 + x).toNatClampNeg y) := by
  unfold okB
  rw [wr_27 hv]
  exact h
theorem rk_0 {g : mm_g} {b n : Int32} (hx : vp_in b 9) : (F_X7_rakeBy g b n) 7 4 0 = g 7 4 0 := by
  unfold F_X7_rakeBy
  rw [wr_18 hx]
  rcases lies_in (g := g) (b := b) with q | q | q <;> (rw [q]; exact wr_o (by decide))
theorem okB_rk {g : mm_g} {b n : Int32} (hx : vp_in b 9) (h : okB g) : okB (F_X7_rakeBy g b n) := by
  unfold okB
  rw [rk_0 hx]
  exact h
theorem l_rem {a b : Int64} (ha : 0 ≤ a.toInt) (hb : 0 < b.toInt) : 0 ≤ (a - a / b * b).toInt ∧ (a - a / b * b).toInt < b.toInt := by
  obtain ⟨i, hi, rfl⟩ := pk_lOf (x := a) (by rw [Int64.lt_iff_toInt_lt]; have e0 : (0 : Int64).toInt = 0 := rfl; omega)
  obtain ⟨j, hj, rfl⟩ := pk_lOf (x := b) (by rw [Int64.lt_iff_toInt_lt]; have e0 : (0 : Int64).toInt = 0 := rfl; omega)
  rw [pk_lT hj] at hb
  have h1 : i % j < j := Nat.mod_lt _ (by omega)
  rw [pk_lRem hi (by omega) hj, pk_lT (by omega), pk_lT hj]
  omega
theorem rem_y {y : Int64} (hy : 0 ≤ y.toInt ∧ y.toInt < 2147483648) : 0 ≤ (y * 16807 - y * 16807 / 2147483647 * 2147483647).toInt ∧ (y * 16807 - y * 16807 / 2147483647 * 2147483647).toInt < 2147483648 := by
  have e1 : (16807 : Int64).toInt = 16807 := rfl
  have e2 : (2147483647 : Int64).toInt = 2147483647 := rfl
  have h1 : (y * 16807).toInt = y.toInt * 16807 := by
    rw [Int64.toInt_mul, e1, Int.bmod_eq_of_le_mul_two (by omega) (by omega)]
  have h2 := l_rem (a := y * 16807) (b := 2147483647) (by rw [h1]; omega) (by rw [e2]; omega)
  omega
theorem bi_9 {s : mm_g} {y : Int64} (hy : 0 ≤ y.toInt ∧ y.toInt < 2147483648) (hB : okB s) (hb : 1 ≤ s 7 4 0) : vp_in (y - y / (s 7 4 0).toInt64 * (s 7 4 0).toInt64).toInt32 9 := by
  rw [toI_le] at hb
  have e1 : (1 : Int32).toInt = 1 := rfl
  have h2 := l_rem (a := y) (b := (s 7 4 0).toInt64) hy.1 (by rw [Int32.toInt_toInt64]; omega)
  rw [Int32.toInt_toInt64] at h2
  have h3 := hB.2
  refine vp_in_iff.mpr ?_
  rw [Int64.toInt_toInt32, Int.bmod_eq_of_le_mul_two (by omega) (by omega)]
  omega
theorem sd_y {x : Int32} (h : ¬ F_X7_in x.toInt64 1 999999 = 0) : 0 ≤ x.toInt64.toInt ∧ x.toInt64.toInt < 2147483648 := by
  have h1 := F_X7_in_1 h
  have e1 : (1 : Int64).toInt = 1 := rfl
  have e2 : (999999 : Int64).toInt = 999999 := rfl
  omega
def F_X7_rests_32 (x1 : Int32) (K : Int32 → Int32 → Nat → mm_g → Int32 × mm_g) : Nat → Int32 → Int32 → Nat → mm_g → Int32 × mm_g
  | 0, a, b, j, s => K a b j s
  | n + 1, a, b, j, s => (if 81 ≤ (nI j) then K a b j s else (if (F_X7_leadFrom ((F_X7_bestCell (wr (wr s 7 4 1 ((nI j) / 9)) 7 4 2 ((nI j) - (nI j) / 9 * 9)) 0).2) 0 ((F_X7_bestCell (wr (wr s 7 4 1 ((nI j) / 9)) 7 4 2 ((nI j) - (nI j) / 9 * 9)) 0).1)).1 = (F_X7_leadOf ((F_X7_leadFrom ((F_X7_bestCell (wr (wr s 7 4 1 ((nI j) / 9)) 7 4 2 ((nI j) - (nI j) / 9 * 9)) 0).2) 0 ((F_X7_bestCell (wr (wr s 7 4 1 ((nI j) / 9)) 7 4 2 ((nI j) - (nI j) / 9 * 9)) 0).1)).2) 0) then (if (F_X7_leadFrom ((F_X7_bestCell ((F_X7_leadFrom ((F_X7_bestCell (wr (wr s 7 4 1 ((nI j) / 9)) 7 4 2 ((nI j) - (nI j) / 9 * 9)) 0).2) 0 ((F_X7_bestCell (wr (wr s 7 4 1 ((nI j) / 9)) 7 4 2 ((nI j) - (nI j) / 9 * 9)) 0).1)).2) 1).2) 1 ((F_X7_bestCell ((F_X7_leadFrom ((F_X7_bestCell (wr (wr s 7 4 1 ((nI j) / 9)) 7 4 2 ((nI j) - (nI j) / 9 * 9)) 0).2) 0 ((F_X7_bestCell (wr (wr s 7 4 1 ((nI j) / 9)) 7 4 2 ((nI j) - (nI j) / 9 * 9)) 0).1)).2) 1).1)).1 = (F_X7_leadOf ((F_X7_leadFrom ((F_X7_bestCell ((F_X7_leadFrom ((F_X7_bestCell (wr (wr s 7 4 1 ((nI j) / 9)) 7 4 2 ((nI j) - (nI j) / 9 * 9)) 0).2) 0 ((F_X7_bestCell (wr (wr s 7 4 1 ((nI j) / 9)) 7 4 2 ((nI j) - (nI j) / 9 * 9)) 0).1)).2) 1).2) 1 ((F_X7_bestCell ((F_X7_leadFrom ((F_X7_bestCell (wr (wr s 7 4 1 ((nI j) / 9)) 7 4 2 ((nI j) - (nI j) / 9 * 9)) 0).2) 0 ((F_X7_bestCell (wr (wr s 7 4 1 ((nI j) / 9)) 7 4 2 ((nI j) - (nI j) / 9 * 9)) 0).1)).2) 1).1)).2) 1) then (if 0 ≤ b then F_X7_rests_32 x1 K n (a + 1) b (j + 1) ((F_X7_leadFrom ((F_X7_bestCell ((F_X7_leadFrom ((F_X7_bestCell (wr (wr s 7 4 1 ((nI j) / 9)) 7 4 2 ((nI j) - (nI j) / 9 * 9)) 0).2) 0 ((F_X7_bestCell (wr (wr s 7 4 1 ((nI j) / 9)) 7 4 2 ((nI j) - (nI j) / 9 * 9)) 0).1)).2) 1).2) 1 ((F_X7_bestCell ((F_X7_leadFrom ((F_X7_bestCell (wr (wr s 7 4 1 ((nI j) / 9)) 7 4 2 ((nI j) - (nI j) / 9 * 9)) 0).2) 0 ((F_X7_bestCell (wr (wr s 7 4 1 ((nI j) / 9)) 7 4 2 ((nI j) - (nI j) / 9 * 9)) 0).1)).2) 1).1)).2) else F_X7_rests_32 x1 K n (a + 1) ((10 * ((nI j) / 9)) + ((nI j) - (nI j) / 9 * 9)) (j + 1) ((F_X7_leadFrom ((F_X7_bestCell ((F_X7_leadFrom ((F_X7_bestCell (wr (wr s 7 4 1 ((nI j) / 9)) 7 4 2 ((nI j) - (nI j) / 9 * 9)) 0).2) 0 ((F_X7_bestCell (wr (wr s 7 4 1 ((nI j) / 9)) 7 4 2 ((nI j) - (nI j) / 9 * 9)) 0).1)).2) 1).2) 1 ((F_X7_bestCell ((F_X7_leadFrom ((F_X7_bestCell (wr (wr s 7 4 1 ((nI j) / 9)) 7 4 2 ((nI j) - (nI j) / 9 * 9)) 0).2) 0 ((F_X7_bestCell (wr (wr s 7 4 1 ((nI j) / 9)) 7 4 2 ((nI j) - (nI j) / 9 * 9)) 0).1)).2) 1).1)).2)) else F_X7_rests_32 x1 K n (a + 0) b (j + 1) ((F_X7_leadFrom ((F_X7_bestCell ((F_X7_leadFrom ((F_X7_bestCell (wr (wr s 7 4 1 ((nI j) / 9)) 7 4 2 ((nI j) - (nI j) / 9 * 9)) 0).2) 0 ((F_X7_bestCell (wr (wr s 7 4 1 ((nI j) / 9)) 7 4 2 ((nI j) - (nI j) / 9 * 9)) 0).1)).2) 1).2) 1 ((F_X7_bestCell ((F_X7_leadFrom ((F_X7_bestCell (wr (wr s 7 4 1 ((nI j) / 9)) 7 4 2 ((nI j) - (nI j) / 9 * 9)) 0).2) 0 ((F_X7_bestCell (wr (wr s 7 4 1 ((nI j) / 9)) 7 4 2 ((nI j) - (nI j) / 9 * 9)) 0).1)).2) 1).1)).2)) else F_X7_rests_32 x1 K n (a + 0) b (j + 1) ((F_X7_leadFrom ((F_X7_bestCell (wr (wr s 7 4 1 ((nI j) / 9)) 7 4 2 ((nI j) - (nI j) / 9 * 9)) 0).2) 0 ((F_X7_bestCell (wr (wr s 7 4 1 ((nI j) / 9)) 7 4 2 ((nI j) - (nI j) / 9 * 9)) 0).1)).2)))
def F_X7_rests (g : mm_g) (x1 : Int32) : Int32 × mm_g := (if (g 7 0 1) = 0 then ((-1000002), g) else (if (F_X7_isWhat x1) = 0 then ((-1000001), g) else (F_X7_rests_32 x1 (fun (a32 : Int32) (b32 : Int32) (j32 : Nat) (s32 : mm_g) => (if x1 = 0 then (a32, (F_X7_takeBack s32)) else (b32, (F_X7_takeBack s32)))) ((81 : Int32).toInt.toNat + 1) 0 (-1000000) 0 (F_X7_putAside g))))
set_option maxRecDepth 100000 in
set_option maxHeartbeats 4000000 in
theorem w_X7_rests_32 (l : Launch) (G : mm_G) {pr : Nat → Nat → Prop} {ad : Nat → Nat → Nat → Nat} (hw : mm_W pr) (x1 : Int32)  (K : Int32 → Int32 → Nat → mm_g → Int32 × mm_g) (hK : ∀ (a : Int32) (b : Int32) (j : Nat) (s : mm_g) (hj : j ≤ (81 : Int32).toInt.toNat) (hB : okB s), V l G RX7 cX7_rests 6 (some .int) (rmk 8 221) (qM pr ad (K a b j s)) 0 0 0 0 151 [(0, .ref (ad 7 0 0)), (1, .int x1), (2, .int a), (3, .int b), (4, .int (nI j))] [] pr ad s) : ∀ (n : Nat) (a : Int32) (b : Int32) (j : Nat) (s : mm_g) (hj : j ≤ (81 : Int32).toInt.toNat) (hB : okB s) (hm : (81 : Int32).toInt.toNat - j < n), V l G RX7 cX7_rests 6 (some .int) (rmk 8 221) (qM pr ad (F_X7_rests_32 x1 K n a b j s)) 0 0 0 0 32 [(0, .ref (ad 7 0 0)), (1, .int x1), (2, .int a), (3, .int b), (4, .int (nI j))] [] pr ad s := by
  intro n
  induction n with
  | zero => intro a b j s hj hB hm; exact absurd hm (Nat.not_lt_zero _)
  | succ n ih =>
      intro a b j s hj hB hm
      refine V_iload dX7_rests_32 4 rfl ?_
      refine V_bipush (v := 81) dX7_rests_34 (by decide) ?_
      refine V_ic_ge (tgt := 151) dX7_rests_36 (by decide) (fun c_36 => ?_) (fun c_36 => ?_)
      · refine V_rp (R2 := K a b j s) (by simp only [F_X7_rests_32, if_pos c_36]) ?_
        refine V_lp [0, 1, 2, 3, 4] rfl ?_
        exact hK a b j s (by assumption) (by assumption)
      · refine V_aload_n dX7_rests_39 0 rfl ?_
        refine V_get (i := 5) inlX7 rfl (W_7 hw) rfl (by decide) q_94 rfl dX7_rests_40 ?_
        refine V_iconst (v := 1) dX7_rests_43 (by decide) ?_
        refine V_iload dX7_rests_44 4 rfl ?_
        refine V_bipush (v := 9) dX7_rests_46 (by decide) ?_
        refine V_idiv dX7_rests_48 (by decide) ?_
        refine S_7_4_l 1 rfl (W_7 hw) (by unfold vp_in; decide) dX7_rests_49 ?_
        refine V_aload_n dX7_rests_50 0 rfl ?_
        refine V_get (i := 5) inlX7 rfl (W_7 hw) rfl (by decide) q_94 rfl dX7_rests_51 ?_
        refine V_iconst (v := 2) dX7_rests_54 (by decide) ?_
        refine V_iload dX7_rests_55 4 rfl ?_
        refine V_bipush (v := 9) dX7_rests_57 (by decide) ?_
        refine V_irem dX7_rests_59 (by decide) ?_
        refine S_7_4_l 2 rfl (W_7 hw) (by unfold vp_in; decide) dX7_rests_60 ?_
        refine V_aload_n dX7_rests_61 0 rfl ?_
        refine V_iconst (v := 0) dX7_rests_62 (by decide) ?_
        refine V_aload_n dX7_rests_63 0 rfl ?_
        refine V_iconst (v := 0) dX7_rests_64 (by decide) ?_
        refine V_cV (k_X7_bestCell l G hw (wr (wr s 7 4 1 ((nI j) / 9)) 7 4 2 ((nI j) - (nI j) / 9 * 9))  0 (okB_j (by decide) (okB_j (by decide) hB)) (by unfold vp_in; decide)) hy_X7_bestCell hi_X7_bestCell hs_X7_bestCell q_671 rfl rfl (W_7 hw) rfl rfl rfl rfl rfl ⟨by decide, by decide⟩ (Nat.le_of_ble_eq_true rfl) ⟨by decide, by decide⟩ dX7_rests_65 (V_kM ?_)
        refine V_cV (k_X7_leadFrom l G hw ((F_X7_bestCell (wr (wr s 7 4 1 ((nI j) / 9)) 7 4 2 ((nI j) - (nI j) / 9 * 9)) 0).2)  0 ((F_X7_bestCell (wr (wr s 7 4 1 ((nI j) / 9)) 7 4 2 ((nI j) - (nI j) / 9 * 9)) 0).1) (okB_best (okB_j (by decide) (okB_j (by decide) hB)) (by unfold vp_in; decide)) (by unfold vp_in; decide)) hy_X7_leadFrom hi_X7_leadFrom hs_X7_leadFrom q_679 rfl rfl (W_7 hw) rfl rfl rfl rfl rfl ⟨by decide, by decide⟩ (Nat.le_of_ble_eq_true rfl) ⟨by decide, by decide⟩ dX7_rests_68 (V_kM ?_)
        refine V_aload_n dX7_rests_71 0 rfl ?_
        refine V_iconst (v := 0) dX7_rests_72 (by decide) ?_
        refine V_cV (k_X7_leadOf l G hw ((F_X7_leadFrom ((F_X7_bestCell (wr (wr s 7 4 1 ((nI j) / 9)) 7 4 2 ((nI j) - (nI j) / 9 * 9)) 0).2) 0 ((F_X7_bestCell (wr (wr s 7 4 1 ((nI j) / 9)) 7 4 2 ((nI j) - (nI j) / 9 * 9)) 0).1)).2)  0 (okB_lf (okB_best (okB_j (by decide) (okB_j (by decide) hB)) (by unfold vp_in; decide)) (by unfold vp_in; decide)) (by unfold vp_in; decide)) hy_X7_leadOf hi_X7_leadOf hs_X7_leadOf q_675 rfl rfl (W_7 hw) rfl rfl rfl rfl rfl ⟨by decide, by decide⟩ (Nat.le_of_ble_eq_true rfl) ⟨by decide, by decide⟩ dX7_rests_73 (V_kI ?_)
        refine V_ic_ne (tgt := 101) dX7_rests_76 (by decide) (fun c_76 => ?_) (fun c_76 => ?_)
        · refine V_iconst (v := 0) dX7_rests_101 (by decide) ?_
          refine V_istore (L2 := [(5, .int 0), (0, .ref (ad 7 0 0)), (1, .int x1), (2, .int a), (3, .int b), (4, .int (nI j))]) dX7_rests_102 (by decide) rfl ?_
          refine V_iload_n dX7_rests_104 3 rfl ?_
          refine V_iload dX7_rests_105 0 rfl ?_
          refine V_if_eq (tgt := 114) dX7_rests_107 (by decide) (fun c_107 => ?_) (fun c_107 => ?_)
          · refine V_iconst (v := 0) dX7_rests_114 (by decide) ?_
            refine V_iadd dX7_rests_115 ?_
            refine V_istore_n (L2 := [(2, .int (a + 0)), (5, .int 0), (0, .ref (ad 7 0 0)), (1, .int x1), (3, .int b), (4, .int (nI j))]) dX7_rests_116 (by decide) rfl ?_
            refine V_iload dX7_rests_117 1 rfl ?_
            refine V_if_eq (tgt := 143) dX7_rests_119 (by decide) (fun c_119 => ?_) (fun c_119 => ?_)
            · refine V_iload_n dX7_rests_143 4 rfl ?_
              refine V_istore_n (L2 := [(3, .int b), (2, .int (a + 0)), (5, .int 0), (0, .ref (ad 7 0 0)), (1, .int x1), (4, .int (nI j))]) dX7_rests_144 (by decide) rfl ?_
              refine V_iinc (v := (nI (j + 1))) (L2 := [(4, .int (nI (j + 1))), (3, .int b), (2, .int (a + 0)), (5, .int 0), (0, .ref (ad 7 0 0)), (1, .int x1)]) dX7_rests_145 5 rfl (nI_1 _) (by decide) rfl ?_
              refine V_goto (tgt := 32) dX7_rests_148 (by decide) ?_
              refine V_rp (R2 := F_X7_rests_32 x1 K n (a + 0) b (j + 1) ((F_X7_leadFrom ((F_X7_bestCell (wr (wr s 7 4 1 ((nI j) / 9)) 7 4 2 ((nI j) - (nI j) / 9 * 9)) 0).2) 0 ((F_X7_bestCell (wr (wr s 7 4 1 ((nI j) / 9)) 7 4 2 ((nI j) - (nI j) / 9 * 9)) 0).1)).2)) (by simp only [F_X7_rests_32, if_neg c_36, if_neg c_76]) ?_
              refine V_lp [4, 5, 2, 1, 0] rfl ?_
              exact ih (a + 0) b (j + 1) ((F_X7_leadFrom ((F_X7_bestCell (wr (wr s 7 4 1 ((nI j) / 9)) 7 4 2 ((nI j) - (nI j) / 9 * 9)) 0).2) 0 ((F_X7_bestCell (wr (wr s 7 4 1 ((nI j) / 9)) 7 4 2 ((nI j) - (nI j) / 9 * 9)) 0).1)).2) (by exact (lp_up hj c_36 hm).1) (by first | with_reducible exact (okB_lf (okB_best (okB_lf (okB_best (okB_j (by decide) (okB_j (by decide) hB)) (by unfold vp_in; decide)) (by unfold vp_in; decide)) (by unfold vp_in; decide)) (by unfold vp_in; decide)) | with_reducible exact (okB_lf (okB_best (okB_j (by decide) (okB_j (by decide) hB)) (by unfold vp_in; decide)) (by unfold vp_in; decide))) (by exact (lp_up hj c_36 hm).2) 
            · exact absurd (by decide) c_119
          · exact absurd (by decide) c_107
        · refine V_aload_n dX7_rests_79 0 rfl ?_
          refine V_iconst (v := 1) dX7_rests_80 (by decide) ?_
          refine V_aload_n dX7_rests_81 0 rfl ?_
          refine V_iconst (v := 1) dX7_rests_82 (by decide) ?_
          refine V_cV (k_X7_bestCell l G hw ((F_X7_leadFrom ((F_X7_bestCell (wr (wr s 7 4 1 ((nI j) / 9)) 7 4 2 ((nI j) - (nI j) / 9 * 9)) 0).2) 0 ((F_X7_bestCell (wr (wr s 7 4 1 ((nI j) / 9)) 7 4 2 ((nI j) - (nI j) / 9 * 9)) 0).1)).2)  1 (okB_lf (okB_best (okB_j (by decide) (okB_j (by decide) hB)) (by unfold vp_in; decide)) (by unfold vp_in; decide)) (by unfold vp_in; decide)) hy_X7_bestCell hi_X7_bestCell hs_X7_bestCell q_671 rfl rfl (W_7 hw) rfl rfl rfl rfl rfl ⟨by decide, by decide⟩ (Nat.le_of_ble_eq_true rfl) ⟨by decide, by decide⟩ dX7_rests_83 (V_kM ?_)
          refine V_cV (k_X7_leadFrom l G hw ((F_X7_bestCell ((F_X7_leadFrom ((F_X7_bestCell (wr (wr s 7 4 1 ((nI j) / 9)) 7 4 2 ((nI j) - (nI j) / 9 * 9)) 0).2) 0 ((F_X7_bestCell (wr (wr s 7 4 1 ((nI j) / 9)) 7 4 2 ((nI j) - (nI j) / 9 * 9)) 0).1)).2) 1).2)  1 ((F_X7_bestCell ((F_X7_leadFrom ((F_X7_bestCell (wr (wr s 7 4 1 ((nI j) / 9)) 7 4 2 ((nI j) - (nI j) / 9 * 9)) 0).2) 0 ((F_X7_bestCell (wr (wr s 7 4 1 ((nI j) / 9)) 7 4 2 ((nI j) - (nI j) / 9 * 9)) 0).1)).2) 1).1) (okB_best (okB_lf (okB_best (okB_j (by decide) (okB_j (by decide) hB)) (by unfold vp_in; decide)) (by unfold vp_in; decide)) (by unfold vp_in; decide)) (by unfold vp_in; decide)) hy_X7_leadFrom hi_X7_leadFrom hs_X7_leadFrom q_679 rfl rfl (W_7 hw) rfl rfl rfl rfl rfl ⟨by decide, by decide⟩ (Nat.le_of_ble_eq_true rfl) ⟨by decide, by decide⟩ dX7_rests_86 (V_kM ?_)
          refine V_aload_n dX7_rests_89 0 rfl ?_
          refine V_iconst (v := 1) dX7_rests_90 (by decide) ?_
          refine V_cV (k_X7_leadOf l G hw ((F_X7_leadFrom ((F_X7_bestCell ((F_X7_leadFrom ((F_X7_bestCell (wr (wr s 7 4 1 ((nI j) / 9)) 7 4 2 ((nI j) - (nI j) / 9 * 9)) 0).2) 0 ((F_X7_bestCell (wr (wr s 7 4 1 ((nI j) / 9)) 7 4 2 ((nI j) - (nI j) / 9 * 9)) 0).1)).2) 1).2) 1 ((F_X7_bestCell ((F_X7_leadFrom ((F_X7_bestCell (wr (wr s 7 4 1 ((nI j) / 9)) 7 4 2 ((nI j) - (nI j) / 9 * 9)) 0).2) 0 ((F_X7_bestCell (wr (wr s 7 4 1 ((nI j) / 9)) 7 4 2 ((nI j) - (nI j) / 9 * 9)) 0).1)).2) 1).1)).2)  1 (okB_lf (okB_best (okB_lf (okB_best (okB_j (by decide) (okB_j (by decide) hB)) (by unfold vp_in; decide)) (by unfold vp_in; decide)) (by unfold vp_in; decide)) (by unfold vp_in; decide)) (by unfold vp_in; decide)) hy_X7_leadOf hi_X7_leadOf hs_X7_leadOf q_675 rfl rfl (W_7 hw) rfl rfl rfl rfl rfl ⟨by decide, by decide⟩ (Nat.le_of_ble_eq_true rfl) ⟨by decide, by decide⟩ dX7_rests_91 (V_kI ?_)
          refine V_ic_ne (tgt := 101) dX7_rests_94 (by decide) (fun c_94 => ?_) (fun c_94 => ?_)
          · refine V_iconst (v := 0) dX7_rests_101 (by decide) ?_
            refine V_istore (L2 := [(5, .int 0), (0, .ref (ad 7 0 0)), (1, .int x1), (2, .int a), (3, .int b), (4, .int (nI j))]) dX7_rests_102 (by decide) rfl ?_
            refine V_iload_n dX7_rests_104 3 rfl ?_
            refine V_iload dX7_rests_105 0 rfl ?_
            refine V_if_eq (tgt := 114) dX7_rests_107 (by decide) (fun c_107 => ?_) (fun c_107 => ?_)
            · refine V_iconst (v := 0) dX7_rests_114 (by decide) ?_
              refine V_iadd dX7_rests_115 ?_
              refine V_istore_n (L2 := [(2, .int (a + 0)), (5, .int 0), (0, .ref (ad 7 0 0)), (1, .int x1), (3, .int b), (4, .int (nI j))]) dX7_rests_116 (by decide) rfl ?_
              refine V_iload dX7_rests_117 1 rfl ?_
              refine V_if_eq (tgt := 143) dX7_rests_119 (by decide) (fun c_119 => ?_) (fun c_119 => ?_)
              · refine V_iload_n dX7_rests_143 4 rfl ?_
                refine V_istore_n (L2 := [(3, .int b), (2, .int (a + 0)), (5, .int 0), (0, .ref (ad 7 0 0)), (1, .int x1), (4, .int (nI j))]) dX7_rests_144 (by decide) rfl ?_
                refine V_iinc (v := (nI (j + 1))) (L2 := [(4, .int (nI (j + 1))), (3, .int b), (2, .int (a + 0)), (5, .int 0), (0, .ref (ad 7 0 0)), (1, .int x1)]) dX7_rests_145 5 rfl (nI_1 _) (by decide) rfl ?_
                refine V_goto (tgt := 32) dX7_rests_148 (by decide) ?_
                refine V_rp (R2 := F_X7_rests_32 x1 K n (a + 0) b (j + 1) ((F_X7_leadFrom ((F_X7_bestCell ((F_X7_leadFrom ((F_X7_bestCell (wr (wr s 7 4 1 ((nI j) / 9)) 7 4 2 ((nI j) - (nI j) / 9 * 9)) 0).2) 0 ((F_X7_bestCell (wr (wr s 7 4 1 ((nI j) / 9)) 7 4 2 ((nI j) - (nI j) / 9 * 9)) 0).1)).2) 1).2) 1 ((F_X7_bestCell ((F_X7_leadFrom ((F_X7_bestCell (wr (wr s 7 4 1 ((nI j) / 9)) 7 4 2 ((nI j) - (nI j) / 9 * 9)) 0).2) 0 ((F_X7_bestCell (wr (wr s 7 4 1 ((nI j) / 9)) 7 4 2 ((nI j) - (nI j) / 9 * 9)) 0).1)).2) 1).1)).2)) (by simp only [F_X7_rests_32, if_neg c_36, if_pos c_76, if_neg c_94]) ?_
                refine V_lp [4, 5, 2, 1, 0] rfl ?_
                exact ih (a + 0) b (j + 1) ((F_X7_leadFrom ((F_X7_bestCell ((F_X7_leadFrom ((F_X7_bestCell (wr (wr s 7 4 1 ((nI j) / 9)) 7 4 2 ((nI j) - (nI j) / 9 * 9)) 0).2) 0 ((F_X7_bestCell (wr (wr s 7 4 1 ((nI j) / 9)) 7 4 2 ((nI j) - (nI j) / 9 * 9)) 0).1)).2) 1).2) 1 ((F_X7_bestCell ((F_X7_leadFrom ((F_X7_bestCell (wr (wr s 7 4 1 ((nI j) / 9)) 7 4 2 ((nI j) - (nI j) / 9 * 9)) 0).2) 0 ((F_X7_bestCell (wr (wr s 7 4 1 ((nI j) / 9)) 7 4 2 ((nI j) - (nI j) / 9 * 9)) 0).1)).2) 1).1)).2) (by exact (lp_up hj c_36 hm).1) (by first | with_reducible exact (okB_lf (okB_best (okB_lf (okB_best (okB_j (by decide) (okB_j (by decide) hB)) (by unfold vp_in; decide)) (by unfold vp_in; decide)) (by unfold vp_in; decide)) (by unfold vp_in; decide)) | with_reducible exact (okB_lf (okB_best (okB_j (by decide) (okB_j (by decide) hB)) (by unfold vp_in; decide)) (by unfold vp_in; decide))) (by exact (lp_up hj c_36 hm).2) 
              · exact absurd (by decide) c_119
            · exact absurd (by decide) c_107
          · refine V_iconst (v := 1) dX7_rests_97 (by decide) ?_
            refine V_goto (tgt := 102) dX7_rests_98 (by decide) ?_
            refine V_istore (L2 := [(5, .int 1), (0, .ref (ad 7 0 0)), (1, .int x1), (2, .int a), (3, .int b), (4, .int (nI j))]) dX7_rests_102 (by decide) rfl ?_
            refine V_iload_n dX7_rests_104 3 rfl ?_
            refine V_iload dX7_rests_105 0 rfl ?_
            refine V_if_eq (tgt := 114) dX7_rests_107 (by decide) (fun c_107 => ?_) (fun c_107 => ?_)
            · exact absurd c_107 (by decide)
            · refine V_iconst (v := 1) dX7_rests_110 (by decide) ?_
              refine V_goto (tgt := 115) dX7_rests_111 (by decide) ?_
              refine V_iadd dX7_rests_115 ?_
              refine V_istore_n (L2 := [(2, .int (a + 1)), (5, .int 1), (0, .ref (ad 7 0 0)), (1, .int x1), (3, .int b), (4, .int (nI j))]) dX7_rests_116 (by decide) rfl ?_
              refine V_iload dX7_rests_117 1 rfl ?_
              refine V_if_eq (tgt := 143) dX7_rests_119 (by decide) (fun c_119 => ?_) (fun c_119 => ?_)
              · exact absurd c_119 (by decide)
              · refine V_iload_n dX7_rests_122 4 rfl ?_
                refine V_if_ge (tgt := 143) dX7_rests_123 (by decide) (fun c_123 => ?_) (fun c_123 => ?_)
                · refine V_iload_n dX7_rests_143 4 rfl ?_
                  refine V_istore_n (L2 := [(3, .int b), (2, .int (a + 1)), (5, .int 1), (0, .ref (ad 7 0 0)), (1, .int x1), (4, .int (nI j))]) dX7_rests_144 (by decide) rfl ?_
                  refine V_iinc (v := (nI (j + 1))) (L2 := [(4, .int (nI (j + 1))), (3, .int b), (2, .int (a + 1)), (5, .int 1), (0, .ref (ad 7 0 0)), (1, .int x1)]) dX7_rests_145 5 rfl (nI_1 _) (by decide) rfl ?_
                  refine V_goto (tgt := 32) dX7_rests_148 (by decide) ?_
                  refine V_rp (R2 := F_X7_rests_32 x1 K n (a + 1) b (j + 1) ((F_X7_leadFrom ((F_X7_bestCell ((F_X7_leadFrom ((F_X7_bestCell (wr (wr s 7 4 1 ((nI j) / 9)) 7 4 2 ((nI j) - (nI j) / 9 * 9)) 0).2) 0 ((F_X7_bestCell (wr (wr s 7 4 1 ((nI j) / 9)) 7 4 2 ((nI j) - (nI j) / 9 * 9)) 0).1)).2) 1).2) 1 ((F_X7_bestCell ((F_X7_leadFrom ((F_X7_bestCell (wr (wr s 7 4 1 ((nI j) / 9)) 7 4 2 ((nI j) - (nI j) / 9 * 9)) 0).2) 0 ((F_X7_bestCell (wr (wr s 7 4 1 ((nI j) / 9)) 7 4 2 ((nI j) - (nI j) / 9 * 9)) 0).1)).2) 1).1)).2)) (by simp only [F_X7_rests_32, if_neg c_36, if_pos c_76, if_pos c_94, if_pos c_123]) ?_
                  refine V_lp [4, 5, 2, 1, 0] rfl ?_
                  exact ih (a + 1) b (j + 1) ((F_X7_leadFrom ((F_X7_bestCell ((F_X7_leadFrom ((F_X7_bestCell (wr (wr s 7 4 1 ((nI j) / 9)) 7 4 2 ((nI j) - (nI j) / 9 * 9)) 0).2) 0 ((F_X7_bestCell (wr (wr s 7 4 1 ((nI j) / 9)) 7 4 2 ((nI j) - (nI j) / 9 * 9)) 0).1)).2) 1).2) 1 ((F_X7_bestCell ((F_X7_leadFrom ((F_X7_bestCell (wr (wr s 7 4 1 ((nI j) / 9)) 7 4 2 ((nI j) - (nI j) / 9 * 9)) 0).2) 0 ((F_X7_bestCell (wr (wr s 7 4 1 ((nI j) / 9)) 7 4 2 ((nI j) - (nI j) / 9 * 9)) 0).1)).2) 1).1)).2) (by exact (lp_up hj c_36 hm).1) (by first | with_reducible exact (okB_lf (okB_best (okB_lf (okB_best (okB_j (by decide) (okB_j (by decide) hB)) (by unfold vp_in; decide)) (by unfold vp_in; decide)) (by unfold vp_in; decide)) (by unfold vp_in; decide)) | with_reducible exact (okB_lf (okB_best (okB_j (by decide) (okB_j (by decide) hB)) (by unfold vp_in; decide)) (by unfold vp_in; decide))) (by exact (lp_up hj c_36 hm).2) 
                · refine V_bipush (v := 10) dX7_rests_126 (by decide) ?_
                  refine V_iload dX7_rests_128 5 rfl ?_
                  refine V_bipush (v := 9) dX7_rests_130 (by decide) ?_
                  refine V_idiv dX7_rests_132 (by decide) ?_
                  refine V_imul dX7_rests_133 ?_
                  refine V_iload dX7_rests_134 5 rfl ?_
                  refine V_bipush (v := 9) dX7_rests_136 (by decide) ?_
                  refine V_irem dX7_rests_138 (by decide) ?_
                  refine V_iadd dX7_rests_139 ?_
                  refine V_goto (tgt := 144) dX7_rests_140 (by decide) ?_
                  refine V_istore_n (L2 := [(3, .int ((10 * ((nI j) / 9)) + ((nI j) - (nI j) / 9 * 9))), (2, .int (a + 1)), (5, .int 1), (0, .ref (ad 7 0 0)), (1, .int x1), (4, .int (nI j))]) dX7_rests_144 (by decide) rfl ?_
                  refine V_iinc (v := (nI (j + 1))) (L2 := [(4, .int (nI (j + 1))), (3, .int ((10 * ((nI j) / 9)) + ((nI j) - (nI j) / 9 * 9))), (2, .int (a + 1)), (5, .int 1), (0, .ref (ad 7 0 0)), (1, .int x1)]) dX7_rests_145 5 rfl (nI_1 _) (by decide) rfl ?_
                  refine V_goto (tgt := 32) dX7_rests_148 (by decide) ?_
                  refine V_rp (R2 := F_X7_rests_32 x1 K n (a + 1) ((10 * ((nI j) / 9)) + ((nI j) - (nI j) / 9 * 9)) (j + 1) ((F_X7_leadFrom ((F_X7_bestCell ((F_X7_leadFrom ((F_X7_bestCell (wr (wr s 7 4 1 ((nI j) / 9)) 7 4 2 ((nI j) - (nI j) / 9 * 9)) 0).2) 0 ((F_X7_bestCell (wr (wr s 7 4 1 ((nI j) / 9)) 7 4 2 ((nI j) - (nI j) / 9 * 9)) 0).1)).2) 1).2) 1 ((F_X7_bestCell ((F_X7_leadFrom ((F_X7_bestCell (wr (wr s 7 4 1 ((nI j) / 9)) 7 4 2 ((nI j) - (nI j) / 9 * 9)) 0).2) 0 ((F_X7_bestCell (wr (wr s 7 4 1 ((nI j) / 9)) 7 4 2 ((nI j) - (nI j) / 9 * 9)) 0).1)).2) 1).1)).2)) (by simp only [F_X7_rests_32, if_neg c_36, if_pos c_76, if_pos c_94, if_neg c_123]) ?_
                  refine V_lp [4, 5, 2, 1, 0] rfl ?_
                  exact ih (a + 1) ((10 * ((nI j) / 9)) + ((nI j) - (nI j) / 9 * 9)) (j + 1) ((F_X7_leadFrom ((F_X7_bestCell ((F_X7_leadFrom ((F_X7_bestCell (wr (wr s 7 4 1 ((nI j) / 9)) 7 4 2 ((nI j) - (nI j) / 9 * 9)) 0).2) 0 ((F_X7_bestCell (wr (wr s 7 4 1 ((nI j) / 9)) 7 4 2 ((nI j) - (nI j) / 9 * 9)) 0).1)).2) 1).2) 1 ((F_X7_bestCell ((F_X7_leadFrom ((F_X7_bestCell (wr (wr s 7 4 1 ((nI j) / 9)) 7 4 2 ((nI j) - (nI j) / 9 * 9)) 0).2) 0 ((F_X7_bestCell (wr (wr s 7 4 1 ((nI j) / 9)) 7 4 2 ((nI j) - (nI j) / 9 * 9)) 0).1)).2) 1).1)).2) (by exact (lp_up hj c_36 hm).1) (by first | with_reducible exact (okB_lf (okB_best (okB_lf (okB_best (okB_j (by decide) (okB_j (by decide) hB)) (by unfold vp_in; decide)) (by unfold vp_in; decide)) (by unfold vp_in; decide)) (by unfold vp_in; decide)) | with_reducible exact (okB_lf (okB_best (okB_j (by decide) (okB_j (by decide) hB)) (by unfold vp_in; decide)) (by unfold vp_in; decide))) (by exact (lp_up hj c_36 hm).2) 
set_option maxRecDepth 100000 in
set_option maxHeartbeats 4000000 in
theorem k_X7_rests (l : Launch) (G : mm_G) {pr : Nat → Nat → Prop} {ad : Nat → Nat → Nat → Nat} (hw : mm_W pr) (g : mm_g) (x1 : Int32) (hB : okB g)  : Mt l G yX7_rests cX7_rests 6 (some .int) (rmk 8 221) [.ref (ad 7 0 0), .int x1] pr ad g (qM pr ad (F_X7_rests g x1)) 0 0 := by
  refine Mt_of (by decide) (Nat.le_of_ble_eq_true rfl) ?_
  show V l G RX7 cX7_rests 6 (some .int) _ _ 0 0 0 0 0 [(0, .ref (ad 7 0 0)), (1, .int x1)] [] pr ad g
  refine V_aload_n dX7_rests_0 0 rfl ?_
  refine V_get (i := 4) inlX7 rfl (W_7 hw) rfl (by decide) q_309 rfl dX7_rests_1 ?_
  refine V_if_ne (tgt := 10) dX7_rests_4 (by decide) (fun c_4 => ?_) (fun c_4 => ?_)
  · refine V_iload_n dX7_rests_10 1 rfl ?_
    refine V_cS (k_X7_isWhat l G hw g  x1 ) hy_X7_isWhat hz_X7_isWhat q_668 rfl rfl rfl rfl ⟨by decide, by decide⟩ (Nat.le_of_ble_eq_true rfl) ⟨by decide, by decide⟩ dX7_rests_11 (V_kI ?_)
    refine V_if_ne (tgt := 20) dX7_rests_14 (by decide) (fun c_14 => ?_) (fun c_14 => ?_)
    · refine V_aload_n dX7_rests_20 0 rfl ?_
      refine V_cV (k_X7_putAside l G hw g   ) hy_X7_putAside hi_X7_putAside hs_X7_putAside q_589 rfl rfl (W_7 hw) rfl rfl rfl rfl rfl ⟨by decide, by decide⟩ (Nat.le_of_ble_eq_true rfl) ⟨by decide, by decide⟩ dX7_rests_21 (V_kN ?_)
      refine V_iconst (v := 0) dX7_rests_24 (by decide) ?_
      refine V_istore_n (L2 := [(2, .int 0), (0, .ref (ad 7 0 0)), (1, .int x1)]) dX7_rests_25 (by decide) rfl ?_
      refine V_ldc q_637 dX7_rests_26 ?_
      refine V_istore_n (L2 := [(3, .int (-1000000)), (2, .int 0), (0, .ref (ad 7 0 0)), (1, .int x1)]) dX7_rests_28 (by decide) rfl ?_
      refine V_iconst (v := 0) dX7_rests_29 (by decide) ?_
      refine V_istore (L2 := [(4, .int 0), (3, .int (-1000000)), (2, .int 0), (0, .ref (ad 7 0 0)), (1, .int x1)]) dX7_rests_30 (by decide) rfl ?_
      refine V_rp (R2 := F_X7_rests_32 x1 (fun (a32 : Int32) (b32 : Int32) (j32 : Nat) (s32 : mm_g) => (if x1 = 0 then (a32, (F_X7_takeBack s32)) else (b32, (F_X7_takeBack s32)))) ((81 : Int32).toInt.toNat + 1) 0 (-1000000) 0 (F_X7_putAside g)) (by simp only [F_X7_rests, if_neg c_4, if_neg c_14]) ?_
      refine V_lp [3, 4, 2, 1, 0] rfl ?_
      refine w_X7_rests_32 l G hw x1   _ (fun a32 b32 j32 s32 hj32 hB32 => ?_) ((81 : Int32).toInt.toNat + 1) 0 (-1000000) 0 (F_X7_putAside g) (by first | exact Nat.zero_le _ | decide) (by exact okB_aside hB) (by omega)
      refine V_aload_n dX7_rests_151 0 rfl ?_
      refine V_cV (k_X7_takeBack l G hw s32   ) hy_X7_takeBack hi_X7_takeBack hs_X7_takeBack q_597 rfl rfl (W_7 hw) rfl rfl rfl rfl rfl ⟨by decide, by decide⟩ (Nat.le_of_ble_eq_true rfl) ⟨by decide, by decide⟩ dX7_rests_152 (V_kN ?_)
      refine V_iload_n dX7_rests_155 1 rfl ?_
      refine V_if_ne (tgt := 163) dX7_rests_156 (by decide) (fun c_156 => ?_) (fun c_156 => ?_)
      · refine V_iload_n dX7_rests_163 3 rfl ?_
        exact V_iret dX7_rests_164 rfl (lfM (by simp only [if_neg c_156]))
      · refine V_iload_n dX7_rests_159 2 rfl ?_
        refine V_goto (tgt := 164) dX7_rests_160 (by decide) ?_
        exact V_iret dX7_rests_164 rfl (lfM (by simp only [if_pos c_156]))
    · refine V_ldc q_130 dX7_rests_17 ?_
      exact V_iret dX7_rests_19 rfl (lfM (by simp only [F_X7_rests, if_neg c_4, if_pos c_14]))
  · refine V_ldc q_371 dX7_rests_7 ?_
    exact V_iret dX7_rests_9 rfl (lfM (by simp only [F_X7_rests, if_pos c_4]))
def F_X7_rakes_33 (g33 : mm_g) (x1 : Int32) (x2 : Int32) (K : Int32 → Nat → Int32) : Nat → Int32 → Nat → Int32
  | 0, a, j => K a j
  | n + 1, a, j => (if ((1 : Int32) <<< ((g33 7 4 0) &&& 31)) ≤ (nI j) then K a j else (if a < 0 then (if ((nI j) &&& (g33 7 4 5)) = 0 then (if ((((g33 7 4 (6 + x1).toNatClampNeg) + (F_X7_bringFor g33 x1 (nI j))) - (g33 7 4 (7 - x1).toNatClampNeg)) - (F_X7_bringFor g33 (1 - x1) (nI j))) ≤ 0 then F_X7_rakes_33 g33 x1 x2 K n a (j + 1) else F_X7_rakes_33 g33 x1 x2 K n (nI j) (j + 1)) else F_X7_rakes_33 g33 x1 x2 K n a (j + 1)) else (if (F_X7_ones g33 a) ≤ (F_X7_ones g33 (nI j)) then (if ((nI j) &&& (g33 7 4 5)) = 0 then F_X7_rakes_33 g33 x1 x2 K n a (j + 1) else F_X7_rakes_33 g33 x1 x2 K n a (j + 1)) else (if ((nI j) &&& (g33 7 4 5)) = 0 then (if ((((g33 7 4 (6 + x1).toNatClampNeg) + (F_X7_bringFor g33 x1 (nI j))) - (g33 7 4 (7 - x1).toNatClampNeg)) - (F_X7_bringFor g33 (1 - x1) (nI j))) ≤ 0 then F_X7_rakes_33 g33 x1 x2 K n a (j + 1) else F_X7_rakes_33 g33 x1 x2 K n (nI j) (j + 1)) else F_X7_rakes_33 g33 x1 x2 K n a (j + 1)))))
def F_X7_rakes (g : mm_g) (x1 : Int32) (x2 : Int32) : Int32 := (if (g 7 0 1) = 0 then (-1000002) else (if (F_X7_isWho x1) = 0 then (-1000001) else (if (F_X7_isWhat x2) = 0 then (-1000001) else (F_X7_rakes_33 g x1 x2 (fun (a33 : Int32) (j33 : Nat) => (if a33 < 0 then a33 else (if x2 = 1 then a33 else (F_X7_ones g a33)))) (((1 : Int32) <<< (g 7 4 0 &&& 31)).toInt.toNat + 1) (-1000000) 0))))
set_option maxRecDepth 100000 in
set_option maxHeartbeats 4000000 in
theorem w_X7_rakes_33 (l : Launch) (G : mm_G) {pr : Nat → Nat → Prop} {ad : Nat → Nat → Nat → Nat} (hw : mm_W pr) (g33 : mm_g) (x1 : Int32) (x2 : Int32)  (hB : okB g33) (hv : vp_in x1 2) (K : Int32 → Nat → Int32) (hK : ∀ (a : Int32) (j : Nat) (hj : j ≤ ((1 : Int32) <<< (g33 7 4 0 &&& 31)).toInt.toNat), V l G RX7 cX7_rakes 7 (some .int) (rmk 5 153) (qI pr ad g33 (K a j)) 0 0 0 0 143 [(0, .ref (ad 7 0 0)), (1, .int x1), (2, .int x2), (3, .int a), (4, .int (nI j))] [] pr ad g33) : ∀ (n : Nat) (a : Int32) (j : Nat) (hj : j ≤ ((1 : Int32) <<< (g33 7 4 0 &&& 31)).toInt.toNat) (hm : ((1 : Int32) <<< (g33 7 4 0 &&& 31)).toInt.toNat - j < n), V l G RX7 cX7_rakes 7 (some .int) (rmk 5 153) (qI pr ad g33 (F_X7_rakes_33 g33 x1 x2 K n a j)) 0 0 0 0 33 [(0, .ref (ad 7 0 0)), (1, .int x1), (2, .int x2), (3, .int a), (4, .int (nI j))] [] pr ad g33 := by
  intro n
  induction n with
  | zero => intro a j hj hm; exact absurd hm (Nat.not_lt_zero _)
  | succ n ih =>
      intro a j hj hm
      refine V_iload dX7_rakes_33 4 rfl ?_
      refine V_iconst (v := 1) dX7_rakes_35 (by decide) ?_
      refine V_aload_n dX7_rakes_36 0 rfl ?_
      refine V_get (i := 5) inlX7 rfl (W_7 hw) rfl (by decide) q_94 rfl dX7_rakes_37 ?_
      refine V_iconst (v := 0) dX7_rakes_40 (by decide) ?_
      refine L_7_4_l 0 rfl (W_7 hw) (by unfold vp_in; decide) dX7_rakes_41 ?_
      refine V_ishl dX7_rakes_42 ?_
      refine V_ic_ge (tgt := 143) dX7_rakes_43 (by decide) (fun c_43 => ?_) (fun c_43 => ?_)
      · refine V_rp (R2 := K a j) (by simp only [F_X7_rakes_33, if_pos c_43]) ?_
        refine V_lp [0, 1, 2, 3, 4] rfl ?_
        exact hK a j (by assumption)
      · refine V_iload_n dX7_rakes_46 3 rfl ?_
        refine V_if_lt (tgt := 62) dX7_rakes_47 (by decide) (fun c_47 => ?_) (fun c_47 => ?_)
        · refine V_iconst (v := 1) dX7_rakes_62 (by decide) ?_
          refine V_goto (tgt := 67) dX7_rakes_63 (by decide) ?_
          refine V_istore (L2 := [(5, .int 1), (0, .ref (ad 7 0 0)), (1, .int x1), (2, .int x2), (3, .int a), (4, .int (nI j))]) dX7_rakes_67 (by decide) rfl ?_
          refine V_iload dX7_rakes_69 5 rfl ?_
          refine V_aload_n dX7_rakes_71 1 rfl ?_
          refine V_get (i := 5) inlX7 rfl (W_7 hw) rfl (by decide) q_94 rfl dX7_rakes_72 ?_
          refine V_iconst (v := 5) dX7_rakes_75 (by decide) ?_
          refine L_7_4_l 5 rfl (W_7 hw) (by unfold vp_in; decide) dX7_rakes_76 ?_
          refine V_iand dX7_rakes_77 ?_
          refine V_if_ne (tgt := 137) dX7_rakes_78 (by decide) (fun c_78 => ?_) (fun c_78 => ?_)
          · refine V_iinc (v := (nI (j + 1))) (L2 := [(4, .int (nI (j + 1))), (5, .int 1), (0, .ref (ad 7 0 0)), (1, .int x1), (2, .int x2), (3, .int a)]) dX7_rakes_137 5 rfl (nI_1 _) (by decide) rfl ?_
            refine V_goto (tgt := 33) dX7_rakes_140 (by decide) ?_
            refine V_rp (R2 := F_X7_rakes_33 g33 x1 x2 K n a (j + 1)) (by simp only [F_X7_rakes_33, if_neg c_43, if_pos c_47, if_neg c_78]) ?_
            refine V_lp [2, 3, 4, 5, 0] rfl ?_
            exact ih a (j + 1) (by exact (lp_up hj c_43 hm).1) (by exact (lp_up hj c_43 hm).2) 
          · refine V_iload dX7_rakes_81 0 rfl ?_
            refine V_if_eq (tgt := 137) dX7_rakes_83 (by decide) (fun c_83 => ?_) (fun c_83 => ?_)
            · exact absurd c_83 (by decide)
            · refine V_aload_n dX7_rakes_86 1 rfl ?_
              refine V_get (i := 5) inlX7 rfl (W_7 hw) rfl (by decide) q_94 rfl dX7_rakes_87 ?_
              refine V_bipush (v := 6) dX7_rakes_90 (by decide) ?_
              refine V_iload_n dX7_rakes_92 2 rfl ?_
              refine V_iadd dX7_rakes_93 ?_
              refine L_7_4 (W_7 hw) (by exact ix_6 (ix_23 hv)) dX7_rakes_94 ?_
              refine V_aload_n dX7_rakes_95 1 rfl ?_
              refine V_iload_n dX7_rakes_96 2 rfl ?_
              refine V_iload dX7_rakes_97 5 rfl ?_
              refine V_cV (k_X7_bringFor l G hw g33  x1 (nI j) hB) hy_X7_bringFor hi_X7_bringFor hs_X7_bringFor q_619 rfl rfl (W_7 hw) rfl rfl rfl rfl rfl ⟨by decide, by decide⟩ (Nat.le_of_ble_eq_true rfl) ⟨by decide, by decide⟩ dX7_rakes_99 (V_kI ?_)
              refine V_iadd dX7_rakes_102 ?_
              refine V_aload_n dX7_rakes_103 1 rfl ?_
              refine V_get (i := 5) inlX7 rfl (W_7 hw) rfl (by decide) q_94 rfl dX7_rakes_104 ?_
              refine V_bipush (v := 7) dX7_rakes_107 (by decide) ?_
              refine V_iload_n dX7_rakes_109 2 rfl ?_
              refine V_isub dX7_rakes_110 ?_
              refine L_7_4 (W_7 hw) (by exact ix_7m hv) dX7_rakes_111 ?_
              refine V_isub dX7_rakes_112 ?_
              refine V_aload_n dX7_rakes_113 1 rfl ?_
              refine V_iconst (v := 1) dX7_rakes_114 (by decide) ?_
              refine V_iload_n dX7_rakes_115 2 rfl ?_
              refine V_isub dX7_rakes_116 ?_
              refine V_iload dX7_rakes_117 5 rfl ?_
              refine V_cV (k_X7_bringFor l G hw g33  (1 - x1) (nI j) hB) hy_X7_bringFor hi_X7_bringFor hs_X7_bringFor q_619 rfl rfl (W_7 hw) rfl rfl rfl rfl rfl ⟨by decide, by decide⟩ (Nat.le_of_ble_eq_true rfl) ⟨by decide, by decide⟩ dX7_rakes_119 (V_kI ?_)
              refine V_isub dX7_rakes_122 ?_
              refine V_istore (L2 := [(6, .int ((((g33 7 4 (6 + x1).toNatClampNeg) + (F_X7_bringFor g33 x1 (nI j))) - (g33 7 4 (7 - x1).toNatClampNeg)) - (F_X7_bringFor g33 (1 - x1) (nI j)))), (5, .int 1), (0, .ref (ad 7 0 0)), (1, .int x1), (2, .int x2), (3, .int a), (4, .int (nI j))]) dX7_rakes_123 (by decide) rfl ?_
              refine V_iload dX7_rakes_125 0 rfl ?_
              refine V_if_le (tgt := 135) dX7_rakes_127 (by decide) (fun c_127 => ?_) (fun c_127 => ?_)
              · refine V_iload_n dX7_rakes_135 5 rfl ?_
                refine V_istore_n (L2 := [(3, .int a), (6, .int ((((g33 7 4 (6 + x1).toNatClampNeg) + (F_X7_bringFor g33 x1 (nI j))) - (g33 7 4 (7 - x1).toNatClampNeg)) - (F_X7_bringFor g33 (1 - x1) (nI j)))), (5, .int 1), (0, .ref (ad 7 0 0)), (1, .int x1), (2, .int x2), (4, .int (nI j))]) dX7_rakes_136 (by decide) rfl ?_
                refine V_iinc (v := (nI (j + 1))) (L2 := [(4, .int (nI (j + 1))), (3, .int a), (6, .int ((((g33 7 4 (6 + x1).toNatClampNeg) + (F_X7_bringFor g33 x1 (nI j))) - (g33 7 4 (7 - x1).toNatClampNeg)) - (F_X7_bringFor g33 (1 - x1) (nI j)))), (5, .int 1), (0, .ref (ad 7 0 0)), (1, .int x1), (2, .int x2)]) dX7_rakes_137 6 rfl (nI_1 _) (by decide) rfl ?_
                refine V_goto (tgt := 33) dX7_rakes_140 (by decide) ?_
                refine V_rp (R2 := F_X7_rakes_33 g33 x1 x2 K n a (j + 1)) (by simp only [F_X7_rakes_33, if_neg c_43, if_pos c_47, if_pos c_78, if_pos c_127]) ?_
                refine V_lp [4, 5, 6, 1, 0] rfl ?_
                exact ih a (j + 1) (by exact (lp_up hj c_43 hm).1) (by exact (lp_up hj c_43 hm).2) 
              · refine V_iload dX7_rakes_130 6 rfl ?_
                refine V_goto (tgt := 136) dX7_rakes_132 (by decide) ?_
                refine V_istore_n (L2 := [(3, .int (nI j)), (6, .int ((((g33 7 4 (6 + x1).toNatClampNeg) + (F_X7_bringFor g33 x1 (nI j))) - (g33 7 4 (7 - x1).toNatClampNeg)) - (F_X7_bringFor g33 (1 - x1) (nI j)))), (5, .int 1), (0, .ref (ad 7 0 0)), (1, .int x1), (2, .int x2), (4, .int (nI j))]) dX7_rakes_136 (by decide) rfl ?_
                refine V_iinc (v := (nI (j + 1))) (L2 := [(4, .int (nI (j + 1))), (3, .int (nI j)), (6, .int ((((g33 7 4 (6 + x1).toNatClampNeg) + (F_X7_bringFor g33 x1 (nI j))) - (g33 7 4 (7 - x1).toNatClampNeg)) - (F_X7_bringFor g33 (1 - x1) (nI j)))), (5, .int 1), (0, .ref (ad 7 0 0)), (1, .int x1), (2, .int x2)]) dX7_rakes_137 6 rfl (nI_1 _) (by decide) rfl ?_
                refine V_goto (tgt := 33) dX7_rakes_140 (by decide) ?_
                refine V_rp (R2 := F_X7_rakes_33 g33 x1 x2 K n (nI j) (j + 1)) (by simp only [F_X7_rakes_33, if_neg c_43, if_pos c_47, if_pos c_78, if_neg c_127]) ?_
                refine V_lp [4, 5, 6, 1, 0] rfl ?_
                exact ih (nI j) (j + 1) (by exact (lp_up hj c_43 hm).1) (by exact (lp_up hj c_43 hm).2) 
        · refine V_iload dX7_rakes_50 4 rfl ?_
          refine V_cS (k_X7_ones l G hw g33  (nI j) ) hy_X7_ones hz_X7_ones q_740 rfl rfl rfl rfl ⟨by decide, by decide⟩ (Nat.le_of_ble_eq_true rfl) ⟨by decide, by decide⟩ dX7_rakes_52 (V_kI ?_)
          refine V_iload_n dX7_rakes_55 3 rfl ?_
          refine V_cS (k_X7_ones l G hw g33  a ) hy_X7_ones hz_X7_ones q_740 rfl rfl rfl rfl ⟨by decide, by decide⟩ (Nat.le_of_ble_eq_true rfl) ⟨by decide, by decide⟩ dX7_rakes_56 (V_kI ?_)
          refine V_ic_ge (tgt := 66) dX7_rakes_59 (by decide) (fun c_59 => ?_) (fun c_59 => ?_)
          · refine V_iconst (v := 0) dX7_rakes_66 (by decide) ?_
            refine V_istore (L2 := [(5, .int 0), (0, .ref (ad 7 0 0)), (1, .int x1), (2, .int x2), (3, .int a), (4, .int (nI j))]) dX7_rakes_67 (by decide) rfl ?_
            refine V_iload dX7_rakes_69 5 rfl ?_
            refine V_aload_n dX7_rakes_71 1 rfl ?_
            refine V_get (i := 5) inlX7 rfl (W_7 hw) rfl (by decide) q_94 rfl dX7_rakes_72 ?_
            refine V_iconst (v := 5) dX7_rakes_75 (by decide) ?_
            refine L_7_4_l 5 rfl (W_7 hw) (by unfold vp_in; decide) dX7_rakes_76 ?_
            refine V_iand dX7_rakes_77 ?_
            refine V_if_ne (tgt := 137) dX7_rakes_78 (by decide) (fun c_78 => ?_) (fun c_78 => ?_)
            · refine V_iinc (v := (nI (j + 1))) (L2 := [(4, .int (nI (j + 1))), (5, .int 0), (0, .ref (ad 7 0 0)), (1, .int x1), (2, .int x2), (3, .int a)]) dX7_rakes_137 5 rfl (nI_1 _) (by decide) rfl ?_
              refine V_goto (tgt := 33) dX7_rakes_140 (by decide) ?_
              refine V_rp (R2 := F_X7_rakes_33 g33 x1 x2 K n a (j + 1)) (by simp only [F_X7_rakes_33, if_neg c_43, if_neg c_47, if_pos c_59, if_neg c_78]) ?_
              refine V_lp [2, 3, 4, 5, 0] rfl ?_
              exact ih a (j + 1) (by exact (lp_up hj c_43 hm).1) (by exact (lp_up hj c_43 hm).2) 
            · refine V_iload dX7_rakes_81 0 rfl ?_
              refine V_if_eq (tgt := 137) dX7_rakes_83 (by decide) (fun c_83 => ?_) (fun c_83 => ?_)
              · refine V_iinc (v := (nI (j + 1))) (L2 := [(4, .int (nI (j + 1))), (5, .int 0), (0, .ref (ad 7 0 0)), (1, .int x1), (2, .int x2), (3, .int a)]) dX7_rakes_137 5 rfl (nI_1 _) (by decide) rfl ?_
                refine V_goto (tgt := 33) dX7_rakes_140 (by decide) ?_
                refine V_rp (R2 := F_X7_rakes_33 g33 x1 x2 K n a (j + 1)) (by simp only [F_X7_rakes_33, if_neg c_43, if_neg c_47, if_pos c_59, if_pos c_78]) ?_
                refine V_lp [2, 3, 4, 5, 0] rfl ?_
                exact ih a (j + 1) (by exact (lp_up hj c_43 hm).1) (by exact (lp_up hj c_43 hm).2) 
              · exact absurd (by decide) c_83
          · refine V_iconst (v := 1) dX7_rakes_62 (by decide) ?_
            refine V_goto (tgt := 67) dX7_rakes_63 (by decide) ?_
            refine V_istore (L2 := [(5, .int 1), (0, .ref (ad 7 0 0)), (1, .int x1), (2, .int x2), (3, .int a), (4, .int (nI j))]) dX7_rakes_67 (by decide) rfl ?_
            refine V_iload dX7_rakes_69 5 rfl ?_
            refine V_aload_n dX7_rakes_71 1 rfl ?_
            refine V_get (i := 5) inlX7 rfl (W_7 hw) rfl (by decide) q_94 rfl dX7_rakes_72 ?_
            refine V_iconst (v := 5) dX7_rakes_75 (by decide) ?_
            refine L_7_4_l 5 rfl (W_7 hw) (by unfold vp_in; decide) dX7_rakes_76 ?_
            refine V_iand dX7_rakes_77 ?_
            refine V_if_ne (tgt := 137) dX7_rakes_78 (by decide) (fun c_78 => ?_) (fun c_78 => ?_)
            · refine V_iinc (v := (nI (j + 1))) (L2 := [(4, .int (nI (j + 1))), (5, .int 1), (0, .ref (ad 7 0 0)), (1, .int x1), (2, .int x2), (3, .int a)]) dX7_rakes_137 5 rfl (nI_1 _) (by decide) rfl ?_
              refine V_goto (tgt := 33) dX7_rakes_140 (by decide) ?_
              refine V_rp (R2 := F_X7_rakes_33 g33 x1 x2 K n a (j + 1)) (by simp only [F_X7_rakes_33, if_neg c_43, if_neg c_47, if_neg c_59, if_neg c_78]) ?_
              refine V_lp [2, 3, 4, 5, 0] rfl ?_
              exact ih a (j + 1) (by exact (lp_up hj c_43 hm).1) (by exact (lp_up hj c_43 hm).2) 
            · refine V_iload dX7_rakes_81 0 rfl ?_
              refine V_if_eq (tgt := 137) dX7_rakes_83 (by decide) (fun c_83 => ?_) (fun c_83 => ?_)
              · exact absurd c_83 (by decide)
              · refine V_aload_n dX7_rakes_86 1 rfl ?_
                refine V_get (i := 5) inlX7 rfl (W_7 hw) rfl (by decide) q_94 rfl dX7_rakes_87 ?_
                refine V_bipush (v := 6) dX7_rakes_90 (by decide) ?_
                refine V_iload_n dX7_rakes_92 2 rfl ?_
                refine V_iadd dX7_rakes_93 ?_
                refine L_7_4 (W_7 hw) (by exact ix_6 (ix_23 hv)) dX7_rakes_94 ?_
                refine V_aload_n dX7_rakes_95 1 rfl ?_
                refine V_iload_n dX7_rakes_96 2 rfl ?_
                refine V_iload dX7_rakes_97 5 rfl ?_
                refine V_cV (k_X7_bringFor l G hw g33  x1 (nI j) hB) hy_X7_bringFor hi_X7_bringFor hs_X7_bringFor q_619 rfl rfl (W_7 hw) rfl rfl rfl rfl rfl ⟨by decide, by decide⟩ (Nat.le_of_ble_eq_true rfl) ⟨by decide, by decide⟩ dX7_rakes_99 (V_kI ?_)
                refine V_iadd dX7_rakes_102 ?_
                refine V_aload_n dX7_rakes_103 1 rfl ?_
                refine V_get (i := 5) inlX7 rfl (W_7 hw) rfl (by decide) q_94 rfl dX7_rakes_104 ?_
                refine V_bipush (v := 7) dX7_rakes_107 (by decide) ?_
                refine V_iload_n dX7_rakes_109 2 rfl ?_
                refine V_isub dX7_rakes_110 ?_
                refine L_7_4 (W_7 hw) (by exact ix_7m hv) dX7_rakes_111 ?_
                refine V_isub dX7_rakes_112 ?_
                refine V_aload_n dX7_rakes_113 1 rfl ?_
                refine V_iconst (v := 1) dX7_rakes_114 (by decide) ?_
                refine V_iload_n dX7_rakes_115 2 rfl ?_
                refine V_isub dX7_rakes_116 ?_
                refine V_iload dX7_rakes_117 5 rfl ?_
                refine V_cV (k_X7_bringFor l G hw g33  (1 - x1) (nI j) hB) hy_X7_bringFor hi_X7_bringFor hs_X7_bringFor q_619 rfl rfl (W_7 hw) rfl rfl rfl rfl rfl ⟨by decide, by decide⟩ (Nat.le_of_ble_eq_true rfl) ⟨by decide, by decide⟩ dX7_rakes_119 (V_kI ?_)
                refine V_isub dX7_rakes_122 ?_
                refine V_istore (L2 := [(6, .int ((((g33 7 4 (6 + x1).toNatClampNeg) + (F_X7_bringFor g33 x1 (nI j))) - (g33 7 4 (7 - x1).toNatClampNeg)) - (F_X7_bringFor g33 (1 - x1) (nI j)))), (5, .int 1), (0, .ref (ad 7 0 0)), (1, .int x1), (2, .int x2), (3, .int a), (4, .int (nI j))]) dX7_rakes_123 (by decide) rfl ?_
                refine V_iload dX7_rakes_125 0 rfl ?_
                refine V_if_le (tgt := 135) dX7_rakes_127 (by decide) (fun c_127 => ?_) (fun c_127 => ?_)
                · refine V_iload_n dX7_rakes_135 5 rfl ?_
                  refine V_istore_n (L2 := [(3, .int a), (6, .int ((((g33 7 4 (6 + x1).toNatClampNeg) + (F_X7_bringFor g33 x1 (nI j))) - (g33 7 4 (7 - x1).toNatClampNeg)) - (F_X7_bringFor g33 (1 - x1) (nI j)))), (5, .int 1), (0, .ref (ad 7 0 0)), (1, .int x1), (2, .int x2), (4, .int (nI j))]) dX7_rakes_136 (by decide) rfl ?_
                  refine V_iinc (v := (nI (j + 1))) (L2 := [(4, .int (nI (j + 1))), (3, .int a), (6, .int ((((g33 7 4 (6 + x1).toNatClampNeg) + (F_X7_bringFor g33 x1 (nI j))) - (g33 7 4 (7 - x1).toNatClampNeg)) - (F_X7_bringFor g33 (1 - x1) (nI j)))), (5, .int 1), (0, .ref (ad 7 0 0)), (1, .int x1), (2, .int x2)]) dX7_rakes_137 6 rfl (nI_1 _) (by decide) rfl ?_
                  refine V_goto (tgt := 33) dX7_rakes_140 (by decide) ?_
                  refine V_rp (R2 := F_X7_rakes_33 g33 x1 x2 K n a (j + 1)) (by simp only [F_X7_rakes_33, if_neg c_43, if_neg c_47, if_neg c_59, if_pos c_78, if_pos c_127]) ?_
                  refine V_lp [4, 5, 6, 1, 0] rfl ?_
                  exact ih a (j + 1) (by exact (lp_up hj c_43 hm).1) (by exact (lp_up hj c_43 hm).2) 
                · refine V_iload dX7_rakes_130 6 rfl ?_
                  refine V_goto (tgt := 136) dX7_rakes_132 (by decide) ?_
                  refine V_istore_n (L2 := [(3, .int (nI j)), (6, .int ((((g33 7 4 (6 + x1).toNatClampNeg) + (F_X7_bringFor g33 x1 (nI j))) - (g33 7 4 (7 - x1).toNatClampNeg)) - (F_X7_bringFor g33 (1 - x1) (nI j)))), (5, .int 1), (0, .ref (ad 7 0 0)), (1, .int x1), (2, .int x2), (4, .int (nI j))]) dX7_rakes_136 (by decide) rfl ?_
                  refine V_iinc (v := (nI (j + 1))) (L2 := [(4, .int (nI (j + 1))), (3, .int (nI j)), (6, .int ((((g33 7 4 (6 + x1).toNatClampNeg) + (F_X7_bringFor g33 x1 (nI j))) - (g33 7 4 (7 - x1).toNatClampNeg)) - (F_X7_bringFor g33 (1 - x1) (nI j)))), (5, .int 1), (0, .ref (ad 7 0 0)), (1, .int x1), (2, .int x2)]) dX7_rakes_137 6 rfl (nI_1 _) (by decide) rfl ?_
                  refine V_goto (tgt := 33) dX7_rakes_140 (by decide) ?_
                  refine V_rp (R2 := F_X7_rakes_33 g33 x1 x2 K n (nI j) (j + 1)) (by simp only [F_X7_rakes_33, if_neg c_43, if_neg c_47, if_neg c_59, if_pos c_78, if_neg c_127]) ?_
                  refine V_lp [4, 5, 6, 1, 0] rfl ?_
                  exact ih (nI j) (j + 1) (by exact (lp_up hj c_43 hm).1) (by exact (lp_up hj c_43 hm).2) 
set_option maxRecDepth 100000 in
set_option maxHeartbeats 4000000 in
theorem k_X7_rakes (l : Launch) (G : mm_G) {pr : Nat → Nat → Prop} {ad : Nat → Nat → Nat → Nat} (hw : mm_W pr) (g : mm_g) (x1 : Int32) (x2 : Int32) (hB : okB g)  : Mt l G yX7_rakes cX7_rakes 7 (some .int) (rmk 5 153) [.ref (ad 7 0 0), .int x1, .int x2] pr ad g (qI pr ad g (F_X7_rakes g x1 x2)) 0 0 := by
  refine Mt_of (by decide) (Nat.le_of_ble_eq_true rfl) ?_
  show V l G RX7 cX7_rakes 7 (some .int) _ _ 0 0 0 0 0 [(0, .ref (ad 7 0 0)), (1, .int x1), (2, .int x2)] [] pr ad g
  refine V_aload_n dX7_rakes_0 0 rfl ?_
  refine V_get (i := 4) inlX7 rfl (W_7 hw) rfl (by decide) q_309 rfl dX7_rakes_1 ?_
  refine V_if_ne (tgt := 10) dX7_rakes_4 (by decide) (fun c_4 => ?_) (fun c_4 => ?_)
  · refine V_iload_n dX7_rakes_10 1 rfl ?_
    refine V_cS (k_X7_isWho l G hw g  x1 ) hy_X7_isWho hz_X7_isWho q_540 rfl rfl rfl rfl ⟨by decide, by decide⟩ (Nat.le_of_ble_eq_true rfl) ⟨by decide, by decide⟩ dX7_rakes_11 (V_kI ?_)
    refine V_if_eq (tgt := 24) dX7_rakes_14 (by decide) (fun c_14 => ?_) (fun c_14 => ?_)
    · refine V_ldc q_130 dX7_rakes_24 ?_
      exact V_iret dX7_rakes_26 rfl (lfI (by simp only [F_X7_rakes, if_neg c_4, if_pos c_14]))
    · refine V_iload_n dX7_rakes_17 2 rfl ?_
      refine V_cS (k_X7_isWhat l G hw g  x2 ) hy_X7_isWhat hz_X7_isWhat q_668 rfl rfl rfl rfl ⟨by decide, by decide⟩ (Nat.le_of_ble_eq_true rfl) ⟨by decide, by decide⟩ dX7_rakes_18 (V_kI ?_)
      refine V_if_ne (tgt := 27) dX7_rakes_21 (by decide) (fun c_21 => ?_) (fun c_21 => ?_)
      · refine V_ldc q_637 dX7_rakes_27 ?_
        refine V_istore_n (L2 := [(3, .int (-1000000)), (0, .ref (ad 7 0 0)), (1, .int x1), (2, .int x2)]) dX7_rakes_29 (by decide) rfl ?_
        refine V_iconst (v := 0) dX7_rakes_30 (by decide) ?_
        refine V_istore (L2 := [(4, .int 0), (3, .int (-1000000)), (0, .ref (ad 7 0 0)), (1, .int x1), (2, .int x2)]) dX7_rakes_31 (by decide) rfl ?_
        refine V_rp (R2 := F_X7_rakes_33 g x1 x2 (fun (a33 : Int32) (j33 : Nat) => (if a33 < 0 then a33 else (if x2 = 1 then a33 else (F_X7_ones g a33)))) (((1 : Int32) <<< (g 7 4 0 &&& 31)).toInt.toNat + 1) (-1000000) 0) (by simp only [F_X7_rakes, if_neg c_4, if_neg c_14, if_neg c_21]) ?_
        refine V_lp [2, 3, 4, 1, 0] rfl ?_
        refine w_X7_rakes_33 l G hw g x1 x2  (by exact hB) (by exact ix_who c_14) _ (fun a33 j33 hj33 => ?_) (((1 : Int32) <<< (g 7 4 0 &&& 31)).toInt.toNat + 1) (-1000000) 0 (by first | exact Nat.zero_le _ | decide) (by omega)
        refine V_iload_n dX7_rakes_143 3 rfl ?_
        refine V_if_lt (tgt := 152) dX7_rakes_144 (by decide) (fun c_144 => ?_) (fun c_144 => ?_)
        · refine V_iload_n dX7_rakes_152 3 rfl ?_
          refine V_goto (tgt := 160) dX7_rakes_153 (by decide) ?_
          exact V_iret dX7_rakes_160 rfl (lfI (by simp only [if_pos c_144]))
        · refine V_iload_n dX7_rakes_147 2 rfl ?_
          refine V_iconst (v := 1) dX7_rakes_148 (by decide) ?_
          refine V_ic_ne (tgt := 156) dX7_rakes_149 (by decide) (fun c_149 => ?_) (fun c_149 => ?_)
          · refine V_iload_n dX7_rakes_156 3 rfl ?_
            refine V_cS (k_X7_ones l G hw g  a33 ) hy_X7_ones hz_X7_ones q_740 rfl rfl rfl rfl ⟨by decide, by decide⟩ (Nat.le_of_ble_eq_true rfl) ⟨by decide, by decide⟩ dX7_rakes_157 (V_kI ?_)
            exact V_iret dX7_rakes_160 rfl (lfI (by simp only [if_neg c_144, if_neg c_149]))
          · refine V_iload_n dX7_rakes_152 3 rfl ?_
            refine V_goto (tgt := 160) dX7_rakes_153 (by decide) ?_
            exact V_iret dX7_rakes_160 rfl (lfI (by simp only [if_neg c_144, if_pos c_149]))
      · refine V_ldc q_130 dX7_rakes_24 ?_
        exact V_iret dX7_rakes_26 rfl (lfI (by simp only [F_X7_rakes, if_neg c_4, if_neg c_14, if_pos c_21]))
  · refine V_ldc q_371 dX7_rakes_7 ?_
    exact V_iret dX7_rakes_9 rfl (lfI (by simp only [F_X7_rakes, if_pos c_4]))
def F_X7_wards_104 (g104 : mm_g) (x1 : Int32) (x2 : Int32) (x3 : Int32) (f4 : Int32) (j : Nat) (K : Int32 → Int32 → Int32 → Int32) : Nat → Int32 → Int32 → Int32 → Int32
  | 0, a, b, c => K a b c
  | n + 1, a, b, c => (if x2 = 3 then (if f4 ≤ c then K a b c else (if (((F_X7_ledBy g104 x1 0 (nI j)) + (F_X7_ledBy g104 x1 (nI j) c)) + (F_X7_ledBy g104 x1 c f4)) ≤ b then F_X7_wards_104 g104 x1 x2 x3 f4 j K n a b (c + 1) else F_X7_wards_104 g104 x1 x2 x3 f4 j K n ((10 * (nI j)) + c) (((F_X7_ledBy g104 x1 0 (nI j)) + (F_X7_ledBy g104 x1 (nI j) c)) + (F_X7_ledBy g104 x1 c f4)) (c + 1))) else (if (f4 + 1) ≤ c then K a b c else (if (((F_X7_ledBy g104 x1 0 (nI j)) + (F_X7_ledBy g104 x1 (nI j) c)) + 0) ≤ b then F_X7_wards_104 g104 x1 x2 x3 f4 j K n a b (c + 1) else F_X7_wards_104 g104 x1 x2 x3 f4 j K n ((10 * (nI j)) + 0) (((F_X7_ledBy g104 x1 0 (nI j)) + (F_X7_ledBy g104 x1 (nI j) c)) + 0) (c + 1))))
def F_X7_wards_76 (g76 : mm_g) (x1 : Int32) (x2 : Int32) (x3 : Int32) (f4 : Int32) (K : Int32 → Int32 → Nat → Int32) : Nat → Int32 → Int32 → Nat → Int32
  | 0, a, b, j => K a b j
  | n + 1, a, b, j => (if f4 ≤ (nI j) then K a b j else (if x2 ≤ 1 then K a b j else (if x2 = 3 then (F_X7_wards_104 g76 x1 x2 x3 f4 j (fun (a104 : Int32) (b104 : Int32) (c104 : Int32) => F_X7_wards_76 g76 x1 x2 x3 f4 K n a104 b104 (j + 1)) 12 a b ((nI j) + 1)) else (F_X7_wards_104 g76 x1 x2 x3 f4 j (fun (a104 : Int32) (b104 : Int32) (c104 : Int32) => F_X7_wards_76 g76 x1 x2 x3 f4 K n a104 b104 (j + 1)) 12 a b f4))))
def F_X7_wards (g : mm_g) (x1 : Int32) (x2 : Int32) (x3 : Int32) : Int32 := (if (g 7 0 1) = 0 then (-1000002) else (if (F_X7_isWho x1) = 0 then (-1000001) else (if (F_X7_in (x2.toInt64) 1 3) = 0 then (-1000001) else (if (F_X7_isWhat x3) = 0 then (-1000001) else (if x2 = 1 then (F_X7_wards_76 g x1 x2 x3 (g 7 4 0) (fun (a76 : Int32) (b76 : Int32) (j76 : Nat) => (if x3 = 0 then b76 else a76)) ((g 7 4 0).toInt.toNat + 2) 0 (F_X7_ledBy g x1 0 (g 7 4 0)) 1) else (F_X7_wards_76 g x1 x2 x3 (g 7 4 0) (fun (a76 : Int32) (b76 : Int32) (j76 : Nat) => (if x3 = 0 then b76 else a76)) ((g 7 4 0).toInt.toNat + 2) (-1000000) (-1000000) 1))))))
set_option maxRecDepth 100000 in
set_option maxHeartbeats 4000000 in
theorem w_X7_wards_104 (l : Launch) (G : mm_G) {pr : Nat → Nat → Prop} {ad : Nat → Nat → Nat → Nat} (hw : mm_W pr) (g104 : mm_g) (x1 : Int32) (x2 : Int32) (x3 : Int32) (f4 : Int32) (j : Nat)  (hB : okB g104) (h4 : 0 ≤ f4.toInt ∧ f4.toInt ≤ 9) (K : Int32 → Int32 → Int32 → Int32) (hK : ∀ (a : Int32) (b : Int32) (c : Int32) (hc : 0 ≤ c.toInt ∧ c.toInt ≤ f4.toInt + 1), V l G RX7 cX7_wards 10 (some .int) (rmk 6 177) (qI pr ad g104 (K a b c)) 0 0 0 0 198 [(0, .ref (ad 7 0 0)), (1, .int x1), (2, .int x2), (3, .int x3), (4, .int f4), (5, .int a), (6, .int b), (7, .int (nI j)), (8, .int c)] [] pr ad g104) : ∀ (n : Nat) (a : Int32) (b : Int32) (c : Int32) (hc : 0 ≤ c.toInt ∧ c.toInt ≤ f4.toInt + 1) (hm : (f4.toInt + 1 - c.toInt).toNat < n), V l G RX7 cX7_wards 10 (some .int) (rmk 6 177) (qI pr ad g104 (F_X7_wards_104 g104 x1 x2 x3 f4 j K n a b c)) 0 0 0 0 104 [(0, .ref (ad 7 0 0)), (1, .int x1), (2, .int x2), (3, .int x3), (4, .int f4), (5, .int a), (6, .int b), (7, .int (nI j)), (8, .int c)] [] pr ad g104 := by
  intro n
  induction n with
  | zero => intro a b c hc hm; exact absurd hm (Nat.not_lt_zero _)
  | succ n ih =>
      intro a b c hc hm
      refine V_iload dX7_wards_104 8 rfl ?_
      refine V_iload_n dX7_wards_106 2 rfl ?_
      refine V_iconst (v := 3) dX7_wards_107 (by decide) ?_
      refine V_ic_ne (tgt := 116) dX7_wards_108 (by decide) (fun c_108 => ?_) (fun c_108 => ?_)
      · refine V_iload dX7_wards_116 4 rfl ?_
        refine V_iconst (v := 1) dX7_wards_118 (by decide) ?_
        refine V_iadd dX7_wards_119 ?_
        refine V_ic_ge (tgt := 198) dX7_wards_120 (by decide) (fun c_120 => ?_) (fun c_120 => ?_)
        · refine V_rp (R2 := K a b c) (by simp only [F_X7_wards_104, if_neg c_108, if_pos c_120]) ?_
          refine V_lp [0, 1, 2, 3, 4, 5, 6, 7, 8] rfl ?_
          exact hK a b c (by assumption)
        · refine V_aload_n dX7_wards_123 0 rfl ?_
          refine V_iload_n dX7_wards_124 1 rfl ?_
          refine V_iconst (v := 0) dX7_wards_125 (by decide) ?_
          refine V_iload dX7_wards_126 7 rfl ?_
          refine V_cV (k_X7_ledBy l G hw g104  x1 0 (nI j) hB) hy_X7_ledBy hi_X7_ledBy hs_X7_ledBy q_767 rfl rfl (W_7 hw) rfl rfl rfl rfl rfl ⟨by decide, by decide⟩ (Nat.le_of_ble_eq_true rfl) ⟨by decide, by decide⟩ dX7_wards_128 (V_kI ?_)
          refine V_aload_n dX7_wards_131 0 rfl ?_
          refine V_iload_n dX7_wards_132 1 rfl ?_
          refine V_iload dX7_wards_133 7 rfl ?_
          refine V_iload dX7_wards_135 8 rfl ?_
          refine V_cV (k_X7_ledBy l G hw g104  x1 (nI j) c hB) hy_X7_ledBy hi_X7_ledBy hs_X7_ledBy q_767 rfl rfl (W_7 hw) rfl rfl rfl rfl rfl ⟨by decide, by decide⟩ (Nat.le_of_ble_eq_true rfl) ⟨by decide, by decide⟩ dX7_wards_137 (V_kI ?_)
          refine V_iadd dX7_wards_140 ?_
          refine V_iload_n dX7_wards_141 2 rfl ?_
          refine V_iconst (v := 3) dX7_wards_142 (by decide) ?_
          refine V_ic_ne (tgt := 158) dX7_wards_143 (by decide) (fun c_143 => ?_) (fun c_143 => ?_)
          · refine V_iconst (v := 0) dX7_wards_158 (by decide) ?_
            refine V_iadd dX7_wards_159 ?_
            refine V_istore (L2 := [(9, .int (((F_X7_ledBy g104 x1 0 (nI j)) + (F_X7_ledBy g104 x1 (nI j) c)) + 0)), (0, .ref (ad 7 0 0)), (1, .int x1), (2, .int x2), (3, .int x3), (4, .int f4), (5, .int a), (6, .int b), (7, .int (nI j)), (8, .int c)]) dX7_wards_160 (by decide) rfl ?_
            refine V_iload dX7_wards_162 0 rfl ?_
            refine V_iload dX7_wards_164 7 rfl ?_
            refine V_ic_le (tgt := 192) dX7_wards_166 (by decide) (fun c_166 => ?_) (fun c_166 => ?_)
            · refine V_iinc (v := (c + 1)) (L2 := [(8, .int (c + 1)), (9, .int (((F_X7_ledBy g104 x1 0 (nI j)) + (F_X7_ledBy g104 x1 (nI j) c)) + 0)), (0, .ref (ad 7 0 0)), (1, .int x1), (2, .int x2), (3, .int x3), (4, .int f4), (5, .int a), (6, .int b), (7, .int (nI j))]) dX7_wards_192 9 rfl rfl (by decide) rfl ?_
              refine V_goto (tgt := 104) dX7_wards_195 (by decide) ?_
              refine V_rp (R2 := F_X7_wards_104 g104 x1 x2 x3 f4 j K n a b (c + 1)) (by simp only [F_X7_wards_104, if_neg c_108, if_neg c_120, if_pos c_166]) ?_
              refine V_lp [2, 3, 4, 5, 6, 7, 8, 9, 0] rfl ?_
              exact ih a b (c + 1) (by first | exact (wi_s hc h4 c_120 hm).1 | exact (wi_t hc h4 c_120 hm).1) (by first | exact (wi_s hc h4 c_120 hm).2 | exact (wi_t hc h4 c_120 hm).2) 
            · refine V_iload dX7_wards_169 0 rfl ?_
              refine V_istore (L2 := [(6, .int (((F_X7_ledBy g104 x1 0 (nI j)) + (F_X7_ledBy g104 x1 (nI j) c)) + 0)), (9, .int (((F_X7_ledBy g104 x1 0 (nI j)) + (F_X7_ledBy g104 x1 (nI j) c)) + 0)), (0, .ref (ad 7 0 0)), (1, .int x1), (2, .int x2), (3, .int x3), (4, .int f4), (5, .int a), (7, .int (nI j)), (8, .int c)]) dX7_wards_171 (by decide) rfl ?_
              refine V_bipush (v := 10) dX7_wards_173 (by decide) ?_
              refine V_iload dX7_wards_175 8 rfl ?_
              refine V_imul dX7_wards_177 ?_
              refine V_iload_n dX7_wards_178 4 rfl ?_
              refine V_iconst (v := 3) dX7_wards_179 (by decide) ?_
              refine V_ic_ne (tgt := 188) dX7_wards_180 (by decide) (fun c_180 => ?_) (fun c_180 => ?_)
              · refine V_iconst (v := 0) dX7_wards_188 (by decide) ?_
                refine V_iadd dX7_wards_189 ?_
                refine V_istore (L2 := [(5, .int ((10 * (nI j)) + 0)), (6, .int (((F_X7_ledBy g104 x1 0 (nI j)) + (F_X7_ledBy g104 x1 (nI j) c)) + 0)), (9, .int (((F_X7_ledBy g104 x1 0 (nI j)) + (F_X7_ledBy g104 x1 (nI j) c)) + 0)), (0, .ref (ad 7 0 0)), (1, .int x1), (2, .int x2), (3, .int x3), (4, .int f4), (7, .int (nI j)), (8, .int c)]) dX7_wards_190 (by decide) rfl ?_
                refine V_iinc (v := (c + 1)) (L2 := [(8, .int (c + 1)), (5, .int ((10 * (nI j)) + 0)), (6, .int (((F_X7_ledBy g104 x1 0 (nI j)) + (F_X7_ledBy g104 x1 (nI j) c)) + 0)), (9, .int (((F_X7_ledBy g104 x1 0 (nI j)) + (F_X7_ledBy g104 x1 (nI j) c)) + 0)), (0, .ref (ad 7 0 0)), (1, .int x1), (2, .int x2), (3, .int x3), (4, .int f4), (7, .int (nI j))]) dX7_wards_192 9 rfl rfl (by decide) rfl ?_
                refine V_goto (tgt := 104) dX7_wards_195 (by decide) ?_
                refine V_rp (R2 := F_X7_wards_104 g104 x1 x2 x3 f4 j K n ((10 * (nI j)) + 0) (((F_X7_ledBy g104 x1 0 (nI j)) + (F_X7_ledBy g104 x1 (nI j) c)) + 0) (c + 1)) (by simp only [F_X7_wards_104, if_neg c_108, if_neg c_120, if_neg c_166]) ?_
                refine V_lp [4, 5, 6, 7, 8, 1, 2, 9, 0] rfl ?_
                exact ih ((10 * (nI j)) + 0) (((F_X7_ledBy g104 x1 0 (nI j)) + (F_X7_ledBy g104 x1 (nI j) c)) + 0) (c + 1) (by first | exact (wi_s hc h4 c_120 hm).1 | exact (wi_t hc h4 c_120 hm).1) (by first | exact (wi_s hc h4 c_120 hm).2 | exact (wi_t hc h4 c_120 hm).2) 
              · exact absurd c_180 c_108
          · exact absurd c_143 c_108
      · refine V_iload dX7_wards_111 4 rfl ?_
        refine V_goto (tgt := 120) dX7_wards_113 (by decide) ?_
        refine V_ic_ge (tgt := 198) dX7_wards_120 (by decide) (fun c_120 => ?_) (fun c_120 => ?_)
        · refine V_rp (R2 := K a b c) (by simp only [F_X7_wards_104, if_pos c_108, if_pos c_120]) ?_
          refine V_lp [0, 1, 2, 3, 4, 5, 6, 7, 8] rfl ?_
          exact hK a b c (by assumption)
        · refine V_aload_n dX7_wards_123 0 rfl ?_
          refine V_iload_n dX7_wards_124 1 rfl ?_
          refine V_iconst (v := 0) dX7_wards_125 (by decide) ?_
          refine V_iload dX7_wards_126 7 rfl ?_
          refine V_cV (k_X7_ledBy l G hw g104  x1 0 (nI j) hB) hy_X7_ledBy hi_X7_ledBy hs_X7_ledBy q_767 rfl rfl (W_7 hw) rfl rfl rfl rfl rfl ⟨by decide, by decide⟩ (Nat.le_of_ble_eq_true rfl) ⟨by decide, by decide⟩ dX7_wards_128 (V_kI ?_)
          refine V_aload_n dX7_wards_131 0 rfl ?_
          refine V_iload_n dX7_wards_132 1 rfl ?_
          refine V_iload dX7_wards_133 7 rfl ?_
          refine V_iload dX7_wards_135 8 rfl ?_
          refine V_cV (k_X7_ledBy l G hw g104  x1 (nI j) c hB) hy_X7_ledBy hi_X7_ledBy hs_X7_ledBy q_767 rfl rfl (W_7 hw) rfl rfl rfl rfl rfl ⟨by decide, by decide⟩ (Nat.le_of_ble_eq_true rfl) ⟨by decide, by decide⟩ dX7_wards_137 (V_kI ?_)
          refine V_iadd dX7_wards_140 ?_
          refine V_iload_n dX7_wards_141 2 rfl ?_
          refine V_iconst (v := 3) dX7_wards_142 (by decide) ?_
          refine V_ic_ne (tgt := 158) dX7_wards_143 (by decide) (fun c_143 => ?_) (fun c_143 => ?_)
          · exact absurd c_108 c_143
          · refine V_aload_n dX7_wards_146 0 rfl ?_
            refine V_iload_n dX7_wards_147 1 rfl ?_
            refine V_iload dX7_wards_148 8 rfl ?_
            refine V_iload dX7_wards_150 4 rfl ?_
            refine V_cV (k_X7_ledBy l G hw g104  x1 c f4 hB) hy_X7_ledBy hi_X7_ledBy hs_X7_ledBy q_767 rfl rfl (W_7 hw) rfl rfl rfl rfl rfl ⟨by decide, by decide⟩ (Nat.le_of_ble_eq_true rfl) ⟨by decide, by decide⟩ dX7_wards_152 (V_kI ?_)
            refine V_goto (tgt := 159) dX7_wards_155 (by decide) ?_
            refine V_iadd dX7_wards_159 ?_
            refine V_istore (L2 := [(9, .int (((F_X7_ledBy g104 x1 0 (nI j)) + (F_X7_ledBy g104 x1 (nI j) c)) + (F_X7_ledBy g104 x1 c f4))), (0, .ref (ad 7 0 0)), (1, .int x1), (2, .int x2), (3, .int x3), (4, .int f4), (5, .int a), (6, .int b), (7, .int (nI j)), (8, .int c)]) dX7_wards_160 (by decide) rfl ?_
            refine V_iload dX7_wards_162 0 rfl ?_
            refine V_iload dX7_wards_164 7 rfl ?_
            refine V_ic_le (tgt := 192) dX7_wards_166 (by decide) (fun c_166 => ?_) (fun c_166 => ?_)
            · refine V_iinc (v := (c + 1)) (L2 := [(8, .int (c + 1)), (9, .int (((F_X7_ledBy g104 x1 0 (nI j)) + (F_X7_ledBy g104 x1 (nI j) c)) + (F_X7_ledBy g104 x1 c f4))), (0, .ref (ad 7 0 0)), (1, .int x1), (2, .int x2), (3, .int x3), (4, .int f4), (5, .int a), (6, .int b), (7, .int (nI j))]) dX7_wards_192 9 rfl rfl (by decide) rfl ?_
              refine V_goto (tgt := 104) dX7_wards_195 (by decide) ?_
              refine V_rp (R2 := F_X7_wards_104 g104 x1 x2 x3 f4 j K n a b (c + 1)) (by simp only [F_X7_wards_104, if_pos c_108, if_neg c_120, if_pos c_166]) ?_
              refine V_lp [2, 3, 4, 5, 6, 7, 8, 9, 0] rfl ?_
              exact ih a b (c + 1) (by first | exact (wi_s hc h4 c_120 hm).1 | exact (wi_t hc h4 c_120 hm).1) (by first | exact (wi_s hc h4 c_120 hm).2 | exact (wi_t hc h4 c_120 hm).2) 
            · refine V_iload dX7_wards_169 0 rfl ?_
              refine V_istore (L2 := [(6, .int (((F_X7_ledBy g104 x1 0 (nI j)) + (F_X7_ledBy g104 x1 (nI j) c)) + (F_X7_ledBy g104 x1 c f4))), (9, .int (((F_X7_ledBy g104 x1 0 (nI j)) + (F_X7_ledBy g104 x1 (nI j) c)) + (F_X7_ledBy g104 x1 c f4))), (0, .ref (ad 7 0 0)), (1, .int x1), (2, .int x2), (3, .int x3), (4, .int f4), (5, .int a), (7, .int (nI j)), (8, .int c)]) dX7_wards_171 (by decide) rfl ?_
              refine V_bipush (v := 10) dX7_wards_173 (by decide) ?_
              refine V_iload dX7_wards_175 8 rfl ?_
              refine V_imul dX7_wards_177 ?_
              refine V_iload_n dX7_wards_178 4 rfl ?_
              refine V_iconst (v := 3) dX7_wards_179 (by decide) ?_
              refine V_ic_ne (tgt := 188) dX7_wards_180 (by decide) (fun c_180 => ?_) (fun c_180 => ?_)
              · exact absurd c_108 c_180
              · refine V_iload dX7_wards_183 9 rfl ?_
                refine V_goto (tgt := 189) dX7_wards_185 (by decide) ?_
                refine V_iadd dX7_wards_189 ?_
                refine V_istore (L2 := [(5, .int ((10 * (nI j)) + c)), (6, .int (((F_X7_ledBy g104 x1 0 (nI j)) + (F_X7_ledBy g104 x1 (nI j) c)) + (F_X7_ledBy g104 x1 c f4))), (9, .int (((F_X7_ledBy g104 x1 0 (nI j)) + (F_X7_ledBy g104 x1 (nI j) c)) + (F_X7_ledBy g104 x1 c f4))), (0, .ref (ad 7 0 0)), (1, .int x1), (2, .int x2), (3, .int x3), (4, .int f4), (7, .int (nI j)), (8, .int c)]) dX7_wards_190 (by decide) rfl ?_
                refine V_iinc (v := (c + 1)) (L2 := [(8, .int (c + 1)), (5, .int ((10 * (nI j)) + c)), (6, .int (((F_X7_ledBy g104 x1 0 (nI j)) + (F_X7_ledBy g104 x1 (nI j) c)) + (F_X7_ledBy g104 x1 c f4))), (9, .int (((F_X7_ledBy g104 x1 0 (nI j)) + (F_X7_ledBy g104 x1 (nI j) c)) + (F_X7_ledBy g104 x1 c f4))), (0, .ref (ad 7 0 0)), (1, .int x1), (2, .int x2), (3, .int x3), (4, .int f4), (7, .int (nI j))]) dX7_wards_192 9 rfl rfl (by decide) rfl ?_
                refine V_goto (tgt := 104) dX7_wards_195 (by decide) ?_
                refine V_rp (R2 := F_X7_wards_104 g104 x1 x2 x3 f4 j K n ((10 * (nI j)) + c) (((F_X7_ledBy g104 x1 0 (nI j)) + (F_X7_ledBy g104 x1 (nI j) c)) + (F_X7_ledBy g104 x1 c f4)) (c + 1)) (by simp only [F_X7_wards_104, if_pos c_108, if_neg c_120, if_neg c_166]) ?_
                refine V_lp [4, 5, 6, 7, 8, 1, 2, 9, 0] rfl ?_
                exact ih ((10 * (nI j)) + c) (((F_X7_ledBy g104 x1 0 (nI j)) + (F_X7_ledBy g104 x1 (nI j) c)) + (F_X7_ledBy g104 x1 c f4)) (c + 1) (by first | exact (wi_s hc h4 c_120 hm).1 | exact (wi_t hc h4 c_120 hm).1) (by first | exact (wi_s hc h4 c_120 hm).2 | exact (wi_t hc h4 c_120 hm).2) 
set_option maxRecDepth 100000 in
set_option maxHeartbeats 4000000 in
theorem w_X7_wards_76 (l : Launch) (G : mm_G) {pr : Nat → Nat → Prop} {ad : Nat → Nat → Nat → Nat} (hw : mm_W pr) (g76 : mm_g) (x1 : Int32) (x2 : Int32) (x3 : Int32) (f4 : Int32)  (hB : okB g76) (h4 : 0 ≤ f4.toInt ∧ f4.toInt ≤ 9) (K : Int32 → Int32 → Nat → Int32) (hK : ∀ (a : Int32) (b : Int32) (j : Nat) (hj : j ≤ f4.toInt.toNat + 1), V l G RX7 cX7_wards 10 (some .int) (rmk 6 177) (qI pr ad g76 (K a b j)) 0 0 0 0 204 [(0, .ref (ad 7 0 0)), (1, .int x1), (2, .int x2), (3, .int x3), (4, .int f4), (5, .int a), (6, .int b), (7, .int (nI j))] [] pr ad g76) : ∀ (n : Nat) (a : Int32) (b : Int32) (j : Nat) (hj : j ≤ f4.toInt.toNat + 1) (hm : f4.toInt.toNat + 1 - j < n), V l G RX7 cX7_wards 10 (some .int) (rmk 6 177) (qI pr ad g76 (F_X7_wards_76 g76 x1 x2 x3 f4 K n a b j)) 0 0 0 0 76 [(0, .ref (ad 7 0 0)), (1, .int x1), (2, .int x2), (3, .int x3), (4, .int f4), (5, .int a), (6, .int b), (7, .int (nI j))] [] pr ad g76 := by
  intro n
  induction n with
  | zero => intro a b j hj hm; exact absurd hm (Nat.not_lt_zero _)
  | succ n ih =>
      intro a b j hj hm
      refine V_iload dX7_wards_76 7 rfl ?_
      refine V_iload dX7_wards_78 4 rfl ?_
      refine V_ic_ge (tgt := 204) dX7_wards_80 (by decide) (fun c_80 => ?_) (fun c_80 => ?_)
      · refine V_rp (R2 := K a b j) (by simp only [F_X7_wards_76, if_pos c_80]) ?_
        refine V_lp [0, 1, 2, 3, 4, 5, 6, 7] rfl ?_
        exact hK a b j (by assumption)
      · refine V_iload_n dX7_wards_83 2 rfl ?_
        refine V_iconst (v := 1) dX7_wards_84 (by decide) ?_
        refine V_ic_le (tgt := 204) dX7_wards_85 (by decide) (fun c_85 => ?_) (fun c_85 => ?_)
        · refine V_rp (R2 := K a b j) (by simp only [F_X7_wards_76, if_neg c_80, if_pos c_85]) ?_
          refine V_lp [0, 1, 2, 3, 4, 5, 6, 7] rfl ?_
          exact hK a b j (by assumption)
        · refine V_iload_n dX7_wards_88 2 rfl ?_
          refine V_iconst (v := 3) dX7_wards_89 (by decide) ?_
          refine V_ic_ne (tgt := 100) dX7_wards_90 (by decide) (fun c_90 => ?_) (fun c_90 => ?_)
          · refine V_iload dX7_wards_100 4 rfl ?_
            refine V_istore (L2 := [(8, .int f4), (0, .ref (ad 7 0 0)), (1, .int x1), (2, .int x2), (3, .int x3), (4, .int f4), (5, .int a), (6, .int b), (7, .int (nI j))]) dX7_wards_102 (by decide) rfl ?_
            refine V_rp (R2 := F_X7_wards_104 g76 x1 x2 x3 f4 j (fun (a104 : Int32) (b104 : Int32) (c104 : Int32) => F_X7_wards_76 g76 x1 x2 x3 f4 K n a104 b104 (j + 1)) 12 a b f4) (by simp only [F_X7_wards_76, if_neg c_80, if_neg c_85, if_neg c_90]) ?_
            refine V_lp [1, 2, 3, 4, 5, 6, 7, 8, 0] rfl ?_
            refine w_X7_wards_104 l G hw g76 x1 x2 x3 f4 j  (by exact hB) (by exact h4) _ (fun a104 b104 c104 hc104 => ?_) 12 a b f4 (by first | exact wi_e hj c_80 h4 | exact wi_f h4) (by first | exact wi_m (wi_e hj c_80 h4) h4 | exact wi_m (wi_f h4) h4)
            refine V_iinc (v := (nI (j + 1))) (L2 := [(7, .int (nI (j + 1))), (0, .ref (ad 7 0 0)), (1, .int x1), (2, .int x2), (3, .int x3), (4, .int f4), (5, .int a104), (6, .int b104), (8, .int c104)]) dX7_wards_198 7 rfl (nI_1 _) (by decide) rfl ?_
            refine V_goto (tgt := 76) dX7_wards_201 (by decide) ?_
            refine V_rp (R2 := F_X7_wards_76 g76 x1 x2 x3 f4 K n a104 b104 (j + 1)) (by rfl) ?_
            refine V_lp [1, 2, 3, 4, 5, 6, 7, 0] rfl ?_
            exact ih a104 b104 (j + 1) (by exact (lp_u1 hj c_80 h4 hm).1) (by exact (lp_u1 hj c_80 h4 hm).2) 
          · refine V_iload dX7_wards_93 7 rfl ?_
            refine V_iconst (v := 1) dX7_wards_95 (by decide) ?_
            refine V_iadd dX7_wards_96 ?_
            refine V_goto (tgt := 102) dX7_wards_97 (by decide) ?_
            refine V_istore (L2 := [(8, .int ((nI j) + 1)), (0, .ref (ad 7 0 0)), (1, .int x1), (2, .int x2), (3, .int x3), (4, .int f4), (5, .int a), (6, .int b), (7, .int (nI j))]) dX7_wards_102 (by decide) rfl ?_
            refine V_rp (R2 := F_X7_wards_104 g76 x1 x2 x3 f4 j (fun (a104 : Int32) (b104 : Int32) (c104 : Int32) => F_X7_wards_76 g76 x1 x2 x3 f4 K n a104 b104 (j + 1)) 12 a b ((nI j) + 1)) (by simp only [F_X7_wards_76, if_neg c_80, if_neg c_85, if_pos c_90]) ?_
            refine V_lp [1, 2, 3, 4, 5, 6, 7, 8, 0] rfl ?_
            refine w_X7_wards_104 l G hw g76 x1 x2 x3 f4 j  (by exact hB) (by exact h4) _ (fun a104 b104 c104 hc104 => ?_) 12 a b ((nI j) + 1) (by first | exact wi_e hj c_80 h4 | exact wi_f h4) (by first | exact wi_m (wi_e hj c_80 h4) h4 | exact wi_m (wi_f h4) h4)
            refine V_iinc (v := (nI (j + 1))) (L2 := [(7, .int (nI (j + 1))), (0, .ref (ad 7 0 0)), (1, .int x1), (2, .int x2), (3, .int x3), (4, .int f4), (5, .int a104), (6, .int b104), (8, .int c104)]) dX7_wards_198 7 rfl (nI_1 _) (by decide) rfl ?_
            refine V_goto (tgt := 76) dX7_wards_201 (by decide) ?_
            refine V_rp (R2 := F_X7_wards_76 g76 x1 x2 x3 f4 K n a104 b104 (j + 1)) (by rfl) ?_
            refine V_lp [1, 2, 3, 4, 5, 6, 7, 0] rfl ?_
            exact ih a104 b104 (j + 1) (by exact (lp_u1 hj c_80 h4 hm).1) (by exact (lp_u1 hj c_80 h4 hm).2) 
set_option maxRecDepth 100000 in
set_option maxHeartbeats 4000000 in
theorem k_X7_wards (l : Launch) (G : mm_G) {pr : Nat → Nat → Prop} {ad : Nat → Nat → Nat → Nat} (hw : mm_W pr) (g : mm_g) (x1 : Int32) (x2 : Int32) (x3 : Int32) (hB : okB g)  : Mt l G yX7_wards cX7_wards 10 (some .int) (rmk 6 177) [.ref (ad 7 0 0), .int x1, .int x2, .int x3] pr ad g (qI pr ad g (F_X7_wards g x1 x2 x3)) 0 0 := by
  refine Mt_of (by decide) (Nat.le_of_ble_eq_true rfl) ?_
  show V l G RX7 cX7_wards 10 (some .int) _ _ 0 0 0 0 0 [(0, .ref (ad 7 0 0)), (1, .int x1), (2, .int x2), (3, .int x3)] [] pr ad g
  refine V_aload_n dX7_wards_0 0 rfl ?_
  refine V_get (i := 4) inlX7 rfl (W_7 hw) rfl (by decide) q_309 rfl dX7_wards_1 ?_
  refine V_if_ne (tgt := 10) dX7_wards_4 (by decide) (fun c_4 => ?_) (fun c_4 => ?_)
  · refine V_iload_n dX7_wards_10 1 rfl ?_
    refine V_cS (k_X7_isWho l G hw g  x1 ) hy_X7_isWho hz_X7_isWho q_540 rfl rfl rfl rfl ⟨by decide, by decide⟩ (Nat.le_of_ble_eq_true rfl) ⟨by decide, by decide⟩ dX7_wards_11 (V_kI ?_)
    refine V_if_eq (tgt := 36) dX7_wards_14 (by decide) (fun c_14 => ?_) (fun c_14 => ?_)
    · refine V_ldc q_130 dX7_wards_36 ?_
      exact V_iret dX7_wards_38 rfl (lfI (by simp only [F_X7_wards, if_neg c_4, if_pos c_14]))
    · refine V_iload_n dX7_wards_17 2 rfl ?_
      refine V_i2l dX7_wards_18 ?_
      refine V_lconst (v := 1) dX7_wards_19 (by decide) ?_
      refine V_ldc2 q_556 dX7_wards_20 ?_
      refine V_cS (k_X7_in l G hw g  (x2.toInt64) 1 3 ) hy_X7_in hz_X7_in q_135 rfl rfl rfl rfl ⟨by decide, by decide⟩ (Nat.le_of_ble_eq_true rfl) ⟨by decide, by decide⟩ dX7_wards_23 (V_kI ?_)
      refine V_if_eq (tgt := 36) dX7_wards_26 (by decide) (fun c_26 => ?_) (fun c_26 => ?_)
      · refine V_ldc q_130 dX7_wards_36 ?_
        exact V_iret dX7_wards_38 rfl (lfI (by simp only [F_X7_wards, if_neg c_4, if_neg c_14, if_pos c_26]))
      · refine V_iload_n dX7_wards_29 3 rfl ?_
        refine V_cS (k_X7_isWhat l G hw g  x3 ) hy_X7_isWhat hz_X7_isWhat q_668 rfl rfl rfl rfl ⟨by decide, by decide⟩ (Nat.le_of_ble_eq_true rfl) ⟨by decide, by decide⟩ dX7_wards_30 (V_kI ?_)
        refine V_if_ne (tgt := 39) dX7_wards_33 (by decide) (fun c_33 => ?_) (fun c_33 => ?_)
        · refine V_aload_n dX7_wards_39 0 rfl ?_
          refine V_get (i := 5) inlX7 rfl (W_7 hw) rfl (by decide) q_94 rfl dX7_wards_40 ?_
          refine V_iconst (v := 0) dX7_wards_43 (by decide) ?_
          refine L_7_4_l 0 rfl (W_7 hw) (by unfold vp_in; decide) dX7_wards_44 ?_
          refine V_istore (L2 := [(4, .int (g 7 4 0)), (0, .ref (ad 7 0 0)), (1, .int x1), (2, .int x2), (3, .int x3)]) dX7_wards_45 (by decide) rfl ?_
          refine V_ldc q_637 dX7_wards_47 ?_
          refine V_istore (L2 := [(5, .int (-1000000)), (4, .int (g 7 4 0)), (0, .ref (ad 7 0 0)), (1, .int x1), (2, .int x2), (3, .int x3)]) dX7_wards_49 (by decide) rfl ?_
          refine V_ldc q_637 dX7_wards_51 ?_
          refine V_istore (L2 := [(6, .int (-1000000)), (5, .int (-1000000)), (4, .int (g 7 4 0)), (0, .ref (ad 7 0 0)), (1, .int x1), (2, .int x2), (3, .int x3)]) dX7_wards_53 (by decide) rfl ?_
          refine V_iload_n dX7_wards_55 5 rfl ?_
          refine V_iconst (v := 1) dX7_wards_56 (by decide) ?_
          refine V_ic_ne (tgt := 73) dX7_wards_57 (by decide) (fun c_57 => ?_) (fun c_57 => ?_)
          · refine V_iconst (v := 1) dX7_wards_73 (by decide) ?_
            refine V_istore (L2 := [(7, .int 1), (6, .int (-1000000)), (5, .int (-1000000)), (4, .int (g 7 4 0)), (0, .ref (ad 7 0 0)), (1, .int x1), (2, .int x2), (3, .int x3)]) dX7_wards_74 (by decide) rfl ?_
            refine V_rp (R2 := F_X7_wards_76 g x1 x2 x3 (g 7 4 0) (fun (a76 : Int32) (b76 : Int32) (j76 : Nat) => (if x3 = 0 then b76 else a76)) ((g 7 4 0).toInt.toNat + 2) (-1000000) (-1000000) 1) (by simp only [F_X7_wards, if_neg c_4, if_neg c_14, if_neg c_26, if_neg c_33, if_neg c_57]) ?_
            refine V_lp [4, 5, 6, 7, 3, 2, 1, 0] rfl ?_
            refine w_X7_wards_76 l G hw g x1 x2 x3 (g 7 4 0)  (by exact hB) (by exact hB) _ (fun a76 b76 j76 hj76 => ?_) ((g 7 4 0).toInt.toNat + 2) (-1000000) (-1000000) 1 (by exact Nat.le_add_left 1 _) (by omega)
            refine V_iload_n dX7_wards_204 3 rfl ?_
            refine V_if_ne (tgt := 213) dX7_wards_205 (by decide) (fun c_205 => ?_) (fun c_205 => ?_)
            · refine V_iload dX7_wards_213 5 rfl ?_
              exact V_iret dX7_wards_215 rfl (lfI (by simp only [if_neg c_205]))
            · refine V_iload dX7_wards_208 6 rfl ?_
              refine V_goto (tgt := 215) dX7_wards_210 (by decide) ?_
              exact V_iret dX7_wards_215 rfl (lfI (by simp only [if_pos c_205]))
          · refine V_iconst (v := 0) dX7_wards_60 (by decide) ?_
            refine V_istore (L2 := [(5, .int 0), (6, .int (-1000000)), (4, .int (g 7 4 0)), (0, .ref (ad 7 0 0)), (1, .int x1), (2, .int x2), (3, .int x3)]) dX7_wards_61 (by decide) rfl ?_
            refine V_aload_n dX7_wards_63 3 rfl ?_
            refine V_iload_n dX7_wards_64 4 rfl ?_
            refine V_iconst (v := 0) dX7_wards_65 (by decide) ?_
            refine V_iload dX7_wards_66 2 rfl ?_
            refine V_cV (k_X7_ledBy l G hw g  x1 0 (g 7 4 0) hB) hy_X7_ledBy hi_X7_ledBy hs_X7_ledBy q_767 rfl rfl (W_7 hw) rfl rfl rfl rfl rfl ⟨by decide, by decide⟩ (Nat.le_of_ble_eq_true rfl) ⟨by decide, by decide⟩ dX7_wards_68 (V_kI ?_)
            refine V_istore (L2 := [(6, .int (F_X7_ledBy g x1 0 (g 7 4 0))), (5, .int 0), (4, .int (g 7 4 0)), (0, .ref (ad 7 0 0)), (1, .int x1), (2, .int x2), (3, .int x3)]) dX7_wards_71 (by decide) rfl ?_
            refine V_iconst (v := 1) dX7_wards_73 (by decide) ?_
            refine V_istore (L2 := [(7, .int 1), (6, .int (F_X7_ledBy g x1 0 (g 7 4 0))), (5, .int 0), (4, .int (g 7 4 0)), (0, .ref (ad 7 0 0)), (1, .int x1), (2, .int x2), (3, .int x3)]) dX7_wards_74 (by decide) rfl ?_
            refine V_rp (R2 := F_X7_wards_76 g x1 x2 x3 (g 7 4 0) (fun (a76 : Int32) (b76 : Int32) (j76 : Nat) => (if x3 = 0 then b76 else a76)) ((g 7 4 0).toInt.toNat + 2) 0 (F_X7_ledBy g x1 0 (g 7 4 0)) 1) (by simp only [F_X7_wards, if_neg c_4, if_neg c_14, if_neg c_26, if_neg c_33, if_pos c_57]) ?_
            refine V_lp [4, 5, 6, 7, 3, 2, 1, 0] rfl ?_
            refine w_X7_wards_76 l G hw g x1 x2 x3 (g 7 4 0)  (by exact hB) (by exact hB) _ (fun a76 b76 j76 hj76 => ?_) ((g 7 4 0).toInt.toNat + 2) 0 (F_X7_ledBy g x1 0 (g 7 4 0)) 1 (by exact Nat.le_add_left 1 _) (by omega)
            refine V_iload_n dX7_wards_204 3 rfl ?_
            refine V_if_ne (tgt := 213) dX7_wards_205 (by decide) (fun c_205 => ?_) (fun c_205 => ?_)
            · refine V_iload dX7_wards_213 5 rfl ?_
              exact V_iret dX7_wards_215 rfl (lfI (by simp only [if_neg c_205]))
            · refine V_iload dX7_wards_208 6 rfl ?_
              refine V_goto (tgt := 215) dX7_wards_210 (by decide) ?_
              exact V_iret dX7_wards_215 rfl (lfI (by simp only [if_pos c_205]))
        · refine V_ldc q_130 dX7_wards_36 ?_
          exact V_iret dX7_wards_38 rfl (lfI (by simp only [F_X7_wards, if_neg c_4, if_neg c_14, if_neg c_26, if_pos c_33]))
  · refine V_ldc q_371 dX7_wards_7 ?_
    exact V_iret dX7_wards_9 rfl (lfI (by simp only [F_X7_wards, if_pos c_4]))
def F_X7_decide_23 (f1 : Int32) (K : Int32 → Nat → mm_g → Int32 × mm_g) : Nat → Int32 → Nat → mm_g → Int32 × mm_g
  | 0, a, j, s => K a j s
  | n + 1, a, j, s => (if (s 7 4 0) ≤ (nI j) then K a j s else (if (F_X7_sign (F_X7_leadOf (wr s 7 4 5 ((s 7 4 5) ^^^ ((1 : Int32) <<< ((nI j) &&& 31)))) 0)) = f1 then F_X7_decide_23 f1 K n (a ||| 0) (j + 1) (wr (wr s 7 4 5 ((s 7 4 5) ^^^ ((1 : Int32) <<< ((nI j) &&& 31)))) 7 4 5 (((wr s 7 4 5 ((s 7 4 5) ^^^ ((1 : Int32) <<< ((nI j) &&& 31)))) 7 4 5) ^^^ ((1 : Int32) <<< ((nI j) &&& 31)))) else F_X7_decide_23 f1 K n (a ||| ((1 : Int32) <<< ((nI j) &&& 31))) (j + 1) (wr (wr s 7 4 5 ((s 7 4 5) ^^^ ((1 : Int32) <<< ((nI j) &&& 31)))) 7 4 5 (((wr s 7 4 5 ((s 7 4 5) ^^^ ((1 : Int32) <<< ((nI j) &&& 31)))) 7 4 5) ^^^ ((1 : Int32) <<< ((nI j) &&& 31))))))
def F_X7_decide (g : mm_g) : Int32 × mm_g := (if (g 7 0 1) = 0 then ((-1000002), g) else (F_X7_decide_23 (F_X7_sign (F_X7_leadOf g 0)) (fun (a23 : Int32) (j23 : Nat) (s23 : mm_g) => (a23, s23)) ((g 7 4 0).toInt.toNat + 1) 0 0 g))
set_option maxRecDepth 100000 in
set_option maxHeartbeats 4000000 in
theorem w_X7_decide_23 (l : Launch) (G : mm_G) {pr : Nat → Nat → Prop} {ad : Nat → Nat → Nat → Nat} (hw : mm_W pr) (f1 : Int32)  (K : Int32 → Nat → mm_g → Int32 × mm_g) (hK : ∀ (a : Int32) (j : Nat) (s : mm_g) (hj : j ≤ (s 7 4 0).toInt.toNat) (hB : okB s), V l G RX7 cX7_decide 4 (some .int) (rmk 7 195) (qM pr ad (K a j s)) 0 0 0 0 85 [(0, .ref (ad 7 0 0)), (1, .int f1), (2, .int a), (3, .int (nI j))] [] pr ad s) : ∀ (n : Nat) (a : Int32) (j : Nat) (s : mm_g) (hj : j ≤ (s 7 4 0).toInt.toNat) (hB : okB s) (hm : (s 7 4 0).toInt.toNat - j < n), V l G RX7 cX7_decide 4 (some .int) (rmk 7 195) (qM pr ad (F_X7_decide_23 f1 K n a j s)) 0 0 0 0 23 [(0, .ref (ad 7 0 0)), (1, .int f1), (2, .int a), (3, .int (nI j))] [] pr ad s := by
  intro n
  induction n with
  | zero => intro a j s hj hB hm; exact absurd hm (Nat.not_lt_zero _)
  | succ n ih =>
      intro a j s hj hB hm
      refine V_iload_n dX7_decide_23 3 rfl ?_
      refine V_aload_n dX7_decide_24 0 rfl ?_
      refine V_get (i := 5) inlX7 rfl (W_7 hw) rfl (by decide) q_94 rfl dX7_decide_25 ?_
      refine V_iconst (v := 0) dX7_decide_28 (by decide) ?_
      refine L_7_4_l 0 rfl (W_7 hw) (by unfold vp_in; decide) dX7_decide_29 ?_
      refine V_ic_ge (tgt := 85) dX7_decide_30 (by decide) (fun c_30 => ?_) (fun c_30 => ?_)
      · refine V_rp (R2 := K a j s) (by simp only [F_X7_decide_23, if_pos c_30]) ?_
        refine V_lp [0, 1, 2, 3] rfl ?_
        exact hK a j s (by assumption) (by assumption)
      · refine V_aload_n dX7_decide_33 0 rfl ?_
        refine V_get (i := 5) inlX7 rfl (W_7 hw) rfl (by decide) q_94 rfl dX7_decide_34 ?_
        refine V_iconst (v := 5) dX7_decide_37 (by decide) ?_
        refine V_dup2 dX7_decide_38 rfl rfl ?_
        refine L_7_4_l 5 rfl (W_7 hw) (by unfold vp_in; decide) dX7_decide_39 ?_
        refine V_iconst (v := 1) dX7_decide_40 (by decide) ?_
        refine V_iload_n dX7_decide_41 3 rfl ?_
        refine V_ishl dX7_decide_42 ?_
        refine V_ixor dX7_decide_43 ?_
        refine S_7_4_l 5 rfl (W_7 hw) (by unfold vp_in; decide) dX7_decide_44 ?_
        refine V_iload_n dX7_decide_45 2 rfl ?_
        refine V_aload_n dX7_decide_46 0 rfl ?_
        refine V_iconst (v := 0) dX7_decide_47 (by decide) ?_
        refine V_cV (k_X7_leadOf l G hw (wr s 7 4 5 ((s 7 4 5) ^^^ ((1 : Int32) <<< ((nI j) &&& 31))))  0 (okB_j (by decide) hB) (by unfold vp_in; decide)) hy_X7_leadOf hi_X7_leadOf hs_X7_leadOf q_675 rfl rfl (W_7 hw) rfl rfl rfl rfl rfl ⟨by decide, by decide⟩ (Nat.le_of_ble_eq_true rfl) ⟨by decide, by decide⟩ dX7_decide_48 (V_kI ?_)
        refine V_cS (k_X7_sign l G hw (wr s 7 4 5 ((s 7 4 5) ^^^ ((1 : Int32) <<< ((nI j) &&& 31))))  (F_X7_leadOf (wr s 7 4 5 ((s 7 4 5) ^^^ ((1 : Int32) <<< ((nI j) &&& 31)))) 0) ) hy_X7_sign hz_X7_sign q_787 rfl rfl rfl rfl ⟨by decide, by decide⟩ (Nat.le_of_ble_eq_true rfl) ⟨by decide, by decide⟩ dX7_decide_51 (V_kI ?_)
        refine V_iload_n dX7_decide_54 1 rfl ?_
        refine V_ic_eq (tgt := 64) dX7_decide_55 (by decide) (fun c_55 => ?_) (fun c_55 => ?_)
        · refine V_iconst (v := 0) dX7_decide_64 (by decide) ?_
          refine V_ior dX7_decide_65 ?_
          refine V_istore_n (L2 := [(2, .int (a ||| 0)), (0, .ref (ad 7 0 0)), (1, .int f1), (3, .int (nI j))]) dX7_decide_66 (by decide) rfl ?_
          refine V_aload_n dX7_decide_67 1 rfl ?_
          refine V_get (i := 5) inlX7 rfl (W_7 hw) rfl (by decide) q_94 rfl dX7_decide_68 ?_
          refine V_iconst (v := 5) dX7_decide_71 (by decide) ?_
          refine V_dup2 dX7_decide_72 rfl rfl ?_
          refine L_7_4_l 5 rfl (W_7 hw) (by unfold vp_in; decide) dX7_decide_73 ?_
          refine V_iconst (v := 1) dX7_decide_74 (by decide) ?_
          refine V_iload_n dX7_decide_75 3 rfl ?_
          refine V_ishl dX7_decide_76 ?_
          refine V_ixor dX7_decide_77 ?_
          refine S_7_4_l 5 rfl (W_7 hw) (by unfold vp_in; decide) dX7_decide_78 ?_
          refine V_iinc (v := (nI (j + 1))) (L2 := [(3, .int (nI (j + 1))), (2, .int (a ||| 0)), (0, .ref (ad 7 0 0)), (1, .int f1)]) dX7_decide_79 3 rfl (nI_1 _) (by decide) rfl ?_
          refine V_goto (tgt := 23) dX7_decide_82 (by decide) ?_
          refine V_rp (R2 := F_X7_decide_23 f1 K n (a ||| 0) (j + 1) (wr (wr s 7 4 5 ((s 7 4 5) ^^^ ((1 : Int32) <<< ((nI j) &&& 31)))) 7 4 5 (((wr s 7 4 5 ((s 7 4 5) ^^^ ((1 : Int32) <<< ((nI j) &&& 31)))) 7 4 5) ^^^ ((1 : Int32) <<< ((nI j) &&& 31))))) (by simp only [F_X7_decide_23, if_neg c_30, if_pos c_55]) ?_
          refine V_lp [2, 3, 1, 0] rfl ?_
          exact ih (a ||| 0) (j + 1) (wr (wr s 7 4 5 ((s 7 4 5) ^^^ ((1 : Int32) <<< ((nI j) &&& 31)))) 7 4 5 (((wr s 7 4 5 ((s 7 4 5) ^^^ ((1 : Int32) <<< ((nI j) &&& 31)))) 7 4 5) ^^^ ((1 : Int32) <<< ((nI j) &&& 31)))) (by rw [wr_o (by decide), wr_o (by decide)]; exact (lp_up hj c_30 hm).1) (by exact (okB_j (by decide) (okB_j (by decide) hB))) (by rw [wr_o (by decide), wr_o (by decide)]; exact (lp_up hj c_30 hm).2) 
        · refine V_iconst (v := 1) dX7_decide_58 (by decide) ?_
          refine V_iload_n dX7_decide_59 3 rfl ?_
          refine V_ishl dX7_decide_60 ?_
          refine V_goto (tgt := 65) dX7_decide_61 (by decide) ?_
          refine V_ior dX7_decide_65 ?_
          refine V_istore_n (L2 := [(2, .int (a ||| ((1 : Int32) <<< ((nI j) &&& 31)))), (0, .ref (ad 7 0 0)), (1, .int f1), (3, .int (nI j))]) dX7_decide_66 (by decide) rfl ?_
          refine V_aload_n dX7_decide_67 1 rfl ?_
          refine V_get (i := 5) inlX7 rfl (W_7 hw) rfl (by decide) q_94 rfl dX7_decide_68 ?_
          refine V_iconst (v := 5) dX7_decide_71 (by decide) ?_
          refine V_dup2 dX7_decide_72 rfl rfl ?_
          refine L_7_4_l 5 rfl (W_7 hw) (by unfold vp_in; decide) dX7_decide_73 ?_
          refine V_iconst (v := 1) dX7_decide_74 (by decide) ?_
          refine V_iload_n dX7_decide_75 3 rfl ?_
          refine V_ishl dX7_decide_76 ?_
          refine V_ixor dX7_decide_77 ?_
          refine S_7_4_l 5 rfl (W_7 hw) (by unfold vp_in; decide) dX7_decide_78 ?_
          refine V_iinc (v := (nI (j + 1))) (L2 := [(3, .int (nI (j + 1))), (2, .int (a ||| ((1 : Int32) <<< ((nI j) &&& 31)))), (0, .ref (ad 7 0 0)), (1, .int f1)]) dX7_decide_79 3 rfl (nI_1 _) (by decide) rfl ?_
          refine V_goto (tgt := 23) dX7_decide_82 (by decide) ?_
          refine V_rp (R2 := F_X7_decide_23 f1 K n (a ||| ((1 : Int32) <<< ((nI j) &&& 31))) (j + 1) (wr (wr s 7 4 5 ((s 7 4 5) ^^^ ((1 : Int32) <<< ((nI j) &&& 31)))) 7 4 5 (((wr s 7 4 5 ((s 7 4 5) ^^^ ((1 : Int32) <<< ((nI j) &&& 31)))) 7 4 5) ^^^ ((1 : Int32) <<< ((nI j) &&& 31))))) (by simp only [F_X7_decide_23, if_neg c_30, if_neg c_55]) ?_
          refine V_lp [2, 3, 1, 0] rfl ?_
          exact ih (a ||| ((1 : Int32) <<< ((nI j) &&& 31))) (j + 1) (wr (wr s 7 4 5 ((s 7 4 5) ^^^ ((1 : Int32) <<< ((nI j) &&& 31)))) 7 4 5 (((wr s 7 4 5 ((s 7 4 5) ^^^ ((1 : Int32) <<< ((nI j) &&& 31)))) 7 4 5) ^^^ ((1 : Int32) <<< ((nI j) &&& 31)))) (by rw [wr_o (by decide), wr_o (by decide)]; exact (lp_up hj c_30 hm).1) (by exact (okB_j (by decide) (okB_j (by decide) hB))) (by rw [wr_o (by decide), wr_o (by decide)]; exact (lp_up hj c_30 hm).2) 
set_option maxRecDepth 100000 in
set_option maxHeartbeats 4000000 in
theorem k_X7_decide (l : Launch) (G : mm_G) {pr : Nat → Nat → Prop} {ad : Nat → Nat → Nat → Nat} (hw : mm_W pr) (g : mm_g) (hB : okB g)  : Mt l G yX7_decide cX7_decide 4 (some .int) (rmk 7 195) [.ref (ad 7 0 0)] pr ad g (qM pr ad (F_X7_decide g)) 0 0 := by
  refine Mt_of (by decide) (Nat.le_of_ble_eq_true rfl) ?_
  show V l G RX7 cX7_decide 4 (some .int) _ _ 0 0 0 0 0 [(0, .ref (ad 7 0 0))] [] pr ad g
  refine V_aload_n dX7_decide_0 0 rfl ?_
  refine V_get (i := 4) inlX7 rfl (W_7 hw) rfl (by decide) q_309 rfl dX7_decide_1 ?_
  refine V_if_ne (tgt := 10) dX7_decide_4 (by decide) (fun c_4 => ?_) (fun c_4 => ?_)
  · refine V_aload_n dX7_decide_10 0 rfl ?_
    refine V_iconst (v := 0) dX7_decide_11 (by decide) ?_
    refine V_cV (k_X7_leadOf l G hw g  0 hB (by unfold vp_in; decide)) hy_X7_leadOf hi_X7_leadOf hs_X7_leadOf q_675 rfl rfl (W_7 hw) rfl rfl rfl rfl rfl ⟨by decide, by decide⟩ (Nat.le_of_ble_eq_true rfl) ⟨by decide, by decide⟩ dX7_decide_12 (V_kI ?_)
    refine V_cS (k_X7_sign l G hw g  (F_X7_leadOf g 0) ) hy_X7_sign hz_X7_sign q_787 rfl rfl rfl rfl ⟨by decide, by decide⟩ (Nat.le_of_ble_eq_true rfl) ⟨by decide, by decide⟩ dX7_decide_15 (V_kI ?_)
    refine V_istore_n (L2 := [(1, .int (F_X7_sign (F_X7_leadOf g 0))), (0, .ref (ad 7 0 0))]) dX7_decide_18 (by decide) rfl ?_
    refine V_iconst (v := 0) dX7_decide_19 (by decide) ?_
    refine V_istore_n (L2 := [(2, .int 0), (1, .int (F_X7_sign (F_X7_leadOf g 0))), (0, .ref (ad 7 0 0))]) dX7_decide_20 (by decide) rfl ?_
    refine V_iconst (v := 0) dX7_decide_21 (by decide) ?_
    refine V_istore_n (L2 := [(3, .int 0), (2, .int 0), (1, .int (F_X7_sign (F_X7_leadOf g 0))), (0, .ref (ad 7 0 0))]) dX7_decide_22 (by decide) rfl ?_
    refine V_rp (R2 := F_X7_decide_23 (F_X7_sign (F_X7_leadOf g 0)) (fun (a23 : Int32) (j23 : Nat) (s23 : mm_g) => (a23, s23)) ((g 7 4 0).toInt.toNat + 1) 0 0 g) (by simp only [F_X7_decide, if_neg c_4]) ?_
    refine V_lp [3, 2, 1, 0] rfl ?_
    refine w_X7_decide_23 l G hw (F_X7_sign (F_X7_leadOf g 0))   _ (fun a23 j23 s23 hj23 hB23 => ?_) ((g 7 4 0).toInt.toNat + 1) 0 0 g (by exact Nat.zero_le _) (by exact hB) (by omega)
    refine V_iload_n dX7_decide_85 2 rfl ?_
    exact V_iret dX7_decide_86 rfl (lfM (by rfl))
  · refine V_ldc q_371 dX7_decide_7 ?_
    exact V_iret dX7_decide_9 rfl (lfM (by simp only [F_X7_decide, if_pos c_4]))
