/-! the relation of the two memories -/
theorem mw_id {g : mm_g} {t k : Nat} {f : Fl} (h : ∀ i, f i = g t k i) : mw g t k f = g := by
  rw [show f = g t k from funext h, mw_i]
theorem mw_wr {g : mm_g} {t k i : Nat} {x : Int32} {f f2 : Fl} (h : ∀ j, f j = f2 j) : mw (wr g t k i x) t k f = mw g t k f2 := by
  unfold wr
  rw [mw_w, show f = f2 from funext h]
theorem c36 {m j : Nat} (hm : m < 1000) (hj : j < 1000) : (36 * nI m + nI j).toNatClampNeg = 36 * m + j := by
  rw [show (36 : Int32) = nI 36 from rfl, pk_mul, nI_add, nI_clamp (by omega)]
theorem c40 {m j : Nat} (hm : m < 1000) (hj : j < 1000) : (40 * nI m + nI j).toNatClampNeg = 40 * m + j := by
  rw [show (40 : Int32) = nI 40 from rfl, pk_mul, nI_add, nI_clamp (by omega)]
theorem c40x {m j : Nat} (hm : m < 1000) (hj : j < 1000) : (nI m * 40 + nI j).toNatClampNeg = 40 * m + j := by
  rw [show (40 : Int32) = nI 40 from rfl, pk_mul, nI_add, nI_clamp (by omega), Nat.mul_comm]
theorem c40y {m a j : Nat} (hm : m < 1000) (ha : a < 1000) (hj : j < 1000) : (40 * nI m + nI a + nI j).toNatClampNeg = 40 * m + a + j := by
  rw [show (40 : Int32) = nI 40 from rfl, pk_mul, nI_add, nI_add, nI_clamp (by omega)]
theorem cj36 {j : Nat} (hj : j < 10000) : (nI j + 36).toNatClampNeg = j + 36 := by
  rw [show (36 : Int32) = nI 36 from rfl, nI_add, nI_clamp (by omega)]
theorem L_aside {K : Nat → mm_g → mm_g} : ∀ (n j : Nat) (s : mm_g), j ≤ 36 → 36 - j < n → F_X7_putAside_2  K n j s = K 36 (mw s 7 9 (fun i => if j ≤ i ∧ i < 36 then s 7 4 i else s 7 9 i)) := by
  intro n
  induction n with
  | zero => intro j s  h1 h2; omega
  | succ n ih =>
    intro j s  h1 h2
    unfold F_X7_putAside_2
    by_cases c : j = 36
    · rw [if_pos (show (36 : Int32) ≤ nI j from nI_le (a := 36) (b := j) (by omega) (by omega)), mw_id (fun i => by rw [if_neg (by omega)]), c]
    · rw [if_neg (show ¬ (36 : Int32) ≤ nI j from nI_ge (a := j) (b := 36) (by omega) (by omega)), c0 (b := j) (by omega), ih _ _  (by omega) (by omega)]
      refine congrArg (K 36) (mw_wr (fun i => ?_))
      try dsimp only
      by_cases e : i = j
      · subst e
        rw [if_neg (by omega), wr_at, if_pos ⟨rfl, rfl, rfl⟩, if_pos (by omega)]
      · by_cases e2 : (j + 1) ≤ i ∧ i < 36
        · rw [if_pos e2, if_pos (by omega), wr_k (by decide)]
        · rw [if_neg e2, wr_at, if_neg (fun q => e q.2.2), if_neg (by omega)]
theorem L_back {K : Nat → mm_g → mm_g} : ∀ (n j : Nat) (s : mm_g), j ≤ 36 → 36 - j < n → F_X7_takeBack_2  K n j s = K 36 (mw s 7 4 (fun i => if j ≤ i ∧ i < 36 then s 7 9 i else s 7 4 i)) := by
  intro n
  induction n with
  | zero => intro j s  h1 h2; omega
  | succ n ih =>
    intro j s  h1 h2
    unfold F_X7_takeBack_2
    by_cases c : j = 36
    · rw [if_pos (show (36 : Int32) ≤ nI j from nI_le (a := 36) (b := j) (by omega) (by omega)), mw_id (fun i => by rw [if_neg (by omega)]), c]
    · rw [if_neg (show ¬ (36 : Int32) ≤ nI j from nI_ge (a := j) (b := 36) (by omega) (by omega)), c0 (b := j) (by omega), ih _ _  (by omega) (by omega)]
      refine congrArg (K 36) (mw_wr (fun i => ?_))
      try dsimp only
      by_cases e : i = j
      · subst e
        rw [if_neg (by omega), wr_at, if_pos ⟨rfl, rfl, rfl⟩, if_pos (by omega)]
      · by_cases e2 : (j + 1) ≤ i ∧ i < 36
        · rw [if_pos e2, if_pos (by omega), wr_k (by decide)]
        · rw [if_neg e2, wr_at, if_neg (fun q => e q.2.2), if_neg (by omega)]
theorem L_note51 {K : Nat → mm_g → mm_g} {m : Nat} (hm : m < 100) : ∀ (n j : Nat) (s : mm_g) (h : s 7 0 9 = nI m), j ≤ 36 → 36 - j < n → F_X7_note_51  K n j s = K 36 (mw s 7 8 (fun i => if 36 * m + j ≤ i ∧ i < 36 * m + 36 then s 7 4 (i - (36 * m)) else s 7 8 i)) := by
  intro n
  induction n with
  | zero => intro j s h h1 h2; omega
  | succ n ih =>
    intro j s h h1 h2
    unfold F_X7_note_51
    by_cases c : j = 36
    · rw [if_pos (show (36 : Int32) ≤ nI j from nI_le (a := 36) (b := j) (by omega) (by omega)), mw_id (fun i => by rw [if_neg (by omega)]), c]
    · rw [if_neg (show ¬ (36 : Int32) ≤ nI j from nI_ge (a := j) (b := 36) (by omega) (by omega)), h, c36 (m := m) (j := j) (by omega) (by omega), c0 (b := j) (by omega), ih _ _ (by rw [wr_k (by decide)]; exact h) (by omega) (by omega)]
      refine congrArg (K 36) (mw_wr (fun i => ?_))
      try dsimp only
      by_cases e : i = 36 * m + j
      · subst e
        rw [if_neg (by omega), wr_at, if_pos ⟨rfl, rfl, rfl⟩, if_pos (by omega), Nat.add_sub_cancel_left]
      · by_cases e2 : 36 * m + (j + 1) ≤ i ∧ i < 36 * m + 36
        · rw [if_pos e2, if_pos (by omega), wr_k (by decide)]
        · rw [if_neg e2, wr_at, if_neg (fun q => e q.2.2), if_neg (by omega)]
theorem L_note11 {K : Nat → mm_g → mm_g} : ∀ (n j : Nat) (s : mm_g), j ≤ 828 → 828 - j < n → F_X7_note_11  K n j s = K 828 (mw s 7 8 (fun i => if j ≤ i ∧ i < 828 then s 7 8 (i + 36) else s 7 8 i)) := by
  intro n
  induction n with
  | zero => intro j s  h1 h2; omega
  | succ n ih =>
    intro j s  h1 h2
    unfold F_X7_note_11
    by_cases c : j = 828
    · rw [if_pos (show (828 : Int32) ≤ nI j from nI_le (a := 828) (b := j) (by omega) (by omega)), mw_id (fun i => by rw [if_neg (by omega)]), c]
    · rw [if_neg (show ¬ (828 : Int32) ≤ nI j from nI_ge (a := j) (b := 828) (by omega) (by omega)), cj36 (j := j) (by omega), c0 (b := j) (by omega), ih _ _  (by omega) (by omega)]
      refine congrArg (K 828) (mw_wr (fun i => ?_))
      try dsimp only
      by_cases e : i = j
      · subst e
        rw [if_neg (by omega), wr_at, if_pos ⟨rfl, rfl, rfl⟩, if_pos (by omega)]
      · by_cases e2 : (j + 1) ≤ i ∧ i < 828
        · rw [if_pos e2, if_pos (by omega), wr_at, if_neg (fun q => absurd q.2.2 (by omega))]
        · rw [if_neg e2, wr_at, if_neg (fun q => e q.2.2), if_neg (by omega)]
theorem L_undo {K : Nat → mm_g → Int32 × mm_g} {m : Nat} (hm : m < 100) : ∀ (n j : Nat) (s : mm_g) (h : s 7 0 9 = nI m), j ≤ 36 → 36 - j < n → F_X7_undo_22  K n j s = K 36 (mw s 7 4 (fun i => if j ≤ i ∧ i < 36 then s 7 8 (36 * m + i) else s 7 4 i)) := by
  intro n
  induction n with
  | zero => intro j s h h1 h2; omega
  | succ n ih =>
    intro j s h h1 h2
    unfold F_X7_undo_22
    by_cases c : j = 36
    · rw [if_pos (show (36 : Int32) ≤ nI j from nI_le (a := 36) (b := j) (by omega) (by omega)), mw_id (fun i => by rw [if_neg (by omega)]), c]
    · rw [if_neg (show ¬ (36 : Int32) ≤ nI j from nI_ge (a := j) (b := 36) (by omega) (by omega)), h, c36 (m := m) (j := j) (by omega) (by omega), c0 (b := j) (by omega), ih _ _ (by rw [wr_k (by decide)]; exact h) (by omega) (by omega)]
      refine congrArg (K 36) (mw_wr (fun i => ?_))
      try dsimp only
      by_cases e : i = j
      · subst e
        rw [if_neg (by omega), wr_at, if_pos ⟨rfl, rfl, rfl⟩, if_pos (by omega)]
      · by_cases e2 : (j + 1) ≤ i ∧ i < 36
        · rw [if_pos e2, if_pos (by omega), wr_k (by decide)]
        · rw [if_neg e2, wr_at, if_neg (fun q => e q.2.2), if_neg (by omega)]
theorem L_image {K : Nat → mm_g → Int32 × mm_g} {m : Nat} (hm : m < 100) : ∀ (n j : Nat) (s : mm_g), j ≤ 36 → 36 - j < n → F_X7_image_25 (nI m) K n j s = K 36 (mw s 7 11 (fun i => if 36 * m + j ≤ i ∧ i < 36 * m + 36 then s 7 4 (i - (36 * m)) else s 7 11 i)) := by
  intro n
  induction n with
  | zero => intro j s  h1 h2; omega
  | succ n ih =>
    intro j s  h1 h2
    unfold F_X7_image_25
    by_cases c : j = 36
    · rw [if_pos (show (36 : Int32) ≤ nI j from nI_le (a := 36) (b := j) (by omega) (by omega)), mw_id (fun i => by rw [if_neg (by omega)]), c]
    · rw [if_neg (show ¬ (36 : Int32) ≤ nI j from nI_ge (a := j) (b := 36) (by omega) (by omega)), c36 (m := m) (j := j) (by omega) (by omega), c0 (b := j) (by omega), ih _ _  (by omega) (by omega)]
      refine congrArg (K 36) (mw_wr (fun i => ?_))
      try dsimp only
      by_cases e : i = 36 * m + j
      · subst e
        rw [if_neg (by omega), wr_at, if_pos ⟨rfl, rfl, rfl⟩, if_pos (by omega), Nat.add_sub_cancel_left]
      · by_cases e2 : 36 * m + (j + 1) ≤ i ∧ i < 36 * m + 36
        · rw [if_pos e2, if_pos (by omega), wr_k (by decide)]
        · rw [if_neg e2, wr_at, if_neg (fun q => e q.2.2), if_neg (by omega)]
theorem L_restore {K : Nat → mm_g → Int32 × mm_g} {m : Nat} (hm : m < 100) : ∀ (n j : Nat) (s : mm_g), j ≤ 36 → 36 - j < n → F_X7_restore_27 (nI m) K n j s = K 36 (mw s 7 4 (fun i => if j ≤ i ∧ i < 36 then s 7 11 (36 * m + i) else s 7 4 i)) := by
  intro n
  induction n with
  | zero => intro j s  h1 h2; omega
  | succ n ih =>
    intro j s  h1 h2
    unfold F_X7_restore_27
    by_cases c : j = 36
    · rw [if_pos (show (36 : Int32) ≤ nI j from nI_le (a := 36) (b := j) (by omega) (by omega)), mw_id (fun i => by rw [if_neg (by omega)]), c]
    · rw [if_neg (show ¬ (36 : Int32) ≤ nI j from nI_ge (a := j) (b := 36) (by omega) (by omega)), c36 (m := m) (j := j) (by omega) (by omega), c0 (b := j) (by omega), ih _ _  (by omega) (by omega)]
      refine congrArg (K 36) (mw_wr (fun i => ?_))
      try dsimp only
      by_cases e : i = j
      · subst e
        rw [if_neg (by omega), wr_at, if_pos ⟨rfl, rfl, rfl⟩, if_pos (by omega)]
      · by_cases e2 : (j + 1) ≤ i ∧ i < 36
        · rw [if_pos e2, if_pos (by omega), wr_k (by decide)]
        · rw [if_neg e2, wr_at, if_neg (fun q => e q.2.2), if_neg (by omega)]
theorem L_read7 {K : Nat → mm_g → Int32 × mm_g} : ∀ (n j : Nat) (s : mm_g), j ≤ 36 → 36 - j < n → F_X7_readFlat_7  K n j s = K 36 (mw s 7 7 (fun i => if j ≤ i ∧ i < 36 then (0 : Int32) else s 7 7 i)) := by
  intro n
  induction n with
  | zero => intro j s  h1 h2; omega
  | succ n ih =>
    intro j s  h1 h2
    unfold F_X7_readFlat_7
    by_cases c : j = 36
    · rw [if_pos (show (36 : Int32) ≤ nI j from nI_le (a := 36) (b := j) (by omega) (by omega)), mw_id (fun i => by rw [if_neg (by omega)]), c]
    · rw [if_neg (show ¬ (36 : Int32) ≤ nI j from nI_ge (a := j) (b := 36) (by omega) (by omega)), c0 (b := j) (by omega), ih _ _  (by omega) (by omega)]
      refine congrArg (K 36) (mw_wr (fun i => ?_))
      try dsimp only
      by_cases e : i = j
      · subst e
        rw [if_neg (by omega), wr_at, if_pos ⟨rfl, rfl, rfl⟩, if_pos (by omega)]
      · by_cases e2 : (j + 1) ≤ i ∧ i < 36
        · rw [if_pos e2, if_pos (by omega)]
        · rw [if_neg e2, wr_at, if_neg (fun q => e q.2.2), if_neg (by omega)]
theorem L_flat {K : Nat → mm_g → Int32 × mm_g} {f1 : Int32} : ∀ (n j : Nat) (s : mm_g), j ≤ 36 → 36 - j < n → F_X7_flat_32 f1 K n j s = K 36 (mw s 7 4 (fun i => if j ≤ i ∧ i < 36 then s 7 7 i else s 7 4 i)) := by
  intro n
  induction n with
  | zero => intro j s  h1 h2; omega
  | succ n ih =>
    intro j s  h1 h2
    unfold F_X7_flat_32
    by_cases c : j = 36
    · rw [if_pos (show (36 : Int32) ≤ nI j from nI_le (a := 36) (b := j) (by omega) (by omega)), mw_id (fun i => by rw [if_neg (by omega)]), c]
    · rw [if_neg (show ¬ (36 : Int32) ≤ nI j from nI_ge (a := j) (b := 36) (by omega) (by omega)), c0 (b := j) (by omega), ih _ _  (by omega) (by omega)]
      refine congrArg (K 36) (mw_wr (fun i => ?_))
      try dsimp only
      by_cases e : i = j
      · subst e
        rw [if_neg (by omega), wr_at, if_pos ⟨rfl, rfl, rfl⟩, if_pos (by omega)]
      · by_cases e2 : (j + 1) ≤ i ∧ i < 36
        · rw [if_pos e2, if_pos (by omega), wr_k (by decide)]
        · rw [if_neg e2, wr_at, if_neg (fun q => e q.2.2), if_neg (by omega)]
theorem L_row {K : Nat → mm_g → Int32 × mm_g} {m : Nat} {x2 x3 : Int32} (hm : m < 100) : ∀ (n j : Nat) (s : mm_g), j ≤ 40 → 40 - j < n → F_X7_row_55 (nI m) x2 x3 K n j s = K 40 (mw s 7 3 (fun i => if 40 * m + j ≤ i ∧ i < 40 * m + 40 then (0 : Int32) else s 7 3 i)) := by
  intro n
  induction n with
  | zero => intro j s  h1 h2; omega
  | succ n ih =>
    intro j s  h1 h2
    unfold F_X7_row_55
    by_cases c : j = 40
    · rw [if_pos (show (40 : Int32) ≤ nI j from nI_le (a := 40) (b := j) (by omega) (by omega)), mw_id (fun i => by rw [if_neg (by omega)]), c]
    · rw [if_neg (show ¬ (40 : Int32) ≤ nI j from nI_ge (a := j) (b := 40) (by omega) (by omega)), c40 (m := m) (j := j) (by omega) (by omega), ih _ _  (by omega) (by omega)]
      refine congrArg (K 40) (mw_wr (fun i => ?_))
      try dsimp only
      by_cases e : i = 40 * m + j
      · subst e
        rw [if_neg (by omega), wr_at, if_pos ⟨rfl, rfl, rfl⟩, if_pos (by omega)]
      · by_cases e2 : 40 * m + (j + 1) ≤ i ∧ i < 40 * m + 40
        · rw [if_pos e2, if_pos (by omega)]
        · rw [if_neg e2, wr_at, if_neg (fun q => e q.2.2), if_neg (by omega)]
theorem L_make {K : Nat → mm_g → mm_g} {m N : Nat} {x2 : Int32} (hm : m < 100) (hN : N < 100) : ∀ (n j : Nat) (s : mm_g), j ≤ N → N - j < n → F_X4_make_38 (nI m) x2 (nI N) K n j s = K N (mw s 4 1 (fun i => if 40 * m + j ≤ i ∧ i < 40 * m + N then (0 : Int32) else s 4 1 i)) := by
  intro n
  induction n with
  | zero => intro j s  h1 h2; omega
  | succ n ih =>
    intro j s  h1 h2
    unfold F_X4_make_38
    by_cases c : j = N
    · rw [if_pos (show (nI N : Int32) ≤ nI j from nI_le (a := N) (b := j) (by omega) (by omega)), mw_id (fun i => by rw [if_neg (by omega)]), c]
    · rw [if_neg (show ¬ (nI N : Int32) ≤ nI j from nI_ge (a := j) (b := N) (by omega) (by omega)), c40x (m := m) (j := j) (by omega) (by omega), ih _ _  (by omega) (by omega)]
      refine congrArg (K N) (mw_wr (fun i => ?_))
      try dsimp only
      by_cases e : i = 40 * m + j
      · subst e
        rw [if_neg (by omega), wr_at, if_pos ⟨rfl, rfl, rfl⟩, if_pos (by omega)]
      · by_cases e2 : 40 * m + (j + 1) ≤ i ∧ i < 40 * m + N
        · rw [if_pos e2, if_pos (by omega)]
        · rw [if_neg e2, wr_at, if_neg (fun q => e q.2.2), if_neg (by omega)]
theorem L_copy1 {K : Nat → mm_g → Int32 × mm_g} {m a N : Nat} {x3 x4 : Int32} (hm : m < 100) (ha : a < 100) (hN : N < 100) : ∀ (n j : Nat) (s : mm_g), j ≤ N → N - j < n → F_X7_copy_117 (nI m) (nI a) x3 x4 (nI N) K n j s = K N (mw s 7 5 (fun i => if j ≤ i ∧ i < N then s 7 3 (40 * m + a + i) else s 7 5 i)) := by
  intro n
  induction n with
  | zero => intro j s  h1 h2; omega
  | succ n ih =>
    intro j s  h1 h2
    unfold F_X7_copy_117
    by_cases c : j = N
    · rw [if_pos (show (nI N : Int32) ≤ nI j from nI_le (a := N) (b := j) (by omega) (by omega)), mw_id (fun i => by rw [if_neg (by omega)]), c]
    · rw [if_neg (show ¬ (nI N : Int32) ≤ nI j from nI_ge (a := j) (b := N) (by omega) (by omega)), c40y (m := m) (a := a) (j := j) (by omega) (by omega) (by omega), c0 (b := j) (by omega), ih _ _  (by omega) (by omega)]
      refine congrArg (K N) (mw_wr (fun i => ?_))
      try dsimp only
      by_cases e : i = j
      · subst e
        rw [if_neg (by omega), wr_at, if_pos ⟨rfl, rfl, rfl⟩, if_pos (by omega)]
      · by_cases e2 : (j + 1) ≤ i ∧ i < N
        · rw [if_pos e2, if_pos (by omega), wr_k (by decide)]
        · rw [if_neg e2, wr_at, if_neg (fun q => e q.2.2), if_neg (by omega)]
theorem L_copy2 {K : Nat → mm_g → Int32 × mm_g} {m a N : Nat} {x1 x2 : Int32} (hm : m < 100) (ha : a < 100) (hN : N < 100) : ∀ (n j : Nat) (s : mm_g), j ≤ N → N - j < n → F_X7_copy_154 x1 x2 (nI m) (nI a) (nI N) K n j s = K N (mw s 7 3 (fun i => if 40 * m + a + j ≤ i ∧ i < 40 * m + a + N then s 7 5 (i - (40 * m + a)) else s 7 3 i)) := by
  intro n
  induction n with
  | zero => intro j s  h1 h2; omega
  | succ n ih =>
    intro j s  h1 h2
    unfold F_X7_copy_154
    by_cases c : j = N
    · rw [if_pos (show (nI N : Int32) ≤ nI j from nI_le (a := N) (b := j) (by omega) (by omega)), mw_id (fun i => by rw [if_neg (by omega)]), c]
    · rw [if_neg (show ¬ (nI N : Int32) ≤ nI j from nI_ge (a := j) (b := N) (by omega) (by omega)), c40y (m := m) (a := a) (j := j) (by omega) (by omega) (by omega), c0 (b := j) (by omega), ih _ _  (by omega) (by omega)]
      refine congrArg (K N) (mw_wr (fun i => ?_))
      try dsimp only
      by_cases e : i = 40 * m + a + j
      · subst e
        rw [if_neg (by omega), wr_at, if_pos ⟨rfl, rfl, rfl⟩, if_pos (by omega), Nat.add_sub_cancel_left]
      · by_cases e2 : 40 * m + a + (j + 1) ≤ i ∧ i < 40 * m + a + N
        · rw [if_pos e2, if_pos (by omega), wr_k (by decide)]
        · rw [if_neg e2, wr_at, if_neg (fun q => e q.2.2), if_neg (by omega)]
/-! a flat becomes another -/
def cpy (f f2 : Fl) : Fl := fun j => if j < 36 then f j else f2 j
theorem cpy_eq {f f2 : Fl} (h9 : nb f ≤ 9) : EqF f (cpy f f2) := by
  refine ⟨fun j hj => ?_, fun b hb => ?_⟩
  · unfold cpy; rw [if_pos (by omega)]
  · unfold cpy; rw [if_pos (by omega), if_pos (by omega), if_pos (by omega)]; exact ⟨rfl, rfl, rfl⟩
theorem cp_n {g : mm_g} {k k2 a n t c : Nat} (h : ¬ (t = 2 ∧ c = k)) : cpF g k k2 a n t c = g t c := by
  unfold cpF
  rw [mw_n _ _ h]
theorem cp_s {g : mm_g} {k k2 a n j : Nat} : cpF g k k2 a n 2 k j = if a ≤ j ∧ j < a + n then g 2 k2 j else g 2 k j := by
  unfold cpF
  rw [mw_s]
theorem wr_nk {g : mm_g} {t k i t' k' : Nat} {x : Int32} (h : ¬ (t' = t ∧ k' = k)) : wr g t k i x t' k' = g t' k' := by
  unfold wr
  rw [mw_n _ _ h]
theorem wr_ss {g : mm_g} {t k i j : Nat} {x : Int32} : wr g t k i x t k j = if j = i then x else g t k j := by
  rw [wr_at]
  by_cases h : j = i
  · rw [if_pos ⟨rfl, rfl, h⟩, if_pos h]
  · rw [if_neg (fun q => h q.2.2), if_neg h]
theorem become_F {g : mm_g} {k k2 : Nat} (h : k2 ≠ k) : F_X2_become g k k2 = mw g 2 k (cpy (g 2 k2) (g 2 k)) := by
  have h2 : ¬ (2 = 2 ∧ k2 = k) := fun q => h q.2
  funext t c j
  unfold F_X2_become
  by_cases e : t = 2 ∧ c = k
  · obtain ⟨rfl, rfl⟩ := e
    simp only [cp_s, cp_n h2, wr_nk h2, wr_ss, mw_s, cpy]
    repeat' split
    all_goals first | rfl | (subst_vars; rfl) | (exfalso; omega)
  · rw [cp_n e, cp_n e, cp_n e, cp_n e, wr_nk e, wr_nk e, wr_nk e, wr_nk e, wr_nk e, wr_nk e, mw_n _ _ e]
theorem putAside_F {g : mm_g} : F_X7_putAside g = mw g 7 9 (cpy (g 7 4) (g 7 9)) := by
  unfold F_X7_putAside
  rw [L_aside _ 0 g (by decide) (by decide)]
  refine congrArg (mw g 7 9) (funext fun i => ?_)
  unfold cpy
  by_cases h : i < 36
  · rw [if_pos ⟨Nat.zero_le _, h⟩, if_pos h]
  · rw [if_neg (fun q => h q.2), if_neg h]
theorem takeBack_F {g : mm_g} : F_X7_takeBack g = mw g 7 4 (cpy (g 7 9) (g 7 4)) := by
  unfold F_X7_takeBack
  rw [L_back _ 0 g (by decide) (by decide)]
  refine congrArg (mw g 7 4) (funext fun i => ?_)
  unfold cpy
  by_cases h : i < 36
  · rw [if_pos ⟨Nat.zero_le _, h⟩, if_pos h]
  · rw [if_neg (fun q => h q.2), if_neg h]
/-! what the relation sees -/
def Sc (g g2 : mm_g) : Prop := ∀ t k, ¬ (t = 2 ∧ k = 1) → t ≠ 3 → g2 t k = g t k
theorem Sc_r {g : mm_g} : Sc g g := fun _ _ _ _ => rfl
theorem Sc_t {g g2 g3 : mm_g} (h : Sc g g2) (h2 : Sc g2 g3) : Sc g g3 := fun t k q q2 => (h2 t k q q2).trans (h t k q q2)
theorem Sc_2 {g g2 : mm_g} {f : Fl} (h : Sc g g2) : Sc g (mw g2 2 1 f) := fun t k q q2 => by
  rw [mw_n _ _ q]
  exact h t k q q2
theorem Sc_3 {g g2 : mm_g} {k0 : Nat} {f : Fl} (h : Sc g g2) : Sc g (mw g2 3 k0 f) := fun t k q q2 => by
  rw [mw_n _ _ (fun z => q2 z.1)]
  exact h t k q q2
theorem Sc_w3 {g g2 : mm_g} {k0 i : Nat} {x : Int32} (h : Sc g g2) : Sc g (wr g2 3 k0 i x) := Sc_3 h
theorem Sc_w2 {g g2 : mm_g} {i : Nat} {x : Int32} (h : Sc g g2) : Sc g (wr g2 2 1 i x) := Sc_2 h
def sees7 (k j : Nat) : Prop := ¬ (k = 5 ∨ k = 7 ∨ k = 9) ∧ ¬ (k = 0 ∧ 4 ≤ j ∧ j ≤ 8) ∧ ¬ (k = 4 ∧ 36 ≤ j)
def Sr (g g2 : mm_g) : Prop := (∀ t k, t ≠ 7 → g2 t k = g t k) ∧ ∀ k j, sees7 k j → g2 7 k j = g 7 k j
theorem Sr_r {g : mm_g} : Sr g g := ⟨fun _ _ _ => rfl, fun _ _ _ => rfl⟩
/-- the reference at work on its flat, with the flat put aside -/
def Sw (g s : mm_g) : Prop := (∀ t k, t ≠ 7 → s t k = g t k) ∧ (∀ k j, sees7 k j → k ≠ 4 → s 7 k j = g 7 k j) ∧ ∀ j, j < 36 → s 7 9 j = g 7 4 j
theorem Sw_a {g : mm_g} : Sw g (F_X7_putAside g) := by
  rw [putAside_F]
  refine ⟨fun t k q => mw_n _ _ (fun z => q z.1), fun k j q _ => ?_, fun j hj => ?_⟩
  · rw [mw_n _ _ (fun z => q.1 (Or.inr (Or.inr z.2)))]
  · rw [mw_s, cpy, if_pos hj]
theorem Sw_f {g s : mm_g} {f : Fl} (h : Sw g s) : Sw g (mw s 7 4 f) :=
  ⟨fun t k q => by rw [mw_n _ _ (fun z => q z.1)]; exact h.1 t k q, fun k j q z => by rw [mw_n _ _ (fun y => z y.2)]; exact h.2.1 k j q z, fun j hj => by rw [mw_n _ _ (by decide)]; exact h.2.2 j hj⟩
theorem Sw_w {g s : mm_g} {i : Nat} {x : Int32} (h : Sw g s) : Sw g (wr s 7 4 i x) := Sw_f h
theorem Sw_b {g s : mm_g} (h : Sw g s) : Sr g (F_X7_takeBack s) := by
  rw [takeBack_F]
  refine ⟨fun t k q => by rw [mw_n _ _ (fun z => q z.1)]; exact h.1 t k q, fun k j q => ?_⟩
  by_cases e : k = 4
  · subst e
    have hj : j < 36 := by
      have := q.2.2
      omega
    rw [mw_s, cpy, if_pos hj]
    exact h.2.2 j hj
  · rw [mw_n _ _ (fun z => e z.2)]
    exact h.2.1 k j q e
theorem aside_4F {g : mm_g} : F_X7_putAside g 7 4 = g 7 4 := by
  rw [putAside_F, mw_n _ _ (by decide)]
/-! the relation -/
def FOK (n : Nat) (f f2 : Fl) : Prop := Vd f ∧ Ct n f ∧ EqF f f2 ∧ 1 ≤ nb f
def RRow (g : mm_g) : Prop := ∀ r, r < 8 → g 4 3 r = g 7 2 r ∧ (-1 ≤ (g 4 3 r).toInt ∧ (g 4 3 r).toInt ≤ 40) ∧ (¬ g 4 3 r = -1 → g 4 2 r = g 7 1 r ∧ ∀ i : Nat, (i : Int) < (g 4 3 r).toInt → g 4 1 (40 * r + i) = g 7 3 (40 * r + i))
def RTape (g : mm_g) : Prop := ∃ m : Nat, m ≤ 100 ∧ g 5 0 0 = nI m ∧ g 7 0 2 = nI m ∧ ∀ i, i < m → g 5 1 i = g 7 6 i
def RMsg (g : mm_g) : Prop := g 6 0 0 = g 7 0 3
def RNow (n : Nat) (g : mm_g) : Prop := Vd (g 2 0) ∧ Ct n (g 2 0) ∧ EqF (g 2 0) (g 7 4) ∧ g 7 0 1 = (if 1 ≤ nb (g 2 0) then 1 else 0)
def slot (a m i : Nat) : Nat := (a + 24 - m + i) % 24
def RActs (n : Nat) (g : mm_g) : Prop := ∃ a m : Nat, a < 24 ∧ m ≤ 24 ∧ g 0 0 0 = nI a ∧ g 0 0 1 = nI m ∧ g 7 0 9 = nI m ∧ (0 < m → 1 ≤ nb (g 2 0)) ∧ ∀ i, i < m → ¬ g 0 1 (slot a m i) = 0 ∧ FOK n (g 2 (2 + slot a m i)) (fun j => g 7 8 (36 * i + j))
def RImg (n : Nat) (g : mm_g) : Prop := ∀ k, k < 2 → (g 6 1 k = 0 ↔ g 7 10 k = 0) ∧ (¬ g 6 1 k = 0 → 1 ≤ nb (g 2 0) ∧ FOK n (g 2 (26 + k)) (fun j => g 7 11 (36 * k + j)))
def RTr (g : mm_g) : Prop := ∃ m : Nat, m ≤ 16 ∧ g 1 0 0 = nI m ∧ g 7 0 10 = nI m ∧ ∀ i, i < m → g 1 1 i = g 7 12 i
def Rl (n : Nat) (g : mm_g) : Prop := RRow g ∧ RTape g ∧ RMsg g ∧ RNow n g ∧ RActs n g ∧ RImg n g ∧ RTr g
def Rel (n : Nat) (g : mm_g) : Prop := Rl n g ∧ g 6 0 1 = g 7 0 0
theorem Ct.up {n m : Nat} {f : Fl} (h : n ≤ m) (c : Ct n f) : Ct m f := fun i hi => by
  have := c i hi
  omega
theorem FOK.up {n m : Nat} {f f2 : Fl} (h : n ≤ m) (c : FOK n f f2) : FOK m f f2 := ⟨c.1, c.2.1.up h, c.2.2⟩
/-- what is not seen of a flat beyond its places -/
theorem EqF_far {f f2 f3 : Fl} (h : EqF f f2) (h9 : nb f ≤ 9) (q : ∀ j, j < 36 → f3 j = f2 j) : EqF f f3 :=
  ⟨fun j hj => (h.lo j hj).trans (q j (by omega)).symm, fun b hb => by
    rw [q _ (by omega), q _ (by omega), q _ (by omega)]
    exact h.bed b hb⟩
theorem RRow.to {g g2 : mm_g} (h : RRow g) (a1 : ∀ j, g2 4 1 j = g 4 1 j) (a2 : ∀ j, g2 4 2 j = g 4 2 j) (a3 : ∀ j, g2 4 3 j = g 4 3 j) (b1 : ∀ j, g2 7 1 j = g 7 1 j) (b2 : ∀ j, g2 7 2 j = g 7 2 j) (b3 : ∀ j, g2 7 3 j = g 7 3 j) : RRow g2 := by
  intro r hr
  simp only [a1, a2, a3, b1, b2, b3]
  exact h r hr
theorem RTape.to {g g2 : mm_g} (h : RTape g) (a1 : g2 5 0 0 = g 5 0 0) (a2 : ∀ j, g2 5 1 j = g 5 1 j) (b1 : g2 7 0 2 = g 7 0 2) (b2 : ∀ j, g2 7 6 j = g 7 6 j) : RTape g2 := by
  obtain ⟨m, h⟩ := h
  refine ⟨m, ?_⟩
  simp only [a1, a2, b1, b2]
  exact h
theorem RMsg.to {g g2 : mm_g} (h : RMsg g) (a1 : g2 6 0 0 = g 6 0 0) (b1 : g2 7 0 3 = g 7 0 3) : RMsg g2 := by
  unfold RMsg
  rw [a1, b1]
  exact h
theorem RNow.to {n : Nat} {g g2 : mm_g} (h : RNow n g) (a1 : ∀ j, g2 2 0 j = g 2 0 j) (b1 : ∀ j, j < 36 → g2 7 4 j = g 7 4 j) (b2 : g2 7 0 1 = g 7 0 1) : RNow n g2 := by
  unfold RNow
  rw [show g2 2 0 = g 2 0 from funext a1, b2]
  exact ⟨h.1, h.2.1, EqF_far h.2.2.1 h.1.n9 b1, h.2.2.2⟩
theorem RActs.to {n : Nat} {g g2 : mm_g} (h : RActs n g) (a1 : g2 0 0 0 = g 0 0 0) (a2 : g2 0 0 1 = g 0 0 1) (a3 : ∀ j, g2 0 1 j = g 0 1 j) (a4 : g2 2 0 0 = g 2 0 0) (a5 : ∀ k j, k < 24 → g2 2 (2 + k) j = g 2 (2 + k) j) (b1 : g2 7 0 9 = g 7 0 9) (b2 : ∀ j, g2 7 8 j = g 7 8 j) : RActs n g2 := by
  obtain ⟨a, m, h1, h2, h3, h4, h5, h6, h7⟩ := h
  refine ⟨a, m, h1, h2, a1.trans h3, a2.trans h4, b1.trans h5, fun q => ?_, fun i hi => ?_⟩
  · unfold nb
    rw [a4]
    exact h6 q
  · obtain ⟨h8, h9⟩ := h7 i hi
    refine ⟨by rw [a3]; exact h8, ?_⟩
    rw [show g2 2 (2 + slot a m i) = g 2 (2 + slot a m i) from funext fun j => a5 _ j (Nat.mod_lt _ (by decide))]
    simp only [b2]
    exact h9
theorem RImg.to {n : Nat} {g g2 : mm_g} (h : RImg n g) (a1 : ∀ j, g2 6 1 j = g 6 1 j) (a4 : g2 2 0 0 = g 2 0 0) (a5 : ∀ k j, k < 2 → g2 2 (26 + k) j = g 2 (26 + k) j) (b1 : ∀ j, g2 7 10 j = g 7 10 j) (b2 : ∀ j, g2 7 11 j = g 7 11 j) : RImg n g2 := by
  intro k hk
  have e : nb (g2 2 0) = nb (g 2 0) := by unfold nb; rw [a4]
  rw [a1, b1, e, show g2 2 (26 + k) = g 2 (26 + k) from funext fun j => a5 _ j hk]
  simp only [b2]
  exact h k hk
theorem RTr.to {g g2 : mm_g} (h : RTr g) (a1 : g2 1 0 0 = g 1 0 0) (a2 : ∀ j, g2 1 1 j = g 1 1 j) (b1 : g2 7 0 10 = g 7 0 10) (b2 : ∀ j, g2 7 12 j = g 7 12 j) : RTr g2 := by
  obtain ⟨m, h⟩ := h
  refine ⟨m, ?_⟩
  simp only [a1, a2, b1, b2]
  exact h
theorem RNow.up {n m : Nat} {g : mm_g} (h : n ≤ m) (c : RNow n g) : RNow m g := ⟨c.1, c.2.1.up h, c.2.2⟩
theorem RActs.up {n m : Nat} {g : mm_g} (h : n ≤ m) (c : RActs n g) : RActs m g := by
  obtain ⟨a, k, h1, h2, h3, h4, h5, h6, h7⟩ := c
  exact ⟨a, k, h1, h2, h3, h4, h5, h6, fun i hi => ⟨(h7 i hi).1, (h7 i hi).2.up h⟩⟩
theorem RImg.up {n m : Nat} {g : mm_g} (h : n ≤ m) (c : RImg n g) : RImg m g := fun k hk => ⟨(c k hk).1, fun q => ⟨((c k hk).2 q).1, ((c k hk).2 q).2.up h⟩⟩
theorem Rl.up {n m : Nat} {g : mm_g} (h : n ≤ m) (c : Rl n g) : Rl m g := ⟨c.1, c.2.1, c.2.2.1, c.2.2.2.1.up h, c.2.2.2.2.1.up h, c.2.2.2.2.2.1.up h, c.2.2.2.2.2.2⟩
theorem Rel.up {n m : Nat} {g : mm_g} (h : n ≤ m) (c : Rel n g) : Rel m g := ⟨c.1.up h, c.2⟩
def uRow (t k _j : Nat) : Prop := t = 4 ∨ (t = 7 ∧ (k = 1 ∨ k = 2 ∨ k = 3))
def uTape (t k j : Nat) : Prop := t = 5 ∨ (t = 7 ∧ (k = 6 ∨ (k = 0 ∧ j = 2)))
def uMsg (t k j : Nat) : Prop := (t = 6 ∧ k = 0 ∧ j = 0) ∨ (t = 7 ∧ k = 0 ∧ j = 3)
def uNow (t k j : Nat) : Prop := (t = 2 ∧ k = 0) ∨ (t = 7 ∧ k = 4 ∧ j < 36) ∨ (t = 7 ∧ k = 0 ∧ j = 1)
def uActs (t k j : Nat) : Prop := t = 0 ∨ (t = 2 ∧ k = 0 ∧ j = 0) ∨ (t = 2 ∧ 2 ≤ k ∧ k < 26) ∨ (t = 7 ∧ (k = 8 ∨ (k = 0 ∧ j = 9)))
def uImg (t k j : Nat) : Prop := (t = 6 ∧ k = 1) ∨ (t = 2 ∧ k = 0 ∧ j = 0) ∨ (t = 2 ∧ 26 ≤ k ∧ k < 28) ∨ (t = 7 ∧ (k = 10 ∨ k = 11))
def uTr (t k j : Nat) : Prop := t = 1 ∨ (t = 7 ∧ (k = 12 ∨ (k = 0 ∧ j = 10)))
theorem RRow.q {g g2 : mm_g} (h : RRow g) (q : ∀ t k j, uRow t k j → g2 t k j = g t k j) : RRow g2 := by
  refine h.to ?_ ?_ ?_ ?_ ?_ ?_ <;> intros <;> exact q _ _ _ (by unfold uRow; omega)
theorem RTape.q {g g2 : mm_g} (h : RTape g) (q : ∀ t k j, uTape t k j → g2 t k j = g t k j) : RTape g2 := by
  refine h.to ?_ ?_ ?_ ?_ <;> intros <;> exact q _ _ _ (by unfold uTape; omega)
theorem RMsg.q {g g2 : mm_g} (h : RMsg g) (q : ∀ t k j, uMsg t k j → g2 t k j = g t k j) : RMsg g2 := by
  refine h.to ?_ ?_ <;> exact q _ _ _ (by unfold uMsg; omega)
theorem RNow.q {n : Nat} {g g2 : mm_g} (h : RNow n g) (q : ∀ t k j, uNow t k j → g2 t k j = g t k j) : RNow n g2 := by
  refine h.to ?_ ?_ ?_ <;> intros <;> exact q _ _ _ (by unfold uNow; omega)
theorem RActs.q {n : Nat} {g g2 : mm_g} (h : RActs n g) (q : ∀ t k j, uActs t k j → g2 t k j = g t k j) : RActs n g2 := by
  refine h.to ?_ ?_ ?_ ?_ ?_ ?_ ?_ <;> intros <;> exact q _ _ _ (by unfold uActs; omega)
theorem RImg.q {n : Nat} {g g2 : mm_g} (h : RImg n g) (q : ∀ t k j, uImg t k j → g2 t k j = g t k j) : RImg n g2 := by
  refine h.to ?_ ?_ ?_ ?_ ?_ <;> intros <;> exact q _ _ _ (by unfold uImg; omega)
theorem RTr.q {g g2 : mm_g} (h : RTr g) (q : ∀ t k j, uTr t k j → g2 t k j = g t k j) : RTr g2 := by
  refine h.to ?_ ?_ ?_ ?_ <;> intros <;> exact q _ _ _ (by unfold uTr; omega)
theorem Rl.sc {n : Nat} {g g2 : mm_g} (h : Rl n g) (q : Sc g g2) : Rl n g2 := by
  obtain ⟨h1, h2, h3, h4, h5, h6, h7⟩ := h
  refine ⟨h1.q ?_, h2.q ?_, h3.q ?_, h4.q ?_, h5.q ?_, h6.q ?_, h7.q ?_⟩ <;> intro t k j u
  · exact congrFun (q t k (by unfold uRow at u; omega) (by unfold uRow at u; omega)) j
  · exact congrFun (q t k (by unfold uTape at u; omega) (by unfold uTape at u; omega)) j
  · exact congrFun (q t k (by unfold uMsg at u; omega) (by unfold uMsg at u; omega)) j
  · exact congrFun (q t k (by unfold uNow at u; omega) (by unfold uNow at u; omega)) j
  · exact congrFun (q t k (by unfold uActs at u; omega) (by unfold uActs at u; omega)) j
  · exact congrFun (q t k (by unfold uImg at u; omega) (by unfold uImg at u; omega)) j
  · exact congrFun (q t k (by unfold uTr at u; omega) (by unfold uTr at u; omega)) j
theorem Sr_p {g g2 : mm_g} (q : Sr g g2) {t k j : Nat} (h : t = 7 → sees7 k j) : g2 t k j = g t k j := by
  by_cases e : t = 7
  · subst e
    exact q.2 k j (h rfl)
  · exact congrFun (q.1 t k e) j
theorem Rl.sr {n : Nat} {g g2 : mm_g} (h : Rl n g) (q : Sr g g2) : Rl n g2 := by
  obtain ⟨h1, h2, h3, h4, h5, h6, h7⟩ := h
  refine ⟨h1.q ?_, h2.q ?_, h3.q ?_, h4.q ?_, h5.q ?_, h6.q ?_, h7.q ?_⟩ <;> intro t k j u <;> refine Sr_p q (fun e => ?_)
  · unfold uRow at u; unfold sees7; omega
  · unfold uTape at u; unfold sees7; omega
  · unfold uMsg at u; unfold sees7; omega
  · unfold uNow at u; unfold sees7; omega
  · unfold uActs at u; unfold sees7; omega
  · unfold uImg at u; unfold sees7; omega
  · unfold uTr at u; unfold sees7; omega
theorem Rl.w {n : Nat} {g : mm_g} {t0 i0 : Nat} {x : Int32} (h : Rl n g) (h0 : (t0 = 6 ∧ i0 = 1) ∨ (t0 = 7 ∧ i0 = 0)) : Rl n (wr g t0 0 i0 x) := by
  obtain ⟨h1, h2, h3, h4, h5, h6, h7⟩ := h
  refine ⟨h1.q ?_, h2.q ?_, h3.q ?_, h4.q ?_, h5.q ?_, h6.q ?_, h7.q ?_⟩ <;> intro t k j u <;> rw [wr_at, if_neg]
  · unfold uRow at u; omega
  · unfold uTape at u; omega
  · unfold uMsg at u; omega
  · unfold uNow at u; omega
  · unfold uActs at u; omega
  · unfold uImg at u; omega
  · unfold uTr at u; omega
theorem Rel.sc {n : Nat} {g g2 : mm_g} (h : Rel n g) (q : Sc g g2) : Rel n g2 := ⟨h.1.sc q, by rw [q 6 0 (by decide) (by decide), q 7 0 (by decide) (by decide)]; exact h.2⟩
theorem Rel.sr {n : Nat} {g g2 : mm_g} (h : Rel n g) (q : Sr g g2) : Rel n g2 := ⟨h.1.sr q, by rw [q.1 6 0 (by decide), q.2 0 0 (by unfold sees7; omega)]; exact h.2⟩
/-- a call of the class, then the reference's: what is proved of the two -/
def Fr (g : mm_g) (R : mm_g) : Prop := (∀ k, R 7 k = g 7 k) ∧ R 0 1 = g 0 1 ∧ R 6 1 = g 6 1
def Ok (n : Nat) (g : mm_g) (R : Int32 × mm_g) (Q : mm_g → Int32 × mm_g) : Prop := (∀ k, R.2 7 k = g 7 k) ∧ (Q R.2).1 = R.1 ∧ Rel (n + 1) (Q R.2).2 ∧ ∀ t k, t ≠ 7 → (Q R.2).2 t k = R.2 t k
theorem Ok_s {n : Nat} {g : mm_g} {R : Int32 × mm_g} {Q : mm_g → Int32 × mm_g} (hr : Rel n g) (h1 : Sc g R.2) (h2 : Sr R.2 (Q R.2).2) (ha : (Q R.2).1 = R.1) : Ok n g R Q ∧ Fr g R.2 :=
  ⟨⟨fun k => h1 7 k (by omega) (by decide), ha, ((hr.sc h1).sr h2).up (Nat.le_succ n), h2.1⟩, fun k => h1 7 k (by omega) (by decide), h1 0 1 (by decide) (by decide), h1 6 1 (by decide) (by decide)⟩
theorem Ok_i {n : Nat} {g : mm_g} {A B : mm_g → Int32} (hr : Rel n g) (h : B g = A g) : Ok n g (A g, g) (fun s => (B s, s)) ∧ Fr g (A g, g).2 := Ok_s hr Sc_r Sr_r h
theorem Ok_b {n : Nat} {g : mm_g} {R : Int32 × mm_g} {Q : mm_g → Int32 × mm_g} {a : Int32} (hr : Rel n g) (hR : R = (a, g)) (hQ : Q g = (a, g)) : Ok n g R Q ∧ Fr g R.2 := by
  subst hR
  refine Ok_s hr Sc_r ?_ ?_
  · show Sr g (Q g).2
    rw [hQ]
    exact Sr_r
  · show (Q g).1 = a
    rw [hQ]
theorem Ok_v {n : Nat} {g g1 s : mm_g} {u a : Int32} {R : Int32 × mm_g} {Q : mm_g → Int32 × mm_g} (hR : R = (a, wr g1 6 0 1 u)) (hQ : Q (wr g1 6 0 1 u) = (a, wr s 7 0 0 u)) (hF : Fr g g1) (h2 : ∀ t k, t ≠ 7 → s t k = wr g1 6 0 1 u t k) (hl : Rl n s) : Ok n g R Q ∧ Fr g R.2 := by
  subst hR
  refine ⟨⟨fun k => ?_, ?_, ?_, ?_⟩, fun k => ?_, ?_, ?_⟩
  · show wr g1 6 0 1 u 7 k = _
    rw [wr_nk (by omega)]
    exact hF.1 k
  · show (Q (wr g1 6 0 1 u)).1 = a
    rw [hQ]
  · show Rel (n + 1) (Q (wr g1 6 0 1 u)).2
    rw [hQ]
    refine ⟨(hl.w (Or.inr ⟨rfl, rfl⟩)).up (Nat.le_succ n), ?_⟩
    show wr s 7 0 0 u 6 0 1 = wr s 7 0 0 u 7 0 0
    rw [wr_ss, if_pos rfl, wr_nk (by decide), h2 6 0 (by decide), wr_ss, if_pos rfl]
  · show ∀ t k, t ≠ 7 → (Q (wr g1 6 0 1 u)).2 t k = wr g1 6 0 1 u t k
    rw [hQ]
    intro t k h
    show wr s 7 0 0 u t k = _
    rw [wr_nk (fun z => h z.1)]
    exact h2 t k h
  · show wr g1 6 0 1 u 7 k = _
    rw [wr_nk (by omega)]
    exact hF.1 k
  · show wr g1 6 0 1 u 0 1 = _
    rw [wr_nk (by decide)]
    exact hF.2.1
  · show wr g1 6 0 1 u 6 1 = _
    rw [wr_nk (by decide)]
    exact hF.2.2
theorem Fr_s {g g1 : mm_g} (h1 : Sc g g1) : Fr g g1 := ⟨fun k => h1 7 k (by omega) (by decide), h1 0 1 (by decide) (by decide), h1 6 1 (by decide) (by decide)⟩
theorem Ok_w {n : Nat} {g g1 s : mm_g} {u a : Int32} {R : Int32 × mm_g} {Q : mm_g → Int32 × mm_g} (hr : Rel n g) (hR : R = (a, wr g1 6 0 1 u)) (h1 : Sc g g1) (hQ : Q (wr g1 6 0 1 u) = (a, wr s 7 0 0 u)) (h2 : Sr (wr g1 6 0 1 u) s) : Ok n g R Q ∧ Fr g R.2 :=
  Ok_v hR hQ (Fr_s h1) h2.1 (((hr.1.sc h1).w (Or.inl ⟨rfl, rfl⟩)).sr h2)
theorem Ok_e {n : Nat} {g : mm_g} {u : Int32} {R : Int32 × mm_g} {Q : mm_g → Int32 × mm_g} (hr : Rel n g) (hR : R = F_X6_found g u) (hQ : Q (wr g 6 0 1 u) = F_X7_find (wr g 6 0 1 u) u) : Ok n g R Q ∧ Fr g R.2 :=
  Ok_w hr hR Sc_r hQ Sr_r
theorem wr67 {g : mm_g} {k i k2 : Nat} {x : Int32} : wr g 6 k i x 7 k2 = g 7 k2 := wr_nk (fun z => absurd z.1 (by decide))
/-- what the two say of one bed, of one who is there -/
theorem has_2 {n : Nat} {g : mm_g} {x : Int32} (hr : Rel n g) : F_X2_has g 0 x = hasF (g 2 0) x ∧ F_X7_isBed g x = hasF (g 2 0) x := by
  have h := hr.1.2.2.2.1
  exact ⟨has_F h.1, (isBed_F (h.2.2.1.vd h.1)).trans (hasF_eq h.2.2.1)⟩
theorem none_2 {n : Nat} {g : mm_g} (hr : Rel n g) : F_X2_isNone g 0 = 0 ↔ ¬ g 7 0 1 = 0 := by
  have h := hr.1.2.2.2.1
  have h9 := h.1.n9
  unfold F_X2_isNone
  rw [h.2.2.2, h.1.f0]
  by_cases c : 1 ≤ nb (g 2 0)
  · rw [if_pos c, if_pos (show (1 : Int32) ≤ nI (nb (g 2 0)) from nI_le (a := 1) c (by omega))]
    decide
  · rw [if_neg c, if_neg (show ¬ (1 : Int32) ≤ nI (nb (g 2 0)) from nI_ge (b := 1) (by omega) (by decide))]
    decide
theorem in_w {x a b : Int32} {A B : Int64} (hA : A = a.toInt64) (hB : B = b.toInt64) : F_X7_in x.toInt64 A B = F_X6_within x a b := by
  rw [hA, hB]
  exact in_within
