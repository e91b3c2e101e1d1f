/-! the tape read by both -/
/-- letters: those of the tape; behind it none -/
def Ch (c : Fl) (m : Nat) : Prop := m ≤ 100 ∧ ∀ p, m ≤ p → c p = -1
def dlF (c : Fl) : Nat → Nat → Nat
  | 0, _ => 0
  | n + 1, p => if F_X6_within (c p) 48 57 = 0 then 0 else 1 + dlF c n (p + 1)
theorem dl_le {c : Fl} {m : Nat} (h : Ch c m) : ∀ (n p : Nat), p ≤ m → dlF c n p ≤ m - p
  | 0, p, _ => Nat.zero_le _
  | n + 1, p, hp => by
    rw [dlF]
    by_cases e : p = m
    · subst e
      rw [h.2 p (Nat.le_refl p), if_pos (by decide)]
      exact Nat.zero_le _
    · split
      · exact Nat.zero_le _
      · have := dl_le h n (p + 1) (by omega)
        omega
theorem dl_n {c : Fl} {m : Nat} (h : Ch c m) : ∀ (n n2 p : Nat), p ≤ m → m - p < n → m - p < n2 → dlF c n p = dlF c n2 p
  | 0, _, _, _, q, _ => absurd q (Nat.not_lt_zero _)
  | _ + 1, 0, _, _, _, q => absurd q (Nat.not_lt_zero _)
  | n + 1, n2 + 1, p, hp, h1, h2 => by
    rw [dlF, dlF]
    by_cases e : p = m
    · subst e
      rw [h.2 p (Nat.le_refl p), if_pos (by decide), if_pos (by decide)]
    · rw [dl_n h n n2 (p + 1) (by omega) (by omega) (by omega)]
def dl (c : Fl) (p : Nat) : Nat := dlF c 101 p
theorem dl_m {c : Fl} {m p : Nat} (h : Ch c m) (hp : p ≤ m) : dl c p ≤ m - p := dl_le h 101 p hp
theorem dl_s {c : Fl} {m p : Nat} (h : Ch c m) (hp : p ≤ m) : dl c p = if F_X6_within (c p) 48 57 = 0 then 0 else 1 + dl c (p + 1) := by
  have hm := h.1
  show dlF c (100 + 1) p = _
  rw [dlF]
  by_cases e : p = m
  · subst e
    rw [h.2 p (Nat.le_refl p), if_pos (by decide), if_pos (by decide)]
  · rw [dl_n h 100 101 (p + 1) (by omega) (by omega) (by omega)]
    rfl
def nv (c : Fl) (p d : Nat) : Int32 := if d = 1 then c p - 48 else 10 * (c p - 48) + c (p + 1) - 48
/-! the class at its tape -/
def Cs (g : mm_g) (p : Nat) (w : Int32) (f : Fl) : mm_g := mw (mw g 5 0 (upd (upd (g 5 0) 1 (nI p)) 2 w)) 2 1 f
section
variable {g : mm_g} {p : Nat} {w : Int32} {f : Fl}
theorem Cs_5 : Cs g p w f 5 0 = upd (upd (g 5 0) 1 (nI p)) 2 w := by
  unfold Cs
  rw [mw_n _ _ (by decide), mw_s]
theorem Cs_0 : Cs g p w f 5 0 0 = g 5 0 0 := by rw [Cs_5]; rfl
theorem Cs_p : Cs g p w f 5 0 1 = nI p := by rw [Cs_5]; rfl
theorem Cs_w : Cs g p w f 5 0 2 = w := by rw [Cs_5]; rfl
theorem Cs_L : Cs g p w f 5 1 = g 5 1 := by
  unfold Cs
  rw [mw_n _ _ (by decide), mw_n _ _ (by decide)]
theorem Cs_f : Cs g p w f 2 1 = f := mw_s _ _ _ _
theorem Cs_wp {x : Int32} {q : Nat} (hx : x = nI q) : wr (Cs g p w f) 5 0 1 x = Cs g q w f := by
  subst hx
  unfold wr
  rw [Cs_5]
  unfold Cs
  rw [mw_c _ _ _ (show ¬ (5 = 2 ∧ 0 = 1) by decide), mw_w, upd_c (show 2 ≠ 1 by decide), upd_upd]
theorem Cs_ww {x : Int32} : wr (Cs g p w f) 5 0 2 x = Cs g p x f := by
  unfold wr
  rw [Cs_5]
  unfold Cs
  rw [mw_c _ _ _ (show ¬ (5 = 2 ∧ 0 = 1) by decide), mw_w, upd_upd]
theorem Cs_m {f2 : Fl} : mw (Cs g p w f) 2 1 f2 = Cs g p w f2 := by
  unfold Cs
  rw [mw_w]
theorem Cs_wf {j : Nat} {x : Int32} : wr (Cs g p w f) 2 1 j x = Cs g p w (upd f j x) := by
  unfold wr
  rw [Cs_f, Cs_m]
theorem Cs_i : wr (wr g 5 0 1 0) 5 0 2 0 = Cs g 0 0 (g 2 1) := by
  unfold Cs wr
  rw [mw_s, mw_w, show (g 2 1) = (mw g 5 0 (upd (upd (g 5 0) 1 (nI 0)) 2 0)) 2 1 from (mw_n _ _ (by decide)).symm, mw_i]
  rfl
end
def Tp (g : mm_g) (c : Fl) (m : Nat) : Prop := Ch c m ∧ g 5 0 0 = nI m ∧ ∀ i, i < m → g 5 1 i = c i
theorem letter_C {g : mm_g} {c : Fl} {m p q : Nat} {w : Int32} {f : Fl} (T : Tp g c m) (hp : p < 1000) : F_X5_letterAt (Cs g q w f) (nI p) = c p := by
  have hm := T.1.1
  unfold F_X5_letterAt
  rw [if_neg (nI_pos (by omega)), Cs_0, T.2.1, Cs_L]
  by_cases e : m ≤ p
  · rw [if_pos (nI_le e (by omega))]
    exact (T.1.2 p e).symm
  · rw [if_neg (nI_ge (by omega) (by omega)), if_neg (show ¬ (100 : Int32) ≤ nI p from nI_ge (a := p) (b := 100) (by omega) (by decide)), nI_clamp (by omega)]
    exact T.2.2 p (by omega)
theorem fig_2 {g : mm_g} {c : Fl} {m p : Nat} {w : Int32} {f : Fl} {K : Nat → Int32} (T : Tp g c m) : ∀ (n j : Nat), p + j ≤ m → m - (p + j) < n → F_X5_figuresAhead_2 (Cs g p w f) K n j = K (j + dl c (p + j)) := by
  have hm := T.1.1
  intro n
  induction n with
  | zero => intro j _ h; exact absurd h (Nat.not_lt_zero _)
  | succ n ih =>
    intro j h1 h2
    have hz : p + j = m → F_X6_within (c (p + j)) 48 57 = 0 := fun e => by
      rw [T.1.2 _ (by omega)]
      decide
    unfold F_X5_figuresAhead_2
    rw [Cs_p, nI_add, letter_C T (by omega), dl_s T.1 h1]
    by_cases e : j = 100
    · rw [if_pos (show (100 : Int32) ≤ nI j from nI_le (a := 100) (by omega) (by omega)), if_pos (hz (by omega))]
      rfl
    · rw [if_neg (show ¬ (100 : Int32) ≤ nI j from nI_ge (b := 100) (by omega) (by decide))]
      by_cases z : F_X6_within (c (p + j)) 48 57 = 0
      · rw [if_pos z, if_pos z]
        rfl
      · have hl : p + j ≠ m := fun e => z (hz e)
        rw [if_neg z, if_neg z, ih (j + 1) (by omega) (by omega), show p + (j + 1) = p + j + 1 by omega, Nat.add_assoc]
theorem fig_C {g : mm_g} {c : Fl} {m p : Nat} {w : Int32} {f : Fl} (T : Tp g c m) (hp : p ≤ m) : F_X5_figuresAhead (Cs g p w f) = nI (dl c p) := by
  have hm := T.1.1
  show F_X5_figuresAhead_2 (Cs g p w f) (fun j2 => nI j2) 101 0 = _
  rw [fig_2 T 101 0 (by omega) (by omega), Nat.zero_add, Nat.add_zero]
theorem C_num {g : mm_g} {c : Fl} {m p : Nat} {w lo hi : Int32} {f : Fl} (T : Tp g c m) (hp : p ≤ m) : F_X5_number (Cs g p w f) lo hi = if dl c p = 0 ∨ 2 < dl c p then (-1, Cs g p 1 f) else if F_X6_within (nv c p (dl c p)) lo hi = 0 then (-1, Cs g p 2 f) else (nv c p (dl c p), Cs g (p + dl c p) w f) := by
  have hd := dl_m T.1 hp
  have hm := T.1.1
  unfold F_X5_number F_X5_fails
  rw [fig_C T hp]
  generalize dl c p = d at hd
  by_cases e0 : d = 0
  · rw [if_pos (show nI d < 1 from nI_lt (b := 1) (by omega) (by decide)), if_pos (Or.inl e0)]
    dsimp only
    rw [Cs_ww]
  · rw [if_neg (show ¬ nI d < 1 from nI_nlt (b := 1) (by omega) (by omega))]
    by_cases e2 : 2 < d
    · rw [if_neg (show ¬ nI d ≤ 2 from nI_ge (a := 2) e2 (by omega)), if_pos (Or.inr e2)]
      dsimp only
      rw [Cs_ww]
    · rw [if_pos (show nI d ≤ 2 from nI_le (b := 2) (by omega) (by decide)), if_neg (show ¬ (d = 0 ∨ 2 < d) by omega), nI_n (by omega)]
      rcases (show d = 1 ∨ d = 2 by omega) with h | h
      · subst h
        rw [F_X5_number_29, if_neg (by decide), F_X5_number_29, if_pos (by decide)]
        dsimp only
        rw [Cs_p, nI_add, letter_C T (by omega), nI_add, Cs_wp rfl, Cs_ww, show 10 * 0 + c (p + 0) - 48 = nv c p 1 from (by show _ = c p - 48; rw [Int32.mul_zero, Int32.zero_add]; rfl)]
      · subst h
        rw [F_X5_number_29, if_neg (by decide), F_X5_number_29, if_neg (by decide), F_X5_number_29, if_pos (by decide)]
        dsimp only
        rw [Cs_p, nI_add, nI_add, letter_C T (by omega), letter_C T (by omega), nI_add, Cs_wp rfl, Cs_ww, show 10 * (10 * 0 + c (p + 0) - 48) + c (p + (0 + 1)) - 48 = nv c p 2 from (by show _ = 10 * (c p - 48) + c (p + 1) - 48; rw [Int32.mul_zero, Int32.zero_add]; rfl)]
theorem C_tak {g : mm_g} {c : Fl} {m p : Nat} {w x : Int32} {f : Fl} (T : Tp g c m) (hp : p ≤ m) : F_X5_takes (Cs g p w f) x = if c p = x then (1, Cs g (p + 1) w f) else (0, Cs g p 1 f) := by
  have hm := T.1.1
  unfold F_X5_takes F_X5_fails
  rw [Cs_p, letter_C T (by omega), Cs_ww, nI_1, Cs_wp rfl]
/-! the reference at its tape -/
def Ds (g : mm_g) (h f : Fl) : mm_g := mw (mw g 7 0 h) 7 7 f
def hd (h : Fl) (q b ty va w : Int32) : Fl := fun j => if j = 4 then q else if j = 5 then ty else if j = 6 then va else if j = 7 then b else if j = 8 then w else h j
section
variable {g : mm_g} {h f f2 : Fl} {q b ty va w x : Int32} {j : Nat}
theorem Ds_0 : Ds g h f 7 0 = h := by
  unfold Ds
  rw [mw_n _ _ (by decide), mw_s]
theorem Ds_7 : Ds g h f 7 7 = f := mw_s _ _ _ _
theorem Ds_6 : Ds g h f 7 6 = g 7 6 := by
  unfold Ds
  rw [mw_n _ _ (by decide), mw_n _ _ (by decide)]
theorem Ds_w : wr (Ds g h f) 7 0 j x = Ds g (upd h j x) f := by
  unfold wr
  rw [Ds_0]
  unfold Ds
  rw [mw_c _ _ _ (show ¬ (7 = 7 ∧ 0 = 7) by decide), mw_w]
theorem Ds_m : mw (Ds g h f) 7 7 f2 = Ds g h f2 := by
  unfold Ds
  rw [mw_w]
theorem Ds_v : wr (Ds g h f) 7 7 j x = Ds g h (upd f j x) := by
  unfold wr
  rw [Ds_7, Ds_m]
theorem hd_2 : hd h q b ty va w 2 = h 2 := rfl
theorem hd_4 : hd h q b ty va w 4 = q := rfl
theorem hd_5 : hd h q b ty va w 5 = ty := rfl
theorem hd_6 : hd h q b ty va w 6 = va := rfl
theorem hd_7 : hd h q b ty va w 7 = b := rfl
theorem hd_8 : hd h q b ty va w 8 = w := rfl
theorem hu_4 : upd (hd h q b ty va w) 4 x = hd h x b ty va w := by funext i; unfold upd hd; grind
theorem hu_5 : upd (hd h q b ty va w) 5 x = hd h q b x va w := by funext i; unfold upd hd; grind
theorem hu_6 : upd (hd h q b ty va w) 6 x = hd h q b ty x w := by funext i; unfold upd hd; grind
theorem hu_7 : upd (hd h q b ty va w) 7 x = hd h q x ty va w := by funext i; unfold upd hd; grind
theorem hu_8 : upd (hd h q b ty va w) 8 x = hd h q b ty va x := by funext i; unfold upd hd; grind
theorem hd_i : upd h 4 x = hd h x (h 7) (h 5) (h 6) (h 8) := by funext i; unfold upd hd; grind
end
def vlF (c : Fl) : Nat → Nat → Int32 → Int32
  | 0, _, a => a
  | n + 1, p, a => if F_X6_within (c p) 48 57 = 0 then a else vlF c n (p + 1) (if a ≤ 99 then 10 * a + c p - 48 else a)
def Tr (g : mm_g) (c : Fl) (m : Nat) : Prop := Ch c m ∧ g 7 0 2 = nI m ∧ ∀ i, i < m → g 7 6 i = c i
theorem tkn_33 {g : mm_g} {c : Fl} {m : Nat} {b ty w : Int32} {f : Fl} {K : mm_g → mm_g} (T : Tr g c m) : ∀ (n q : Nat) (va : Int32), q ≤ m → m - q < n → F_X7_nextToken_33 K n (Ds g (hd (g 7 0) (nI q) b ty va w) f) = K (Ds g (hd (g 7 0) (nI (q + dl c q)) b ty (vlF c n q va) w) f) := by
  have hm := T.1.1
  intro n
  induction n with
  | zero => intro q va _ h; exact absurd h (Nat.not_lt_zero _)
  | succ n ih =>
    intro q va h1 h2
    unfold F_X7_nextToken_33
    simp only [Ds_w, Ds_0, Ds_6, hd_2, hd_4, hd_6, hu_4, hu_6, T.2.1]
    rw [dl_s T.1 h1, vlF]
    by_cases e : q = m
    · subst e
      rw [if_pos (nI_le (Nat.le_refl q) (by omega)), T.1.2 q (Nat.le_refl q), if_pos (show F_X6_within (-1) 48 57 = 0 by decide), if_pos (show F_X6_within (-1) 48 57 = 0 by decide), Nat.add_zero]
    · rw [if_neg (nI_ge (show q < m by omega) (by omega)), nI_clamp (by omega), T.2.2 q (by omega), in_w (a := 48) (b := 57) (A := 48) (B := 57) rfl rfl]
      by_cases z : F_X6_within (c q) 48 57 = 0
      · rw [if_pos z, if_pos z, if_pos z, Nat.add_zero]
      · rw [if_neg z, if_neg z, if_neg z, nI_1, ih _ _ (by omega) (by omega), ih _ _ (by omega) (by omega), Nat.add_assoc]
        by_cases y : va ≤ 99
        · rw [if_pos y, if_pos y]
        · rw [if_neg y, if_neg y]
def tkT (c : Fl) (m p : Nat) : Int32 := if p = m then 3 else if dl c p = 0 then (if F_X6_within (c p) 97 122 = 0 then (if c p = 44 then 1 else if c p = 59 then 1 else 0) else 1) else if dl c p ≤ 2 then 2 else 0
def tkV (c : Fl) (m p : Nat) : Int32 := if p = m then 0 else if dl c p = 0 then c p else vlF c 101 p 0
def tkP (c : Fl) (m p : Nat) : Nat := if p = m then p else if dl c p = 0 then p + 1 else p + dl c p
def TS (g : mm_g) (c : Fl) (m p : Nat) (w : Int32) (f : Fl) : mm_g := Ds g (hd (g 7 0) (nI (tkP c m p)) (nI p) (tkT c m p) (tkV c m p) w) f
theorem N_tok {g : mm_g} {c : Fl} {m p : Nat} {b ty va w : Int32} {f : Fl} (T : Tr g c m) (hp : p ≤ m) : F_X7_nextToken (Ds g (hd (g 7 0) (nI p) b ty va w) f) = TS g c m p w f := by
  have hm := T.1.1
  have hd0 := dl_m T.1 hp
  unfold F_X7_nextToken TS tkT tkV tkP
  simp only [Ds_w, Ds_0, hd_2, hd_4, hd_5, hd_6, hd_7, hu_4, hu_5, hu_6, hu_7, T.2.1, Ds_6]
  by_cases e : p = m
  · subst e
    have d0 : dl c p = 0 := by omega
    rw [if_pos rfl, tkn_33 T 101 p 0 hp (by omega)]
    simp only [Ds_w, Ds_0, hd_2, hd_4, hd_5, hd_6, hd_7, hu_4, hu_5, hu_6, hu_7, d0, Nat.add_zero]
    rw [if_pos (nI_le (Nat.le_refl p) (by omega)), if_neg (by decide)]
    simp only [if_true]
    rw [show vlF c 101 p 0 = 0 from (by rw [vlF, T.1.2 p (Nat.le_refl p), if_pos (by decide)])]
  · rw [if_neg (show ¬ nI p = nI m from fun z => e ((nI_eq (by omega) (by omega)).mp z)), tkn_33 T 101 p 0 hp (by omega), if_neg e, if_neg e, if_neg e]
    simp only [Ds_w, Ds_0, Ds_6, hd_2, hd_4, hd_5, hd_6, hd_7, hu_4, hu_5, hu_6, hu_7]
    by_cases d0 : dl c p = 0
    · simp only [d0, Nat.add_zero]
      rw [if_pos (nI_le (Nat.le_refl p) (by omega))]
      simp only [if_true]
      rw [nI_clamp (by omega), T.2.2 p (by omega), in_w (a := 97) (b := 122) (A := 97) (B := 122) rfl rfl, nI_1]
      by_cases z : F_X6_within (c p) 97 122 = 0
      · rw [if_pos z, if_pos z]
        by_cases z1 : c p = 44
        · rw [if_pos z1, if_pos z1]
        · rw [if_neg z1, if_neg z1]
          by_cases z2 : c p = 59
          · rw [if_pos z2, if_pos z2]
          · rw [if_neg z2, if_neg z2]
      · rw [if_neg z, if_neg z]
    · rw [if_neg (nI_ge (show p < p + dl c p by omega) (by omega)), if_neg d0, if_neg d0, if_neg d0, ← nI_add, show nI p + nI (dl c p) - nI p = nI (dl c p) from (by rw [Int32.add_comm, Int32.add_sub_cancel])]
      by_cases z : dl c p ≤ 2
      · rw [if_pos (show nI (dl c p) ≤ 2 from nI_le (b := 2) z (by decide)), if_pos z]
      · rw [if_neg (show ¬ nI (dl c p) ≤ 2 from nI_ge (a := 2) (by omega) (by omega)), if_neg z]
