def GB (f : Fl) (w : Int32) (a b : Nat) : Int32 := sumR (fun i => if a ≤ i ∧ i < b then leadH f w i else 0) 0 (nb f)
def led (f : Fl) (w : Int32) (a b : Nat) : Int32 := if GB f w a b ≤ 0 then 0 else 1
theorem btw_5 {g : mm_g} {x y : Nat} {K : Int32 → Nat → Int32} (hx : x < 100) (hy : y < 100) : ∀ (m n : Nat) (a : Int32) (j : Nat), m + j = 9 → m < n → F_X3_gainBetween_5 g (nI x) (nI y) K n a j = K (a + sumR (fun i => if x ≤ i ∧ i < y then g 3 2 i else 0) j m) 9 := by
  intro m
  induction m with
  | zero =>
    intro n a j h1 h2
    obtain ⟨n1, e⟩ : ∃ n1, n = n1 + 1 := ⟨n - 1, by omega⟩
    subst e
    have ei : j = 9 := by omega
    subst ei
    unfold F_X3_gainBetween_5
    rw [if_pos (by decide), sumR, Int32.add_zero]
  | succ m ih =>
    intro n a j h1 h2
    obtain ⟨n1, e⟩ : ∃ n1, n = n1 + 1 := ⟨n - 1, by omega⟩
    subst e
    unfold F_X3_gainBetween_5
    rw [if_neg (show ¬ (9 : Int32) ≤ nI j from nI_ge (a := j) (b := 9) (by omega) (by decide)), c0 (b := j) (by omega), ih _ _ _ (by omega) (by omega), ih _ _ _ (by omega) (by omega), sumR, ← Int32.add_assoc]
    by_cases z : j < x
    · rw [if_pos (show nI j < nI x from nI_lt z (by omega)), if_neg (show ¬ (x ≤ j ∧ j < y) by omega), Int32.add_zero]
    · rw [if_neg (show ¬ nI j < nI x from nI_nlt (by omega) (by omega))]
      by_cases z2 : y ≤ j
      · rw [if_pos (show nI y ≤ nI j from nI_le z2 (by omega)), if_neg (show ¬ (x ≤ j ∧ j < y) by omega), Int32.add_zero]
      · rw [if_neg (show ¬ nI y ≤ nI j from nI_ge (by omega) (by omega)), if_pos (show x ≤ j ∧ j < y by omega)]
theorem gainBtw_F {g : mm_g} {f : Fl} {w : Int32} {x y : Nat} (v : Vd f) (h : Wg f w g) (hx : x < 100) (hy : y < 100) : F_X3_gainBetween g (nI x) (nI y) = GB f w x y := by
  unfold F_X3_gainBetween GB
  rw [btw_5 hx hy 9 _ 0 0 rfl (by decide), Int32.zero_add, sumR_congr (h2 := fun i => if x ≤ i ∧ i < y then gF f w i else 0) (fun i _ b => by rw [h i (by omega)]), sumR_9 v.n9 (fun i a b => by rw [show gF f w i = 0 from if_neg (by omega)]; split <;> rfl)]
  exact sumR_congr (fun i _ b => by rw [show gF f w i = leadH f w i from if_pos (by omega)])
theorem set_bt : ∀ b, b < 10 → ∀ a, a < 10 → a ≤ b → ∀ i, i < 9 → setF (((1 : Int32) <<< (nI b &&& 31)) - ((1 : Int32) <<< (nI a &&& 31))) i = if a ≤ i ∧ i < b then 1 else 0 := by decide +kernel
theorem bringH_b {f : Fl} {w s : Int32} {b : Nat} (v : Vd f) (hb : b < nb f) : -74 ≤ (bringH f w s b).toInt ∧ (bringH f w s b).toInt ≤ 74 := by
  have h := bush_b v hb
  have e0 : (0 : Int32).toInt = 0 := rfl
  unfold bringH tallyH
  (repeat' split) <;> omega
theorem bringF_b {f : Fl} {w s : Int32} (v : Vd f) : -666 ≤ (bringF f w s).toInt ∧ (bringF f w s).toInt ≤ 666 := by
  have h9 := v.n9
  have h1 := sumR_b (h := bringH f w s) (M := 74) (by decide) (nb f) 0 (by omega) (fun i _ b => bringH_b v (by omega))
  unfold bringF
  omega
theorem ledBy_F {g : mm_g} {w : Int32} {a b : Nat} (v : Vd (g 7 4)) (hw : w = 0 ∨ w = 1) (hab : a ≤ b) (hb : b ≤ 9) : F_X7_ledBy g w (nI a) (nI b) = led (g 7 4) w a b := by
  have h9 := v.n9
  have hB : GB (g 7 4) w a b = bringF (g 7 4) w (((1 : Int32) <<< (nI b &&& 31)) - ((1 : Int32) <<< (nI a &&& 31))) - bringF (g 7 4) (1 - w) (((1 : Int32) <<< (nI b &&& 31)) - ((1 : Int32) <<< (nI a &&& 31))) := by
    rw [bring_d hw, GB]
    refine sumR_congr (fun i _ c => ?_)
    rw [set_bt b (by omega) a (by omega) hab i (by omega)]
    by_cases z : a ≤ i ∧ i < b
    · rw [if_pos z, if_pos z, if_neg (by decide)]
    · rw [if_neg z, if_neg z, if_pos rfl]
  unfold F_X7_ledBy led
  rw [bringFor_F v, bringFor_F v, hB]
  have b1 := bringF_b (w := w) (s := ((1 : Int32) <<< (nI b &&& 31)) - ((1 : Int32) <<< (nI a &&& 31))) v
  have b2 := bringF_b (w := 1 - w) (s := ((1 : Int32) <<< (nI b &&& 31)) - ((1 : Int32) <<< (nI a &&& 31))) v
  generalize bringF (g 7 4) w (((1 : Int32) <<< (nI b &&& 31)) - ((1 : Int32) <<< (nI a &&& 31))) = B1 at b1 ⊢
  generalize bringF (g 7 4) (1 - w) (((1 : Int32) <<< (nI b &&& 31)) - ((1 : Int32) <<< (nI a &&& 31))) = B2 at b2 ⊢
  have e0 : (0 : Int32).toInt = 0 := rfl
  have e1 : (B1 - B2).toInt = B1.toInt - B2.toInt := by
    rw [Int32.toInt_sub, Int.bmod_eq_of_le_mul_two (by omega) (by omega)]
  by_cases z : B1 ≤ B2
  · rw [if_pos z, if_pos]
    rw [toI_le] at z ⊢
    omega
  · rw [if_neg z, if_neg]
    rw [toI_le] at z ⊢
    omega
def valF (f : Fl) (w : Int32) (c : Nat) : Int32 := led f w 0 (if 0 < c / 10 then c / 10 else nb f) + (if 0 < c / 10 then led f w (c / 10) (if 0 < c % 10 then c % 10 else nb f) else 0) + (if 0 < c % 10 then led f w (c % 10) (nb f) else 0)
theorem c100 : ∀ c, c < 100 → nI c / 10 = nI (c / 10) ∧ nI c - nI c / 10 * 10 = nI (c % 10) := by decide +kernel
theorem nI_le0 {n : Nat} (h : n < 1000) : nI n ≤ 0 ↔ n = 0 := by
  rw [show (0 : Int32) = nI 0 from rfl, nI_leI (by omega) (by decide)]
  omega
theorem wardsLed_F {g : mm_g} {f : Fl} {w : Int32} {c : Nat} (v : Vd f) (h : Wg f w g) (hc : c < 100) : F_X3_wardsLed g (nI c) (nI (nb f)) = valF f w c := by
  have h9 := v.n9
  obtain ⟨c1, c2⟩ := c100 c hc
  have g0 : ∀ y, y < 100 → F_X3_gainBetween g 0 (nI y) = GB f w 0 y := fun y hy => gainBtw_F (x := 0) v h (by decide) hy
  have g1 : ∀ x y, x < 100 → y < 100 → F_X3_gainBetween g (nI x) (nI y) = GB f w x y := fun x y hx hy => gainBtw_F v h hx hy
  have l1 : (nI (c / 10) ≤ 0) = (c / 10 = 0) := propext (nI_le0 (by omega))
  have l2 : (nI (c % 10) ≤ 0) = (c % 10 = 0) := propext (nI_le0 (by omega))
  unfold F_X3_wardsLed valF
  rw [c2, c1, g0 _ (by omega), g0 _ (by omega), g1 _ _ (by omega) (by omega), g1 _ _ (by omega) (by omega), g1 _ _ (by omega) (by omega)]
  simp only [l1, l2]
  by_cases z1 : c / 10 = 0 <;> by_cases z2 : c % 10 = 0
  · simp only [z1, z2, if_true, Nat.lt_irrefl, if_false]
    unfold led
    by_cases b1 : GB f w 0 (nb f) ≤ 0 <;> simp only [b1, if_true, if_false] <;> rfl
  · simp only [z1, z2, if_true, Nat.lt_irrefl, if_false, Nat.pos_of_ne_zero z2]
    unfold led
    by_cases b1 : GB f w 0 (nb f) ≤ 0 <;> by_cases b2 : GB f w (c % 10) (nb f) ≤ 0 <;> simp only [b1, b2, if_true, if_false] <;> rfl
  · simp only [z1, z2, if_true, Nat.lt_irrefl, if_false, Nat.pos_of_ne_zero z1]
    unfold led
    by_cases b1 : GB f w 0 (c / 10) ≤ 0 <;> by_cases b2 : GB f w (c / 10) (nb f) ≤ 0 <;> simp only [b1, b2, if_true, if_false] <;> rfl
  · simp only [z1, z2, if_true, if_false, Nat.pos_of_ne_zero z1, Nat.pos_of_ne_zero z2]
    unfold led
    by_cases b1 : GB f w 0 (c / 10) ≤ 0 <;> by_cases b2 : GB f w (c / 10) (c % 10) ≤ 0 <;> by_cases b3 : GB f w (c % 10) (nb f) ≤ 0 <;> simp only [b1, b2, b3, if_true, if_false] <;> rfl
theorem led_01 {f : Fl} {w : Int32} {a b : Nat} : led f w a b = 0 ∨ led f w a b = 1 := by
  unfold led
  split
  · exact Or.inl rfl
  · exact Or.inr rfl
theorem valF_p {f : Fl} {w : Int32} {c : Nat} : 0 ≤ (valF f w c).toInt := by
  unfold valF
  generalize (if 0 < c / 10 then c / 10 else nb f) = A
  generalize (if 0 < c % 10 then c % 10 else nb f) = B
  rcases led_01 (f := f) (w := w) (a := 0) (b := A) with h1 | h1 <;> rcases led_01 (f := f) (w := w) (a := c / 10) (b := B) with h2 | h2 <;> rcases led_01 (f := f) (w := w) (a := c % 10) (b := nb f) with h3 | h3 <;> rw [h1, h2, h3] <;> (repeat' split) <;> decide
/-! the best cut, over a list of cuts -/
def stp (val : Nat → Int32) (p : Int32 × Int32) (c : Nat) : Int32 × Int32 := if val c ≤ p.2 then p else (nI c, val c)
theorem cut_16 {g : mm_g} {x1 x2 : Int32} {K : Int32 → Int32 → Nat → Int32 × mm_g} (v : Vd (g 2 0)) (h : Wg (g 2 0) x1 g) : ∀ (m n : Nat) (p : Int32 × Int32) (j : Nat), m + j = 100 → m < n → F_X3_bestCut_16 g 0 x1 x2 K n p.1 p.2 j = K (((List.range' j m).filter (fun c => decide (F_X3_wardsOf (nI c) (nI (nb (g 2 0))) = x2))).foldl (stp (valF (g 2 0) x1)) p).1 (((List.range' j m).filter (fun c => decide (F_X3_wardsOf (nI c) (nI (nb (g 2 0))) = x2))).foldl (stp (valF (g 2 0) x1)) p).2 100 := by
  intro m
  induction m with
  | zero =>
    intro n p j h1 h2
    obtain ⟨n1, e⟩ : ∃ n1, n = n1 + 1 := ⟨n - 1, by omega⟩
    subst e
    have ei : j = 100 := by omega
    subst ei
    unfold F_X3_bestCut_16
    rw [if_pos (by decide)]
    rfl
  | succ m ih =>
    intro n p j h1 h2
    obtain ⟨n1, e⟩ : ∃ n1, n = n1 + 1 := ⟨n - 1, by omega⟩
    subst e
    unfold F_X3_bestCut_16
    rw [if_neg (show ¬ (100 : Int32) ≤ nI j from nI_ge (a := j) (b := 100) (by omega) (by decide)), v.f0, wardsLed_F v h (by omega), List.range'_succ, List.filter_cons]
    by_cases z : F_X3_wardsOf (nI j) (nI (nb (g 2 0))) = x2
    · rw [if_pos z, if_pos (decide_eq_true z), List.foldl_cons]
      by_cases z2 : valF (g 2 0) x1 j ≤ p.2
      · rw [if_pos z2, show stp (valF (g 2 0) x1) p j = p from if_pos z2]
        exact ih n1 p (j + 1) (by omega) (by omega)
      · rw [if_neg z2, show stp (valF (g 2 0) x1) p j = (nI j, valF (g 2 0) x1 j) from if_neg z2]
        exact ih n1 (nI j, valF (g 2 0) x1 j) (j + 1) (by omega) (by omega)
    · rw [if_neg z, if_neg (by rw [decide_eq_false z]; decide)]
      exact ih n1 p (j + 1) (by omega) (by omega)
theorem cuts_1 : ∀ N, N < 10 → 0 < N → (List.range' 0 100).filter (fun c => decide (F_X3_wardsOf (nI c) (nI N) = 1)) = [0] := by decide +kernel
theorem cuts_2 : ∀ N, N < 10 → (List.range' 0 100).filter (fun c => decide (F_X3_wardsOf (nI c) (nI N) = 2)) = (List.range' 1 (N - 1)).map (fun t => 10 * t) := by decide +kernel
theorem cuts_3 : ∀ N, N < 10 → (List.range' 0 100).filter (fun c => decide (F_X3_wardsOf (nI c) (nI N) = 3)) = (List.range' 1 (N - 1)).flatMap (fun t => (List.range' (t + 1) (N - 1 - t)).map (fun c => 10 * t + c)) := by decide +kernel
theorem val_2 {g : mm_g} {w : Int32} {j : Nat} (v : Vd (g 7 4)) (hw : w = 0 ∨ w = 1) (h0 : 0 < j) (hj : j < nb (g 7 4)) : F_X7_ledBy g w 0 (nI j) + F_X7_ledBy g w (nI j) (nI (nb (g 7 4))) + 0 = valF (g 7 4) w (10 * j) := by
  have h9 := v.n9
  have e0 : F_X7_ledBy g w 0 (nI j) = led (g 7 4) w 0 j := ledBy_F (a := 0) v hw (by omega) (by omega)
  rw [e0, ledBy_F v hw (by omega) (by omega)]
  unfold valF
  rw [show 10 * j / 10 = j by omega, show 10 * j % 10 = 0 by omega, if_pos h0, if_pos h0, if_neg (Nat.lt_irrefl 0), if_neg (Nat.lt_irrefl 0)]
theorem val_3 {g : mm_g} {w : Int32} {j c : Nat} (v : Vd (g 7 4)) (hw : w = 0 ∨ w = 1) (h0 : 0 < j) (hj : j < c) (hc : c < nb (g 7 4)) : F_X7_ledBy g w 0 (nI j) + F_X7_ledBy g w (nI j) (nI c) + F_X7_ledBy g w (nI c) (nI (nb (g 7 4))) = valF (g 7 4) w (10 * j + c) := by
  have h9 := v.n9
  have e0 : F_X7_ledBy g w 0 (nI j) = led (g 7 4) w 0 j := ledBy_F (a := 0) v hw (by omega) (by omega)
  rw [e0, ledBy_F v hw (by omega) (by omega), ledBy_F v hw (by omega) (by omega)]
  unfold valF
  rw [show (10 * j + c) / 10 = j by omega, show (10 * j + c) % 10 = c by omega, if_pos h0, if_pos h0, if_pos (show 0 < c by omega), if_pos (show 0 < c by omega)]
theorem ten_j {j : Nat} : 10 * nI j + 0 = nI (10 * j) := by rw [show (10 : Int32) = nI 10 from rfl, pk_mul, Int32.add_zero]
theorem ten_c {j c : Nat} : 10 * nI j + nI c = nI (10 * j + c) := by rw [show (10 : Int32) = nI 10 from rfl, pk_mul, nI_add]
theorem w104_2 {g : mm_g} {w x3 : Int32} {j : Nat} {K : Int32 → Int32 → Int32 → Int32} (v : Vd (g 7 4)) (hw : w = 0 ∨ w = 1) (h0 : 0 < j) (hj : j < nb (g 7 4)) (p : Int32 × Int32) : F_X7_wards_104 g w 2 x3 (nI (nb (g 7 4))) j K 12 p.1 p.2 (nI (nb (g 7 4))) = K (stp (valF (g 7 4) w) p (10 * j)).1 (stp (valF (g 7 4) w) p (10 * j)).2 (nI (nb (g 7 4) + 1)) := by
  have h9 := v.n9
  rw [F_X7_wards_104, if_neg (by decide), nI_1, if_neg (nI_ge (by omega) (by omega)), val_2 v hw h0 hj, ten_j]
  by_cases z : valF (g 7 4) w (10 * j) ≤ p.2
  · rw [if_pos z, show stp (valF (g 7 4) w) p (10 * j) = p from if_pos z, F_X7_wards_104, if_neg (by decide), nI_1, if_pos (nI_le (Nat.le_refl _) (by omega))]
  · rw [if_neg z, show stp (valF (g 7 4) w) p (10 * j) = (nI (10 * j), valF (g 7 4) w (10 * j)) from if_neg z, F_X7_wards_104, if_neg (by decide), nI_1, if_pos (nI_le (Nat.le_refl _) (by omega))]
theorem w104_3 {g : mm_g} {w x3 : Int32} {j : Nat} {K : Int32 → Int32 → Int32 → Int32} (v : Vd (g 7 4)) (hw : w = 0 ∨ w = 1) (h0 : 0 < j) : ∀ (m n : Nat) (p : Int32 × Int32) (c : Nat), j < c → m + c = nb (g 7 4) → m < n → F_X7_wards_104 g w 3 x3 (nI (nb (g 7 4))) j K n p.1 p.2 (nI c) = K (((List.range' c m).map (fun i => 10 * j + i)).foldl (stp (valF (g 7 4) w)) p).1 (((List.range' c m).map (fun i => 10 * j + i)).foldl (stp (valF (g 7 4) w)) p).2 (nI (nb (g 7 4))) := by
  have h9 := v.n9
  intro m
  induction m with
  | zero =>
    intro n p c hc h1 h2
    obtain ⟨n1, e⟩ : ∃ n1, n = n1 + 1 := ⟨n - 1, by omega⟩
    subst e
    rw [F_X7_wards_104, if_pos (show (3 : Int32) = 3 from rfl), if_pos (nI_le (by omega) (by omega)), show c = nb (g 7 4) by omega]
    rfl
  | succ m ih =>
    intro n p c hc h1 h2
    obtain ⟨n1, e⟩ : ∃ n1, n = n1 + 1 := ⟨n - 1, by omega⟩
    subst e
    rw [F_X7_wards_104, if_pos (show (3 : Int32) = 3 from rfl), if_neg (nI_ge (by omega) (by omega)), val_3 v hw h0 hc (by omega), ten_c, nI_1, List.range'_succ, List.map_cons, List.foldl_cons]
    by_cases z : valF (g 7 4) w (10 * j + c) ≤ p.2
    · rw [if_pos z, show stp (valF (g 7 4) w) p (10 * j + c) = p from if_pos z]
      exact ih n1 p (c + 1) (by omega) (by omega) (by omega)
    · rw [if_neg z, show stp (valF (g 7 4) w) p (10 * j + c) = (nI (10 * j + c), valF (g 7 4) w (10 * j + c)) from if_neg z]
      exact ih n1 (nI (10 * j + c), valF (g 7 4) w (10 * j + c)) (c + 1) (by omega) (by omega) (by omega)
theorem w76_2 {g : mm_g} {w x3 : Int32} {K : Int32 → Int32 → Nat → Int32} (v : Vd (g 7 4)) (hw : w = 0 ∨ w = 1) : ∀ (m n : Nat) (p : Int32 × Int32) (j : Nat), 0 < j → m + j = nb (g 7 4) → m < n → F_X7_wards_76 g w 2 x3 (nI (nb (g 7 4))) K n p.1 p.2 j = K (((List.range' j m).map (fun t => 10 * t)).foldl (stp (valF (g 7 4) w)) p).1 (((List.range' j m).map (fun t => 10 * t)).foldl (stp (valF (g 7 4) w)) p).2 (nb (g 7 4)) := by
  have h9 := v.n9
  intro m
  induction m with
  | zero =>
    intro n p j h0 h1 h2
    obtain ⟨n1, e⟩ : ∃ n1, n = n1 + 1 := ⟨n - 1, by omega⟩
    subst e
    rw [F_X7_wards_76, if_pos (nI_le (by omega) (by omega)), show j = nb (g 7 4) by omega]
    rfl
  | succ m ih =>
    intro n p j h0 h1 h2
    obtain ⟨n1, e⟩ : ∃ n1, n = n1 + 1 := ⟨n - 1, by omega⟩
    subst e
    rw [F_X7_wards_76, if_neg (nI_ge (by omega) (by omega)), if_neg (by decide), if_neg (by decide), w104_2 v hw h0 (by omega), List.range'_succ, List.map_cons, List.foldl_cons]
    exact ih n1 _ (j + 1) (by omega) (by omega) (by omega)
theorem w76_3 {g : mm_g} {w x3 : Int32} {K : Int32 → Int32 → Nat → Int32} (v : Vd (g 7 4)) (hw : w = 0 ∨ w = 1) : ∀ (m n : Nat) (p : Int32 × Int32) (j : Nat), 0 < j → m + j = nb (g 7 4) → m < n → F_X7_wards_76 g w 3 x3 (nI (nb (g 7 4))) K n p.1 p.2 j = K (((List.range' j m).flatMap (fun t => (List.range' (t + 1) (nb (g 7 4) - 1 - t)).map (fun c => 10 * t + c))).foldl (stp (valF (g 7 4) w)) p).1 (((List.range' j m).flatMap (fun t => (List.range' (t + 1) (nb (g 7 4) - 1 - t)).map (fun c => 10 * t + c))).foldl (stp (valF (g 7 4) w)) p).2 (nb (g 7 4)) := by
  have h9 := v.n9
  intro m
  induction m with
  | zero =>
    intro n p j h0 h1 h2
    obtain ⟨n1, e⟩ : ∃ n1, n = n1 + 1 := ⟨n - 1, by omega⟩
    subst e
    rw [F_X7_wards_76, if_pos (nI_le (by omega) (by omega)), show j = nb (g 7 4) by omega]
    rfl
  | succ m ih =>
    intro n p j h0 h1 h2
    obtain ⟨n1, e⟩ : ∃ n1, n = n1 + 1 := ⟨n - 1, by omega⟩
    subst e
    rw [F_X7_wards_76, if_neg (nI_ge (by omega) (by omega)), if_neg (by decide), if_pos rfl, nI_1, w104_3 v hw h0 (nb (g 7 4) - 1 - j) 12 p (j + 1) (by omega) (by omega) (by omega), List.range'_succ, List.flatMap_cons, List.foldl_append]
    exact ih n1 _ (j + 1) (by omega) (by omega) (by omega)
