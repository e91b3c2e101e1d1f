/-- traces, the class' in one memory, the reference's in another -/
def TT (gc gr : mm_g) : Prop := ∃ m : Nat, m ≤ 16 ∧ gc 1 0 0 = nI m ∧ gr 7 0 10 = nI m ∧ ∀ i, i < m → gc 1 1 i = gr 7 12 i
def lvs : List Int32 → mm_g → mm_g
  | [], g => g
  | b :: l, g => lvs l (F_X1_leave g b)
def bgs : List Int32 → mm_g → mm_g
  | [], g => g
  | b :: l, g => bgs l (F_X7_begin g b)
theorem leave_o {g : mm_g} {b : Int32} {t k : Nat} (h : t ≠ 1) : F_X1_leave g b t k = g t k := by
  unfold F_X1_leave
  split
  · rfl
  · split
    · rw [wr_nk (fun z => h z.1), wr_nk (fun z => h z.1)]
    · rfl
theorem begin_o {g : mm_g} {b : Int32} {t k j : Nat} (h : ¬ (t = 7 ∧ (k = 12 ∨ (k = 0 ∧ j = 10)))) : F_X7_begin g b t k j = g t k j := by
  unfold F_X7_begin
  split
  · rfl
  · rw [wr_at, if_neg (by omega), wr_at, if_neg (by omega)]
theorem TT_b {gc gr : mm_g} {b : Int32} (h : TT gc gr) : TT (F_X1_leave gc b) (F_X7_begin gr b) := by
  obtain ⟨m, hm, h0, h1, hI⟩ := h
  by_cases q : m = 16
  · subst q
    have e1 : F_X1_leave gc b = gc := by
      unfold F_X1_leave
      rw [h0, if_neg (by decide), if_neg (by decide)]
    have e2 : F_X7_begin gr b = gr := by
      unfold F_X7_begin
      rw [h1, if_pos (by decide)]
    rw [e1, e2]
    exact ⟨16, hm, h0, h1, hI⟩
  · have e1 : F_X1_leave gc b = wr (wr gc 1 1 m b) 1 0 0 (nI (m + 1)) := by
      unfold F_X1_leave
      rw [h0, if_neg (nI_pos (by omega)), if_pos (show nI m < (16 : Int32) from nI_lt (a := m) (b := 16) (by omega) (by decide)), c0 (by omega), wr_nk (t := 1) (k := 1) (t' := 1) (k' := 0) (by decide), h0, nI_1]
    have e2 : F_X7_begin gr b = wr (wr gr 7 12 m b) 7 0 10 (nI (m + 1)) := by
      unfold F_X7_begin
      rw [h1, if_neg (show ¬ (16 : Int32) ≤ nI m from nI_ge (a := m) (b := 16) (by omega) (by decide)), c0 (by omega), wr_nk (t := 7) (k := 12) (t' := 7) (k' := 0) (by decide), h1, nI_1]
    rw [e1, e2]
    refine ⟨m + 1, by omega, by rw [wr_ss, if_pos rfl], by rw [wr_ss, if_pos rfl], fun i hi => ?_⟩
    rw [wr_nk (t := 1) (k := 0) (t' := 1) (k' := 1) (by decide), wr_nk (t := 7) (k := 0) (t' := 7) (k' := 12) (by decide), wr_ss, wr_ss]
    by_cases z : i = m
    · rw [if_pos z, if_pos z]
    · rw [if_neg z, if_neg z]
      exact hI i (by omega)
theorem TT_l : ∀ (l : List Int32) (gc gr : mm_g), TT gc gr → TT (lvs l gc) (bgs l gr)
  | [], _, _, h => h
  | _ :: l, _, _, h => TT_l l _ _ (TT_b h)
theorem lvs_o {t k : Nat} (h : t ≠ 1) : ∀ (l : List Int32) (g : mm_g), lvs l g t k = g t k
  | [], _ => rfl
  | b :: l, g => (lvs_o h l (F_X1_leave g b)).trans (leave_o h)
theorem bgs_o {t k j : Nat} (h : ¬ (t = 7 ∧ (k = 12 ∨ (k = 0 ∧ j = 10)))) : ∀ (l : List Int32) (g : mm_g), bgs l g t k j = g t k j
  | [], _ => rfl
  | b :: l, g => (bgs_o h l (F_X7_begin g b)).trans (begin_o h)
/-! the class' bodies -/
theorem st_o {g s : mm_g} {x : Int32} (h : s 2 = g 2) : F_X2_stockOf s 0 x = F_X2_stockOf g 0 x := by
  unfold F_X2_stockOf F_X2_has
  rw [h]
theorem wm_o {g s : mm_g} {x : Int32} (h : s 2 = g 2) : F_X2_warmOf s 0 x = F_X2_warmOf g 0 x := by
  unfold F_X2_warmOf F_X2_has
  rw [h]
theorem kd_o {g s : mm_g} {x : Int32} (h : s 2 = g 2) : F_X2_kindOf s 0 x = F_X2_kindOf g 0 x := by
  unfold F_X2_kindOf F_X2_has
  rw [h]
theorem lv_2 {g : mm_g} {b : Int32} : F_X1_leave g b 2 = g 2 := funext fun _ => leave_o (by decide)
theorem gv10 {x d : Int32} {n : Nat} {g : mm_g} (hd : d ≤ 12) : F_X1_give 0 x (n + 1) g 10 d = (F_X2_stockOf g 0 x, lvs [10] g) := by
  rw [F_X1_give, if_pos hd, if_pos rfl, st_o lv_2]
  rfl
theorem gv20 {x d : Int32} {n : Nat} {g : mm_g} (hd : d ≤ 12) : F_X1_give 0 x (n + 1) g 20 d = (x, lvs [20] g) := by
  rw [F_X1_give, if_pos hd, if_neg (by decide), if_neg (by decide), if_neg (by decide), if_neg (by decide), if_neg (by decide), if_neg (by decide), if_neg (by decide), if_neg (by decide), if_neg (by decide), if_neg (by decide), if_pos rfl]
  rfl
theorem gv21 {x d : Int32} {n : Nat} {g : mm_g} (hd : d ≤ 12) (hd2 : d + 1 ≤ 12) : F_X1_give 0 x (n + 2) g 21 d = (x + F_X2_warmOf g 0 x, lvs [21, 20] g) := by
  rw [F_X1_give, if_pos hd, if_neg (by decide), if_neg (by decide), if_neg (by decide), if_neg (by decide), if_neg (by decide), if_neg (by decide), if_neg (by decide), if_neg (by decide), if_neg (by decide), if_neg (by decide), if_neg (by decide), if_pos rfl, gv20 hd2]
  show (x + F_X2_warmOf (lvs [20] (F_X1_leave g 21)) 0 x, _) = _
  rw [wm_o (s := lvs [20] (F_X1_leave g 21)) (g := g) (lv_2.trans lv_2)]
  rfl
theorem gv22 {x d : Int32} {n : Nat} {g : mm_g} (hd : d ≤ 12) (hd2 : d + 1 ≤ 12) (hd3 : d + 1 + 1 ≤ 12) : F_X1_give 0 x (n + 3) g 22 d = (x + F_X2_warmOf g 0 x - 1000, lvs [22, 21, 20] g) := by
  rw [F_X1_give, if_pos hd, if_neg (by decide), if_neg (by decide), if_neg (by decide), if_neg (by decide), if_neg (by decide), if_neg (by decide), if_neg (by decide), if_neg (by decide), if_neg (by decide), if_neg (by decide), if_neg (by decide), if_neg (by decide), if_pos rfl, gv21 hd2 hd3, wm_o lv_2]
  rfl
theorem gv24 {x d : Int32} {n : Nat} {g : mm_g} (hd : d ≤ 12) (hd2 : d + 1 ≤ 12) (hd3 : d + 1 + 1 ≤ 12) : F_X1_give 0 x (n + 3) g 24 d = (2 * (x + F_X2_warmOf g 0 x), lvs [24, 21, 20] g) := by
  rw [F_X1_give, if_pos hd, if_neg (by decide), if_neg (by decide), if_neg (by decide), if_neg (by decide), if_neg (by decide), if_neg (by decide), if_neg (by decide), if_neg (by decide), if_neg (by decide), if_neg (by decide), if_neg (by decide), if_neg (by decide), if_neg (by decide), if_neg (by decide), if_pos rfl, gv21 hd2 hd3, wm_o lv_2]
  rfl
theorem gv13 {x d : Int32} {n : Nat} {g : mm_g} (hd : d ≤ 12) (hd2 : d + 1 ≤ 12) : F_X1_give 0 x (n + 2) g 13 d = (F_X2_stockOf g 0 x - 100, lvs [13, 10] g) := by
  rw [F_X1_give, if_pos hd, if_neg (by decide), if_neg (by decide), if_neg (by decide), if_pos rfl, gv10 hd2, st_o lv_2]
  rfl
theorem gv14 {x d : Int32} {n : Nat} {g : mm_g} (hd : d ≤ 12) (hd2 : d + 1 ≤ 12) (hd3 : d + 1 + 1 ≤ 12) : F_X1_give 0 x (n + 3) g 14 d = (2 * (F_X2_stockOf g 0 x - 100), lvs [14, 13, 10] g) := by
  rw [F_X1_give, if_pos hd, if_neg (by decide), if_neg (by decide), if_neg (by decide), if_neg (by decide), if_pos rfl, gv13 hd2 hd3, st_o lv_2]
  rfl
theorem gv11 {x d v : Int32} {n : Nat} {l : List Int32} {g : mm_g} (hd : d ≤ 12) (hd2 : d + 1 ≤ 12) (hM : ∀ s : mm_g, s 2 = g 2 → F_X1_give 0 x (n + 1) s (F_X1_markBody (F_X2_kindOf g 0 x)) (d + 1) = (v, lvs l s)) : F_X1_give 0 x (n + 2) g 11 d = (F_X2_stockOf g 0 x + v, lvs (11 :: 10 :: l) g) := by
  rw [F_X1_give, if_pos hd, if_neg (by decide), if_pos rfl, gv10 hd2, kd_o lv_2]
  dsimp only
  rw [hM _ (show lvs [10] (F_X1_leave g 11) 2 = g 2 from lv_2.trans lv_2), st_o lv_2]
  rfl
theorem gv12 {x d v : Int32} {n : Nat} {l : List Int32} {g : mm_g} (hd : d ≤ 12) (h : F_X1_give 0 x n (F_X1_leave g 12) 11 (d + 1) = (v, lvs l (F_X1_leave g 12))) : F_X1_give 0 x (n + 1) g 12 d = (-v, lvs (12 :: l) g) := by
  rw [F_X1_give, if_pos hd, if_neg (by decide), if_neg (by decide), if_pos rfl, h]
  rfl
theorem gv23 {x d v : Int32} {n : Nat} {l : List Int32} {g : mm_g} (hd : d ≤ 12) (hd2 : d + 1 ≤ 12) (hM : ∀ s : mm_g, s 2 = g 2 → F_X1_give 0 x (n + 1) s (F_X1_sizeBody (F_X2_kindOf g 0 x)) (d + 1) = (v, lvs l s)) : F_X1_give 0 x (n + 2) g 23 d = (x - v, lvs (23 :: 20 :: l) g) := by
  rw [F_X1_give, if_pos hd, if_neg (by decide), if_neg (by decide), if_neg (by decide), if_neg (by decide), if_neg (by decide), if_neg (by decide), if_neg (by decide), if_neg (by decide), if_neg (by decide), if_neg (by decide), if_neg (by decide), if_neg (by decide), if_neg (by decide), if_pos rfl, gv20 hd2, kd_o lv_2]
  dsimp only
  rw [hM _ (show lvs [20] (F_X1_leave g 23) 2 = g 2 from lv_2.trans lv_2)]
  rfl
/-! the reference's -/
theorem bg_7 {g : mm_g} {b : Int32} {k : Nat} (h : k ≠ 12 ∧ k ≠ 0) : F_X7_begin g b 7 k = g 7 k := funext fun j => begin_o (by omega)
theorem rl10 {g : mm_g} {b : Nat} (hb : b < 9) : F_X7_lent g (nI b) 10 = (g 7 4 (18 + b), bgs [10] g) := by
  unfold F_X7_lent
  rw [if_pos rfl, c18 (by omega), bg_7 (by decide)]
  rfl
theorem rl20 {g : mm_g} {x : Int32} : F_X7_lent g x 20 = (x, bgs [20] g) := by
  unfold F_X7_lent
  rw [if_neg (by decide)]
  rfl
theorem rl21 {g : mm_g} {b : Nat} (hb : b < 9) : F_X7_commonMark g (nI b) = (nI b + g 7 4 (27 + b), bgs [21, 20] g) := by
  unfold F_X7_commonMark
  rw [rl20, c27 (by omega)]
  show (nI b + F_X7_begin (F_X7_begin g 21) 20 7 4 (27 + b), _) = _
  rw [bg_7 (by decide), bg_7 (by decide)]
  rfl
theorem rl13 {g : mm_g} {b : Nat} (hb : b < 9) : F_X7_warmSize g (nI b) = (g 7 4 (18 + b) - 100, bgs [13, 10] g) := by
  unfold F_X7_warmSize
  rw [rl10 hb, bg_7 (by decide)]
  rfl
theorem rlW {g : mm_g} {b : Nat} (hb : b < 9) : F_X7_sizeOfWarm g (nI b) = if g 7 4 (9 + b) = 5 then (2 * (g 7 4 (18 + b) - 100), bgs [14, 13, 10] g) else (g 7 4 (18 + b) - 100, bgs [13, 10] g) := by
  unfold F_X7_sizeOfWarm
  rw [c9 (by omega), rl13 hb, rl13 hb, bg_7 (by decide)]
  rfl
def mkV (f : Fl) (b : Nat) : Int32 := if f (9 + b) = 2 then 2 * (nI b + f (27 + b)) else if f (9 + b) = 3 then nI b + f (27 + b) - 1000 else if f (9 + b) = 1 then nI b + f (27 + b) else if f (9 + b) = 5 then nI b - 2 * (f (18 + b) - 100) else nI b - (f (18 + b) - 100)
def mkT (k : Int32) : List Int32 := if k = 2 then [24, 21, 20] else if k = 3 then [22, 21, 20] else if k = 1 then [21, 20] else if k = 5 then [23, 20, 14, 13, 10] else [23, 20, 13, 10]
def szV (f : Fl) (b : Nat) : Int32 := if f (9 + b) = 2 then -(f (18 + b) + mkV f b) else if f (9 + b) = 5 then 2 * (f (18 + b) - 100) else if f (9 + b) = 4 then f (18 + b) - 100 else f (18 + b) + mkV f b
def szT (k : Int32) : List Int32 := if k = 2 then 12 :: 11 :: 10 :: mkT k else if k = 5 then [14, 13, 10] else if k = 4 then [13, 10] else 11 :: 10 :: mkT k
theorem rMk {g : mm_g} {b : Nat} (hb : b < 9) : F_X7_markOf g (nI b) = (mkV (g 7 4) b, bgs (mkT (g 7 4 (9 + b))) g) := by
  unfold F_X7_markOf mkV mkT
  rw [c9 (by omega), rl21 hb, rl21 hb, rl21 hb, rl20, rlW hb]
  show (if g 7 4 (9 + b) = 2 then (2 * (nI b + F_X7_begin g 24 7 4 (27 + b)), _) else if g 7 4 (9 + b) = 3 then (nI b + F_X7_begin g 22 7 4 (27 + b) - 1000, _) else if g 7 4 (9 + b) = 1 then _ else (nI b - (if F_X7_begin (F_X7_begin g 23) 20 7 4 (9 + b) = 5 then (2 * (F_X7_begin (F_X7_begin g 23) 20 7 4 (18 + b) - 100), bgs [14, 13, 10] (F_X7_begin (F_X7_begin g 23) 20)) else (F_X7_begin (F_X7_begin g 23) 20 7 4 (18 + b) - 100, bgs [13, 10] (F_X7_begin (F_X7_begin g 23) 20))).1, (if F_X7_begin (F_X7_begin g 23) 20 7 4 (9 + b) = 5 then (2 * (F_X7_begin (F_X7_begin g 23) 20 7 4 (18 + b) - 100), bgs [14, 13, 10] (F_X7_begin (F_X7_begin g 23) 20)) else (F_X7_begin (F_X7_begin g 23) 20 7 4 (18 + b) - 100, bgs [13, 10] (F_X7_begin (F_X7_begin g 23) 20))).2)) = _
  simp only [bg_7 (g := g) (b := 24) (k := 4) (by decide), bg_7 (g := g) (b := 22) (k := 4) (by decide), bg_7 (g := F_X7_begin g 23) (b := 20) (k := 4) (by decide), bg_7 (g := g) (b := 23) (k := 4) (by decide)]
  by_cases z2 : g 7 4 (9 + b) = 2
  · simp only [if_pos z2]; rfl
  · by_cases z3 : g 7 4 (9 + b) = 3
    · simp only [if_neg z2, if_pos z3]; rfl
    · by_cases z1 : g 7 4 (9 + b) = 1
      · simp only [if_neg z2, if_neg z3, if_pos z1]
      · by_cases z5 : g 7 4 (9 + b) = 5
        · simp only [if_neg z2, if_neg z3, if_neg z1, if_pos z5]; rfl
        · simp only [if_neg z2, if_neg z3, if_neg z1, if_neg z5]; rfl
theorem rCs {g : mm_g} {b : Nat} (hb : b < 9) : F_X7_commonSize g (nI b) = (g 7 4 (18 + b) + mkV (g 7 4) b, bgs (11 :: 10 :: mkT (g 7 4 (9 + b))) g) := by
  unfold F_X7_commonSize
  rw [rl10 hb, bg_7 (by decide), rMk hb]
  show (g 7 4 (18 + b) + mkV (F_X7_begin (F_X7_begin g 11) 10 7 4) b, bgs (mkT (F_X7_begin (F_X7_begin g 11) 10 7 4 (9 + b))) _) = _
  rw [bg_7 (by decide), bg_7 (by decide)]
  rfl
theorem rSz {g : mm_g} {b : Nat} (hb : b < 9) (hk : 1 ≤ (g 7 4 (9 + b)).toInt ∧ (g 7 4 (9 + b)).toInt ≤ 5) : F_X7_sizeOf g (nI b) = (szV (g 7 4) b, bgs (szT (g 7 4 (9 + b))) g) := by
  have e12 : F_X7_begin g 12 7 4 = g 7 4 := bg_7 (by decide)
  have h1 := rCs (g := F_X7_begin g 12) hb
  rw [e12] at h1
  have h2 := rCs (g := g) hb
  have h3 := rlW (g := g) hb
  unfold F_X7_sizeOf
  rw [c9 (by omega), h1, h2, h3]
  unfold szV szT
  rcases kind_5 hk with q | q | q | q | q
  · rw [if_neg (by rw [q]; decide), if_pos (by rw [q]; decide), if_neg (show ¬ g 7 4 (9 + b) = 2 by rw [q]; decide), if_neg (show ¬ g 7 4 (9 + b) = 5 by rw [q]; decide), if_neg (show ¬ g 7 4 (9 + b) = 4 by rw [q]; decide), if_neg (show ¬ g 7 4 (9 + b) = 2 by rw [q]; decide), if_neg (show ¬ g 7 4 (9 + b) = 5 by rw [q]; decide), if_neg (show ¬ g 7 4 (9 + b) = 4 by rw [q]; decide)]
  · rw [if_pos q, if_pos q, if_pos q]
    exact Prod.ext rfl rfl
  · rw [if_neg (by rw [q]; decide), if_pos (by rw [q]; decide), if_neg (show ¬ g 7 4 (9 + b) = 2 by rw [q]; decide), if_neg (show ¬ g 7 4 (9 + b) = 5 by rw [q]; decide), if_neg (show ¬ g 7 4 (9 + b) = 4 by rw [q]; decide), if_neg (show ¬ g 7 4 (9 + b) = 2 by rw [q]; decide), if_neg (show ¬ g 7 4 (9 + b) = 5 by rw [q]; decide), if_neg (show ¬ g 7 4 (9 + b) = 4 by rw [q]; decide)]
  · have n2 : ¬ g 7 4 (9 + b) = 2 := by rw [q]; decide
    have n4 : ¬ g 7 4 (9 + b) < 4 := by rw [q]; decide
    have n5 : ¬ g 7 4 (9 + b) = 5 := by rw [q]; decide
    simp only [if_neg n2, if_neg n4, if_neg n5, if_pos q]
  · have n2 : ¬ g 7 4 (9 + b) = 2 := by rw [q]; decide
    have n4 : ¬ g 7 4 (9 + b) < 4 := by rw [q]; decide
    simp only [if_neg n2, if_neg n4, if_pos q]
/-! the class' answers -/
theorem body_k : F_X1_markBody 1 = 21 ∧ F_X1_markBody 2 = 24 ∧ F_X1_markBody 3 = 22 ∧ F_X1_markBody 4 = 23 ∧ F_X1_markBody 5 = 23 ∧ F_X1_sizeBody 1 = 11 ∧ F_X1_sizeBody 2 = 12 ∧ F_X1_sizeBody 3 = 11 ∧ F_X1_sizeBody 4 = 13 ∧ F_X1_sizeBody 5 = 14 := by decide
theorem cMk {s : mm_g} {b n : Nat} {d : Int32} (v : Vd (s 2 0)) (hb : b < nb (s 2 0)) (h0 : d ≤ 12) (h1 : d + 1 ≤ 12) (h2 : d + 1 + 1 ≤ 12) (h3 : d + 1 + 1 + 1 ≤ 12) : F_X1_give 0 (nI b) (n + 4) s (F_X1_markBody (s 2 0 (9 + b))) d = (mkV (s 2 0) b, lvs (mkT (s 2 0 (9 + b))) s) := by
  have hs := stockOf_F v hb
  have hw := warmOf_F v hb
  have hk := kindOf_F v hb
  obtain ⟨m1, m2, m3, m4, m5, s1, s2, s3, s4, s5⟩ := body_k
  unfold mkV mkT
  rcases kind_5 (v.bed b hb).1 with q | q | q | q | q
  · rw [q, m1, gv21 h0 h1, hw, if_neg (by decide), if_neg (by decide), if_pos rfl, if_neg (by decide), if_neg (by decide), if_pos rfl]
  · rw [q, m2, gv24 h0 h1 h2, hw, if_pos rfl, if_pos rfl]
  · rw [q, m3, gv22 h0 h1 h2, hw, if_neg (by decide), if_pos rfl, if_neg (by decide), if_pos rfl]
  · rw [q, m4, gv23 (l := [13, 10]) (v := s 2 0 (18 + b) - 100) h0 h1 (fun s' hs' => by rw [hk, q, s4, gv13 h1 h2, st_o hs', hs]), if_neg (by decide), if_neg (by decide), if_neg (by decide), if_neg (by decide), if_neg (by decide), if_neg (by decide), if_neg (by decide), if_neg (by decide)]
  · rw [q, m5, gv23 (l := [14, 13, 10]) (v := 2 * (s 2 0 (18 + b) - 100)) h0 h1 (fun s' hs' => by rw [hk, q, s5, gv14 h1 h2 h3, st_o hs', hs]), if_neg (by decide), if_neg (by decide), if_neg (by decide), if_pos rfl, if_neg (by decide), if_neg (by decide), if_neg (by decide), if_pos rfl]
theorem cCs {s : mm_g} {b n : Nat} {d : Int32} (v : Vd (s 2 0)) (hb : b < nb (s 2 0)) (h0 : d ≤ 12) (h1 : d + 1 ≤ 12) (h2 : d + 1 + 1 ≤ 12) (h3 : d + 1 + 1 + 1 ≤ 12) (h4 : d + 1 + 1 + 1 + 1 ≤ 12) : F_X1_give 0 (nI b) (n + 5) s 11 d = (s 2 0 (18 + b) + mkV (s 2 0) b, lvs (11 :: 10 :: mkT (s 2 0 (9 + b))) s) := by
  rw [gv11 (n := n + 3) (v := mkV (s 2 0) b) (l := mkT (s 2 0 (9 + b))) h0 h1 (fun s' hs' => by
    have e : s' 2 0 = s 2 0 := congrFun hs' 0
    rw [kindOf_F v hb]
    have h := cMk (s := s') (b := b) (n := n) (d := d + 1) (by rw [e]; exact v) (by rw [e]; exact hb) h1 h2 h3 h4
    rw [e] at h
    exact h), stockOf_F v hb]
theorem cSz {s : mm_g} {b n : Nat} {d : Int32} (v : Vd (s 2 0)) (hb : b < nb (s 2 0)) (h0 : d ≤ 12) (h1 : d + 1 ≤ 12) (h2 : d + 1 + 1 ≤ 12) (h3 : d + 1 + 1 + 1 ≤ 12) (h4 : d + 1 + 1 + 1 + 1 ≤ 12) (h5 : d + 1 + 1 + 1 + 1 + 1 ≤ 12) : F_X1_give 0 (nI b) (n + 6) s (F_X1_sizeBody (s 2 0 (9 + b))) d = (szV (s 2 0) b, lvs (szT (s 2 0 (9 + b))) s) := by
  have hs := stockOf_F v hb
  obtain ⟨m1, m2, m3, m4, m5, s1, s2, s3, s4, s5⟩ := body_k
  unfold szV szT
  rcases kind_5 (v.bed b hb).1 with q | q | q | q | q
  · rw [q, s1, cCs (n := n + 1) v hb h0 h1 h2 h3 h4, q, if_neg (by decide), if_neg (by decide), if_neg (by decide), if_neg (by decide), if_neg (by decide), if_neg (by decide)]
  · have e : (F_X1_leave s 12) 2 0 = s 2 0 := congrFun lv_2 0
    have h := cCs (s := F_X1_leave s 12) (b := b) (n := n) (d := d + 1) (by rw [e]; exact v) (by rw [e]; exact hb) h1 h2 h3 h4 h5
    rw [e] at h
    rw [q, s2, gv12 h0 h, q, if_pos rfl, if_pos rfl]
  · rw [q, s3, cCs (n := n + 1) v hb h0 h1 h2 h3 h4, q, if_neg (by decide), if_neg (by decide), if_neg (by decide), if_neg (by decide), if_neg (by decide), if_neg (by decide)]
  · rw [q, s4, gv13 h0 h1, hs, if_neg (by decide), if_neg (by decide), if_pos rfl, if_neg (by decide), if_neg (by decide), if_pos rfl]
  · rw [q, s5, gv14 h0 h1 h2, hs, if_neg (by decide), if_pos rfl, if_neg (by decide), if_pos rfl]
theorem mkV_eq {f f2 : Fl} {b : Nat} (e : EqF f f2) (hb : b < nb f) : mkV f2 b = mkV f b ∧ szV f2 b = szV f b := by
  have h := e.bed b hb
  have h1 : mkV f2 b = mkV f b := by
    unfold mkV
    rw [h.1, h.2.1, h.2.2]
  refine ⟨h1, ?_⟩
  unfold szV
  rw [h1, h.1, h.2.1]
theorem e_ask {n : Nat} {g : mm_g} {x1 x2 : Int32} (hr : Rel n g) : Ok n g (F_X6_ask g x1 x2) (fun s => F_X7_ask s x1 x2) ∧ Fr g (F_X6_ask g x1 x2).2 := by
  have hv := hr.now.1
  have he := hr.now.2.2.1
  have h9 := hv.n9
  by_cases q1 : hasF (g 2 0) x1 = 0
  · refine Ok_b hr (a := -1000001) ?_ ?_
    · unfold F_X6_ask; rw [no_bed2 hr, if_pos q1]
    · show F_X7_ask g x1 x2 = _
      unfold F_X7_ask; rw [no_bed hr, if_pos q1]
  · by_cases q2 : F_X6_within x2 0 1 = 0
    · refine Ok_b hr (a := -1000001) ?_ ?_
      · unfold F_X6_ask; rw [no_bed2 hr, if_neg q1, if_pos q2]
      · show F_X7_ask g x1 x2 = _
        unfold F_X7_ask; rw [no_bed hr, if_neg q1, in_w (a := 0) (b := 1) (A := 0) (B := 1) rfl rfl, if_pos q2]
    · obtain ⟨b, hb, e⟩ := (hasF_iff hv).mp q1
      subst e
      have hB := he.bed b hb
      have e0 : (wr g 1 0 0 0) 2 0 = g 2 0 := wr_nk (by decide)
      have v0 : Vd ((wr g 1 0 0 0) 2 0) := by rw [e0]; exact hv
      have b0 : b < nb ((wr g 1 0 0 0) 2 0) := by rw [e0]; exact hb
      have hC : ∃ v l, F_X6_ask g (nI b) x2 = (v, lvs l (wr g 1 0 0 0)) ∧ ∀ gc : mm_g, (∀ k, gc 7 k = g 7 k) → F_X7_ask gc (nI b) x2 = (v, bgs l (wr gc 7 0 10 0)) := by
        rcases two_cases q2 with z | z
        · refine ⟨szV (g 2 0) b, szT (g 2 0 (9 + b)), ?_, fun gc e7 => ?_⟩
          · have h := cSz (s := wr g 1 0 0 0) (n := 7) (d := 0) v0 b0 (by decide) (by decide) (by decide) (by decide) (by decide) (by decide)
            rw [e0] at h
            unfold F_X6_ask F_X1_answer
            rw [no_bed2 hr, if_neg q1, if_neg q2, if_pos z, kindOf_F v0 b0, e0, h]
          · have e4 : (wr gc 7 0 10 0) 7 4 = g 7 4 := by rw [wr_nk (by decide), e7]
            unfold F_X7_ask
            rw [bed_7 hr e7, if_neg q1, in_w (a := 0) (b := 1) (A := 0) (B := 1) rfl rfl, if_neg q2, if_pos z, rSz (by omega) (by rw [e4, ← hB.1]; exact (hv.bed b hb).1), e4, (mkV_eq he hb).2, ← hB.1]
        · refine ⟨mkV (g 2 0) b, mkT (g 2 0 (9 + b)), ?_, fun gc e7 => ?_⟩
          · have h := cMk (s := wr g 1 0 0 0) (n := 9) (d := 0) v0 b0 (by decide) (by decide) (by decide) (by decide)
            rw [e0] at h
            unfold F_X6_ask F_X1_answer
            rw [no_bed2 hr, if_neg q1, if_neg q2, if_neg (by rw [z]; decide), kindOf_F v0 b0, e0, h]
          · have e4 : (wr gc 7 0 10 0) 7 4 = g 7 4 := by rw [wr_nk (by decide), e7]
            unfold F_X7_ask
            rw [bed_7 hr e7, if_neg q1, in_w (a := 0) (b := 1) (A := 0) (B := 1) rfl rfl, if_neg q2, if_neg (by rw [z]; decide), rMk (by omega), e4, (mkV_eq he hb).1, ← hB.1]
      obtain ⟨v, l, c1, c2⟩ := hC
      have e7 : ∀ k, lvs l (wr g 1 0 0 0) 7 k = g 7 k := fun k => (lvs_o (by decide) l _).trans (wr_nk (by omega))
      have hFr : Fr g (lvs l (wr g 1 0 0 0)) := ⟨e7, (lvs_o (by decide) l _).trans (wr_nk (by decide)), (lvs_o (by decide) l _).trans (wr_nk (by decide))⟩
      have hp : ∀ t k j, t ≠ 1 → ¬ (t = 7 ∧ (k = 12 ∨ (k = 0 ∧ j = 10))) → bgs l (wr (lvs l (wr g 1 0 0 0)) 7 0 10 0) t k j = g t k j := fun t k j x y => by
        rw [bgs_o y, wr_at, if_neg (by omega), lvs_o x, wr_nk (fun z => x z.1)]
      refine Ok_y (n := n) (s := bgs l (wr (lvs l (wr g 1 0 0 0)) 7 0 10 0)) c1 (c2 _ e7) hFr (fun t k x => ?_) ?_ ?_
      · funext j
        rw [bgs_o (fun z => x z.1), wr_nk (fun z => x z.1)]
      · obtain ⟨a1, a2, a3, a4, a5, a6, a7⟩ := hr.1
        refine ⟨a1.q (fun t k j u => by unfold uRow at u; exact hp t k j (by omega) (by omega)), a2.q (fun t k j u => by unfold uTape at u; exact hp t k j (by omega) (by omega)), a3.q (fun t k j u => by unfold uMsg at u; exact hp t k j (by omega) (by omega)), a4.q (fun t k j u => by unfold uNow at u; exact hp t k j (by omega) (by omega)), a5.q (fun t k j u => by unfold uActs at u; exact hp t k j (by omega) (by omega)), a6.q (fun t k j u => by unfold uImg at u; exact hp t k j (by omega) (by omega)), ?_⟩
        have hT : TT (wr g 1 0 0 0) (wr (lvs l (wr g 1 0 0 0)) 7 0 10 0) := ⟨0, by decide, by rw [wr_ss, if_pos rfl]; rfl, by rw [wr_ss, if_pos rfl]; rfl, fun i hi => absurd hi (Nat.not_lt_zero _)⟩
        obtain ⟨m, m1, m2, m3, m4⟩ := TT_l l _ _ hT
        refine ⟨m, m1, ?_, m3, fun i hi => ?_⟩
        · rw [bgs_o (by decide), wr_nk (by decide)]; exact m2
        · rw [bgs_o (by omega), wr_nk (by decide)]; exact m4 i hi
      · rw [hp 6 0 1 (by decide) (by decide), hp 7 0 0 (by decide) (by decide)]
        exact hr.2
