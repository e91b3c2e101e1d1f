theorem cu_n {g : mm_g} (hB : okB g) : ∃ t : Nat, t ≤ 511 ∧ (((1 : Int32) <<< (g 7 4 0 &&& 31)) - 1) &&& (g 7 4 5 ^^^ (-1)) = nI t := by
  obtain ⟨m, hm, he⟩ := vp_in_of (vp_in_iff.mpr (show 0 ≤ (g 7 4 0).toInt ∧ (g 7 4 0).toInt < (10 : Nat) by have h1 := hB.1; have h2 := hB.2; omega)) (by decide)
  rw [he]
  have ha : ∀ k : Fin 10, ((((1 : Int32) <<< (nI k.val &&& 31)) - 1).toBitVec.toNat ≤ 511) := by decide
  generalize hy : g 7 4 5 ^^^ (-1) = y
  have h1 : ((((1 : Int32) <<< (nI m &&& 31)) - 1) &&& y).toBitVec.toNat ≤ 511 := by
    rw [Int32.toBitVec_and, BitVec.toNat_and]
    exact Nat.le_trans Nat.and_le_left (ha ⟨m, hm⟩)
  refine ⟨_, h1, ?_⟩
  refine Int32.toBitVec_inj.mp (BitVec.eq_of_toNat_eq ?_)
  rw [pk_tn (by omega)]
def g00 : mm_g := fun _ _ _ => 0
theorem ones_4e (g : mm_g) (x : Int32) (K : Int32 → Int32 → Int32) : ∀ (n : Nat) (a b : Int32), F_X7_ones_4 g x K n a b = F_X7_ones_4 g00 x K n a b
  | 0, a, b => rfl
  | n + 1, a, b => by
    unfold F_X7_ones_4
    rw [ones_4e g x K n]
theorem ones_e (g : mm_g) (x : Int32) : F_X7_ones g x = F_X7_ones g00 x := by
  unfold F_X7_ones
  exact ones_4e g x _ _ _ _
theorem ones_all : (List.range 512).all (fun t => decide ((F_X7_ones g00 (nI t)).toInt.toNat ≤ 9)) = true := by decide +kernel
theorem ones_9 {g : mm_g} {t : Nat} (h : t ≤ 511) : (F_X7_ones g (nI t)).toInt.toNat ≤ 9 := by
  rw [ones_e]
  exact of_decide_eq_true (List.all_eq_true.mp ones_all t (List.mem_range.mpr (by omega)))
theorem p_le : ∀ k : Fin 10, (10 : Int) ^ k.val ≤ 1000000000 := by decide
theorem fl_0 {g : mm_g} (hB : okB g) : (0 < (1 : Int64).toInt ∧ (1 : Int64).toInt * 10 ^ (F_X7_ones g ((((1 : Int32) <<< (g 7 4 0 &&& 31)) - 1) &&& (g 7 4 5 ^^^ (-1)))).toInt.toNat ≤ 1000000000) ∧ (F_X7_ones g ((((1 : Int32) <<< (g 7 4 0 &&& 31)) - 1) &&& (g 7 4 5 ^^^ (-1)))).toInt.toNat < 11 := by
  obtain ⟨t, ht, he⟩ := cu_n hB
  rw [he]
  have h1 := ones_9 (g := g) ht
  have h2 := p_le ⟨(F_X7_ones g (nI t)).toInt.toNat, by omega⟩
  have e1 : (1 : Int64).toInt = 1 := rfl
  rw [e1]
  refine ⟨⟨by decide, ?_⟩, by omega⟩
  rw [Int.one_mul]
  exact h2
theorem cu_4 {g : mm_g} (hB : okB g) : 0 ≤ ((((1 : Int32) <<< (g 7 4 0 &&& 31)) - 1) &&& (g 7 4 5 ^^^ (-1))).toInt ∧ ((((1 : Int32) <<< (g 7 4 0 &&& 31)) - 1) &&& (g 7 4 5 ^^^ (-1))).toInt ≤ 511 := by
  obtain ⟨t, ht, he⟩ := cu_n hB
  rw [he, nI_toInt (by omega)]
  omega
theorem p_10 {x : Int32} (h : ¬ F_X7_in x.toInt64 0 10 = 0) : 0 ≤ x.toInt ∧ x.toInt ≤ 10 := by
  have h1 := F_X7_in_1 h
  have e0 : (0 : Int64).toInt = 0 := rfl
  have e1 : (10 : Int64).toInt = 10 := rfl
  rw [Int32.toInt_toInt64] at h1
  omega
theorem fl_1 {q : Int64} {c : Int32} {n : Nat} (hq : 0 < q.toInt ∧ q.toInt * 10 ^ c.toInt.toNat ≤ 1000000000) (h : ¬ c ≤ 0) (hm : c.toInt.toNat < n + 1) : (0 < (q * 10).toInt ∧ (q * 10).toInt * 10 ^ (c + (-1)).toInt.toNat ≤ 1000000000) ∧ (c + (-1)).toInt.toNat < n := by
  rw [toI_le] at h
  have e0 : (0 : Int32).toInt = 0 := rfl
  have em : (-1 : Int32).toInt = -1 := rfl
  have e10 : (10 : Int64).toInt = 10 := rfl
  have hc := Int32.toInt_lt c
  have h1 : (c + (-1)).toInt = c.toInt - 1 := by
    rw [Int32.toInt_add, em, Int.bmod_eq_of_le_mul_two (by omega) (by omega)]
    omega
  obtain ⟨k, hk⟩ : ∃ k : Nat, c.toInt.toNat = k + 1 := ⟨c.toInt.toNat - 1, by omega⟩
  have h2 : (c + (-1)).toInt.toNat = k := by rw [h1]; omega
  have hp : (1 : Int) ≤ 10 ^ k := Int.pow_pos (by decide)
  rw [hk, Int.pow_succ] at hq
  rw [h2]
  generalize (10 : Int) ^ k = P at hp hq ⊢
  have h5 : q.toInt * (P * 10) = q.toInt * 10 * P := by rw [Int.mul_comm P 10, Int.mul_assoc]
  have hq2 := hq.2
  rw [h5] at hq2
  have hq1 := hq.1
  clear hq h5
  have h3 : q.toInt * 10 * 1 ≤ q.toInt * 10 * P := Int.mul_le_mul_of_nonneg_left hp (by omega)
  have h7 : q.toInt * 10 ≤ 1000000000 := by
    rw [Int.mul_one] at h3
    exact Int.le_trans h3 hq2
  have h6 : (q * 10).toInt = q.toInt * 10 := by
    clear h3 hq2
    rw [Int64.toInt_mul, e10, Int.bmod_eq_of_le_mul_two (by omega) (by omega)]
  rw [h6]
  refine ⟨⟨by clear h3 hq2; omega, hq2⟩, by clear h3 hq2; omega⟩
theorem fl_n {x : Int32} (h : 0 ≤ x.toInt ∧ x.toInt ≤ 511) : x.toInt.toNat + 1 - 0 < 514 := by omega
theorem fl_b {x : Int32} {j : Nat} (hj : j ≤ x.toInt.toNat + 1) (h4 : 0 ≤ x.toInt ∧ x.toInt ≤ 511) : j ≤ 512 := by omega
theorem fl_s {a : Int64} {j : Nat} (ha : 0 ≤ a.toInt ∧ a.toInt ≤ j * 1000000000) : 0 ≤ a.toInt ∧ a.toInt ≤ ((j + 1 : Nat) : Int) * 1000000000 := by omega
theorem fl_p {a p : Int64} {j : Nat} (ha : 0 ≤ a.toInt ∧ a.toInt ≤ j * 1000000000) (hj : j ≤ 512) (hp : 0 ≤ p.toInt ∧ p.toInt ≤ 1000000000) : 0 ≤ (a + p).toInt ∧ (a + p).toInt ≤ ((j + 1 : Nat) : Int) * 1000000000 := by
  rw [Int64.toInt_add, Int.bmod_eq_of_le_mul_two (by omega) (by omega)]
  omega
theorem fl_z {a : Int64} {j : Nat} (ha : 0 ≤ a.toInt ∧ a.toInt ≤ j * 1000000000) : 0 ≤ (a + 0).toInt ∧ (a + 0).toInt ≤ ((j + 1 : Nat) : Int) * 1000000000 := by
  rw [Int64.add_zero]
  omega
theorem fl_k {p : Int64} {i : Nat} {x : Int32} (hi : i ≤ x.toInt.toNat) (hx : x.toInt.toNat ≤ 9) (hp : 0 ≤ p.toInt ∧ p.toInt ≤ 10 ^ i) : 0 ≤ p.toInt ∧ p.toInt ≤ 1000000000 := ⟨hp.1, Int.le_trans hp.2 (p_le ⟨i, by omega⟩)⟩
theorem fl_9 {g : mm_g} {i : Nat} (hi : i ≤ (g 7 4 0).toInt.toNat) (hB : okB g) : i ≤ 9 := Nat.le_trans hi (okB_9 hB)
theorem fl_x {p f : Int64} {i : Nat} (hp : 0 ≤ p.toInt ∧ p.toInt ≤ 10 ^ i) (hf : 0 ≤ f.toInt ∧ f.toInt ≤ 10) (hi : i ≤ 9) : 0 ≤ (p * f).toInt ∧ (p * f).toInt ≤ 10 ^ (i + 1) := by
  have h1 : (10 : Int) ^ i ≤ 1000000000 := p_le ⟨i, by omega⟩
  rw [Int.pow_succ]
  generalize (10 : Int) ^ i = P at hp h1 ⊢
  have h2 : 0 ≤ p.toInt * f.toInt := Int.mul_nonneg hp.1 hf.1
  have h3 : p.toInt * f.toInt ≤ P * 10 := Int.mul_le_mul hp.2 hf.2 hf.1 (Int.le_trans hp.1 hp.2)
  have h4 : (p * f).toInt = p.toInt * f.toInt := by
    rw [Int64.toInt_mul]
    generalize p.toInt * f.toInt = z at h2 h3 ⊢
    rw [Int.bmod_eq_of_le_mul_two (by omega) (by omega)]
  rw [h4]
  exact ⟨h2, h3⟩
theorem fl_g {x : Int32} (h : 0 ≤ x.toInt ∧ x.toInt ≤ 10) : 0 ≤ x.toInt64.toInt ∧ x.toInt64.toInt ≤ 10 := by
  rw [Int32.toInt_toInt64]
  exact h
theorem fl_h {x : Int32} (h : 0 ≤ x.toInt ∧ x.toInt ≤ 10) : 0 ≤ (10 - x).toInt64.toInt ∧ (10 - x).toInt64.toInt ≤ 10 := by
  have e : (10 : Int32).toInt = 10 := rfl
  rw [Int32.toInt_toInt64, Int32.toInt_sub, e, Int.bmod_eq_of_le_mul_two (by omega) (by omega)]
  omega
theorem gc_p {v : Int64} (h : 0 ≤ v.toInt) (c : ¬ lg_cmp v 0 = 0) : 0 < v.toInt := by
  have h1 := ne_lc c
  have h2 : v.toInt ≠ 0 := fun q => h1 (Int64.toInt_inj.mp q)
  omega
theorem gc_m {u v : Int64} {n : Nat} (hu : 0 ≤ u.toInt) (hv : 0 ≤ v.toInt) (c : ¬ lg_cmp v 0 = 0) (hm : v.toInt.toNat < n + 1) : (u - u / v * v).toInt.toNat < n := by
  have h1 := l_rem hu (gc_p hv c)
  omega
theorem gc_u {u v : Int64} (hz : 0 < u.toInt ∨ 0 < v.toInt) (he : lg_cmp v 0 = 0) : ¬ u = 0 := fun q => by
  have h1 := (lg_cmp_eq v 0).mp he
  rw [q, h1] at hz
  have e0 : (0 : Int64).toInt = 0 := rfl
  omega
def F_X7_flood_75 (g75 : mm_g) (x1 : Int32) (x2 : Int32) (x3 : Int32) (f4 : Int32) (f5 : Int64) (K : Int64 → Int32 → Int64) : Nat → Int64 → Int32 → Int64
  | 0, q, c => K q c
  | n + 1, q, c => (if c ≤ 0 then K q c else F_X7_flood_75 g75 x1 x2 x3 f4 f5 K n (q * 10) (c + (-1)))
def F_X7_flood_120 (g120 : mm_g) (x1 : Int32) (x2 : Int32) (x3 : Int32) (f4 : Int32) (a : Int64) (q75 : Int64) (j : Nat) (K : Int64 → Nat → Int64) : Nat → Int64 → Nat → Int64
  | 0, p, i => K p i
  | n + 1, p, i => (if (g120 7 4 0) ≤ (nI i) then K p i else (if (F_X7_has f4 (nI i)) = 0 then F_X7_flood_120 g120 x1 x2 x3 f4 a q75 j K n (p * 1) (i + 1) else (if (F_X7_has (nI j) (nI i)) = 0 then F_X7_flood_120 g120 x1 x2 x3 f4 a q75 j K n (p * ((10 - x2).toInt64)) (i + 1) else F_X7_flood_120 g120 x1 x2 x3 f4 a q75 j K n (p * (x2.toInt64)) (i + 1))))
def F_X7_flood_97 (g97 : mm_g) (x1 : Int32) (x2 : Int32) (x3 : Int32) (f4 : Int32) (q75 : Int64) (K : Int64 → Nat → Int64) : Nat → Int64 → Nat → Int64
  | 0, a, j => K a j
  | n + 1, a, j => (if f4 < (nI j) then K a j else (if ((nI j) &&& (f4 ^^^ (-1))) = 0 then (F_X7_flood_120 g97 x1 x2 x3 f4 a q75 j (fun (p120 : Int64) (i120 : Nat) => (if ((((g97 7 4 (6 + x1).toNatClampNeg) + (F_X7_bringFor g97 x1 (511 &&& ((nI j) ^^^ (-1))))) - (g97 7 4 (7 - x1).toNatClampNeg)) - (F_X7_bringFor g97 (1 - x1) (511 &&& ((nI j) ^^^ (-1))))) ≤ 0 then F_X7_flood_97 g97 x1 x2 x3 f4 q75 K n (a + 0) (j + 1) else F_X7_flood_97 g97 x1 x2 x3 f4 q75 K n (a + p120) (j + 1))) ((g97 7 4 0).toInt.toNat + 1) 1 0) else F_X7_flood_97 g97 x1 x2 x3 f4 q75 K n a (j + 1)))
def F_X7_flood_257 (g257 : mm_g) (x1 : Int32) (x2 : Int32) (x3 : Int32) (f4 : Int32) (a97 : Int64) (q75 : Int64) (K : Int64 → Int64 → Int64) : Nat → Int64 → Int64 → Int64
  | 0, u, v => K u v
  | n + 1, u, v => (if (lg_cmp v 0) = 0 then K u v else F_X7_flood_257 g257 x1 x2 x3 f4 a97 q75 K n v (u - u / v * v))
def F_X7_flood (g : mm_g) (x1 : Int32) (x2 : Int32) (x3 : Int32) : Int64 := (if (g 7 0 1) = 0 then -1000002 else (if (F_X7_isWho x1) = 0 then -1000001 else (if (F_X7_in (x2.toInt64) 0 10) = 0 then -1000001 else (if (F_X7_isWhat x3) = 0 then -1000001 else (F_X7_flood_75 g x1 x2 x3 ((((1 : Int32) <<< ((g 7 4 0) &&& 31)) - 1) &&& ((g 7 4 5) ^^^ (-1))) 0 (fun (q75 : Int64) (c75 : Int32) => (F_X7_flood_97 g x1 x2 x3 ((((1 : Int32) <<< ((g 7 4 0) &&& 31)) - 1) &&& ((g 7 4 5) ^^^ (-1))) q75 (fun (a97 : Int64) (j97 : Nat) => (F_X7_flood_257 g x1 x2 x3 ((((1 : Int32) <<< ((g 7 4 0) &&& 31)) - 1) &&& ((g 7 4 5) ^^^ (-1))) a97 q75 (fun (u257 : Int64) (v257 : Int64) => (if x3 = 0 then (a97 / u257) else (q75 / u257))) (q75.toInt.toNat + 1) a97 q75)) 514 0 0)) 11 1 (F_X7_ones g ((((1 : Int32) <<< ((g 7 4 0) &&& 31)) - 1) &&& ((g 7 4 5) ^^^ (-1)))))))))
set_option maxRecDepth 100000 in
set_option maxHeartbeats 4000000 in
theorem w_X7_flood_75 (l : Launch) (G : mm_G) {pr : Nat → Nat → Prop} {ad : Nat → Nat → Nat → Nat} (hw : mm_W pr) (g75 : mm_g) (x1 : Int32) (x2 : Int32) (x3 : Int32) (f4 : Int32) (f5 : Int64)  (K : Int64 → Int32 → Int64) (hK : ∀ (q : Int64) (c : Int32) (hq : 0 < q.toInt ∧ q.toInt * 10 ^ c.toInt.toNat ≤ 1000000000), V l G RX7 cX7_flood 15 (some .long) (rmk 5 153) (qL pr ad g75 (K q c)) 0 0 0 0 94 [(0, .ref (ad 7 0 0)), (1, .int x1), (2, .int x2), (3, .int x3), (4, .int f4), (5, .long f5), (7, .long q), (9, .int c)] [] pr ad g75) : ∀ (n : Nat) (q : Int64) (c : Int32) (hq : 0 < q.toInt ∧ q.toInt * 10 ^ c.toInt.toNat ≤ 1000000000) (hm : c.toInt.toNat < n), V l G RX7 cX7_flood 15 (some .long) (rmk 5 153) (qL pr ad g75 (F_X7_flood_75 g75 x1 x2 x3 f4 f5 K n q c)) 0 0 0 0 75 [(0, .ref (ad 7 0 0)), (1, .int x1), (2, .int x2), (3, .int x3), (4, .int f4), (5, .long f5), (7, .long q), (9, .int c)] [] pr ad g75 := by
  intro n
  induction n with
  | zero => intro q c hq hm; exact absurd hm (Nat.not_lt_zero _)
  | succ n ih =>
      intro q c hq hm
      refine V_iload dX7_flood_75 7 rfl ?_
      refine V_if_le (tgt := 94) dX7_flood_77 (by decide) (fun c_77 => ?_) (fun c_77 => ?_)
      · refine V_rp (R2 := K q c) (by simp only [F_X7_flood_75, if_pos c_77]) ?_
        refine V_lp [0, 1, 2, 3, 4, 5, 6, 7] rfl ?_
        exact hK q c (by assumption)
      · refine V_lload dX7_flood_80 6 rfl ?_
        refine V_ldc2 q_875 dX7_flood_82 ?_
        refine V_lmul dX7_flood_85 ?_
        refine V_lstore (L2 := [(7, .long (q * 10)), (0, .ref (ad 7 0 0)), (1, .int x1), (2, .int x2), (3, .int x3), (4, .int f4), (5, .long f5), (9, .int c)]) dX7_flood_86 (by decide) rfl ?_
        refine V_iinc (v := (c + (-1))) (L2 := [(9, .int (c + (-1))), (7, .long (q * 10)), (0, .ref (ad 7 0 0)), (1, .int x1), (2, .int x2), (3, .int x3), (4, .int f4), (5, .long f5)]) dX7_flood_88 7 rfl rfl (by decide) rfl ?_
        refine V_goto (tgt := 75) dX7_flood_91 (by decide) ?_
        refine V_rp (R2 := F_X7_flood_75 g75 x1 x2 x3 f4 f5 K n (q * 10) (c + (-1))) (by simp only [F_X7_flood_75, if_neg c_77]) ?_
        refine V_lp [2, 3, 4, 5, 6, 7, 1, 0] rfl ?_
        exact ih (q * 10) (c + (-1)) (by exact (fl_1 hq c_77 hm).1) (by exact (fl_1 hq c_77 hm).2) 
set_option maxRecDepth 100000 in
set_option maxHeartbeats 4000000 in
theorem w_X7_flood_120 (l : Launch) (G : mm_G) {pr : Nat → Nat → Prop} {ad : Nat → Nat → Nat → Nat} (hw : mm_W pr) (g120 : mm_g) (x1 : Int32) (x2 : Int32) (x3 : Int32) (f4 : Int32) (a : Int64) (q75 : Int64) (j : Nat)  (hB : okB g120) (hp0 : 0 ≤ x2.toInt ∧ x2.toInt ≤ 10) (K : Int64 → Nat → Int64) (hK : ∀ (p : Int64) (i : Nat) (hi : i ≤ (g120 7 4 0).toInt.toNat) (hp : 0 ≤ p.toInt ∧ p.toInt ≤ 10 ^ i), V l G RX7 cX7_flood 15 (some .long) (rmk 5 153) (qL pr ad g120 (K p i)) 0 0 0 0 176 [(0, .ref (ad 7 0 0)), (1, .int x1), (2, .int x2), (3, .int x3), (4, .int f4), (5, .long a), (7, .long q75), (9, .int (nI j)), (10, .long p), (12, .int (nI i))] [] pr ad g120) : ∀ (n : Nat) (p : Int64) (i : Nat) (hi : i ≤ (g120 7 4 0).toInt.toNat) (hp : 0 ≤ p.toInt ∧ p.toInt ≤ 10 ^ i) (hm : (g120 7 4 0).toInt.toNat - i < n), V l G RX7 cX7_flood 15 (some .long) (rmk 5 153) (qL pr ad g120 (F_X7_flood_120 g120 x1 x2 x3 f4 a q75 j K n p i)) 0 0 0 0 120 [(0, .ref (ad 7 0 0)), (1, .int x1), (2, .int x2), (3, .int x3), (4, .int f4), (5, .long a), (7, .long q75), (9, .int (nI j)), (10, .long p), (12, .int (nI i))] [] pr ad g120 := by
  intro n
  induction n with
  | zero => intro p i hi hp hm; exact absurd hm (Nat.not_lt_zero _)
  | succ n ih =>
      intro p i hi hp hm
      refine V_iload dX7_flood_120 9 rfl ?_
      refine V_aload_n dX7_flood_122 0 rfl ?_
      refine V_get (i := 5) inlX7 rfl (W_7 hw) rfl (by decide) q_94 rfl dX7_flood_123 ?_
      refine V_iconst (v := 0) dX7_flood_126 (by decide) ?_
      refine L_7_4_l 0 rfl (W_7 hw) (by unfold vp_in; decide) dX7_flood_127 ?_
      refine V_ic_ge (tgt := 176) dX7_flood_128 (by decide) (fun c_128 => ?_) (fun c_128 => ?_)
      · refine V_rp (R2 := K p i) (by simp only [F_X7_flood_120, if_pos c_128]) ?_
        refine V_lp [0, 1, 2, 3, 4, 5, 6, 7, 8, 9] rfl ?_
        exact hK p i (by assumption) (by assumption)
      · refine V_lload dX7_flood_131 8 rfl ?_
        refine V_iload dX7_flood_133 4 rfl ?_
        refine V_iload dX7_flood_135 9 rfl ?_
        refine V_cS (k_X7_has l G hw g120  f4 (nI i) ) hy_X7_has hz_X7_has q_488 rfl rfl rfl rfl ⟨by decide, by decide⟩ (Nat.le_of_ble_eq_true rfl) ⟨by decide, by decide⟩ dX7_flood_137 (V_kI ?_)
        refine V_if_ne (tgt := 147) dX7_flood_140 (by decide) (fun c_140 => ?_) (fun c_140 => ?_)
        · refine V_iload dX7_flood_147 7 rfl ?_
          refine V_iload dX7_flood_149 9 rfl ?_
          refine V_cS (k_X7_has l G hw g120  (nI j) (nI i) ) hy_X7_has hz_X7_has q_488 rfl rfl rfl rfl ⟨by decide, by decide⟩ (Nat.le_of_ble_eq_true rfl) ⟨by decide, by decide⟩ dX7_flood_151 (V_kI ?_)
          refine V_if_eq (tgt := 162) dX7_flood_154 (by decide) (fun c_154 => ?_) (fun c_154 => ?_)
          · refine V_bipush (v := 10) dX7_flood_162 (by decide) ?_
            refine V_iload_n dX7_flood_164 2 rfl ?_
            refine V_isub dX7_flood_165 ?_
            refine V_i2l dX7_flood_166 ?_
            refine V_lmul dX7_flood_167 ?_
            refine V_lstore (L2 := [(10, .long (p * ((10 - x2).toInt64))), (0, .ref (ad 7 0 0)), (1, .int x1), (2, .int x2), (3, .int x3), (4, .int f4), (5, .long a), (7, .long q75), (9, .int (nI j)), (12, .int (nI i))]) dX7_flood_168 (by decide) rfl ?_
            refine V_iinc (v := (nI (i + 1))) (L2 := [(12, .int (nI (i + 1))), (10, .long (p * ((10 - x2).toInt64))), (0, .ref (ad 7 0 0)), (1, .int x1), (2, .int x2), (3, .int x3), (4, .int f4), (5, .long a), (7, .long q75), (9, .int (nI j))]) dX7_flood_170 9 rfl (nI_1 _) (by decide) rfl ?_
            refine V_goto (tgt := 120) dX7_flood_173 (by decide) ?_
            refine V_rp (R2 := F_X7_flood_120 g120 x1 x2 x3 f4 a q75 j K n (p * ((10 - x2).toInt64)) (i + 1)) (by simp only [F_X7_flood_120, if_neg c_128, if_neg c_140, if_pos c_154]) ?_
            refine V_lp [2, 3, 4, 5, 6, 7, 8, 9, 1, 0] rfl ?_
            exact ih (p * ((10 - x2).toInt64)) (i + 1) (by exact (lp_up hi c_128 hm).1) (by first | with_reducible exact fl_x hp (by decide) (fl_9 hi hB) | with_reducible exact fl_x hp (fl_g hp0) (fl_9 hi hB) | with_reducible exact fl_x hp (fl_h hp0) (fl_9 hi hB)) (by exact (lp_up hi c_128 hm).2) 
          · refine V_iload_n dX7_flood_157 2 rfl ?_
            refine V_i2l dX7_flood_158 ?_
            refine V_goto (tgt := 167) dX7_flood_159 (by decide) ?_
            refine V_lmul dX7_flood_167 ?_
            refine V_lstore (L2 := [(10, .long (p * (x2.toInt64))), (0, .ref (ad 7 0 0)), (1, .int x1), (2, .int x2), (3, .int x3), (4, .int f4), (5, .long a), (7, .long q75), (9, .int (nI j)), (12, .int (nI i))]) dX7_flood_168 (by decide) rfl ?_
            refine V_iinc (v := (nI (i + 1))) (L2 := [(12, .int (nI (i + 1))), (10, .long (p * (x2.toInt64))), (0, .ref (ad 7 0 0)), (1, .int x1), (2, .int x2), (3, .int x3), (4, .int f4), (5, .long a), (7, .long q75), (9, .int (nI j))]) dX7_flood_170 9 rfl (nI_1 _) (by decide) rfl ?_
            refine V_goto (tgt := 120) dX7_flood_173 (by decide) ?_
            refine V_rp (R2 := F_X7_flood_120 g120 x1 x2 x3 f4 a q75 j K n (p * (x2.toInt64)) (i + 1)) (by simp only [F_X7_flood_120, if_neg c_128, if_neg c_140, if_neg c_154]) ?_
            refine V_lp [2, 3, 4, 5, 6, 7, 8, 9, 1, 0] rfl ?_
            exact ih (p * (x2.toInt64)) (i + 1) (by exact (lp_up hi c_128 hm).1) (by first | with_reducible exact fl_x hp (by decide) (fl_9 hi hB) | with_reducible exact fl_x hp (fl_g hp0) (fl_9 hi hB) | with_reducible exact fl_x hp (fl_h hp0) (fl_9 hi hB)) (by exact (lp_up hi c_128 hm).2) 
        · refine V_lconst (v := 1) dX7_flood_143 (by decide) ?_
          refine V_goto (tgt := 167) dX7_flood_144 (by decide) ?_
          refine V_lmul dX7_flood_167 ?_
          refine V_lstore (L2 := [(10, .long (p * 1)), (0, .ref (ad 7 0 0)), (1, .int x1), (2, .int x2), (3, .int x3), (4, .int f4), (5, .long a), (7, .long q75), (9, .int (nI j)), (12, .int (nI i))]) dX7_flood_168 (by decide) rfl ?_
          refine V_iinc (v := (nI (i + 1))) (L2 := [(12, .int (nI (i + 1))), (10, .long (p * 1)), (0, .ref (ad 7 0 0)), (1, .int x1), (2, .int x2), (3, .int x3), (4, .int f4), (5, .long a), (7, .long q75), (9, .int (nI j))]) dX7_flood_170 9 rfl (nI_1 _) (by decide) rfl ?_
          refine V_goto (tgt := 120) dX7_flood_173 (by decide) ?_
          refine V_rp (R2 := F_X7_flood_120 g120 x1 x2 x3 f4 a q75 j K n (p * 1) (i + 1)) (by simp only [F_X7_flood_120, if_neg c_128, if_pos c_140]) ?_
          refine V_lp [2, 3, 4, 5, 6, 7, 8, 9, 1, 0] rfl ?_
          exact ih (p * 1) (i + 1) (by exact (lp_up hi c_128 hm).1) (by first | with_reducible exact fl_x hp (by decide) (fl_9 hi hB) | with_reducible exact fl_x hp (fl_g hp0) (fl_9 hi hB) | with_reducible exact fl_x hp (fl_h hp0) (fl_9 hi hB)) (by exact (lp_up hi c_128 hm).2) 
set_option maxRecDepth 100000 in
set_option maxHeartbeats 4000000 in
theorem w_X7_flood_97 (l : Launch) (G : mm_G) {pr : Nat → Nat → Prop} {ad : Nat → Nat → Nat → Nat} (hw : mm_W pr) (g97 : mm_g) (x1 : Int32) (x2 : Int32) (x3 : Int32) (f4 : Int32) (q75 : Int64)  (hB : okB g97) (hv : vp_in x1 2) (hp0 : 0 ≤ x2.toInt ∧ x2.toInt ≤ 10) (h4 : 0 ≤ f4.toInt ∧ f4.toInt ≤ 511) (K : Int64 → Nat → Int64) (hK : ∀ (a : Int64) (j : Nat) (hj : j ≤ f4.toInt.toNat + 1) (ha : 0 ≤ a.toInt ∧ a.toInt ≤ j * 1000000000), V l G RX7 cX7_flood 15 (some .long) (rmk 5 153) (qL pr ad g97 (K a j)) 0 0 0 0 249 [(0, .ref (ad 7 0 0)), (1, .int x1), (2, .int x2), (3, .int x3), (4, .int f4), (5, .long a), (7, .long q75), (9, .int (nI j))] [] pr ad g97) : ∀ (n : Nat) (a : Int64) (j : Nat) (hj : j ≤ f4.toInt.toNat + 1) (ha : 0 ≤ a.toInt ∧ a.toInt ≤ j * 1000000000) (hm : f4.toInt.toNat + 1 - j < n), V l G RX7 cX7_flood 15 (some .long) (rmk 5 153) (qL pr ad g97 (F_X7_flood_97 g97 x1 x2 x3 f4 q75 K n a j)) 0 0 0 0 97 [(0, .ref (ad 7 0 0)), (1, .int x1), (2, .int x2), (3, .int x3), (4, .int f4), (5, .long a), (7, .long q75), (9, .int (nI j))] [] pr ad g97 := by
  intro n
  induction n with
  | zero => intro a j hj ha hm; exact absurd hm (Nat.not_lt_zero _)
  | succ n ih =>
      intro a j hj ha hm
      refine V_iload dX7_flood_97 7 rfl ?_
      refine V_iload dX7_flood_99 4 rfl ?_
      refine V_ic_gt (tgt := 249) dX7_flood_101 (by decide) (fun c_101 => ?_) (fun c_101 => ?_)
      · refine V_rp (R2 := K a j) (by simp only [F_X7_flood_97, if_pos c_101]) ?_
        refine V_lp [0, 1, 2, 3, 4, 5, 6, 7] rfl ?_
        exact hK a j (by assumption) (by assumption)
      · refine V_iload dX7_flood_104 7 rfl ?_
        refine V_iload dX7_flood_106 4 rfl ?_
        refine V_iconst (v := (-1)) dX7_flood_108 (by decide) ?_
        refine V_ixor dX7_flood_109 ?_
        refine V_iand dX7_flood_110 ?_
        refine V_if_ne (tgt := 243) dX7_flood_111 (by decide) (fun c_111 => ?_) (fun c_111 => ?_)
        · refine V_iinc (v := (nI (j + 1))) (L2 := [(9, .int (nI (j + 1))), (0, .ref (ad 7 0 0)), (1, .int x1), (2, .int x2), (3, .int x3), (4, .int f4), (5, .long a), (7, .long q75)]) dX7_flood_243 7 rfl (nI_1 _) (by decide) rfl ?_
          refine V_goto (tgt := 97) dX7_flood_246 (by decide) ?_
          refine V_rp (R2 := F_X7_flood_97 g97 x1 x2 x3 f4 q75 K n a (j + 1)) (by simp only [F_X7_flood_97, if_neg c_101, if_neg c_111]) ?_
          refine V_lp [1, 2, 3, 4, 5, 6, 7, 0] rfl ?_
          exact ih a (j + 1) (by exact (lp_ul (by omega) hj c_101 h4.1 hm).1) (by first | with_reducible exact fl_s ha | with_reducible exact fl_p ha (fl_b hj h4) (fl_k hi120 (okB_9 hB) hp120) | with_reducible exact fl_z ha) (by exact (lp_ul (by omega) hj c_101 h4.1 hm).2) 
        · refine V_lconst (v := 1) dX7_flood_114 (by decide) ?_
          refine V_lstore (L2 := [(10, .long 1), (0, .ref (ad 7 0 0)), (1, .int x1), (2, .int x2), (3, .int x3), (4, .int f4), (5, .long a), (7, .long q75), (9, .int (nI j))]) dX7_flood_115 (by decide) rfl ?_
          refine V_iconst (v := 0) dX7_flood_117 (by decide) ?_
          refine V_istore (L2 := [(12, .int 0), (10, .long 1), (0, .ref (ad 7 0 0)), (1, .int x1), (2, .int x2), (3, .int x3), (4, .int f4), (5, .long a), (7, .long q75), (9, .int (nI j))]) dX7_flood_118 (by decide) rfl ?_
          refine V_rp (R2 := F_X7_flood_120 g97 x1 x2 x3 f4 a q75 j (fun (p120 : Int64) (i120 : Nat) => (if ((((g97 7 4 (6 + x1).toNatClampNeg) + (F_X7_bringFor g97 x1 (511 &&& ((nI j) ^^^ (-1))))) - (g97 7 4 (7 - x1).toNatClampNeg)) - (F_X7_bringFor g97 (1 - x1) (511 &&& ((nI j) ^^^ (-1))))) ≤ 0 then F_X7_flood_97 g97 x1 x2 x3 f4 q75 K n (a + 0) (j + 1) else F_X7_flood_97 g97 x1 x2 x3 f4 q75 K n (a + p120) (j + 1))) ((g97 7 4 0).toInt.toNat + 1) 1 0) (by simp only [F_X7_flood_97, if_neg c_101, if_pos c_111]) ?_
          refine V_lp [2, 3, 4, 5, 6, 7, 8, 9, 1, 0] rfl ?_
          refine w_X7_flood_120 l G hw g97 x1 x2 x3 f4 a q75 j  (by exact hB) (by exact hp0) _ (fun p120 i120 hi120 hp120 => ?_) ((g97 7 4 0).toInt.toNat + 1) 1 0 (by exact Nat.zero_le _) (by decide) (by omega)
          refine V_aload_n dX7_flood_176 0 rfl ?_
          refine V_get (i := 5) inlX7 rfl (W_7 hw) rfl (by decide) q_94 rfl dX7_flood_177 ?_
          refine V_bipush (v := 6) dX7_flood_180 (by decide) ?_
          refine V_iload_n dX7_flood_182 1 rfl ?_
          refine V_iadd dX7_flood_183 ?_
          refine L_7_4 (W_7 hw) (by exact ix_6 (ix_23 hv)) dX7_flood_184 ?_
          refine V_aload_n dX7_flood_185 0 rfl ?_
          refine V_iload_n dX7_flood_186 1 rfl ?_
          refine V_sipush (v := 511) dX7_flood_187 (by decide) ?_
          refine V_iload dX7_flood_190 7 rfl ?_
          refine V_iconst (v := (-1)) dX7_flood_192 (by decide) ?_
          refine V_ixor dX7_flood_193 ?_
          refine V_iand dX7_flood_194 ?_
          refine V_cV (k_X7_bringFor l G hw g97  x1 (511 &&& ((nI j) ^^^ (-1))) hB) hy_X7_bringFor hi_X7_bringFor hs_X7_bringFor q_619 rfl rfl (W_7 hw) rfl rfl rfl rfl rfl ⟨by decide, by decide⟩ (Nat.le_of_ble_eq_true rfl) ⟨by decide, by decide⟩ dX7_flood_195 (V_kI ?_)
          refine V_iadd dX7_flood_198 ?_
          refine V_aload_n dX7_flood_199 0 rfl ?_
          refine V_get (i := 5) inlX7 rfl (W_7 hw) rfl (by decide) q_94 rfl dX7_flood_200 ?_
          refine V_bipush (v := 7) dX7_flood_203 (by decide) ?_
          refine V_iload_n dX7_flood_205 1 rfl ?_
          refine V_isub dX7_flood_206 ?_
          refine L_7_4 (W_7 hw) (by exact ix_7m hv) dX7_flood_207 ?_
          refine V_isub dX7_flood_208 ?_
          refine V_aload_n dX7_flood_209 0 rfl ?_
          refine V_iconst (v := 1) dX7_flood_210 (by decide) ?_
          refine V_iload_n dX7_flood_211 1 rfl ?_
          refine V_isub dX7_flood_212 ?_
          refine V_sipush (v := 511) dX7_flood_213 (by decide) ?_
          refine V_iload dX7_flood_216 7 rfl ?_
          refine V_iconst (v := (-1)) dX7_flood_218 (by decide) ?_
          refine V_ixor dX7_flood_219 ?_
          refine V_iand dX7_flood_220 ?_
          refine V_cV (k_X7_bringFor l G hw g97  (1 - x1) (511 &&& ((nI j) ^^^ (-1))) hB) hy_X7_bringFor hi_X7_bringFor hs_X7_bringFor q_619 rfl rfl (W_7 hw) rfl rfl rfl rfl rfl ⟨by decide, by decide⟩ (Nat.le_of_ble_eq_true rfl) ⟨by decide, by decide⟩ dX7_flood_221 (V_kI ?_)
          refine V_isub dX7_flood_224 ?_
          refine V_istore (L2 := [(12, .int ((((g97 7 4 (6 + x1).toNatClampNeg) + (F_X7_bringFor g97 x1 (511 &&& ((nI j) ^^^ (-1))))) - (g97 7 4 (7 - x1).toNatClampNeg)) - (F_X7_bringFor g97 (1 - x1) (511 &&& ((nI j) ^^^ (-1)))))), (0, .ref (ad 7 0 0)), (1, .int x1), (2, .int x2), (3, .int x3), (4, .int f4), (5, .long a), (7, .long q75), (9, .int (nI j)), (10, .long p120)]) dX7_flood_225 (by decide) rfl ?_
          refine V_lload dX7_flood_227 6 rfl ?_
          refine V_iload dX7_flood_229 0 rfl ?_
          refine V_if_le (tgt := 239) dX7_flood_231 (by decide) (fun c_231 => ?_) (fun c_231 => ?_)
          · refine V_lconst (v := 0) dX7_flood_239 (by decide) ?_
            refine V_ladd dX7_flood_240 ?_
            refine V_lstore (L2 := [(5, .long (a + 0)), (12, .int ((((g97 7 4 (6 + x1).toNatClampNeg) + (F_X7_bringFor g97 x1 (511 &&& ((nI j) ^^^ (-1))))) - (g97 7 4 (7 - x1).toNatClampNeg)) - (F_X7_bringFor g97 (1 - x1) (511 &&& ((nI j) ^^^ (-1)))))), (0, .ref (ad 7 0 0)), (1, .int x1), (2, .int x2), (3, .int x3), (4, .int f4), (7, .long q75), (9, .int (nI j)), (10, .long p120)]) dX7_flood_241 (by decide) rfl ?_
            refine V_iinc (v := (nI (j + 1))) (L2 := [(9, .int (nI (j + 1))), (5, .long (a + 0)), (12, .int ((((g97 7 4 (6 + x1).toNatClampNeg) + (F_X7_bringFor g97 x1 (511 &&& ((nI j) ^^^ (-1))))) - (g97 7 4 (7 - x1).toNatClampNeg)) - (F_X7_bringFor g97 (1 - x1) (511 &&& ((nI j) ^^^ (-1)))))), (0, .ref (ad 7 0 0)), (1, .int x1), (2, .int x2), (3, .int x3), (4, .int f4), (7, .long q75), (10, .long p120)]) dX7_flood_243 8 rfl (nI_1 _) (by decide) rfl ?_
            refine V_goto (tgt := 97) dX7_flood_246 (by decide) ?_
            refine V_rp (R2 := F_X7_flood_97 g97 x1 x2 x3 f4 q75 K n (a + 0) (j + 1)) (by simp only [if_pos c_231]) ?_
            refine V_lp [3, 4, 5, 6, 7, 1, 8, 0] rfl ?_
            exact ih (a + 0) (j + 1) (by exact (lp_ul (by omega) hj c_101 h4.1 hm).1) (by first | with_reducible exact fl_s ha | with_reducible exact fl_p ha (fl_b hj h4) (fl_k hi120 (okB_9 hB) hp120) | with_reducible exact fl_z ha) (by exact (lp_ul (by omega) hj c_101 h4.1 hm).2) 
          · refine V_lload dX7_flood_234 9 rfl ?_
            refine V_goto (tgt := 240) dX7_flood_236 (by decide) ?_
            refine V_ladd dX7_flood_240 ?_
            refine V_lstore (L2 := [(5, .long (a + p120)), (12, .int ((((g97 7 4 (6 + x1).toNatClampNeg) + (F_X7_bringFor g97 x1 (511 &&& ((nI j) ^^^ (-1))))) - (g97 7 4 (7 - x1).toNatClampNeg)) - (F_X7_bringFor g97 (1 - x1) (511 &&& ((nI j) ^^^ (-1)))))), (0, .ref (ad 7 0 0)), (1, .int x1), (2, .int x2), (3, .int x3), (4, .int f4), (7, .long q75), (9, .int (nI j)), (10, .long p120)]) dX7_flood_241 (by decide) rfl ?_
            refine V_iinc (v := (nI (j + 1))) (L2 := [(9, .int (nI (j + 1))), (5, .long (a + p120)), (12, .int ((((g97 7 4 (6 + x1).toNatClampNeg) + (F_X7_bringFor g97 x1 (511 &&& ((nI j) ^^^ (-1))))) - (g97 7 4 (7 - x1).toNatClampNeg)) - (F_X7_bringFor g97 (1 - x1) (511 &&& ((nI j) ^^^ (-1)))))), (0, .ref (ad 7 0 0)), (1, .int x1), (2, .int x2), (3, .int x3), (4, .int f4), (7, .long q75), (10, .long p120)]) dX7_flood_243 8 rfl (nI_1 _) (by decide) rfl ?_
            refine V_goto (tgt := 97) dX7_flood_246 (by decide) ?_
            refine V_rp (R2 := F_X7_flood_97 g97 x1 x2 x3 f4 q75 K n (a + p120) (j + 1)) (by simp only [if_neg c_231]) ?_
            refine V_lp [3, 4, 5, 6, 7, 1, 8, 0] rfl ?_
            exact ih (a + p120) (j + 1) (by exact (lp_ul (by omega) hj c_101 h4.1 hm).1) (by first | with_reducible exact fl_s ha | with_reducible exact fl_p ha (fl_b hj h4) (fl_k hi120 (okB_9 hB) hp120) | with_reducible exact fl_z ha) (by exact (lp_ul (by omega) hj c_101 h4.1 hm).2) 
set_option maxRecDepth 100000 in
set_option maxHeartbeats 4000000 in
theorem w_X7_flood_257 (l : Launch) (G : mm_G) {pr : Nat → Nat → Prop} {ad : Nat → Nat → Nat → Nat} (hw : mm_W pr) (g257 : mm_g) (x1 : Int32) (x2 : Int32) (x3 : Int32) (f4 : Int32) (a97 : Int64) (q75 : Int64)  (K : Int64 → Int64 → Int64) (hK : ∀ (u : Int64) (v : Int64) (hu : 0 ≤ u.toInt) (hv : 0 ≤ v.toInt) (hz : 0 < u.toInt ∨ 0 < v.toInt) (he : lg_cmp v 0 = 0), V l G RX7 cX7_flood 15 (some .long) (rmk 5 153) (qL pr ad g257 (K u v)) 0 0 0 0 282 [(0, .ref (ad 7 0 0)), (1, .int x1), (2, .int x2), (3, .int x3), (4, .int f4), (5, .long a97), (7, .long q75), (9, .long u), (11, .long v)] [] pr ad g257) : ∀ (n : Nat) (u : Int64) (v : Int64) (hu : 0 ≤ u.toInt) (hv : 0 ≤ v.toInt) (hz : 0 < u.toInt ∨ 0 < v.toInt) (hm : v.toInt.toNat < n), V l G RX7 cX7_flood 15 (some .long) (rmk 5 153) (qL pr ad g257 (F_X7_flood_257 g257 x1 x2 x3 f4 a97 q75 K n u v)) 0 0 0 0 257 [(0, .ref (ad 7 0 0)), (1, .int x1), (2, .int x2), (3, .int x3), (4, .int f4), (5, .long a97), (7, .long q75), (9, .long u), (11, .long v)] [] pr ad g257 := by
  intro n
  induction n with
  | zero => intro u v hu hv hz hm; exact absurd hm (Nat.not_lt_zero _)
  | succ n ih =>
      intro u v hu hv hz hm
      refine V_lload dX7_flood_257 8 rfl ?_
      refine V_lconst (v := 0) dX7_flood_259 (by decide) ?_
      refine V_lcmp dX7_flood_260 ?_
      refine V_if_eq (tgt := 282) dX7_flood_261 (by decide) (fun c_261 => ?_) (fun c_261 => ?_)
      · refine V_rp (R2 := K u v) (by simp only [F_X7_flood_257, if_pos c_261]) ?_
        refine V_lp [0, 1, 2, 3, 4, 5, 6, 7, 8] rfl ?_
        exact hK u v (by assumption) (by assumption) (by assumption) (by exact c_261)
      · refine V_lload dX7_flood_264 7 rfl ?_
        refine V_lload dX7_flood_266 8 rfl ?_
        refine V_lrem dX7_flood_268 (by exact ne_lc c_261) ?_
        refine V_lstore (L2 := [(13, .long (u - u / v * v)), (0, .ref (ad 7 0 0)), (1, .int x1), (2, .int x2), (3, .int x3), (4, .int f4), (5, .long a97), (7, .long q75), (9, .long u), (11, .long v)]) dX7_flood_269 (by decide) rfl ?_
        refine V_lload dX7_flood_271 9 rfl ?_
        refine V_lstore (L2 := [(9, .long v), (13, .long (u - u / v * v)), (0, .ref (ad 7 0 0)), (1, .int x1), (2, .int x2), (3, .int x3), (4, .int f4), (5, .long a97), (7, .long q75), (11, .long v)]) dX7_flood_273 (by decide) rfl ?_
        refine V_lload dX7_flood_275 1 rfl ?_
        refine V_lstore (L2 := [(11, .long (u - u / v * v)), (9, .long v), (13, .long (u - u / v * v)), (0, .ref (ad 7 0 0)), (1, .int x1), (2, .int x2), (3, .int x3), (4, .int f4), (5, .long a97), (7, .long q75)]) dX7_flood_277 (by decide) rfl ?_
        refine V_goto (tgt := 257) dX7_flood_279 (by decide) ?_
        refine V_rp (R2 := F_X7_flood_257 g257 x1 x2 x3 f4 a97 q75 K n v (u - u / v * v)) (by simp only [F_X7_flood_257, if_neg c_261]) ?_
        refine V_lp [3, 4, 5, 6, 7, 8, 9, 1, 0] rfl ?_
        exact ih v (u - u / v * v) (by exact hv) (by exact (l_rem hu (gc_p hv c_261)).1) (by exact Or.inl (gc_p hv c_261)) (by exact gc_m hu hv c_261 hm) 
set_option maxRecDepth 100000 in
set_option maxHeartbeats 4000000 in
theorem k_X7_flood (l : Launch) (G : mm_G) {pr : Nat → Nat → Prop} {ad : Nat → Nat → Nat → Nat} (hw : mm_W pr) (g : mm_g) (x1 : Int32) (x2 : Int32) (x3 : Int32) (hB : okB g)  : Mt l G yX7_flood cX7_flood 15 (some .long) (rmk 5 153) [.ref (ad 7 0 0), .int x1, .int x2, .int x3] pr ad g (qL pr ad g (F_X7_flood g x1 x2 x3)) 0 0 := by
  refine Mt_of (by decide) (Nat.le_of_ble_eq_true rfl) ?_
  show V l G RX7 cX7_flood 15 (some .long) _ _ 0 0 0 0 0 [(0, .ref (ad 7 0 0)), (1, .int x1), (2, .int x2), (3, .int x3)] [] pr ad g
  refine V_aload_n dX7_flood_0 0 rfl ?_
  refine V_get (i := 4) inlX7 rfl (W_7 hw) rfl (by decide) q_309 rfl dX7_flood_1 ?_
  refine V_if_ne (tgt := 11) dX7_flood_4 (by decide) (fun c_4 => ?_) (fun c_4 => ?_)
  · refine V_iload_n dX7_flood_11 1 rfl ?_
    refine V_cS (k_X7_isWho l G hw g  x1 ) hy_X7_isWho hz_X7_isWho q_540 rfl rfl rfl rfl ⟨by decide, by decide⟩ (Nat.le_of_ble_eq_true rfl) ⟨by decide, by decide⟩ dX7_flood_12 (V_kI ?_)
    refine V_if_eq (tgt := 37) dX7_flood_15 (by decide) (fun c_15 => ?_) (fun c_15 => ?_)
    · refine V_ldc2 q_876 dX7_flood_37 ?_
      exact V_lret dX7_flood_40 rfl (lfL (by simp only [F_X7_flood, if_neg c_4, if_pos c_15]))
    · refine V_iload_n dX7_flood_18 2 rfl ?_
      refine V_i2l dX7_flood_19 ?_
      refine V_lconst (v := 0) dX7_flood_20 (by decide) ?_
      refine V_ldc2 q_875 dX7_flood_21 ?_
      refine V_cS (k_X7_in l G hw g  (x2.toInt64) 0 10 ) hy_X7_in hz_X7_in q_135 rfl rfl rfl rfl ⟨by decide, by decide⟩ (Nat.le_of_ble_eq_true rfl) ⟨by decide, by decide⟩ dX7_flood_24 (V_kI ?_)
      refine V_if_eq (tgt := 37) dX7_flood_27 (by decide) (fun c_27 => ?_) (fun c_27 => ?_)
      · refine V_ldc2 q_876 dX7_flood_37 ?_
        exact V_lret dX7_flood_40 rfl (lfL (by simp only [F_X7_flood, if_neg c_4, if_neg c_15, if_pos c_27]))
      · refine V_iload_n dX7_flood_30 3 rfl ?_
        refine V_cS (k_X7_isWhat l G hw g  x3 ) hy_X7_isWhat hz_X7_isWhat q_668 rfl rfl rfl rfl ⟨by decide, by decide⟩ (Nat.le_of_ble_eq_true rfl) ⟨by decide, by decide⟩ dX7_flood_31 (V_kI ?_)
        refine V_if_ne (tgt := 41) dX7_flood_34 (by decide) (fun c_34 => ?_) (fun c_34 => ?_)
        · refine V_iconst (v := 1) dX7_flood_41 (by decide) ?_
          refine V_aload_n dX7_flood_42 0 rfl ?_
          refine V_get (i := 5) inlX7 rfl (W_7 hw) rfl (by decide) q_94 rfl dX7_flood_43 ?_
          refine V_iconst (v := 0) dX7_flood_46 (by decide) ?_
          refine L_7_4_l 0 rfl (W_7 hw) (by unfold vp_in; decide) dX7_flood_47 ?_
          refine V_ishl dX7_flood_48 ?_
          refine V_iconst (v := 1) dX7_flood_49 (by decide) ?_
          refine V_isub dX7_flood_50 ?_
          refine V_aload_n dX7_flood_51 0 rfl ?_
          refine V_get (i := 5) inlX7 rfl (W_7 hw) rfl (by decide) q_94 rfl dX7_flood_52 ?_
          refine V_iconst (v := 5) dX7_flood_55 (by decide) ?_
          refine L_7_4_l 5 rfl (W_7 hw) (by unfold vp_in; decide) dX7_flood_56 ?_
          refine V_iconst (v := (-1)) dX7_flood_57 (by decide) ?_
          refine V_ixor dX7_flood_58 ?_
          refine V_iand dX7_flood_59 ?_
          refine V_istore (L2 := [(4, .int ((((1 : Int32) <<< ((g 7 4 0) &&& 31)) - 1) &&& ((g 7 4 5) ^^^ (-1)))), (0, .ref (ad 7 0 0)), (1, .int x1), (2, .int x2), (3, .int x3)]) dX7_flood_60 (by decide) rfl ?_
          refine V_lconst (v := 0) dX7_flood_62 (by decide) ?_
          refine V_lstore (L2 := [(5, .long 0), (4, .int ((((1 : Int32) <<< ((g 7 4 0) &&& 31)) - 1) &&& ((g 7 4 5) ^^^ (-1)))), (0, .ref (ad 7 0 0)), (1, .int x1), (2, .int x2), (3, .int x3)]) dX7_flood_63 (by decide) rfl ?_
          refine V_lconst (v := 1) dX7_flood_65 (by decide) ?_
          refine V_lstore (L2 := [(7, .long 1), (5, .long 0), (4, .int ((((1 : Int32) <<< ((g 7 4 0) &&& 31)) - 1) &&& ((g 7 4 5) ^^^ (-1)))), (0, .ref (ad 7 0 0)), (1, .int x1), (2, .int x2), (3, .int x3)]) dX7_flood_66 (by decide) rfl ?_
          refine V_iload dX7_flood_68 2 rfl ?_
          refine V_cS (k_X7_ones l G hw g  ((((1 : Int32) <<< ((g 7 4 0) &&& 31)) - 1) &&& ((g 7 4 5) ^^^ (-1))) ) hy_X7_ones hz_X7_ones q_740 rfl rfl rfl rfl ⟨by decide, by decide⟩ (Nat.le_of_ble_eq_true rfl) ⟨by decide, by decide⟩ dX7_flood_70 (V_kI ?_)
          refine V_istore (L2 := [(9, .int (F_X7_ones g ((((1 : Int32) <<< ((g 7 4 0) &&& 31)) - 1) &&& ((g 7 4 5) ^^^ (-1))))), (7, .long 1), (5, .long 0), (4, .int ((((1 : Int32) <<< ((g 7 4 0) &&& 31)) - 1) &&& ((g 7 4 5) ^^^ (-1)))), (0, .ref (ad 7 0 0)), (1, .int x1), (2, .int x2), (3, .int x3)]) dX7_flood_73 (by decide) rfl ?_
          refine V_rp (R2 := F_X7_flood_75 g x1 x2 x3 ((((1 : Int32) <<< ((g 7 4 0) &&& 31)) - 1) &&& ((g 7 4 5) ^^^ (-1))) 0 (fun (q75 : Int64) (c75 : Int32) => (F_X7_flood_97 g x1 x2 x3 ((((1 : Int32) <<< ((g 7 4 0) &&& 31)) - 1) &&& ((g 7 4 5) ^^^ (-1))) q75 (fun (a97 : Int64) (j97 : Nat) => (F_X7_flood_257 g x1 x2 x3 ((((1 : Int32) <<< ((g 7 4 0) &&& 31)) - 1) &&& ((g 7 4 5) ^^^ (-1))) a97 q75 (fun (u257 : Int64) (v257 : Int64) => (if x3 = 0 then (a97 / u257) else (q75 / u257))) (q75.toInt.toNat + 1) a97 q75)) 514 0 0)) 11 1 (F_X7_ones g ((((1 : Int32) <<< ((g 7 4 0) &&& 31)) - 1) &&& ((g 7 4 5) ^^^ (-1))))) (by simp only [F_X7_flood, if_neg c_4, if_neg c_15, if_neg c_27, if_neg c_34]) ?_
          refine V_lp [4, 5, 6, 7, 3, 2, 1, 0] rfl ?_
          refine w_X7_flood_75 l G hw g x1 x2 x3 ((((1 : Int32) <<< ((g 7 4 0) &&& 31)) - 1) &&& ((g 7 4 5) ^^^ (-1))) 0   _ (fun q75 c75 hq75 => ?_) 11 1 (F_X7_ones g ((((1 : Int32) <<< ((g 7 4 0) &&& 31)) - 1) &&& ((g 7 4 5) ^^^ (-1)))) (by exact (fl_0 hB).1) (by exact (fl_0 hB).2)
          refine V_iconst (v := 0) dX7_flood_94 (by decide) ?_
          refine V_istore (L2 := [(9, .int 0), (0, .ref (ad 7 0 0)), (1, .int x1), (2, .int x2), (3, .int x3), (4, .int ((((1 : Int32) <<< ((g 7 4 0) &&& 31)) - 1) &&& ((g 7 4 5) ^^^ (-1)))), (5, .long 0), (7, .long q75)]) dX7_flood_95 (by decide) rfl ?_
          refine V_rp (R2 := F_X7_flood_97 g x1 x2 x3 ((((1 : Int32) <<< ((g 7 4 0) &&& 31)) - 1) &&& ((g 7 4 5) ^^^ (-1))) q75 (fun (a97 : Int64) (j97 : Nat) => (F_X7_flood_257 g x1 x2 x3 ((((1 : Int32) <<< ((g 7 4 0) &&& 31)) - 1) &&& ((g 7 4 5) ^^^ (-1))) a97 q75 (fun (u257 : Int64) (v257 : Int64) => (if x3 = 0 then (a97 / u257) else (q75 / u257))) (q75.toInt.toNat + 1) a97 q75)) 514 0 0) (by rfl) ?_
          refine V_lp [1, 2, 3, 4, 5, 6, 7, 0] rfl ?_
          refine w_X7_flood_97 l G hw g x1 x2 x3 ((((1 : Int32) <<< ((g 7 4 0) &&& 31)) - 1) &&& ((g 7 4 5) ^^^ (-1))) q75  (by exact hB) (by exact ix_who c_15) (by exact p_10 c_27) (by exact cu_4 hB) _ (fun a97 j97 hj97 ha97 => ?_) 514 0 0 (by exact Nat.zero_le _) (by decide) (by exact fl_n (cu_4 hB))
          refine V_lload dX7_flood_249 5 rfl ?_
          refine V_lstore (L2 := [(9, .long a97), (0, .ref (ad 7 0 0)), (1, .int x1), (2, .int x2), (3, .int x3), (4, .int ((((1 : Int32) <<< ((g 7 4 0) &&& 31)) - 1) &&& ((g 7 4 5) ^^^ (-1)))), (5, .long a97), (7, .long q75)]) dX7_flood_251 (by decide) rfl ?_
          refine V_lload dX7_flood_253 7 rfl ?_
          refine V_lstore (L2 := [(11, .long q75), (9, .long a97), (0, .ref (ad 7 0 0)), (1, .int x1), (2, .int x2), (3, .int x3), (4, .int ((((1 : Int32) <<< ((g 7 4 0) &&& 31)) - 1) &&& ((g 7 4 5) ^^^ (-1)))), (5, .long a97), (7, .long q75)]) dX7_flood_255 (by decide) rfl ?_
          refine V_rp (R2 := F_X7_flood_257 g x1 x2 x3 ((((1 : Int32) <<< ((g 7 4 0) &&& 31)) - 1) &&& ((g 7 4 5) ^^^ (-1))) a97 q75 (fun (u257 : Int64) (v257 : Int64) => (if x3 = 0 then (a97 / u257) else (q75 / u257))) (q75.toInt.toNat + 1) a97 q75) (by rfl) ?_
          refine V_lp [2, 3, 4, 5, 6, 7, 8, 1, 0] rfl ?_
          refine w_X7_flood_257 l G hw g x1 x2 x3 ((((1 : Int32) <<< ((g 7 4 0) &&& 31)) - 1) &&& ((g 7 4 5) ^^^ (-1))) a97 q75   _ (fun u257 v257 hu257 hv257 hz257 he257 => ?_) (q75.toInt.toNat + 1) a97 q75 (by exact ha97.1) (by exact Int.le_of_lt hq75.1) (by exact Or.inr hq75.1) (by omega)
          refine V_iload_n dX7_flood_282 3 rfl ?_
          refine V_if_ne (tgt := 294) dX7_flood_283 (by decide) (fun c_283 => ?_) (fun c_283 => ?_)
          · refine V_lload dX7_flood_294 6 rfl ?_
            refine V_lload dX7_flood_296 7 rfl ?_
            refine V_ldiv dX7_flood_298 (by exact gc_u hz257 he257) ?_
            exact V_lret dX7_flood_299 rfl (lfL (by simp only [if_neg c_283]))
          · refine V_lload dX7_flood_286 5 rfl ?_
            refine V_lload dX7_flood_288 7 rfl ?_
            refine V_ldiv dX7_flood_290 (by exact gc_u hz257 he257) ?_
            refine V_goto (tgt := 299) dX7_flood_291 (by decide) ?_
            exact V_lret dX7_flood_299 rfl (lfL (by simp only [if_pos c_283]))
        · refine V_ldc2 q_876 dX7_flood_37 ?_
          exact V_lret dX7_flood_40 rfl (lfL (by simp only [F_X7_flood, if_neg c_4, if_neg c_15, if_neg c_27, if_pos c_34]))
  · refine V_ldc2 q_874 dX7_flood_7 ?_
    exact V_lret dX7_flood_10 rfl (lfL (by simp only [F_X7_flood, if_pos c_4]))
