def F_X7_in (x1 : Int64) (x2 : Int64) (x3 : Int64) : Int32 := (if (lg_cmp x1 x2) < 0 then 0 else (if 0 < (lg_cmp x1 x3) then 0 else 1))
set_option maxRecDepth 100000 in
set_option maxHeartbeats 4000000 in
theorem k_X7_in (l : Launch) (G : mm_G) {pr : Nat → Nat → Prop} {ad : Nat → Nat → Nat → Nat} (hw : mm_W pr) (g : mm_g) (x1 : Int64) (x2 : Int64) (x3 : Int64)  : Mt l G yX7_in cX7_in 6 (some .boolean) (rmk 1 60) [.long x1, .long x2, .long x3] pr ad g (qI pr ad g (F_X7_in x1 x2 x3)) 0 0 := by
  refine Mt_of (by decide) (Nat.le_of_ble_eq_true rfl) ?_
  show V l G RX7 cX7_in 6 (some .boolean) _ _ 0 0 0 0 0 [(0, .long x1), (2, .long x2), (4, .long x3)] [] pr ad g
  refine V_lload_n dX7_in_0 0 rfl ?_
  refine V_lload_n dX7_in_1 1 rfl ?_
  refine V_lcmp dX7_in_2 ?_
  refine V_if_lt (tgt := 17) dX7_in_3 (by decide) (fun c_3 => ?_) (fun c_3 => ?_)
  · refine V_iconst (v := 0) dX7_in_17 (by decide) ?_
    exact V_zret dX7_in_18 rfl rfl (lfI (by simp only [F_X7_in, if_pos c_3]))
  · refine V_lload_n dX7_in_6 0 rfl ?_
    refine V_lload dX7_in_7 2 rfl ?_
    refine V_lcmp dX7_in_9 ?_
    refine V_if_gt (tgt := 17) dX7_in_10 (by decide) (fun c_10 => ?_) (fun c_10 => ?_)
    · refine V_iconst (v := 0) dX7_in_17 (by decide) ?_
      exact V_zret dX7_in_18 rfl rfl (lfI (by simp only [F_X7_in, if_neg c_3, if_pos c_10]))
    · refine V_iconst (v := 1) dX7_in_13 (by decide) ?_
      refine V_goto (tgt := 18) dX7_in_14 (by decide) ?_
      exact V_zret dX7_in_18 rfl rfl (lfI (by simp only [F_X7_in, if_neg c_3, if_neg c_10]))
theorem F_X7_in_1 {a b c : Int64} (h : ¬ F_X7_in a b c = 0) : b.toInt ≤ a.toInt ∧ a.toInt ≤ c.toInt := by
  unfold F_X7_in at h
  by_cases h1 : lg_cmp a b < 0
  · rw [if_pos h1] at h; exact absurd rfl h
  · by_cases h2 : 0 < lg_cmp a c
    · rw [if_neg h1, if_pos h2] at h; exact absurd rfl h
    · rw [lg_cmp_lt, Int64.lt_iff_toInt_lt] at h1
      rw [lg_cmp_gt, Int64.lt_iff_toInt_lt] at h2
      omega
theorem ix_in {x : Int32} {c : Int64} {n : Nat} (h : ¬ F_X7_in x.toInt64 0 c = 0) (hc : c.toInt + 1 = n) : vp_in x n := vp_in_iff.mpr (by
  have h1 := F_X7_in_1 h
  have e0 : (0 : Int64).toInt = 0 := rfl
  rw [Int32.toInt_toInt64] at h1
  omega)
theorem in_01 {a b c : Int64} : F_X7_in a b c = 0 ∨ F_X7_in a b c = 1 := by
  unfold F_X7_in
  generalize lg_cmp a b = p
  generalize lg_cmp a c = q
  repeat' split
  · exact Or.inl rfl
  · exact Or.inl rfl
  · exact Or.inr rfl
theorem nz01 {x : Int32} (h : x = 0 ∨ x = 1) : narrow .boolean (.int x) = .int x := by
  rcases h with q | q <;> (rw [q]; rfl)
theorem ones_d {b : Int32} {n : Nat} (hm : b.toBitVec.toNat < n + 1) (h : ¬ b = 0) : (b &&& (b - 1)).toBitVec.toNat < n := by
  have h0 : b.toBitVec.toNat ≠ 0 := fun q => h (Int32.toBitVec_inj.mp (BitVec.eq_of_toNat_eq q))
  have h1 : (b &&& (b - 1)).toBitVec.toNat ≤ (b - 1).toBitVec.toNat := by
    rw [Int32.toBitVec_and, BitVec.toNat_and]
    exact Nat.and_le_right
  have h2 : (b - 1).toBitVec.toNat = b.toBitVec.toNat - 1 := by
    rw [Int32.toBitVec_sub, BitVec.toNat_sub]
    have e : (1 : Int32).toBitVec.toNat = 1 := rfl
    have hb := b.toBitVec.isLt
    rw [e]
    omega
  omega
def F_X7_has (x1 : Int32) (x2 : Int32) : Int32 := (if ((x1 >>> (x2 &&& 31)) &&& 1) = 1 then 1 else 0)
set_option maxRecDepth 100000 in
set_option maxHeartbeats 4000000 in
theorem k_X7_has (l : Launch) (G : mm_G) {pr : Nat → Nat → Prop} {ad : Nat → Nat → Nat → Nat} (hw : mm_W pr) (g : mm_g) (x1 : Int32) (x2 : Int32)  : Mt l G yX7_has cX7_has 2 (some .boolean) (rmk 1 60) [.int x1, .int x2] pr ad g (qI pr ad g (F_X7_has x1 x2)) 0 0 := by
  refine Mt_of (by decide) (Nat.le_of_ble_eq_true rfl) ?_
  show V l G RX7 cX7_has 2 (some .boolean) _ _ 0 0 0 0 0 [(0, .int x1), (1, .int x2)] [] pr ad g
  refine V_iload_n dX7_has_0 0 rfl ?_
  refine V_iload_n dX7_has_1 1 rfl ?_
  refine V_ishr dX7_has_2 ?_
  refine V_iconst (v := 1) dX7_has_3 (by decide) ?_
  refine V_iand dX7_has_4 ?_
  refine V_iconst (v := 1) dX7_has_5 (by decide) ?_
  refine V_ic_ne (tgt := 13) dX7_has_6 (by decide) (fun c_6 => ?_) (fun c_6 => ?_)
  · refine V_iconst (v := 0) dX7_has_13 (by decide) ?_
    exact V_zret dX7_has_14 rfl rfl (lfI (by simp only [F_X7_has, if_neg c_6]))
  · refine V_iconst (v := 1) dX7_has_9 (by decide) ?_
    refine V_goto (tgt := 14) dX7_has_10 (by decide) ?_
    exact V_zret dX7_has_14 rfl rfl (lfI (by simp only [F_X7_has, if_pos c_6]))
theorem has_01 {s k : Int32} : F_X7_has s k = 0 ∨ F_X7_has s k = 1 := by
  unfold F_X7_has
  generalize (s >>> (k &&& 31)) &&& 1 = z
  split
  · first | exact Or.inr rfl | exact Or.inl rfl
  · first | exact Or.inl rfl | exact Or.inr rfl
def F_X7_ones_4 (g4 : mm_g) (x1 : Int32) (K : Int32 → Int32 → Int32) : Nat → Int32 → Int32 → Int32
  | 0, a, b => K a b
  | n + 1, a, b => (if b = 0 then K a b else F_X7_ones_4 g4 x1 K n (a + 1) (b &&& (b - 1)))
def F_X7_ones (g : mm_g) (x1 : Int32) : Int32 := (F_X7_ones_4 g x1 (fun (a4 : Int32) (b4 : Int32) => a4) (x1.toBitVec.toNat + 1) 0 x1)
set_option maxRecDepth 100000 in
set_option maxHeartbeats 4000000 in
theorem w_X7_ones_4 (l : Launch) (G : mm_G) {pr : Nat → Nat → Prop} {ad : Nat → Nat → Nat → Nat} (hw : mm_W pr) (g4 : mm_g) (x1 : Int32)  (K : Int32 → Int32 → Int32) (hK : ∀ (a : Int32) (b : Int32), V l G RX7 cX7_ones 3 (some .int) (rmk 1 60) (qI pr ad g4 (K a b)) 0 0 0 0 20 [(0, .int x1), (1, .int a), (2, .int b)] [] pr ad g4) : ∀ (n : Nat) (a : Int32) (b : Int32) (hm : b.toBitVec.toNat < n), V l G RX7 cX7_ones 3 (some .int) (rmk 1 60) (qI pr ad g4 (F_X7_ones_4 g4 x1 K n a b)) 0 0 0 0 4 [(0, .int x1), (1, .int a), (2, .int b)] [] pr ad g4 := by
  intro n
  induction n with
  | zero => intro a b  hm; exact absurd hm (Nat.not_lt_zero _)
  | succ n ih =>
      intro a b  hm
      refine V_iload_n dX7_ones_4 2 rfl ?_
      refine V_if_eq (tgt := 20) dX7_ones_5 (by decide) (fun c_5 => ?_) (fun c_5 => ?_)
      · refine V_rp (R2 := K a b) (by simp only [F_X7_ones_4, if_pos c_5]) ?_
        refine V_lp [0, 1, 2] rfl ?_
        exact hK a b 
      · refine V_iinc (v := (a + 1)) (L2 := [(1, .int (a + 1)), (0, .int x1), (2, .int b)]) dX7_ones_8 1 rfl rfl (by decide) rfl ?_
        refine V_iload_n dX7_ones_11 2 rfl ?_
        refine V_iload_n dX7_ones_12 2 rfl ?_
        refine V_iconst (v := 1) dX7_ones_13 (by decide) ?_
        refine V_isub dX7_ones_14 ?_
        refine V_iand dX7_ones_15 ?_
        refine V_istore_n (L2 := [(2, .int (b &&& (b - 1))), (1, .int (a + 1)), (0, .int x1)]) dX7_ones_16 (by decide) rfl ?_
        refine V_goto (tgt := 4) dX7_ones_17 (by decide) ?_
        refine V_rp (R2 := F_X7_ones_4 g4 x1 K n (a + 1) (b &&& (b - 1))) (by simp only [F_X7_ones_4, if_neg c_5]) ?_
        refine V_lp [2, 1, 0] rfl ?_
        exact ih (a + 1) (b &&& (b - 1)) (by exact ones_d hm c_5) 
set_option maxRecDepth 100000 in
set_option maxHeartbeats 4000000 in
theorem k_X7_ones (l : Launch) (G : mm_G) {pr : Nat → Nat → Prop} {ad : Nat → Nat → Nat → Nat} (hw : mm_W pr) (g : mm_g) (x1 : Int32)  : Mt l G yX7_ones cX7_ones 3 (some .int) (rmk 1 60) [.int x1] pr ad g (qI pr ad g (F_X7_ones g x1)) 0 0 := by
  refine Mt_of (by decide) (Nat.le_of_ble_eq_true rfl) ?_
  show V l G RX7 cX7_ones 3 (some .int) _ _ 0 0 0 0 0 [(0, .int x1)] [] pr ad g
  refine V_iconst (v := 0) dX7_ones_0 (by decide) ?_
  refine V_istore_n (L2 := [(1, .int 0), (0, .int x1)]) dX7_ones_1 (by decide) rfl ?_
  refine V_iload_n dX7_ones_2 1 rfl ?_
  refine V_istore_n (L2 := [(2, .int x1), (1, .int 0), (0, .int x1)]) dX7_ones_3 (by decide) rfl ?_
  refine V_rp (R2 := F_X7_ones_4 g x1 (fun (a4 : Int32) (b4 : Int32) => a4) (x1.toBitVec.toNat + 1) 0 x1) (by simp only [F_X7_ones]) ?_
  refine V_lp [2, 1, 0] rfl ?_
  refine w_X7_ones_4 l G hw g x1   _ (fun a4 b4  => ?_) (x1.toBitVec.toNat + 1) 0 x1 (by exact Nat.lt_succ_self _)
  refine V_iload_n dX7_ones_20 1 rfl ?_
  exact V_iret dX7_ones_21 rfl (lfI (by rfl))
def F_X7_find (g : mm_g) (x1 : Int32) : Int32 × mm_g := (((-1000010) - x1), (wr g 7 0 0 x1))
set_option maxRecDepth 100000 in
set_option maxHeartbeats 4000000 in
theorem k_X7_find (l : Launch) (G : mm_G) {pr : Nat → Nat → Prop} {ad : Nat → Nat → Nat → Nat} (hw : mm_W pr) (g : mm_g) (x1 : Int32)  : Mt l G yX7_find cX7_find 2 (some .int) (rmk 1 60) [.ref (ad 7 0 0), .int x1] pr ad g (qM pr ad (F_X7_find g x1)) 0 0 := by
  refine Mt_of (by decide) (Nat.le_of_ble_eq_true rfl) ?_
  show V l G RX7 cX7_find 2 (some .int) _ _ 0 0 0 0 0 [(0, .ref (ad 7 0 0)), (1, .int x1)] [] pr ad g
  refine V_aload_n dX7_find_0 0 rfl ?_
  refine V_iload_n dX7_find_1 1 rfl ?_
  refine P_7_3 (W_7 hw) q_142 dX7_find_2 ?_
  refine V_ldc q_143 dX7_find_5 ?_
  refine V_iload_n dX7_find_7 1 rfl ?_
  refine V_isub dX7_find_8 ?_
  exact V_iret dX7_find_9 rfl (lfM (by simp only [F_X7_find]))
def F_X7_well (g : mm_g) (x1 : Int32) : Int32 × mm_g := (x1, (wr g 7 0 0 0))
set_option maxRecDepth 100000 in
set_option maxHeartbeats 4000000 in
theorem k_X7_well (l : Launch) (G : mm_G) {pr : Nat → Nat → Prop} {ad : Nat → Nat → Nat → Nat} (hw : mm_W pr) (g : mm_g) (x1 : Int32)  : Mt l G yX7_well cX7_well 2 (some .int) (rmk 1 60) [.ref (ad 7 0 0), .int x1] pr ad g (qM pr ad (F_X7_well g x1)) 0 0 := by
  refine Mt_of (by decide) (Nat.le_of_ble_eq_true rfl) ?_
  show V l G RX7 cX7_well 2 (some .int) _ _ 0 0 0 0 0 [(0, .ref (ad 7 0 0)), (1, .int x1)] [] pr ad g
  refine V_aload_n dX7_well_0 0 rfl ?_
  refine V_iconst (v := 0) dX7_well_1 (by decide) ?_
  refine P_7_3 (W_7 hw) q_142 dX7_well_2 ?_
  refine V_iload_n dX7_well_5 1 rfl ?_
  exact V_iret dX7_well_6 rfl (lfM (by simp only [F_X7_well]))
def F_X7_isRow (x1 : Int32) : Int32 := (F_X7_in (x1.toInt64) 0 7)
set_option maxRecDepth 100000 in
set_option maxHeartbeats 4000000 in
theorem k_X7_isRow (l : Launch) (G : mm_G) {pr : Nat → Nat → Prop} {ad : Nat → Nat → Nat → Nat} (hw : mm_W pr) (g : mm_g) (x1 : Int32)  : Mt l G yX7_isRow cX7_isRow 1 (some .boolean) (rmk 2 85) [.int x1] pr ad g (qI pr ad g (F_X7_isRow x1)) 0 0 := by
  refine Mt_of (by decide) (Nat.le_of_ble_eq_true rfl) ?_
  show V l G RX7 cX7_isRow 1 (some .boolean) _ _ 0 0 0 0 0 [(0, .int x1)] [] pr ad g
  refine V_iload_n dX7_isRow_0 0 rfl ?_
  refine V_i2l dX7_isRow_1 ?_
  refine V_lconst (v := 0) dX7_isRow_2 (by decide) ?_
  refine V_ldc2 q_134 dX7_isRow_3 ?_
  refine V_cS (k_X7_in l G hw g  (x1.toInt64) 0 7 ) hy_X7_in hz_X7_in q_135 rfl rfl rfl rfl ⟨by decide, by decide⟩ (Nat.le_of_ble_eq_true rfl) ⟨by decide, by decide⟩ dX7_isRow_6 (V_kI ?_)
  exact V_zret dX7_isRow_9 rfl (nz01 in_01) (lfI (by simp only [F_X7_isRow]))
theorem ix_row {r : Int32} (h : ¬ F_X7_isRow r = 0) : vp_in r 8 := by
  unfold F_X7_isRow at h
  exact ix_in h rfl
theorem ix_mul2 {a b c : Int32} {m n N : Nat} (ha : vp_in a m) (hb : vp_in b n) (hc : c = nI n) (hN : m * n ≤ N ∧ N < 2 ^ 31 ∧ m < 2 ^ 31 ∧ n < 2 ^ 31) : vp_in (c * a + b) N := by
  rw [Int32.mul_comm]
  exact ix_mul ha hb hc hN
def okR7 (g : mm_g) : Prop := ∀ r : Nat, r < 8 → (g 7 2 r).toInt ≤ 40
theorem ix_set {g : mm_g} {r i : Int32} (hR : okR7 g) (h1 : vp_in r 8) (h0 : 0 ≤ g 7 2 r.toNatClampNeg) (h : ¬ F_X7_in i.toInt64 0 (g 7 2 r.toNatClampNeg - 1).toInt64 = 0) : vp_in (40 * r + i) 320 := by
  have h2 := F_X7_in_1 h
  have h3 := hR _ (vp_lt h1)
  rw [toI_le] at h0
  have e0 : (0 : Int32).toInt = 0 := rfl
  have e1 : (1 : Int32).toInt = 1 := rfl
  have e2 : (0 : Int64).toInt = 0 := rfl
  rw [Int32.toInt_toInt64, Int32.toInt_toInt64, Int32.toInt_sub, e1, Int.bmod_eq_of_le_mul_two (by omega) (by omega)] at h2
  exact ix_mul2 (m := 8) (n := 40) h1 (vp_in_iff.mpr (by omega)) rfl (by decide)
theorem cp_1 {g : mm_g} {r i n : Int32} (hR : okR7 g) (h1 : vp_in r 8) (h0 : ¬ n < 0) (h : ¬ F_X7_in i.toInt64 0 ((g 7 2 r.toNatClampNeg).toInt64 - n.toInt64) = 0) : 0 ≤ i.toInt ∧ i.toInt + n.toInt ≤ 40 := by
  have h2 := F_X7_in_1 h
  have h3 := hR _ (vp_lt h1)
  rw [toI_lt] at h0
  have a1 := Int32.toInt_lt n
  have a2 := Int32.le_toInt (g 7 2 r.toNatClampNeg)
  have e0 : (0 : Int32).toInt = 0 := rfl
  have e2 : (0 : Int64).toInt = 0 := rfl
  rw [Int32.toInt_toInt64, Int64.toInt_sub, Int32.toInt_toInt64, Int32.toInt_toInt64, Int.bmod_eq_of_le_mul_two (by omega) (by omega)] at h2
  omega
theorem ix_mv {i n : Int32} {j : Nat} (h2 : 0 ≤ i.toInt ∧ i.toInt + n.toInt ≤ 40) (hj : j ≤ n.toInt.toNat) (h : ¬ n ≤ nI j) : vp_in (nI j) 40 := ix_x hj h (by omega)
theorem ix_cp {r i n : Int32} {j : Nat} (h1 : vp_in r 8) (h2 : 0 ≤ i.toInt ∧ i.toInt + n.toInt ≤ 40) (hj : j ≤ n.toInt.toNat) (h : ¬ n ≤ nI j) : vp_in (40 * r + i + nI j) 320 := by
  obtain ⟨b, hb, rfl⟩ := nI_of (x := i) (by rw [toI_lt]; have e0 : (0 : Int32).toInt = 0 := rfl; omega)
  have hn := Int32.toInt_lt n
  rw [toI_le, nI_toInt (by omega)] at h
  rw [nI_toInt hb] at h2
  rw [Int32.add_assoc, nI_add]
  exact ix_mul2 (m := 8) (n := 40) h1 (vp_in_nI (by omega) (by decide)) rfl (by decide)
theorem ix_feed {x : Int32} (h : 0 ≤ x.toInt ∧ x.toInt ≤ 100) (h2 : ¬ x = 100) : vp_in x 100 := vp_in_iff.mpr (by
  have h3 := mm_ne h2 (n := 100) rfl
  omega)
theorem ix_off {x c : Int32} {k n N : Nat} (h : vp_in x n) (hc : c = nI k) (hN : k + n ≤ N ∧ N < 2 ^ 31) : vp_in (c + x) N := by
  obtain ⟨i, hi, rfl⟩ := vp_in_of h (by omega)
  rw [hc, nI_add]
  exact vp_in_nI (by omega) hN.2
theorem ix_1 {x : Int32} (h : vp_in x 2) : vp_in (1 + x) 36 := ix_off h (k := 1) rfl (by decide)
theorem ix_6 {x : Int32} (h : vp_in x 3) : vp_in (6 + x) 36 := ix_off h (k := 6) rfl (by decide)
theorem ix_9 {x : Int32} (h : vp_in x 9) : vp_in (9 + x) 36 := ix_off h (k := 9) rfl (by decide)
theorem ix_18 {x : Int32} (h : vp_in x 9) : vp_in (18 + x) 36 := ix_off h (k := 18) rfl (by decide)
theorem ix_27 {x : Int32} (h : vp_in x 9) : vp_in (27 + x) 36 := ix_off h (k := 27) rfl (by decide)
theorem ix_23 {x : Int32} (h : vp_in x 2) : vp_in x 3 := vp_in_iff.mpr (by have h1 := vp_in_iff.mp h; omega)
theorem ix_1m {x : Int32} (h : vp_in x 2) : vp_in (1 - x) 3 := by
  obtain ⟨i, hi, rfl⟩ := vp_in_of h (by decide)
  have e1 : (1 : Int32) = nI 1 := rfl
  rw [e1, pk_sub (by omega)]
  exact vp_in_nI (by omega) (by decide)
theorem wr_c {g : mm_g} {x c y : Int32} {k n : Nat} (h : vp_in x n) (hc : c = nI k) (hN : 0 < k ∧ k + n < 2 ^ 31) : wr g 7 4 (c + x).toNatClampNeg y 7 4 0 = g 7 4 0 := by
  obtain ⟨i, hi, rfl⟩ := vp_in_of h (by omega)
  rw [hc, nI_add, nI_clamp (by omega)]
  exact wr_o (by omega)
theorem wr_1 {g : mm_g} {x y : Int32} (h : vp_in x 2) : wr g 7 4 (1 + x).toNatClampNeg y 7 4 0 = g 7 4 0 := wr_c h (k := 1) rfl (by decide)
theorem wr_9 {g : mm_g} {x y : Int32} (h : vp_in x 9) : wr g 7 4 (9 + x).toNatClampNeg y 7 4 0 = g 7 4 0 := wr_c h (k := 9) rfl (by decide)
theorem wr_18 {g : mm_g} {x y : Int32} (h : vp_in x 9) : wr g 7 4 (18 + x).toNatClampNeg y 7 4 0 = g 7 4 0 := wr_c h (k := 18) rfl (by decide)
theorem wr_27 {g : mm_g} {x y : Int32} (h : vp_in x 9) : wr g 7 4 (27 + x).toNatClampNeg y 7 4 0 = g 7 4 0 := wr_c h (k := 27) rfl (by decide)
def okB (g : mm_g) : Prop := 0 ≤ (g 7 4 0).toInt ∧ (g 7 4 0).toInt ≤ 9
theorem okB_9 {g : mm_g} (h : okB g) : (g 7 4 0).toInt.toNat ≤ 9 := by
  have h1 := h.2
  omega
theorem okB_1 {g : mm_g} {x y : Int32} (hv : vp_in x 2) (h : okB g) : okB (wr g 7 4 (1 + x).toNatClampNeg y) := by
  unfold okB
  rw [wr_1 hv]
  exact h
def F_X7_row_55 (x1 : Int32) (x2 : Int32) (x3 : Int32) (K : Nat → mm_g → Int32 × mm_g) : Nat → Nat → mm_g → Int32 × mm_g
  | 0, j, s => K j s
  | n + 1, j, s => (if 40 ≤ (nI j) then K j s else F_X7_row_55 x1 x2 x3 K n (j + 1) (wr s 7 3 ((40 * x1) + (nI j)).toNatClampNeg 0))
def F_X7_row (g : mm_g) (x1 : Int32) (x2 : Int32) (x3 : Int32) : Int32 × mm_g := (if (F_X7_isRow x1) = 0 then ((-1000001), g) else (if (F_X7_in (x2.toInt64) 0 2) = 0 then ((-1000001), g) else (if x3 ≤ 40 then (if 0 ≤ x3 then (F_X7_row_55 x1 x2 x3 (fun (j55 : Nat) (s55 : mm_g) => ((F_X7_well s55 x3).1, (F_X7_well s55 x3).2)) ((40 : Int32).toInt.toNat + 1) 0 (wr (wr g 7 1 x1.toNatClampNeg x2) 7 2 x1.toNatClampNeg x3)) else ((F_X7_find g 4).1, (F_X7_find g 4).2)) else ((-1000001), g))))
set_option maxRecDepth 100000 in
set_option maxHeartbeats 4000000 in
theorem w_X7_row_55 (l : Launch) (G : mm_G) {pr : Nat → Nat → Prop} {ad : Nat → Nat → Nat → Nat} (hw : mm_W pr) (x1 : Int32) (x2 : Int32) (x3 : Int32)  (h1 : vp_in x1 8) (K : Nat → mm_g → Int32 × mm_g) (hK : ∀ (j : Nat) (s : mm_g) (hj : j ≤ (40 : Int32).toInt.toNat), V l G RX7 cX7_row 5 (some .int) (rmk 3 105) (qM pr ad (K j s)) 0 0 0 0 81 [(0, .ref (ad 7 0 0)), (1, .int x1), (2, .int x2), (3, .int x3), (4, .int (nI j))] [] pr ad s) : ∀ (n : Nat) (j : Nat) (s : mm_g) (hj : j ≤ (40 : Int32).toInt.toNat) (hm : (40 : Int32).toInt.toNat - j < n), V l G RX7 cX7_row 5 (some .int) (rmk 3 105) (qM pr ad (F_X7_row_55 x1 x2 x3 K n j s)) 0 0 0 0 55 [(0, .ref (ad 7 0 0)), (1, .int x1), (2, .int x2), (3, .int x3), (4, .int (nI j))] [] pr ad s := by
  intro n
  induction n with
  | zero => intro j s hj hm; exact absurd hm (Nat.not_lt_zero _)
  | succ n ih =>
      intro j s hj hm
      refine V_iload dX7_row_55 4 rfl ?_
      refine V_bipush (v := 40) dX7_row_57 (by decide) ?_
      refine V_ic_ge (tgt := 81) dX7_row_59 (by decide) (fun c_59 => ?_) (fun c_59 => ?_)
      · refine V_rp (R2 := K j s) (by simp only [F_X7_row_55, if_pos c_59]) ?_
        refine V_lp [0, 1, 2, 3, 4] rfl ?_
        exact hK j s (by assumption)
      · refine V_aload_n dX7_row_62 0 rfl ?_
        refine V_get (i := 2) inlX7 rfl (W_7 hw) rfl (by decide) q_93 rfl dX7_row_63 ?_
        refine V_bipush (v := 40) dX7_row_66 (by decide) ?_
        refine V_iload_n dX7_row_68 1 rfl ?_
        refine V_imul dX7_row_69 ?_
        refine V_iload dX7_row_70 4 rfl ?_
        refine V_iadd dX7_row_72 ?_
        refine V_iconst (v := 0) dX7_row_73 (by decide) ?_
        refine S_7_3 (W_7 hw) (by exact ix_mul2 (m := 8) (n := 40) h1 (ix_x hj c_59 (by decide)) rfl (by decide)) dX7_row_74 ?_
        refine V_iinc (v := (nI (j + 1))) (L2 := [(4, .int (nI (j + 1))), (0, .ref (ad 7 0 0)), (1, .int x1), (2, .int x2), (3, .int x3)]) dX7_row_75 4 rfl (nI_1 _) (by decide) rfl ?_
        refine V_goto (tgt := 55) dX7_row_78 (by decide) ?_
        refine V_rp (R2 := F_X7_row_55 x1 x2 x3 K n (j + 1) (wr s 7 3 ((40 * x1) + (nI j)).toNatClampNeg 0)) (by simp only [F_X7_row_55, if_neg c_59]) ?_
        refine V_lp [1, 2, 3, 4, 0] rfl ?_
        exact ih (j + 1) (wr s 7 3 ((40 * x1) + (nI j)).toNatClampNeg 0) (by exact (lp_up hj c_59 hm).1) (by exact (lp_up hj c_59 hm).2) 
set_option maxRecDepth 100000 in
set_option maxHeartbeats 4000000 in
theorem k_X7_row (l : Launch) (G : mm_G) {pr : Nat → Nat → Prop} {ad : Nat → Nat → Nat → Nat} (hw : mm_W pr) (g : mm_g) (x1 : Int32) (x2 : Int32) (x3 : Int32)  : Mt l G yX7_row cX7_row 5 (some .int) (rmk 3 105) [.ref (ad 7 0 0), .int x1, .int x2, .int x3] pr ad g (qM pr ad (F_X7_row g x1 x2 x3)) 0 0 := by
  refine Mt_of (by decide) (Nat.le_of_ble_eq_true rfl) ?_
  show V l G RX7 cX7_row 5 (some .int) _ _ 0 0 0 0 0 [(0, .ref (ad 7 0 0)), (1, .int x1), (2, .int x2), (3, .int x3)] [] pr ad g
  refine V_iload_n dX7_row_0 1 rfl ?_
  refine V_cS (k_X7_isRow l G hw g  x1 ) hy_X7_isRow hz_X7_isRow q_131 rfl rfl rfl rfl ⟨by decide, by decide⟩ (Nat.le_of_ble_eq_true rfl) ⟨by decide, by decide⟩ dX7_row_1 (V_kI ?_)
  refine V_if_eq (tgt := 25) dX7_row_4 (by decide) (fun c_4 => ?_) (fun c_4 => ?_)
  · refine V_ldc q_130 dX7_row_25 ?_
    exact V_iret dX7_row_27 rfl (lfM (by simp only [F_X7_row, if_pos c_4]))
  · refine V_iload_n dX7_row_7 2 rfl ?_
    refine V_i2l dX7_row_8 ?_
    refine V_lconst (v := 0) dX7_row_9 (by decide) ?_
    refine V_ldc2 q_129 dX7_row_10 ?_
    refine V_cS (k_X7_in l G hw g  (x2.toInt64) 0 2 ) hy_X7_in hz_X7_in q_135 rfl rfl rfl rfl ⟨by decide, by decide⟩ (Nat.le_of_ble_eq_true rfl) ⟨by decide, by decide⟩ dX7_row_13 (V_kI ?_)
    refine V_if_eq (tgt := 25) dX7_row_16 (by decide) (fun c_16 => ?_) (fun c_16 => ?_)
    · refine V_ldc q_130 dX7_row_25 ?_
      exact V_iret dX7_row_27 rfl (lfM (by simp only [F_X7_row, if_neg c_4, if_pos c_16]))
    · refine V_iload_n dX7_row_19 3 rfl ?_
      refine V_bipush (v := 40) dX7_row_20 (by decide) ?_
      refine V_ic_le (tgt := 28) dX7_row_22 (by decide) (fun c_22 => ?_) (fun c_22 => ?_)
      · refine V_iload_n dX7_row_28 3 rfl ?_
        refine V_if_ge (tgt := 38) dX7_row_29 (by decide) (fun c_29 => ?_) (fun c_29 => ?_)
        · refine V_aload_n dX7_row_38 0 rfl ?_
          refine V_get (i := 0) inlX7 rfl (W_7 hw) rfl (by decide) q_91 rfl dX7_row_39 ?_
          refine V_iload_n dX7_row_42 1 rfl ?_
          refine V_iload_n dX7_row_43 2 rfl ?_
          refine S_7_1 (W_7 hw) (by first | exact ix_row c_4) dX7_row_44 ?_
          refine V_aload_n dX7_row_45 0 rfl ?_
          refine V_get (i := 1) inlX7 rfl (W_7 hw) rfl (by decide) q_92 rfl dX7_row_46 ?_
          refine V_iload_n dX7_row_49 1 rfl ?_
          refine V_iload_n dX7_row_50 3 rfl ?_
          refine S_7_2 (W_7 hw) (by first | exact ix_row c_4) dX7_row_51 ?_
          refine V_iconst (v := 0) dX7_row_52 (by decide) ?_
          refine V_istore (L2 := [(4, .int 0), (0, .ref (ad 7 0 0)), (1, .int x1), (2, .int x2), (3, .int x3)]) dX7_row_53 (by decide) rfl ?_
          refine V_rp (R2 := F_X7_row_55 x1 x2 x3 (fun (j55 : Nat) (s55 : mm_g) => ((F_X7_well s55 x3).1, (F_X7_well s55 x3).2)) ((40 : Int32).toInt.toNat + 1) 0 (wr (wr g 7 1 x1.toNatClampNeg x2) 7 2 x1.toNatClampNeg x3)) (by simp only [F_X7_row, if_neg c_4, if_neg c_16, if_pos c_22, if_pos c_29]) ?_
          refine V_lp [1, 2, 3, 4, 0] rfl ?_
          refine w_X7_row_55 l G hw x1 x2 x3  (by exact ix_row c_4) _ (fun j55 s55 hj55 => ?_) ((40 : Int32).toInt.toNat + 1) 0 (wr (wr g 7 1 x1.toNatClampNeg x2) 7 2 x1.toNatClampNeg x3) (by first | exact Nat.zero_le _ | decide) (by omega)
          refine V_aload_n dX7_row_81 0 rfl ?_
          refine V_iload_n dX7_row_82 3 rfl ?_
          refine V_cV (k_X7_well l G hw s55  x3 ) hy_X7_well hi_X7_well hs_X7_well q_144 rfl rfl (W_7 hw) rfl rfl rfl rfl rfl ⟨by decide, by decide⟩ (Nat.le_of_ble_eq_true rfl) ⟨by decide, by decide⟩ dX7_row_83 (V_kM ?_)
          exact V_iret dX7_row_86 rfl (lfM (by rfl))
        · refine V_aload_n dX7_row_32 0 rfl ?_
          refine V_iconst (v := 4) dX7_row_33 (by decide) ?_
          refine V_cV (k_X7_find l G hw g  4 ) hy_X7_find hi_X7_find hs_X7_find q_138 rfl rfl (W_7 hw) rfl rfl rfl rfl rfl ⟨by decide, by decide⟩ (Nat.le_of_ble_eq_true rfl) ⟨by decide, by decide⟩ dX7_row_34 (V_kM ?_)
          exact V_iret dX7_row_37 rfl (lfM (by simp only [F_X7_row, if_neg c_4, if_neg c_16, if_pos c_22, if_neg c_29]))
      · refine V_ldc q_130 dX7_row_25 ?_
        exact V_iret dX7_row_27 rfl (lfM (by simp only [F_X7_row, if_neg c_4, if_neg c_16, if_neg c_22]))
def F_X7_asLane (x1 : Int32) (x2 : Int32) : Int32 := (if x1 = 0 then ((x2 <<< (24 &&& 31)) >>> (24 &&& 31)) else (if x1 = 1 then ((x2 <<< (16 &&& 31)) >>> (16 &&& 31)) else x2))
set_option maxRecDepth 100000 in
set_option maxHeartbeats 4000000 in
theorem k_X7_asLane (l : Launch) (G : mm_G) {pr : Nat → Nat → Prop} {ad : Nat → Nat → Nat → Nat} (hw : mm_W pr) (g : mm_g) (x1 : Int32) (x2 : Int32)  : Mt l G yX7_asLane cX7_asLane 2 (some .int) (rmk 1 60) [.int x1, .int x2] pr ad g (qI pr ad g (F_X7_asLane x1 x2)) 0 0 := by
  refine Mt_of (by decide) (Nat.le_of_ble_eq_true rfl) ?_
  show V l G RX7 cX7_asLane 2 (some .int) _ _ 0 0 0 0 0 [(0, .int x1), (1, .int x2)] [] pr ad g
  refine V_iload_n dX7_asLane_0 0 rfl ?_
  refine V_if_ne (tgt := 14) dX7_asLane_1 (by decide) (fun c_1 => ?_) (fun c_1 => ?_)
  · refine V_iload_n dX7_asLane_14 0 rfl ?_
    refine V_iconst (v := 1) dX7_asLane_15 (by decide) ?_
    refine V_ic_ne (tgt := 29) dX7_asLane_16 (by decide) (fun c_16 => ?_) (fun c_16 => ?_)
    · refine V_iload_n dX7_asLane_29 1 rfl ?_
      exact V_iret dX7_asLane_30 rfl (lfI (by simp only [F_X7_asLane, if_neg c_1, if_neg c_16]))
    · refine V_iload_n dX7_asLane_19 1 rfl ?_
      refine V_bipush (v := 16) dX7_asLane_20 (by decide) ?_
      refine V_ishl dX7_asLane_22 ?_
      refine V_bipush (v := 16) dX7_asLane_23 (by decide) ?_
      refine V_ishr dX7_asLane_25 ?_
      refine V_goto (tgt := 30) dX7_asLane_26 (by decide) ?_
      exact V_iret dX7_asLane_30 rfl (lfI (by simp only [F_X7_asLane, if_neg c_1, if_pos c_16]))
  · refine V_iload_n dX7_asLane_4 1 rfl ?_
    refine V_bipush (v := 24) dX7_asLane_5 (by decide) ?_
    refine V_ishl dX7_asLane_7 ?_
    refine V_bipush (v := 24) dX7_asLane_8 (by decide) ?_
    refine V_ishr dX7_asLane_10 ?_
    refine V_goto (tgt := 30) dX7_asLane_11 (by decide) ?_
    exact V_iret dX7_asLane_30 rfl (lfI (by simp only [F_X7_asLane, if_pos c_1]))
def F_X7_set (g : mm_g) (x1 : Int32) (x2 : Int32) (x3 : Int32) : Int32 × mm_g := (if (F_X7_isRow x1) = 0 then ((-1000001), g) else (if 0 ≤ (g 7 2 x1.toNatClampNeg) then (if (F_X7_in (x2.toInt64) 0 (((g 7 2 x1.toNatClampNeg) - 1).toInt64)) = 0 then ((F_X7_find g 2).1, (F_X7_find g 2).2) else ((F_X7_well (wr g 7 3 ((40 * x1) + x2).toNatClampNeg (F_X7_asLane (g 7 1 x1.toNatClampNeg) x3)) ((wr g 7 3 ((40 * x1) + x2).toNatClampNeg (F_X7_asLane (g 7 1 x1.toNatClampNeg) x3)) 7 3 ((40 * x1) + x2).toNatClampNeg)).1, (F_X7_well (wr g 7 3 ((40 * x1) + x2).toNatClampNeg (F_X7_asLane (g 7 1 x1.toNatClampNeg) x3)) ((wr g 7 3 ((40 * x1) + x2).toNatClampNeg (F_X7_asLane (g 7 1 x1.toNatClampNeg) x3)) 7 3 ((40 * x1) + x2).toNatClampNeg)).2)) else ((F_X7_find g 1).1, (F_X7_find g 1).2)))
set_option maxRecDepth 100000 in
set_option maxHeartbeats 4000000 in
theorem k_X7_set (l : Launch) (G : mm_G) {pr : Nat → Nat → Prop} {ad : Nat → Nat → Nat → Nat} (hw : mm_W pr) (g : mm_g) (x1 : Int32) (x2 : Int32) (x3 : Int32) (hR : okR7 g)  : Mt l G yX7_set cX7_set 4 (some .int) (rmk 3 105) [.ref (ad 7 0 0), .int x1, .int x2, .int x3] pr ad g (qM pr ad (F_X7_set g x1 x2 x3)) 0 0 := by
  refine Mt_of (by decide) (Nat.le_of_ble_eq_true rfl) ?_
  show V l G RX7 cX7_set 4 (some .int) _ _ 0 0 0 0 0 [(0, .ref (ad 7 0 0)), (1, .int x1), (2, .int x2), (3, .int x3)] [] pr ad g
  refine V_iload_n dX7_set_0 1 rfl ?_
  refine V_cS (k_X7_isRow l G hw g  x1 ) hy_X7_isRow hz_X7_isRow q_131 rfl rfl rfl rfl ⟨by decide, by decide⟩ (Nat.le_of_ble_eq_true rfl) ⟨by decide, by decide⟩ dX7_set_1 (V_kI ?_)
  refine V_if_ne (tgt := 10) dX7_set_4 (by decide) (fun c_4 => ?_) (fun c_4 => ?_)
  · refine V_aload_n dX7_set_10 0 rfl ?_
    refine V_get (i := 1) inlX7 rfl (W_7 hw) rfl (by decide) q_92 rfl dX7_set_11 ?_
    refine V_iload_n dX7_set_14 1 rfl ?_
    refine L_7_2 (W_7 hw) (by first | exact ix_row c_4) dX7_set_15 ?_
    refine V_if_ge (tgt := 25) dX7_set_16 (by decide) (fun c_16 => ?_) (fun c_16 => ?_)
    · refine V_iload_n dX7_set_25 2 rfl ?_
      refine V_i2l dX7_set_26 ?_
      refine V_lconst (v := 0) dX7_set_27 (by decide) ?_
      refine V_aload_n dX7_set_28 0 rfl ?_
      refine V_get (i := 1) inlX7 rfl (W_7 hw) rfl (by decide) q_92 rfl dX7_set_29 ?_
      refine V_iload_n dX7_set_32 1 rfl ?_
      refine L_7_2 (W_7 hw) (by first | exact ix_row c_4) dX7_set_33 ?_
      refine V_iconst (v := 1) dX7_set_34 (by decide) ?_
      refine V_isub dX7_set_35 ?_
      refine V_i2l dX7_set_36 ?_
      refine V_cS (k_X7_in l G hw g  (x2.toInt64) 0 (((g 7 2 x1.toNatClampNeg) - 1).toInt64) ) hy_X7_in hz_X7_in q_135 rfl rfl rfl rfl ⟨by decide, by decide⟩ (Nat.le_of_ble_eq_true rfl) ⟨by decide, by decide⟩ dX7_set_37 (V_kI ?_)
      refine V_if_ne (tgt := 49) dX7_set_40 (by decide) (fun c_40 => ?_) (fun c_40 => ?_)
      · refine V_aload_n dX7_set_49 0 rfl ?_
        refine V_get (i := 2) inlX7 rfl (W_7 hw) rfl (by decide) q_93 rfl dX7_set_50 ?_
        refine V_bipush (v := 40) dX7_set_53 (by decide) ?_
        refine V_iload_n dX7_set_55 1 rfl ?_
        refine V_imul dX7_set_56 ?_
        refine V_iload_n dX7_set_57 2 rfl ?_
        refine V_iadd dX7_set_58 ?_
        refine V_aload_n dX7_set_59 0 rfl ?_
        refine V_get (i := 0) inlX7 rfl (W_7 hw) rfl (by decide) q_91 rfl dX7_set_60 ?_
        refine V_iload_n dX7_set_63 1 rfl ?_
        refine L_7_1 (W_7 hw) (by first | exact ix_row c_4) dX7_set_64 ?_
        refine V_iload_n dX7_set_65 3 rfl ?_
        refine V_cS (k_X7_asLane l G hw g  (g 7 1 x1.toNatClampNeg) x3 ) hy_X7_asLane hz_X7_asLane q_173 rfl rfl rfl rfl ⟨by decide, by decide⟩ (Nat.le_of_ble_eq_true rfl) ⟨by decide, by decide⟩ dX7_set_66 (V_kI ?_)
        refine S_7_3 (W_7 hw) (by exact ix_set hR (ix_row c_4) c_16 c_40) dX7_set_69 ?_
        refine V_aload_n dX7_set_70 0 rfl ?_
        refine V_aload_n dX7_set_71 0 rfl ?_
        refine V_get (i := 2) inlX7 rfl (W_7 hw) rfl (by decide) q_93 rfl dX7_set_72 ?_
        refine V_bipush (v := 40) dX7_set_75 (by decide) ?_
        refine V_iload_n dX7_set_77 1 rfl ?_
        refine V_imul dX7_set_78 ?_
        refine V_iload_n dX7_set_79 2 rfl ?_
        refine V_iadd dX7_set_80 ?_
        refine L_7_3 (W_7 hw) (by exact ix_set hR (ix_row c_4) c_16 c_40) dX7_set_81 ?_
        refine V_cV (k_X7_well l G hw (wr g 7 3 ((40 * x1) + x2).toNatClampNeg (F_X7_asLane (g 7 1 x1.toNatClampNeg) x3))  ((wr g 7 3 ((40 * x1) + x2).toNatClampNeg (F_X7_asLane (g 7 1 x1.toNatClampNeg) x3)) 7 3 ((40 * x1) + x2).toNatClampNeg) ) hy_X7_well hi_X7_well hs_X7_well q_144 rfl rfl (W_7 hw) rfl rfl rfl rfl rfl ⟨by decide, by decide⟩ (Nat.le_of_ble_eq_true rfl) ⟨by decide, by decide⟩ dX7_set_82 (V_kM ?_)
        exact V_iret dX7_set_85 rfl (lfM (by simp only [F_X7_set, if_neg c_4, if_pos c_16, if_neg c_40]))
      · refine V_aload_n dX7_set_43 0 rfl ?_
        refine V_iconst (v := 2) dX7_set_44 (by decide) ?_
        refine V_cV (k_X7_find l G hw g  2 ) hy_X7_find hi_X7_find hs_X7_find q_138 rfl rfl (W_7 hw) rfl rfl rfl rfl rfl ⟨by decide, by decide⟩ (Nat.le_of_ble_eq_true rfl) ⟨by decide, by decide⟩ dX7_set_45 (V_kM ?_)
        exact V_iret dX7_set_48 rfl (lfM (by simp only [F_X7_set, if_neg c_4, if_pos c_16, if_pos c_40]))
    · refine V_aload_n dX7_set_19 0 rfl ?_
      refine V_iconst (v := 1) dX7_set_20 (by decide) ?_
      refine V_cV (k_X7_find l G hw g  1 ) hy_X7_find hi_X7_find hs_X7_find q_138 rfl rfl (W_7 hw) rfl rfl rfl rfl rfl ⟨by decide, by decide⟩ (Nat.le_of_ble_eq_true rfl) ⟨by decide, by decide⟩ dX7_set_21 (V_kM ?_)
      exact V_iret dX7_set_24 rfl (lfM (by simp only [F_X7_set, if_neg c_4, if_neg c_16]))
  · refine V_ldc q_130 dX7_set_7 ?_
    exact V_iret dX7_set_9 rfl (lfM (by simp only [F_X7_set, if_pos c_4]))
def F_X7_copy_117 (x1 : Int32) (x2 : Int32) (x3 : Int32) (x4 : Int32) (x5 : Int32) (K : Nat → mm_g → Int32 × mm_g) : Nat → Nat → mm_g → Int32 × mm_g
  | 0, j, s => K j s
  | n + 1, j, s => (if x5 ≤ (nI j) then K j s else F_X7_copy_117 x1 x2 x3 x4 x5 K n (j + 1) (wr s 7 5 (nI j).toNatClampNeg (s 7 3 (((40 * x1) + x2) + (nI j)).toNatClampNeg)))
def F_X7_copy_154 (x1 : Int32) (x2 : Int32) (x3 : Int32) (x4 : Int32) (x5 : Int32) (K : Nat → mm_g → Int32 × mm_g) : Nat → Nat → mm_g → Int32 × mm_g
  | 0, j, s => K j s
  | n + 1, j, s => (if x5 ≤ (nI j) then K j s else F_X7_copy_154 x1 x2 x3 x4 x5 K n (j + 1) (wr s 7 3 (((40 * x3) + x4) + (nI j)).toNatClampNeg (s 7 5 (nI j).toNatClampNeg)))
def F_X7_copy (g : mm_g) (x1 : Int32) (x2 : Int32) (x3 : Int32) (x4 : Int32) (x5 : Int32) : Int32 × mm_g := (if (F_X7_isRow x1) = 0 then ((-1000001), g) else (if (F_X7_isRow x3) = 0 then ((-1000001), g) else (if (g 7 2 x1.toNatClampNeg) < 0 then ((F_X7_find g 1).1, (F_X7_find g 1).2) else (if 0 ≤ (g 7 2 x3.toNatClampNeg) then (if (g 7 1 x1.toNatClampNeg) = (g 7 1 x3.toNatClampNeg) then (if x5 < 0 then ((F_X7_find g 2).1, (F_X7_find g 2).2) else (if (F_X7_in (x2.toInt64) 0 (((g 7 2 x1.toNatClampNeg).toInt64) - (x5.toInt64))) = 0 then ((F_X7_find g 2).1, (F_X7_find g 2).2) else (if (F_X7_in (x4.toInt64) 0 (((g 7 2 x3.toNatClampNeg).toInt64) - (x5.toInt64))) = 0 then ((F_X7_find g 2).1, (F_X7_find g 2).2) else (F_X7_copy_117 x1 x2 x3 x4 x5 (fun (j117 : Nat) (s117 : mm_g) => (F_X7_copy_154 x1 x2 x3 x4 x5 (fun (j154 : Nat) (s154 : mm_g) => ((F_X7_well s154 x5).1, (F_X7_well s154 x5).2)) (x5.toInt.toNat + 1) 0 s117)) (x5.toInt.toNat + 1) 0 g)))) else ((F_X7_find g 5).1, (F_X7_find g 5).2)) else ((F_X7_find g 1).1, (F_X7_find g 1).2)))))
set_option maxRecDepth 100000 in
set_option maxHeartbeats 4000000 in
theorem w_X7_copy_117 (l : Launch) (G : mm_G) {pr : Nat → Nat → Prop} {ad : Nat → Nat → Nat → Nat} (hw : mm_W pr) (x1 : Int32) (x2 : Int32) (x3 : Int32) (x4 : Int32) (x5 : Int32)  (h1 : vp_in x1 8) (h2 : 0 ≤ x2.toInt ∧ x2.toInt + x5.toInt ≤ 40) (K : Nat → mm_g → Int32 × mm_g) (hK : ∀ (j : Nat) (s : mm_g) (hj : j ≤ x5.toInt.toNat), V l G RX7 cX7_copy 7 (some .int) (rmk 3 105) (qM pr ad (K j s)) 0 0 0 0 151 [(0, .ref (ad 7 0 0)), (1, .int x1), (2, .int x2), (3, .int x3), (4, .int x4), (5, .int x5), (6, .int (nI j))] [] pr ad s) : ∀ (n : Nat) (j : Nat) (s : mm_g) (hj : j ≤ x5.toInt.toNat) (hm : x5.toInt.toNat - j < n), V l G RX7 cX7_copy 7 (some .int) (rmk 3 105) (qM pr ad (F_X7_copy_117 x1 x2 x3 x4 x5 K n j s)) 0 0 0 0 117 [(0, .ref (ad 7 0 0)), (1, .int x1), (2, .int x2), (3, .int x3), (4, .int x4), (5, .int x5), (6, .int (nI j))] [] pr ad s := by
  intro n
  induction n with
  | zero => intro j s hj hm; exact absurd hm (Nat.not_lt_zero _)
  | succ n ih =>
      intro j s hj hm
      refine V_iload dX7_copy_117 6 rfl ?_
      refine V_iload dX7_copy_119 5 rfl ?_
      refine V_ic_ge (tgt := 151) dX7_copy_121 (by decide) (fun c_121 => ?_) (fun c_121 => ?_)
      · refine V_rp (R2 := K j s) (by simp only [F_X7_copy_117, if_pos c_121]) ?_
        refine V_lp [0, 1, 2, 3, 4, 5, 6] rfl ?_
        exact hK j s (by assumption)
      · refine V_aload_n dX7_copy_124 0 rfl ?_
        refine V_get (i := 6) inlX7 rfl (W_7 hw) rfl (by decide) q_95 rfl dX7_copy_125 ?_
        refine V_iload dX7_copy_128 6 rfl ?_
        refine V_aload_n dX7_copy_130 0 rfl ?_
        refine V_get (i := 2) inlX7 rfl (W_7 hw) rfl (by decide) q_93 rfl dX7_copy_131 ?_
        refine V_bipush (v := 40) dX7_copy_134 (by decide) ?_
        refine V_iload_n dX7_copy_136 1 rfl ?_
        refine V_imul dX7_copy_137 ?_
        refine V_iload_n dX7_copy_138 2 rfl ?_
        refine V_iadd dX7_copy_139 ?_
        refine V_iload dX7_copy_140 6 rfl ?_
        refine V_iadd dX7_copy_142 ?_
        refine L_7_3 (W_7 hw) (by exact ix_cp h1 h2 hj c_121) dX7_copy_143 ?_
        refine S_7_5 (W_7 hw) (by exact ix_mv h2 hj c_121) dX7_copy_144 ?_
        refine V_iinc (v := (nI (j + 1))) (L2 := [(6, .int (nI (j + 1))), (0, .ref (ad 7 0 0)), (1, .int x1), (2, .int x2), (3, .int x3), (4, .int x4), (5, .int x5)]) dX7_copy_145 6 rfl (nI_1 _) (by decide) rfl ?_
        refine V_goto (tgt := 117) dX7_copy_148 (by decide) ?_
        refine V_rp (R2 := F_X7_copy_117 x1 x2 x3 x4 x5 K n (j + 1) (wr s 7 5 (nI j).toNatClampNeg (s 7 3 (((40 * x1) + x2) + (nI j)).toNatClampNeg))) (by simp only [F_X7_copy_117, if_neg c_121]) ?_
        refine V_lp [1, 2, 3, 4, 5, 6, 0] rfl ?_
        exact ih (j + 1) (wr s 7 5 (nI j).toNatClampNeg (s 7 3 (((40 * x1) + x2) + (nI j)).toNatClampNeg)) (by exact (lp_up hj c_121 hm).1) (by exact (lp_up hj c_121 hm).2) 
set_option maxRecDepth 100000 in
set_option maxHeartbeats 4000000 in
theorem w_X7_copy_154 (l : Launch) (G : mm_G) {pr : Nat → Nat → Prop} {ad : Nat → Nat → Nat → Nat} (hw : mm_W pr) (x1 : Int32) (x2 : Int32) (x3 : Int32) (x4 : Int32) (x5 : Int32)  (h3 : vp_in x3 8) (h4 : 0 ≤ x4.toInt ∧ x4.toInt + x5.toInt ≤ 40) (K : Nat → mm_g → Int32 × mm_g) (hK : ∀ (j : Nat) (s : mm_g) (hj : j ≤ x5.toInt.toNat), V l G RX7 cX7_copy 7 (some .int) (rmk 3 105) (qM pr ad (K j s)) 0 0 0 0 189 [(0, .ref (ad 7 0 0)), (1, .int x1), (2, .int x2), (3, .int x3), (4, .int x4), (5, .int x5), (6, .int (nI j))] [] pr ad s) : ∀ (n : Nat) (j : Nat) (s : mm_g) (hj : j ≤ x5.toInt.toNat) (hm : x5.toInt.toNat - j < n), V l G RX7 cX7_copy 7 (some .int) (rmk 3 105) (qM pr ad (F_X7_copy_154 x1 x2 x3 x4 x5 K n j s)) 0 0 0 0 154 [(0, .ref (ad 7 0 0)), (1, .int x1), (2, .int x2), (3, .int x3), (4, .int x4), (5, .int x5), (6, .int (nI j))] [] pr ad s := by
  intro n
  induction n with
  | zero => intro j s hj hm; exact absurd hm (Nat.not_lt_zero _)
  | succ n ih =>
      intro j s hj hm
      refine V_iload dX7_copy_154 6 rfl ?_
      refine V_iload dX7_copy_156 5 rfl ?_
      refine V_ic_ge (tgt := 189) dX7_copy_158 (by decide) (fun c_158 => ?_) (fun c_158 => ?_)
      · refine V_rp (R2 := K j s) (by simp only [F_X7_copy_154, if_pos c_158]) ?_
        refine V_lp [0, 1, 2, 3, 4, 5, 6] rfl ?_
        exact hK j s (by assumption)
      · refine V_aload_n dX7_copy_161 0 rfl ?_
        refine V_get (i := 2) inlX7 rfl (W_7 hw) rfl (by decide) q_93 rfl dX7_copy_162 ?_
        refine V_bipush (v := 40) dX7_copy_165 (by decide) ?_
        refine V_iload_n dX7_copy_167 3 rfl ?_
        refine V_imul dX7_copy_168 ?_
        refine V_iload dX7_copy_169 4 rfl ?_
        refine V_iadd dX7_copy_171 ?_
        refine V_iload dX7_copy_172 6 rfl ?_
        refine V_iadd dX7_copy_174 ?_
        refine V_aload_n dX7_copy_175 0 rfl ?_
        refine V_get (i := 6) inlX7 rfl (W_7 hw) rfl (by decide) q_95 rfl dX7_copy_176 ?_
        refine V_iload dX7_copy_179 6 rfl ?_
        refine L_7_5 (W_7 hw) (by exact ix_mv h4 hj c_158) dX7_copy_181 ?_
        refine S_7_3 (W_7 hw) (by exact ix_cp h3 h4 hj c_158) dX7_copy_182 ?_
        refine V_iinc (v := (nI (j + 1))) (L2 := [(6, .int (nI (j + 1))), (0, .ref (ad 7 0 0)), (1, .int x1), (2, .int x2), (3, .int x3), (4, .int x4), (5, .int x5)]) dX7_copy_183 6 rfl (nI_1 _) (by decide) rfl ?_
        refine V_goto (tgt := 154) dX7_copy_186 (by decide) ?_
        refine V_rp (R2 := F_X7_copy_154 x1 x2 x3 x4 x5 K n (j + 1) (wr s 7 3 (((40 * x3) + x4) + (nI j)).toNatClampNeg (s 7 5 (nI j).toNatClampNeg))) (by simp only [F_X7_copy_154, if_neg c_158]) ?_
        refine V_lp [1, 2, 3, 4, 5, 6, 0] rfl ?_
        exact ih (j + 1) (wr s 7 3 (((40 * x3) + x4) + (nI j)).toNatClampNeg (s 7 5 (nI j).toNatClampNeg)) (by exact (lp_up hj c_158 hm).1) (by exact (lp_up hj c_158 hm).2) 
set_option maxRecDepth 100000 in
set_option maxHeartbeats 4000000 in
theorem k_X7_copy (l : Launch) (G : mm_G) {pr : Nat → Nat → Prop} {ad : Nat → Nat → Nat → Nat} (hw : mm_W pr) (g : mm_g) (x1 : Int32) (x2 : Int32) (x3 : Int32) (x4 : Int32) (x5 : Int32) (hR : okR7 g)  : Mt l G yX7_copy cX7_copy 7 (some .int) (rmk 3 105) [.ref (ad 7 0 0), .int x1, .int x2, .int x3, .int x4, .int x5] pr ad g (qM pr ad (F_X7_copy g x1 x2 x3 x4 x5)) 0 0 := by
  refine Mt_of (by decide) (Nat.le_of_ble_eq_true rfl) ?_
  show V l G RX7 cX7_copy 7 (some .int) _ _ 0 0 0 0 0 [(0, .ref (ad 7 0 0)), (1, .int x1), (2, .int x2), (3, .int x3), (4, .int x4), (5, .int x5)] [] pr ad g
  refine V_iload_n dX7_copy_0 1 rfl ?_
  refine V_cS (k_X7_isRow l G hw g  x1 ) hy_X7_isRow hz_X7_isRow q_131 rfl rfl rfl rfl ⟨by decide, by decide⟩ (Nat.le_of_ble_eq_true rfl) ⟨by decide, by decide⟩ dX7_copy_1 (V_kI ?_)
  refine V_if_eq (tgt := 14) dX7_copy_4 (by decide) (fun c_4 => ?_) (fun c_4 => ?_)
  · refine V_ldc q_130 dX7_copy_14 ?_
    exact V_iret dX7_copy_16 rfl (lfM (by simp only [F_X7_copy, if_pos c_4]))
  · refine V_iload_n dX7_copy_7 3 rfl ?_
    refine V_cS (k_X7_isRow l G hw g  x3 ) hy_X7_isRow hz_X7_isRow q_131 rfl rfl rfl rfl ⟨by decide, by decide⟩ (Nat.le_of_ble_eq_true rfl) ⟨by decide, by decide⟩ dX7_copy_8 (V_kI ?_)
    refine V_if_ne (tgt := 17) dX7_copy_11 (by decide) (fun c_11 => ?_) (fun c_11 => ?_)
    · refine V_aload_n dX7_copy_17 0 rfl ?_
      refine V_get (i := 1) inlX7 rfl (W_7 hw) rfl (by decide) q_92 rfl dX7_copy_18 ?_
      refine V_iload_n dX7_copy_21 1 rfl ?_
      refine L_7_2 (W_7 hw) (by first | exact ix_row c_4 | exact ix_row c_11) dX7_copy_22 ?_
      refine V_if_lt (tgt := 35) dX7_copy_23 (by decide) (fun c_23 => ?_) (fun c_23 => ?_)
      · refine V_aload_n dX7_copy_35 0 rfl ?_
        refine V_iconst (v := 1) dX7_copy_36 (by decide) ?_
        refine V_cV (k_X7_find l G hw g  1 ) hy_X7_find hi_X7_find hs_X7_find q_138 rfl rfl (W_7 hw) rfl rfl rfl rfl rfl ⟨by decide, by decide⟩ (Nat.le_of_ble_eq_true rfl) ⟨by decide, by decide⟩ dX7_copy_37 (V_kM ?_)
        exact V_iret dX7_copy_40 rfl (lfM (by simp only [F_X7_copy, if_neg c_4, if_neg c_11, if_pos c_23]))
      · refine V_aload_n dX7_copy_26 0 rfl ?_
        refine V_get (i := 1) inlX7 rfl (W_7 hw) rfl (by decide) q_92 rfl dX7_copy_27 ?_
        refine V_iload_n dX7_copy_30 3 rfl ?_
        refine L_7_2 (W_7 hw) (by first | exact ix_row c_4 | exact ix_row c_11) dX7_copy_31 ?_
        refine V_if_ge (tgt := 41) dX7_copy_32 (by decide) (fun c_32 => ?_) (fun c_32 => ?_)
        · refine V_aload_n dX7_copy_41 0 rfl ?_
          refine V_get (i := 0) inlX7 rfl (W_7 hw) rfl (by decide) q_91 rfl dX7_copy_42 ?_
          refine V_iload_n dX7_copy_45 1 rfl ?_
          refine L_7_1 (W_7 hw) (by first | exact ix_row c_4 | exact ix_row c_11) dX7_copy_46 ?_
          refine V_aload_n dX7_copy_47 0 rfl ?_
          refine V_get (i := 0) inlX7 rfl (W_7 hw) rfl (by decide) q_91 rfl dX7_copy_48 ?_
          refine V_iload_n dX7_copy_51 3 rfl ?_
          refine L_7_1 (W_7 hw) (by first | exact ix_row c_4 | exact ix_row c_11) dX7_copy_52 ?_
          refine V_ic_eq (tgt := 62) dX7_copy_53 (by decide) (fun c_53 => ?_) (fun c_53 => ?_)
          · refine V_iload dX7_copy_62 5 rfl ?_
            refine V_if_lt (tgt := 108) dX7_copy_64 (by decide) (fun c_64 => ?_) (fun c_64 => ?_)
            · refine V_aload_n dX7_copy_108 0 rfl ?_
              refine V_iconst (v := 2) dX7_copy_109 (by decide) ?_
              refine V_cV (k_X7_find l G hw g  2 ) hy_X7_find hi_X7_find hs_X7_find q_138 rfl rfl (W_7 hw) rfl rfl rfl rfl rfl ⟨by decide, by decide⟩ (Nat.le_of_ble_eq_true rfl) ⟨by decide, by decide⟩ dX7_copy_110 (V_kM ?_)
              exact V_iret dX7_copy_113 rfl (lfM (by simp only [F_X7_copy, if_neg c_4, if_neg c_11, if_neg c_23, if_pos c_32, if_pos c_53, if_pos c_64]))
            · refine V_iload_n dX7_copy_67 2 rfl ?_
              refine V_i2l dX7_copy_68 ?_
              refine V_lconst (v := 0) dX7_copy_69 (by decide) ?_
              refine V_aload_n dX7_copy_70 0 rfl ?_
              refine V_get (i := 1) inlX7 rfl (W_7 hw) rfl (by decide) q_92 rfl dX7_copy_71 ?_
              refine V_iload_n dX7_copy_74 1 rfl ?_
              refine L_7_2 (W_7 hw) (by first | exact ix_row c_4 | exact ix_row c_11) dX7_copy_75 ?_
              refine V_i2l dX7_copy_76 ?_
              refine V_iload dX7_copy_77 5 rfl ?_
              refine V_i2l dX7_copy_79 ?_
              refine V_lsub dX7_copy_80 ?_
              refine V_cS (k_X7_in l G hw g  (x2.toInt64) 0 (((g 7 2 x1.toNatClampNeg).toInt64) - (x5.toInt64)) ) hy_X7_in hz_X7_in q_135 rfl rfl rfl rfl ⟨by decide, by decide⟩ (Nat.le_of_ble_eq_true rfl) ⟨by decide, by decide⟩ dX7_copy_81 (V_kI ?_)
              refine V_if_eq (tgt := 108) dX7_copy_84 (by decide) (fun c_84 => ?_) (fun c_84 => ?_)
              · refine V_aload_n dX7_copy_108 0 rfl ?_
                refine V_iconst (v := 2) dX7_copy_109 (by decide) ?_
                refine V_cV (k_X7_find l G hw g  2 ) hy_X7_find hi_X7_find hs_X7_find q_138 rfl rfl (W_7 hw) rfl rfl rfl rfl rfl ⟨by decide, by decide⟩ (Nat.le_of_ble_eq_true rfl) ⟨by decide, by decide⟩ dX7_copy_110 (V_kM ?_)
                exact V_iret dX7_copy_113 rfl (lfM (by simp only [F_X7_copy, if_neg c_4, if_neg c_11, if_neg c_23, if_pos c_32, if_pos c_53, if_neg c_64, if_pos c_84]))
              · refine V_iload dX7_copy_87 4 rfl ?_
                refine V_i2l dX7_copy_89 ?_
                refine V_lconst (v := 0) dX7_copy_90 (by decide) ?_
                refine V_aload_n dX7_copy_91 0 rfl ?_
                refine V_get (i := 1) inlX7 rfl (W_7 hw) rfl (by decide) q_92 rfl dX7_copy_92 ?_
                refine V_iload_n dX7_copy_95 3 rfl ?_
                refine L_7_2 (W_7 hw) (by first | exact ix_row c_4 | exact ix_row c_11) dX7_copy_96 ?_
                refine V_i2l dX7_copy_97 ?_
                refine V_iload dX7_copy_98 5 rfl ?_
                refine V_i2l dX7_copy_100 ?_
                refine V_lsub dX7_copy_101 ?_
                refine V_cS (k_X7_in l G hw g  (x4.toInt64) 0 (((g 7 2 x3.toNatClampNeg).toInt64) - (x5.toInt64)) ) hy_X7_in hz_X7_in q_135 rfl rfl rfl rfl ⟨by decide, by decide⟩ (Nat.le_of_ble_eq_true rfl) ⟨by decide, by decide⟩ dX7_copy_102 (V_kI ?_)
                refine V_if_ne (tgt := 114) dX7_copy_105 (by decide) (fun c_105 => ?_) (fun c_105 => ?_)
                · refine V_iconst (v := 0) dX7_copy_114 (by decide) ?_
                  refine V_istore (L2 := [(6, .int 0), (0, .ref (ad 7 0 0)), (1, .int x1), (2, .int x2), (3, .int x3), (4, .int x4), (5, .int x5)]) dX7_copy_115 (by decide) rfl ?_
                  refine V_rp (R2 := F_X7_copy_117 x1 x2 x3 x4 x5 (fun (j117 : Nat) (s117 : mm_g) => (F_X7_copy_154 x1 x2 x3 x4 x5 (fun (j154 : Nat) (s154 : mm_g) => ((F_X7_well s154 x5).1, (F_X7_well s154 x5).2)) (x5.toInt.toNat + 1) 0 s117)) (x5.toInt.toNat + 1) 0 g) (by simp only [F_X7_copy, if_neg c_4, if_neg c_11, if_neg c_23, if_pos c_32, if_pos c_53, if_neg c_64, if_neg c_84, if_neg c_105]) ?_
                  refine V_lp [1, 2, 3, 4, 5, 6, 0] rfl ?_
                  refine w_X7_copy_117 l G hw x1 x2 x3 x4 x5  (by exact ix_row c_4) (by exact cp_1 hR (ix_row c_4) c_64 c_84) _ (fun j117 s117 hj117 => ?_) (x5.toInt.toNat + 1) 0 g (by first | exact Nat.zero_le _ | decide) (by omega)
                  refine V_iconst (v := 0) dX7_copy_151 (by decide) ?_
                  refine V_istore (L2 := [(6, .int 0), (0, .ref (ad 7 0 0)), (1, .int x1), (2, .int x2), (3, .int x3), (4, .int x4), (5, .int x5)]) dX7_copy_152 (by decide) rfl ?_
                  refine V_rp (R2 := F_X7_copy_154 x1 x2 x3 x4 x5 (fun (j154 : Nat) (s154 : mm_g) => ((F_X7_well s154 x5).1, (F_X7_well s154 x5).2)) (x5.toInt.toNat + 1) 0 s117) (by rfl) ?_
                  refine V_lp [1, 2, 3, 4, 5, 6, 0] rfl ?_
                  refine w_X7_copy_154 l G hw x1 x2 x3 x4 x5  (by exact ix_row c_11) (by exact cp_1 hR (ix_row c_11) c_64 c_105) _ (fun j154 s154 hj154 => ?_) (x5.toInt.toNat + 1) 0 s117 (by first | exact Nat.zero_le _ | decide) (by omega)
                  refine V_aload_n dX7_copy_189 0 rfl ?_
                  refine V_iload dX7_copy_190 5 rfl ?_
                  refine V_cV (k_X7_well l G hw s154  x5 ) hy_X7_well hi_X7_well hs_X7_well q_144 rfl rfl (W_7 hw) rfl rfl rfl rfl rfl ⟨by decide, by decide⟩ (Nat.le_of_ble_eq_true rfl) ⟨by decide, by decide⟩ dX7_copy_192 (V_kM ?_)
                  exact V_iret dX7_copy_195 rfl (lfM (by rfl))
                · refine V_aload_n dX7_copy_108 0 rfl ?_
                  refine V_iconst (v := 2) dX7_copy_109 (by decide) ?_
                  refine V_cV (k_X7_find l G hw g  2 ) hy_X7_find hi_X7_find hs_X7_find q_138 rfl rfl (W_7 hw) rfl rfl rfl rfl rfl ⟨by decide, by decide⟩ (Nat.le_of_ble_eq_true rfl) ⟨by decide, by decide⟩ dX7_copy_110 (V_kM ?_)
                  exact V_iret dX7_copy_113 rfl (lfM (by simp only [F_X7_copy, if_neg c_4, if_neg c_11, if_neg c_23, if_pos c_32, if_pos c_53, if_neg c_64, if_neg c_84, if_pos c_105]))
          · refine V_aload_n dX7_copy_56 0 rfl ?_
            refine V_iconst (v := 5) dX7_copy_57 (by decide) ?_
            refine V_cV (k_X7_find l G hw g  5 ) hy_X7_find hi_X7_find hs_X7_find q_138 rfl rfl (W_7 hw) rfl rfl rfl rfl rfl ⟨by decide, by decide⟩ (Nat.le_of_ble_eq_true rfl) ⟨by decide, by decide⟩ dX7_copy_58 (V_kM ?_)
            exact V_iret dX7_copy_61 rfl (lfM (by simp only [F_X7_copy, if_neg c_4, if_neg c_11, if_neg c_23, if_pos c_32, if_neg c_53]))
        · refine V_aload_n dX7_copy_35 0 rfl ?_
          refine V_iconst (v := 1) dX7_copy_36 (by decide) ?_
          refine V_cV (k_X7_find l G hw g  1 ) hy_X7_find hi_X7_find hs_X7_find q_138 rfl rfl (W_7 hw) rfl rfl rfl rfl rfl ⟨by decide, by decide⟩ (Nat.le_of_ble_eq_true rfl) ⟨by decide, by decide⟩ dX7_copy_37 (V_kM ?_)
          exact V_iret dX7_copy_40 rfl (lfM (by simp only [F_X7_copy, if_neg c_4, if_neg c_11, if_neg c_23, if_neg c_32]))
    · refine V_ldc q_130 dX7_copy_14 ?_
      exact V_iret dX7_copy_16 rfl (lfM (by simp only [F_X7_copy, if_neg c_4, if_pos c_11]))
def F_X7_drop (g : mm_g) (x1 : Int32) : Int32 × mm_g := (if (F_X7_isRow x1) = 0 then ((-1000001), g) else (if 0 ≤ (g 7 2 x1.toNatClampNeg) then ((F_X7_well (wr g 7 2 x1.toNatClampNeg (-1)) (g 7 2 x1.toNatClampNeg)).1, (F_X7_well (wr g 7 2 x1.toNatClampNeg (-1)) (g 7 2 x1.toNatClampNeg)).2) else ((F_X7_find g 1).1, (F_X7_find g 1).2)))
set_option maxRecDepth 100000 in
set_option maxHeartbeats 4000000 in
theorem k_X7_drop (l : Launch) (G : mm_G) {pr : Nat → Nat → Prop} {ad : Nat → Nat → Nat → Nat} (hw : mm_W pr) (g : mm_g) (x1 : Int32)  : Mt l G yX7_drop cX7_drop 3 (some .int) (rmk 3 105) [.ref (ad 7 0 0), .int x1] pr ad g (qM pr ad (F_X7_drop g x1)) 0 0 := by
  refine Mt_of (by decide) (Nat.le_of_ble_eq_true rfl) ?_
  show V l G RX7 cX7_drop 3 (some .int) _ _ 0 0 0 0 0 [(0, .ref (ad 7 0 0)), (1, .int x1)] [] pr ad g
  refine V_iload_n dX7_drop_0 1 rfl ?_
  refine V_cS (k_X7_isRow l G hw g  x1 ) hy_X7_isRow hz_X7_isRow q_131 rfl rfl rfl rfl ⟨by decide, by decide⟩ (Nat.le_of_ble_eq_true rfl) ⟨by decide, by decide⟩ dX7_drop_1 (V_kI ?_)
  refine V_if_ne (tgt := 10) dX7_drop_4 (by decide) (fun c_4 => ?_) (fun c_4 => ?_)
  · refine V_aload_n dX7_drop_10 0 rfl ?_
    refine V_get (i := 1) inlX7 rfl (W_7 hw) rfl (by decide) q_92 rfl dX7_drop_11 ?_
    refine V_iload_n dX7_drop_14 1 rfl ?_
    refine L_7_2 (W_7 hw) (by first | exact ix_row c_4) dX7_drop_15 ?_
    refine V_if_ge (tgt := 25) dX7_drop_16 (by decide) (fun c_16 => ?_) (fun c_16 => ?_)
    · refine V_aload_n dX7_drop_25 0 rfl ?_
      refine V_get (i := 1) inlX7 rfl (W_7 hw) rfl (by decide) q_92 rfl dX7_drop_26 ?_
      refine V_iload_n dX7_drop_29 1 rfl ?_
      refine L_7_2 (W_7 hw) (by first | exact ix_row c_4) dX7_drop_30 ?_
      refine V_istore_n (L2 := [(2, .int (g 7 2 x1.toNatClampNeg)), (0, .ref (ad 7 0 0)), (1, .int x1)]) dX7_drop_31 (by decide) rfl ?_
      refine V_aload_n dX7_drop_32 1 rfl ?_
      refine V_get (i := 1) inlX7 rfl (W_7 hw) rfl (by decide) q_92 rfl dX7_drop_33 ?_
      refine V_iload_n dX7_drop_36 2 rfl ?_
      refine V_iconst (v := (-1)) dX7_drop_37 (by decide) ?_
      refine S_7_2 (W_7 hw) (by first | exact ix_row c_4) dX7_drop_38 ?_
      refine V_aload_n dX7_drop_39 1 rfl ?_
      refine V_iload_n dX7_drop_40 0 rfl ?_
      refine V_cV (k_X7_well l G hw (wr g 7 2 x1.toNatClampNeg (-1))  (g 7 2 x1.toNatClampNeg) ) hy_X7_well hi_X7_well hs_X7_well q_144 rfl rfl (W_7 hw) rfl rfl rfl rfl rfl ⟨by decide, by decide⟩ (Nat.le_of_ble_eq_true rfl) ⟨by decide, by decide⟩ dX7_drop_41 (V_kM ?_)
      exact V_iret dX7_drop_44 rfl (lfM (by simp only [F_X7_drop, if_neg c_4, if_pos c_16]))
    · refine V_aload_n dX7_drop_19 0 rfl ?_
      refine V_iconst (v := 1) dX7_drop_20 (by decide) ?_
      refine V_cV (k_X7_find l G hw g  1 ) hy_X7_find hi_X7_find hs_X7_find q_138 rfl rfl (W_7 hw) rfl rfl rfl rfl rfl ⟨by decide, by decide⟩ (Nat.le_of_ble_eq_true rfl) ⟨by decide, by decide⟩ dX7_drop_21 (V_kM ?_)
      exact V_iret dX7_drop_24 rfl (lfM (by simp only [F_X7_drop, if_neg c_4, if_neg c_16]))
  · refine V_ldc q_130 dX7_drop_7 ?_
    exact V_iret dX7_drop_9 rfl (lfM (by simp only [F_X7_drop, if_pos c_4]))
def F_X7_feed (g : mm_g) (x1 : Int32) : Int32 × mm_g := (if (F_X7_in (x1.toInt64) 0 255) = 0 then ((-1000001), g) else (if (g 7 0 2) = 100 then ((-1000003), g) else (((wr (wr g 7 6 (g 7 0 2).toNatClampNeg x1) 7 0 2 (((wr g 7 6 (g 7 0 2).toNatClampNeg x1) 7 0 2) + 1)) 7 0 2), (wr (wr g 7 6 (g 7 0 2).toNatClampNeg x1) 7 0 2 (((wr g 7 6 (g 7 0 2).toNatClampNeg x1) 7 0 2) + 1)))))
set_option maxRecDepth 100000 in
set_option maxHeartbeats 4000000 in
theorem k_X7_feed (l : Launch) (G : mm_G) {pr : Nat → Nat → Prop} {ad : Nat → Nat → Nat → Nat} (hw : mm_W pr) (g : mm_g) (x1 : Int32) (hT : 0 ≤ (g 7 0 2).toInt ∧ (g 7 0 2).toInt ≤ 100)  : Mt l G yX7_feed cX7_feed 2 (some .int) (rmk 2 85) [.ref (ad 7 0 0), .int x1] pr ad g (qM pr ad (F_X7_feed g x1)) 0 0 := by
  refine Mt_of (by decide) (Nat.le_of_ble_eq_true rfl) ?_
  show V l G RX7 cX7_feed 2 (some .int) _ _ 0 0 0 0 0 [(0, .ref (ad 7 0 0)), (1, .int x1)] [] pr ad g
  refine V_iload_n dX7_feed_0 1 rfl ?_
  refine V_i2l dX7_feed_1 ?_
  refine V_lconst (v := 0) dX7_feed_2 (by decide) ?_
  refine V_ldc2 q_225 dX7_feed_3 ?_
  refine V_cS (k_X7_in l G hw g  (x1.toInt64) 0 255 ) hy_X7_in hz_X7_in q_135 rfl rfl rfl rfl ⟨by decide, by decide⟩ (Nat.le_of_ble_eq_true rfl) ⟨by decide, by decide⟩ dX7_feed_6 (V_kI ?_)
  refine V_if_ne (tgt := 15) dX7_feed_9 (by decide) (fun c_9 => ?_) (fun c_9 => ?_)
  · refine V_aload_n dX7_feed_15 0 rfl ?_
    refine V_get (i := 8) inlX7 rfl (W_7 hw) rfl (by decide) q_226 rfl dX7_feed_16 ?_
    refine V_bipush (v := 100) dX7_feed_19 (by decide) ?_
    refine V_ic_ne (tgt := 27) dX7_feed_21 (by decide) (fun c_21 => ?_) (fun c_21 => ?_)
    · refine V_aload_n dX7_feed_27 0 rfl ?_
      refine V_get (i := 7) inlX7 rfl (W_7 hw) rfl (by decide) q_96 rfl dX7_feed_28 ?_
      refine V_aload_n dX7_feed_31 0 rfl ?_
      refine V_get (i := 8) inlX7 rfl (W_7 hw) rfl (by decide) q_226 rfl dX7_feed_32 ?_
      refine V_iload_n dX7_feed_35 1 rfl ?_
      refine S_7_6 (W_7 hw) (by exact ix_feed hT c_21) dX7_feed_36 ?_
      refine V_aload_n dX7_feed_37 0 rfl ?_
      refine V_dup dX7_feed_38 rfl ?_
      refine V_get (i := 8) inlX7 rfl (W_7 hw) rfl (by decide) q_226 rfl dX7_feed_39 ?_
      refine V_iconst (v := 1) dX7_feed_42 (by decide) ?_
      refine V_iadd dX7_feed_43 ?_
      refine P_7_8 (W_7 hw) q_226 dX7_feed_44 ?_
      refine V_aload_n dX7_feed_47 0 rfl ?_
      refine V_get (i := 8) inlX7 rfl (W_7 hw) rfl (by decide) q_226 rfl dX7_feed_48 ?_
      exact V_iret dX7_feed_51 rfl (lfM (by simp only [F_X7_feed, if_neg c_9, if_neg c_21]))
    · refine V_ldc q_227 dX7_feed_24 ?_
      exact V_iret dX7_feed_26 rfl (lfM (by simp only [F_X7_feed, if_neg c_9, if_pos c_21]))
  · refine V_ldc q_130 dX7_feed_12 ?_
    exact V_iret dX7_feed_14 rfl (lfM (by simp only [F_X7_feed, if_pos c_9]))
def F_X7_faults (g : mm_g) (x1 : Int32) : Int32 × mm_g := (0, (wr g 7 0 8 x1))
set_option maxRecDepth 100000 in
set_option maxHeartbeats 4000000 in
theorem k_X7_faults (l : Launch) (G : mm_G) {pr : Nat → Nat → Prop} {ad : Nat → Nat → Nat → Nat} (hw : mm_W pr) (g : mm_g) (x1 : Int32)  : Mt l G yX7_faults cX7_faults 2 (some .boolean) (rmk 1 60) [.ref (ad 7 0 0), .int x1] pr ad g (qM pr ad (F_X7_faults g x1)) 0 0 := by
  refine Mt_of (by decide) (Nat.le_of_ble_eq_true rfl) ?_
  show V l G RX7 cX7_faults 2 (some .boolean) _ _ 0 0 0 0 0 [(0, .ref (ad 7 0 0)), (1, .int x1)] [] pr ad g
  refine V_aload_n dX7_faults_0 0 rfl ?_
  refine V_iload_n dX7_faults_1 1 rfl ?_
  refine P_7_14 (W_7 hw) q_305 dX7_faults_2 ?_
  refine V_iconst (v := 0) dX7_faults_5 (by decide) ?_
  exact V_zret dX7_faults_6 rfl rfl (lfM (by simp only [F_X7_faults]))
def F_X7_kindBy (x1 : Int32) : Int32 := (if x1 = 99 then 1 else (if x1 = 115 then 2 else (if x1 = 107 then 3 else (if x1 = 119 then 4 else (if x1 = 113 then 5 else 0)))))
set_option maxRecDepth 100000 in
set_option maxHeartbeats 4000000 in
theorem k_X7_kindBy (l : Launch) (G : mm_G) {pr : Nat → Nat → Prop} {ad : Nat → Nat → Nat → Nat} (hw : mm_W pr) (g : mm_g) (x1 : Int32)  : Mt l G yX7_kindBy cX7_kindBy 1 (some .int) (rmk 1 60) [.int x1] pr ad g (qI pr ad g (F_X7_kindBy x1)) 0 0 := by
  refine Mt_of (by decide) (Nat.le_of_ble_eq_true rfl) ?_
  show V l G RX7 cX7_kindBy 1 (some .int) _ _ 0 0 0 0 0 [(0, .int x1)] [] pr ad g
  refine V_iload_n dX7_kindBy_0 0 rfl ?_
  refine V_bipush (v := 99) dX7_kindBy_1 (by decide) ?_
  refine V_ic_ne (tgt := 10) dX7_kindBy_3 (by decide) (fun c_3 => ?_) (fun c_3 => ?_)
  · refine V_iload_n dX7_kindBy_10 0 rfl ?_
    refine V_bipush (v := 115) dX7_kindBy_11 (by decide) ?_
    refine V_ic_ne (tgt := 20) dX7_kindBy_13 (by decide) (fun c_13 => ?_) (fun c_13 => ?_)
    · refine V_iload_n dX7_kindBy_20 0 rfl ?_
      refine V_bipush (v := 107) dX7_kindBy_21 (by decide) ?_
      refine V_ic_ne (tgt := 30) dX7_kindBy_23 (by decide) (fun c_23 => ?_) (fun c_23 => ?_)
      · refine V_iload_n dX7_kindBy_30 0 rfl ?_
        refine V_bipush (v := 119) dX7_kindBy_31 (by decide) ?_
        refine V_ic_ne (tgt := 40) dX7_kindBy_33 (by decide) (fun c_33 => ?_) (fun c_33 => ?_)
        · refine V_iload_n dX7_kindBy_40 0 rfl ?_
          refine V_bipush (v := 113) dX7_kindBy_41 (by decide) ?_
          refine V_ic_ne (tgt := 50) dX7_kindBy_43 (by decide) (fun c_43 => ?_) (fun c_43 => ?_)
          · refine V_iconst (v := 0) dX7_kindBy_50 (by decide) ?_
            exact V_iret dX7_kindBy_51 rfl (lfI (by simp only [F_X7_kindBy, if_neg c_3, if_neg c_13, if_neg c_23, if_neg c_33, if_neg c_43]))
          · refine V_iconst (v := 5) dX7_kindBy_46 (by decide) ?_
            refine V_goto (tgt := 51) dX7_kindBy_47 (by decide) ?_
            exact V_iret dX7_kindBy_51 rfl (lfI (by simp only [F_X7_kindBy, if_neg c_3, if_neg c_13, if_neg c_23, if_neg c_33, if_pos c_43]))
        · refine V_iconst (v := 4) dX7_kindBy_36 (by decide) ?_
          refine V_goto (tgt := 51) dX7_kindBy_37 (by decide) ?_
          exact V_iret dX7_kindBy_51 rfl (lfI (by simp only [F_X7_kindBy, if_neg c_3, if_neg c_13, if_neg c_23, if_pos c_33]))
      · refine V_iconst (v := 3) dX7_kindBy_26 (by decide) ?_
        refine V_goto (tgt := 51) dX7_kindBy_27 (by decide) ?_
        exact V_iret dX7_kindBy_51 rfl (lfI (by simp only [F_X7_kindBy, if_neg c_3, if_neg c_13, if_pos c_23]))
    · refine V_iconst (v := 2) dX7_kindBy_16 (by decide) ?_
      refine V_goto (tgt := 51) dX7_kindBy_17 (by decide) ?_
      exact V_iret dX7_kindBy_51 rfl (lfI (by simp only [F_X7_kindBy, if_neg c_3, if_pos c_13]))
  · refine V_iconst (v := 1) dX7_kindBy_6 (by decide) ?_
    refine V_goto (tgt := 51) dX7_kindBy_7 (by decide) ?_
    exact V_iret dX7_kindBy_51 rfl (lfI (by simp only [F_X7_kindBy, if_pos c_3]))
def F_X7_fault (g : mm_g) : Int32 := (g 7 0 3)
set_option maxRecDepth 100000 in
set_option maxHeartbeats 4000000 in
theorem k_X7_fault (l : Launch) (G : mm_G) {pr : Nat → Nat → Prop} {ad : Nat → Nat → Nat → Nat} (hw : mm_W pr) (g : mm_g)  : Mt l G yX7_fault cX7_fault 1 (some .int) (rmk 1 60) [.ref (ad 7 0 0)] pr ad g (qI pr ad g (F_X7_fault g)) 0 0 := by
  refine Mt_of (by decide) (Nat.le_of_ble_eq_true rfl) ?_
  show V l G RX7 cX7_fault 1 (some .int) _ _ 0 0 0 0 0 [(0, .ref (ad 7 0 0))] [] pr ad g
  refine V_aload_n dX7_fault_0 0 rfl ?_
  refine V_get (i := 9) inlX7 rfl (W_7 hw) rfl (by decide) q_306 rfl dX7_fault_1 ?_
  exact V_iret dX7_fault_4 rfl (lfI (by simp only [F_X7_fault]))
def F_X7_isBed (g : mm_g) (x1 : Int32) : Int32 := (F_X7_in (x1.toInt64) 0 (((g 7 4 0) - 1).toInt64))
set_option maxRecDepth 100000 in
set_option maxHeartbeats 4000000 in
theorem k_X7_isBed (l : Launch) (G : mm_G) {pr : Nat → Nat → Prop} {ad : Nat → Nat → Nat → Nat} (hw : mm_W pr) (g : mm_g) (x1 : Int32)  : Mt l G yX7_isBed cX7_isBed 2 (some .boolean) (rmk 2 85) [.ref (ad 7 0 0), .int x1] pr ad g (qI pr ad g (F_X7_isBed g x1)) 0 0 := by
  refine Mt_of (by decide) (Nat.le_of_ble_eq_true rfl) ?_
  show V l G RX7 cX7_isBed 2 (some .boolean) _ _ 0 0 0 0 0 [(0, .ref (ad 7 0 0)), (1, .int x1)] [] pr ad g
  refine V_iload_n dX7_isBed_0 1 rfl ?_
  refine V_i2l dX7_isBed_1 ?_
  refine V_lconst (v := 0) dX7_isBed_2 (by decide) ?_
  refine V_aload_n dX7_isBed_3 0 rfl ?_
  refine V_get (i := 5) inlX7 rfl (W_7 hw) rfl (by decide) q_94 rfl dX7_isBed_4 ?_
  refine V_iconst (v := 0) dX7_isBed_7 (by decide) ?_
  refine L_7_4_l 0 rfl (W_7 hw) (by unfold vp_in; decide) dX7_isBed_8 ?_
  refine V_iconst (v := 1) dX7_isBed_9 (by decide) ?_
  refine V_isub dX7_isBed_10 ?_
  refine V_i2l dX7_isBed_11 ?_
  refine V_cS (k_X7_in l G hw g  (x1.toInt64) 0 (((g 7 4 0) - 1).toInt64) ) hy_X7_in hz_X7_in q_135 rfl rfl rfl rfl ⟨by decide, by decide⟩ (Nat.le_of_ble_eq_true rfl) ⟨by decide, by decide⟩ dX7_isBed_12 (V_kI ?_)
  exact V_zret dX7_isBed_15 rfl (nz01 in_01) (lfI (by simp only [F_X7_isBed]))
def F_X7_isWho (x1 : Int32) : Int32 := (F_X7_in (x1.toInt64) 0 1)
set_option maxRecDepth 100000 in
set_option maxHeartbeats 4000000 in
theorem k_X7_isWho (l : Launch) (G : mm_G) {pr : Nat → Nat → Prop} {ad : Nat → Nat → Nat → Nat} (hw : mm_W pr) (g : mm_g) (x1 : Int32)  : Mt l G yX7_isWho cX7_isWho 1 (some .boolean) (rmk 2 85) [.int x1] pr ad g (qI pr ad g (F_X7_isWho x1)) 0 0 := by
  refine Mt_of (by decide) (Nat.le_of_ble_eq_true rfl) ?_
  show V l G RX7 cX7_isWho 1 (some .boolean) _ _ 0 0 0 0 0 [(0, .int x1)] [] pr ad g
  refine V_iload_n dX7_isWho_0 0 rfl ?_
  refine V_i2l dX7_isWho_1 ?_
  refine V_lconst (v := 0) dX7_isWho_2 (by decide) ?_
  refine V_lconst (v := 1) dX7_isWho_3 (by decide) ?_
  refine V_cS (k_X7_in l G hw g  (x1.toInt64) 0 1 ) hy_X7_in hz_X7_in q_135 rfl rfl rfl rfl ⟨by decide, by decide⟩ (Nat.le_of_ble_eq_true rfl) ⟨by decide, by decide⟩ dX7_isWho_4 (V_kI ?_)
  exact V_zret dX7_isWho_7 rfl (nz01 in_01) (lfI (by simp only [F_X7_isWho]))
theorem ix_who {r : Int32} (h : ¬ F_X7_isWho r = 0) : vp_in r 2 := by
  unfold F_X7_isWho at h
  exact ix_in h rfl
def F_X7_off (g : mm_g) (x1 : Int32) (x2 : Int32) : Int32 := (if 0 ≤ ((g 7 4 (1 + x1).toNatClampNeg) - x2) then ((g 7 4 (1 + x1).toNatClampNeg) - x2) else (-((g 7 4 (1 + x1).toNatClampNeg) - x2)))
set_option maxRecDepth 100000 in
set_option maxHeartbeats 4000000 in
theorem k_X7_off (l : Launch) (G : mm_G) {pr : Nat → Nat → Prop} {ad : Nat → Nat → Nat → Nat} (hw : mm_W pr) (g : mm_g) (x1 : Int32) (x2 : Int32) (hv : vp_in x1 2)  : Mt l G yX7_off cX7_off 4 (some .int) (rmk 1 60) [.ref (ad 7 0 0), .int x1, .int x2] pr ad g (qI pr ad g (F_X7_off g x1 x2)) 0 0 := by
  refine Mt_of (by decide) (Nat.le_of_ble_eq_true rfl) ?_
  show V l G RX7 cX7_off 4 (some .int) _ _ 0 0 0 0 0 [(0, .ref (ad 7 0 0)), (1, .int x1), (2, .int x2)] [] pr ad g
  refine V_aload_n dX7_off_0 0 rfl ?_
  refine V_get (i := 5) inlX7 rfl (W_7 hw) rfl (by decide) q_94 rfl dX7_off_1 ?_
  refine V_iconst (v := 1) dX7_off_4 (by decide) ?_
  refine V_iload_n dX7_off_5 1 rfl ?_
  refine V_iadd dX7_off_6 ?_
  refine L_7_4 (W_7 hw) (by exact ix_1 hv) dX7_off_7 ?_
  refine V_iload_n dX7_off_8 2 rfl ?_
  refine V_isub dX7_off_9 ?_
  refine V_istore_n (L2 := [(3, .int ((g 7 4 (1 + x1).toNatClampNeg) - x2)), (0, .ref (ad 7 0 0)), (1, .int x1), (2, .int x2)]) dX7_off_10 (by decide) rfl ?_
  refine V_iload_n dX7_off_11 0 rfl ?_
  refine V_if_ge (tgt := 20) dX7_off_12 (by decide) (fun c_12 => ?_) (fun c_12 => ?_)
  · refine V_iload_n dX7_off_20 0 rfl ?_
    exact V_iret dX7_off_21 rfl (lfI (by simp only [F_X7_off, if_pos c_12]))
  · refine V_iload_n dX7_off_15 0 rfl ?_
    refine V_ineg dX7_off_16 ?_
    refine V_goto (tgt := 21) dX7_off_17 (by decide) ?_
    exact V_iret dX7_off_21 rfl (lfI (by simp only [F_X7_off, if_neg c_12]))
def F_X7_nearer (g : mm_g) (x1 : Int32) (x2 : Int32) : Int32 := (if ((F_X7_off g 1 x1) - (F_X7_off g 0 x1)) < x2 then (if (-x2) < ((F_X7_off g 1 x1) - (F_X7_off g 0 x1)) then 2 else 1) else 0)
set_option maxRecDepth 100000 in
set_option maxHeartbeats 4000000 in
theorem k_X7_nearer (l : Launch) (G : mm_G) {pr : Nat → Nat → Prop} {ad : Nat → Nat → Nat → Nat} (hw : mm_W pr) (g : mm_g) (x1 : Int32) (x2 : Int32)  : Mt l G yX7_nearer cX7_nearer 4 (some .int) (rmk 2 83) [.ref (ad 7 0 0), .int x1, .int x2] pr ad g (qI pr ad g (F_X7_nearer g x1 x2)) 0 0 := by
  refine Mt_of (by decide) (Nat.le_of_ble_eq_true rfl) ?_
  show V l G RX7 cX7_nearer 4 (some .int) _ _ 0 0 0 0 0 [(0, .ref (ad 7 0 0)), (1, .int x1), (2, .int x2)] [] pr ad g
  refine V_aload_n dX7_nearer_0 0 rfl ?_
  refine V_iconst (v := 1) dX7_nearer_1 (by decide) ?_
  refine V_iload_n dX7_nearer_2 1 rfl ?_
  refine V_cV (k_X7_off l G hw g  1 x1 (by unfold vp_in; decide)) hy_X7_off hi_X7_off hs_X7_off q_450 rfl rfl (W_7 hw) rfl rfl rfl rfl rfl ⟨by decide, by decide⟩ (Nat.le_of_ble_eq_true rfl) ⟨by decide, by decide⟩ dX7_nearer_3 (V_kI ?_)
  refine V_aload_n dX7_nearer_6 0 rfl ?_
  refine V_iconst (v := 0) dX7_nearer_7 (by decide) ?_
  refine V_iload_n dX7_nearer_8 1 rfl ?_
  refine V_cV (k_X7_off l G hw g  0 x1 (by unfold vp_in; decide)) hy_X7_off hi_X7_off hs_X7_off q_450 rfl rfl (W_7 hw) rfl rfl rfl rfl rfl ⟨by decide, by decide⟩ (Nat.le_of_ble_eq_true rfl) ⟨by decide, by decide⟩ dX7_nearer_9 (V_kI ?_)
  refine V_isub dX7_nearer_12 ?_
  refine V_istore_n (L2 := [(3, .int ((F_X7_off g 1 x1) - (F_X7_off g 0 x1))), (0, .ref (ad 7 0 0)), (1, .int x1), (2, .int x2)]) dX7_nearer_13 (by decide) rfl ?_
  refine V_iload_n dX7_nearer_14 0 rfl ?_
  refine V_iload_n dX7_nearer_15 3 rfl ?_
  refine V_ic_lt (tgt := 23) dX7_nearer_16 (by decide) (fun c_16 => ?_) (fun c_16 => ?_)
  · refine V_iload_n dX7_nearer_23 0 rfl ?_
    refine V_iload_n dX7_nearer_24 3 rfl ?_
    refine V_ineg dX7_nearer_25 ?_
    refine V_ic_gt (tgt := 33) dX7_nearer_26 (by decide) (fun c_26 => ?_) (fun c_26 => ?_)
    · refine V_iconst (v := 2) dX7_nearer_33 (by decide) ?_
      exact V_iret dX7_nearer_34 rfl (lfI (by simp only [F_X7_nearer, if_pos c_16, if_pos c_26]))
    · refine V_iconst (v := 1) dX7_nearer_29 (by decide) ?_
      refine V_goto (tgt := 34) dX7_nearer_30 (by decide) ?_
      exact V_iret dX7_nearer_34 rfl (lfI (by simp only [F_X7_nearer, if_pos c_16, if_neg c_26]))
  · refine V_iconst (v := 0) dX7_nearer_19 (by decide) ?_
    refine V_goto (tgt := 34) dX7_nearer_20 (by decide) ?_
    exact V_iret dX7_nearer_34 rfl (lfI (by simp only [F_X7_nearer, if_neg c_16]))
def F_X7_lies (g : mm_g) (x1 : Int32) : Int32 := (if (g 7 4 (27 + x1).toNatClampNeg) < 5 then (if (g 7 4 (9 + x1).toNatClampNeg) = 1 then (F_X7_nearer g x1 1) else (if (g 7 4 (9 + x1).toNatClampNeg) = 2 then (F_X7_nearer g x1 2) else (if (g 7 4 (9 + x1).toNatClampNeg) = 3 then (if (F_X7_nearer g x1 1) = 2 then 2 else (1 - (F_X7_nearer g x1 1))) else (if (g 7 4 (9 + x1).toNatClampNeg) = 4 then 1 else (if 10 ≤ (g 7 4 (18 + x1).toNatClampNeg) then 1 else 2))))) else (if (g 7 4 (9 + x1).toNatClampNeg) = 1 then (F_X7_nearer g x1 1) else (if (g 7 4 (9 + x1).toNatClampNeg) = 2 then (F_X7_nearer g x1 2) else (if (g 7 4 (9 + x1).toNatClampNeg) = 3 then (if (F_X7_nearer g x1 1) = 2 then 2 else (1 - (F_X7_nearer g x1 1))) else (if (g 7 4 (9 + x1).toNatClampNeg) = 4 then 0 else (if 10 ≤ (g 7 4 (18 + x1).toNatClampNeg) then 0 else 2))))))
set_option maxRecDepth 100000 in
set_option maxHeartbeats 4000000 in
theorem k_X7_lies (l : Launch) (G : mm_G) {pr : Nat → Nat → Prop} {ad : Nat → Nat → Nat → Nat} (hw : mm_W pr) (g : mm_g) (x1 : Int32) (hx : vp_in x1 9)  : Mt l G yX7_lies cX7_lies 4 (some .int) (rmk 3 106) [.ref (ad 7 0 0), .int x1] pr ad g (qI pr ad g (F_X7_lies g x1)) 0 0 := by
  refine Mt_of (by decide) (Nat.le_of_ble_eq_true rfl) ?_
  show V l G RX7 cX7_lies 4 (some .int) _ _ 0 0 0 0 0 [(0, .ref (ad 7 0 0)), (1, .int x1)] [] pr ad g
  refine V_aload_n dX7_lies_0 0 rfl ?_
  refine V_iload_n dX7_lies_1 1 rfl ?_
  refine V_iconst (v := 1) dX7_lies_2 (by decide) ?_
  refine V_cV (k_X7_nearer l G hw g  x1 1 ) hy_X7_nearer hi_X7_nearer hs_X7_nearer q_446 rfl rfl (W_7 hw) rfl rfl rfl rfl rfl ⟨by decide, by decide⟩ (Nat.le_of_ble_eq_true rfl) ⟨by decide, by decide⟩ dX7_lies_3 (V_kI ?_)
  refine V_istore_n (L2 := [(2, .int (F_X7_nearer g x1 1)), (0, .ref (ad 7 0 0)), (1, .int x1)]) dX7_lies_6 (by decide) rfl ?_
  refine V_aload_n dX7_lies_7 1 rfl ?_
  refine V_get (i := 5) inlX7 rfl (W_7 hw) rfl (by decide) q_94 rfl dX7_lies_8 ?_
  refine V_bipush (v := 27) dX7_lies_11 (by decide) ?_
  refine V_iload_n dX7_lies_13 2 rfl ?_
  refine V_iadd dX7_lies_14 ?_
  refine L_7_4 (W_7 hw) (by exact ix_27 hx) dX7_lies_15 ?_
  refine V_iconst (v := 5) dX7_lies_16 (by decide) ?_
  refine V_ic_lt (tgt := 24) dX7_lies_17 (by decide) (fun c_17 => ?_) (fun c_17 => ?_)
  · refine V_iconst (v := 1) dX7_lies_24 (by decide) ?_
    refine V_istore_n (L2 := [(3, .int 1), (2, .int (F_X7_nearer g x1 1)), (0, .ref (ad 7 0 0)), (1, .int x1)]) dX7_lies_25 (by decide) rfl ?_
    refine V_aload_n dX7_lies_26 2 rfl ?_
    refine V_get (i := 5) inlX7 rfl (W_7 hw) rfl (by decide) q_94 rfl dX7_lies_27 ?_
    refine V_bipush (v := 9) dX7_lies_30 (by decide) ?_
    refine V_iload_n dX7_lies_32 3 rfl ?_
    refine V_iadd dX7_lies_33 ?_
    refine L_7_4 (W_7 hw) (by exact ix_9 hx) dX7_lies_34 ?_
    by_cases s_35_0 : (g 7 4 (9 + x1).toNatClampNeg) = 1
    · refine V_tabI (v := 1) (off := 29) (tgt := 64) dX7_lies_35 s_35_0 (by decide) (by decide) rfl (by decide) ?_
      refine V_iload_n dX7_lies_64 1 rfl ?_
      exact V_iret dX7_lies_65 rfl (lfI (by simp only [F_X7_lies, if_pos c_17, if_pos s_35_0]))
    by_cases s_35_1 : (g 7 4 (9 + x1).toNatClampNeg) = 2
    · refine V_tabI (v := 2) (off := 31) (tgt := 66) dX7_lies_35 s_35_1 (by decide) (by decide) rfl (by decide) ?_
      refine V_aload_n dX7_lies_66 2 rfl ?_
      refine V_iload_n dX7_lies_67 3 rfl ?_
      refine V_iconst (v := 2) dX7_lies_68 (by decide) ?_
      refine V_cV (k_X7_nearer l G hw g  x1 2 ) hy_X7_nearer hi_X7_nearer hs_X7_nearer q_446 rfl rfl (W_7 hw) rfl rfl rfl rfl rfl ⟨by decide, by decide⟩ (Nat.le_of_ble_eq_true rfl) ⟨by decide, by decide⟩ dX7_lies_69 (V_kI ?_)
      exact V_iret dX7_lies_72 rfl (lfI (by simp only [F_X7_lies, if_pos c_17, if_neg s_35_0, if_pos s_35_1]))
    by_cases s_35_2 : (g 7 4 (9 + x1).toNatClampNeg) = 3
    · refine V_tabI (v := 3) (off := 38) (tgt := 73) dX7_lies_35 s_35_2 (by decide) (by decide) rfl (by decide) ?_
      refine V_iload_n dX7_lies_73 1 rfl ?_
      refine V_iconst (v := 2) dX7_lies_74 (by decide) ?_
      refine V_ic_ne (tgt := 82) dX7_lies_75 (by decide) (fun c_75 => ?_) (fun c_75 => ?_)
      · refine V_iconst (v := 1) dX7_lies_82 (by decide) ?_
        refine V_iload_n dX7_lies_83 1 rfl ?_
        refine V_isub dX7_lies_84 ?_
        exact V_iret dX7_lies_85 rfl (lfI (by simp only [F_X7_lies, if_pos c_17, if_neg s_35_0, if_neg s_35_1, if_pos s_35_2, if_neg c_75]))
      · refine V_iconst (v := 2) dX7_lies_78 (by decide) ?_
        refine V_goto (tgt := 85) dX7_lies_79 (by decide) ?_
        exact V_iret dX7_lies_85 rfl (lfI (by simp only [F_X7_lies, if_pos c_17, if_neg s_35_0, if_neg s_35_1, if_pos s_35_2, if_pos c_75]))
    by_cases s_35_3 : (g 7 4 (9 + x1).toNatClampNeg) = 4
    · refine V_tabI (v := 4) (off := 51) (tgt := 86) dX7_lies_35 s_35_3 (by decide) (by decide) rfl (by decide) ?_
      refine V_iload_n dX7_lies_86 0 rfl ?_
      exact V_iret dX7_lies_87 rfl (lfI (by simp only [F_X7_lies, if_pos c_17, if_neg s_35_0, if_neg s_35_1, if_neg s_35_2, if_pos s_35_3]))
    refine V_tabO (tgt := 88) dX7_lies_35 (by have e0 := mm_ne s_35_0 (n := 1) (by decide); have e1 := mm_ne s_35_1 (n := 2) (by decide); have e2 := mm_ne s_35_2 (n := 3) (by decide); have e3 := mm_ne s_35_3 (n := 4) (by decide); omega) (by decide) ?_
    refine V_aload_n dX7_lies_88 2 rfl ?_
    refine V_get (i := 5) inlX7 rfl (W_7 hw) rfl (by decide) q_94 rfl dX7_lies_89 ?_
    refine V_bipush (v := 18) dX7_lies_92 (by decide) ?_
    refine V_iload_n dX7_lies_94 3 rfl ?_
    refine V_iadd dX7_lies_95 ?_
    refine L_7_4 (W_7 hw) (by exact ix_18 hx) dX7_lies_96 ?_
    refine V_bipush (v := 10) dX7_lies_97 (by decide) ?_
    refine V_ic_ge (tgt := 106) dX7_lies_99 (by decide) (fun c_99 => ?_) (fun c_99 => ?_)
    · refine V_iload_n dX7_lies_106 0 rfl ?_
      exact V_iret dX7_lies_107 rfl (lfI (by simp only [F_X7_lies, if_pos c_17, if_neg s_35_0, if_neg s_35_1, if_neg s_35_2, if_neg s_35_3, if_pos c_99]))
    · refine V_iconst (v := 2) dX7_lies_102 (by decide) ?_
      refine V_goto (tgt := 107) dX7_lies_103 (by decide) ?_
      exact V_iret dX7_lies_107 rfl (lfI (by simp only [F_X7_lies, if_pos c_17, if_neg s_35_0, if_neg s_35_1, if_neg s_35_2, if_neg s_35_3, if_neg c_99]))
  · refine V_iconst (v := 0) dX7_lies_20 (by decide) ?_
    refine V_goto (tgt := 25) dX7_lies_21 (by decide) ?_
    refine V_istore_n (L2 := [(3, .int 0), (2, .int (F_X7_nearer g x1 1)), (0, .ref (ad 7 0 0)), (1, .int x1)]) dX7_lies_25 (by decide) rfl ?_
    refine V_aload_n dX7_lies_26 2 rfl ?_
    refine V_get (i := 5) inlX7 rfl (W_7 hw) rfl (by decide) q_94 rfl dX7_lies_27 ?_
    refine V_bipush (v := 9) dX7_lies_30 (by decide) ?_
    refine V_iload_n dX7_lies_32 3 rfl ?_
    refine V_iadd dX7_lies_33 ?_
    refine L_7_4 (W_7 hw) (by exact ix_9 hx) dX7_lies_34 ?_
    by_cases s_35_0 : (g 7 4 (9 + x1).toNatClampNeg) = 1
    · refine V_tabI (v := 1) (off := 29) (tgt := 64) dX7_lies_35 s_35_0 (by decide) (by decide) rfl (by decide) ?_
      refine V_iload_n dX7_lies_64 1 rfl ?_
      exact V_iret dX7_lies_65 rfl (lfI (by simp only [F_X7_lies, if_neg c_17, if_pos s_35_0]))
    by_cases s_35_1 : (g 7 4 (9 + x1).toNatClampNeg) = 2
    · refine V_tabI (v := 2) (off := 31) (tgt := 66) dX7_lies_35 s_35_1 (by decide) (by decide) rfl (by decide) ?_
      refine V_aload_n dX7_lies_66 2 rfl ?_
      refine V_iload_n dX7_lies_67 3 rfl ?_
      refine V_iconst (v := 2) dX7_lies_68 (by decide) ?_
      refine V_cV (k_X7_nearer l G hw g  x1 2 ) hy_X7_nearer hi_X7_nearer hs_X7_nearer q_446 rfl rfl (W_7 hw) rfl rfl rfl rfl rfl ⟨by decide, by decide⟩ (Nat.le_of_ble_eq_true rfl) ⟨by decide, by decide⟩ dX7_lies_69 (V_kI ?_)
      exact V_iret dX7_lies_72 rfl (lfI (by simp only [F_X7_lies, if_neg c_17, if_neg s_35_0, if_pos s_35_1]))
    by_cases s_35_2 : (g 7 4 (9 + x1).toNatClampNeg) = 3
    · refine V_tabI (v := 3) (off := 38) (tgt := 73) dX7_lies_35 s_35_2 (by decide) (by decide) rfl (by decide) ?_
      refine V_iload_n dX7_lies_73 1 rfl ?_
      refine V_iconst (v := 2) dX7_lies_74 (by decide) ?_
      refine V_ic_ne (tgt := 82) dX7_lies_75 (by decide) (fun c_75 => ?_) (fun c_75 => ?_)
      · refine V_iconst (v := 1) dX7_lies_82 (by decide) ?_
        refine V_iload_n dX7_lies_83 1 rfl ?_
        refine V_isub dX7_lies_84 ?_
        exact V_iret dX7_lies_85 rfl (lfI (by simp only [F_X7_lies, if_neg c_17, if_neg s_35_0, if_neg s_35_1, if_pos s_35_2, if_neg c_75]))
      · refine V_iconst (v := 2) dX7_lies_78 (by decide) ?_
        refine V_goto (tgt := 85) dX7_lies_79 (by decide) ?_
        exact V_iret dX7_lies_85 rfl (lfI (by simp only [F_X7_lies, if_neg c_17, if_neg s_35_0, if_neg s_35_1, if_pos s_35_2, if_pos c_75]))
    by_cases s_35_3 : (g 7 4 (9 + x1).toNatClampNeg) = 4
    · refine V_tabI (v := 4) (off := 51) (tgt := 86) dX7_lies_35 s_35_3 (by decide) (by decide) rfl (by decide) ?_
      refine V_iload_n dX7_lies_86 0 rfl ?_
      exact V_iret dX7_lies_87 rfl (lfI (by simp only [F_X7_lies, if_neg c_17, if_neg s_35_0, if_neg s_35_1, if_neg s_35_2, if_pos s_35_3]))
    refine V_tabO (tgt := 88) dX7_lies_35 (by have e0 := mm_ne s_35_0 (n := 1) (by decide); have e1 := mm_ne s_35_1 (n := 2) (by decide); have e2 := mm_ne s_35_2 (n := 3) (by decide); have e3 := mm_ne s_35_3 (n := 4) (by decide); omega) (by decide) ?_
    refine V_aload_n dX7_lies_88 2 rfl ?_
    refine V_get (i := 5) inlX7 rfl (W_7 hw) rfl (by decide) q_94 rfl dX7_lies_89 ?_
    refine V_bipush (v := 18) dX7_lies_92 (by decide) ?_
    refine V_iload_n dX7_lies_94 3 rfl ?_
    refine V_iadd dX7_lies_95 ?_
    refine L_7_4 (W_7 hw) (by exact ix_18 hx) dX7_lies_96 ?_
    refine V_bipush (v := 10) dX7_lies_97 (by decide) ?_
    refine V_ic_ge (tgt := 106) dX7_lies_99 (by decide) (fun c_99 => ?_) (fun c_99 => ?_)
    · refine V_iload_n dX7_lies_106 0 rfl ?_
      exact V_iret dX7_lies_107 rfl (lfI (by simp only [F_X7_lies, if_neg c_17, if_neg s_35_0, if_neg s_35_1, if_neg s_35_2, if_neg s_35_3, if_pos c_99]))
    · refine V_iconst (v := 2) dX7_lies_102 (by decide) ?_
      refine V_goto (tgt := 107) dX7_lies_103 (by decide) ?_
      exact V_iret dX7_lies_107 rfl (lfI (by simp only [F_X7_lies, if_neg c_17, if_neg s_35_0, if_neg s_35_1, if_neg s_35_2, if_neg s_35_3, if_neg c_99]))
theorem i01 : ((0 : Int32) = 0 ∨ (0 : Int32) = 1 ∨ (0 : Int32) = 2) ∧ ((1 : Int32) = 0 ∨ (1 : Int32) = 1 ∨ (1 : Int32) = 2) ∧ ((2 : Int32) = 0 ∨ (2 : Int32) = 1 ∨ (2 : Int32) = 2) := by decide
theorem i1m : ∀ p : Int32, (p = 0 ∨ p = 1 ∨ p = 2) → ¬ p = 2 → (1 - p = 0 ∨ 1 - p = 1 ∨ 1 - p = 2) := by
  intro p h h2
  rcases h with q | q | q
  · rw [q]; decide
  · rw [q]; decide
  · exact absurd q h2
theorem near_in {g : mm_g} {b y : Int32} : F_X7_nearer g b y = 0 ∨ F_X7_nearer g b y = 1 ∨ F_X7_nearer g b y = 2 := by
  unfold F_X7_nearer
  generalize F_X7_off g 1 b - F_X7_off g 0 b = z
  repeat' split
  all_goals first | with_reducible exact i01.1 | with_reducible exact i01.2.1 | with_reducible exact i01.2.2
theorem lies_in {g : mm_g} {b : Int32} : F_X7_lies g b = 0 ∨ F_X7_lies g b = 1 ∨ F_X7_lies g b = 2 := by
  have h1 := near_in (g := g) (b := b) (y := 1)
  have h2 := near_in (g := g) (b := b) (y := 2)
  unfold F_X7_lies
  generalize F_X7_nearer g b 1 = p at *
  generalize F_X7_nearer g b 2 = q at *
  generalize g 7 4 (27 + b).toNatClampNeg = w
  generalize g 7 4 (9 + b).toNatClampNeg = k
  generalize g 7 4 (18 + b).toNatClampNeg = t
  repeat' split
  all_goals first | with_reducible exact h1 | with_reducible exact h2 | with_reducible exact i01.1 | with_reducible exact i01.2.1 | with_reducible exact i01.2.2 | exact i1m p h1 (by assumption)
theorem ix_li {g : mm_g} {b : Int32} (_ : vp_in b 9) : vp_in (6 + F_X7_lies g b) 36 := ix_6 (by
  rcases lies_in (g := g) (b := b) with q | q | q <;> rw [q] <;> (unfold vp_in; decide))
def F_X7_hasVeto (g : mm_g) (x1 : Int32) : Int32 := (F_X7_has (g 7 4 5) x1)
set_option maxRecDepth 100000 in
set_option maxHeartbeats 4000000 in
theorem k_X7_hasVeto (l : Launch) (G : mm_G) {pr : Nat → Nat → Prop} {ad : Nat → Nat → Nat → Nat} (hw : mm_W pr) (g : mm_g) (x1 : Int32)  : Mt l G yX7_hasVeto cX7_hasVeto 2 (some .boolean) (rmk 2 81) [.ref (ad 7 0 0), .int x1] pr ad g (qI pr ad g (F_X7_hasVeto g x1)) 0 0 := by
  refine Mt_of (by decide) (Nat.le_of_ble_eq_true rfl) ?_
  show V l G RX7 cX7_hasVeto 2 (some .boolean) _ _ 0 0 0 0 0 [(0, .ref (ad 7 0 0)), (1, .int x1)] [] pr ad g
  refine V_aload_n dX7_hasVeto_0 0 rfl ?_
  refine V_get (i := 5) inlX7 rfl (W_7 hw) rfl (by decide) q_94 rfl dX7_hasVeto_1 ?_
  refine V_iconst (v := 5) dX7_hasVeto_4 (by decide) ?_
  refine L_7_4_l 5 rfl (W_7 hw) (by unfold vp_in; decide) dX7_hasVeto_5 ?_
  refine V_iload_n dX7_hasVeto_6 1 rfl ?_
  refine V_cS (k_X7_has l G hw g  (g 7 4 5) x1 ) hy_X7_has hz_X7_has q_488 rfl rfl rfl rfl ⟨by decide, by decide⟩ (Nat.le_of_ble_eq_true rfl) ⟨by decide, by decide⟩ dX7_hasVeto_7 (V_kI ?_)
  exact V_zret dX7_hasVeto_10 rfl (nz01 has_01) (lfI (by simp only [F_X7_hasVeto]))
def F_X7_rakeBy (g : mm_g) (x1 : Int32) (x2 : Int32) : mm_g := (wr (wr g 7 4 (6 + (F_X7_lies g x1)).toNatClampNeg ((g 7 4 (6 + (F_X7_lies g x1)).toNatClampNeg) + ((3 * x2) / 4))) 7 4 (18 + x1).toNatClampNeg (((wr g 7 4 (6 + (F_X7_lies g x1)).toNatClampNeg ((g 7 4 (6 + (F_X7_lies g x1)).toNatClampNeg) + ((3 * x2) / 4))) 7 4 (18 + x1).toNatClampNeg) - ((3 * x2) / 4)))
set_option maxRecDepth 100000 in
set_option maxHeartbeats 4000000 in
theorem k_X7_rakeBy (l : Launch) (G : mm_G) {pr : Nat → Nat → Prop} {ad : Nat → Nat → Nat → Nat} (hw : mm_W pr) (g : mm_g) (x1 : Int32) (x2 : Int32) (hx : vp_in x1 9)  : Mt l G yX7_rakeBy cX7_rakeBy 4 none (rmk 4 129) [.ref (ad 7 0 0), .int x1, .int x2] pr ad g (qN pr ad (F_X7_rakeBy g x1 x2)) 0 0 := by
  refine Mt_of (by decide) (Nat.le_of_ble_eq_true rfl) ?_
  show V l G RX7 cX7_rakeBy 4 none _ _ 0 0 0 0 0 [(0, .ref (ad 7 0 0)), (1, .int x1), (2, .int x2)] [] pr ad g
  refine V_iconst (v := 3) dX7_rakeBy_0 (by decide) ?_
  refine V_iload_n dX7_rakeBy_1 2 rfl ?_
  refine V_imul dX7_rakeBy_2 ?_
  refine V_iconst (v := 4) dX7_rakeBy_3 (by decide) ?_
  refine V_idiv dX7_rakeBy_4 (by decide) ?_
  refine V_istore_n (L2 := [(3, .int ((3 * x2) / 4)), (0, .ref (ad 7 0 0)), (1, .int x1), (2, .int x2)]) dX7_rakeBy_5 (by decide) rfl ?_
  refine V_aload_n dX7_rakeBy_6 1 rfl ?_
  refine V_get (i := 5) inlX7 rfl (W_7 hw) rfl (by decide) q_94 rfl dX7_rakeBy_7 ?_
  refine V_bipush (v := 6) dX7_rakeBy_10 (by decide) ?_
  refine V_aload_n dX7_rakeBy_12 1 rfl ?_
  refine V_iload_n dX7_rakeBy_13 2 rfl ?_
  refine V_cV (k_X7_lies l G hw g  x1 hx) hy_X7_lies hi_X7_lies hs_X7_lies q_442 rfl rfl (W_7 hw) rfl rfl rfl rfl rfl ⟨by decide, by decide⟩ (Nat.le_of_ble_eq_true rfl) ⟨by decide, by decide⟩ dX7_rakeBy_14 (V_kI ?_)
  refine V_iadd dX7_rakeBy_17 ?_
  refine V_dup2 dX7_rakeBy_18 rfl rfl ?_
  refine L_7_4 (W_7 hw) (by exact ix_li hx) dX7_rakeBy_19 ?_
  refine V_iload_n dX7_rakeBy_20 0 rfl ?_
  refine V_iadd dX7_rakeBy_21 ?_
  refine S_7_4 (W_7 hw) (by exact ix_li hx) dX7_rakeBy_22 ?_
  refine V_aload_n dX7_rakeBy_23 1 rfl ?_
  refine V_get (i := 5) inlX7 rfl (W_7 hw) rfl (by decide) q_94 rfl dX7_rakeBy_24 ?_
  refine V_bipush (v := 18) dX7_rakeBy_27 (by decide) ?_
  refine V_iload_n dX7_rakeBy_29 2 rfl ?_
  refine V_iadd dX7_rakeBy_30 ?_
  refine V_dup2 dX7_rakeBy_31 rfl rfl ?_
  refine L_7_4 (W_7 hw) (by exact ix_18 hx) dX7_rakeBy_32 ?_
  refine V_iload_n dX7_rakeBy_33 0 rfl ?_
  refine V_isub dX7_rakeBy_34 ?_
  refine S_7_4 (W_7 hw) (by exact ix_18 hx) dX7_rakeBy_35 ?_
  exact V_vret dX7_rakeBy_36 rfl (lfN (by simp only [F_X7_rakeBy]))
def F_X7_oneTide_2 (K : Nat → mm_g → mm_g) : Nat → Nat → mm_g → mm_g
  | 0, j, s => K j s
  | n + 1, j, s => (if (s 7 4 0) ≤ (nI j) then K j s else (if (F_X7_lies s (nI j)) = 2 then (if ((s 7 4 (18 + (nI j)).toNatClampNeg) + ((((s 7 4 (27 + (nI j)).toNatClampNeg) + 1) / 2) + (s 7 4 3))) ≤ 99 then (if (((wr s 7 4 (18 + (nI j)).toNatClampNeg ((s 7 4 (18 + (nI j)).toNatClampNeg) + ((((s 7 4 (27 + (nI j)).toNatClampNeg) + 1) / 2) + (s 7 4 3)))) 7 4 4) - ((wr s 7 4 (18 + (nI j)).toNatClampNeg ((s 7 4 (18 + (nI j)).toNatClampNeg) + ((((s 7 4 (27 + (nI j)).toNatClampNeg) + 1) / 2) + (s 7 4 3)))) 7 4 4) / 2 * 2) = 1 then (if ((wr s 7 4 (18 + (nI j)).toNatClampNeg ((s 7 4 (18 + (nI j)).toNatClampNeg) + ((((s 7 4 (27 + (nI j)).toNatClampNeg) + 1) / 2) + (s 7 4 3)))) 7 4 (27 + (nI j)).toNatClampNeg) ≤ 0 then F_X7_oneTide_2  K n (j + 1) (wr s 7 4 (18 + (nI j)).toNatClampNeg ((s 7 4 (18 + (nI j)).toNatClampNeg) + ((((s 7 4 (27 + (nI j)).toNatClampNeg) + 1) / 2) + (s 7 4 3)))) else F_X7_oneTide_2  K n (j + 1) (wr (wr s 7 4 (18 + (nI j)).toNatClampNeg ((s 7 4 (18 + (nI j)).toNatClampNeg) + ((((s 7 4 (27 + (nI j)).toNatClampNeg) + 1) / 2) + (s 7 4 3)))) 7 4 (27 + (nI j)).toNatClampNeg (((wr s 7 4 (18 + (nI j)).toNatClampNeg ((s 7 4 (18 + (nI j)).toNatClampNeg) + ((((s 7 4 (27 + (nI j)).toNatClampNeg) + 1) / 2) + (s 7 4 3)))) 7 4 (27 + (nI j)).toNatClampNeg) - 1))) else F_X7_oneTide_2  K n (j + 1) (wr s 7 4 (18 + (nI j)).toNatClampNeg ((s 7 4 (18 + (nI j)).toNatClampNeg) + ((((s 7 4 (27 + (nI j)).toNatClampNeg) + 1) / 2) + (s 7 4 3))))) else (if (((wr s 7 4 (18 + (nI j)).toNatClampNeg 99) 7 4 4) - ((wr s 7 4 (18 + (nI j)).toNatClampNeg 99) 7 4 4) / 2 * 2) = 1 then (if ((wr s 7 4 (18 + (nI j)).toNatClampNeg 99) 7 4 (27 + (nI j)).toNatClampNeg) ≤ 0 then F_X7_oneTide_2  K n (j + 1) (wr s 7 4 (18 + (nI j)).toNatClampNeg 99) else F_X7_oneTide_2  K n (j + 1) (wr (wr s 7 4 (18 + (nI j)).toNatClampNeg 99) 7 4 (27 + (nI j)).toNatClampNeg (((wr s 7 4 (18 + (nI j)).toNatClampNeg 99) 7 4 (27 + (nI j)).toNatClampNeg) - 1))) else F_X7_oneTide_2  K n (j + 1) (wr s 7 4 (18 + (nI j)).toNatClampNeg 99))) else (if ((s 7 4 (18 + (nI j)).toNatClampNeg) + ((((s 7 4 (27 + (nI j)).toNatClampNeg) + 1) / 2) + 0)) ≤ 99 then (if (((wr s 7 4 (18 + (nI j)).toNatClampNeg ((s 7 4 (18 + (nI j)).toNatClampNeg) + ((((s 7 4 (27 + (nI j)).toNatClampNeg) + 1) / 2) + 0))) 7 4 4) - ((wr s 7 4 (18 + (nI j)).toNatClampNeg ((s 7 4 (18 + (nI j)).toNatClampNeg) + ((((s 7 4 (27 + (nI j)).toNatClampNeg) + 1) / 2) + 0))) 7 4 4) / 2 * 2) = 1 then (if ((wr s 7 4 (18 + (nI j)).toNatClampNeg ((s 7 4 (18 + (nI j)).toNatClampNeg) + ((((s 7 4 (27 + (nI j)).toNatClampNeg) + 1) / 2) + 0))) 7 4 (27 + (nI j)).toNatClampNeg) ≤ 0 then F_X7_oneTide_2  K n (j + 1) (wr s 7 4 (18 + (nI j)).toNatClampNeg ((s 7 4 (18 + (nI j)).toNatClampNeg) + ((((s 7 4 (27 + (nI j)).toNatClampNeg) + 1) / 2) + 0))) else F_X7_oneTide_2  K n (j + 1) (wr (wr s 7 4 (18 + (nI j)).toNatClampNeg ((s 7 4 (18 + (nI j)).toNatClampNeg) + ((((s 7 4 (27 + (nI j)).toNatClampNeg) + 1) / 2) + 0))) 7 4 (27 + (nI j)).toNatClampNeg (((wr s 7 4 (18 + (nI j)).toNatClampNeg ((s 7 4 (18 + (nI j)).toNatClampNeg) + ((((s 7 4 (27 + (nI j)).toNatClampNeg) + 1) / 2) + 0))) 7 4 (27 + (nI j)).toNatClampNeg) - 1))) else F_X7_oneTide_2  K n (j + 1) (wr s 7 4 (18 + (nI j)).toNatClampNeg ((s 7 4 (18 + (nI j)).toNatClampNeg) + ((((s 7 4 (27 + (nI j)).toNatClampNeg) + 1) / 2) + 0)))) else (if (((wr s 7 4 (18 + (nI j)).toNatClampNeg 99) 7 4 4) - ((wr s 7 4 (18 + (nI j)).toNatClampNeg 99) 7 4 4) / 2 * 2) = 1 then (if ((wr s 7 4 (18 + (nI j)).toNatClampNeg 99) 7 4 (27 + (nI j)).toNatClampNeg) ≤ 0 then F_X7_oneTide_2  K n (j + 1) (wr s 7 4 (18 + (nI j)).toNatClampNeg 99) else F_X7_oneTide_2  K n (j + 1) (wr (wr s 7 4 (18 + (nI j)).toNatClampNeg 99) 7 4 (27 + (nI j)).toNatClampNeg (((wr s 7 4 (18 + (nI j)).toNatClampNeg 99) 7 4 (27 + (nI j)).toNatClampNeg) - 1))) else F_X7_oneTide_2  K n (j + 1) (wr s 7 4 (18 + (nI j)).toNatClampNeg 99)))))
def F_X7_oneTide (g : mm_g) : mm_g := (F_X7_oneTide_2  (fun (j2 : Nat) (s2 : mm_g) => (wr s2 7 4 4 ((s2 7 4 4) + 1))) ((g 7 4 0).toInt.toNat + 1) 0 g)
set_option maxRecDepth 100000 in
set_option maxHeartbeats 4000000 in
theorem w_X7_oneTide_2 (l : Launch) (G : mm_G) {pr : Nat → Nat → Prop} {ad : Nat → Nat → Nat → Nat} (hw : mm_W pr)  (K : Nat → mm_g → mm_g) (hK : ∀ (j : Nat) (s : mm_g) (hj : j ≤ (s 7 4 0).toInt.toNat) (hB : okB s), V l G RX7 cX7_oneTide 4 none (rmk 4 129) (qN pr ad (K j s)) 0 0 0 0 122 [(0, .ref (ad 7 0 0)), (1, .int (nI j))] [] pr ad s) : ∀ (n : Nat) (j : Nat) (s : mm_g) (hj : j ≤ (s 7 4 0).toInt.toNat) (hB : okB s) (hm : (s 7 4 0).toInt.toNat - j < n), V l G RX7 cX7_oneTide 4 none (rmk 4 129) (qN pr ad (F_X7_oneTide_2  K n j s)) 0 0 0 0 2 [(0, .ref (ad 7 0 0)), (1, .int (nI j))] [] pr ad s := by
  intro n
  induction n with
  | zero => intro j s hj hB hm; exact absurd hm (Nat.not_lt_zero _)
  | succ n ih =>
      intro j s hj hB hm
      refine V_iload_n dX7_oneTide_2 1 rfl ?_
      refine V_aload_n dX7_oneTide_3 0 rfl ?_
      refine V_get (i := 5) inlX7 rfl (W_7 hw) rfl (by decide) q_94 rfl dX7_oneTide_4 ?_
      refine V_iconst (v := 0) dX7_oneTide_7 (by decide) ?_
      refine L_7_4_l 0 rfl (W_7 hw) (by unfold vp_in; decide) dX7_oneTide_8 ?_
      refine V_ic_ge (tgt := 122) dX7_oneTide_9 (by decide) (fun c_9 => ?_) (fun c_9 => ?_)
      · refine V_rp (R2 := K j s) (by simp only [F_X7_oneTide_2, if_pos c_9]) ?_
        refine V_lp [0, 1] rfl ?_
        exact hK j s (by assumption) (by assumption)
      · refine V_aload_n dX7_oneTide_12 0 rfl ?_
        refine V_get (i := 5) inlX7 rfl (W_7 hw) rfl (by decide) q_94 rfl dX7_oneTide_13 ?_
        refine V_bipush (v := 27) dX7_oneTide_16 (by decide) ?_
        refine V_iload_n dX7_oneTide_18 1 rfl ?_
        refine V_iadd dX7_oneTide_19 ?_
        refine L_7_4 (W_7 hw) (by exact ix_27 (ix_x hj c_9 (okB_9 hB))) dX7_oneTide_20 ?_
        refine V_iconst (v := 1) dX7_oneTide_21 (by decide) ?_
        refine V_iadd dX7_oneTide_22 ?_
        refine V_iconst (v := 2) dX7_oneTide_23 (by decide) ?_
        refine V_idiv dX7_oneTide_24 (by decide) ?_
        refine V_aload_n dX7_oneTide_25 0 rfl ?_
        refine V_iload_n dX7_oneTide_26 1 rfl ?_
        refine V_cV (k_X7_lies l G hw s  (nI j) (ix_x hj c_9 (okB_9 hB))) hy_X7_lies hi_X7_lies hs_X7_lies q_442 rfl rfl (W_7 hw) rfl rfl rfl rfl rfl ⟨by decide, by decide⟩ (Nat.le_of_ble_eq_true rfl) ⟨by decide, by decide⟩ dX7_oneTide_27 (V_kI ?_)
        refine V_iconst (v := 2) dX7_oneTide_30 (by decide) ?_
        refine V_ic_ne (tgt := 43) dX7_oneTide_31 (by decide) (fun c_31 => ?_) (fun c_31 => ?_)
        · refine V_iconst (v := 0) dX7_oneTide_43 (by decide) ?_
          refine V_iadd dX7_oneTide_44 ?_
          refine V_istore_n (L2 := [(2, .int ((((s 7 4 (27 + (nI j)).toNatClampNeg) + 1) / 2) + 0)), (0, .ref (ad 7 0 0)), (1, .int (nI j))]) dX7_oneTide_45 (by decide) rfl ?_
          refine V_aload_n dX7_oneTide_46 1 rfl ?_
          refine V_get (i := 5) inlX7 rfl (W_7 hw) rfl (by decide) q_94 rfl dX7_oneTide_47 ?_
          refine V_bipush (v := 18) dX7_oneTide_50 (by decide) ?_
          refine V_iload_n dX7_oneTide_52 2 rfl ?_
          refine V_iadd dX7_oneTide_53 ?_
          refine L_7_4 (W_7 hw) (by exact ix_18 (ix_x hj c_9 (okB_9 hB))) dX7_oneTide_54 ?_
          refine V_iload_n dX7_oneTide_55 0 rfl ?_
          refine V_iadd dX7_oneTide_56 ?_
          refine V_istore_n (L2 := [(3, .int ((s 7 4 (18 + (nI j)).toNatClampNeg) + ((((s 7 4 (27 + (nI j)).toNatClampNeg) + 1) / 2) + 0))), (2, .int ((((s 7 4 (27 + (nI j)).toNatClampNeg) + 1) / 2) + 0)), (0, .ref (ad 7 0 0)), (1, .int (nI j))]) dX7_oneTide_57 (by decide) rfl ?_
          refine V_aload_n dX7_oneTide_58 2 rfl ?_
          refine V_get (i := 5) inlX7 rfl (W_7 hw) rfl (by decide) q_94 rfl dX7_oneTide_59 ?_
          refine V_bipush (v := 18) dX7_oneTide_62 (by decide) ?_
          refine V_iload_n dX7_oneTide_64 3 rfl ?_
          refine V_iadd dX7_oneTide_65 ?_
          refine V_iload_n dX7_oneTide_66 0 rfl ?_
          refine V_bipush (v := 99) dX7_oneTide_67 (by decide) ?_
          refine V_ic_le (tgt := 77) dX7_oneTide_69 (by decide) (fun c_69 => ?_) (fun c_69 => ?_)
          · refine V_iload_n dX7_oneTide_77 0 rfl ?_
            refine S_7_4 (W_7 hw) (by exact ix_18 (ix_x hj c_9 (okB_9 hB))) dX7_oneTide_78 ?_
            refine V_aload_n dX7_oneTide_79 2 rfl ?_
            refine V_get (i := 5) inlX7 rfl (W_7 hw) rfl (by decide) q_94 rfl dX7_oneTide_80 ?_
            refine V_iconst (v := 4) dX7_oneTide_83 (by decide) ?_
            refine L_7_4_l 4 rfl (W_7 hw) (by unfold vp_in; decide) dX7_oneTide_84 ?_
            refine V_iconst (v := 2) dX7_oneTide_85 (by decide) ?_
            refine V_irem dX7_oneTide_86 (by decide) ?_
            refine V_iconst (v := 1) dX7_oneTide_87 (by decide) ?_
            refine V_ic_ne (tgt := 116) dX7_oneTide_88 (by decide) (fun c_88 => ?_) (fun c_88 => ?_)
            · refine V_iinc (v := (nI (j + 1))) (L2 := [(1, .int (nI (j + 1))), (3, .int ((s 7 4 (18 + (nI j)).toNatClampNeg) + ((((s 7 4 (27 + (nI j)).toNatClampNeg) + 1) / 2) + 0))), (2, .int ((((s 7 4 (27 + (nI j)).toNatClampNeg) + 1) / 2) + 0)), (0, .ref (ad 7 0 0))]) dX7_oneTide_116 3 rfl (nI_1 _) (by decide) rfl ?_
              refine V_goto (tgt := 2) dX7_oneTide_119 (by decide) ?_
              refine V_rp (R2 := F_X7_oneTide_2  K n (j + 1) (wr s 7 4 (18 + (nI j)).toNatClampNeg ((s 7 4 (18 + (nI j)).toNatClampNeg) + ((((s 7 4 (27 + (nI j)).toNatClampNeg) + 1) / 2) + 0)))) (by simp only [F_X7_oneTide_2, if_neg c_9, if_neg c_31, if_pos c_69, if_neg c_88]) ?_
              refine V_lp [3, 0] rfl ?_
              exact ih (j + 1) (wr s 7 4 (18 + (nI j)).toNatClampNeg ((s 7 4 (18 + (nI j)).toNatClampNeg) + ((((s 7 4 (27 + (nI j)).toNatClampNeg) + 1) / 2) + 0))) (by simp only [wr_27 (ix_x hj c_9 (okB_9 hB)), wr_18 (ix_x hj c_9 (okB_9 hB))]; exact (lp_up hj c_9 hm).1) (by unfold okB; simp only [wr_27 (ix_x hj c_9 (okB_9 hB)), wr_18 (ix_x hj c_9 (okB_9 hB))]; exact hB) (by simp only [wr_27 (ix_x hj c_9 (okB_9 hB)), wr_18 (ix_x hj c_9 (okB_9 hB))]; exact (lp_up hj c_9 hm).2) 
            · refine V_aload_n dX7_oneTide_91 2 rfl ?_
              refine V_get (i := 5) inlX7 rfl (W_7 hw) rfl (by decide) q_94 rfl dX7_oneTide_92 ?_
              refine V_bipush (v := 27) dX7_oneTide_95 (by decide) ?_
              refine V_iload_n dX7_oneTide_97 3 rfl ?_
              refine V_iadd dX7_oneTide_98 ?_
              refine L_7_4 (W_7 hw) (by exact ix_27 (ix_x hj c_9 (okB_9 hB))) dX7_oneTide_99 ?_
              refine V_if_le (tgt := 116) dX7_oneTide_100 (by decide) (fun c_100 => ?_) (fun c_100 => ?_)
              · refine V_iinc (v := (nI (j + 1))) (L2 := [(1, .int (nI (j + 1))), (3, .int ((s 7 4 (18 + (nI j)).toNatClampNeg) + ((((s 7 4 (27 + (nI j)).toNatClampNeg) + 1) / 2) + 0))), (2, .int ((((s 7 4 (27 + (nI j)).toNatClampNeg) + 1) / 2) + 0)), (0, .ref (ad 7 0 0))]) dX7_oneTide_116 3 rfl (nI_1 _) (by decide) rfl ?_
                refine V_goto (tgt := 2) dX7_oneTide_119 (by decide) ?_
                refine V_rp (R2 := F_X7_oneTide_2  K n (j + 1) (wr s 7 4 (18 + (nI j)).toNatClampNeg ((s 7 4 (18 + (nI j)).toNatClampNeg) + ((((s 7 4 (27 + (nI j)).toNatClampNeg) + 1) / 2) + 0)))) (by simp only [F_X7_oneTide_2, if_neg c_9, if_neg c_31, if_pos c_69, if_pos c_88, if_pos c_100]) ?_
                refine V_lp [3, 0] rfl ?_
                exact ih (j + 1) (wr s 7 4 (18 + (nI j)).toNatClampNeg ((s 7 4 (18 + (nI j)).toNatClampNeg) + ((((s 7 4 (27 + (nI j)).toNatClampNeg) + 1) / 2) + 0))) (by simp only [wr_27 (ix_x hj c_9 (okB_9 hB)), wr_18 (ix_x hj c_9 (okB_9 hB))]; exact (lp_up hj c_9 hm).1) (by unfold okB; simp only [wr_27 (ix_x hj c_9 (okB_9 hB)), wr_18 (ix_x hj c_9 (okB_9 hB))]; exact hB) (by simp only [wr_27 (ix_x hj c_9 (okB_9 hB)), wr_18 (ix_x hj c_9 (okB_9 hB))]; exact (lp_up hj c_9 hm).2) 
              · refine V_aload_n dX7_oneTide_103 2 rfl ?_
                refine V_get (i := 5) inlX7 rfl (W_7 hw) rfl (by decide) q_94 rfl dX7_oneTide_104 ?_
                refine V_bipush (v := 27) dX7_oneTide_107 (by decide) ?_
                refine V_iload_n dX7_oneTide_109 3 rfl ?_
                refine V_iadd dX7_oneTide_110 ?_
                refine V_dup2 dX7_oneTide_111 rfl rfl ?_
                refine L_7_4 (W_7 hw) (by exact ix_27 (ix_x hj c_9 (okB_9 hB))) dX7_oneTide_112 ?_
                refine V_iconst (v := 1) dX7_oneTide_113 (by decide) ?_
                refine V_isub dX7_oneTide_114 ?_
                refine S_7_4 (W_7 hw) (by exact ix_27 (ix_x hj c_9 (okB_9 hB))) dX7_oneTide_115 ?_
                refine V_iinc (v := (nI (j + 1))) (L2 := [(1, .int (nI (j + 1))), (3, .int ((s 7 4 (18 + (nI j)).toNatClampNeg) + ((((s 7 4 (27 + (nI j)).toNatClampNeg) + 1) / 2) + 0))), (2, .int ((((s 7 4 (27 + (nI j)).toNatClampNeg) + 1) / 2) + 0)), (0, .ref (ad 7 0 0))]) dX7_oneTide_116 3 rfl (nI_1 _) (by decide) rfl ?_
                refine V_goto (tgt := 2) dX7_oneTide_119 (by decide) ?_
                refine V_rp (R2 := F_X7_oneTide_2  K n (j + 1) (wr (wr s 7 4 (18 + (nI j)).toNatClampNeg ((s 7 4 (18 + (nI j)).toNatClampNeg) + ((((s 7 4 (27 + (nI j)).toNatClampNeg) + 1) / 2) + 0))) 7 4 (27 + (nI j)).toNatClampNeg (((wr s 7 4 (18 + (nI j)).toNatClampNeg ((s 7 4 (18 + (nI j)).toNatClampNeg) + ((((s 7 4 (27 + (nI j)).toNatClampNeg) + 1) / 2) + 0))) 7 4 (27 + (nI j)).toNatClampNeg) - 1))) (by simp only [F_X7_oneTide_2, if_neg c_9, if_neg c_31, if_pos c_69, if_pos c_88, if_neg c_100]) ?_
                refine V_lp [3, 0] rfl ?_
                exact ih (j + 1) (wr (wr s 7 4 (18 + (nI j)).toNatClampNeg ((s 7 4 (18 + (nI j)).toNatClampNeg) + ((((s 7 4 (27 + (nI j)).toNatClampNeg) + 1) / 2) + 0))) 7 4 (27 + (nI j)).toNatClampNeg (((wr s 7 4 (18 + (nI j)).toNatClampNeg ((s 7 4 (18 + (nI j)).toNatClampNeg) + ((((s 7 4 (27 + (nI j)).toNatClampNeg) + 1) / 2) + 0))) 7 4 (27 + (nI j)).toNatClampNeg) - 1)) (by simp only [wr_27 (ix_x hj c_9 (okB_9 hB)), wr_18 (ix_x hj c_9 (okB_9 hB))]; exact (lp_up hj c_9 hm).1) (by unfold okB; simp only [wr_27 (ix_x hj c_9 (okB_9 hB)), wr_18 (ix_x hj c_9 (okB_9 hB))]; exact hB) (by simp only [wr_27 (ix_x hj c_9 (okB_9 hB)), wr_18 (ix_x hj c_9 (okB_9 hB))]; exact (lp_up hj c_9 hm).2) 
          · refine V_bipush (v := 99) dX7_oneTide_72 (by decide) ?_
            refine V_goto (tgt := 78) dX7_oneTide_74 (by decide) ?_
            refine S_7_4 (W_7 hw) (by exact ix_18 (ix_x hj c_9 (okB_9 hB))) dX7_oneTide_78 ?_
            refine V_aload_n dX7_oneTide_79 2 rfl ?_
            refine V_get (i := 5) inlX7 rfl (W_7 hw) rfl (by decide) q_94 rfl dX7_oneTide_80 ?_
            refine V_iconst (v := 4) dX7_oneTide_83 (by decide) ?_
            refine L_7_4_l 4 rfl (W_7 hw) (by unfold vp_in; decide) dX7_oneTide_84 ?_
            refine V_iconst (v := 2) dX7_oneTide_85 (by decide) ?_
            refine V_irem dX7_oneTide_86 (by decide) ?_
            refine V_iconst (v := 1) dX7_oneTide_87 (by decide) ?_
            refine V_ic_ne (tgt := 116) dX7_oneTide_88 (by decide) (fun c_88 => ?_) (fun c_88 => ?_)
            · refine V_iinc (v := (nI (j + 1))) (L2 := [(1, .int (nI (j + 1))), (3, .int ((s 7 4 (18 + (nI j)).toNatClampNeg) + ((((s 7 4 (27 + (nI j)).toNatClampNeg) + 1) / 2) + 0))), (2, .int ((((s 7 4 (27 + (nI j)).toNatClampNeg) + 1) / 2) + 0)), (0, .ref (ad 7 0 0))]) dX7_oneTide_116 3 rfl (nI_1 _) (by decide) rfl ?_
              refine V_goto (tgt := 2) dX7_oneTide_119 (by decide) ?_
              refine V_rp (R2 := F_X7_oneTide_2  K n (j + 1) (wr s 7 4 (18 + (nI j)).toNatClampNeg 99)) (by simp only [F_X7_oneTide_2, if_neg c_9, if_neg c_31, if_neg c_69, if_neg c_88]) ?_
              refine V_lp [3, 0] rfl ?_
              exact ih (j + 1) (wr s 7 4 (18 + (nI j)).toNatClampNeg 99) (by simp only [wr_27 (ix_x hj c_9 (okB_9 hB)), wr_18 (ix_x hj c_9 (okB_9 hB))]; exact (lp_up hj c_9 hm).1) (by unfold okB; simp only [wr_27 (ix_x hj c_9 (okB_9 hB)), wr_18 (ix_x hj c_9 (okB_9 hB))]; exact hB) (by simp only [wr_27 (ix_x hj c_9 (okB_9 hB)), wr_18 (ix_x hj c_9 (okB_9 hB))]; exact (lp_up hj c_9 hm).2) 
            · refine V_aload_n dX7_oneTide_91 2 rfl ?_
              refine V_get (i := 5) inlX7 rfl (W_7 hw) rfl (by decide) q_94 rfl dX7_oneTide_92 ?_
              refine V_bipush (v := 27) dX7_oneTide_95 (by decide) ?_
              refine V_iload_n dX7_oneTide_97 3 rfl ?_
              refine V_iadd dX7_oneTide_98 ?_
              refine L_7_4 (W_7 hw) (by exact ix_27 (ix_x hj c_9 (okB_9 hB))) dX7_oneTide_99 ?_
              refine V_if_le (tgt := 116) dX7_oneTide_100 (by decide) (fun c_100 => ?_) (fun c_100 => ?_)
              · refine V_iinc (v := (nI (j + 1))) (L2 := [(1, .int (nI (j + 1))), (3, .int ((s 7 4 (18 + (nI j)).toNatClampNeg) + ((((s 7 4 (27 + (nI j)).toNatClampNeg) + 1) / 2) + 0))), (2, .int ((((s 7 4 (27 + (nI j)).toNatClampNeg) + 1) / 2) + 0)), (0, .ref (ad 7 0 0))]) dX7_oneTide_116 3 rfl (nI_1 _) (by decide) rfl ?_
                refine V_goto (tgt := 2) dX7_oneTide_119 (by decide) ?_
                refine V_rp (R2 := F_X7_oneTide_2  K n (j + 1) (wr s 7 4 (18 + (nI j)).toNatClampNeg 99)) (by simp only [F_X7_oneTide_2, if_neg c_9, if_neg c_31, if_neg c_69, if_pos c_88, if_pos c_100]) ?_
                refine V_lp [3, 0] rfl ?_
                exact ih (j + 1) (wr s 7 4 (18 + (nI j)).toNatClampNeg 99) (by simp only [wr_27 (ix_x hj c_9 (okB_9 hB)), wr_18 (ix_x hj c_9 (okB_9 hB))]; exact (lp_up hj c_9 hm).1) (by unfold okB; simp only [wr_27 (ix_x hj c_9 (okB_9 hB)), wr_18 (ix_x hj c_9 (okB_9 hB))]; exact hB) (by simp only [wr_27 (ix_x hj c_9 (okB_9 hB)), wr_18 (ix_x hj c_9 (okB_9 hB))]; exact (lp_up hj c_9 hm).2) 
              · refine V_aload_n dX7_oneTide_103 2 rfl ?_
                refine V_get (i := 5) inlX7 rfl (W_7 hw) rfl (by decide) q_94 rfl dX7_oneTide_104 ?_
                refine V_bipush (v := 27) dX7_oneTide_107 (by decide) ?_
                refine V_iload_n dX7_oneTide_109 3 rfl ?_
                refine V_iadd dX7_oneTide_110 ?_
                refine V_dup2 dX7_oneTide_111 rfl rfl ?_
                refine L_7_4 (W_7 hw) (by exact ix_27 (ix_x hj c_9 (okB_9 hB))) dX7_oneTide_112 ?_
                refine V_iconst (v := 1) dX7_oneTide_113 (by decide) ?_
                refine V_isub dX7_oneTide_114 ?_
                refine S_7_4 (W_7 hw) (by exact ix_27 (ix_x hj c_9 (okB_9 hB))) dX7_oneTide_115 ?_
                refine V_iinc (v := (nI (j + 1))) (L2 := [(1, .int (nI (j + 1))), (3, .int ((s 7 4 (18 + (nI j)).toNatClampNeg) + ((((s 7 4 (27 + (nI j)).toNatClampNeg) + 1) / 2) + 0))), (2, .int ((((s 7 4 (27 + (nI j)).toNatClampNeg) + 1) / 2) + 0)), (0, .ref (ad 7 0 0))]) dX7_oneTide_116 3 rfl (nI_1 _) (by decide) rfl ?_
                refine V_goto (tgt := 2) dX7_oneTide_119 (by decide) ?_
                refine V_rp (R2 := F_X7_oneTide_2  K n (j + 1) (wr (wr s 7 4 (18 + (nI j)).toNatClampNeg 99) 7 4 (27 + (nI j)).toNatClampNeg (((wr s 7 4 (18 + (nI j)).toNatClampNeg 99) 7 4 (27 + (nI j)).toNatClampNeg) - 1))) (by simp only [F_X7_oneTide_2, if_neg c_9, if_neg c_31, if_neg c_69, if_pos c_88, if_neg c_100]) ?_
                refine V_lp [3, 0] rfl ?_
                exact ih (j + 1) (wr (wr s 7 4 (18 + (nI j)).toNatClampNeg 99) 7 4 (27 + (nI j)).toNatClampNeg (((wr s 7 4 (18 + (nI j)).toNatClampNeg 99) 7 4 (27 + (nI j)).toNatClampNeg) - 1)) (by simp only [wr_27 (ix_x hj c_9 (okB_9 hB)), wr_18 (ix_x hj c_9 (okB_9 hB))]; exact (lp_up hj c_9 hm).1) (by unfold okB; simp only [wr_27 (ix_x hj c_9 (okB_9 hB)), wr_18 (ix_x hj c_9 (okB_9 hB))]; exact hB) (by simp only [wr_27 (ix_x hj c_9 (okB_9 hB)), wr_18 (ix_x hj c_9 (okB_9 hB))]; exact (lp_up hj c_9 hm).2) 
        · refine V_aload_n dX7_oneTide_34 0 rfl ?_
          refine V_get (i := 5) inlX7 rfl (W_7 hw) rfl (by decide) q_94 rfl dX7_oneTide_35 ?_
          refine V_iconst (v := 3) dX7_oneTide_38 (by decide) ?_
          refine L_7_4_l 3 rfl (W_7 hw) (by unfold vp_in; decide) dX7_oneTide_39 ?_
          refine V_goto (tgt := 44) dX7_oneTide_40 (by decide) ?_
          refine V_iadd dX7_oneTide_44 ?_
          refine V_istore_n (L2 := [(2, .int ((((s 7 4 (27 + (nI j)).toNatClampNeg) + 1) / 2) + (s 7 4 3))), (0, .ref (ad 7 0 0)), (1, .int (nI j))]) dX7_oneTide_45 (by decide) rfl ?_
          refine V_aload_n dX7_oneTide_46 1 rfl ?_
          refine V_get (i := 5) inlX7 rfl (W_7 hw) rfl (by decide) q_94 rfl dX7_oneTide_47 ?_
          refine V_bipush (v := 18) dX7_oneTide_50 (by decide) ?_
          refine V_iload_n dX7_oneTide_52 2 rfl ?_
          refine V_iadd dX7_oneTide_53 ?_
          refine L_7_4 (W_7 hw) (by exact ix_18 (ix_x hj c_9 (okB_9 hB))) dX7_oneTide_54 ?_
          refine V_iload_n dX7_oneTide_55 0 rfl ?_
          refine V_iadd dX7_oneTide_56 ?_
          refine V_istore_n (L2 := [(3, .int ((s 7 4 (18 + (nI j)).toNatClampNeg) + ((((s 7 4 (27 + (nI j)).toNatClampNeg) + 1) / 2) + (s 7 4 3)))), (2, .int ((((s 7 4 (27 + (nI j)).toNatClampNeg) + 1) / 2) + (s 7 4 3))), (0, .ref (ad 7 0 0)), (1, .int (nI j))]) dX7_oneTide_57 (by decide) rfl ?_
          refine V_aload_n dX7_oneTide_58 2 rfl ?_
          refine V_get (i := 5) inlX7 rfl (W_7 hw) rfl (by decide) q_94 rfl dX7_oneTide_59 ?_
          refine V_bipush (v := 18) dX7_oneTide_62 (by decide) ?_
          refine V_iload_n dX7_oneTide_64 3 rfl ?_
          refine V_iadd dX7_oneTide_65 ?_
          refine V_iload_n dX7_oneTide_66 0 rfl ?_
          refine V_bipush (v := 99) dX7_oneTide_67 (by decide) ?_
          refine V_ic_le (tgt := 77) dX7_oneTide_69 (by decide) (fun c_69 => ?_) (fun c_69 => ?_)
          · refine V_iload_n dX7_oneTide_77 0 rfl ?_
            refine S_7_4 (W_7 hw) (by exact ix_18 (ix_x hj c_9 (okB_9 hB))) dX7_oneTide_78 ?_
            refine V_aload_n dX7_oneTide_79 2 rfl ?_
            refine V_get (i := 5) inlX7 rfl (W_7 hw) rfl (by decide) q_94 rfl dX7_oneTide_80 ?_
            refine V_iconst (v := 4) dX7_oneTide_83 (by decide) ?_
            refine L_7_4_l 4 rfl (W_7 hw) (by unfold vp_in; decide) dX7_oneTide_84 ?_
            refine V_iconst (v := 2) dX7_oneTide_85 (by decide) ?_
            refine V_irem dX7_oneTide_86 (by decide) ?_
            refine V_iconst (v := 1) dX7_oneTide_87 (by decide) ?_
            refine V_ic_ne (tgt := 116) dX7_oneTide_88 (by decide) (fun c_88 => ?_) (fun c_88 => ?_)
            · refine V_iinc (v := (nI (j + 1))) (L2 := [(1, .int (nI (j + 1))), (3, .int ((s 7 4 (18 + (nI j)).toNatClampNeg) + ((((s 7 4 (27 + (nI j)).toNatClampNeg) + 1) / 2) + (s 7 4 3)))), (2, .int ((((s 7 4 (27 + (nI j)).toNatClampNeg) + 1) / 2) + (s 7 4 3))), (0, .ref (ad 7 0 0))]) dX7_oneTide_116 3 rfl (nI_1 _) (by decide) rfl ?_
              refine V_goto (tgt := 2) dX7_oneTide_119 (by decide) ?_
              refine V_rp (R2 := F_X7_oneTide_2  K n (j + 1) (wr s 7 4 (18 + (nI j)).toNatClampNeg ((s 7 4 (18 + (nI j)).toNatClampNeg) + ((((s 7 4 (27 + (nI j)).toNatClampNeg) + 1) / 2) + (s 7 4 3))))) (by simp only [F_X7_oneTide_2, if_neg c_9, if_pos c_31, if_pos c_69, if_neg c_88]) ?_
              refine V_lp [3, 0] rfl ?_
              exact ih (j + 1) (wr s 7 4 (18 + (nI j)).toNatClampNeg ((s 7 4 (18 + (nI j)).toNatClampNeg) + ((((s 7 4 (27 + (nI j)).toNatClampNeg) + 1) / 2) + (s 7 4 3)))) (by simp only [wr_27 (ix_x hj c_9 (okB_9 hB)), wr_18 (ix_x hj c_9 (okB_9 hB))]; exact (lp_up hj c_9 hm).1) (by unfold okB; simp only [wr_27 (ix_x hj c_9 (okB_9 hB)), wr_18 (ix_x hj c_9 (okB_9 hB))]; exact hB) (by simp only [wr_27 (ix_x hj c_9 (okB_9 hB)), wr_18 (ix_x hj c_9 (okB_9 hB))]; exact (lp_up hj c_9 hm).2) 
            · refine V_aload_n dX7_oneTide_91 2 rfl ?_
              refine V_get (i := 5) inlX7 rfl (W_7 hw) rfl (by decide) q_94 rfl dX7_oneTide_92 ?_
              refine V_bipush (v := 27) dX7_oneTide_95 (by decide) ?_
              refine V_iload_n dX7_oneTide_97 3 rfl ?_
              refine V_iadd dX7_oneTide_98 ?_
              refine L_7_4 (W_7 hw) (by exact ix_27 (ix_x hj c_9 (okB_9 hB))) dX7_oneTide_99 ?_
              refine V_if_le (tgt := 116) dX7_oneTide_100 (by decide) (fun c_100 => ?_) (fun c_100 => ?_)
              · refine V_iinc (v := (nI (j + 1))) (L2 := [(1, .int (nI (j + 1))), (3, .int ((s 7 4 (18 + (nI j)).toNatClampNeg) + ((((s 7 4 (27 + (nI j)).toNatClampNeg) + 1) / 2) + (s 7 4 3)))), (2, .int ((((s 7 4 (27 + (nI j)).toNatClampNeg) + 1) / 2) + (s 7 4 3))), (0, .ref (ad 7 0 0))]) dX7_oneTide_116 3 rfl (nI_1 _) (by decide) rfl ?_
                refine V_goto (tgt := 2) dX7_oneTide_119 (by decide) ?_
                refine V_rp (R2 := F_X7_oneTide_2  K n (j + 1) (wr s 7 4 (18 + (nI j)).toNatClampNeg ((s 7 4 (18 + (nI j)).toNatClampNeg) + ((((s 7 4 (27 + (nI j)).toNatClampNeg) + 1) / 2) + (s 7 4 3))))) (by simp only [F_X7_oneTide_2, if_neg c_9, if_pos c_31, if_pos c_69, if_pos c_88, if_pos c_100]) ?_
                refine V_lp [3, 0] rfl ?_
                exact ih (j + 1) (wr s 7 4 (18 + (nI j)).toNatClampNeg ((s 7 4 (18 + (nI j)).toNatClampNeg) + ((((s 7 4 (27 + (nI j)).toNatClampNeg) + 1) / 2) + (s 7 4 3)))) (by simp only [wr_27 (ix_x hj c_9 (okB_9 hB)), wr_18 (ix_x hj c_9 (okB_9 hB))]; exact (lp_up hj c_9 hm).1) (by unfold okB; simp only [wr_27 (ix_x hj c_9 (okB_9 hB)), wr_18 (ix_x hj c_9 (okB_9 hB))]; exact hB) (by simp only [wr_27 (ix_x hj c_9 (okB_9 hB)), wr_18 (ix_x hj c_9 (okB_9 hB))]; exact (lp_up hj c_9 hm).2) 
              · refine V_aload_n dX7_oneTide_103 2 rfl ?_
                refine V_get (i := 5) inlX7 rfl (W_7 hw) rfl (by decide) q_94 rfl dX7_oneTide_104 ?_
                refine V_bipush (v := 27) dX7_oneTide_107 (by decide) ?_
                refine V_iload_n dX7_oneTide_109 3 rfl ?_
                refine V_iadd dX7_oneTide_110 ?_
                refine V_dup2 dX7_oneTide_111 rfl rfl ?_
                refine L_7_4 (W_7 hw) (by exact ix_27 (ix_x hj c_9 (okB_9 hB))) dX7_oneTide_112 ?_
                refine V_iconst (v := 1) dX7_oneTide_113 (by decide) ?_
                refine V_isub dX7_oneTide_114 ?_
                refine S_7_4 (W_7 hw) (by exact ix_27 (ix_x hj c_9 (okB_9 hB))) dX7_oneTide_115 ?_
                refine V_iinc (v := (nI (j + 1))) (L2 := [(1, .int (nI (j + 1))), (3, .int ((s 7 4 (18 + (nI j)).toNatClampNeg) + ((((s 7 4 (27 + (nI j)).toNatClampNeg) + 1) / 2) + (s 7 4 3)))), (2, .int ((((s 7 4 (27 + (nI j)).toNatClampNeg) + 1) / 2) + (s 7 4 3))), (0, .ref (ad 7 0 0))]) dX7_oneTide_116 3 rfl (nI_1 _) (by decide) rfl ?_
                refine V_goto (tgt := 2) dX7_oneTide_119 (by decide) ?_
                refine V_rp (R2 := F_X7_oneTide_2  K n (j + 1) (wr (wr s 7 4 (18 + (nI j)).toNatClampNeg ((s 7 4 (18 + (nI j)).toNatClampNeg) + ((((s 7 4 (27 + (nI j)).toNatClampNeg) + 1) / 2) + (s 7 4 3)))) 7 4 (27 + (nI j)).toNatClampNeg (((wr s 7 4 (18 + (nI j)).toNatClampNeg ((s 7 4 (18 + (nI j)).toNatClampNeg) + ((((s 7 4 (27 + (nI j)).toNatClampNeg) + 1) / 2) + (s 7 4 3)))) 7 4 (27 + (nI j)).toNatClampNeg) - 1))) (by simp only [F_X7_oneTide_2, if_neg c_9, if_pos c_31, if_pos c_69, if_pos c_88, if_neg c_100]) ?_
                refine V_lp [3, 0] rfl ?_
                exact ih (j + 1) (wr (wr s 7 4 (18 + (nI j)).toNatClampNeg ((s 7 4 (18 + (nI j)).toNatClampNeg) + ((((s 7 4 (27 + (nI j)).toNatClampNeg) + 1) / 2) + (s 7 4 3)))) 7 4 (27 + (nI j)).toNatClampNeg (((wr s 7 4 (18 + (nI j)).toNatClampNeg ((s 7 4 (18 + (nI j)).toNatClampNeg) + ((((s 7 4 (27 + (nI j)).toNatClampNeg) + 1) / 2) + (s 7 4 3)))) 7 4 (27 + (nI j)).toNatClampNeg) - 1)) (by simp only [wr_27 (ix_x hj c_9 (okB_9 hB)), wr_18 (ix_x hj c_9 (okB_9 hB))]; exact (lp_up hj c_9 hm).1) (by unfold okB; simp only [wr_27 (ix_x hj c_9 (okB_9 hB)), wr_18 (ix_x hj c_9 (okB_9 hB))]; exact hB) (by simp only [wr_27 (ix_x hj c_9 (okB_9 hB)), wr_18 (ix_x hj c_9 (okB_9 hB))]; exact (lp_up hj c_9 hm).2) 
          · refine V_bipush (v := 99) dX7_oneTide_72 (by decide) ?_
            refine V_goto (tgt := 78) dX7_oneTide_74 (by decide) ?_
            refine S_7_4 (W_7 hw) (by exact ix_18 (ix_x hj c_9 (okB_9 hB))) dX7_oneTide_78 ?_
            refine V_aload_n dX7_oneTide_79 2 rfl ?_
            refine V_get (i := 5) inlX7 rfl (W_7 hw) rfl (by decide) q_94 rfl dX7_oneTide_80 ?_
            refine V_iconst (v := 4) dX7_oneTide_83 (by decide) ?_
            refine L_7_4_l 4 rfl (W_7 hw) (by unfold vp_in; decide) dX7_oneTide_84 ?_
            refine V_iconst (v := 2) dX7_oneTide_85 (by decide) ?_
            refine V_irem dX7_oneTide_86 (by decide) ?_
            refine V_iconst (v := 1) dX7_oneTide_87 (by decide) ?_
            refine V_ic_ne (tgt := 116) dX7_oneTide_88 (by decide) (fun c_88 => ?_) (fun c_88 => ?_)
            · refine V_iinc (v := (nI (j + 1))) (L2 := [(1, .int (nI (j + 1))), (3, .int ((s 7 4 (18 + (nI j)).toNatClampNeg) + ((((s 7 4 (27 + (nI j)).toNatClampNeg) + 1) / 2) + (s 7 4 3)))), (2, .int ((((s 7 4 (27 + (nI j)).toNatClampNeg) + 1) / 2) + (s 7 4 3))), (0, .ref (ad 7 0 0))]) dX7_oneTide_116 3 rfl (nI_1 _) (by decide) rfl ?_
              refine V_goto (tgt := 2) dX7_oneTide_119 (by decide) ?_
              refine V_rp (R2 := F_X7_oneTide_2  K n (j + 1) (wr s 7 4 (18 + (nI j)).toNatClampNeg 99)) (by simp only [F_X7_oneTide_2, if_neg c_9, if_pos c_31, if_neg c_69, if_neg c_88]) ?_
              refine V_lp [3, 0] rfl ?_
              exact ih (j + 1) (wr s 7 4 (18 + (nI j)).toNatClampNeg 99) (by simp only [wr_27 (ix_x hj c_9 (okB_9 hB)), wr_18 (ix_x hj c_9 (okB_9 hB))]; exact (lp_up hj c_9 hm).1) (by unfold okB; simp only [wr_27 (ix_x hj c_9 (okB_9 hB)), wr_18 (ix_x hj c_9 (okB_9 hB))]; exact hB) (by simp only [wr_27 (ix_x hj c_9 (okB_9 hB)), wr_18 (ix_x hj c_9 (okB_9 hB))]; exact (lp_up hj c_9 hm).2) 
            · refine V_aload_n dX7_oneTide_91 2 rfl ?_
              refine V_get (i := 5) inlX7 rfl (W_7 hw) rfl (by decide) q_94 rfl dX7_oneTide_92 ?_
              refine V_bipush (v := 27) dX7_oneTide_95 (by decide) ?_
              refine V_iload_n dX7_oneTide_97 3 rfl ?_
              refine V_iadd dX7_oneTide_98 ?_
              refine L_7_4 (W_7 hw) (by exact ix_27 (ix_x hj c_9 (okB_9 hB))) dX7_oneTide_99 ?_
              refine V_if_le (tgt := 116) dX7_oneTide_100 (by decide) (fun c_100 => ?_) (fun c_100 => ?_)
              · refine V_iinc (v := (nI (j + 1))) (L2 := [(1, .int (nI (j + 1))), (3, .int ((s 7 4 (18 + (nI j)).toNatClampNeg) + ((((s 7 4 (27 + (nI j)).toNatClampNeg) + 1) / 2) + (s 7 4 3)))), (2, .int ((((s 7 4 (27 + (nI j)).toNatClampNeg) + 1) / 2) + (s 7 4 3))), (0, .ref (ad 7 0 0))]) dX7_oneTide_116 3 rfl (nI_1 _) (by decide) rfl ?_
                refine V_goto (tgt := 2) dX7_oneTide_119 (by decide) ?_
                refine V_rp (R2 := F_X7_oneTide_2  K n (j + 1) (wr s 7 4 (18 + (nI j)).toNatClampNeg 99)) (by simp only [F_X7_oneTide_2, if_neg c_9, if_pos c_31, if_neg c_69, if_pos c_88, if_pos c_100]) ?_
                refine V_lp [3, 0] rfl ?_
                exact ih (j + 1) (wr s 7 4 (18 + (nI j)).toNatClampNeg 99) (by simp only [wr_27 (ix_x hj c_9 (okB_9 hB)), wr_18 (ix_x hj c_9 (okB_9 hB))]; exact (lp_up hj c_9 hm).1) (by unfold okB; simp only [wr_27 (ix_x hj c_9 (okB_9 hB)), wr_18 (ix_x hj c_9 (okB_9 hB))]; exact hB) (by simp only [wr_27 (ix_x hj c_9 (okB_9 hB)), wr_18 (ix_x hj c_9 (okB_9 hB))]; exact (lp_up hj c_9 hm).2) 
              · refine V_aload_n dX7_oneTide_103 2 rfl ?_
                refine V_get (i := 5) inlX7 rfl (W_7 hw) rfl (by decide) q_94 rfl dX7_oneTide_104 ?_
                refine V_bipush (v := 27) dX7_oneTide_107 (by decide) ?_
                refine V_iload_n dX7_oneTide_109 3 rfl ?_
                refine V_iadd dX7_oneTide_110 ?_
                refine V_dup2 dX7_oneTide_111 rfl rfl ?_
                refine L_7_4 (W_7 hw) (by exact ix_27 (ix_x hj c_9 (okB_9 hB))) dX7_oneTide_112 ?_
                refine V_iconst (v := 1) dX7_oneTide_113 (by decide) ?_
                refine V_isub dX7_oneTide_114 ?_
                refine S_7_4 (W_7 hw) (by exact ix_27 (ix_x hj c_9 (okB_9 hB))) dX7_oneTide_115 ?_
                refine V_iinc (v := (nI (j + 1))) (L2 := [(1, .int (nI (j + 1))), (3, .int ((s 7 4 (18 + (nI j)).toNatClampNeg) + ((((s 7 4 (27 + (nI j)).toNatClampNeg) + 1) / 2) + (s 7 4 3)))), (2, .int ((((s 7 4 (27 + (nI j)).toNatClampNeg) + 1) / 2) + (s 7 4 3))), (0, .ref (ad 7 0 0))]) dX7_oneTide_116 3 rfl (nI_1 _) (by decide) rfl ?_
                refine V_goto (tgt := 2) dX7_oneTide_119 (by decide) ?_
                refine V_rp (R2 := F_X7_oneTide_2  K n (j + 1) (wr (wr s 7 4 (18 + (nI j)).toNatClampNeg 99) 7 4 (27 + (nI j)).toNatClampNeg (((wr s 7 4 (18 + (nI j)).toNatClampNeg 99) 7 4 (27 + (nI j)).toNatClampNeg) - 1))) (by simp only [F_X7_oneTide_2, if_neg c_9, if_pos c_31, if_neg c_69, if_pos c_88, if_neg c_100]) ?_
                refine V_lp [3, 0] rfl ?_
                exact ih (j + 1) (wr (wr s 7 4 (18 + (nI j)).toNatClampNeg 99) 7 4 (27 + (nI j)).toNatClampNeg (((wr s 7 4 (18 + (nI j)).toNatClampNeg 99) 7 4 (27 + (nI j)).toNatClampNeg) - 1)) (by simp only [wr_27 (ix_x hj c_9 (okB_9 hB)), wr_18 (ix_x hj c_9 (okB_9 hB))]; exact (lp_up hj c_9 hm).1) (by unfold okB; simp only [wr_27 (ix_x hj c_9 (okB_9 hB)), wr_18 (ix_x hj c_9 (okB_9 hB))]; exact hB) (by simp only [wr_27 (ix_x hj c_9 (okB_9 hB)), wr_18 (ix_x hj c_9 (okB_9 hB))]; exact (lp_up hj c_9 hm).2) 
set_option maxRecDepth 100000 in
set_option maxHeartbeats 4000000 in
theorem k_X7_oneTide (l : Launch) (G : mm_G) {pr : Nat → Nat → Prop} {ad : Nat → Nat → Nat → Nat} (hw : mm_W pr) (g : mm_g) (hB : okB g)  : Mt l G yX7_oneTide cX7_oneTide 4 none (rmk 4 129) [.ref (ad 7 0 0)] pr ad g (qN pr ad (F_X7_oneTide g)) 0 0 := by
  refine Mt_of (by decide) (Nat.le_of_ble_eq_true rfl) ?_
  show V l G RX7 cX7_oneTide 4 none _ _ 0 0 0 0 0 [(0, .ref (ad 7 0 0))] [] pr ad g
  refine V_iconst (v := 0) dX7_oneTide_0 (by decide) ?_
  refine V_istore_n (L2 := [(1, .int 0), (0, .ref (ad 7 0 0))]) dX7_oneTide_1 (by decide) rfl ?_
  refine V_rp (R2 := F_X7_oneTide_2  (fun (j2 : Nat) (s2 : mm_g) => (wr s2 7 4 4 ((s2 7 4 4) + 1))) ((g 7 4 0).toInt.toNat + 1) 0 g) (by simp only [F_X7_oneTide]) ?_
  refine V_lp [1, 0] rfl ?_
  refine w_X7_oneTide_2 l G hw    _ (fun j2 s2 hj2 hB2 => ?_) ((g 7 4 0).toInt.toNat + 1) 0 g (by exact Nat.zero_le _) (by exact hB) (by omega)
  refine V_aload_n dX7_oneTide_122 0 rfl ?_
  refine V_get (i := 5) inlX7 rfl (W_7 hw) rfl (by decide) q_94 rfl dX7_oneTide_123 ?_
  refine V_iconst (v := 4) dX7_oneTide_126 (by decide) ?_
  refine V_dup2 dX7_oneTide_127 rfl rfl ?_
  refine L_7_4_l 4 rfl (W_7 hw) (by unfold vp_in; decide) dX7_oneTide_128 ?_
  refine V_iconst (v := 1) dX7_oneTide_129 (by decide) ?_
  refine V_iadd dX7_oneTide_130 ?_
  refine S_7_4_l 4 rfl (W_7 hw) (by unfold vp_in; decide) dX7_oneTide_131 ?_
  exact V_vret dX7_oneTide_132 rfl (lfN (by rfl))
theorem F_X7_oneTide_a (K : Nat → mm_g → mm_g) (hK : ∀ j s, okB s → (K j s) 7 4 0 = s 7 4 0) : ∀ (n j : Nat) (s : mm_g), okB s → j ≤ (s 7 4 0).toInt.toNat → (F_X7_oneTide_2 K n j s) 7 4 0 = s 7 4 0
  | 0, j, s, h, hj => hK j s h
  | n + 1, j, s, h, hj => by
    unfold F_X7_oneTide_2
    by_cases c : s 7 4 0 ≤ nI j
    · rw [if_pos c]; exact hK j s h
    · have hx : vp_in (nI j) 9 := ix_x hj c (okB_9 h)
      have h1 := (lp_up (n := (s 7 4 0).toInt.toNat - j) hj c (by omega)).1
      rw [if_neg c]
      have key : ∀ t : mm_g, t 7 4 0 = s 7 4 0 → (F_X7_oneTide_2 K n (j + 1) t) 7 4 0 = s 7 4 0 := fun t ht => by
        rw [F_X7_oneTide_a K hK n (j + 1) t (by unfold okB; rw [ht]; exact h) (by rw [ht]; exact h1), ht]
      repeat' split
      all_goals exact key _ (by simp only [wr_27 hx, wr_18 hx])
theorem F_X7_oneTide_0 {g : mm_g} (h : okB g) : (F_X7_oneTide g) 7 4 0 = g 7 4 0 := by
  unfold F_X7_oneTide
  exact F_X7_oneTide_a _ (fun j s _ => wr_o (by decide)) _ _ _ h (Nat.zero_le _)
theorem okB_tide {g : mm_g} (h : okB g) : okB (F_X7_oneTide g) := by
  unfold okB
  rw [F_X7_oneTide_0 h]
  exact h
def F_X7_allSizes_4 (g4 : mm_g) (K : Int32 → Nat → Int32) : Nat → Int32 → Nat → Int32
  | 0, a, j => K a j
  | n + 1, a, j => (if (g4 7 4 0) ≤ (nI j) then K a j else F_X7_allSizes_4 g4  K n (a + (g4 7 4 (18 + (nI j)).toNatClampNeg)) (j + 1))
def F_X7_allSizes (g : mm_g) : Int32 := (F_X7_allSizes_4 g  (fun (a4 : Int32) (j4 : Nat) => a4) ((g 7 4 0).toInt.toNat + 1) 0 0)
set_option maxRecDepth 100000 in
set_option maxHeartbeats 4000000 in
theorem w_X7_allSizes_4 (l : Launch) (G : mm_G) {pr : Nat → Nat → Prop} {ad : Nat → Nat → Nat → Nat} (hw : mm_W pr) (g4 : mm_g)  (hB : okB g4) (K : Int32 → Nat → Int32) (hK : ∀ (a : Int32) (j : Nat) (hj : j ≤ (g4 7 4 0).toInt.toNat), V l G RX7 cX7_allSizes 3 (some .int) (rmk 1 60) (qI pr ad g4 (K a j)) 0 0 0 0 32 [(0, .ref (ad 7 0 0)), (1, .int a), (2, .int (nI j))] [] pr ad g4) : ∀ (n : Nat) (a : Int32) (j : Nat) (hj : j ≤ (g4 7 4 0).toInt.toNat) (hm : (g4 7 4 0).toInt.toNat - j < n), V l G RX7 cX7_allSizes 3 (some .int) (rmk 1 60) (qI pr ad g4 (F_X7_allSizes_4 g4  K n a j)) 0 0 0 0 4 [(0, .ref (ad 7 0 0)), (1, .int a), (2, .int (nI j))] [] pr ad g4 := by
  intro n
  induction n with
  | zero => intro a j hj hm; exact absurd hm (Nat.not_lt_zero _)
  | succ n ih =>
      intro a j hj hm
      refine V_iload_n dX7_allSizes_4 2 rfl ?_
      refine V_aload_n dX7_allSizes_5 0 rfl ?_
      refine V_get (i := 5) inlX7 rfl (W_7 hw) rfl (by decide) q_94 rfl dX7_allSizes_6 ?_
      refine V_iconst (v := 0) dX7_allSizes_9 (by decide) ?_
      refine L_7_4_l 0 rfl (W_7 hw) (by unfold vp_in; decide) dX7_allSizes_10 ?_
      refine V_ic_ge (tgt := 32) dX7_allSizes_11 (by decide) (fun c_11 => ?_) (fun c_11 => ?_)
      · refine V_rp (R2 := K a j) (by simp only [F_X7_allSizes_4, if_pos c_11]) ?_
        refine V_lp [0, 1, 2] rfl ?_
        exact hK a j (by assumption)
      · refine V_iload_n dX7_allSizes_14 1 rfl ?_
        refine V_aload_n dX7_allSizes_15 0 rfl ?_
        refine V_get (i := 5) inlX7 rfl (W_7 hw) rfl (by decide) q_94 rfl dX7_allSizes_16 ?_
        refine V_bipush (v := 18) dX7_allSizes_19 (by decide) ?_
        refine V_iload_n dX7_allSizes_21 2 rfl ?_
        refine V_iadd dX7_allSizes_22 ?_
        refine L_7_4 (W_7 hw) (by exact ix_18 (ix_x hj c_11 (okB_9 hB))) dX7_allSizes_23 ?_
        refine V_iadd dX7_allSizes_24 ?_
        refine V_istore_n (L2 := [(1, .int (a + (g4 7 4 (18 + (nI j)).toNatClampNeg))), (0, .ref (ad 7 0 0)), (2, .int (nI j))]) dX7_allSizes_25 (by decide) rfl ?_
        refine V_iinc (v := (nI (j + 1))) (L2 := [(2, .int (nI (j + 1))), (1, .int (a + (g4 7 4 (18 + (nI j)).toNatClampNeg))), (0, .ref (ad 7 0 0))]) dX7_allSizes_26 2 rfl (nI_1 _) (by decide) rfl ?_
        refine V_goto (tgt := 4) dX7_allSizes_29 (by decide) ?_
        refine V_rp (R2 := F_X7_allSizes_4 g4  K n (a + (g4 7 4 (18 + (nI j)).toNatClampNeg)) (j + 1)) (by simp only [F_X7_allSizes_4, if_neg c_11]) ?_
        refine V_lp [2, 1, 0] rfl ?_
        exact ih (a + (g4 7 4 (18 + (nI j)).toNatClampNeg)) (j + 1) (by exact (lp_up hj c_11 hm).1) (by exact (lp_up hj c_11 hm).2) 
set_option maxRecDepth 100000 in
set_option maxHeartbeats 4000000 in
theorem k_X7_allSizes (l : Launch) (G : mm_G) {pr : Nat → Nat → Prop} {ad : Nat → Nat → Nat → Nat} (hw : mm_W pr) (g : mm_g) (hB : okB g)  : Mt l G yX7_allSizes cX7_allSizes 3 (some .int) (rmk 1 60) [.ref (ad 7 0 0)] pr ad g (qI pr ad g (F_X7_allSizes g)) 0 0 := by
  refine Mt_of (by decide) (Nat.le_of_ble_eq_true rfl) ?_
  show V l G RX7 cX7_allSizes 3 (some .int) _ _ 0 0 0 0 0 [(0, .ref (ad 7 0 0))] [] pr ad g
  refine V_iconst (v := 0) dX7_allSizes_0 (by decide) ?_
  refine V_istore_n (L2 := [(1, .int 0), (0, .ref (ad 7 0 0))]) dX7_allSizes_1 (by decide) rfl ?_
  refine V_iconst (v := 0) dX7_allSizes_2 (by decide) ?_
  refine V_istore_n (L2 := [(2, .int 0), (1, .int 0), (0, .ref (ad 7 0 0))]) dX7_allSizes_3 (by decide) rfl ?_
  refine V_rp (R2 := F_X7_allSizes_4 g  (fun (a4 : Int32) (j4 : Nat) => a4) ((g 7 4 0).toInt.toNat + 1) 0 0) (by simp only [F_X7_allSizes]) ?_
  refine V_lp [2, 1, 0] rfl ?_
  refine w_X7_allSizes_4 l G hw g   (by exact hB) _ (fun a4 j4 hj4 => ?_) ((g 7 4 0).toInt.toNat + 1) 0 0 (by first | exact Nat.zero_le _ | decide) (by omega)
  refine V_iload_n dX7_allSizes_32 1 rfl ?_
  exact V_iret dX7_allSizes_33 rfl (lfI (by rfl))
def F_X7_toldOf (g : mm_g) (x1 : Int32) (x2 : Int32) : Int32 := (if x2 = 0 then (g 7 4 (18 + x1).toNatClampNeg) else (if x2 = 1 then (g 7 4 (27 + x1).toNatClampNeg) else (F_X7_lies g x1)))
set_option maxRecDepth 100000 in
set_option maxHeartbeats 4000000 in
theorem k_X7_toldOf (l : Launch) (G : mm_G) {pr : Nat → Nat → Prop} {ad : Nat → Nat → Nat → Nat} (hw : mm_W pr) (g : mm_g) (x1 : Int32) (x2 : Int32) (hx : vp_in x1 9)  : Mt l G yX7_toldOf cX7_toldOf 3 (some .int) (rmk 4 129) [.ref (ad 7 0 0), .int x1, .int x2] pr ad g (qI pr ad g (F_X7_toldOf g x1 x2)) 0 0 := by
  refine Mt_of (by decide) (Nat.le_of_ble_eq_true rfl) ?_
  show V l G RX7 cX7_toldOf 3 (some .int) _ _ 0 0 0 0 0 [(0, .ref (ad 7 0 0)), (1, .int x1), (2, .int x2)] [] pr ad g
  refine V_iload_n dX7_toldOf_0 2 rfl ?_
  refine V_if_ne (tgt := 16) dX7_toldOf_1 (by decide) (fun c_1 => ?_) (fun c_1 => ?_)
  · refine V_iload_n dX7_toldOf_16 2 rfl ?_
    refine V_iconst (v := 1) dX7_toldOf_17 (by decide) ?_
    refine V_ic_ne (tgt := 33) dX7_toldOf_18 (by decide) (fun c_18 => ?_) (fun c_18 => ?_)
    · refine V_aload_n dX7_toldOf_33 0 rfl ?_
      refine V_iload_n dX7_toldOf_34 1 rfl ?_
      refine V_cV (k_X7_lies l G hw g  x1 hx) hy_X7_lies hi_X7_lies hs_X7_lies q_442 rfl rfl (W_7 hw) rfl rfl rfl rfl rfl ⟨by decide, by decide⟩ (Nat.le_of_ble_eq_true rfl) ⟨by decide, by decide⟩ dX7_toldOf_35 (V_kI ?_)
      exact V_iret dX7_toldOf_38 rfl (lfI (by simp only [F_X7_toldOf, if_neg c_1, if_neg c_18]))
    · refine V_aload_n dX7_toldOf_21 0 rfl ?_
      refine V_get (i := 5) inlX7 rfl (W_7 hw) rfl (by decide) q_94 rfl dX7_toldOf_22 ?_
      refine V_bipush (v := 27) dX7_toldOf_25 (by decide) ?_
      refine V_iload_n dX7_toldOf_27 1 rfl ?_
      refine V_iadd dX7_toldOf_28 ?_
      refine L_7_4 (W_7 hw) (by exact ix_27 hx) dX7_toldOf_29 ?_
      refine V_goto (tgt := 38) dX7_toldOf_30 (by decide) ?_
      exact V_iret dX7_toldOf_38 rfl (lfI (by simp only [F_X7_toldOf, if_neg c_1, if_pos c_18]))
  · refine V_aload_n dX7_toldOf_4 0 rfl ?_
    refine V_get (i := 5) inlX7 rfl (W_7 hw) rfl (by decide) q_94 rfl dX7_toldOf_5 ?_
    refine V_bipush (v := 18) dX7_toldOf_8 (by decide) ?_
    refine V_iload_n dX7_toldOf_10 1 rfl ?_
    refine V_iadd dX7_toldOf_11 ?_
    refine L_7_4 (W_7 hw) (by exact ix_18 hx) dX7_toldOf_12 ?_
    refine V_goto (tgt := 38) dX7_toldOf_13 (by decide) ?_
    exact V_iret dX7_toldOf_38 rfl (lfI (by simp only [F_X7_toldOf, if_pos c_1]))
def F_X7_putAside_2 (K : Nat → mm_g → mm_g) : Nat → Nat → mm_g → mm_g
  | 0, j, s => K j s
  | n + 1, j, s => (if 36 ≤ (nI j) then K j s else F_X7_putAside_2  K n (j + 1) (wr s 7 9 (nI j).toNatClampNeg (s 7 4 (nI j).toNatClampNeg)))
def F_X7_putAside (g : mm_g) : mm_g := (F_X7_putAside_2  (fun (j2 : Nat) (s2 : mm_g) => s2) ((36 : Int32).toInt.toNat + 1) 0 g)
set_option maxRecDepth 100000 in
set_option maxHeartbeats 4000000 in
theorem w_X7_putAside_2 (l : Launch) (G : mm_G) {pr : Nat → Nat → Prop} {ad : Nat → Nat → Nat → Nat} (hw : mm_W pr)  (K : Nat → mm_g → mm_g) (hK : ∀ (j : Nat) (s : mm_g) (hj : j ≤ (36 : Int32).toInt.toNat), V l G RX7 cX7_putAside 2 none (rmk 1 60) (qN pr ad (K j s)) 0 0 0 0 26 [(0, .ref (ad 7 0 0)), (1, .int (nI j))] [] pr ad s) : ∀ (n : Nat) (j : Nat) (s : mm_g) (hj : j ≤ (36 : Int32).toInt.toNat) (hm : (36 : Int32).toInt.toNat - j < n), V l G RX7 cX7_putAside 2 none (rmk 1 60) (qN pr ad (F_X7_putAside_2  K n j s)) 0 0 0 0 2 [(0, .ref (ad 7 0 0)), (1, .int (nI j))] [] pr ad s := by
  intro n
  induction n with
  | zero => intro j s hj hm; exact absurd hm (Nat.not_lt_zero _)
  | succ n ih =>
      intro j s hj hm
      refine V_iload_n dX7_putAside_2 1 rfl ?_
      refine V_bipush (v := 36) dX7_putAside_3 (by decide) ?_
      refine V_ic_ge (tgt := 26) dX7_putAside_5 (by decide) (fun c_5 => ?_) (fun c_5 => ?_)
      · refine V_rp (R2 := K j s) (by simp only [F_X7_putAside_2, if_pos c_5]) ?_
        refine V_lp [0, 1] rfl ?_
        exact hK j s (by assumption)
      · refine V_aload_n dX7_putAside_8 0 rfl ?_
        refine V_get (i := 18) inlX7 rfl (W_7 hw) rfl (by decide) q_99 rfl dX7_putAside_9 ?_
        refine V_iload_n dX7_putAside_12 1 rfl ?_
        refine V_aload_n dX7_putAside_13 0 rfl ?_
        refine V_get (i := 5) inlX7 rfl (W_7 hw) rfl (by decide) q_94 rfl dX7_putAside_14 ?_
        refine V_iload_n dX7_putAside_17 1 rfl ?_
        refine L_7_4 (W_7 hw) (by exact ix_x hj c_5 (by decide)) dX7_putAside_18 ?_
        refine S_7_9 (W_7 hw) (by exact ix_x hj c_5 (by decide)) dX7_putAside_19 ?_
        refine V_iinc (v := (nI (j + 1))) (L2 := [(1, .int (nI (j + 1))), (0, .ref (ad 7 0 0))]) dX7_putAside_20 1 rfl (nI_1 _) (by decide) rfl ?_
        refine V_goto (tgt := 2) dX7_putAside_23 (by decide) ?_
        refine V_rp (R2 := F_X7_putAside_2  K n (j + 1) (wr s 7 9 (nI j).toNatClampNeg (s 7 4 (nI j).toNatClampNeg))) (by simp only [F_X7_putAside_2, if_neg c_5]) ?_
        refine V_lp [1, 0] rfl ?_
        exact ih (j + 1) (wr s 7 9 (nI j).toNatClampNeg (s 7 4 (nI j).toNatClampNeg)) (by exact (lp_up hj c_5 hm).1) (by exact (lp_up hj c_5 hm).2) 
set_option maxRecDepth 100000 in
set_option maxHeartbeats 4000000 in
theorem k_X7_putAside (l : Launch) (G : mm_G) {pr : Nat → Nat → Prop} {ad : Nat → Nat → Nat → Nat} (hw : mm_W pr) (g : mm_g)  : Mt l G yX7_putAside cX7_putAside 2 none (rmk 1 60) [.ref (ad 7 0 0)] pr ad g (qN pr ad (F_X7_putAside g)) 0 0 := by
  refine Mt_of (by decide) (Nat.le_of_ble_eq_true rfl) ?_
  show V l G RX7 cX7_putAside 2 none _ _ 0 0 0 0 0 [(0, .ref (ad 7 0 0))] [] pr ad g
  refine V_iconst (v := 0) dX7_putAside_0 (by decide) ?_
  refine V_istore_n (L2 := [(1, .int 0), (0, .ref (ad 7 0 0))]) dX7_putAside_1 (by decide) rfl ?_
  refine V_rp (R2 := F_X7_putAside_2  (fun (j2 : Nat) (s2 : mm_g) => s2) ((36 : Int32).toInt.toNat + 1) 0 g) (by simp only [F_X7_putAside]) ?_
  refine V_lp [1, 0] rfl ?_
  refine w_X7_putAside_2 l G hw    _ (fun j2 s2 hj2 => ?_) ((36 : Int32).toInt.toNat + 1) 0 g (by first | exact Nat.zero_le _ | decide) (by omega)
  exact V_vret dX7_putAside_26 rfl (lfN (by rfl))
def F_X7_takeBack_2 (K : Nat → mm_g → mm_g) : Nat → Nat → mm_g → mm_g
  | 0, j, s => K j s
  | n + 1, j, s => (if 36 ≤ (nI j) then K j s else F_X7_takeBack_2  K n (j + 1) (wr s 7 4 (nI j).toNatClampNeg (s 7 9 (nI j).toNatClampNeg)))
def F_X7_takeBack (g : mm_g) : mm_g := (F_X7_takeBack_2  (fun (j2 : Nat) (s2 : mm_g) => s2) ((36 : Int32).toInt.toNat + 1) 0 g)
set_option maxRecDepth 100000 in
set_option maxHeartbeats 4000000 in
theorem w_X7_takeBack_2 (l : Launch) (G : mm_G) {pr : Nat → Nat → Prop} {ad : Nat → Nat → Nat → Nat} (hw : mm_W pr)  (K : Nat → mm_g → mm_g) (hK : ∀ (j : Nat) (s : mm_g) (hj : j ≤ (36 : Int32).toInt.toNat), V l G RX7 cX7_takeBack 2 none (rmk 1 60) (qN pr ad (K j s)) 0 0 0 0 26 [(0, .ref (ad 7 0 0)), (1, .int (nI j))] [] pr ad s) : ∀ (n : Nat) (j : Nat) (s : mm_g) (hj : j ≤ (36 : Int32).toInt.toNat) (hm : (36 : Int32).toInt.toNat - j < n), V l G RX7 cX7_takeBack 2 none (rmk 1 60) (qN pr ad (F_X7_takeBack_2  K n j s)) 0 0 0 0 2 [(0, .ref (ad 7 0 0)), (1, .int (nI j))] [] pr ad s := by
  intro n
  induction n with
  | zero => intro j s hj hm; exact absurd hm (Nat.not_lt_zero _)
  | succ n ih =>
      intro j s hj hm
      refine V_iload_n dX7_takeBack_2 1 rfl ?_
      refine V_bipush (v := 36) dX7_takeBack_3 (by decide) ?_
      refine V_ic_ge (tgt := 26) dX7_takeBack_5 (by decide) (fun c_5 => ?_) (fun c_5 => ?_)
      · refine V_rp (R2 := K j s) (by simp only [F_X7_takeBack_2, if_pos c_5]) ?_
        refine V_lp [0, 1] rfl ?_
        exact hK j s (by assumption)
      · refine V_aload_n dX7_takeBack_8 0 rfl ?_
        refine V_get (i := 5) inlX7 rfl (W_7 hw) rfl (by decide) q_94 rfl dX7_takeBack_9 ?_
        refine V_iload_n dX7_takeBack_12 1 rfl ?_
        refine V_aload_n dX7_takeBack_13 0 rfl ?_
        refine V_get (i := 18) inlX7 rfl (W_7 hw) rfl (by decide) q_99 rfl dX7_takeBack_14 ?_
        refine V_iload_n dX7_takeBack_17 1 rfl ?_
        refine L_7_9 (W_7 hw) (by exact ix_x hj c_5 (by decide)) dX7_takeBack_18 ?_
        refine S_7_4 (W_7 hw) (by exact ix_x hj c_5 (by decide)) dX7_takeBack_19 ?_
        refine V_iinc (v := (nI (j + 1))) (L2 := [(1, .int (nI (j + 1))), (0, .ref (ad 7 0 0))]) dX7_takeBack_20 1 rfl (nI_1 _) (by decide) rfl ?_
        refine V_goto (tgt := 2) dX7_takeBack_23 (by decide) ?_
        refine V_rp (R2 := F_X7_takeBack_2  K n (j + 1) (wr s 7 4 (nI j).toNatClampNeg (s 7 9 (nI j).toNatClampNeg))) (by simp only [F_X7_takeBack_2, if_neg c_5]) ?_
        refine V_lp [1, 0] rfl ?_
        exact ih (j + 1) (wr s 7 4 (nI j).toNatClampNeg (s 7 9 (nI j).toNatClampNeg)) (by exact (lp_up hj c_5 hm).1) (by exact (lp_up hj c_5 hm).2) 
set_option maxRecDepth 100000 in
set_option maxHeartbeats 4000000 in
theorem k_X7_takeBack (l : Launch) (G : mm_G) {pr : Nat → Nat → Prop} {ad : Nat → Nat → Nat → Nat} (hw : mm_W pr) (g : mm_g)  : Mt l G yX7_takeBack cX7_takeBack 2 none (rmk 1 60) [.ref (ad 7 0 0)] pr ad g (qN pr ad (F_X7_takeBack g)) 0 0 := by
  refine Mt_of (by decide) (Nat.le_of_ble_eq_true rfl) ?_
  show V l G RX7 cX7_takeBack 2 none _ _ 0 0 0 0 0 [(0, .ref (ad 7 0 0))] [] pr ad g
  refine V_iconst (v := 0) dX7_takeBack_0 (by decide) ?_
  refine V_istore_n (L2 := [(1, .int 0), (0, .ref (ad 7 0 0))]) dX7_takeBack_1 (by decide) rfl ?_
  refine V_rp (R2 := F_X7_takeBack_2  (fun (j2 : Nat) (s2 : mm_g) => s2) ((36 : Int32).toInt.toNat + 1) 0 g) (by simp only [F_X7_takeBack]) ?_
  refine V_lp [1, 0] rfl ?_
  refine w_X7_takeBack_2 l G hw    _ (fun j2 s2 hj2 => ?_) ((36 : Int32).toInt.toNat + 1) 0 g (by first | exact Nat.zero_le _ | decide) (by omega)
  exact V_vret dX7_takeBack_26 rfl (lfN (by rfl))
def F_X7_isWhat (x1 : Int32) : Int32 := (F_X7_in (x1.toInt64) 0 1)
set_option maxRecDepth 100000 in
set_option maxHeartbeats 4000000 in
theorem k_X7_isWhat (l : Launch) (G : mm_G) {pr : Nat → Nat → Prop} {ad : Nat → Nat → Nat → Nat} (hw : mm_W pr) (g : mm_g) (x1 : Int32)  : Mt l G yX7_isWhat cX7_isWhat 1 (some .boolean) (rmk 2 85) [.int x1] pr ad g (qI pr ad g (F_X7_isWhat x1)) 0 0 := by
  refine Mt_of (by decide) (Nat.le_of_ble_eq_true rfl) ?_
  show V l G RX7 cX7_isWhat 1 (some .boolean) _ _ 0 0 0 0 0 [(0, .int x1)] [] pr ad g
  refine V_iload_n dX7_isWhat_0 0 rfl ?_
  refine V_i2l dX7_isWhat_1 ?_
  refine V_lconst (v := 0) dX7_isWhat_2 (by decide) ?_
  refine V_lconst (v := 1) dX7_isWhat_3 (by decide) ?_
  refine V_cS (k_X7_in l G hw g  (x1.toInt64) 0 1 ) hy_X7_in hz_X7_in q_135 rfl rfl rfl rfl ⟨by decide, by decide⟩ (Nat.le_of_ble_eq_true rfl) ⟨by decide, by decide⟩ dX7_isWhat_4 (V_kI ?_)
  exact V_zret dX7_isWhat_7 rfl (nz01 in_01) (lfI (by simp only [F_X7_isWhat]))
def F_X7_goOn_2 (x1 : Int32) (K : Nat → mm_g → mm_g) : Nat → Nat → mm_g → mm_g
  | 0, j, s => K j s
  | n + 1, j, s => (if x1 ≤ (nI j) then K j s else F_X7_goOn_2 x1 K n (j + 1) (F_X7_oneTide s))
def F_X7_goOn (g : mm_g) (x1 : Int32) : mm_g := (F_X7_goOn_2 x1 (fun (j2 : Nat) (s2 : mm_g) => s2) (x1.toInt.toNat + 1) 0 g)
set_option maxRecDepth 100000 in
set_option maxHeartbeats 4000000 in
theorem w_X7_goOn_2 (l : Launch) (G : mm_G) {pr : Nat → Nat → Prop} {ad : Nat → Nat → Nat → Nat} (hw : mm_W pr) (x1 : Int32)  (K : Nat → mm_g → mm_g) (hK : ∀ (j : Nat) (s : mm_g) (hj : j ≤ x1.toInt.toNat) (hB : okB s), V l G RX7 cX7_goOn 3 none (rmk 5 152) (qN pr ad (K j s)) 0 0 0 0 17 [(0, .ref (ad 7 0 0)), (1, .int x1), (2, .int (nI j))] [] pr ad s) : ∀ (n : Nat) (j : Nat) (s : mm_g) (hj : j ≤ x1.toInt.toNat) (hB : okB s) (hm : x1.toInt.toNat - j < n), V l G RX7 cX7_goOn 3 none (rmk 5 152) (qN pr ad (F_X7_goOn_2 x1 K n j s)) 0 0 0 0 2 [(0, .ref (ad 7 0 0)), (1, .int x1), (2, .int (nI j))] [] pr ad s := by
  intro n
  induction n with
  | zero => intro j s hj hB hm; exact absurd hm (Nat.not_lt_zero _)
  | succ n ih =>
      intro j s hj hB hm
      refine V_iload_n dX7_goOn_2 2 rfl ?_
      refine V_iload_n dX7_goOn_3 1 rfl ?_
      refine V_ic_ge (tgt := 17) dX7_goOn_4 (by decide) (fun c_4 => ?_) (fun c_4 => ?_)
      · refine V_rp (R2 := K j s) (by simp only [F_X7_goOn_2, if_pos c_4]) ?_
        refine V_lp [0, 1, 2] rfl ?_
        exact hK j s (by assumption) (by assumption)
      · refine V_aload_n dX7_goOn_7 0 rfl ?_
        refine V_cV (k_X7_oneTide l G hw s   hB) hy_X7_oneTide hi_X7_oneTide hs_X7_oneTide q_438 rfl rfl (W_7 hw) rfl rfl rfl rfl rfl ⟨by decide, by decide⟩ (Nat.le_of_ble_eq_true rfl) ⟨by decide, by decide⟩ dX7_goOn_8 (V_kN ?_)
        refine V_iinc (v := (nI (j + 1))) (L2 := [(2, .int (nI (j + 1))), (0, .ref (ad 7 0 0)), (1, .int x1)]) dX7_goOn_11 2 rfl (nI_1 _) (by decide) rfl ?_
        refine V_goto (tgt := 2) dX7_goOn_14 (by decide) ?_
        refine V_rp (R2 := F_X7_goOn_2 x1 K n (j + 1) (F_X7_oneTide s)) (by simp only [F_X7_goOn_2, if_neg c_4]) ?_
        refine V_lp [1, 2, 0] rfl ?_
        exact ih (j + 1) (F_X7_oneTide s) (by exact (lp_up hj c_4 hm).1) (by exact okB_tide hB) (by exact (lp_up hj c_4 hm).2) 
set_option maxRecDepth 100000 in
set_option maxHeartbeats 4000000 in
theorem k_X7_goOn (l : Launch) (G : mm_G) {pr : Nat → Nat → Prop} {ad : Nat → Nat → Nat → Nat} (hw : mm_W pr) (g : mm_g) (x1 : Int32) (hB : okB g)  : Mt l G yX7_goOn cX7_goOn 3 none (rmk 5 152) [.ref (ad 7 0 0), .int x1] pr ad g (qN pr ad (F_X7_goOn g x1)) 0 0 := by
  refine Mt_of (by decide) (Nat.le_of_ble_eq_true rfl) ?_
  show V l G RX7 cX7_goOn 3 none _ _ 0 0 0 0 0 [(0, .ref (ad 7 0 0)), (1, .int x1)] [] pr ad g
  refine V_iconst (v := 0) dX7_goOn_0 (by decide) ?_
  refine V_istore_n (L2 := [(2, .int 0), (0, .ref (ad 7 0 0)), (1, .int x1)]) dX7_goOn_1 (by decide) rfl ?_
  refine V_rp (R2 := F_X7_goOn_2 x1 (fun (j2 : Nat) (s2 : mm_g) => s2) (x1.toInt.toNat + 1) 0 g) (by simp only [F_X7_goOn]) ?_
  refine V_lp [1, 2, 0] rfl ?_
  refine w_X7_goOn_2 l G hw x1   _ (fun j2 s2 hj2 hB2 => ?_) (x1.toInt.toNat + 1) 0 g (by first | exact Nat.zero_le _ | decide) (by exact hB) (by omega)
  exact V_vret dX7_goOn_17 rfl (lfN (by rfl))
def F_X7_bringFor_5 (g5 : mm_g) (x1 : Int32) (x2 : Int32) (K : Int32 → Nat → Int32) : Nat → Int32 → Nat → Int32
  | 0, a, j => K a j
  | n + 1, a, j => (if (g5 7 4 0) ≤ (nI j) then K a j else (if (F_X7_has x2 (nI j)) = 0 then F_X7_bringFor_5 g5 x1 x2 K n (a + 0) (j + 1) else (if (F_X7_hasVeto g5 (nI j)) = 0 then (if (F_X7_lies g5 (nI j)) = x1 then F_X7_bringFor_5 g5 x1 x2 K n (a + ((3 * (g5 7 4 (18 + (nI j)).toNatClampNeg)) / 4)) (j + 1) else F_X7_bringFor_5 g5 x1 x2 K n (a + 0) (j + 1)) else F_X7_bringFor_5 g5 x1 x2 K n (a + 0) (j + 1))))
def F_X7_bringFor (g : mm_g) (x1 : Int32) (x2 : Int32) : Int32 := (F_X7_bringFor_5 g x1 x2 (fun (a5 : Int32) (j5 : Nat) => a5) ((g 7 4 0).toInt.toNat + 1) 0 0)
set_option maxRecDepth 100000 in
set_option maxHeartbeats 4000000 in
theorem w_X7_bringFor_5 (l : Launch) (G : mm_G) {pr : Nat → Nat → Prop} {ad : Nat → Nat → Nat → Nat} (hw : mm_W pr) (g5 : mm_g) (x1 : Int32) (x2 : Int32)  (hB : okB g5) (K : Int32 → Nat → Int32) (hK : ∀ (a : Int32) (j : Nat) (hj : j ≤ (g5 7 4 0).toInt.toNat), V l G RX7 cX7_bringFor 5 (some .int) (rmk 4 129) (qI pr ad g5 (K a j)) 0 0 0 0 71 [(0, .ref (ad 7 0 0)), (1, .int x1), (2, .int x2), (3, .int a), (4, .int (nI j))] [] pr ad g5) : ∀ (n : Nat) (a : Int32) (j : Nat) (hj : j ≤ (g5 7 4 0).toInt.toNat) (hm : (g5 7 4 0).toInt.toNat - j < n), V l G RX7 cX7_bringFor 5 (some .int) (rmk 4 129) (qI pr ad g5 (F_X7_bringFor_5 g5 x1 x2 K n a j)) 0 0 0 0 5 [(0, .ref (ad 7 0 0)), (1, .int x1), (2, .int x2), (3, .int a), (4, .int (nI j))] [] pr ad g5 := by
  intro n
  induction n with
  | zero => intro a j hj hm; exact absurd hm (Nat.not_lt_zero _)
  | succ n ih =>
      intro a j hj hm
      refine V_iload dX7_bringFor_5 4 rfl ?_
      refine V_aload_n dX7_bringFor_7 0 rfl ?_
      refine V_get (i := 5) inlX7 rfl (W_7 hw) rfl (by decide) q_94 rfl dX7_bringFor_8 ?_
      refine V_iconst (v := 0) dX7_bringFor_11 (by decide) ?_
      refine L_7_4_l 0 rfl (W_7 hw) (by unfold vp_in; decide) dX7_bringFor_12 ?_
      refine V_ic_ge (tgt := 71) dX7_bringFor_13 (by decide) (fun c_13 => ?_) (fun c_13 => ?_)
      · refine V_rp (R2 := K a j) (by simp only [F_X7_bringFor_5, if_pos c_13]) ?_
        refine V_lp [0, 1, 2, 3, 4] rfl ?_
        exact hK a j (by assumption)
      · refine V_iload_n dX7_bringFor_16 3 rfl ?_
        refine V_iload_n dX7_bringFor_17 2 rfl ?_
        refine V_iload dX7_bringFor_18 4 rfl ?_
        refine V_cS (k_X7_has l G hw g5  x2 (nI j) ) hy_X7_has hz_X7_has q_488 rfl rfl rfl rfl ⟨by decide, by decide⟩ (Nat.le_of_ble_eq_true rfl) ⟨by decide, by decide⟩ dX7_bringFor_20 (V_kI ?_)
        refine V_if_eq (tgt := 62) dX7_bringFor_23 (by decide) (fun c_23 => ?_) (fun c_23 => ?_)
        · refine V_iconst (v := 0) dX7_bringFor_62 (by decide) ?_
          refine V_iadd dX7_bringFor_63 ?_
          refine V_istore_n (L2 := [(3, .int (a + 0)), (0, .ref (ad 7 0 0)), (1, .int x1), (2, .int x2), (4, .int (nI j))]) dX7_bringFor_64 (by decide) rfl ?_
          refine V_iinc (v := (nI (j + 1))) (L2 := [(4, .int (nI (j + 1))), (3, .int (a + 0)), (0, .ref (ad 7 0 0)), (1, .int x1), (2, .int x2)]) dX7_bringFor_65 4 rfl (nI_1 _) (by decide) rfl ?_
          refine V_goto (tgt := 5) dX7_bringFor_68 (by decide) ?_
          refine V_rp (R2 := F_X7_bringFor_5 g5 x1 x2 K n (a + 0) (j + 1)) (by simp only [F_X7_bringFor_5, if_neg c_13, if_pos c_23]) ?_
          refine V_lp [2, 3, 4, 1, 0] rfl ?_
          exact ih (a + 0) (j + 1) (by exact (lp_up hj c_13 hm).1) (by exact (lp_up hj c_13 hm).2) 
        · refine V_aload_n dX7_bringFor_26 0 rfl ?_
          refine V_iload dX7_bringFor_27 4 rfl ?_
          refine V_cV (k_X7_hasVeto l G hw g5  (nI j) ) hy_X7_hasVeto hi_X7_hasVeto hs_X7_hasVeto q_484 rfl rfl (W_7 hw) rfl rfl rfl rfl rfl ⟨by decide, by decide⟩ (Nat.le_of_ble_eq_true rfl) ⟨by decide, by decide⟩ dX7_bringFor_29 (V_kI ?_)
          refine V_if_ne (tgt := 62) dX7_bringFor_32 (by decide) (fun c_32 => ?_) (fun c_32 => ?_)
          · refine V_iconst (v := 0) dX7_bringFor_62 (by decide) ?_
            refine V_iadd dX7_bringFor_63 ?_
            refine V_istore_n (L2 := [(3, .int (a + 0)), (0, .ref (ad 7 0 0)), (1, .int x1), (2, .int x2), (4, .int (nI j))]) dX7_bringFor_64 (by decide) rfl ?_
            refine V_iinc (v := (nI (j + 1))) (L2 := [(4, .int (nI (j + 1))), (3, .int (a + 0)), (0, .ref (ad 7 0 0)), (1, .int x1), (2, .int x2)]) dX7_bringFor_65 4 rfl (nI_1 _) (by decide) rfl ?_
            refine V_goto (tgt := 5) dX7_bringFor_68 (by decide) ?_
            refine V_rp (R2 := F_X7_bringFor_5 g5 x1 x2 K n (a + 0) (j + 1)) (by simp only [F_X7_bringFor_5, if_neg c_13, if_neg c_23, if_neg c_32]) ?_
            refine V_lp [2, 3, 4, 1, 0] rfl ?_
            exact ih (a + 0) (j + 1) (by exact (lp_up hj c_13 hm).1) (by exact (lp_up hj c_13 hm).2) 
          · refine V_aload_n dX7_bringFor_35 0 rfl ?_
            refine V_iload dX7_bringFor_36 4 rfl ?_
            refine V_cV (k_X7_lies l G hw g5  (nI j) (ix_x hj c_13 (okB_9 hB))) hy_X7_lies hi_X7_lies hs_X7_lies q_442 rfl rfl (W_7 hw) rfl rfl rfl rfl rfl ⟨by decide, by decide⟩ (Nat.le_of_ble_eq_true rfl) ⟨by decide, by decide⟩ dX7_bringFor_38 (V_kI ?_)
            refine V_iload_n dX7_bringFor_41 1 rfl ?_
            refine V_ic_ne (tgt := 62) dX7_bringFor_42 (by decide) (fun c_42 => ?_) (fun c_42 => ?_)
            · refine V_iconst (v := 0) dX7_bringFor_62 (by decide) ?_
              refine V_iadd dX7_bringFor_63 ?_
              refine V_istore_n (L2 := [(3, .int (a + 0)), (0, .ref (ad 7 0 0)), (1, .int x1), (2, .int x2), (4, .int (nI j))]) dX7_bringFor_64 (by decide) rfl ?_
              refine V_iinc (v := (nI (j + 1))) (L2 := [(4, .int (nI (j + 1))), (3, .int (a + 0)), (0, .ref (ad 7 0 0)), (1, .int x1), (2, .int x2)]) dX7_bringFor_65 4 rfl (nI_1 _) (by decide) rfl ?_
              refine V_goto (tgt := 5) dX7_bringFor_68 (by decide) ?_
              refine V_rp (R2 := F_X7_bringFor_5 g5 x1 x2 K n (a + 0) (j + 1)) (by simp only [F_X7_bringFor_5, if_neg c_13, if_neg c_23, if_pos c_32, if_neg c_42]) ?_
              refine V_lp [2, 3, 4, 1, 0] rfl ?_
              exact ih (a + 0) (j + 1) (by exact (lp_up hj c_13 hm).1) (by exact (lp_up hj c_13 hm).2) 
            · refine V_iconst (v := 3) dX7_bringFor_45 (by decide) ?_
              refine V_aload_n dX7_bringFor_46 0 rfl ?_
              refine V_get (i := 5) inlX7 rfl (W_7 hw) rfl (by decide) q_94 rfl dX7_bringFor_47 ?_
              refine V_bipush (v := 18) dX7_bringFor_50 (by decide) ?_
              refine V_iload dX7_bringFor_52 4 rfl ?_
              refine V_iadd dX7_bringFor_54 ?_
              refine L_7_4 (W_7 hw) (by exact ix_18 (ix_x hj c_13 (okB_9 hB))) dX7_bringFor_55 ?_
              refine V_imul dX7_bringFor_56 ?_
              refine V_iconst (v := 4) dX7_bringFor_57 (by decide) ?_
              refine V_idiv dX7_bringFor_58 (by decide) ?_
              refine V_goto (tgt := 63) dX7_bringFor_59 (by decide) ?_
              refine V_iadd dX7_bringFor_63 ?_
              refine V_istore_n (L2 := [(3, .int (a + ((3 * (g5 7 4 (18 + (nI j)).toNatClampNeg)) / 4))), (0, .ref (ad 7 0 0)), (1, .int x1), (2, .int x2), (4, .int (nI j))]) dX7_bringFor_64 (by decide) rfl ?_
              refine V_iinc (v := (nI (j + 1))) (L2 := [(4, .int (nI (j + 1))), (3, .int (a + ((3 * (g5 7 4 (18 + (nI j)).toNatClampNeg)) / 4))), (0, .ref (ad 7 0 0)), (1, .int x1), (2, .int x2)]) dX7_bringFor_65 4 rfl (nI_1 _) (by decide) rfl ?_
              refine V_goto (tgt := 5) dX7_bringFor_68 (by decide) ?_
              refine V_rp (R2 := F_X7_bringFor_5 g5 x1 x2 K n (a + ((3 * (g5 7 4 (18 + (nI j)).toNatClampNeg)) / 4)) (j + 1)) (by simp only [F_X7_bringFor_5, if_neg c_13, if_neg c_23, if_pos c_32, if_pos c_42]) ?_
              refine V_lp [2, 3, 4, 1, 0] rfl ?_
              exact ih (a + ((3 * (g5 7 4 (18 + (nI j)).toNatClampNeg)) / 4)) (j + 1) (by exact (lp_up hj c_13 hm).1) (by exact (lp_up hj c_13 hm).2) 
set_option maxRecDepth 100000 in
set_option maxHeartbeats 4000000 in
theorem k_X7_bringFor (l : Launch) (G : mm_G) {pr : Nat → Nat → Prop} {ad : Nat → Nat → Nat → Nat} (hw : mm_W pr) (g : mm_g) (x1 : Int32) (x2 : Int32) (hB : okB g)  : Mt l G yX7_bringFor cX7_bringFor 5 (some .int) (rmk 4 129) [.ref (ad 7 0 0), .int x1, .int x2] pr ad g (qI pr ad g (F_X7_bringFor g x1 x2)) 0 0 := by
  refine Mt_of (by decide) (Nat.le_of_ble_eq_true rfl) ?_
  show V l G RX7 cX7_bringFor 5 (some .int) _ _ 0 0 0 0 0 [(0, .ref (ad 7 0 0)), (1, .int x1), (2, .int x2)] [] pr ad g
  refine V_iconst (v := 0) dX7_bringFor_0 (by decide) ?_
  refine V_istore_n (L2 := [(3, .int 0), (0, .ref (ad 7 0 0)), (1, .int x1), (2, .int x2)]) dX7_bringFor_1 (by decide) rfl ?_
  refine V_iconst (v := 0) dX7_bringFor_2 (by decide) ?_
  refine V_istore (L2 := [(4, .int 0), (3, .int 0), (0, .ref (ad 7 0 0)), (1, .int x1), (2, .int x2)]) dX7_bringFor_3 (by decide) rfl ?_
  refine V_rp (R2 := F_X7_bringFor_5 g x1 x2 (fun (a5 : Int32) (j5 : Nat) => a5) ((g 7 4 0).toInt.toNat + 1) 0 0) (by simp only [F_X7_bringFor]) ?_
  refine V_lp [2, 3, 4, 1, 0] rfl ?_
  refine w_X7_bringFor_5 l G hw g x1 x2  (by exact hB) _ (fun a5 j5 hj5 => ?_) ((g 7 4 0).toInt.toNat + 1) 0 0 (by first | exact Nat.zero_le _ | decide) (by omega)
  refine V_iload_n dX7_bringFor_71 3 rfl ?_
  exact V_iret dX7_bringFor_72 rfl (lfI (by rfl))
def F_X7_tallyOf (g : mm_g) (x1 : Int32) : Int32 := ((g 7 4 (6 + x1).toNatClampNeg) + (F_X7_bringFor g x1 511))
set_option maxRecDepth 100000 in
set_option maxHeartbeats 4000000 in
theorem k_X7_tallyOf (l : Launch) (G : mm_G) {pr : Nat → Nat → Prop} {ad : Nat → Nat → Nat → Nat} (hw : mm_W pr) (g : mm_g) (x1 : Int32) (hB : okB g) (hv : vp_in x1 3)  : Mt l G yX7_tallyOf cX7_tallyOf 2 (some .int) (rmk 5 153) [.ref (ad 7 0 0), .int x1] pr ad g (qI pr ad g (F_X7_tallyOf g x1)) 0 0 := by
  refine Mt_of (by decide) (Nat.le_of_ble_eq_true rfl) ?_
  show V l G RX7 cX7_tallyOf 2 (some .int) _ _ 0 0 0 0 0 [(0, .ref (ad 7 0 0)), (1, .int x1)] [] pr ad g
  refine V_aload_n dX7_tallyOf_0 0 rfl ?_
  refine V_get (i := 5) inlX7 rfl (W_7 hw) rfl (by decide) q_94 rfl dX7_tallyOf_1 ?_
  refine V_bipush (v := 6) dX7_tallyOf_4 (by decide) ?_
  refine V_iload_n dX7_tallyOf_6 1 rfl ?_
  refine V_iadd dX7_tallyOf_7 ?_
  refine L_7_4 (W_7 hw) (by exact ix_6 hv) dX7_tallyOf_8 ?_
  refine V_aload_n dX7_tallyOf_9 0 rfl ?_
  refine V_iload_n dX7_tallyOf_10 1 rfl ?_
  refine V_sipush (v := 511) dX7_tallyOf_11 (by decide) ?_
  refine V_cV (k_X7_bringFor l G hw g  x1 511 hB) hy_X7_bringFor hi_X7_bringFor hs_X7_bringFor q_619 rfl rfl (W_7 hw) rfl rfl rfl rfl rfl ⟨by decide, by decide⟩ (Nat.le_of_ble_eq_true rfl) ⟨by decide, by decide⟩ dX7_tallyOf_14 (V_kI ?_)
  refine V_iadd dX7_tallyOf_17 ?_
  exact V_iret dX7_tallyOf_18 rfl (lfI (by simp only [F_X7_tallyOf]))
def F_X7_leadOf (g : mm_g) (x1 : Int32) : Int32 := ((F_X7_tallyOf g x1) - (F_X7_tallyOf g (1 - x1)))
set_option maxRecDepth 100000 in
set_option maxHeartbeats 4000000 in
theorem k_X7_leadOf (l : Launch) (G : mm_G) {pr : Nat → Nat → Prop} {ad : Nat → Nat → Nat → Nat} (hw : mm_W pr) (g : mm_g) (x1 : Int32) (hB : okB g) (hv : vp_in x1 2)  : Mt l G yX7_leadOf cX7_leadOf 2 (some .int) (rmk 6 174) [.ref (ad 7 0 0), .int x1] pr ad g (qI pr ad g (F_X7_leadOf g x1)) 0 0 := by
  refine Mt_of (by decide) (Nat.le_of_ble_eq_true rfl) ?_
  show V l G RX7 cX7_leadOf 2 (some .int) _ _ 0 0 0 0 0 [(0, .ref (ad 7 0 0)), (1, .int x1)] [] pr ad g
  refine V_aload_n dX7_leadOf_0 0 rfl ?_
  refine V_iload_n dX7_leadOf_1 1 rfl ?_
  refine V_cV (k_X7_tallyOf l G hw g  x1 hB (ix_23 hv)) hy_X7_tallyOf hi_X7_tallyOf hs_X7_tallyOf q_615 rfl rfl (W_7 hw) rfl rfl rfl rfl rfl ⟨by decide, by decide⟩ (Nat.le_of_ble_eq_true rfl) ⟨by decide, by decide⟩ dX7_leadOf_2 (V_kI ?_)
  refine V_aload_n dX7_leadOf_5 0 rfl ?_
  refine V_iconst (v := 1) dX7_leadOf_6 (by decide) ?_
  refine V_iload_n dX7_leadOf_7 1 rfl ?_
  refine V_isub dX7_leadOf_8 ?_
  refine V_cV (k_X7_tallyOf l G hw g  (1 - x1) hB (ix_1m hv)) hy_X7_tallyOf hi_X7_tallyOf hs_X7_tallyOf q_615 rfl rfl (W_7 hw) rfl rfl rfl rfl rfl ⟨by decide, by decide⟩ (Nat.le_of_ble_eq_true rfl) ⟨by decide, by decide⟩ dX7_leadOf_9 (V_kI ?_)
  refine V_isub dX7_leadOf_12 ?_
  exact V_iret dX7_leadOf_13 rfl (lfI (by simp only [F_X7_leadOf]))
def F_X7_sign (x1 : Int32) : Int32 := (if x1 ≤ 0 then (if 0 ≤ x1 then 0 else (-1)) else 1)
set_option maxRecDepth 100000 in
set_option maxHeartbeats 4000000 in
theorem k_X7_sign (l : Launch) (G : mm_G) {pr : Nat → Nat → Prop} {ad : Nat → Nat → Nat → Nat} (hw : mm_W pr) (g : mm_g) (x1 : Int32)  : Mt l G yX7_sign cX7_sign 1 (some .int) (rmk 1 60) [.int x1] pr ad g (qI pr ad g (F_X7_sign x1)) 0 0 := by
  refine Mt_of (by decide) (Nat.le_of_ble_eq_true rfl) ?_
  show V l G RX7 cX7_sign 1 (some .int) _ _ 0 0 0 0 0 [(0, .int x1)] [] pr ad g
  refine V_iload_n dX7_sign_0 0 rfl ?_
  refine V_if_le (tgt := 8) dX7_sign_1 (by decide) (fun c_1 => ?_) (fun c_1 => ?_)
  · refine V_iload_n dX7_sign_8 0 rfl ?_
    refine V_if_ge (tgt := 16) dX7_sign_9 (by decide) (fun c_9 => ?_) (fun c_9 => ?_)
    · refine V_iconst (v := 0) dX7_sign_16 (by decide) ?_
      exact V_iret dX7_sign_17 rfl (lfI (by simp only [F_X7_sign, if_pos c_1, if_pos c_9]))
    · refine V_iconst (v := (-1)) dX7_sign_12 (by decide) ?_
      refine V_goto (tgt := 17) dX7_sign_13 (by decide) ?_
      exact V_iret dX7_sign_17 rfl (lfI (by simp only [F_X7_sign, if_pos c_1, if_neg c_9]))
  · refine V_iconst (v := 1) dX7_sign_4 (by decide) ?_
    refine V_goto (tgt := 17) dX7_sign_5 (by decide) ?_
    exact V_iret dX7_sign_17 rfl (lfI (by simp only [F_X7_sign, if_neg c_1]))
def F_X7_bestCell_17 (x1 : Int32) (f2 : Int32) (K : Int32 → Int32 → Nat → mm_g → Int32 × mm_g) : Nat → Int32 → Int32 → Nat → mm_g → Int32 × mm_g
  | 0, a, b, j, s => K a b j s
  | n + 1, a, b, j, s => (if 9 ≤ (nI j) then K a b j s else (if (nI j) = 0 then F_X7_bestCell_17 x1 f2 K n (nI j) (F_X7_leadOf (wr s 7 4 (1 + x1).toNatClampNeg (nI j)) x1) (j + 1) (wr s 7 4 (1 + x1).toNatClampNeg (nI j)) else (if (F_X7_leadOf (wr s 7 4 (1 + x1).toNatClampNeg (nI j)) x1) ≤ b then F_X7_bestCell_17 x1 f2 K n a b (j + 1) (wr s 7 4 (1 + x1).toNatClampNeg (nI j)) else F_X7_bestCell_17 x1 f2 K n (nI j) (F_X7_leadOf (wr s 7 4 (1 + x1).toNatClampNeg (nI j)) x1) (j + 1) (wr s 7 4 (1 + x1).toNatClampNeg (nI j)))))
def F_X7_bestCell (g : mm_g) (x1 : Int32) : Int32 × mm_g := (F_X7_bestCell_17 x1 (g 7 4 (1 + x1).toNatClampNeg) (fun (a17 : Int32) (b17 : Int32) (j17 : Nat) (s17 : mm_g) => (a17, (wr s17 7 4 (1 + x1).toNatClampNeg (g 7 4 (1 + x1).toNatClampNeg)))) ((9 : Int32).toInt.toNat + 1) 0 0 0 g)
set_option maxRecDepth 100000 in
set_option maxHeartbeats 4000000 in
theorem w_X7_bestCell_17 (l : Launch) (G : mm_G) {pr : Nat → Nat → Prop} {ad : Nat → Nat → Nat → Nat} (hw : mm_W pr) (x1 : Int32) (f2 : Int32)  (hv : vp_in x1 2) (K : Int32 → Int32 → Nat → mm_g → Int32 × mm_g) (hK : ∀ (a : Int32) (b : Int32) (j : Nat) (s : mm_g) (hj : j ≤ (9 : Int32).toInt.toNat) (hB : okB s), V l G RX7 cX7_bestCell 7 (some .int) (rmk 7 195) (qM pr ad (K a b j s)) 0 0 0 0 66 [(0, .ref (ad 7 0 0)), (1, .int x1), (2, .int f2), (3, .int a), (4, .int b), (5, .int (nI j))] [] pr ad s) : ∀ (n : Nat) (a : Int32) (b : Int32) (j : Nat) (s : mm_g) (hj : j ≤ (9 : Int32).toInt.toNat) (hB : okB s) (hm : (9 : Int32).toInt.toNat - j < n), V l G RX7 cX7_bestCell 7 (some .int) (rmk 7 195) (qM pr ad (F_X7_bestCell_17 x1 f2 K n a b j s)) 0 0 0 0 17 [(0, .ref (ad 7 0 0)), (1, .int x1), (2, .int f2), (3, .int a), (4, .int b), (5, .int (nI j))] [] pr ad s := by
  intro n
  induction n with
  | zero => intro a b j s hj hB hm; exact absurd hm (Nat.not_lt_zero _)
  | succ n ih =>
      intro a b j s hj hB hm
      refine V_iload dX7_bestCell_17 5 rfl ?_
      refine V_bipush (v := 9) dX7_bestCell_19 (by decide) ?_
      refine V_ic_ge (tgt := 66) dX7_bestCell_21 (by decide) (fun c_21 => ?_) (fun c_21 => ?_)
      · refine V_rp (R2 := K a b j s) (by simp only [F_X7_bestCell_17, if_pos c_21]) ?_
        refine V_lp [0, 1, 2, 3, 4, 5] rfl ?_
        exact hK a b j s (by assumption) (by assumption)
      · refine V_aload_n dX7_bestCell_24 0 rfl ?_
        refine V_get (i := 5) inlX7 rfl (W_7 hw) rfl (by decide) q_94 rfl dX7_bestCell_25 ?_
        refine V_iconst (v := 1) dX7_bestCell_28 (by decide) ?_
        refine V_iload_n dX7_bestCell_29 1 rfl ?_
        refine V_iadd dX7_bestCell_30 ?_
        refine V_iload dX7_bestCell_31 5 rfl ?_
        refine S_7_4 (W_7 hw) (by exact ix_1 hv) dX7_bestCell_33 ?_
        refine V_aload_n dX7_bestCell_34 0 rfl ?_
        refine V_iload_n dX7_bestCell_35 1 rfl ?_
        refine V_cV (k_X7_leadOf l G hw (wr s 7 4 (1 + x1).toNatClampNeg (nI j))  x1 (okB_1 hv hB) hv) hy_X7_leadOf hi_X7_leadOf hs_X7_leadOf q_675 rfl rfl (W_7 hw) rfl rfl rfl rfl rfl ⟨by decide, by decide⟩ (Nat.le_of_ble_eq_true rfl) ⟨by decide, by decide⟩ dX7_bestCell_36 (V_kI ?_)
        refine V_istore (L2 := [(6, .int (F_X7_leadOf (wr s 7 4 (1 + x1).toNatClampNeg (nI j)) x1)), (0, .ref (ad 7 0 0)), (1, .int x1), (2, .int f2), (3, .int a), (4, .int b), (5, .int (nI j))]) dX7_bestCell_39 (by decide) rfl ?_
        refine V_iload dX7_bestCell_41 6 rfl ?_
        refine V_if_eq (tgt := 53) dX7_bestCell_43 (by decide) (fun c_43 => ?_) (fun c_43 => ?_)
        · refine V_iload dX7_bestCell_53 6 rfl ?_
          refine V_istore_n (L2 := [(3, .int (nI j)), (6, .int (F_X7_leadOf (wr s 7 4 (1 + x1).toNatClampNeg (nI j)) x1)), (0, .ref (ad 7 0 0)), (1, .int x1), (2, .int f2), (4, .int b), (5, .int (nI j))]) dX7_bestCell_55 (by decide) rfl ?_
          refine V_iload dX7_bestCell_56 1 rfl ?_
          refine V_istore (L2 := [(4, .int (F_X7_leadOf (wr s 7 4 (1 + x1).toNatClampNeg (nI j)) x1)), (3, .int (nI j)), (6, .int (F_X7_leadOf (wr s 7 4 (1 + x1).toNatClampNeg (nI j)) x1)), (0, .ref (ad 7 0 0)), (1, .int x1), (2, .int f2), (5, .int (nI j))]) dX7_bestCell_58 (by decide) rfl ?_
          refine V_iinc (v := (nI (j + 1))) (L2 := [(5, .int (nI (j + 1))), (4, .int (F_X7_leadOf (wr s 7 4 (1 + x1).toNatClampNeg (nI j)) x1)), (3, .int (nI j)), (6, .int (F_X7_leadOf (wr s 7 4 (1 + x1).toNatClampNeg (nI j)) x1)), (0, .ref (ad 7 0 0)), (1, .int x1), (2, .int f2)]) dX7_bestCell_60 6 rfl (nI_1 _) (by decide) rfl ?_
          refine V_goto (tgt := 17) dX7_bestCell_63 (by decide) ?_
          refine V_rp (R2 := F_X7_bestCell_17 x1 f2 K n (nI j) (F_X7_leadOf (wr s 7 4 (1 + x1).toNatClampNeg (nI j)) x1) (j + 1) (wr s 7 4 (1 + x1).toNatClampNeg (nI j))) (by simp only [F_X7_bestCell_17, if_neg c_21, if_pos c_43]) ?_
          refine V_lp [4, 5, 6, 2, 1, 0] rfl ?_
          exact ih (nI j) (F_X7_leadOf (wr s 7 4 (1 + x1).toNatClampNeg (nI j)) x1) (j + 1) (wr s 7 4 (1 + x1).toNatClampNeg (nI j)) (by exact (lp_up hj c_21 hm).1) (by exact okB_1 hv hB) (by exact (lp_up hj c_21 hm).2) 
        · refine V_iload dX7_bestCell_46 0 rfl ?_
          refine V_iload dX7_bestCell_48 5 rfl ?_
          refine V_ic_le (tgt := 60) dX7_bestCell_50 (by decide) (fun c_50 => ?_) (fun c_50 => ?_)
          · refine V_iinc (v := (nI (j + 1))) (L2 := [(5, .int (nI (j + 1))), (6, .int (F_X7_leadOf (wr s 7 4 (1 + x1).toNatClampNeg (nI j)) x1)), (0, .ref (ad 7 0 0)), (1, .int x1), (2, .int f2), (3, .int a), (4, .int b)]) dX7_bestCell_60 6 rfl (nI_1 _) (by decide) rfl ?_
            refine V_goto (tgt := 17) dX7_bestCell_63 (by decide) ?_
            refine V_rp (R2 := F_X7_bestCell_17 x1 f2 K n a b (j + 1) (wr s 7 4 (1 + x1).toNatClampNeg (nI j))) (by simp only [F_X7_bestCell_17, if_neg c_21, if_neg c_43, if_pos c_50]) ?_
            refine V_lp [2, 3, 4, 5, 6, 0] rfl ?_
            exact ih a b (j + 1) (wr s 7 4 (1 + x1).toNatClampNeg (nI j)) (by exact (lp_up hj c_21 hm).1) (by exact okB_1 hv hB) (by exact (lp_up hj c_21 hm).2) 
          · refine V_iload dX7_bestCell_53 6 rfl ?_
            refine V_istore_n (L2 := [(3, .int (nI j)), (6, .int (F_X7_leadOf (wr s 7 4 (1 + x1).toNatClampNeg (nI j)) x1)), (0, .ref (ad 7 0 0)), (1, .int x1), (2, .int f2), (4, .int b), (5, .int (nI j))]) dX7_bestCell_55 (by decide) rfl ?_
            refine V_iload dX7_bestCell_56 1 rfl ?_
            refine V_istore (L2 := [(4, .int (F_X7_leadOf (wr s 7 4 (1 + x1).toNatClampNeg (nI j)) x1)), (3, .int (nI j)), (6, .int (F_X7_leadOf (wr s 7 4 (1 + x1).toNatClampNeg (nI j)) x1)), (0, .ref (ad 7 0 0)), (1, .int x1), (2, .int f2), (5, .int (nI j))]) dX7_bestCell_58 (by decide) rfl ?_
            refine V_iinc (v := (nI (j + 1))) (L2 := [(5, .int (nI (j + 1))), (4, .int (F_X7_leadOf (wr s 7 4 (1 + x1).toNatClampNeg (nI j)) x1)), (3, .int (nI j)), (6, .int (F_X7_leadOf (wr s 7 4 (1 + x1).toNatClampNeg (nI j)) x1)), (0, .ref (ad 7 0 0)), (1, .int x1), (2, .int f2)]) dX7_bestCell_60 6 rfl (nI_1 _) (by decide) rfl ?_
            refine V_goto (tgt := 17) dX7_bestCell_63 (by decide) ?_
            refine V_rp (R2 := F_X7_bestCell_17 x1 f2 K n (nI j) (F_X7_leadOf (wr s 7 4 (1 + x1).toNatClampNeg (nI j)) x1) (j + 1) (wr s 7 4 (1 + x1).toNatClampNeg (nI j))) (by simp only [F_X7_bestCell_17, if_neg c_21, if_neg c_43, if_neg c_50]) ?_
            refine V_lp [4, 5, 6, 2, 1, 0] rfl ?_
            exact ih (nI j) (F_X7_leadOf (wr s 7 4 (1 + x1).toNatClampNeg (nI j)) x1) (j + 1) (wr s 7 4 (1 + x1).toNatClampNeg (nI j)) (by exact (lp_up hj c_21 hm).1) (by exact okB_1 hv hB) (by exact (lp_up hj c_21 hm).2) 
set_option maxRecDepth 100000 in
set_option maxHeartbeats 4000000 in
theorem k_X7_bestCell (l : Launch) (G : mm_G) {pr : Nat → Nat → Prop} {ad : Nat → Nat → Nat → Nat} (hw : mm_W pr) (g : mm_g) (x1 : Int32) (hB : okB g) (hv : vp_in x1 2)  : Mt l G yX7_bestCell cX7_bestCell 7 (some .int) (rmk 7 195) [.ref (ad 7 0 0), .int x1] pr ad g (qM pr ad (F_X7_bestCell g x1)) 0 0 := by
  refine Mt_of (by decide) (Nat.le_of_ble_eq_true rfl) ?_
  show V l G RX7 cX7_bestCell 7 (some .int) _ _ 0 0 0 0 0 [(0, .ref (ad 7 0 0)), (1, .int x1)] [] pr ad g
  refine V_aload_n dX7_bestCell_0 0 rfl ?_
  refine V_get (i := 5) inlX7 rfl (W_7 hw) rfl (by decide) q_94 rfl dX7_bestCell_1 ?_
  refine V_iconst (v := 1) dX7_bestCell_4 (by decide) ?_
  refine V_iload_n dX7_bestCell_5 1 rfl ?_
  refine V_iadd dX7_bestCell_6 ?_
  refine L_7_4 (W_7 hw) (by exact ix_1 hv) dX7_bestCell_7 ?_
  refine V_istore_n (L2 := [(2, .int (g 7 4 (1 + x1).toNatClampNeg)), (0, .ref (ad 7 0 0)), (1, .int x1)]) dX7_bestCell_8 (by decide) rfl ?_
  refine V_iconst (v := 0) dX7_bestCell_9 (by decide) ?_
  refine V_istore_n (L2 := [(3, .int 0), (2, .int (g 7 4 (1 + x1).toNatClampNeg)), (0, .ref (ad 7 0 0)), (1, .int x1)]) dX7_bestCell_10 (by decide) rfl ?_
  refine V_iconst (v := 0) dX7_bestCell_11 (by decide) ?_
  refine V_istore (L2 := [(4, .int 0), (3, .int 0), (2, .int (g 7 4 (1 + x1).toNatClampNeg)), (0, .ref (ad 7 0 0)), (1, .int x1)]) dX7_bestCell_12 (by decide) rfl ?_
  refine V_iconst (v := 0) dX7_bestCell_14 (by decide) ?_
  refine V_istore (L2 := [(5, .int 0), (4, .int 0), (3, .int 0), (2, .int (g 7 4 (1 + x1).toNatClampNeg)), (0, .ref (ad 7 0 0)), (1, .int x1)]) dX7_bestCell_15 (by decide) rfl ?_
  refine V_rp (R2 := F_X7_bestCell_17 x1 (g 7 4 (1 + x1).toNatClampNeg) (fun (a17 : Int32) (b17 : Int32) (j17 : Nat) (s17 : mm_g) => (a17, (wr s17 7 4 (1 + x1).toNatClampNeg (g 7 4 (1 + x1).toNatClampNeg)))) ((9 : Int32).toInt.toNat + 1) 0 0 0 g) (by simp only [F_X7_bestCell]) ?_
  refine V_lp [4, 5, 3, 2, 1, 0] rfl ?_
  refine w_X7_bestCell_17 l G hw x1 (g 7 4 (1 + x1).toNatClampNeg)  (by exact hv) _ (fun a17 b17 j17 s17 hj17 hB17 => ?_) ((9 : Int32).toInt.toNat + 1) 0 0 0 g (by first | exact Nat.zero_le _ | decide) (by exact hB) (by omega)
  refine V_aload_n dX7_bestCell_66 0 rfl ?_
  refine V_get (i := 5) inlX7 rfl (W_7 hw) rfl (by decide) q_94 rfl dX7_bestCell_67 ?_
  refine V_iconst (v := 1) dX7_bestCell_70 (by decide) ?_
  refine V_iload_n dX7_bestCell_71 1 rfl ?_
  refine V_iadd dX7_bestCell_72 ?_
  refine V_iload_n dX7_bestCell_73 2 rfl ?_
  refine S_7_4 (W_7 hw) (by exact ix_1 hv) dX7_bestCell_74 ?_
  refine V_iload_n dX7_bestCell_75 3 rfl ?_
  exact V_iret dX7_bestCell_76 rfl (lfM (by rfl))
def F_X7_leadFrom (g : mm_g) (x1 : Int32) (x2 : Int32) : Int32 × mm_g := ((F_X7_leadOf (wr g 7 4 (1 + x1).toNatClampNeg x2) x1), (wr (wr g 7 4 (1 + x1).toNatClampNeg x2) 7 4 (1 + x1).toNatClampNeg (g 7 4 (1 + x1).toNatClampNeg)))
set_option maxRecDepth 100000 in
set_option maxHeartbeats 4000000 in
theorem k_X7_leadFrom (l : Launch) (G : mm_G) {pr : Nat → Nat → Prop} {ad : Nat → Nat → Nat → Nat} (hw : mm_W pr) (g : mm_g) (x1 : Int32) (x2 : Int32) (hB : okB g) (hv : vp_in x1 2)  : Mt l G yX7_leadFrom cX7_leadFrom 5 (some .int) (rmk 7 195) [.ref (ad 7 0 0), .int x1, .int x2] pr ad g (qM pr ad (F_X7_leadFrom g x1 x2)) 0 0 := by
  refine Mt_of (by decide) (Nat.le_of_ble_eq_true rfl) ?_
  show V l G RX7 cX7_leadFrom 5 (some .int) _ _ 0 0 0 0 0 [(0, .ref (ad 7 0 0)), (1, .int x1), (2, .int x2)] [] pr ad g
  refine V_aload_n dX7_leadFrom_0 0 rfl ?_
  refine V_get (i := 5) inlX7 rfl (W_7 hw) rfl (by decide) q_94 rfl dX7_leadFrom_1 ?_
  refine V_iconst (v := 1) dX7_leadFrom_4 (by decide) ?_
  refine V_iload_n dX7_leadFrom_5 1 rfl ?_
  refine V_iadd dX7_leadFrom_6 ?_
  refine L_7_4 (W_7 hw) (by exact ix_1 hv) dX7_leadFrom_7 ?_
  refine V_istore_n (L2 := [(3, .int (g 7 4 (1 + x1).toNatClampNeg)), (0, .ref (ad 7 0 0)), (1, .int x1), (2, .int x2)]) dX7_leadFrom_8 (by decide) rfl ?_
  refine V_aload_n dX7_leadFrom_9 1 rfl ?_
  refine V_get (i := 5) inlX7 rfl (W_7 hw) rfl (by decide) q_94 rfl dX7_leadFrom_10 ?_
  refine V_iconst (v := 1) dX7_leadFrom_13 (by decide) ?_
  refine V_iload_n dX7_leadFrom_14 2 rfl ?_
  refine V_iadd dX7_leadFrom_15 ?_
  refine V_iload_n dX7_leadFrom_16 3 rfl ?_
  refine S_7_4 (W_7 hw) (by exact ix_1 hv) dX7_leadFrom_17 ?_
  refine V_aload_n dX7_leadFrom_18 1 rfl ?_
  refine V_iload_n dX7_leadFrom_19 2 rfl ?_
  refine V_cV (k_X7_leadOf l G hw (wr g 7 4 (1 + x1).toNatClampNeg x2)  x1 (okB_1 hv hB) hv) hy_X7_leadOf hi_X7_leadOf hs_X7_leadOf q_675 rfl rfl (W_7 hw) rfl rfl rfl rfl rfl ⟨by decide, by decide⟩ (Nat.le_of_ble_eq_true rfl) ⟨by decide, by decide⟩ dX7_leadFrom_20 (V_kI ?_)
  refine V_istore (L2 := [(4, .int (F_X7_leadOf (wr g 7 4 (1 + x1).toNatClampNeg x2) x1)), (3, .int (g 7 4 (1 + x1).toNatClampNeg)), (0, .ref (ad 7 0 0)), (1, .int x1), (2, .int x2)]) dX7_leadFrom_23 (by decide) rfl ?_
  refine V_aload_n dX7_leadFrom_25 2 rfl ?_
  refine V_get (i := 5) inlX7 rfl (W_7 hw) rfl (by decide) q_94 rfl dX7_leadFrom_26 ?_
  refine V_iconst (v := 1) dX7_leadFrom_29 (by decide) ?_
  refine V_iload_n dX7_leadFrom_30 3 rfl ?_
  refine V_iadd dX7_leadFrom_31 ?_
  refine V_iload_n dX7_leadFrom_32 1 rfl ?_
  refine S_7_4 (W_7 hw) (by exact ix_1 hv) dX7_leadFrom_33 ?_
  refine V_iload dX7_leadFrom_34 0 rfl ?_
  exact V_iret dX7_leadFrom_36 rfl (lfM (by simp only [F_X7_leadFrom]))
def F_X7_ledBy (g : mm_g) (x1 : Int32) (x2 : Int32) (x3 : Int32) : Int32 := (if (F_X7_bringFor g x1 (((1 : Int32) <<< (x3 &&& 31)) - ((1 : Int32) <<< (x2 &&& 31)))) ≤ (F_X7_bringFor g (1 - x1) (((1 : Int32) <<< (x3 &&& 31)) - ((1 : Int32) <<< (x2 &&& 31)))) then 0 else 1)
set_option maxRecDepth 100000 in
set_option maxHeartbeats 4000000 in
theorem k_X7_ledBy (l : Launch) (G : mm_G) {pr : Nat → Nat → Prop} {ad : Nat → Nat → Nat → Nat} (hw : mm_W pr) (g : mm_g) (x1 : Int32) (x2 : Int32) (x3 : Int32) (hB : okB g)  : Mt l G yX7_ledBy cX7_ledBy 5 (some .int) (rmk 5 153) [.ref (ad 7 0 0), .int x1, .int x2, .int x3] pr ad g (qI pr ad g (F_X7_ledBy g x1 x2 x3)) 0 0 := by
  refine Mt_of (by decide) (Nat.le_of_ble_eq_true rfl) ?_
  show V l G RX7 cX7_ledBy 5 (some .int) _ _ 0 0 0 0 0 [(0, .ref (ad 7 0 0)), (1, .int x1), (2, .int x2), (3, .int x3)] [] pr ad g
  refine V_iconst (v := 1) dX7_ledBy_0 (by decide) ?_
  refine V_iload_n dX7_ledBy_1 3 rfl ?_
  refine V_ishl dX7_ledBy_2 ?_
  refine V_iconst (v := 1) dX7_ledBy_3 (by decide) ?_
  refine V_iload_n dX7_ledBy_4 2 rfl ?_
  refine V_ishl dX7_ledBy_5 ?_
  refine V_isub dX7_ledBy_6 ?_
  refine V_istore (L2 := [(4, .int (((1 : Int32) <<< (x3 &&& 31)) - ((1 : Int32) <<< (x2 &&& 31)))), (0, .ref (ad 7 0 0)), (1, .int x1), (2, .int x2), (3, .int x3)]) dX7_ledBy_7 (by decide) rfl ?_
  refine V_aload_n dX7_ledBy_9 1 rfl ?_
  refine V_iload_n dX7_ledBy_10 2 rfl ?_
  refine V_iload dX7_ledBy_11 0 rfl ?_
  refine V_cV (k_X7_bringFor l G hw g  x1 (((1 : Int32) <<< (x3 &&& 31)) - ((1 : Int32) <<< (x2 &&& 31))) hB) hy_X7_bringFor hi_X7_bringFor hs_X7_bringFor q_619 rfl rfl (W_7 hw) rfl rfl rfl rfl rfl ⟨by decide, by decide⟩ (Nat.le_of_ble_eq_true rfl) ⟨by decide, by decide⟩ dX7_ledBy_13 (V_kI ?_)
  refine V_aload_n dX7_ledBy_16 1 rfl ?_
  refine V_iconst (v := 1) dX7_ledBy_17 (by decide) ?_
  refine V_iload_n dX7_ledBy_18 2 rfl ?_
  refine V_isub dX7_ledBy_19 ?_
  refine V_iload dX7_ledBy_20 0 rfl ?_
  refine V_cV (k_X7_bringFor l G hw g  (1 - x1) (((1 : Int32) <<< (x3 &&& 31)) - ((1 : Int32) <<< (x2 &&& 31))) hB) hy_X7_bringFor hi_X7_bringFor hs_X7_bringFor q_619 rfl rfl (W_7 hw) rfl rfl rfl rfl rfl ⟨by decide, by decide⟩ (Nat.le_of_ble_eq_true rfl) ⟨by decide, by decide⟩ dX7_ledBy_22 (V_kI ?_)
  refine V_ic_le (tgt := 32) dX7_ledBy_25 (by decide) (fun c_25 => ?_) (fun c_25 => ?_)
  · refine V_iconst (v := 0) dX7_ledBy_32 (by decide) ?_
    exact V_iret dX7_ledBy_33 rfl (lfI (by simp only [F_X7_ledBy, if_pos c_25]))
  · refine V_iconst (v := 1) dX7_ledBy_28 (by decide) ?_
    refine V_goto (tgt := 33) dX7_ledBy_29 (by decide) ?_
    exact V_iret dX7_ledBy_33 rfl (lfI (by simp only [F_X7_ledBy, if_neg c_25]))
def F_X7_lacks (g : mm_g) (x1 : Int32) (x2 : Int32) (x3 : Int32) : Int32 × mm_g := (if 0 ≤ (g 7 2 x1.toNatClampNeg) then (if (F_X7_in (x2.toInt64) 0 (((g 7 2 x1.toNatClampNeg) - x3).toInt64)) = 0 then ((F_X7_find g 2).1, (F_X7_find g 2).2) else (0, g)) else ((F_X7_find g 1).1, (F_X7_find g 1).2))
set_option maxRecDepth 100000 in
set_option maxHeartbeats 4000000 in
theorem k_X7_lacks (l : Launch) (G : mm_G) {pr : Nat → Nat → Prop} {ad : Nat → Nat → Nat → Nat} (hw : mm_W pr) (g : mm_g) (x1 : Int32) (x2 : Int32) (x3 : Int32) (hv : vp_in x1 8)  : Mt l G yX7_lacks cX7_lacks 4 (some .int) (rmk 2 85) [.ref (ad 7 0 0), .int x1, .int x2, .int x3] pr ad g (qM pr ad (F_X7_lacks g x1 x2 x3)) 0 0 := by
  refine Mt_of (by decide) (Nat.le_of_ble_eq_true rfl) ?_
  show V l G RX7 cX7_lacks 4 (some .int) _ _ 0 0 0 0 0 [(0, .ref (ad 7 0 0)), (1, .int x1), (2, .int x2), (3, .int x3)] [] pr ad g
  refine V_aload_n dX7_lacks_0 0 rfl ?_
  refine V_get (i := 1) inlX7 rfl (W_7 hw) rfl (by decide) q_92 rfl dX7_lacks_1 ?_
  refine V_iload_n dX7_lacks_4 1 rfl ?_
  refine L_7_2 (W_7 hw) (by exact hv) dX7_lacks_5 ?_
  refine V_if_ge (tgt := 15) dX7_lacks_6 (by decide) (fun c_6 => ?_) (fun c_6 => ?_)
  · refine V_iload_n dX7_lacks_15 2 rfl ?_
    refine V_i2l dX7_lacks_16 ?_
    refine V_lconst (v := 0) dX7_lacks_17 (by decide) ?_
    refine V_aload_n dX7_lacks_18 0 rfl ?_
    refine V_get (i := 1) inlX7 rfl (W_7 hw) rfl (by decide) q_92 rfl dX7_lacks_19 ?_
    refine V_iload_n dX7_lacks_22 1 rfl ?_
    refine L_7_2 (W_7 hw) (by exact hv) dX7_lacks_23 ?_
    refine V_iload_n dX7_lacks_24 3 rfl ?_
    refine V_isub dX7_lacks_25 ?_
    refine V_i2l dX7_lacks_26 ?_
    refine V_cS (k_X7_in l G hw g  (x2.toInt64) 0 (((g 7 2 x1.toNatClampNeg) - x3).toInt64) ) hy_X7_in hz_X7_in q_135 rfl rfl rfl rfl ⟨by decide, by decide⟩ (Nat.le_of_ble_eq_true rfl) ⟨by decide, by decide⟩ dX7_lacks_27 (V_kI ?_)
    refine V_if_eq (tgt := 37) dX7_lacks_30 (by decide) (fun c_30 => ?_) (fun c_30 => ?_)
    · refine V_aload_n dX7_lacks_37 0 rfl ?_
      refine V_iconst (v := 2) dX7_lacks_38 (by decide) ?_
      refine V_cV (k_X7_find l G hw g  2 ) hy_X7_find hi_X7_find hs_X7_find q_138 rfl rfl (W_7 hw) rfl rfl rfl rfl rfl ⟨by decide, by decide⟩ (Nat.le_of_ble_eq_true rfl) ⟨by decide, by decide⟩ dX7_lacks_39 (V_kM ?_)
      exact V_iret dX7_lacks_42 rfl (lfM (by simp only [F_X7_lacks, if_pos c_6, if_pos c_30]))
    · refine V_iconst (v := 0) dX7_lacks_33 (by decide) ?_
      refine V_goto (tgt := 42) dX7_lacks_34 (by decide) ?_
      exact V_iret dX7_lacks_42 rfl (lfM (by simp only [F_X7_lacks, if_pos c_6, if_neg c_30]))
  · refine V_aload_n dX7_lacks_9 0 rfl ?_
    refine V_iconst (v := 1) dX7_lacks_10 (by decide) ?_
    refine V_cV (k_X7_find l G hw g  1 ) hy_X7_find hi_X7_find hs_X7_find q_138 rfl rfl (W_7 hw) rfl rfl rfl rfl rfl ⟨by decide, by decide⟩ (Nat.le_of_ble_eq_true rfl) ⟨by decide, by decide⟩ dX7_lacks_11 (V_kM ?_)
    exact V_iret dX7_lacks_14 rfl (lfM (by simp only [F_X7_lacks, if_neg c_6]))
