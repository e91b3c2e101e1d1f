theorem b_shl (n : Nat) (hn : n < 32) (x : Int32) {i : Nat} (hi : i < 32) : bt (x <<< (nI n &&& 31)) i = (decide (n ≤ i) && bt x (i - n)) := by
  unfold bt
  rw [Int32.toBitVec_shiftLeft]
  show (x.toBitVec <<< ((nI n &&& 31).toBitVec.smod 32).toNat).getLsbD i = _
  rw [s_l n hn, BitVec.getLsbD_shiftLeft]
  rcases Nat.lt_or_ge i n with h | h
  · simp [h, Nat.not_le.mpr h]
  · simp [hi, h, Nat.not_lt.mpr h]
theorem bt_8 (v : Int32) {i : Nat} (hi : i < 32) : bt v.toInt8.toInt32 i = if i < 8 then bt v i else bt v 7 := by
  unfold bt
  rw [Int8.toBitVec_toInt32, Int32.toBitVec_toInt8, BitVec.getLsbD_signExtend, BitVec.msb_eq_getLsbD_last, BitVec.getLsbD_signExtend, BitVec.getLsbD_signExtend]
  by_cases h : i < 8
  · simp [h, hi]
  · simp [h, hi]
theorem bt_16 (v : Int32) {i : Nat} (hi : i < 32) : bt v.toInt16.toInt32 i = if i < 16 then bt v i else bt v 15 := by
  unfold bt
  rw [Int16.toBitVec_toInt32, Int32.toBitVec_toInt16, BitVec.getLsbD_signExtend, BitVec.msb_eq_getLsbD_last, BitVec.getLsbD_signExtend, BitVec.getLsbD_signExtend]
  by_cases h : i < 16
  · simp [h, hi]
  · simp [h, hi]
theorem lane_8 (v : Int32) : (v <<< ((24 : Int32) &&& 31)) >>> ((24 : Int32) &&& 31) = v.toInt8.toInt32 := b_ext (fun i hi => by
  rw [bt_8 v hi]
  show bt ((v <<< (nI 24 &&& 31)) >>> (nI 24 &&& 31)) i = _
  rw [b_sshr 24 (by decide) _ hi]
  by_cases h : i < 8
  · rw [if_pos (by omega), if_pos h, b_shl 24 (by decide) v (by omega), decide_eq_true (by omega), Bool.true_and, Nat.add_sub_cancel_left]
  · rw [if_neg (by omega), if_neg h, b_shl 24 (by decide) v (by decide)]
    rfl)
theorem lane_16 (v : Int32) : (v <<< ((16 : Int32) &&& 31)) >>> ((16 : Int32) &&& 31) = v.toInt16.toInt32 := b_ext (fun i hi => by
  rw [bt_16 v hi]
  show bt ((v <<< (nI 16 &&& 31)) >>> (nI 16 &&& 31)) i = _
  rw [b_sshr 16 (by decide) _ hi]
  by_cases h : i < 16
  · rw [if_pos (by omega), if_pos h, b_shl 16 (by decide) v (by omega), decide_eq_true (by omega), Bool.true_and, Nat.add_sub_cancel_left]
  · rw [if_neg (by omega), if_neg h, b_shl 16 (by decide) v (by decide)]
    rfl)
theorem lane_F {l v : Int32} : F_X7_asLane l v = F_X4_inLane l v := by
  unfold F_X7_asLane F_X4_inLane
  rw [lane_8, lane_16]
/-! a row, missing or not; a stretch of it -/
theorem w7_nI : ∀ r, r < 8 → ¬ F_X6_within (nI r) 0 7 = 0 := by decide +kernel
theorem miss_F {g : mm_g} {r : Nat} (h : RRow g) (hr : r < 8) : F_X4_isMissing g (nI r) = 0 ↔ 0 ≤ g 7 2 r := by
  have h1 := h r hr
  have e0 : (0 : Int32).toInt = 0 := rfl
  unfold F_X4_isMissing
  rw [if_neg (w7_nI r hr), c0 (by omega), ← h1.1, toI_le]
  by_cases z : g 4 3 r = -1
  · rw [if_pos z, z]; decide
  · have z2 := mm_ne z (n := -1) rfl
    rw [if_neg z]
    exact ⟨fun _ => by omega, fun _ => rfl⟩
theorem holds_F {g : mm_g} {r : Nat} {i n : Int32} (h : RRow g) (hr : r < 8) (hm : 0 ≤ g 7 2 r) : ¬ F_X4_holds g (nI r) i n = 0 ↔ 0 ≤ i.toInt ∧ 0 ≤ n.toInt ∧ i.toInt + n.toInt ≤ (g 7 2 r).toInt := by
  have h1 := h r hr
  have e0 : (0 : Int32).toInt = 0 := rfl
  constructor
  · intro q
    have h2 := F_X4_holds_1 q
    rw [c0 (by omega), h1.1] at h2
    exact h2.2
  · rintro ⟨a, b, c⟩
    unfold F_X4_holds
    rw [if_pos ((miss_F h hr).mpr hm), if_neg (by rw [toI_lt]; omega), if_neg (by rw [toI_lt]; omega), if_neg]
    · decide
    · rw [lg_cmp_gt, Int64.lt_iff_toInt_lt, l_sum2, Int32.toInt_toInt64, c0 (by omega), h1.1]
      omega
theorem ref_in {i z n : Int32} (hz : 0 ≤ z.toInt ∧ z.toInt ≤ 40) (hn : 0 ≤ n.toInt) : ¬ F_X7_in i.toInt64 0 (z.toInt64 - n.toInt64) = 0 ↔ 0 ≤ i.toInt ∧ i.toInt + n.toInt ≤ z.toInt := by
  have e0 : (0 : Int64).toInt = 0 := rfl
  have b1 := Int32.toInt_lt n
  have hs : (z.toInt64 - n.toInt64).toInt = z.toInt - n.toInt := by
    rw [Int64.toInt_sub, Int32.toInt_toInt64, Int32.toInt_toInt64, Int.bmod_eq_of_le_mul_two (by omega) (by omega)]
  unfold F_X7_in
  simp only [lg_cmp_lt, lg_cmp_gt, Int64.lt_iff_toInt_lt, hs, Int32.toInt_toInt64, e0]
  by_cases q1 : i.toInt < 0
  · rw [if_pos q1]
    exact ⟨fun q => absurd rfl q, fun q => by omega⟩
  · rw [if_neg q1]
    by_cases q2 : z.toInt - n.toInt < i.toInt
    · rw [if_pos q2]
      exact ⟨fun q => absurd rfl q, fun q => by omega⟩
    · rw [if_neg q2]
      exact ⟨fun _ => by omega, fun _ => by decide⟩
theorem Rel.row {n : Nat} {g : mm_g} (hr : Rel n g) : RRow g := hr.1.1
theorem wr_67 {g : mm_g} {k i k2 j2 : Nat} {x : Int32} : wr g 6 k i x 7 k2 j2 = g 7 k2 j2 := by rw [wr67]
theorem Fr_4 {g : mm_g} {k : Nat} {f : Fl} : Fr g (mw g 4 k f) := ⟨fun k2 => mw_n _ _ (fun z => absurd z.1 (by decide)), mw_n _ _ (by omega), mw_n _ _ (by omega)⟩
theorem Fr_t {g g2 g3 : mm_g} (h : Fr g g2) (h2 : Fr g2 g3) : Fr g g3 := ⟨fun k => (h2.1 k).trans (h.1 k), h2.2.1.trans h.2.1, h2.2.2.trans h.2.2⟩
theorem Fr_w4 {g : mm_g} {k i : Nat} {x : Int32} : Fr g (wr g 4 k i x) := Fr_4
theorem m1_b {x : Int32} (h : x = -1) : -1 ≤ x.toInt ∧ x.toInt ≤ 40 := by
  subst h
  decide
/-! drop -/
theorem e_drop {n : Nat} {g : mm_g} {x1 : Int32} (hr : Rel n g) : Ok n g (F_X6_drop g x1) (fun s => F_X7_drop s x1) ∧ Fr g (F_X6_drop g x1).2 := by
  by_cases q1 : F_X6_within x1 0 7 = 0
  · refine Ok_b hr (a := -1000001) ?_ ?_
    · unfold F_X6_drop; rw [if_pos q1]
    · show F_X7_drop g x1 = _
      unfold F_X7_drop; rw [isRow_within, if_pos q1]
  · obtain ⟨r, h8, e⟩ := within_nI (n := 7) (by decide) q1
    subst e
    have hR := hr.row
    have hm := miss_F hR (show r < 8 by omega)
    have h1 := hR r (by omega)
    by_cases q2 : 0 ≤ g 7 2 r
    · refine Ok_v (g1 := wr g 4 3 r (-1)) (u := 0) (a := g 4 3 r) (s := wr (wr (wr g 4 3 r (-1)) 6 0 1 0) 7 2 r (-1)) ?_ ?_ Fr_w4 ?_ ?_
      · unfold F_X6_drop F_X4_lose; rw [if_neg q1, if_pos (hm.mpr q2), if_pos (hm.mpr q2), c0 (by omega)]; rfl
      · show F_X7_drop (wr (wr g 4 3 r (-1)) 6 0 1 0) (nI r) = _
        unfold F_X7_drop
        rw [isRow_within, if_neg q1, c0 (by omega), wr_67, wr_nk (t := 4) (t' := 7) (fun z => absurd z.1 (by decide)), if_pos q2, h1.1]
        rfl
      · intro t k h
        rw [wr_nk (fun z => h z.1)]
      · obtain ⟨a1, a2, a3, a4, a5, a6, a7⟩ := hr.1
        refine ⟨fun r2 hr2 => ?_, a2.q (fun t k j u => by unfold uTape at u; simp only [wr_at, mw_at]; repeat rw [if_neg (by omega)]), a3.q (fun t k j u => by unfold uMsg at u; simp only [wr_at, mw_at]; repeat rw [if_neg (by omega)]), a4.q (fun t k j u => by unfold uNow at u; simp only [wr_at, mw_at]; repeat rw [if_neg (by omega)]), a5.q (fun t k j u => by unfold uActs at u; simp only [wr_at, mw_at]; repeat rw [if_neg (by omega)]), a6.q (fun t k j u => by unfold uImg at u; simp only [wr_at, mw_at]; repeat rw [if_neg (by omega)]), a7.q (fun t k j u => by unfold uTr at u; simp only [wr_at, mw_at]; repeat rw [if_neg (by omega)])⟩
        have h2 := hR r2 hr2
        by_cases z : r2 = r
        · subst z
          refine ⟨by simp [wr_at], m1_b (by simp [wr_at]), fun z => absurd ?_ z⟩
          simp [wr_at]
        · simpa [wr_at, z] using h2
    · refine Ok_e (u := 1) hr ?_ ?_
      · unfold F_X6_drop; rw [if_neg q1, if_neg (fun z => q2 (hm.mp z))]
      · show F_X7_drop (wr g 6 0 1 1) (nI r) = _
        unfold F_X7_drop; rw [isRow_within, if_neg q1, c0 (by omega), wr_67, if_neg q2]
/-! row -/
theorem make_F {g : mm_g} {r m : Nat} {x2 : Int32} (hr : r < 8) (hm : m ≤ 40) : F_X4_make g (nI r) x2 (nI m) = mw (wr (wr g 4 2 r x2) 4 3 r (nI m)) 4 1 (fun i => if 40 * r + 0 ≤ i ∧ i < 40 * r + m then 0 else (wr (wr g 4 2 r x2) 4 3 r (nI m)) 4 1 i) := by
  unfold F_X4_make
  have hw : ¬ F_X6_within (nI m) 0 40 = 0 := within_iff.mpr (by
    rw [nI_toInt (by omega)]
    have e0 : (0 : Int32).toInt = 0 := rfl
    have e40 : (40 : Int32).toInt = 40 := rfl
    omega)
  rw [if_neg (w7_nI r hr), if_neg hw, c0 (by omega), L_make (by omega) (by omega) _ 0 _ (by omega) (by rw [nI_n (by omega)]; omega)]
theorem row7_F {g : mm_g} {r m : Nat} {x2 : Int32} (hr : r < 8) (hm : m ≤ 40) (h2 : ¬ F_X6_within x2 0 2 = 0) : F_X7_row g (nI r) x2 (nI m) = (nI m, wr (mw (wr (wr g 7 1 r x2) 7 2 r (nI m)) 7 3 (fun i => if 40 * r + 0 ≤ i ∧ i < 40 * r + 40 then 0 else (wr (wr g 7 1 r x2) 7 2 r (nI m)) 7 3 i)) 7 0 0 0) := by
  unfold F_X7_row
  rw [isRow_within, if_neg (w7_nI r hr), in_w (a := 0) (b := 2) (A := 0) (B := 2) rfl rfl, if_neg h2, if_pos (show nI m ≤ (40 : Int32) from nI_le (a := m) (b := 40) hm (by decide)), if_pos (nI_pos' (by omega)), c0 (by omega), L_row (by omega) _ 0 _ (by decide) (by decide)]
  rfl
theorem e_row {n : Nat} {g : mm_g} {x1 x2 x3 : Int32} (hr : Rel n g) : Ok n g (F_X6_row g x1 x2 x3) (fun s => F_X7_row s x1 x2 x3) ∧ Fr g (F_X6_row g x1 x2 x3).2 := by
  by_cases q1 : F_X6_within x1 0 7 = 0
  · refine Ok_b hr (a := -1000001) ?_ ?_
    · unfold F_X6_row; rw [if_pos q1]
    · show F_X7_row g x1 x2 x3 = _
      unfold F_X7_row; rw [isRow_within, if_pos q1]
  · by_cases q2 : F_X6_within x2 0 2 = 0
    · refine Ok_b hr (a := -1000001) ?_ ?_
      · unfold F_X6_row; rw [if_neg q1, if_pos q2]
      · show F_X7_row g x1 x2 x3 = _
        unfold F_X7_row; rw [isRow_within, if_neg q1, in_w (a := 0) (b := 2) (A := 0) (B := 2) rfl rfl, if_pos q2]
    · by_cases q3 : x3 ≤ 40
      · by_cases q4 : 0 ≤ x3
        · obtain ⟨r, h8, e⟩ := within_nI (n := 7) (by decide) q1
          subst e
          obtain ⟨m, hm, e⟩ := nI_ofT (x := x3) (m := 40) (by
            rw [toI_le] at q3 q4
            have e0 : (0 : Int32).toInt = 0 := rfl
            have e40 : (40 : Int32).toInt = 40 := rfl
            omega)
          subst e
          have hR := hr.row
          refine Ok_v (g1 := F_X4_make g (nI r) x2 (nI m)) (u := 0) (a := nI m) ?_ (row7_F (by omega) hm q2) ?_ ?_ ?_
          · unfold F_X6_row; rw [if_neg q1, if_neg q2, if_pos q3, if_pos q4]; rfl
          · rw [make_F (by omega) hm]
            exact Fr_t Fr_w4 (Fr_t Fr_w4 Fr_4)
          · intro t k h
            rw [mw_n _ _ (fun z => h z.1), wr_nk (fun z => h z.1), wr_nk (fun z => h z.1)]
          · rw [make_F (by omega) hm]
            obtain ⟨a1, a2, a3, a4, a5, a6, a7⟩ := hr.1
            refine ⟨fun r2 hr2 => ?_, a2.q (fun t k j u => by unfold uTape at u; simp only [wr_at, mw_at]; repeat rw [if_neg (by omega)]), a3.q (fun t k j u => by unfold uMsg at u; simp only [wr_at, mw_at]; repeat rw [if_neg (by omega)]), a4.q (fun t k j u => by unfold uNow at u; simp only [wr_at, mw_at]; repeat rw [if_neg (by omega)]), a5.q (fun t k j u => by unfold uActs at u; simp only [wr_at, mw_at]; repeat rw [if_neg (by omega)]), a6.q (fun t k j u => by unfold uImg at u; simp only [wr_at, mw_at]; repeat rw [if_neg (by omega)]), a7.q (fun t k j u => by unfold uTr at u; simp only [wr_at, mw_at]; repeat rw [if_neg (by omega)])⟩
            have h2 := hR r2 hr2
            have hT := nI_toInt (n := m) (by omega)
            by_cases z : r2 = r
            · subst z
              refine ⟨by simp [wr_at, mw_at], by simp only [wr_at, mw_at]; simp; omega, fun _ => ⟨by simp [wr_at, mw_at], fun i hi => ?_⟩⟩
              have hi2 : i < m := by
                have h3 : (i : Int) < (nI m).toInt := by simpa [wr_at, mw_at] using hi
                omega
              simp only [wr_at, mw_at]
              simp
              rw [if_pos (by omega), if_pos (by omega)]
            · refine ⟨by simpa [wr_at, mw_at, z] using h2.1, by simpa [wr_at, mw_at, z] using h2.2.1, fun hq => ?_⟩
              have h3 := h2.2.2 (by simpa [wr_at, mw_at, z] using hq)
              refine ⟨by simpa [wr_at, mw_at, z] using h3.1, fun i hi => ?_⟩
              have hi2 : (i : Int) < (g 4 3 r2).toInt := by simpa [wr_at, mw_at, z] using hi
              have hi3 : i < 40 := by have := h2.2.1.2; omega
              simp only [wr_at, mw_at]
              simp
              rw [if_neg (by omega), if_neg (by omega)]
              exact h3.2 i hi2
        · refine Ok_e (u := 4) hr ?_ ?_
          · unfold F_X6_row; rw [if_neg q1, if_neg q2, if_pos q3, if_neg q4]
          · show F_X7_row (wr g 6 0 1 4) x1 x2 x3 = _
            unfold F_X7_row; rw [isRow_within, if_neg q1, in_w (a := 0) (b := 2) (A := 0) (B := 2) rfl rfl, if_neg q2, if_pos q3, if_neg q4]
      · refine Ok_b hr (a := -1000001) ?_ ?_
        · unfold F_X6_row; rw [if_neg q1, if_neg q2, if_neg q3]
        · show F_X7_row g x1 x2 x3 = _
          unfold F_X7_row; rw [isRow_within, if_neg q1, in_w (a := 0) (b := 2) (A := 0) (B := 2) rfl rfl, if_neg q2, if_neg q3]
/-! set -/
theorem e_set {n : Nat} {g : mm_g} {x1 x2 x3 : Int32} (hr : Rel n g) : Ok n g (F_X6_set g x1 x2 x3) (fun s => F_X7_set s x1 x2 x3) ∧ Fr g (F_X6_set g x1 x2 x3).2 := by
  by_cases q1 : F_X6_within x1 0 7 = 0
  · refine Ok_b hr (a := -1000001) ?_ ?_
    · unfold F_X6_set; rw [if_pos q1]
    · show F_X7_set g x1 x2 x3 = _
      unfold F_X7_set; rw [isRow_within, if_pos q1]
  · obtain ⟨r, h8, e⟩ := within_nI (n := 7) (by decide) q1
    subst e
    have hR := hr.row
    have hm := miss_F hR (show r < 8 by omega)
    have h1 := hR r (by omega)
    by_cases q2 : 0 ≤ g 7 2 r
    · have e0 : (0 : Int32).toInt = 0 := rfl
      have e1 : (1 : Int32).toInt = 1 := rfl
      have hz : 0 ≤ (g 7 2 r).toInt ∧ (g 7 2 r).toInt ≤ 40 := by
        rw [toI_le] at q2
        rw [← h1.1] at q2 ⊢
        have := h1.2.1
        omega
      have hI : F_X7_in x2.toInt64 0 (g 7 2 r - 1).toInt64 = 0 ↔ F_X4_holds g (nI r) x2 1 = 0 := by
        have k1 := holds_F (i := x2) (n := 1) hR (show r < 8 by omega) q2
        have k2 : ¬ F_X7_in x2.toInt64 0 (g 7 2 r - 1).toInt64 = 0 ↔ 0 ≤ x2.toInt ∧ x2.toInt + 1 ≤ (g 7 2 r).toInt := by
          rw [in_w (a := 0) (b := g 7 2 r - 1) (A := 0) (B := (g 7 2 r - 1).toInt64) rfl rfl, within_iff, Int32.toInt_sub, e1, Int.bmod_eq_of_le_mul_two (by omega) (by omega)]
          omega
        rw [e1] at k1
        by_cases z : F_X4_holds g (nI r) x2 1 = 0
        · refine ⟨fun _ => z, fun _ => ?_⟩
          by_cases z2 : F_X7_in x2.toInt64 0 (g 7 2 r - 1).toInt64 = 0
          · exact z2
          · have h3 := k2.mp z2
            exact absurd z (k1.mpr ⟨h3.1, by omega, h3.2⟩)
        · have h3 := k1.mp z
          exact ⟨fun y => absurd y (k2.mpr ⟨h3.1, h3.2.2⟩), fun y => absurd y z⟩
      by_cases q3 : F_X4_holds g (nI r) x2 1 = 0
      · refine Ok_e (u := 2) hr ?_ ?_
        · unfold F_X6_set; rw [if_neg q1, if_pos (hm.mpr q2), if_pos q3]
        · show F_X7_set (wr g 6 0 1 2) (nI r) x2 x3 = _
          unfold F_X7_set; rw [isRow_within, if_neg q1, c0 (by omega), wr_67, if_pos q2, if_pos (hI.mpr q3)]
      · have h3 := (holds_F hR (show r < 8 by omega) q2).mp q3
        rw [e1] at h3
        obtain ⟨i, hi, e⟩ := nI_ofT (x := x2) (m := 39) (by omega)
        subst e
        rw [nI_toInt (by omega)] at h3
        have hL : g 4 2 r = g 7 1 r := (h1.2.2 (by rw [h1.1]; intro z; rw [z] at hz; exact absurd hz.1 (by decide))).1
        refine Ok_v (g1 := wr g 4 1 (40 * r + i) (F_X4_inLane (g 4 2 r) x3)) (u := 0) (a := F_X4_inLane (g 4 2 r) x3) (s := wr (wr (wr g 4 1 (40 * r + i) (F_X4_inLane (g 4 2 r) x3)) 6 0 1 0) 7 3 (40 * r + i) (F_X4_inLane (g 4 2 r) x3)) ?_ ?_ Fr_w4 ?_ ?_
        · unfold F_X6_set F_X4_put; rw [if_neg q1, if_pos (hm.mpr q2), if_neg q3, if_neg q3, c0 (b := r) (by omega), c40x (by omega) (by omega)]; rfl
        · show F_X7_set (wr (wr g 4 1 (40 * r + i) (F_X4_inLane (g 4 2 r) x3)) 6 0 1 0) (nI r) (nI i) x3 = _
          unfold F_X7_set
          rw [isRow_within, if_neg q1, c0 (b := r) (by omega), c40 (by omega) (by omega), wr_67, wr_67, wr_nk (t := 4) (t' := 7) (fun z => absurd z.1 (by decide)), wr_nk (t := 4) (t' := 7) (fun z => absurd z.1 (by decide)), if_pos q2, if_neg (fun z => q3 (hI.mp z)), lane_F, ← hL, wr_ss, if_pos rfl]
          rfl
        · intro t k h
          rw [wr_nk (fun z => h z.1)]
        · obtain ⟨a1, a2, a3, a4, a5, a6, a7⟩ := hr.1
          refine ⟨fun r2 hr2 => ?_, a2.q (fun t k j u => by unfold uTape at u; simp only [wr_at, mw_at]; repeat rw [if_neg (by omega)]), a3.q (fun t k j u => by unfold uMsg at u; simp only [wr_at, mw_at]; repeat rw [if_neg (by omega)]), a4.q (fun t k j u => by unfold uNow at u; simp only [wr_at, mw_at]; repeat rw [if_neg (by omega)]), a5.q (fun t k j u => by unfold uActs at u; simp only [wr_at, mw_at]; repeat rw [if_neg (by omega)]), a6.q (fun t k j u => by unfold uImg at u; simp only [wr_at, mw_at]; repeat rw [if_neg (by omega)]), a7.q (fun t k j u => by unfold uTr at u; simp only [wr_at, mw_at]; repeat rw [if_neg (by omega)])⟩
          have h2 := hR r2 hr2
          refine ⟨by simpa [wr_at] using h2.1, by simpa [wr_at] using h2.2.1, fun hq => ?_⟩
          have h4 := h2.2.2 (by simpa [wr_at] using hq)
          refine ⟨by simpa [wr_at] using h4.1, fun j hj => ?_⟩
          have hj2 : (j : Int) < (g 4 3 r2).toInt := by simpa [wr_at] using hj
          have h5 := h4.2 j hj2
          by_cases y : 40 * r2 + j = 40 * r + i
          · simp [wr_at, y]
          · simpa [wr_at, y] using h5
    · refine Ok_e (u := 1) hr ?_ ?_
      · unfold F_X6_set; rw [if_neg q1, if_neg (fun z => q2 (hm.mp z))]
      · show F_X7_set (wr g 6 0 1 1) (nI r) x2 x3 = _
        unfold F_X7_set; rw [isRow_within, if_neg q1, c0 (by omega), wr_67, if_neg q2]
