theorem lane_of {g : mm_g} {r : Nat} (h : RRow g) (hr : r < 8) (hm : 0 ≤ g 7 2 r) : F_X4_laneOf g (nI r) = g 7 1 r := by
  have h1 := h r hr
  unfold F_X4_laneOf
  rw [if_pos ((miss_F h hr).mpr hm), c0 (by omega)]
  exact (h1.2.2 (by rw [h1.1]; intro z; rw [z] at hm; exact absurd hm (by decide))).1
theorem size_b {g : mm_g} {r : Nat} (h : RRow g) (hr : r < 8) (hm : 0 ≤ g 7 2 r) : 0 ≤ (g 7 2 r).toInt ∧ (g 7 2 r).toInt ≤ 40 := by
  have h1 := h r hr
  have e0 : (0 : Int32).toInt = 0 := rfl
  rw [toI_le] at hm
  rw [← h1.1] at hm ⊢
  have := h1.2.1
  omega
theorem in_holds {g : mm_g} {r : Nat} {i n : Int32} (h : RRow g) (hr : r < 8) (hm : 0 ≤ g 7 2 r) (hn : 0 ≤ n.toInt) : F_X7_in i.toInt64 0 ((g 7 2 r).toInt64 - n.toInt64) = 0 ↔ F_X4_holds g (nI r) i n = 0 := by
  have k1 := holds_F (i := i) (n := n) h hr hm
  have k2 := ref_in (i := i) (n := n) (size_b h hr hm) hn
  by_cases z : F_X4_holds g (nI r) i n = 0
  · refine ⟨fun _ => z, fun _ => ?_⟩
    by_cases z2 : F_X7_in i.toInt64 0 ((g 7 2 r).toInt64 - n.toInt64) = 0
    · exact z2
    · exact absurd z (k1.mpr ⟨(k2.mp z2).1, hn, (k2.mp z2).2⟩)
  · exact ⟨fun y => absurd y (k2.mpr ⟨(k1.mp z).1, (k1.mp z).2.2⟩), fun y => absurd y z⟩
theorem hold_neg {g : mm_g} {r : Nat} {i n : Int32} (h : RRow g) (hr : r < 8) (hm : 0 ≤ g 7 2 r) (hn : n < 0) : F_X4_holds g (nI r) i n = 0 := by
  by_cases z : F_X4_holds g (nI r) i n = 0
  · exact z
  · have h1 := (holds_F h hr hm).mp z
    rw [toI_lt] at hn
    have e0 : (0 : Int32).toInt = 0 := rfl
    omega
theorem wr64 {g : mm_g} {k i k2 j2 : Nat} {x : Int32} {f : Fl} : wr (mw g 4 k f) 6 0 i x 7 k2 j2 = g 7 k2 j2 := by rw [wr67, mw_n _ _ (fun z => absurd z.1 (by decide))]
theorem copy7_F {s : mm_g} {r i r2 j m : Nat} (hr : r < 8) (hr2 : r2 < 8) (q2 : 0 ≤ s 7 2 r) (q3 : 0 ≤ s 7 2 r2) (q4 : s 7 1 r = s 7 1 r2) (h1 : ¬ F_X7_in (nI i).toInt64 0 ((s 7 2 r).toInt64 - (nI m).toInt64) = 0) (h2 : ¬ F_X7_in (nI j).toInt64 0 ((s 7 2 r2).toInt64 - (nI m).toInt64) = 0) (hi : i < 100) (hj : j < 100) (hm : m ≤ 40) : F_X7_copy s (nI r) (nI i) (nI r2) (nI j) (nI m) = (nI m, wr (mw (mw s 7 5 (fun k => if 0 ≤ k ∧ k < m then s 7 3 (40 * r + i + k) else s 7 5 k)) 7 3 (fun k => if 40 * r2 + j + 0 ≤ k ∧ k < 40 * r2 + j + m then s 7 3 (40 * r + i + (k - (40 * r2 + j))) else s 7 3 k)) 7 0 0 0) := by
  have hR : ¬ F_X7_isRow (nI r) = 0 := by rw [isRow_within]; exact w7_nI r hr
  have hR2 : ¬ F_X7_isRow (nI r2) = 0 := by rw [isRow_within]; exact w7_nI r2 hr2
  have e0 : (0 : Int32).toInt = 0 := rfl
  unfold F_X7_copy
  rw [if_neg hR, if_neg hR2, c0 (by omega), c0 (by omega), if_neg (by rw [toI_lt]; rw [toI_le] at q2; omega), if_pos q3, if_pos q4, if_neg (nI_pos (by omega)), if_neg h1, if_neg h2, L_copy1 (by omega) hi (by omega) _ 0 _ (by omega) (by rw [nI_n (by omega)]; omega), L_copy2 (by omega) hj (by omega) _ 0 _ (by omega) (by rw [nI_n (by omega)]; omega)]
  show (nI m, wr _ 7 0 0 0) = _
  refine congrArg (fun z => (nI m, wr z 7 0 0 0)) ?_
  refine congrArg (mw _ 7 3) (funext fun k => ?_)
  by_cases z : 40 * r2 + j + 0 ≤ k ∧ k < 40 * r2 + j + m
  · rw [if_pos z, if_pos z, mw_s, if_pos ⟨Nat.zero_le _, by omega⟩]
  · rw [if_neg z, if_neg z, mw_n _ _ (by decide)]
theorem e_copy {n : Nat} {g : mm_g} {x1 x2 x3 x4 x5 : Int32} (hr : Rel n g) : Ok n g (F_X6_copy g x1 x2 x3 x4 x5) (fun s => F_X7_copy s x1 x2 x3 x4 x5) ∧ Fr g (F_X6_copy g x1 x2 x3 x4 x5).2 := by
  have hR := hr.row
  by_cases q1 : F_X6_within x1 0 7 = 0
  · refine Ok_b hr (a := -1000001) ?_ ?_
    · unfold F_X6_copy; rw [if_pos q1]
    · show F_X7_copy g x1 x2 x3 x4 x5 = _
      unfold F_X7_copy; rw [isRow_within, if_pos q1]
  · by_cases q1b : F_X6_within x3 0 7 = 0
    · refine Ok_b hr (a := -1000001) ?_ ?_
      · unfold F_X6_copy; rw [if_neg q1, if_pos q1b]
      · show F_X7_copy g x1 x2 x3 x4 x5 = _
        unfold F_X7_copy; rw [isRow_within, if_neg q1, isRow_within, if_pos q1b]
    · obtain ⟨r, h8, e⟩ := within_nI (n := 7) (by decide) q1
      subst e
      obtain ⟨r2, h82, e⟩ := within_nI (n := 7) (by decide) q1b
      subst e
      have hm := miss_F hR (show r < 8 by omega)
      have hm2 := miss_F hR (show r2 < 8 by omega)
      have e0 : (0 : Int32).toInt = 0 := rfl
      have hs : ∀ u, F_X7_copy (wr g 6 0 1 u) (nI r) x2 (nI r2) x4 x5 = (if g 7 2 r < 0 then F_X7_find (wr g 6 0 1 u) 1 else if 0 ≤ g 7 2 r2 then (if g 7 1 r = g 7 1 r2 then (if x5 < 0 then F_X7_find (wr g 6 0 1 u) 2 else if F_X7_in x2.toInt64 0 ((g 7 2 r).toInt64 - x5.toInt64) = 0 then F_X7_find (wr g 6 0 1 u) 2 else if F_X7_in x4.toInt64 0 ((g 7 2 r2).toInt64 - x5.toInt64) = 0 then F_X7_find (wr g 6 0 1 u) 2 else F_X7_copy (wr g 6 0 1 u) (nI r) x2 (nI r2) x4 x5) else F_X7_find (wr g 6 0 1 u) 5) else F_X7_find (wr g 6 0 1 u) 1) := fun u => by
        have hh : F_X7_copy (wr g 6 0 1 u) (nI r) x2 (nI r2) x4 x5 = F_X7_copy (wr g 6 0 1 u) (nI r) x2 (nI r2) x4 x5 := rfl
        by_cases z1 : g 7 2 r < 0
        · rw [if_pos z1]; unfold F_X7_copy; rw [isRow_within, if_neg q1, isRow_within, if_neg q1b, c0 (by omega), c0 (by omega), wr_67, if_pos z1]
        · rw [if_neg z1]
          by_cases z2 : 0 ≤ g 7 2 r2
          · rw [if_pos z2]
            by_cases z3 : g 7 1 r = g 7 1 r2
            · rw [if_pos z3]
              by_cases z4 : x5 < 0
              · rw [if_pos z4]; unfold F_X7_copy; rw [isRow_within, if_neg q1, isRow_within, if_neg q1b, c0 (by omega), c0 (by omega), wr_67, wr_67, wr_67, wr_67, if_neg z1, if_pos z2, if_pos z3, if_pos z4]
              · rw [if_neg z4]
                by_cases z5 : F_X7_in x2.toInt64 0 ((g 7 2 r).toInt64 - x5.toInt64) = 0
                · rw [if_pos z5]; unfold F_X7_copy; rw [isRow_within, if_neg q1, isRow_within, if_neg q1b, c0 (by omega), c0 (by omega), wr_67, wr_67, wr_67, wr_67, if_neg z1, if_pos z2, if_pos z3, if_neg z4, if_pos z5]
                · rw [if_neg z5]
                  by_cases z6 : F_X7_in x4.toInt64 0 ((g 7 2 r2).toInt64 - x5.toInt64) = 0
                  · rw [if_pos z6]; unfold F_X7_copy; rw [isRow_within, if_neg q1, isRow_within, if_neg q1b, c0 (by omega), c0 (by omega), wr_67, wr_67, wr_67, wr_67, if_neg z1, if_pos z2, if_pos z3, if_neg z4, if_neg z5, if_pos z6]
                  · rw [if_neg z6]
            · rw [if_neg z3]; unfold F_X7_copy; rw [isRow_within, if_neg q1, isRow_within, if_neg q1b, c0 (by omega), c0 (by omega), wr_67, wr_67, wr_67, wr_67, if_neg z1, if_pos z2, if_neg z3]
          · rw [if_neg z2]; unfold F_X7_copy; rw [isRow_within, if_neg q1, isRow_within, if_neg q1b, c0 (by omega), c0 (by omega), wr_67, wr_67, if_neg z1, if_neg z2]
      by_cases q2 : 0 ≤ g 7 2 r
      · have q2n : ¬ g 7 2 r < 0 := by rw [toI_lt]; rw [toI_le] at q2; omega
        by_cases q3 : 0 ≤ g 7 2 r2
        · by_cases q4 : g 7 1 r = g 7 1 r2
          · by_cases q5 : x5 < 0
            · refine Ok_e (u := 2) hr ?_ ?_
              · unfold F_X6_copy; rw [if_neg q1, if_neg q1b, if_pos (hm.mpr q2), if_pos (hm2.mpr q3), lane_of hR (by omega) q2, lane_of hR (by omega) q3, if_pos q4, if_pos (hold_neg hR (by omega) q2 q5)]
              · show F_X7_copy (wr g 6 0 1 2) (nI r) x2 (nI r2) x4 x5 = _
                rw [hs, if_neg q2n, if_pos q3, if_pos q4, if_pos q5]
            · have hn : 0 ≤ x5.toInt := by rw [toI_lt] at q5; omega
              by_cases q6 : F_X4_holds g (nI r) x2 x5 = 0
              · refine Ok_e (u := 2) hr ?_ ?_
                · unfold F_X6_copy; rw [if_neg q1, if_neg q1b, if_pos (hm.mpr q2), if_pos (hm2.mpr q3), lane_of hR (by omega) q2, lane_of hR (by omega) q3, if_pos q4, if_pos q6]
                · show F_X7_copy (wr g 6 0 1 2) (nI r) x2 (nI r2) x4 x5 = _
                  rw [hs, if_neg q2n, if_pos q3, if_pos q4, if_neg q5, if_pos ((in_holds hR (by omega) q2 hn).mpr q6)]
              · by_cases q7 : F_X4_holds g (nI r2) x4 x5 = 0
                · refine Ok_e (u := 2) hr ?_ ?_
                  · unfold F_X6_copy; rw [if_neg q1, if_neg q1b, if_pos (hm.mpr q2), if_pos (hm2.mpr q3), lane_of hR (by omega) q2, lane_of hR (by omega) q3, if_pos q4, if_neg q6, if_pos q7]
                  · show F_X7_copy (wr g 6 0 1 2) (nI r) x2 (nI r2) x4 x5 = _
                    rw [hs, if_neg q2n, if_pos q3, if_pos q4, if_neg q5, if_neg (fun z => q6 ((in_holds hR (by omega) q2 hn).mp z)), if_pos ((in_holds hR (by omega) q3 hn).mpr q7)]
                · have k6 := (holds_F hR (show r < 8 by omega) q2).mp q6
                  have k7 := (holds_F hR (show r2 < 8 by omega) q3).mp q7
                  have s1 := size_b hR (show r < 8 by omega) q2
                  have s2 := size_b hR (show r2 < 8 by omega) q3
                  have g6 : ¬ F_X7_in x2.toInt64 0 ((g 7 2 r).toInt64 - x5.toInt64) = 0 := fun z => q6 ((in_holds hR (by omega) q2 hn).mp z)
                  have g7 : ¬ F_X7_in x4.toInt64 0 ((g 7 2 r2).toInt64 - x5.toInt64) = 0 := fun z => q7 ((in_holds hR (by omega) q3 hn).mp z)
                  obtain ⟨i, hi, e⟩ := nI_ofT (x := x2) (m := 40) (by omega)
                  subst e
                  obtain ⟨j, hj, e⟩ := nI_ofT (x := x4) (m := 40) (by omega)
                  subst e
                  obtain ⟨m, hm5, e⟩ := nI_ofT (x := x5) (m := 40) (by omega)
                  subst e
                  rw [nI_toInt (by omega), nI_toInt (by omega)] at k6 k7
                  have eC : F_X6_copy g (nI r) (nI i) (nI r2) (nI j) (nI m) = (nI m, wr (mw g 4 1 (va_cpy (g 4 1) (g 4 1) (40 * r + i) (40 * r2 + j) m)) 6 0 1 0) := by
                    unfold F_X6_copy F_X4_carry; rw [if_neg q1, if_neg q1b, if_pos (hm.mpr q2), if_pos (hm2.mpr q3), lane_of hR (by omega) q2, lane_of hR (by omega) q3, if_pos q4, if_neg q6, if_neg q7, if_neg q6, if_neg q7, c40x (by omega) (by omega), c40x (by omega) (by omega), c0 (by omega)]
                    rfl
                  refine Ok_v (g1 := mw g 4 1 (va_cpy (g 4 1) (g 4 1) (40 * r + i) (40 * r2 + j) m)) (u := 0) (a := nI m) (s := mw (mw (wr (mw g 4 1 (va_cpy (g 4 1) (g 4 1) (40 * r + i) (40 * r2 + j) m)) 6 0 1 0) 7 5 (fun k => if 0 ≤ k ∧ k < m then g 7 3 (40 * r + i + k) else g 7 5 k)) 7 3 (fun k => if 40 * r2 + j + 0 ≤ k ∧ k < 40 * r2 + j + m then g 7 3 (40 * r + i + (k - (40 * r2 + j))) else g 7 3 k)) eC ?_ Fr_4 ?_ ?_
                  · show F_X7_copy (wr (mw g 4 1 (va_cpy (g 4 1) (g 4 1) (40 * r + i) (40 * r2 + j) m)) 6 0 1 0) (nI r) (nI i) (nI r2) (nI j) (nI m) = _
                    rw [copy7_F (by omega) (by omega) (by rw [wr64]; exact q2) (by rw [wr64]; exact q3) (by rw [wr64, wr64]; exact q4) (by rw [wr64]; exact g6) (by rw [wr64]; exact g7) (by omega) (by omega) hm5]
                    simp only [wr64]
                  · intro t k h
                    rw [mw_n _ _ (fun z => h z.1), mw_n _ _ (fun z => h z.1)]
                  · obtain ⟨a1, a2, a3, a4, a5, a6, a7⟩ := hr.1
                    refine ⟨fun r3 hr3 => ?_, a2.q (fun t k j u => by unfold uTape at u; simp only [wr_at, mw_at]; repeat rw [if_neg (by omega)]), a3.q (fun t k j u => by unfold uMsg at u; simp only [wr_at, mw_at]; repeat rw [if_neg (by omega)]), a4.q (fun t k j u => by unfold uNow at u; simp only [wr_at, mw_at]; repeat rw [if_neg (by omega)]), a5.q (fun t k j u => by unfold uActs at u; simp only [wr_at, mw_at]; repeat rw [if_neg (by omega)]), a6.q (fun t k j u => by unfold uImg at u; simp only [wr_at, mw_at]; repeat rw [if_neg (by omega)]), a7.q (fun t k j u => by unfold uTr at u; simp only [wr_at, mw_at]; repeat rw [if_neg (by omega)])⟩
                    have h2 := hR r3 hr3
                    refine ⟨by simpa [wr_at, mw_at] using h2.1, by simpa [wr_at, mw_at] using h2.2.1, fun hq => ?_⟩
                    have h4 := h2.2.2 (by simpa [wr_at, mw_at] using hq)
                    refine ⟨by simpa [wr_at, mw_at] using h4.1, fun l hl => ?_⟩
                    have hl2 : (l : Int) < (g 4 3 r3).toInt := by simpa [wr_at, mw_at] using hl
                    have hl3 : l < 40 := by have := h2.2.1.2; omega
                    have e4 : mw (mw (wr (mw g 4 1 (va_cpy (g 4 1) (g 4 1) (40 * r + i) (40 * r2 + j) m)) 6 0 1 0) 7 5 (fun k => if 0 ≤ k ∧ k < m then g 7 3 (40 * r + i + k) else g 7 5 k)) 7 3 (fun k => if 40 * r2 + j + 0 ≤ k ∧ k < 40 * r2 + j + m then g 7 3 (40 * r + i + (k - (40 * r2 + j))) else g 7 3 k) 4 1 (40 * r3 + l) = va_cpy (g 4 1) (g 4 1) (40 * r + i) (40 * r2 + j) m (40 * r3 + l) := by
                      rw [mw_n _ _ (by decide), mw_n _ _ (by decide), wr_nk (by decide), mw_s]
                    rw [e4, mw_s]
                    unfold va_cpy
                    by_cases y : 40 * r2 + j ≤ 40 * r3 + l ∧ 40 * r3 + l < 40 * r2 + j + m
                    · rw [if_pos y, if_pos (show 40 * r2 + j + 0 ≤ 40 * r3 + l ∧ 40 * r3 + l < 40 * r2 + j + m by omega)]
                      have h5 := (hR r (by omega)).2.2 (by rw [(hR r (by omega)).1]; intro z; rw [z] at q2; exact absurd q2 (by decide))
                      have h6 := h5.2 (i + (40 * r3 + l - (40 * r2 + j))) (by rw [(hR r (by omega)).1]; omega)
                      rw [← Nat.add_assoc] at h6
                      exact h6
                    · rw [if_neg y, if_neg (show ¬ (40 * r2 + j + 0 ≤ 40 * r3 + l ∧ 40 * r3 + l < 40 * r2 + j + m) by omega)]
                      exact h4.2 l hl2
          · refine Ok_e (u := 5) hr ?_ ?_
            · unfold F_X6_copy; rw [if_neg q1, if_neg q1b, if_pos (hm.mpr q2), if_pos (hm2.mpr q3), lane_of hR (by omega) q2, lane_of hR (by omega) q3, if_neg q4]
            · show F_X7_copy (wr g 6 0 1 5) (nI r) x2 (nI r2) x4 x5 = _
              rw [hs, if_neg q2n, if_pos q3, if_neg q4]
        · refine Ok_e (u := 1) hr ?_ ?_
          · unfold F_X6_copy; rw [if_neg q1, if_neg q1b, if_pos (hm.mpr q2), if_neg (fun z => q3 (hm2.mp z))]
          · show F_X7_copy (wr g 6 0 1 1) (nI r) x2 (nI r2) x4 x5 = _
            rw [hs, if_neg q2n, if_neg q3]
      · refine Ok_e (u := 1) hr ?_ ?_
        · unfold F_X6_copy; rw [if_neg q1, if_neg q1b, if_neg (fun z => q2 (hm.mp z))]
        · show F_X7_copy (wr g 6 0 1 1) (nI r) x2 (nI r2) x4 x5 = _
          rw [hs, if_pos (by rw [toI_lt]; rw [toI_le] at q2; omega)]
