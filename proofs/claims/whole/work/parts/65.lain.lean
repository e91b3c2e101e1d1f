def lieL (f : Fl) (T : Nat → Int32) : Nat → Nat → Int32
  | 0, _ => 1
  | m + 1, i => if lieF f i = T i then lieL f T m (i + 1) else 0
theorem lieL_eq {f f2 : Fl} {T T2 : Nat → Int32} (e : EqF f f2) : ∀ (m i : Nat), m + i ≤ nb f → (∀ j, j < nb f → T2 j = T j) → lieL f2 T2 m i = lieL f T m i
  | 0, _, _, _ => rfl
  | m + 1, i, h, hT => by rw [lieL, lieL, lieF_eq e (by omega), hT i (by omega), lieL_eq e m (i + 1) (by omega) hT]
theorem told_b {g : mm_g} {K : Nat → Int32} (hK : ∀ j, K j = 1) (v : Vd (g 2 1)) : ∀ (m n i : Nat), m + i = 9 → m < n → F_X3_liesAsTold_2 g K n i = lieL (g 2 1) (g 3 1) (nb (g 2 1) - i) i := by
  have h9 := v.n9
  intro m
  induction m with
  | zero =>
    intro n i h1 h2
    obtain ⟨n1, e⟩ : ∃ n1, n = n1 + 1 := ⟨n - 1, by omega⟩
    subst e
    unfold F_X3_liesAsTold_2
    rw [if_pos (show (9 : Int32) ≤ nI i from nI_le (a := 9) (b := i) (by omega) (by omega)), hK, show nb (g 2 1) - i = 0 by omega]
    rfl
  | succ m ih =>
    intro n i h1 h2
    obtain ⟨n1, e⟩ : ∃ n1, n = n1 + 1 := ⟨n - 1, by omega⟩
    subst e
    unfold F_X3_liesAsTold_2
    rw [if_neg (show ¬ (9 : Int32) ≤ nI i from nI_ge (a := i) (b := 9) (by omega) (by decide)), has_F v, ih n1 (i + 1) (by omega) (by omega), c0 (b := i) (by omega)]
    by_cases hb : i < nb (g 2 1)
    · rw [hasF_nI v hb, if_neg (by decide), lying_F v hb, show nb (g 2 1) - i = (nb (g 2 1) - (i + 1)) + 1 by omega, lieL]
    · rw [hasF_no v hb (by omega), if_pos rfl, show nb (g 2 1) - i = 0 by omega, show nb (g 2 1) - (i + 1) = 0 by omega]
      rfl
theorem liesTold_F {g : mm_g} (v : Vd (g 2 1)) : F_X3_liesAsTold g = lieL (g 2 1) (g 3 1) (nb (g 2 1)) 0 := by
  unfold F_X3_liesAsTold
  exact told_b (fun _ => rfl) v 9 _ 0 rfl (by decide)
def laL (f : Fl) (w : Int32) (T : Nat → Int32) : Nat → Int32 → Nat → Int32
  | 0, a, _ => a
  | m + 1, a, j => if lieL (cellF f w (nI j)) T (nb f) 0 = 0 then laL f w T m a (j + 1) else laL f w T m (a ||| ((1 : Int32) <<< (nI j &&& 31))) (j + 1)
theorem laL_eq {f f2 : Fl} {w : Int32} {T T2 : Nat → Int32} (hw : w = 0 ∨ w = 1) (e : EqF f f2) (hT : ∀ j, j < nb f → T2 j = T j) : ∀ (m : Nat) (a : Int32) (j : Nat), laL f2 w T2 m a j = laL f w T m a j
  | 0, _, _ => rfl
  | m + 1, a, j => by rw [laL, laL, e.nb, lieL_eq (cell_eq hw e) (nb f) 0 (by rw [cell_nb hw]; omega) (by rw [cell_nb hw]; exact hT), laL_eq hw e hT m, laL_eq hw e hT m]
theorem cell_cell {f : Fl} {w x y : Int32} : cellF (cellF f w x) w y = cellF f w y := upd_upd
theorem lain_13 {w : Int32} {f : Fl} {T : Nat → Int32} {K : Int32 → Nat → mm_g → Int32 × mm_g} (hw : w = 0 ∨ w = 1) (v : Vd f) : ∀ (m n : Nat) (a : Int32) (j : Nat) (s : mm_g), m + j = 9 → m < n → Vd (s 2 1) → (∀ x, cellF (s 2 1) w x = cellF f w x) → s 3 1 = T → ∃ s2, F_X3_lainBy_13 0 w K n a j s = K (laL f w T m a j) 9 s2 ∧ Sc s s2 := by
  intro m
  induction m with
  | zero =>
    intro n a j s h1 h2 hv hc hT
    obtain ⟨n1, e⟩ : ∃ n1, n = n1 + 1 := ⟨n - 1, by omega⟩
    subst e
    unfold F_X3_lainBy_13
    rw [if_pos (show (9 : Int32) ≤ nI j from nI_le (a := 9) (b := j) (by omega) (by omega)), show j = 9 by omega]
    exact ⟨s, rfl, Sc_r⟩
  | succ m ih =>
    intro n a j s h1 h2 hv hc hT
    obtain ⟨n1, e⟩ : ∃ n1, n = n1 + 1 := ⟨n - 1, by omega⟩
    subst e
    have vc : Vd (cellF f w (nI j)) := cell_vd hw (by omega) v
    have go : ∀ a', ∃ s2, F_X3_lainBy_13 0 w K n1 a' (j + 1) (mw s 2 1 (cellF f w (nI j))) = K (laL f w T m a' (j + 1)) 9 s2 ∧ Sc s s2 := fun a' => by
      obtain ⟨s2, y1, y2⟩ := ih n1 a' (j + 1) (mw s 2 1 (cellF f w (nI j))) (by omega) (by omega) (by rw [mw_s]; exact vc) (fun x => by rw [mw_s, cell_cell]) (by rw [mw_n (t := 2) (k := 1) (t' := 3) (k' := 1) _ _ (by decide)]; exact hT)
      exact ⟨s2, y1, Sc_t (Sc_2 Sc_r) y2⟩
    unfold F_X3_lainBy_13
    rw [if_neg (show ¬ (9 : Int32) ≤ nI j from nI_ge (a := j) (b := 9) (by omega) (by decide)), stand_F hw, hc, liesTold_F (by rw [mw_s]; exact vc), mw_s, mw_n (t := 2) (k := 1) (t' := 3) (k' := 1) _ _ (by decide), hT, cell_nb hw, laL]
    by_cases z : lieL (cellF f w (nI j)) T (nb f) 0 = 0
    · rw [if_pos z, if_pos z]; exact go a
    · rw [if_neg z, if_neg z]; exact go _
theorem lain_90 {s : mm_g} {w f4 f5 a : Int32} {j r q : Nat} {T : Nat → Int32} {K : Int32 → Nat → Int32 × mm_g} (hr : r < 8) (hq : q < 100) (v : Vd (s 7 4)) (hT : ∀ i, s 7 3 (40 * r + q + i) = T i) : ∀ (m n : Nat) (c : Int32) (i : Nat), m + i = nb (s 7 4) → m < n → (c = 0 ∨ c = 1) → F_X7_lain_90 s w (nI r) (nI q) f4 f5 a j K n c i = K (if c = 0 then 0 else lieL (s 7 4) T m i) (nb (s 7 4)) := by
  have h9 := v.n9
  intro m
  induction m with
  | zero =>
    intro n c i h1 h2 hc
    obtain ⟨n1, e⟩ : ∃ n1, n = n1 + 1 := ⟨n - 1, by omega⟩
    subst e
    unfold F_X7_lain_90
    rw [if_pos ((le_0 v (by omega)).mpr (by omega)), show i = nb (s 7 4) by omega]
    rcases hc with e | e <;> subst e
    · rw [if_pos rfl]
    · rw [if_neg (by decide)]; rfl
  | succ m ih =>
    intro n c i h1 h2 hc
    obtain ⟨n1, e⟩ : ∃ n1, n = n1 + 1 := ⟨n - 1, by omega⟩
    subst e
    unfold F_X7_lain_90
    rw [if_neg (fun z => absurd ((le_0 v (by omega)).mp z) (by omega)), c40y (by omega) (by omega) (by omega), hT, lies_F (show i < 9 by omega), ih n1 0 (i + 1) (by omega) (by omega) (Or.inl rfl), ih n1 1 (i + 1) (by omega) (by omega) (Or.inr rfl), if_pos (show (0 : Int32) = 0 from rfl), if_neg (show ¬ (1 : Int32) = 0 by decide)]
    rcases hc with e | e <;> subst e
    · rw [if_pos rfl, if_pos rfl]
    · rw [if_neg (show ¬ (1 : Int32) = 0 by decide), if_neg (show ¬ (1 : Int32) = 0 by decide), lieL]
      by_cases z : lieF (s 7 4) i = T i
      · rw [if_pos z.symm, if_pos z]
      · rw [if_neg (fun y => z y.symm), if_neg z]
theorem lain_67 {g : mm_g} {w f4 f5 : Int32} {r q : Nat} {T : Nat → Int32} {K : Int32 → Nat → mm_g → Int32 × mm_g} (hw : w = 0 ∨ w = 1) (hr : r < 8) (hq : q < 100) (v : Vd (g 7 4)) (hT : ∀ i, g 7 3 (40 * r + q + i) = T i) : ∀ (m n : Nat) (a : Int32) (j : Nat) (x : Int32), m + j = 9 → m < n → ∃ y, F_X7_lain_67 w (nI r) (nI q) f4 f5 K n a j (wr g 7 4 (1 + w).toNatClampNeg x) = K (laL (g 7 4) w T m a j) 9 (wr g 7 4 (1 + w).toNatClampNeg y) := by
  intro m
  induction m with
  | zero =>
    intro n a j x h1 h2
    obtain ⟨n1, e⟩ : ∃ n1, n = n1 + 1 := ⟨n - 1, by omega⟩
    subst e
    unfold F_X7_lain_67
    rw [if_pos (show (9 : Int32) ≤ nI j from nI_le (a := 9) (b := j) (by omega) (by omega)), show j = 9 by omega]
    exact ⟨x, rfl⟩
  | succ m ih =>
    intro n a j x h1 h2
    obtain ⟨n1, e⟩ : ∃ n1, n = n1 + 1 := ⟨n - 1, by omega⟩
    subst e
    have eW : wr g 7 4 (1 + w).toNatClampNeg (nI j) = mw g 7 4 (cellF (g 7 4) w (nI j)) := rfl
    have vc : Vd (wr g 7 4 (1 + w).toNatClampNeg (nI j) 7 4) := by rw [eW, mw_s]; exact cell_vd hw (by omega) v
    have eN : nb (wr g 7 4 (1 + w).toNatClampNeg (nI j) 7 4) = nb (g 7 4) := by rw [eW, mw_s, cell_nb hw]
    have eC : wr g 7 4 (1 + w).toNatClampNeg (nI j) 7 4 = cellF (g 7 4) w (nI j) := by rw [eW, mw_s]
    have h9 := v.n9
    unfold F_X7_lain_67
    rw [if_neg (show ¬ (9 : Int32) ≤ nI j from nI_ge (a := j) (b := 9) (by omega) (by decide)), wr_wr, lain_90 (T := T) hr hq vc (fun i => by rw [wr_nk (t' := 7) (k' := 3) (by decide)]; exact hT i) (nb (g 7 4)) _ 1 0 (by rw [eN]; rfl) (by rw [vc.f0, nI_n (by omega)]; omega) (Or.inr rfl), if_neg (show ¬ (1 : Int32) = 0 by decide), eC, laL, Int32.or_zero]
    by_cases z : lieL (cellF (g 7 4) w (nI j)) T (nb (g 7 4)) 0 = 0
    · rw [if_pos z, if_pos z]; exact ih n1 a (j + 1) _ (by omega) (by omega)
    · rw [if_neg z, if_neg z]; exact ih n1 _ (j + 1) _ (by omega) (by omega)
theorem e_lain {n : Nat} {g : mm_g} {x1 x2 x3 : Int32} (hr : Rel n g) : Ok n g (F_X6_lain g x1 x2 x3) (fun s => F_X7_lain s x1 x2 x3) ∧ Fr g (F_X6_lain g x1 x2 x3).2 := by
  have hv := hr.now.1
  have hR := hr.row
  have he := hr.now.2.2.1
  have h9 := hv.n9
  by_cases q1 : nb (g 2 0) = 0
  · refine Ok_b hr (a := -1000002) ?_ ?_
    · unfold F_X6_lain; rw [if_neg (fun z => (isN_2 hr).mp z q1)]
    · show F_X7_lain g x1 x2 x3 = _
      unfold F_X7_lain; rw [if_pos ((there_2 hr).mpr q1)]
  · have q1b : ¬ g 7 0 1 = 0 := fun z => q1 ((there_2 hr).mp z)
    by_cases q2 : F_X6_within x1 0 1 = 0
    · refine Ok_b hr (a := -1000001) ?_ ?_
      · unfold F_X6_lain; rw [if_pos ((isN_2 hr).mpr q1), isOne_within, if_pos q2]
      · show F_X7_lain g x1 x2 x3 = _
        unfold F_X7_lain; rw [if_neg q1b, isWho_within, if_pos q2]
    · by_cases q3 : F_X6_within x2 0 7 = 0
      · refine Ok_b hr (a := -1000001) ?_ ?_
        · unfold F_X6_lain; rw [if_pos ((isN_2 hr).mpr q1), isOne_within, if_neg q2, if_pos q3]
        · show F_X7_lain g x1 x2 x3 = _
          unfold F_X7_lain; rw [if_neg q1b, isWho_within, if_neg q2, isRow_within, if_pos q3]
      · obtain ⟨r, h8, e⟩ := within_nI (n := 7) (by decide) q3
        subst e
        have hw := two_cases q2
        have hm := miss_F hR (show r < 8 by omega)
        have hT : (nI (nb (g 2 0))).toInt = nb (g 2 0) := nI_toInt (by omega)
        have f7 : g 7 4 0 = nI (nb (g 2 0)) := by rw [← he.lo 0 (by decide)]; exact hv.f0
        have hun : ∀ u, ¬ 0 ≤ (F_X7_lacks (wr g 6 0 1 u) (nI r) x3 (nI (nb (g 2 0)))).1 → F_X7_lain (wr g 6 0 1 u) x1 (nI r) x3 = F_X7_lacks (wr g 6 0 1 u) (nI r) x3 (nI (nb (g 2 0))) := fun u hu => by
          unfold F_X7_lain; rw [wr_67, if_neg q1b, isWho_within, if_neg q2, isRow_within, if_neg q3, wr_67, f7, if_neg hu]
        by_cases q5 : 0 ≤ g 7 2 r
        · by_cases q6 : F_X4_holds g (nI r) x3 (nI (nb (g 2 0))) = 0
          · have hl : F_X7_lacks (wr g 6 0 1 2) (nI r) x3 (nI (nb (g 2 0))) = F_X7_find (wr g 6 0 1 2) 2 := by
              unfold F_X7_lacks; rw [c0 (by omega), wr_67, if_pos q5, if_pos ((lack_h hR (by omega) q5 (by omega)).mpr q6)]
            refine Ok_e (u := 2) hr ?_ ?_
            · unfold F_X6_lain; rw [if_pos ((isN_2 hr).mpr q1), isOne_within, if_neg q2, if_neg q3, if_pos (hm.mpr q5), hv.f0, if_pos q6]
            · show F_X7_lain (wr g 6 0 1 2) x1 (nI r) x3 = _
              rw [hun 2 (by rw [hl]; show ¬ (0 : Int32) ≤ -1000010 - 2; decide), hl]
          · have k6 := (holds_F hR (show r < 8 by omega) q5).mp q6
            have hsz := size_b hR (show r < 8 by omega) q5
            obtain ⟨a, ha, e⟩ := nI_ofT (x := x3) (m := 40) (by omega)
            subst e
            rw [nI_toInt (by omega), nI_toInt (by omega)] at k6
            have hH := hear_F (a := a) (N := nb (g 2 0)) hR (show r < 8 by omega) q5 (by omega) (by omega)
            have hsc : Sc g (F_X3_hear g (nI r) (nI a) (nI (nb (g 2 0)))) := by rw [hH]; exact Sc_3 Sc_r
            have hf : (F_X3_hear g (nI r) (nI a) (nI (nb (g 2 0)))) 2 0 = g 2 0 := hsc 2 0 (by decide) (by decide)
            have hT2 : ∀ i, i < nb (g 2 0) → ((F_X3_hear g (nI r) (nI a) (nI (nb (g 2 0)))) 3 1) i = g 7 3 (40 * r + a + i) := fun i hi => by
              have h5 := ((hR r (by omega)).2.2 (by rw [(hR r (by omega)).1]; intro z; rw [z] at q5; exact absurd q5 (by decide))).2 (a + i) (by rw [(hR r (by omega)).1]; omega)
              rw [hH, mw_s, if_pos ⟨Nat.zero_le _, hi⟩, Nat.add_assoc]
              exact h5
            have hC : ∃ s2, F_X3_lainBy (F_X3_hear g (nI r) (nI a) (nI (nb (g 2 0)))) 0 x1 = (laL (g 2 0) x1 (fun i => g 7 3 (40 * r + a + i)) 9 0 0, s2) ∧ Sc g s2 := by
              have hv2 : Vd ((F_X3_hear g (nI r) (nI a) (nI (nb (g 2 0)))) 2 0) := by rw [hf]; exact hv
              have hE := then_E hv2
              unfold F_X3_lainBy
              rw [become_1]
              obtain ⟨s2, y1, y2⟩ := lain_13 (f := thenF (F_X3_hear g (nI r) (nI a) (nI (nb (g 2 0))))) (T := (F_X3_hear g (nI r) (nI a) (nI (nb (g 2 0)))) 3 1) (K := fun (a13 : Int32) (j13 : Nat) (s13 : mm_g) => (a13, s13)) hw (hE.vd hv2) 9 ((9 : Int32).toInt.toNat + 1) 0 0 (mw (F_X3_hear g (nI r) (nI a) (nI (nb (g 2 0)))) 2 1 (thenF (F_X3_hear g (nI r) (nI a) (nI (nb (g 2 0)))))) rfl (by decide) (by rw [mw_s]; exact hE.vd hv2) (fun x => by rw [mw_s]) (by rw [mw_n (t := 2) (k := 1) (t' := 3) (k' := 1) _ _ (by decide)])
              rw [hf] at hE
              rw [laL_eq hw hE hT2] at y1
              exact ⟨s2, y1, Sc_t hsc (Sc_t (Sc_2 Sc_r) y2)⟩
            obtain ⟨s2, c1, c2⟩ := hC
            have hF : F_X6_lain g x1 (nI r) (nI a) = (laL (g 2 0) x1 (fun i => g 7 3 (40 * r + a + i)) 9 0 0, wr s2 6 0 1 0) := by
              unfold F_X6_lain; rw [if_pos ((isN_2 hr).mpr q1), isOne_within, if_neg q2, if_neg q3, if_pos (hm.mpr q5), hv.f0, if_neg q6, c1]; rfl
            have g7 : ∀ k, wr s2 6 0 1 0 7 k = g 7 k := fun k => by rw [wr67]; exact c2 7 k (by omega) (by decide)
            have v7 := hr.vd7
            have hQ : F_X7_lain (wr s2 6 0 1 0) x1 (nI r) (nI a) = (laL (g 7 4) x1 (fun i => g 7 3 (40 * r + a + i)) 9 0 0, wr (wr s2 6 0 1 0) 7 0 0 0) := by
              have hl : F_X7_lacks (wr s2 6 0 1 0) (nI r) (nI a) (nI (nb (g 2 0))) = (0, wr s2 6 0 1 0) := by
                unfold F_X7_lacks; rw [c0 (by omega), g7, if_pos q5, if_neg (fun z => q6 ((lack_h hR (by omega) q5 (by omega)).mp z))]
              obtain ⟨y, ey⟩ := lain_67 (g := wr s2 6 0 1 0) (w := x1) (f4 := 0) (f5 := (wr s2 6 0 1 0) 7 4 (1 + x1).toNatClampNeg) (r := r) (q := a) (T := fun i => g 7 3 (40 * r + a + i)) (K := fun (a67 : Int32) (j67 : Nat) (s67 : mm_g) => ((F_X7_well (wr s67 7 4 (1 + x1).toNatClampNeg ((wr s2 6 0 1 0) 7 4 (1 + x1).toNatClampNeg)) a67).1, (F_X7_well (wr s67 7 4 (1 + x1).toNatClampNeg ((wr s2 6 0 1 0) 7 4 (1 + x1).toNatClampNeg)) a67).2)) hw (by omega) (by omega) (by rw [g7]; exact v7) (fun i => by rw [g7]) 9 ((9 : Int32).toInt.toNat + 1) 0 0 ((wr s2 6 0 1 0) 7 4 (1 + x1).toNatClampNeg) rfl (by decide)
              rw [wr_id, wr_wr, wr_id] at ey
              unfold F_X7_lain
              rw [g7, if_neg q1b, isWho_within, if_neg q2, isRow_within, if_neg q3, g7, f7, hl, if_pos (show (0 : Int32) ≤ (0, wr s2 6 0 1 0).1 from (by decide : (0 : Int32) ≤ 0))]
              refine Eq.trans ?_ (ey.trans ?_)
              · rfl
              · rw [g7]; rfl
            rw [hF]
            refine Ok_w (u := 0) (a := laL (g 2 0) x1 (fun i => g 7 3 (40 * r + a + i)) 9 0 0) (g1 := s2) (s := wr s2 6 0 1 0) hr rfl c2 ?_ Sr_r
            show F_X7_lain (wr s2 6 0 1 0) x1 (nI r) (nI a) = _
            rw [hQ, laL_eq hw he (fun _ _ => rfl)]
        · have hl : F_X7_lacks (wr g 6 0 1 1) (nI r) x3 (nI (nb (g 2 0))) = F_X7_find (wr g 6 0 1 1) 1 := by
            unfold F_X7_lacks; rw [c0 (by omega), wr_67, if_neg q5]
          refine Ok_e (u := 1) hr ?_ ?_
          · unfold F_X6_lain; rw [if_pos ((isN_2 hr).mpr q1), isOne_within, if_neg q2, if_neg q3, if_neg (fun z => q5 (hm.mp z))]
          · show F_X7_lain (wr g 6 0 1 1) x1 (nI r) x3 = _
            rw [hun 1 (by rw [hl]; show ¬ (0 : Int32) ≤ -1000010 - 1; decide), hl]
