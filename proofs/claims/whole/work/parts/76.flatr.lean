theorem bed_1 {gc gr : mm_g} {c : Fl} {m p k : Nat} {w w7 : Int32} {f f7 : Fl} (T5 : Tp gc c m) (T7 : Tr gr c m) (hp : p ≤ m) (B : BR f f7 k) :
    (∃ q e f7', e ≠ 0 ∧ F_X5_readBed (Cs gc p w f) 1 = (0, Cs gc q e f) ∧ F_X7_readBed (TS gr c m p w7 f7) = (0, TS gr c m q e f7')) ∨
    (∃ q f' f7', q ≤ m ∧ F_X5_readBed (Cs gc p w f) 1 = (1, Cs gc q w f') ∧ F_X7_readBed (TS gr c m p w7 f7) = (1, TS gr c m q w7 f7') ∧ BR f' f7' (k + 1)) := by
  have hm := T5.1.1
  have h9 := B.2.1.n9
  rw [B.2.2.2] at h9
  have f0 := B.2.1.f0
  rw [B.2.2.2] at f0
  have f70 : f7 0 = nI k := by rw [← B.1.lo 0 (by decide)]; exact f0
  unfold F_X5_readBed F_X7_readBed F_X5_fails F_X7_faults
  rw [Cs_p, letter_C T5 (by omega), TS_5, TS_6, TS_7, Cs_f, f0, f70, Cs_ww, Cs_ww, TS_w, TS_w]
  by_cases z : F_X5_kindNamed (c p) = 0
  · refine Or.inl ⟨p, 1, f7, by decide, by rw [if_pos z], ?_⟩
    by_cases t1 : tkT c m p = 1
    · rw [if_pos t1, (tk_1 T5.1 hp t1).1, if_pos (kind_0 z)]
    · rw [if_neg t1]
  · obtain ⟨t1, t2, t3⟩ := Ch_eq T5.1 hp z
    obtain ⟨s1, s2, s3, s4⟩ := tk_1 T5.1 hp t1
    rw [if_neg z, if_pos t1, s1, t2, if_neg z]
    by_cases k9 : k = 9
    · subst k9
      refine Or.inl ⟨p, 3, f7, by decide, ?_, ?_⟩
      · rw [if_neg (by decide)]
      · rw [if_pos (by decide)]
    · have hk : k < 9 := by omega
      rw [if_pos (show nI k < 9 from nI_lt (b := 9) hk (by decide)), if_neg (show ¬ nI k = 9 from fun q => k9 ((nI_eq (by omega) (by decide)).mp q)), nI_1, Cs_wp rfl, TS_n T7 (by omega), s2, c9 (by omega), TS_v, TS_7, TS_v]
      have fk : upd f7 (9 + k) (F_X5_kindNamed (c p)) 0 = nI k := by
        unfold upd
        rw [if_neg (by omega)]
        exact f70
      rw [fk, nI_1]
      generalize hkd : F_X5_kindNamed (c p) = kd at t3
      rw [C_num T5 s3, T_num T7 s3 sgn_44 (c18 (show k < 1000 by omega))]
      by_cases d1 : dl c (p + 1) = 0 ∨ 2 < dl c (p + 1)
      · exact Or.inl ⟨p + 1, 1, _, by decide, by rw [if_pos d1]; rfl, by rw [if_pos d1]; rfl⟩
      · rw [if_neg d1, if_neg d1]
        by_cases r1 : F_X6_within (nv c (p + 1) (dl c (p + 1))) 0 99 = 0
        · exact Or.inl ⟨p + 1, 2, _, by decide, by rw [if_pos r1]; rfl, by rw [if_pos r1]; rfl⟩
        · rw [if_neg r1, if_neg r1]
          have w1 := within_iff.mp r1
          have hd1 : dl c (p + 1) ≤ m - (p + 1) := dl_m T5.1 s3
          have hp2 : p + 1 + dl c (p + 1) ≤ m := by omega
          generalize hv : nv c (p + 1) (dl c (p + 1)) = v at w1
          generalize p + 1 + dl c (p + 1) = p2 at hp2
          have v1 : ¬ v = -1 := by
            intro q
            subst q
            have e0 : (0 : Int32).toInt = 0 := rfl
            have e1 : (-1 : Int32).toInt = -1 := rfl
            omega
          dsimp only
          rw [if_neg v1, C_tak T5 hp2]
          by_cases c2 : c p2 = 44
          · have hp3 : p2 + 1 ≤ m := by
              have : p2 ≠ m := fun q => by
                rw [q, T5.1.2 m (Nat.le_refl m)] at c2
                exact absurd c2 (by decide)
              omega
            rw [if_pos c2, if_pos c2]
            dsimp only
            rw [if_neg (show ¬ (1 : Int32) = 0 by decide), if_neg (show ¬ (1 : Int32) = 0 by decide), C_num T5 hp3, T_num T7 hp3 sgn_59 (c27 (show k < 1000 by omega))]
            by_cases d2 : dl c (p2 + 1) = 0 ∨ 2 < dl c (p2 + 1)
            · exact Or.inl ⟨p2 + 1, 1, _, by decide, by rw [if_pos d2]; rfl, by rw [if_pos d2]; rfl⟩
            · rw [if_neg d2, if_neg d2]
              by_cases r2 : F_X6_within (nv c (p2 + 1) (dl c (p2 + 1))) 0 9 = 0
              · exact Or.inl ⟨p2 + 1, 2, _, by decide, by rw [if_pos r2]; rfl, by rw [if_pos r2]; rfl⟩
              · rw [if_neg r2, if_neg r2]
                have w2 := within_iff.mp r2
                have hd2 := dl_m T5.1 hp3
                have hp4 : p2 + 1 + dl c (p2 + 1) ≤ m := by omega
                generalize hu : nv c (p2 + 1) (dl c (p2 + 1)) = u at w2
                generalize p2 + 1 + dl c (p2 + 1) = p4 at hp4
                have u1 : ¬ u = -1 := by
                  intro q
                  subst q
                  have e0 : (0 : Int32).toInt = 0 := rfl
                  have e1 : (-1 : Int32).toInt = -1 := rfl
                  omega
                dsimp only
                rw [if_neg u1, C_tak T5 hp4]
                by_cases c4 : c p4 = 59
                · have hp5 : p4 + 1 ≤ m := by
                    have : p4 ≠ m := fun q => by
                      rw [q, T5.1.2 m (Nat.le_refl m)] at c4
                      exact absurd c4 (by decide)
                    omega
                  rw [if_pos c4, if_pos c4]
                  dsimp only
                  rw [if_neg (show ¬ (1 : Int32) = 0 by decide), if_neg (show ¬ (1 : Int32) = 0 by decide), add_C f0 hk]
                  exact Or.inr ⟨p4 + 1, _, _, hp5, rfl, rfl, add_BR B hk t3 w1 w2⟩
                · exact Or.inl ⟨p4, 1, _, by decide, by rw [if_neg c4]; rfl, by rw [if_neg c4]; rfl⟩
          · exact Or.inl ⟨p2, 1, _, by decide, by rw [if_neg c2]; rfl, by rw [if_neg c2]; rfl⟩
/-! the beds read -/
theorem beds_1 {gc gr : mm_g} {c : Fl} {m : Nat} (T5 : Tp gc c m) (T7 : Tr gr c m) : ∀ (n n2 j p : Nat) (w7 : Int32) (f f7 : Fl), n + j = 10 → n < n2 → p ≤ m → (p < m ∨ j = 0) → BR f f7 j →
    ∃ q e f', F_X5_readBeds_2 1 (fun (j2 : Nat) (s2 : mm_g) => s2) (n + 1) j (Cs gc p 0 f) = Cs gc q e f' ∧ ((e ≠ 0 ∧ ∃ f7', F_X7_readFlat_82 (fun (a82 : Int32) (s82 : mm_g) => (a82, s82)) (n2 + 1) 1 (TS gr c m p w7 f7) = (0, TS gr c m q e f7')) ∨ (e = 0 ∧ ∃ f7' k, 1 ≤ k ∧ F_X7_readFlat_82 (fun (a82 : Int32) (s82 : mm_g) => (a82, s82)) (n2 + 1) 1 (TS gr c m p w7 f7) = (1, TS gr c m q w7 f7') ∧ BR f' f7' k)) := by
  intro n
  induction n with
  | zero =>
    intro n2 j p w7 f f7 hn _ _ _ B
    have h9 := B.2.1.n9
    rw [B.2.2.2] at h9
    omega
  | succ n ih =>
    intro n2 j p w7 f f7 hn hn2 hp hpj B
    obtain ⟨n3, e⟩ : ∃ n3, n2 = n3 + 1 := ⟨n2 - 1, by omega⟩
    subst e
    have hm := T5.1.1
    have f0 := B.2.1.f0
    rw [B.2.2.2] at f0
    have f70 : f7 0 = nI j := by rw [← B.1.lo 0 (by decide)]; exact f0
    have step : F_X7_readFlat_82 (fun (a82 : Int32) (s82 : mm_g) => (a82, s82)) (n3 + 1 + 1) 1 (TS gr c m p w7 f7) = F_X7_readFlat_82 (fun (a82 : Int32) (s82 : mm_g) => (a82, s82)) (n3 + 1) ((F_X7_readBed (TS gr c m p w7 f7)).1) ((F_X7_readBed (TS gr c m p w7 f7)).2) := by
      rw [F_X7_readFlat_82, if_neg (by decide), TS_5, TS_7, f70]
      by_cases t3 : tkT c m p = 3
      · rw [if_pos t3]
        have : j = 0 := by
          rcases hpj with q | q
          · exfalso
            unfold tkT at t3
            rw [if_neg (by omega)] at t3
            repeat' split at t3
            all_goals exact absurd t3 (by decide)
          · exact q
        subst this
        rw [if_pos (show nI 0 = 0 from rfl)]
      · rw [if_neg t3]
    rw [step, F_X5_readBeds_2, if_neg (show ¬ (9 : Int32) < nI j from nI_nlt (a := 9) (by omega) (by decide))]
    rcases bed_1 (w := 0) (w7 := w7) T5 T7 hp B with ⟨q, e, f7', h1, h2, h3⟩ | ⟨q, f', f7', h1, h2, h3, B'⟩
    · refine ⟨q, e, f, ?_, Or.inl ⟨h1, f7', ?_⟩⟩
      · rw [h2, if_pos rfl]
      · rw [h3]
        dsimp only
        rw [F_X7_readFlat_82, if_pos rfl]
    · rw [h2, h3]
      dsimp only
      rw [if_neg (by decide)]
      simp only [Cs_p, Cs_0, T5.2.1]
      by_cases qm : q = m
      · subst qm
        rw [if_neg (nI_nlt (Nat.le_refl q) (by omega))]
        refine ⟨q, 0, f', rfl, Or.inr ⟨rfl, f7', j + 1, by omega, ?_, B'⟩⟩
        have f0' := B'.2.1.f0
        rw [B'.2.2.2] at f0'
        rw [F_X7_readFlat_82, if_neg (by decide), TS_5, show tkT c q q = 3 from if_pos rfl, if_pos rfl, TS_7, ← B'.1.lo 0 (by decide), f0', if_neg (nI_ne0 (by omega) (by omega))]
      · rw [if_pos (nI_lt (show q < m by omega) (by omega))]
        exact ih n3 (j + 1) q w7 f' f7' (by omega) (by omega) h1 (Or.inl (by omega)) B'
/-! the law's line, then the beds -/
def begF (f : Fl) (a b t : Int32) : Fl := fun j => if 6 ≤ j ∧ j < 9 then 0 else if j = 2 then b else if j = 1 then a else if j = 5 then 0 else if j = 3 then t else if j = 4 then 0 else if j = 0 then 0 else f j
theorem beg_C {g : mm_g} {p : Nat} {w a b t : Int32} {f : Fl} : F_X2_begin (Cs g p w f) 1 a b t = Cs g p w (begF f a b t) := by
  unfold F_X2_begin
  simp only [Cs_wf]
  rw [F_X2_begin_33, if_neg (by decide), F_X2_begin_33, if_neg (by decide), F_X2_begin_33, if_neg (by decide), F_X2_begin_33, if_pos (by decide)]
  simp only [Cs_wf]
  refine congrArg (Cs g p w) (funext fun j => ?_)
  rw [show (nI 0).toNatClampNeg = 0 from rfl, show (nI (0 + 1)).toNatClampNeg = 1 from rfl, show (nI (0 + 1 + 1)).toNatClampNeg = 2 from rfl]
  unfold upd begF
  repeat' split
  all_goals first | rfl | (exfalso; omega)
theorem read_1 {gc gr : mm_g} {c : Fl} {m : Nat} (T5 : Tp gc c m) (T7 : Tr gr c m) : ∃ q e f, F_X5_readInto gc 1 = (e, Cs gc q e f) ∧ ((e ≠ 0 ∧ ∃ f7, F_X7_readFlat gr = (0, TS gr c m q e f7)) ∨ (e = 0 ∧ ∃ f7 k w7, 1 ≤ k ∧ F_X7_readFlat gr = (1, TS gr c m q w7 f7) ∧ BR f f7 k)) := by
  have hm := T5.1.1
  have z10 : ¬ (1 : Int32) = 0 := by decide
  have e0 : (0 : Int32).toInt = 0 := rfl
  have e1 : (-1 : Int32).toInt = -1 := rfl
  have e01 : (1 : Int32).toInt = 1 := rfl
  have e08 : (8 : Int32).toInt = 8 := rfl
  have e09 : (9 : Int32).toInt = 9 := rfl
  have en : ∀ p, p ≤ m → ∀ x, c p = x → ¬ x = -1 → p + 1 ≤ m := fun p hp x hc hx => by
    have : p ≠ m := fun q => hx (by rw [← hc, q]; exact T5.1.2 m (Nat.le_refl m))
    omega
  obtain ⟨f0, hf0, hs⟩ : ∃ f0 : Fl, (∀ j, j < 36 → f0 j = 0) ∧ F_X7_nextToken (mw (wr gr 7 0 4 0) 7 7 (fun i => if 0 ≤ i ∧ i < 36 then 0 else (wr gr 7 0 4 0) 7 7 i)) = TS gr c m 0 (gr 7 0 8) f0 := by
    refine ⟨fun i => if 0 ≤ i ∧ i < 36 then 0 else (wr gr 7 0 4 0) 7 7 i, fun j hj => if_pos ⟨Nat.zero_le j, hj⟩, ?_⟩
    rw [show wr gr 7 0 4 0 = mw gr 7 0 (hd (gr 7 0) (nI 0) (gr 7 0 7) (gr 7 0 5) (gr 7 0 6) (gr 7 0 8)) from congrArg (mw gr 7 0) hd_i]
    exact N_tok T7 (Nat.zero_le m)
  unfold F_X5_readInto F_X7_readFlat
  rw [Cs_i, L_read7 _ 0 _ (by decide) (by decide)]
  try dsimp only
  rw [hs]
  generalize gr 7 0 8 = w7
  unfold F_X5_readLaw
  rw [C_tak T5 (Nat.zero_le m), T_tak T7 (Nat.zero_le m) sgn_108]
  by_cases a0 : c 0 = 108
  · have hp1 := en 0 (Nat.zero_le m) 108 a0 (by decide)
    rw [if_pos a0, if_pos a0]
    dsimp only
    rw [if_neg z10, if_neg z10]
    rw [C_num T5 hp1, T_num T7 hp1 sgn_44 (show (1 : Int32).toNatClampNeg = 1 from rfl)]
    by_cases d1 : dl c (0 + 1) = 0 ∨ 2 < dl c (0 + 1)
    · exact ⟨0 + 1, 1, gc 2 1, by rw [if_pos d1]; show (Cs gc (0 + 1) 1 (gc 2 1) 5 0 2, Cs gc (0 + 1) 1 (gc 2 1)) = _; rw [Cs_w], Or.inl ⟨by decide, _, by rw [if_pos d1]; rfl⟩⟩
    · rw [if_neg d1, if_neg d1]
      by_cases r1 : F_X6_within (nv c (0 + 1) (dl c (0 + 1))) 0 8 = 0
      · exact ⟨0 + 1, 2, gc 2 1, by rw [if_pos r1]; show (Cs gc (0 + 1) 2 (gc 2 1) 5 0 2, Cs gc (0 + 1) 2 (gc 2 1)) = _; rw [Cs_w], Or.inl ⟨by decide, _, by rw [if_pos r1]; rfl⟩⟩
      · rw [if_neg r1, if_neg r1]
        have w1 := within_iff.mp r1
        have hd1 := dl_m T5.1 hp1
        have hq1 : 0 + 1 + dl c (0 + 1) ≤ m := by omega
        generalize hv1 : nv c (0 + 1) (dl c (0 + 1)) = v1 at w1
        generalize 0 + 1 + dl c (0 + 1) = q1 at hq1
        have u1 : ¬ v1 = -1 := fun q => by subst q; omega
        dsimp only
        rw [if_neg u1, C_tak T5 hq1]
        by_cases s1 : c q1 = 44
        · have hp2 := en q1 hq1 44 s1 (by decide)
          rw [if_pos s1, if_pos s1]
          dsimp only
          rw [if_neg z10, if_neg z10]
          rw [C_num T5 hp2, T_num T7 hp2 sgn_44 (show (2 : Int32).toNatClampNeg = 2 from rfl)]
          by_cases d2 : dl c (q1 + 1) = 0 ∨ 2 < dl c (q1 + 1)
          · exact ⟨q1 + 1, 1, gc 2 1, by rw [if_pos d2]; show (Cs gc (q1 + 1) 1 (gc 2 1) 5 0 2, Cs gc (q1 + 1) 1 (gc 2 1)) = _; rw [Cs_w], Or.inl ⟨by decide, _, by rw [if_pos d2]; rfl⟩⟩
          · rw [if_neg d2, if_neg d2]
            by_cases r2 : F_X6_within (nv c (q1 + 1) (dl c (q1 + 1))) 0 8 = 0
            · exact ⟨q1 + 1, 2, gc 2 1, by rw [if_pos r2]; show (Cs gc (q1 + 1) 2 (gc 2 1) 5 0 2, Cs gc (q1 + 1) 2 (gc 2 1)) = _; rw [Cs_w], Or.inl ⟨by decide, _, by rw [if_pos r2]; rfl⟩⟩
            · rw [if_neg r2, if_neg r2]
              have w2 := within_iff.mp r2
              have hd2 := dl_m T5.1 hp2
              have hq2 : q1 + 1 + dl c (q1 + 1) ≤ m := by omega
              generalize hv2 : nv c (q1 + 1) (dl c (q1 + 1)) = v2 at w2
              generalize q1 + 1 + dl c (q1 + 1) = q2 at hq2
              have u2 : ¬ v2 = -1 := fun q => by subst q; omega
              dsimp only
              rw [if_neg u2, C_tak T5 hq2]
              by_cases s2 : c q2 = 44
              · have hp3 := en q2 hq2 44 s2 (by decide)
                rw [if_pos s2, if_pos s2]
                dsimp only
                rw [if_neg z10, if_neg z10]
                rw [C_num T5 hp3, T_num T7 hp3 sgn_59 (show (3 : Int32).toNatClampNeg = 3 from rfl)]
                by_cases d3 : dl c (q2 + 1) = 0 ∨ 2 < dl c (q2 + 1)
                · exact ⟨q2 + 1, 1, gc 2 1, by rw [if_pos d3]; show (Cs gc (q2 + 1) 1 (gc 2 1) 5 0 2, Cs gc (q2 + 1) 1 (gc 2 1)) = _; rw [Cs_w], Or.inl ⟨by decide, _, by rw [if_pos d3]; rfl⟩⟩
                · rw [if_neg d3, if_neg d3]
                  by_cases r3 : F_X6_within (nv c (q2 + 1) (dl c (q2 + 1))) 1 9 = 0
                  · exact ⟨q2 + 1, 2, gc 2 1, by rw [if_pos r3]; show (Cs gc (q2 + 1) 2 (gc 2 1) 5 0 2, Cs gc (q2 + 1) 2 (gc 2 1)) = _; rw [Cs_w], Or.inl ⟨by decide, _, by rw [if_pos r3]; rfl⟩⟩
                  · rw [if_neg r3, if_neg r3]
                    have w3 := within_iff.mp r3
                    have hd3 := dl_m T5.1 hp3
                    have hq3 : q2 + 1 + dl c (q2 + 1) ≤ m := by omega
                    generalize hv3 : nv c (q2 + 1) (dl c (q2 + 1)) = v3 at w3
                    generalize q2 + 1 + dl c (q2 + 1) = q3 at hq3
                    have u3 : ¬ v3 = -1 := fun q => by subst q; omega
                    dsimp only
                    rw [if_neg u3, C_tak T5 hq3]
                    by_cases s3 : c q3 = 59
                    · have hp4 := en q3 hq3 59 s3 (by decide)
                      rw [if_pos s3, if_pos s3]
                      dsimp only
                      rw [if_neg z10, if_neg z10]
                      rw [beg_C]
                      have B : BR (begF (gc 2 1) v1 v2 v3) (upd (upd (upd f0 1 v1) 2 v2) 3 v3) 0 := by
                        refine ⟨⟨fun j hj => ?_, fun b hb => absurd hb (Nat.not_lt_zero _)⟩, ⟨(show 0 ≤ (0 : Int32).toInt ∧ (0 : Int32).toInt ≤ 9 by decide), ⟨?_, ?_⟩, ⟨?_, ?_⟩, ⟨?_, ?_⟩, fun b hb => absurd hb (Nat.not_lt_zero _)⟩, fun i hi => ?_, rfl⟩
                        · have fj := hf0 j (by omega)
                          unfold begF upd
                          repeat' split
                          all_goals first | rfl | exact fj.symm | (exfalso; omega)
                        · show 0 ≤ v1.toInt; omega
                        · show v1.toInt ≤ 8; omega
                        · show 0 ≤ v2.toInt; omega
                        · show v2.toInt ≤ 8; omega
                        · show 0 ≤ v3.toInt; omega
                        · show v3.toInt ≤ 9; omega
                        · have : begF (gc 2 1) v1 v2 v3 (6 + i) = 0 := if_pos (by omega)
                          rw [this, e0]
                          omega
                      obtain ⟨q, e, f', b1, b2⟩ := beds_1 T5 T7 10 20 0 (q3 + 1) w7 _ _ rfl (by decide) hp4 (Or.inr rfl) B
                      refine ⟨q, e, f', ?_, ?_⟩
                      · show (F_X5_readBeds (Cs gc (q3 + 1) 0 (begF (gc 2 1) v1 v2 v3)) 1 5 0 2, F_X5_readBeds (Cs gc (q3 + 1) 0 (begF (gc 2 1) v1 v2 v3)) 1) = _
                        unfold F_X5_readBeds
                        rw [b1, Cs_w]
                      · rcases b2 with ⟨b3, f7, b4⟩ | ⟨b3, f7, k, b4, b5, b6⟩
                        · exact Or.inl ⟨b3, f7, b4⟩
                        · exact Or.inr ⟨b3, f7, k, w7, b4, b5, b6⟩
                    · exact ⟨q3, 1, gc 2 1, by rw [if_neg s3]; show (Cs gc (q3) 1 (gc 2 1) 5 0 2, Cs gc (q3) 1 (gc 2 1)) = _; rw [Cs_w], Or.inl ⟨by decide, _, by rw [if_neg s3]; rfl⟩⟩
              · exact ⟨q2, 1, gc 2 1, by rw [if_neg s2]; show (Cs gc (q2) 1 (gc 2 1) 5 0 2, Cs gc (q2) 1 (gc 2 1)) = _; rw [Cs_w], Or.inl ⟨by decide, _, by rw [if_neg s2]; rfl⟩⟩
        · exact ⟨q1, 1, gc 2 1, by rw [if_neg s1]; show (Cs gc (q1) 1 (gc 2 1) 5 0 2, Cs gc (q1) 1 (gc 2 1)) = _; rw [Cs_w], Or.inl ⟨by decide, _, by rw [if_neg s1]; rfl⟩⟩
  · exact ⟨0, 1, gc 2 1, by rw [if_neg a0]; show (Cs gc (0) 1 (gc 2 1) 5 0 2, Cs gc (0) 1 (gc 2 1)) = _; rw [Cs_w], Or.inl ⟨by decide, _, by rw [if_neg a0]; rfl⟩⟩
