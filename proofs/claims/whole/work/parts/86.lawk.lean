/-! what the tables and the start say -/
theorem aC_of {args : Array Value} {s : State} {ty : FieldType} (h : (Cond.arrayClass ty).before args s = true) (e : ty = .int ∨ ty = .boolean) : ∃ cA : ClassId, ArrOfT s cA ty ∧ va_RA s cA ty := by
  obtain ⟨cA, kA, comp, h1, h2, h3⟩ := Cond.arrayClass_spec h
  refine ⟨cA, fun n z => ⟨fun k h => (by cases h), kA, h2, comp, h3⟩, ?_⟩
  rcases e with rfl | rfl
  · exact h1
  · exact h1
theorem aO_of {args : Array Value} {s : State} {C : String} (h : (Cond.arrayOver (.object C)).before args s = true) : ∃ cA : ClassId, ArrOfT s cA (.object C) ∧ va_RA s cA (.object C) := by
  obtain ⟨comp, cA, kA, h1, h2, h3, h4, h5⟩ := Cond.arrayOver_spec h
  exact ⟨cA, fun n z => ⟨fun k h => (by cases h), kA, h3, comp, h4⟩, kA, comp, h3, h4, h1, h5⟩
theorem lS_1 {args : Array Value} {s : State} {C n : String} {f : Nat → Int32} {A : Nat → Prop} (hl : (Cond.laysStatic C n "[I").before args s = true) (hini : (Cond.initialized C).before args s = true) (harr : (Cond.arrayOf (.static C n "[I") .int).before args s = true) (hlen : (Cond.eq (.length (.static C n "[I")) (.int 6)).before args s = true) (hel : ∀ j, j < 6 → (Cond.eq (.elem (.static C n "[I") (.int (Int32.ofNat j))) (.int (f j))).before args s = true) (hA : ∀ a : Nat, a < s.heap.size → ¬ A a) : ∃ a : Nat, mm_S1 C n a f A s s.heap := by
  obtain ⟨t, ht, hT⟩ := va_Tof (f := fun j => .int (f j)) (by decide) harr (va_eqt hlen) (fun j hj => va_eqt (hel j hj)) hA
  exact ⟨t, va_Zof hl hini ht hA, hT⟩
theorem six_all {P : Nat → Prop} (h0 : P 0) (h1 : P 1) (h2 : P 2) (h3 : P 3) (h4 : P 4) (h5 : P 5) : ∀ j, j < 6 → P j := by
  intro j hj
  rcases (show j = 0 ∨ j = 1 ∨ j = 2 ∨ j = 3 ∨ j = 4 ∨ j = 5 by omega) with rfl | rfl | rfl | rfl | rfl | rfl
  · exact h0
  · exact h1
  · exact h2
  · exact h3
  · exact h4
  · exact h5
theorem lN_F : ∀ w ∈ mm_nF, (Cond.fieldLinkNest w.1 w.2.1 w.2.2.1 w.2.2.2.1 w.2.2.2.2 "CockleSquires") ∈ lw_tbl := by decide +kernel
theorem lN_M : ∀ w ∈ mm_nM, (Cond.methodLinkNest w.1 w.2.1 w.2.2 "CockleSquires") ∈ lw_tbl := by decide +kernel
theorem lN_all {args : Array Value} {s : State} (hts : ∀ w ∈ lw_tbl, w.before args s = true) : mm_N s :=
  ⟨fun w hw => va_Nw.of rfl (hts _ (lN_F w hw)), fun w hw => va_Nw.of rfl (hts _ (lN_M w hw))⟩
theorem lT_AO : (Cond.arrayOver (.object RX2)) ∈ lw_tbl := by decide +kernel
theorem lT_s0 : (Cond.laysStatic RX1 "PARENTS" "[I") ∈ lw_tbl := by decide +kernel
theorem lT_s1 : (Cond.laysStatic RX1 "SIZE_BODIES" "[I") ∈ lw_tbl := by decide +kernel
theorem lT_s2 : (Cond.laysStatic RX1 "MARK_BODIES" "[I") ∈ lw_tbl := by decide +kernel
set_option maxRecDepth 100000 in
theorem lS_all {b : Nat} {s : State} (hts : ∀ w ∈ lw_tbl, w.before #[Value.ref b] s = true) (hgv : (Jvm.Cond.and given_1 narrow_1).before #[Value.ref b] s = true) : ∃ a0 a1 a2 : Nat, mm_S1 RX1 "PARENTS" a0 mm_t0 (lA s) s s.heap ∧ mm_S1 RX1 "SIZE_BODIES" a1 mm_t1 (lA s) s s.heap ∧ mm_S1 RX1 "MARK_BODIES" a2 mm_t2 (lA s) s s.heap := by
  have hs := flat_of_before _ hgv
  have hA : ∀ a : Nat, a < s.heap.size → ¬ lA s a := fun a h => Nat.not_le.mpr h
  have hi := hts _ (lt_all _ q_35)
  obtain ⟨a0, h0⟩ := lS_1 (f := mm_t0) (hts _ lT_s0) hi (hs _ (by decide +kernel)) (hs _ (by decide +kernel)) (six_all (hs _ (by decide +kernel)) (hs _ (by decide +kernel)) (hs _ (by decide +kernel)) (hs _ (by decide +kernel)) (hs _ (by decide +kernel)) (hs _ (by decide +kernel))) hA
  obtain ⟨a1, h1⟩ := lS_1 (f := mm_t1) (hts _ lT_s1) hi (hs _ (by decide +kernel)) (hs _ (by decide +kernel)) (six_all (hs _ (by decide +kernel)) (hs _ (by decide +kernel)) (hs _ (by decide +kernel)) (hs _ (by decide +kernel)) (hs _ (by decide +kernel)) (hs _ (by decide +kernel))) hA
  obtain ⟨a2, h2⟩ := lS_1 (f := mm_t2) (hts _ lT_s2) hi (hs _ (by decide +kernel)) (hs _ (by decide +kernel)) (six_all (hs _ (by decide +kernel)) (hs _ (by decide +kernel)) (hs _ (by decide +kernel)) (hs _ (by decide +kernel)) (hs _ (by decide +kernel)) (hs _ (by decide +kernel))) hA
  exact ⟨a0, a1, a2, h0, h1, h2⟩
theorem lK_all {args : Array Value} {s : State} (hts : ∀ w ∈ lw_tbl, w.before args s = true) : ∃ (dC : Nat → ClassId) (dI : Nat → Nat → Nat) (cI cZ cF : ClassId), ∀ a0 a1 a2 : Nat, mm_K ((dC, dI), cI, cZ, cF, a0, a1, a2) s := by
  obtain ⟨c0, i0, k0⟩ := u_known (C := RX0) (T := TX0) (N := 3) (n := 3) hts lx_0 (hts _ (lt_all _ q_25))
  obtain ⟨c1, i1, k1⟩ := u_known (C := RX1) (T := TX1) (N := 2) (n := 2) hts lx_1 (hts _ (lt_all _ q_34))
  obtain ⟨c2, i2, k2⟩ := u_known (C := RX2) (T := TX2) (N := 10) (n := 10) hts lx_2 (hts _ (lt_all _ q_21))
  obtain ⟨c3, i3, k3⟩ := u_known (C := RX3) (T := TX3) (N := 4) (n := 4) hts lx_3 (hts _ (lt_all _ q_30))
  obtain ⟨c4, i4, k4⟩ := u_known (C := RX4) (T := TX4) (N := 3) (n := 3) hts lx_4 (hts _ (lt_all _ q_13))
  obtain ⟨c5, i5, k5⟩ := u_known (C := RX5) (T := TX5) (N := 4) (n := 4) hts lx_5 (hts _ (lt_all _ q_17))
  obtain ⟨c6, i6, k6⟩ := u_known (C := RX6) (T := TX6) (N := 9) (n := 9) hts lx_6 (hts _ (lt_all _ q_1))
  obtain ⟨c7, i7, k7⟩ := u_known (C := RX7) (T := TX7) (N := 23) (n := 23) hts lx_7 (hts _ (lt_all _ q_4))
  obtain ⟨cI, hI1, hI2⟩ := aC_of (hts _ (lt_all _ q_43)) (Or.inl rfl)
  obtain ⟨cZ, hZ1, hZ2⟩ := aC_of (hts _ (lt_all _ q_100)) (Or.inr rfl)
  obtain ⟨cF, hF1, hF2⟩ := aO_of (hts _ lT_AO)
  refine ⟨fun k => if k = 0 then c0 else if k = 1 then c1 else if k = 2 then c2 else if k = 3 then c3 else if k = 4 then c4 else if k = 5 then c5 else if k = 6 then c6 else c7, fun k => if k = 0 then i0 else if k = 1 then i1 else if k = 2 then i2 else if k = 3 then i3 else if k = 4 then i4 else if k = 5 then i5 else if k = 6 then i6 else i7, cI, cZ, cF, fun a0 a1 a2 => ⟨⟨fun k q hq => ?_, fun k q hq => ?_⟩, lN_all hts⟩⟩
  · match k, hq with
    | 0, hq => cases hq; exact k0
    | 1, hq => cases hq; exact k1
    | 2, hq => cases hq; exact k2
    | 3, hq => cases hq; exact k3
    | 4, hq => cases hq; exact k4
    | 5, hq => cases hq; exact k5
    | 6, hq => cases hq; exact k6
    | 7, hq => cases hq; exact k7
    | k + 8, hq => simp [vwCl] at hq
  · match k, hq with
    | 0, hq => cases hq; exact ⟨hI1, hI2⟩
    | 1, hq => cases hq; exact ⟨hZ1, hZ2⟩
    | 2, hq => cases hq; exact ⟨hF1, hF2⟩
    | k + 3, hq => simp [mm_ty] at hq
