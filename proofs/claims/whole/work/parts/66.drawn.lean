theorem warmTo_F {g : mm_g} {k b : Nat} {x : Int32} (v : Vd (g 2 k)) (hb : b < nb (g 2 k)) : F_X2_warmTo g k (nI b) x = mw g 2 k (upd (g 2 k) (27 + b) x) := by
  have h9 := v.n9
  unfold F_X2_warmTo
  rw [has_F v, hasF_nI v hb, if_neg (by decide), c0 (by omega)]
  rfl
theorem warm_vd {f : Fl} {b w : Nat} (v : Vd f) (hw : w ≤ 9) : Vd (upd f (27 + b) (nI w)) := by
  have hn : nb (upd f (27 + b) (nI w)) = nb f := upd_nb (by omega)
  have hT := nI_toInt (n := w) (by omega)
  refine ⟨?_, ?_, ?_, ?_, fun c hc => ?_⟩
  · rw [upd, if_neg (by omega)]; exact v.b0
  · rw [upd, if_neg (by omega)]; exact v.ca
  · rw [upd, if_neg (by omega)]; exact v.cb
  · rw [upd, if_neg (by omega)]; exact v.lot
  · rw [hn] at hc
    have h2 := v.bed c hc
    have h9 := v.n9
    rw [upd, upd, upd]
    refine ⟨?_, ?_, ?_⟩
    · split
      · next z => omega
      · exact h2.1
    · split
      · next z => omega
      · exact h2.2.1
    · split
      · rw [hT]; omega
      · exact h2.2.2
theorem warm_eq {f f2 : Fl} {b : Nat} {x : Int32} (e : EqF f f2) : EqF (upd f (27 + b) x) (upd f2 (27 + b) x) := by
  refine ⟨fun j hj => ?_, fun c hc => ?_⟩
  · rw [upd, upd]
    split
    · rfl
    · exact e.lo j hj
  · rw [upd_nb (by omega)] at hc
    have h2 := e.bed c hc
    unfold upd
    refine ⟨?_, ?_, ?_⟩
    · split
      · rfl
      · exact h2.1
    · split
      · rfl
      · exact h2.2.1
    · split
      · rfl
      · exact h2.2.2
/-! a bed is raked -/
def liN (f : Fl) (b : Nat) : Nat := (lieF f b).toNatClampNeg
theorem liN_3 {f : Fl} {b : Nat} : liN f b < 3 ∧ lieF f b = nI (liN f b) := by
  unfold liN
  rcases lieF_012 (f := f) (b := b) with h | h | h <;> rw [h] <;> exact ⟨by decide, rfl⟩
def rakeF (f : Fl) (b : Nat) (n : Int32) : Fl := upd (upd f (6 + liN f b) (f (6 + liN f b) + 3 * n / 4)) (18 + b) (f (18 + b) - 3 * n / 4)
theorem rake_F {g : mm_g} {k b : Nat} {n : Int32} (v : Vd (g 2 k)) (hb : b < nb (g 2 k)) : F_X2_rakeUp g k (nI b) n = (3 * n / 4, mw g 2 k (rakeF (g 2 k) b n)) := by
  have h9 := v.n9
  obtain ⟨h3, e3⟩ := liN_3 (f := g 2 k) (b := b)
  have hw : ¬ F_X6_within (lieF (g 2 k) b) 0 2 = 0 := by
    rcases lieF_012 (f := g 2 k) (b := b) with h | h | h <;> rw [h] <;> decide
  unfold F_X2_rakeUp
  rw [has_F v, hasF_nI v hb, if_neg (by decide), lying_F v hb, if_neg hw, sieved_F, c0 (by omega), wr_ss, if_neg (show ¬ 18 + b = 6 + (lieF (g 2 k) b).toNatClampNeg by rw [e3, c0 (by omega)]; omega), wr2]
  rfl
theorem rake7_F {g : mm_g} {b : Nat} {n : Int32} (hb : b < 9) : F_X7_rakeBy g (nI b) n = mw g 7 4 (rakeF (g 7 4) b n) := by
  obtain ⟨h3, e3⟩ := liN_3 (f := g 7 4) (b := b)
  unfold F_X7_rakeBy
  rw [lies_F hb, e3, c6 (by omega), c18 (by omega), wr_ss, if_neg (by omega), wr2]
  rfl
theorem rake_nb {f : Fl} {b : Nat} {n : Int32} : nb (rakeF f b n) = nb f := by
  unfold rakeF
  rw [upd_nb (by omega), upd_nb (by omega)]
theorem three_4 : ∀ m, m < 100 → (3 * nI m / 4).toInt = ((3 * m / 4 : Nat) : Int) := by decide +kernel
theorem rake_vd {f : Fl} {b m : Nat} (v : Vd f) (hb : b < nb f) (hm : m < 100) (h : (m : Int) ≤ (f (18 + b)).toInt) : Vd (rakeF f b (nI m)) := by
  have h3 := (liN_3 (f := f) (b := b)).1
  have h9 := v.n9
  have h4 := three_4 m hm
  refine ⟨?_, ?_, ?_, ?_, fun c hc => ?_⟩
  · rw [rakeF, upd, if_neg (by omega), upd, if_neg (by omega)]; exact v.b0
  · rw [rakeF, upd, if_neg (by omega), upd, if_neg (by omega)]; exact v.ca
  · rw [rakeF, upd, if_neg (by omega), upd, if_neg (by omega)]; exact v.cb
  · rw [rakeF, upd, if_neg (by omega), upd, if_neg (by omega)]; exact v.lot
  · rw [rake_nb] at hc
    have h2 := v.bed c hc
    refine ⟨?_, ?_, ?_⟩
    · rw [rakeF, upd, if_neg (by omega), upd, if_neg (by omega)]; exact h2.1
    · rw [rakeF, upd]
      split
      · next z =>
        have h5 := (v.bed b hb).2.1
        rw [Int32.toInt_sub, h4, Int.bmod_eq_of_le_mul_two (by omega) (by omega)]
        omega
      · rw [upd, if_neg (by omega)]; exact h2.2.1
    · rw [rakeF, upd, if_neg (by omega), upd, if_neg (by omega)]; exact h2.2.2
theorem rake_at {f : Fl} {b j : Nat} {n : Int32} : rakeF f b n j = if j = 18 + b then f (18 + b) - 3 * n / 4 else if j = 6 + liN f b then f (6 + liN f b) + 3 * n / 4 else f j := rfl
theorem rake_eq {f f2 : Fl} {b : Nat} {n : Int32} (e : EqF f f2) (hb : b < nb f) : EqF (rakeF f b n) (rakeF f2 b n) := by
  have h3 := (liN_3 (f := f) (b := b)).1
  have hl : liN f2 b = liN f b := by unfold liN; rw [lieF_eq e hb]
  have hB := e.bed b hb
  refine ⟨fun j hj => ?_, fun c hc => ?_⟩
  · rw [rake_at, rake_at, hl, e.lo (6 + liN f b) (by omega), hB.2.1]
    have h5 : ¬ j = 18 + b := by omega
    simp only [if_neg h5]
    by_cases z : j = 6 + liN f b
    · simp only [if_pos z]
    · simp only [if_neg z]; exact e.lo j hj
  · rw [rake_nb] at hc
    have h2 := e.bed c hc
    have y1 : ¬ 9 + c = 6 + liN f b := by omega
    have y2 : ¬ 18 + c = 6 + liN f b := by omega
    have y3 : ¬ 27 + c = 6 + liN f b := by omega
    simp only [rake_at, hl, hB.2.1, if_neg y1, if_neg y2, if_neg y3]
    refine ⟨?_, ?_, ?_⟩
    · by_cases z : 9 + c = 18 + b
      · simp only [if_pos z]
      · simp only [if_neg z]; exact h2.1
    · by_cases z : 18 + c = 18 + b
      · simp only [if_pos z]
      · simp only [if_neg z]; exact h2.2.1
    · by_cases z : 27 + c = 18 + b
      · simp only [if_pos z]
      · simp only [if_neg z]; exact h2.2.2
theorem rake_ct {f : Fl} {b m n : Nat} (c : Ct n f) (hm : m < 100) (hn : n ≤ 1000) : Ct (n + 1) (rakeF f b (nI m)) := fun i hi => by
  have h3 := (liN_3 (f := f) (b := b)).1
  have h1 := c i hi
  rw [rakeF, upd, if_neg (by omega), upd]
  split
  · next z =>
    have h2 := c (liN f b) (by omega)
    have h4 := three_4 m hm
    rw [Int32.toInt_add, h4, Int.bmod_eq_of_le_mul_two (by omega) (by omega)]
    omega
  · omega
/-! a year -/
def nx (y : Int64) : Int64 := y * 16807 - y * 16807 / 2147483647 * 2147483647
def yrF (p2 p3 : Prop) (d2 : Decidable p2) (d3 : Decidable p3) (c w b : Nat) (f : Fl) : Fl :=
  let f1 := if p2 then cellF f 0 (nI c) else cellF f 1 (nI c)
  let f2 := if p3 then upd f1 (27 + b) (nI w) else f1
  if vetoF (tideF f2) b = 0 then rakeF (tideF f2) b (tideF f2 (18 + b)) else tideF f2
def yrS (X : Int64) (f : Fl) : Fl := yrF (lg_cmp (X - X / 2 * 2) 0 = 0) (lg_cmp (X - X / 3 * 3) 0 = 0) inferInstance inferInstance (X - X / 9 * 9).toInt32.toNatClampNeg (X - X / 10 * 10).toInt32.toNatClampNeg (X - X / (f 0).toInt64 * (f 0).toInt64).toInt32.toNatClampNeg f
theorem rem_n {X k : Int64} {m : Nat} (hX : 0 ≤ X.toInt) (hk : k.toInt = m) (h0 : 0 < m) (hm : m < 1000) : (X - X / k * k).toInt32.toNatClampNeg < m ∧ (X - X / k * k).toInt32 = nI (X - X / k * k).toInt32.toNatClampNeg := by
  have h1 := l_rem (a := X) (b := k) hX (by omega)
  have h2 : (X - X / k * k).toInt32.toInt = (X - X / k * k).toInt := by
    rw [Int64.toInt_toInt32, Int.bmod_eq_of_le_mul_two (by omega) (by omega)]
  obtain ⟨j, hj, e⟩ := nI_ofT (x := (X - X / k * k).toInt32) (m := m) (by omega)
  rw [e, nI_toInt (by omega)] at h2
  rw [e, c0 (by omega)]
  exact ⟨by omega, rfl⟩
theorem nx_p {y : Int64} (hy : 0 ≤ y.toInt ∧ y.toInt < 2147483648) : 0 ≤ (nx y).toInt ∧ (nx y).toInt < 2147483648 := rem_y hy
theorem yrF_s {p2 p3 : Prop} {d2 : Decidable p2} {d3 : Decidable p3} {c w b : Nat} {f f2 : Fl} (v : Vd f) (hc : c < 9) (hw : w < 10) (hb : b < nb f) (e : EqF f f2) : Vd (yrF p2 p3 d2 d3 c w b f) ∧ nb (yrF p2 p3 d2 d3 c w b f) = nb f ∧ EqF (yrF p2 p3 d2 d3 c w b f) (yrF p2 p3 d2 d3 c w b f2) := by
  have h1 : Vd (if p2 then cellF f 0 (nI c) else cellF f 1 (nI c)) ∧ nb (if p2 then cellF f 0 (nI c) else cellF f 1 (nI c)) = nb f ∧ EqF (if p2 then cellF f 0 (nI c) else cellF f 1 (nI c)) (if p2 then cellF f2 0 (nI c) else cellF f2 1 (nI c)) := by
    by_cases q : p2
    · rw [if_pos q, if_pos q]; exact ⟨cell_vd (Or.inl rfl) hc v, cell_nb (Or.inl rfl), cell_eq (Or.inl rfl) e⟩
    · rw [if_neg q, if_neg q]; exact ⟨cell_vd (Or.inr rfl) hc v, cell_nb (Or.inr rfl), cell_eq (Or.inr rfl) e⟩
  unfold yrF
  generalize (if p2 then cellF f 0 (nI c) else cellF f 1 (nI c)) = A at h1 ⊢
  generalize (if p2 then cellF f2 0 (nI c) else cellF f2 1 (nI c)) = A2 at h1 ⊢
  dsimp only
  have h2 : Vd (if p3 then upd A (27 + b) (nI w) else A) ∧ nb (if p3 then upd A (27 + b) (nI w) else A) = nb f ∧ EqF (if p3 then upd A (27 + b) (nI w) else A) (if p3 then upd A2 (27 + b) (nI w) else A2) := by
    by_cases q : p3
    · rw [if_pos q, if_pos q]; exact ⟨warm_vd h1.1 (by omega), (upd_nb (by omega)).trans h1.2.1, warm_eq h1.2.2⟩
    · rw [if_neg q, if_neg q]; exact h1
  generalize (if p3 then upd A (27 + b) (nI w) else A) = B at h2 ⊢
  generalize (if p3 then upd A2 (27 + b) (nI w) else A2) = B2 at h2 ⊢
  have vT := tideF_vd h2.1
  have nT : nb (tideF B) = nb f := (tideF_nb h2.1).trans h2.2.1
  have eT := tideF_eq h2.1 h2.2.2
  have hbT : b < nb (tideF B) := by rw [nT]; exact hb
  have h5 := (vT.bed b hbT).2.1
  rw [vetoF_eq eT, ← (eT.bed b hbT).2.1]
  by_cases q : vetoF (tideF B) b = 0
  · rw [if_pos q, if_pos q]
    obtain ⟨m, hm, em⟩ := nI_ofT (x := tideF B (18 + b)) (m := 99) h5
    refine ⟨?_, rake_nb.trans nT, rake_eq eT hbT⟩
    rw [em]
    exact rake_vd vT hbT (by omega) (by rw [em, nI_toInt (by omega)]; omega)
  · rw [if_neg q, if_neg q]
    exact ⟨vT, nT, eT⟩
theorem yrS_s {X : Int64} {f f2 : Fl} (hX : 0 ≤ X.toInt) (v : Vd f) (h0 : 0 < nb f) (e : EqF f f2) : Vd (yrS X f) ∧ nb (yrS X f) = nb f ∧ EqF (yrS X f) (yrS X f2) := by
  have h9 := v.n9
  have hk : (f 0).toInt64.toInt = nb f := by rw [Int32.toInt_toInt64, v.f0, nI_toInt (by omega)]
  unfold yrS
  rw [← e.lo 0 (by decide)]
  exact yrF_s v (rem_n (m := 9) hX rfl (by decide) (by decide)).1 (rem_n (m := 10) hX rfl (by decide) (by decide)).1 (rem_n (m := nb f) hX hk h0 (by omega)).1 e
def yrG (nxf : Int64 → Int64) (S : Int64 → Fl → Fl) : Nat → Int64 → Fl → Fl
  | 0, _, f => f
  | m + 1, y, f => yrG nxf S m (nxf y) (S (nxf y) f)
theorem yrG_1 {nxf : Int64 → Int64} {S : Int64 → Fl → Fl} {m : Nat} {y : Int64} {f : Fl} : yrG nxf S (m + 1) y f = yrG nxf S m (nxf y) (S (nxf y) f) := rfl
theorem yrG_0 {nxf : Int64 → Int64} {S : Int64 → Fl → Fl} {y : Int64} {f : Fl} : yrG nxf S 0 y f = f := rfl
def yrL (m : Nat) (y : Int64) (f : Fl) : Fl := yrG nx yrS m y f
theorem yrL_0 {y : Int64} {f : Fl} : yrL 0 y f = f := by
  unfold yrL
  exact yrG_0
theorem yrL_1 {m : Nat} {y : Int64} {f : Fl} : yrL (m + 1) y f = yrL m (nx y) (yrS (nx y) f) := by
  unfold yrL
  exact yrG_1
theorem yrL_s : ∀ (m : Nat) (y : Int64) (f f2 : Fl), (0 ≤ y.toInt ∧ y.toInt < 2147483648) → Vd f → 0 < nb f → EqF f f2 → Vd (yrL m y f) ∧ nb (yrL m y f) = nb f ∧ EqF (yrL m y f) (yrL m y f2) := by
  intro m
  induction m with
  | zero =>
    intro y f f2 hy v h0 e
    rw [yrL_0, yrL_0]
    exact ⟨v, rfl, e⟩
  | succ m ih =>
    intro y f f2 hy v h0 e
    obtain ⟨a1, a2, a3⟩ := yrS_s (nx_p hy).1 v h0 e
    obtain ⟨b1, b2, b3⟩ := ih (nx y) (yrS (nx y) f) (yrS (nx y) f2) (nx_p hy) a1 (by rw [a2]; exact h0) a3
    rw [yrL_1, yrL_1]
    exact ⟨b1, b2.trans a2, b3⟩

