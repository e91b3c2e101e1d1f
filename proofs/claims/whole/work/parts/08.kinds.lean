abbrev rmk (f n : Nat) : Room := { frames := f, cells := 0, slots := 0, locals := n }
def mm_W (pr : Nat → Nat → Prop) : Prop := pr 0 0 ∧ pr 1 0 ∧ pr 2 0 ∧ pr 2 1 ∧ pr 3 0 ∧ pr 4 0 ∧ pr 5 0 ∧ pr 6 0 ∧ pr 7 0
theorem W_0 {pr : Nat → Nat → Prop} (h : mm_W pr) : pr 0 0 := h.1
theorem W_1 {pr : Nat → Nat → Prop} (h : mm_W pr) : pr 1 0 := h.2.1
theorem W_20 {pr : Nat → Nat → Prop} (h : mm_W pr) : pr 2 0 := h.2.2.1
theorem W_21 {pr : Nat → Nat → Prop} (h : mm_W pr) : pr 2 1 := h.2.2.2.1
theorem W_3 {pr : Nat → Nat → Prop} (h : mm_W pr) : pr 3 0 := h.2.2.2.2.1
theorem W_4 {pr : Nat → Nat → Prop} (h : mm_W pr) : pr 4 0 := h.2.2.2.2.2.1
theorem W_5 {pr : Nat → Nat → Prop} (h : mm_W pr) : pr 5 0 := h.2.2.2.2.2.2.1
theorem W_6 {pr : Nat → Nat → Prop} (h : mm_W pr) : pr 6 0 := h.2.2.2.2.2.2.2.1
theorem W_7 {pr : Nat → Nat → Prop} (h : mm_W pr) : pr 7 0 := h.2.2.2.2.2.2.2.2
def qI (pr : Nat → Nat → Prop) (ad : Nat → Nat → Nat → Nat) (g : mm_g) (R : Int32) : mm_T := mm_D (some (.int R)) pr ad g
def qL (pr : Nat → Nat → Prop) (ad : Nat → Nat → Nat → Nat) (g : mm_g) (R : Int64) : mm_T := mm_D (some (.long R)) pr ad g
def qM (pr : Nat → Nat → Prop) (ad : Nat → Nat → Nat → Nat) (R : Int32 × mm_g) : mm_T := mm_D (some (.int R.1)) pr ad R.2
def qJ (pr : Nat → Nat → Prop) (ad : Nat → Nat → Nat → Nat) (R : Int64 × mm_g) : mm_T := mm_D (some (.long R.1)) pr ad R.2
def qN (pr : Nat → Nat → Prop) (ad : Nat → Nat → Nat → Nat) (R : mm_g) : mm_T := mm_D none pr ad R
def qR (pr : Nat → Nat → Prop) (ad : Nat → Nat → Nat → Nat) (a : Nat) (R : mm_g) : mm_T := mm_D (some (.ref a)) pr ad R
theorem lfI {pr : Nat → Nat → Prop} {ad : Nat → Nat → Nat → Nat} {g : mm_g} {R x : Int32} (h : R = x) : qI pr ad g R (some (.int x)) pr ad g := ⟨by rw [h], rfl, rfl, rfl⟩
theorem lfL {pr : Nat → Nat → Prop} {ad : Nat → Nat → Nat → Nat} {g : mm_g} {R x : Int64} (h : R = x) : qL pr ad g R (some (.long x)) pr ad g := ⟨by rw [h], rfl, rfl, rfl⟩
theorem lfM {pr : Nat → Nat → Prop} {ad : Nat → Nat → Nat → Nat} {g : mm_g} {R : Int32 × mm_g} {x : Int32} (h : R = (x, g)) : qM pr ad R (some (.int x)) pr ad g := ⟨by rw [h], rfl, rfl, by rw [h]⟩
theorem lfJ {pr : Nat → Nat → Prop} {ad : Nat → Nat → Nat → Nat} {g : mm_g} {R : Int64 × mm_g} {x : Int64} (h : R = (x, g)) : qJ pr ad R (some (.long x)) pr ad g := ⟨by rw [h], rfl, rfl, by rw [h]⟩
theorem lfN {pr : Nat → Nat → Prop} {ad : Nat → Nat → Nat → Nat} {g : mm_g} {R : mm_g} (h : R = g) : qN pr ad R none pr ad g := ⟨rfl, rfl, rfl, h.symm⟩
theorem lfR {pr : Nat → Nat → Prop} {ad : Nat → Nat → Nat → Nat} {g : mm_g} {a : Nat} {R : mm_g} (h : R = g) : qR pr ad a R (some (.ref a)) pr ad g := ⟨rfl, rfl, rfl, h.symm⟩
theorem mm_ne {x v : Int32} (h : ¬ x = v) {n : Int} (hv : v.toInt = n) : x.toInt ≠ n := fun q => h (Int32.toInt_inj.mp (q.trans hv.symm))
section KIN
variable {l : Launch} {G : mm_G} {own : String} {cc : ByteArray} {nL : Nat} {ret : Option FieldType} {rm : Room} {Q0 : mm_T} {mc ms cells slots pc : Nat} {L : List (Nat × Value)} {S : List Value} {pr : Nat → Nat → Prop} {ad : Nat → Nat → Nat → Nat} {g : mm_g}
theorem V_rp {α : Type} {q : α → mm_T} {R R2 : α} (h : R = R2) (k : V l G own cc nL ret rm (q R2) mc ms cells slots pc L S pr ad g) : V l G own cc nL ret rm (q R) mc ms cells slots pc L S pr ad g := by rw [h]; exact k
theorem V_lp {L2 : List (Nat × Value)} (ks : List Nat) (h : lv_pick L ks = L2) (k : V l G own cc nL ret rm Q0 mc ms cells slots pc L2 S pr ad g) : V l G own cc nL ret rm Q0 mc ms cells slots pc L S pr ad g := fun p e s m args below meth c H locs A ls hC hR hS hl => k p e s m args below meth c H locs A ls hC hR hS (lv_sub hl ks h)
theorem V_kI {R : Int32} (k : V l G own cc nL ret rm Q0 mc ms cells slots (pc + 3) L (.int R :: S) pr ad g) : ∀ (r : Option Value) (pr1 : Nat → Nat → Prop) (ad1 : Nat → Nat → Nat → Nat) (g1 : Nat → Nat → Nat → Int32), (qI pr ad g R) r pr1 ad1 g1 → V l G own cc nL ret rm Q0 mc ms (cells + 0) (slots + 0) (pc + 3) L (r.toList ++ S) pr1 ad1 g1 := by
  rintro r pr1 ad1 g1 ⟨rfl, rfl, rfl, rfl⟩
  exact k
theorem V_kL {R : Int64} (k : V l G own cc nL ret rm Q0 mc ms cells slots (pc + 3) L (.long R :: S) pr ad g) : ∀ (r : Option Value) (pr1 : Nat → Nat → Prop) (ad1 : Nat → Nat → Nat → Nat) (g1 : Nat → Nat → Nat → Int32), (qL pr ad g R) r pr1 ad1 g1 → V l G own cc nL ret rm Q0 mc ms (cells + 0) (slots + 0) (pc + 3) L (r.toList ++ S) pr1 ad1 g1 := by
  rintro r pr1 ad1 g1 ⟨rfl, rfl, rfl, rfl⟩
  exact k
theorem V_kM {R : Int32 × mm_g} (k : V l G own cc nL ret rm Q0 mc ms cells slots (pc + 3) L (.int R.1 :: S) pr ad R.2) : ∀ (r : Option Value) (pr1 : Nat → Nat → Prop) (ad1 : Nat → Nat → Nat → Nat) (g1 : Nat → Nat → Nat → Int32), (qM pr ad R) r pr1 ad1 g1 → V l G own cc nL ret rm Q0 mc ms (cells + 0) (slots + 0) (pc + 3) L (r.toList ++ S) pr1 ad1 g1 := by
  rintro r pr1 ad1 g1 ⟨rfl, rfl, rfl, rfl⟩
  exact k
theorem V_kJ {R : Int64 × mm_g} (k : V l G own cc nL ret rm Q0 mc ms cells slots (pc + 3) L (.long R.1 :: S) pr ad R.2) : ∀ (r : Option Value) (pr1 : Nat → Nat → Prop) (ad1 : Nat → Nat → Nat → Nat) (g1 : Nat → Nat → Nat → Int32), (qJ pr ad R) r pr1 ad1 g1 → V l G own cc nL ret rm Q0 mc ms (cells + 0) (slots + 0) (pc + 3) L (r.toList ++ S) pr1 ad1 g1 := by
  rintro r pr1 ad1 g1 ⟨rfl, rfl, rfl, rfl⟩
  exact k
theorem V_kN {R : mm_g} (k : V l G own cc nL ret rm Q0 mc ms cells slots (pc + 3) L (S) pr ad R) : ∀ (r : Option Value) (pr1 : Nat → Nat → Prop) (ad1 : Nat → Nat → Nat → Nat) (g1 : Nat → Nat → Nat → Int32), (qN pr ad R) r pr1 ad1 g1 → V l G own cc nL ret rm Q0 mc ms (cells + 0) (slots + 0) (pc + 3) L (r.toList ++ S) pr1 ad1 g1 := by
  rintro r pr1 ad1 g1 ⟨rfl, rfl, rfl, rfl⟩
  exact k
theorem V_kR {a : Nat} {R : mm_g} (k : V l G own cc nL ret rm Q0 mc ms cells slots (pc + 3) L (.ref a :: S) pr ad R) : ∀ (r : Option Value) (pr1 : Nat → Nat → Prop) (ad1 : Nat → Nat → Nat → Nat) (g1 : Nat → Nat → Nat → Int32), (qR pr ad a R) r pr1 ad1 g1 → V l G own cc nL ret rm Q0 mc ms (cells + 0) (slots + 0) (pc + 3) L (r.toList ++ S) pr1 ad1 g1 := by
  rintro r pr1 ad1 g1 ⟨rfl, rfl, rfl, rfl⟩
  exact k
end KIN
section CPY
variable {l : Launch} {G : mm_G} {own : String} {cc : ByteArray} {nL : Nat} {ret : Option FieldType} {rm : Room} {Q0 : mm_T} {mc ms cells slots pc : Nat} {L : List (Nat × Value)} {S : List Value} {pr : Nat → Nat → Prop} {ad : Nat → Nat → Nat → Nat} {g : mm_g}
/-- a stretch of one flat's content comes from another's -/
def cpF (g : mm_g) (k k2 a n : Nat) : mm_g := mw g 2 k (fun j => if a ≤ j ∧ j < a + n then g 2 k2 j else g 2 k j)
theorem cpF_at (g : mm_g) (k k2 a n t' k' j' : Nat) : cpF g k k2 a n t' k' j' = if t' = 2 ∧ k' = k ∧ a ≤ j' ∧ j' < a + n then g 2 k2 j' else g t' k' j' := by
  by_cases h : t' = 2 ∧ k' = k
  · obtain ⟨rfl, rfl⟩ := h
    simp [cpF, mw]
  · rw [if_neg (fun q => h ⟨q.1, q.2.1⟩)]
    simp only [cpF, mw, if_neg h]
theorem C_2_1 {k k2 idx : Nat} (hq : Cond.methodLink own idx arraycopyName ∈ wsL_law) (hp : pr 2 k) (hp2 : pr 2 k2) (hfr : 1 ≤ rm.frames) (hlo : (S.map fun v => v.category).sum + (nativeFrameWords "java/lang/System" "arraycopy" 5 + 11) ≤ rm.locals) (hdg : decode cc pc = .ok (.invokestatic idx, 3)) (kk : V l G own cc nL ret rm Q0 mc ms cells slots (pc + 3) L S pr ad (cpF g k k2 6 3)) : V l G own cc nL ret rm Q0 mc ms cells slots pc L (.int 3 :: .int 0 :: .ref (ad 2 k 1) :: .int 0 :: .ref (ad 2 k2 1) :: S) pr ad g := by
  refine V_acp (g' := cpF g k k2 6 3) (t := 2) (k := k2) (c0 := 1) (t1 := 2) (k1 := k) (c1 := 1) (n := 3) (n1 := 3) hq q_189 q_190 q_191 hp2 rfl hp rfl (by decide) (by decide) (by decide) (by decide) (by decide) ?_ (mm_hf (c0 := 1) _ (fun _ i h1 => if_neg (by omega)) (fun h => absurd rfl h) (fun _ i h1 h2 => if_neg (by omega)) (fun _ i h1 h2 => if_neg (by omega)) (fun _ i h1 h2 => if_neg (by omega))) hfr hlo hdg kk
  have e : (fun i => if i < 3 then cpF g k k2 6 3 2 k (6 + i) else 0) = va_cpy (fun i => if i < 3 then g 2 k2 (6 + i) else 0) (fun i => if i < 3 then g 2 k (6 + i) else 0) (0 : Int32).toNatClampNeg (0 : Int32).toNatClampNeg (3 : Int32).toNatClampNeg := by
    funext i
    show _ = va_cpy _ _ 0 0 3 i
    simp only [va_cpy, cpF, mw_s]
    by_cases h1 : i < 3
    · rw [if_pos h1, if_pos (show 6 ≤ 6 + i ∧ 6 + i < 6 + 3 by omega), if_pos (show 0 ≤ i ∧ i < 0 + 3 by omega), show 0 + (i - 0) = i by omega, if_pos h1]
    · rw [if_neg h1, if_neg (show ¬ (0 ≤ i ∧ i < 0 + 3) by omega), if_neg h1]
  show some (Sum.inl (_, _, Sum.inl _)) = _
  rw [e]
theorem C_2_2 {k k2 idx : Nat} (hq : Cond.methodLink own idx arraycopyName ∈ wsL_law) (hp : pr 2 k) (hp2 : pr 2 k2) (hfr : 1 ≤ rm.frames) (hlo : (S.map fun v => v.category).sum + (nativeFrameWords "java/lang/System" "arraycopy" 5 + 11) ≤ rm.locals) (hdg : decode cc pc = .ok (.invokestatic idx, 3)) (kk : V l G own cc nL ret rm Q0 mc ms cells slots (pc + 3) L S pr ad (cpF g k k2 9 9)) : V l G own cc nL ret rm Q0 mc ms cells slots pc L (.int 9 :: .int 0 :: .ref (ad 2 k 2) :: .int 0 :: .ref (ad 2 k2 2) :: S) pr ad g := by
  refine V_acp (g' := cpF g k k2 9 9) (t := 2) (k := k2) (c0 := 2) (t1 := 2) (k1 := k) (c1 := 2) (n := 9) (n1 := 9) hq q_189 q_190 q_191 hp2 rfl hp rfl (by decide) (by decide) (by decide) (by decide) (by decide) ?_ (mm_hf (c0 := 2) _ (fun _ i h1 => if_neg (by omega)) (fun _ i h1 h2 => if_neg (by omega)) (fun h => absurd rfl h) (fun _ i h1 h2 => if_neg (by omega)) (fun _ i h1 h2 => if_neg (by omega))) hfr hlo hdg kk
  have e : (fun i => if i < 9 then cpF g k k2 9 9 2 k (9 + i) else 0) = va_cpy (fun i => if i < 9 then g 2 k2 (9 + i) else 0) (fun i => if i < 9 then g 2 k (9 + i) else 0) (0 : Int32).toNatClampNeg (0 : Int32).toNatClampNeg (9 : Int32).toNatClampNeg := by
    funext i
    show _ = va_cpy _ _ 0 0 9 i
    simp only [va_cpy, cpF, mw_s]
    by_cases h1 : i < 9
    · rw [if_pos h1, if_pos (show 9 ≤ 9 + i ∧ 9 + i < 9 + 9 by omega), if_pos (show 0 ≤ i ∧ i < 0 + 9 by omega), show 0 + (i - 0) = i by omega, if_pos h1]
    · rw [if_neg h1, if_neg (show ¬ (0 ≤ i ∧ i < 0 + 9) by omega), if_neg h1]
  show some (Sum.inl (_, _, Sum.inl _)) = _
  rw [e]
theorem C_2_3 {k k2 idx : Nat} (hq : Cond.methodLink own idx arraycopyName ∈ wsL_law) (hp : pr 2 k) (hp2 : pr 2 k2) (hfr : 1 ≤ rm.frames) (hlo : (S.map fun v => v.category).sum + (nativeFrameWords "java/lang/System" "arraycopy" 5 + 11) ≤ rm.locals) (hdg : decode cc pc = .ok (.invokestatic idx, 3)) (kk : V l G own cc nL ret rm Q0 mc ms cells slots (pc + 3) L S pr ad (cpF g k k2 18 9)) : V l G own cc nL ret rm Q0 mc ms cells slots pc L (.int 9 :: .int 0 :: .ref (ad 2 k 3) :: .int 0 :: .ref (ad 2 k2 3) :: S) pr ad g := by
  refine V_acp (g' := cpF g k k2 18 9) (t := 2) (k := k2) (c0 := 3) (t1 := 2) (k1 := k) (c1 := 3) (n := 9) (n1 := 9) hq q_189 q_190 q_191 hp2 rfl hp rfl (by decide) (by decide) (by decide) (by decide) (by decide) ?_ (mm_hf (c0 := 3) _ (fun _ i h1 => if_neg (by omega)) (fun _ i h1 h2 => if_neg (by omega)) (fun _ i h1 h2 => if_neg (by omega)) (fun h => absurd rfl h) (fun _ i h1 h2 => if_neg (by omega))) hfr hlo hdg kk
  have e : (fun i => if i < 9 then cpF g k k2 18 9 2 k (18 + i) else 0) = va_cpy (fun i => if i < 9 then g 2 k2 (18 + i) else 0) (fun i => if i < 9 then g 2 k (18 + i) else 0) (0 : Int32).toNatClampNeg (0 : Int32).toNatClampNeg (9 : Int32).toNatClampNeg := by
    funext i
    show _ = va_cpy _ _ 0 0 9 i
    simp only [va_cpy, cpF, mw_s]
    by_cases h1 : i < 9
    · rw [if_pos h1, if_pos (show 18 ≤ 18 + i ∧ 18 + i < 18 + 9 by omega), if_pos (show 0 ≤ i ∧ i < 0 + 9 by omega), show 0 + (i - 0) = i by omega, if_pos h1]
    · rw [if_neg h1, if_neg (show ¬ (0 ≤ i ∧ i < 0 + 9) by omega), if_neg h1]
  show some (Sum.inl (_, _, Sum.inl _)) = _
  rw [e]
theorem C_2_4 {k k2 idx : Nat} (hq : Cond.methodLink own idx arraycopyName ∈ wsL_law) (hp : pr 2 k) (hp2 : pr 2 k2) (hfr : 1 ≤ rm.frames) (hlo : (S.map fun v => v.category).sum + (nativeFrameWords "java/lang/System" "arraycopy" 5 + 11) ≤ rm.locals) (hdg : decode cc pc = .ok (.invokestatic idx, 3)) (kk : V l G own cc nL ret rm Q0 mc ms cells slots (pc + 3) L S pr ad (cpF g k k2 27 9)) : V l G own cc nL ret rm Q0 mc ms cells slots pc L (.int 9 :: .int 0 :: .ref (ad 2 k 4) :: .int 0 :: .ref (ad 2 k2 4) :: S) pr ad g := by
  refine V_acp (g' := cpF g k k2 27 9) (t := 2) (k := k2) (c0 := 4) (t1 := 2) (k1 := k) (c1 := 4) (n := 9) (n1 := 9) hq q_189 q_190 q_191 hp2 rfl hp rfl (by decide) (by decide) (by decide) (by decide) (by decide) ?_ (mm_hf (c0 := 4) _ (fun _ i h1 => if_neg (by omega)) (fun _ i h1 h2 => if_neg (by omega)) (fun _ i h1 h2 => if_neg (by omega)) (fun _ i h1 h2 => if_neg (by omega)) (fun h => absurd rfl h)) hfr hlo hdg kk
  have e : (fun i => if i < 9 then cpF g k k2 27 9 2 k (27 + i) else 0) = va_cpy (fun i => if i < 9 then g 2 k2 (27 + i) else 0) (fun i => if i < 9 then g 2 k (27 + i) else 0) (0 : Int32).toNatClampNeg (0 : Int32).toNatClampNeg (9 : Int32).toNatClampNeg := by
    funext i
    show _ = va_cpy _ _ 0 0 9 i
    simp only [va_cpy, cpF, mw_s]
    by_cases h1 : i < 9
    · rw [if_pos h1, if_pos (show 27 ≤ 27 + i ∧ 27 + i < 27 + 9 by omega), if_pos (show 0 ≤ i ∧ i < 0 + 9 by omega), show 0 + (i - 0) = i by omega, if_pos h1]
    · rw [if_neg h1, if_neg (show ¬ (0 ≤ i ∧ i < 0 + 9) by omega), if_neg h1]
  show some (Sum.inl (_, _, Sum.inl _)) = _
  rw [e]
theorem C_4_1 {idx : Nat} {sp dp x : Int32} (hq : Cond.methodLink own idx arraycopyName ∈ wsL_law) (hp : pr 4 0) (h1 : ¬ sp < 0) (h2 : ¬ dp < 0) (h3 : ¬ x < 0) (h4 : sp.toNatClampNeg + x.toNatClampNeg ≤ 320) (h5 : dp.toNatClampNeg + x.toNatClampNeg ≤ 320) (hfr : 1 ≤ rm.frames) (hlo : (S.map fun v => v.category).sum + (nativeFrameWords "java/lang/System" "arraycopy" 5 + 11) ≤ rm.locals) (hdg : decode cc pc = .ok (.invokestatic idx, 3)) (kk : V l G own cc nL ret rm Q0 mc ms cells slots (pc + 3) L S pr ad (mw g 4 1 (va_cpy (g 4 1) (g 4 1) sp.toNatClampNeg dp.toNatClampNeg x.toNatClampNeg))) : V l G own cc nL ret rm Q0 mc ms cells slots pc L (.int x :: .int dp :: .ref (ad 4 0 1) :: .int sp :: .ref (ad 4 0 1) :: S) pr ad g :=
  V_acp (g' := mw g 4 1 (va_cpy (g 4 1) (g 4 1) sp.toNatClampNeg dp.toNatClampNeg x.toNatClampNeg)) (t := 4) (k := 0) (c0 := 1) (t1 := 4) (k1 := 0) (c1 := 1) (n := 320) (n1 := 320) hq q_189 q_190 q_191 hp rfl hp rfl h1 h2 h3 h4 h5 (by simp only [mm_ent, mm_cs, mw_s]; rfl) (mm_ho (by decide) _) hfr hlo hdg kk
end CPY
theorem toI_lt {x y : Int32} : x < y ↔ x.toInt < y.toInt := Int32.lt_iff_toInt_lt
theorem toI_le {x y : Int32} : x ≤ y ↔ x.toInt ≤ y.toInt := Int32.le_iff_toInt_le
theorem lp_up {x : Int32} {j n : Nat} (hj : j ≤ x.toInt.toNat) (h : ¬ x ≤ nI j) (hm : x.toInt.toNat - j < n + 1) : j + 1 ≤ x.toInt.toNat ∧ x.toInt.toNat - (j + 1) < n := by
  have hb := Int32.toInt_lt x
  rw [toI_le, nI_toInt (by omega)] at h
  omega
theorem lp_ul {x : Int32} {j n : Nat} (hx : x.toInt < 2 ^ 31 - 1) (hj : j ≤ x.toInt.toNat + 1) (h : ¬ x < nI j) (h0 : 0 ≤ x.toInt) (hm : x.toInt.toNat + 1 - j < n + 1) : j + 1 ≤ x.toInt.toNat + 1 ∧ x.toInt.toNat + 1 - (j + 1) < n := by
  rw [toI_lt, nI_toInt (by omega)] at h
  omega
theorem ix_x {x : Int32} {j n : Nat} (hj : j ≤ x.toInt.toNat) (h : ¬ x ≤ nI j) (hx : x.toInt.toNat ≤ n) : vp_in (nI j) n := by
  have hb := Int32.toInt_lt x
  rw [toI_le, nI_toInt (by omega)] at h
  exact vp_in_iff.mpr (by rw [nI_toInt (by omega)]; omega)
theorem ix_l {x : Int32} {j n : Nat} (hx : x.toInt < 2 ^ 31 - 1) (hj : j ≤ x.toInt.toNat + 1) (h : ¬ x < nI j) (h0 : 0 ≤ x.toInt) (hn : x.toInt.toNat < n) : vp_in (nI j) n := by
  rw [toI_lt, nI_toInt (by omega)] at h
  exact vp_in_iff.mpr (by rw [nI_toInt (by omega)]; omega)
section OPT
variable {l : Launch} {G : mm_G} {own : String} {cc : ByteArray} {nL : Nat} {ret : Option FieldType} {rm : Room} {Q0 : mm_T} {mc ms cells slots pc : Nat} {L : List (Nat × Value)} {S : List Value} {pr : Nat → Nat → Prop} {ad : Nat → Nat → Nat → Nat} {g : mm_g}
theorem A_0_N {x : Int32} (hp : pr 0 0) (hin : vp_in x 24) (h : g 0 1 x.toNatClampNeg = 0) (hdg : decode cc pc = .ok (.aaload, 1)) (kk : V l G own cc nL ret rm Q0 mc ms cells slots (pc + 1) L (.null :: S) pr ad g) : V l G own cc nL ret rm Q0 mc ms cells slots pc L (.int x :: .ref (ad 0 0 1) :: S) pr ad g := V_ald hp rfl rfl hin hdg (by
  show V l G own cc nL ret rm Q0 mc ms cells slots (pc + 1) L (va_rf (if g 0 1 x.toNatClampNeg = 0 then none else some (ad 2 (2 + x.toNatClampNeg) 0)) :: S) pr ad g
  rw [if_pos h]; exact kk)
theorem A_0_R {x : Int32} (hp : pr 0 0) (hin : vp_in x 24) (h : ¬ g 0 1 x.toNatClampNeg = 0) (hdg : decode cc pc = .ok (.aaload, 1)) (kk : V l G own cc nL ret rm Q0 mc ms cells slots (pc + 1) L (.ref (ad 2 (2 + x.toNatClampNeg) 0) :: S) pr ad g) : V l G own cc nL ret rm Q0 mc ms cells slots pc L (.int x :: .ref (ad 0 0 1) :: S) pr ad g := V_ald hp rfl rfl hin hdg (by
  show V l G own cc nL ret rm Q0 mc ms cells slots (pc + 1) L (va_rf (if g 0 1 x.toNatClampNeg = 0 then none else some (ad 2 (2 + x.toNatClampNeg) 0)) :: S) pr ad g
  rw [if_neg h]; exact kk)
theorem A_6_N {x : Int32} (hp : pr 6 0) (hin : vp_in x 2) (h : g 6 1 x.toNatClampNeg = 0) (hdg : decode cc pc = .ok (.aaload, 1)) (kk : V l G own cc nL ret rm Q0 mc ms cells slots (pc + 1) L (.null :: S) pr ad g) : V l G own cc nL ret rm Q0 mc ms cells slots pc L (.int x :: .ref (ad 6 0 1) :: S) pr ad g := V_ald hp rfl rfl hin hdg (by
  show V l G own cc nL ret rm Q0 mc ms cells slots (pc + 1) L (va_rf (if g 6 1 x.toNatClampNeg = 0 then none else some (ad 2 (26 + x.toNatClampNeg) 0)) :: S) pr ad g
  rw [if_pos h]; exact kk)
theorem A_6_R {x : Int32} (hp : pr 6 0) (hin : vp_in x 2) (h : ¬ g 6 1 x.toNatClampNeg = 0) (hdg : decode cc pc = .ok (.aaload, 1)) (kk : V l G own cc nL ret rm Q0 mc ms cells slots (pc + 1) L (.ref (ad 2 (26 + x.toNatClampNeg) 0) :: S) pr ad g) : V l G own cc nL ret rm Q0 mc ms cells slots pc L (.int x :: .ref (ad 6 0 1) :: S) pr ad g := V_ald hp rfl rfl hin hdg (by
  show V l G own cc nL ret rm Q0 mc ms cells slots (pc + 1) L (va_rf (if g 6 1 x.toNatClampNeg = 0 then none else some (ad 2 (26 + x.toNatClampNeg) 0)) :: S) pr ad g
  rw [if_neg h]; exact kk)
end OPT
theorem wr_o {g : mm_g} {t k j j2 : Nat} {x : Int32} (h : j2 ≠ j) : wr g t k j x t k j2 = g t k j2 := by rw [wr_at, if_neg (fun q => h q.2.2)]
theorem ixs {x b : Int32} {n : Nat} (h0 : ¬ x < 0) (h1 : x < b) (hb : b.toInt = n) : vp_in x n := vp_in_iff.mpr (by
  rw [toI_lt] at h0 h1
  have e0 : (0 : Int32).toInt = 0 := rfl
  omega)
theorem ixr {x b : Int32} {n : Nat} (h0 : ¬ x < 0) (h1 : ¬ b ≤ x) (hb : b.toInt = n) : vp_in x n := vp_in_iff.mpr (by
  rw [toI_lt] at h0
  rw [toI_le] at h1
  have e0 : (0 : Int32).toInt = 0 := rfl
  omega)
