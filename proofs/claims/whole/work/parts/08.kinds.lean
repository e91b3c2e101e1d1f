abbrev rmk (f n : Nat) : Room := { frames := f, cells := 0, slots := 0, locals := n }
def mm_W (pr : Nat → Nat → Prop) : Prop := pr 0 0 ∧ pr 1 0 ∧ pr 2 0 ∧ pr 2 1 ∧ pr 3 0 ∧ pr 4 0 ∧ pr 5 0 ∧ pr 6 0 ∧ pr 7 0
theorem W_0 {pr : Nat → Nat → Prop} (h : mm_W pr) : pr 0 0 := h.1
theorem W_1 {pr : Nat → Nat → Prop} (h : mm_W pr) : pr 1 0 := h.2.1
theorem W_20 {pr : Nat → Nat → Prop} (h : mm_W pr) : pr 2 0 := h.2.2.1
theorem W_21 {pr : Nat → Nat → Prop} (h : mm_W pr) : pr 2 1 := h.2.2.2.1
theorem W_3 {pr : Nat → Nat → Prop} (h : mm_W pr) : pr 3 0 := h.2.2.2.2.1
theorem W_4 {pr : Nat → Nat → Prop} (h : mm_W pr) : pr 4 0 := h.2.2.2.2.2.1
theorem W_5 {pr : Nat → Nat → Prop} (h : mm_W pr) : pr 5 0 := h.2.2.2.2.2.2.1
theorem W_6 {pr : Nat → Nat → Prop} (h : mm_W pr) : pr 6 0 := h.2.2.2.2.2.2.2.1
theorem W_7 {pr : Nat → Nat → Prop} (h : mm_W pr) : pr 7 0 := h.2.2.2.2.2.2.2.2
def qI (pr : Nat → Nat → Prop) (ad : Nat → Nat → Nat → Nat) (g : mm_g) (R : Int32) : mm_T := mm_D (some (.int R)) pr ad g
def qL (pr : Nat → Nat → Prop) (ad : Nat → Nat → Nat → Nat) (g : mm_g) (R : Int64) : mm_T := mm_D (some (.long R)) pr ad g
def qM (pr : Nat → Nat → Prop) (ad : Nat → Nat → Nat → Nat) (R : Int32 × mm_g) : mm_T := mm_D (some (.int R.1)) pr ad R.2
def qJ (pr : Nat → Nat → Prop) (ad : Nat → Nat → Nat → Nat) (R : Int64 × mm_g) : mm_T := mm_D (some (.long R.1)) pr ad R.2
def qN (pr : Nat → Nat → Prop) (ad : Nat → Nat → Nat → Nat) (R : mm_g) : mm_T := mm_D none pr ad R
def qR (pr : Nat → Nat → Prop) (ad : Nat → Nat → Nat → Nat) (a : Nat) (R : mm_g) : mm_T := mm_D (some (.ref a)) pr ad R
theorem lfI {pr : Nat → Nat → Prop} {ad : Nat → Nat → Nat → Nat} {g : mm_g} {R x : Int32} (h : R = x) : qI pr ad g R (some (.int x)) pr ad g := ⟨by rw [h], rfl, rfl, rfl⟩
theorem lfL {pr : Nat → Nat → Prop} {ad : Nat → Nat → Nat → Nat} {g : mm_g} {R x : Int64} (h : R = x) : qL pr ad g R (some (.long x)) pr ad g := ⟨by rw [h], rfl, rfl, rfl⟩
theorem lfM {pr : Nat → Nat → Prop} {ad : Nat → Nat → Nat → Nat} {g : mm_g} {R : Int32 × mm_g} {x : Int32} (h : R = (x, g)) : qM pr ad R (some (.int x)) pr ad g := ⟨by rw [h], rfl, rfl, by rw [h]⟩
theorem lfJ {pr : Nat → Nat → Prop} {ad : Nat → Nat → Nat → Nat} {g : mm_g} {R : Int64 × mm_g} {x : Int64} (h : R = (x, g)) : qJ pr ad R (some (.long x)) pr ad g := ⟨by rw [h], rfl, rfl, by rw [h]⟩
theorem lfN {pr : Nat → Nat → Prop} {ad : Nat → Nat → Nat → Nat} {g : mm_g} {R : mm_g} (h : R = g) : qN pr ad R none pr ad g := ⟨rfl, rfl, rfl, h.symm⟩
theorem lfR {pr : Nat → Nat → Prop} {ad : Nat → Nat → Nat → Nat} {g : mm_g} {a : Nat} {R : mm_g} (h : R = g) : qR pr ad a R (some (.ref a)) pr ad g := ⟨rfl, rfl, rfl, h.symm⟩
theorem mm_ne {x v : Int32} (h : ¬ x = v) {n : Int} (hv : v.toInt = n) : x.toInt ≠ n := fun q => h (Int32.toInt_inj.mp (q.trans hv.symm))
section KIN
variable {l : Launch} {G : mm_G} {own : String} {cc : ByteArray} {nL : Nat} {ret : Option FieldType} {rm : Room} {Q0 : mm_T} {mc ms cells slots pc : Nat} {L : List (Nat × Value)} {S : List Value} {pr : Nat → Nat → Prop} {ad : Nat → Nat → Nat → Nat} {g : mm_g}
theorem V_rp {α : Type} {q : α → mm_T} {R R2 : α} (h : R = R2) (k : V l G own cc nL ret rm (q R2) mc ms cells slots pc L S pr ad g) : V l G own cc nL ret rm (q R) mc ms cells slots pc L S pr ad g := by rw [h]; exact k
theorem V_lp {L2 : List (Nat × Value)} (ks : List Nat) (h : lv_pick L ks = L2) (k : V l G own cc nL ret rm Q0 mc ms cells slots pc L2 S pr ad g) : V l G own cc nL ret rm Q0 mc ms cells slots pc L S pr ad g := fun p e s m args below meth c H locs A ls hC hR hS hl => k p e s m args below meth c H locs A ls hC hR hS (lv_sub hl ks h)
theorem V_kI {R : Int32} (k : V l G own cc nL ret rm Q0 mc ms cells slots (pc + 3) L (.int R :: S) pr ad g) : ∀ (r : Option Value) (pr1 : Nat → Nat → Prop) (ad1 : Nat → Nat → Nat → Nat) (g1 : Nat → Nat → Nat → Int32), (qI pr ad g R) r pr1 ad1 g1 → V l G own cc nL ret rm Q0 mc ms (cells + 0) (slots + 0) (pc + 3) L (r.toList ++ S) pr1 ad1 g1 := by
  rintro r pr1 ad1 g1 ⟨rfl, rfl, rfl, rfl⟩
  exact k
theorem V_kL {R : Int64} (k : V l G own cc nL ret rm Q0 mc ms cells slots (pc + 3) L (.long R :: S) pr ad g) : ∀ (r : Option Value) (pr1 : Nat → Nat → Prop) (ad1 : Nat → Nat → Nat → Nat) (g1 : Nat → Nat → Nat → Int32), (qL pr ad g R) r pr1 ad1 g1 → V l G own cc nL ret rm Q0 mc ms (cells + 0) (slots + 0) (pc + 3) L (r.toList ++ S) pr1 ad1 g1 := by
  rintro r pr1 ad1 g1 ⟨rfl, rfl, rfl, rfl⟩
  exact k
theorem V_kM {R : Int32 × mm_g} (k : V l G own cc nL ret rm Q0 mc ms cells slots (pc + 3) L (.int R.1 :: S) pr ad R.2) : ∀ (r : Option Value) (pr1 : Nat → Nat → Prop) (ad1 : Nat → Nat → Nat → Nat) (g1 : Nat → Nat → Nat → Int32), (qM pr ad R) r pr1 ad1 g1 → V l G own cc nL ret rm Q0 mc ms (cells + 0) (slots + 0) (pc + 3) L (r.toList ++ S) pr1 ad1 g1 := by
  rintro r pr1 ad1 g1 ⟨rfl, rfl, rfl, rfl⟩
  exact k
theorem V_kJ {R : Int64 × mm_g} (k : V l G own cc nL ret rm Q0 mc ms cells slots (pc + 3) L (.long R.1 :: S) pr ad R.2) : ∀ (r : Option Value) (pr1 : Nat → Nat → Prop) (ad1 : Nat → Nat → Nat → Nat) (g1 : Nat → Nat → Nat → Int32), (qJ pr ad R) r pr1 ad1 g1 → V l G own cc nL ret rm Q0 mc ms (cells + 0) (slots + 0) (pc + 3) L (r.toList ++ S) pr1 ad1 g1 := by
  rintro r pr1 ad1 g1 ⟨rfl, rfl, rfl, rfl⟩
  exact k
theorem V_kN {R : mm_g} (k : V l G own cc nL ret rm Q0 mc ms cells slots (pc + 3) L (S) pr ad R) : ∀ (r : Option Value) (pr1 : Nat → Nat → Prop) (ad1 : Nat → Nat → Nat → Nat) (g1 : Nat → Nat → Nat → Int32), (qN pr ad R) r pr1 ad1 g1 → V l G own cc nL ret rm Q0 mc ms (cells + 0) (slots + 0) (pc + 3) L (r.toList ++ S) pr1 ad1 g1 := by
  rintro r pr1 ad1 g1 ⟨rfl, rfl, rfl, rfl⟩
  exact k
theorem V_kR {a : Nat} {R : mm_g} (k : V l G own cc nL ret rm Q0 mc ms cells slots (pc + 3) L (.ref a :: S) pr ad R) : ∀ (r : Option Value) (pr1 : Nat → Nat → Prop) (ad1 : Nat → Nat → Nat → Nat) (g1 : Nat → Nat → Nat → Int32), (qR pr ad a R) r pr1 ad1 g1 → V l G own cc nL ret rm Q0 mc ms (cells + 0) (slots + 0) (pc + 3) L (r.toList ++ S) pr1 ad1 g1 := by
  rintro r pr1 ad1 g1 ⟨rfl, rfl, rfl, rfl⟩
  exact k
end KIN
