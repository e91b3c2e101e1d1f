/-! THE CLAIM OUT OF ONE WALK OF THE LAW'S BODY. Your part is whole_start (and what it stands on); all else here is the same for every law, but numbers. -/
def R_law : String := "CockleSquiresLaw"
def lw_P (b : Addr) (xs : List Int32) (args : Array Value) (s : State) : Prop := args = #[.ref b] ∧ s.IntsAt b xs ∧ xs.length ≤ 3072 ∧ (Jvm.Cond.and given_1 narrow_1).before args s = true
def lw_Q (_ : Array Value) (s : State) (o : Outcome) (t : State) : Prop := o = .returned (some (.int 1)) ∧ Framed s o t [] 600000 7302249
def lw_Z (below : List Frame) (a : Array Value) (s : State) : State → Prop := fun t => ∃ o, t.status = .running ∧ Ended t below o ∧ lw_Q a s o t
/-- the law's own end, with 1 on the stack, nothing written that was there before, its room as the claim has it -/
theorem lw_ret {p : Program} {l : Launch} {e : Env} {s : State} {m : MethodId} {below : List Frame} {meth : Method} {c : Code} {b : Nat} (hx : p.tables.exec = Jvm.exec) (hb : c.code = code) (hr : meth.sig.returnType = ret) (hlocks : meth.locks = false) {pc : Nat} {H : Heap} {ls : Array Slot} (hdg : decode code pc = .ok (.ireturn, 1)) : W p l e room_1 s m #[Value.ref b] below meth c H [] 600000 7302249 (lw_Z below #[Value.ref b] s) (F0 m pc ls [.int 1]) := by
  intro T hT X
  obtain ⟨fs, hret, hrun, hended, hW, hframe⟩ := X.leave (v := some (.int 1)) (hlocks := hlocks) (fun h => by rw [hr] at h; cases h)
  have hmeth' : T.vm.method? m = some meth := X.method'
  refine ⟨T.setFrames fs, ?_, .returned (some (.int 1)), hrun, hended, rfl, ⟨_, rfl⟩, hW, hframe⟩
  jvm_step X.here [X.here.top, hx, hb, hdg, hmeth', hr, ret, narrow_b1]
  (try refine ⟨rfl, ?_⟩); (try refine ⟨rfl, ?_⟩)
  first | (intro acts; rw [hret _ acts rfl rfl rfl]) | rw [hret _ _ rfl rfl rfl]
  exact Steps.refl _
/-- what holds at the law's entry: the machine, the code, the tables' words (any of lw_tbl by 'hts w (by decide +kernel)'), the script of L ints xs at the cell b, what the Statement gives of the start (any of its parts by flat_of_before) -/
def lw_At (p : Program) (s : State) (m : MethodId) (meth : Method) (c : Code) (b L : Nat) (xs : Nat → Int32) : Prop :=
  p.tables.exec = Jvm.exec ∧ c.code = code ∧ meth.sig.returnType = ret ∧ c.maxLocals = 4 ∧ s.vm.findClass R_law = some m.cls ∧ (∀ w ∈ lw_tbl, w.before #[Value.ref b] s = true) ∧ va_X b L xs s s.heap ∧ b < s.heap.size ∧ meth.locks = false ∧ (Jvm.Cond.and given_1 narrow_1).before #[Value.ref b] s = true
/-! the law's own walk -/
def lA (s : State) : Nat → Prop := fun q => s.heap.size ≤ q
def lw_B (p : Program) (s : State) (m : MethodId) (meth : Method) (c : Code) (b Ln : Nat) (xs : Nat → Int32) (G : mm_G) : Prop := mm_C G R_law code 4 ret p s m #[Value.ref b] meth c (lA s) ∧ va_X b Ln xs s s.heap ∧ b < s.heap.size
def LV (p : Program) (l : Launch) (e : Env) (s : State) (m : MethodId) (below : List Frame) (meth : Method) (c : Code) (b : Nat) (G : mm_G) (cells slots pc : Nat) (L : List (Nat × Value)) (S : List Value) (pr : Nat → Nat → Prop) (ad : Nat → Nat → Nat → Nat) (g : mm_g) : Prop :=
  ∀ (H : Heap) (locs : List Loc) (ls : Array Slot), mm_R G pr ad g (lA s) H → va_S (lA s) s.heap H locs → lv_has ls 4 L → W p l e room_1 s m #[Value.ref b] below meth c H locs cells slots (lw_Z below #[Value.ref b] s) (F0 m pc ls S)
section LAW
variable {p : Program} {l : Launch} {e : Env} {s : State} {m : MethodId} {below : List Frame} {meth : Method} {c : Code} {b Ln : Nat} {xs : Nat → Int32} {G : mm_G} {cells slots pc : Nat} {L : List (Nat × Value)} {S S0 : List Value} {pr : Nat → Nat → Prop} {ad : Nat → Nat → Nat → Nat} {g : mm_g}
theorem lB_n (B : lw_B p s m meth c b Ln xs G) : ¬ lA s b := Nat.not_le.mpr B.2.2
theorem LV_wi {c2 s2 : Nat} (h1 : cells ≤ c2) (h2 : slots ≤ s2) (k : LV p l e s m below meth c b G c2 s2 pc L S pr ad g) : LV p l e s m below meth c b G cells slots pc L S pr ad g :=
  fun H locs ls hR hS hl => W.widen h1 h2 (k H locs ls hR hS hl)
theorem LV_aload_n {j : Fin 4} {x : Nat} (B : lw_B p s m meth c b Ln xs G) (hdg : decode code pc = .ok (.aload_n j, 1)) (i : Nat) (hi : L[i]? = some ((j : Nat), .ref x)) (k : LV p l e s m below meth c b G cells slots (pc + 1) L (.ref x :: S) pr ad g) : LV p l e s m below meth c b G cells slots pc L S pr ad g :=
  fun H locs ls hR hS hl => lv_aload_n B.1.1 B.1.2.1 hdg rfl (lv_at hl i hi) (k H locs ls hR hS hl)
theorem LV_iload_n {j : Fin 4} {x : Int32} (B : lw_B p s m meth c b Ln xs G) (hdg : decode code pc = .ok (.iload_n j, 1)) (i : Nat) (hi : L[i]? = some ((j : Nat), .int x)) (k : LV p l e s m below meth c b G cells slots (pc + 1) L (.int x :: S) pr ad g) : LV p l e s m below meth c b G cells slots pc L S pr ad g :=
  fun H locs ls hR hS hl => lv_iload_n B.1.1 B.1.2.1 hdg rfl (lv_at hl i hi) (k H locs ls hR hS hl)
theorem LV_iconst {n : Int} {v : Int32} (B : lw_B p s m meth c b Ln xs G) (hdg : decode code pc = .ok (.iconst n, 1)) (hv : Int32.ofInt n = v) (k : LV p l e s m below meth c b G cells slots (pc + 1) L (.int v :: S) pr ad g) : LV p l e s m below meth c b G cells slots pc L S pr ad g :=
  fun H locs ls hR hS hl => lv_iconst B.1.1 B.1.2.1 hdg hv (k H locs ls hR hS hl)
theorem LV_bipush {n : Int} {v : Int32} (B : lw_B p s m meth c b Ln xs G) (hdg : decode code pc = .ok (.bipush n, 2)) (hv : (Int8.ofInt n).toInt32 = v) (k : LV p l e s m below meth c b G cells slots (pc + 2) L (.int v :: S) pr ad g) : LV p l e s m below meth c b G cells slots pc L S pr ad g :=
  fun H locs ls hR hS hl => lv_bipush B.1.1 B.1.2.1 hdg hv (k H locs ls hR hS hl)
theorem LV_iadd {x y : Int32} (B : lw_B p s m meth c b Ln xs G) (hdg : decode code pc = .ok (.iadd, 1))  (k : LV p l e s m below meth c b G cells slots (pc + 1) L (.int (x + y) :: S) pr ad g) : LV p l e s m below meth c b G cells slots pc L (.int y :: .int x :: S) pr ad g :=
  fun H locs ls hR hS hl => lv_iadd B.1.1 B.1.2.1 hdg (k H locs ls hR hS hl)
theorem LV_isub {x y : Int32} (B : lw_B p s m meth c b Ln xs G) (hdg : decode code pc = .ok (.isub, 1))  (k : LV p l e s m below meth c b G cells slots (pc + 1) L (.int (x - y) :: S) pr ad g) : LV p l e s m below meth c b G cells slots pc L (.int y :: .int x :: S) pr ad g :=
  fun H locs ls hR hS hl => lv_isub B.1.1 B.1.2.1 hdg (k H locs ls hR hS hl)
theorem LV_iand {x y : Int32} (B : lw_B p s m meth c b Ln xs G) (hdg : decode code pc = .ok (.iand, 1))  (k : LV p l e s m below meth c b G cells slots (pc + 1) L (.int (x &&& y) :: S) pr ad g) : LV p l e s m below meth c b G cells slots pc L (.int y :: .int x :: S) pr ad g :=
  fun H locs ls hR hS hl => lv_iand B.1.1 B.1.2.1 hdg (k H locs ls hR hS hl)
theorem LV_lcmp {x y : Int64} (B : lw_B p s m meth c b Ln xs G) (hdg : decode code pc = .ok (.lcmp, 1))  (k : LV p l e s m below meth c b G cells slots (pc + 1) L (.int (lg_cmp x y) :: S) pr ad g) : LV p l e s m below meth c b G cells slots pc L (.long y :: .long x :: S) pr ad g :=
  fun H locs ls hR hS hl => W.lcmp B.1.1 B.1.2.1 hdg (k H locs ls hR hS hl)
theorem LV_sld {i : Int32} (B : lw_B p s m meth c b Ln xs G) (hdg : decode code pc = .ok (.iaload, 1)) (hin : vp_in i Ln) (k : LV p l e s m below meth c b G cells slots (pc + 1) L (.int (xs i.toNatClampNeg) :: S) pr ad g) : LV p l e s m below meth c b G cells slots pc L (.int i :: .ref b :: S) pr ad g :=
  fun H locs ls hR hS hl => va_sld B.1.1 B.1.2.1 B.2.1 B.2.2 (lB_n B) hS hin hdg (k H locs ls hR hS hl)
theorem LV_slen (B : lw_B p s m meth c b Ln xs G) (hdg : decode code pc = .ok (.arraylength, 1)) (k : LV p l e s m below meth c b G cells slots (pc + 1) L (.int (Int32.ofNat Ln) :: S) pr ad g) : LV p l e s m below meth c b G cells slots pc L (.ref b :: S) pr ad g :=
  fun H locs ls hR hS hl => va_slen B.1.1 B.1.2.1 B.2.1 B.2.2 (lB_n B) hS hdg (k H locs ls hR hS hl)
theorem LV_iinc {j : Nat} {n : Int} {x v : Int32} {L2 : List (Nat × Value)} (B : lw_B p s m meth c b Ln xs G) (hdg : decode code pc = .ok (.iinc j n, 3)) (i : Nat) (hi : L[i]? = some (j, .int x)) (hv : x + Int32.ofInt n = v) (hn : j < 4) (h2 : (j, Value.int v) :: L.filter (fun q => !(q.1 == j) && !(q.1 + 1 == j && q.2.category == 2)) = L2) (k : LV p l e s m below meth c b G cells slots (pc + 3) L2 S pr ad g) : LV p l e s m below meth c b G cells slots pc L S pr ad g :=
  fun H locs ls hR hS hl => lv_iinc B.1.1 B.1.2.1 hdg hl hi hv hn h2 (fun ls2 hl2 => k H locs ls2 hR hS hl2)
theorem LV_lp (is : List Nat) {L2 : List (Nat × Value)} (h : is.filterMap (fun i => L[i]?) = L2) (k : LV p l e s m below meth c b G cells slots pc L2 S pr ad g) : LV p l e s m below meth c b G cells slots pc L S pr ad g :=
  fun H locs ls hR hS hl => k H locs ls hR hS (lv_sub hl is h)
theorem LV_goto {off : Int} {tgt : Nat} (B : lw_B p s m meth c b Ln xs G) (hdg : decode code pc = .ok (.goto off, 3)) (ht : (pc : Int) + off = (tgt : Int)) (k : LV p l e s m below meth c b G cells slots tgt L S pr ad g) : LV p l e s m below meth c b G cells slots pc L S pr ad g :=
  fun H locs ls hR hS hl => lv_goto B.1.1 B.1.2.1 hdg ht (k H locs ls hR hS hl)
theorem LV_gt {x y : Int32} {off : Int} {tgt : Nat} (B : lw_B p s m meth c b Ln xs G) (hdg : decode code pc = .ok (.if_icmp .gt off, 3)) (ht : (pc : Int) + off = (tgt : Int)) (kt : y < x → LV p l e s m below meth c b G cells slots tgt L S pr ad g) (kf : ¬ (y < x) → LV p l e s m below meth c b G cells slots (pc + 3) L S pr ad g) : LV p l e s m below meth c b G cells slots pc L (.int y :: .int x :: S) pr ad g :=
  fun H locs ls hR hS hl => lv_icmp_gt B.1.1 B.1.2.1 hdg ht (fun h => kt h H locs ls hR hS hl) (fun h => kf h H locs ls hR hS hl)
theorem LV_same {x y : Int32} {off : Int} {tgt : Nat} (B : lw_B p s m meth c b Ln xs G) (hdg : decode code pc = .ok (.if_icmp .eq off, 3)) (ht : (pc : Int) + off = (tgt : Int)) (h : y = x) (k : LV p l e s m below meth c b G cells slots tgt L S pr ad g) : LV p l e s m below meth c b G cells slots pc L (.int y :: .int x :: S) pr ad g :=
  fun H locs ls hR hS hl => lv_icmp_eq B.1.1 B.1.2.1 hdg ht (fun _ => k H locs ls hR hS hl) (fun z => absurd h.symm z)
theorem LV_zero {x : Int32} {off : Int} {tgt : Nat} (B : lw_B p s m meth c b Ln xs G) (hdg : decode code pc = .ok (.ifCond .eq off, 3)) (ht : (pc : Int) + off = (tgt : Int)) (h : x = 0) (k : LV p l e s m below meth c b G cells slots tgt L S pr ad g) : LV p l e s m below meth c b G cells slots pc L (.int x :: S) pr ad g :=
  fun H locs ls hR hS hl => lv_if_eq B.1.1 B.1.2.1 hdg ht (fun _ => k H locs ls hR hS hl) (fun z => absurd h z)
theorem LV_tabO {dflt lo hi : Int} {offs : Array Int} {len : Nat} {x : Int32} {tgt : Nat} (B : lw_B p s m meth c b Ln xs G) (hdg : decode code pc = .ok (.tableswitch dflt lo hi offs, len)) (h : x.toInt < lo ∨ hi < x.toInt) (ht : (pc : Int) + dflt = (tgt : Int)) (k : LV p l e s m below meth c b G cells slots tgt L S pr ad g) : LV p l e s m below meth c b G cells slots pc L (.int x :: S) pr ad g :=
  fun H locs ls hR hS hl => lv_tableOut B.1.1 B.1.2.1 hdg h ht (k H locs ls hR hS hl)
theorem LV_tabI {dflt lo hi : Int} {offs : Array Int} {len : Nat} {x : Int32} {off : Int} {tgt : Nat} (B : lw_B p s m meth c b Ln xs G) (hdg : decode code pc = .ok (.tableswitch dflt lo hi offs, len)) (h1 : ¬ x.toInt < lo) (h2 : ¬ hi < x.toInt) (ho : offs[(x.toInt - lo).toNat]? = some off) (ht : (pc : Int) + off = (tgt : Int)) (k : LV p l e s m below meth c b G cells slots tgt L S pr ad g) : LV p l e s m below meth c b G cells slots pc L (.int x :: S) pr ad g :=
  fun H locs ls hR hS hl => lv_tableIn B.1.1 B.1.2.1 hdg h1 h2 ho ht (k H locs ls hR hS hl)
/-- the law's end -/
theorem LV_ret (B : lw_B p s m meth c b Ln xs G) (hdg : decode code pc = .ok (.ireturn, 1)) (h1 : cells ≤ 600000) (h2 : slots ≤ 7302249) : LV p l e s m below meth c b G cells slots pc L [.int 1] pr ad g := by
  intro H locs ls hR hS hl
  refine va_forget (fun q hq => hS.2.2 q hq) ?_
  refine W.widen h1 h2 ?_
  exact lw_ret B.1.1 B.1.2.1 B.1.2.2.2.1 B.1.2.2.2.2.1 hdg
/-- behind a call -/
theorem LV_run {a : Array Value} {Q1 : mm_T} {mc1 ms1 : Nat} (B : lw_B p s m meth c b Ln xs G)
    (hr : ∀ (H : Heap) (locs : List Loc) (ls : Array Slot), mm_R G pr ad g (lA s) H → va_S (lA s) s.heap H locs → lv_has ls 4 L → va_Run p l e room_1 s m #[Value.ref b] below meth c H locs cells slots mc1 ms1 (F0 m pc ls S0) S (mm_Q G Q1 (mm_A pr ad H.size) a) (mm_A pr ad H.size))
    (kk : ∀ (r : Option Value) (pr1 : Nat → Nat → Prop) (ad1 : Nat → Nat → Nat → Nat) (g1 : mm_g), Q1 r pr1 ad1 g1 → LV p l e s m below meth c b G (cells + mc1) (slots + ms1) (pc + 3) L (r.toList ++ S) pr1 ad1 g1) : LV p l e s m below meth c b G cells slots pc L S0 pr ad g := by
  intro H locs ls hR hS hl T hT X
  obtain ⟨v, st0, t, T', Lc, h0, X', hLc, e1, e2, ⟨⟨r, pr1, ad1, g1, hv, hq, hR1⟩, hz, hk⟩, st⟩ := hr H locs ls hR hS hl T hT X
  cases hv
  rw [h0] at hz hk
  have hA : ∀ q, mm_A pr ad H.size q → lA s q := fun q hq => by
    rcases hq with h | h
    · exact hR.inA h
    · exact B.1.2.2.2.2.2.2.2.2.2 q (Nat.le_trans hS.1 h)
  obtain ⟨t2, a1, b1⟩ := kk v pr1 ad1 g1 hq T'.heap (locs ++ Lc) ls (by rw [e1]; exact hR1.to (fun q h => hA q (hR1.inA h)))
    ⟨Nat.le_trans hS.1 (by rw [e1]; exact hz), fun q h1 h2 => by rw [e1, hk q (Nat.lt_of_lt_of_le h1 hS.1) (fun z => h2 (hA q z))]; exact hS.2.1 q h1 h2, fun q hq => by
      rcases List.mem_append.mp hq with h | h
      · exact hS.2.2 q h
      · exact hA _ (hLc q h)⟩ hl T' rfl X'
  exact ⟨t2, st t2 a1, b1⟩
theorem LV_cV {t k idx n nL1 mc1 ms1 : Nat} {y : MethodName} {bb : ByteArray} {ret1 : Option FieldType} {rm1 : Room} {As fs : List Value} {q : vw_C} {Q1 : mm_T} (B : lw_B p s m meth c b Ln xs G) (hM : Mt l G y bb nL1 ret1 rm1 (.ref (ad t k 0) :: As) pr ad g Q1 mc1 ms1) (hY : mm_Y y bb nL1 ret1 n) (hi : Cond.instanceMethod y ∈ wsL_law) (hs : Cond.selects y.cls y y ∈ wsL_law) (hq : Cond.methodLink R_law idx y ∈ wsL_law) (hc : vwCl[t]? = some q) (hyc : y.cls = q.1) (hp : pr t k) (he : mm_ent G ad g t k 0 = some (.inr (t, fs))) (hn : As.length = n) (hst : S0 = As.reverse ++ .ref (ad t k 0) :: S)
    (h1 : rm1.cells = mc1) (h2 : rm1.slots = ms1) (hR : rm1.frames + 1 ≤ room_1.frames ∧ 8 + (nL1 + 11) + rm1.locals ≤ room_1.locals) (hW : (S.map fun v => v.category).sum ≤ 8) (hf : cells + mc1 ≤ room_1.cells ∧ slots + ms1 ≤ room_1.slots) (hdg : decode code pc = .ok (.invokevirtual idx, 3))
    (kk : ∀ (r : Option Value) (pr1 : Nat → Nat → Prop) (ad1 : Nat → Nat → Nat → Nat) (g1 : mm_g), Q1 r pr1 ad1 g1 → LV p l e s m below meth c b G (cells + mc1) (slots + ms1) (pc + 3) L (r.toList ++ S) pr1 ad1 g1) : LV p l e s m below meth c b G cells slots pc L S0 pr ad g := by
  refine LV_run (a := (Value.ref (ad t k 0) :: As).toArray) B (fun H locs ls hR0 hS hl => ?_) kk
  subst hst
  have hC := B.1
  refine va_runV (cc := code) (nL := 4) (own := R_law) (Ts := wsL_law) (C := y.cls) (b := ad t k 0) (As := As) (rest := S) ⟨hC.1, hC.2.1, hC.2.2.1, hC.2.2.2.2.2.1, hC.2.2.2.2.2.2.1⟩ (hM H.size) (cwV n hC.2.2.2.2.2.2.1 (mm_gv hq hi hs hY.2.2 hY.2.1) rfl h1 h2 ⟨rfl, hY.1⟩ hR) ⟨mm_bl, ?_, mm_st hC hR0 hS⟩ rfl hn hl.1 rfl (lv_room hW) hdg hf
  obtain ⟨Ls, f, hP, hD, hL, hJ⟩ := hR0
  obtain ⟨hm, hf1⟩ := hL.1 t k 0 _ hp he
  obtain ⟨q0, hq0⟩ := va_pl_get (X := []) (f := f) hm
  rw [hf1] at hq0
  rw [hyc]
  exact va_recv hC.2.2.2.2.2.2.2.1.1 hP hc hq0
theorem LV_kM {R : Int32 × mm_g} (k : LV p l e s m below meth c b G cells slots (pc + 3) L (.int R.1 :: S) pr ad R.2) : ∀ (r : Option Value) (pr1 : Nat → Nat → Prop) (ad1 : Nat → Nat → Nat → Nat) (g1 : mm_g), (qM pr ad R) r pr1 ad1 g1 → LV p l e s m below meth c b G (cells + 0) (slots + 0) (pc + 3) L (r.toList ++ S) pr1 ad1 g1 := by
  rintro r pr1 ad1 g1 ⟨rfl, rfl, rfl, rfl⟩
  exact k
theorem LV_kJ {R : Int64 × mm_g} (k : LV p l e s m below meth c b G cells slots (pc + 3) L (.long R.1 :: S) pr ad R.2) : ∀ (r : Option Value) (pr1 : Nat → Nat → Prop) (ad1 : Nat → Nat → Nat → Nat) (g1 : mm_g), (qJ pr ad R) r pr1 ad1 g1 → LV p l e s m below meth c b G (cells + 0) (slots + 0) (pc + 3) L (r.toList ++ S) pr1 ad1 g1 := by
  rintro r pr1 ad1 g1 ⟨rfl, rfl, rfl, rfl⟩
  exact k
theorem LV_kP {R : Int32 × mm_g} {mc1 ms1 : Nat} (k : ∀ (pr2 : Nat → Nat → Prop) (ad2 : Nat → Nat → Nat → Nat), mm_x pr ad pr2 ad2 → okF pr2 R.2 → LV p l e s m below meth c b G (cells + mc1) (slots + ms1) (pc + 3) L (.int R.1 :: S) pr2 ad2 R.2) : ∀ (r : Option Value) (pr1 : Nat → Nat → Prop) (ad1 : Nat → Nat → Nat → Nat) (g1 : mm_g), (qP pr ad R) r pr1 ad1 g1 → LV p l e s m below meth c b G (cells + mc1) (slots + ms1) (pc + 3) L (r.toList ++ S) pr1 ad1 g1 := by
  rintro r pr1 ad1 g1 ⟨rfl, rfl, h3, h4⟩
  exact k pr1 ad1 h3 h4
/-- an int of the script -/
theorem LV_arg {a1 a2 i k : Nat} {kk : Int} (B : lw_B p s m meth c b Ln xs G) (h0 : decode code pc = .ok (.aload_n 0, 1)) (h1 : decode code (pc + 1) = .ok (.iload_n 3, 1)) (h2 : decode code (pc + 2) = .ok (.iconst kk, 1)) (hk : Int32.ofInt kk = nI k) (h3 : decode code (pc + 3) = .ok (.iadd, 1)) (h4 : decode code (pc + 4) = .ok (.iaload, 1)) (hi : i + k < Ln) (hL : Ln ≤ 3072)
    (K : LV p l e s m below meth c b G cells slots (pc + 5) [(0, .ref b), (1, .ref a1), (2, .ref a2), (3, .int (nI i))] (.int (xs (i + k)) :: S) pr ad g) : LV p l e s m below meth c b G cells slots pc [(0, .ref b), (1, .ref a1), (2, .ref a2), (3, .int (nI i))] S pr ad g := by
  refine LV_aload_n B h0 0 rfl ?_
  refine LV_iload_n B h1 3 rfl ?_
  refine LV_iconst B h2 hk ?_
  refine LV_iadd B h3 ?_
  rw [nI_add]
  refine LV_sld B h4 (vp_in_nI hi (by omega)) ?_
  rw [nI_clamp (by omega)]
  exact K
/-- behind both calls -/
def LK (p : Program) (l : Launch) (e : Env) (s : State) (m : MethodId) (below : List Frame) (meth : Method) (c : Code) (b : Nat) (G : mm_G) (cells slots n i : Nat) : Prop :=
  ∀ (pr : Nat → Nat → Prop) (ad : Nat → Nat → Nat → Nat) (g : mm_g) (c2 s2 : Nat), mm_W pr → okF pr g → Rel (n + 1) g → c2 ≤ cells + 120 → s2 ≤ slots + 960 → LV p l e s m below meth c b G c2 s2 1274 [(0, .ref b), (1, .ref (ad 6 0 0)), (2, .ref (ad 7 0 0)), (3, .int (nI i))] [] pr ad g
theorem okF_c {pr : Nat → Nat → Prop} {g g2 : mm_g} (h : okF pr g) (h1 : g2 0 1 = g 0 1) (h2 : g2 6 1 = g 6 1) : okF pr g2 := by
  unfold okF
  rw [h1, h2]
  exact h
theorem LV_end {n i c2 s2 : Nat} {off : Int} {R : Int32 × mm_g} {Q : mm_g → Int32 × mm_g} (B : lw_B p s m meth c b Ln xs G) (o : Ok n g R Q) (K : LK p l e s m below meth c b G cells slots n i) (hw : mm_W pr) (hF : okF pr R.2) (hdg : decode code pc = .ok (.if_icmp .eq off, 3)) (ht : (pc : Int) + off = ((1274 : Nat) : Int)) (h1 : c2 ≤ cells + 120) (h2 : s2 ≤ slots + 960) : LV p l e s m below meth c b G c2 s2 pc [(0, .ref b), (1, .ref (ad 6 0 0)), (2, .ref (ad 7 0 0)), (3, .int (nI i))] [.int (Q R.2).1, .int R.1] pr ad (Q R.2).2 :=
  LV_same B hdg ht o.2.1 (K pr ad (Q R.2).2 c2 s2 hw (okF_c hF (o.2.2.2 0 1 (by decide)) (o.2.2.2 6 1 (by decide))) o.2.2.1 h1 h2)
end LAW
/-! what the calls want -/
section WANT
variable {n : Nat} {g g1 : mm_g}
theorem p_B (hr : Rel n g) (h : ∀ k, g1 7 k = g 7 k) : okB g1 := by
  unfold okB
  rw [h, ← hr.now.2.2.1.lo 0 (by decide)]
  exact hr.now.1.b0
theorem p_A (hr : Rel n g) (h : ∀ k, g1 7 k = g 7 k) : okA g1 := by
  obtain ⟨a, k, ha, hm, h0, h1, h9, hI⟩ := hr.1.2.2.2.2.1
  unfold okA
  rw [h, h9, nI_toInt (by omega)]
  omega
theorem p_R (hr : Rel n g) : okR g := fun r hr2 => (hr.1.1 r hr2).2.1.2
theorem p_R7 (hr : Rel n g) (h : ∀ k, g1 7 k = g 7 k) : okR7 g1 := fun r hr2 => by
  rw [h, ← (hr.1.1 r hr2).1]
  exact (hr.1.1 r hr2).2.1.2
theorem p_T (hr : Rel n g) (h : ∀ k, g1 7 k = g 7 k) : 0 ≤ (g1 7 0 2).toInt ∧ (g1 7 0 2).toInt ≤ 100 := by
  obtain ⟨m, h1, h2, h3, h4⟩ := hr.1.2.1
  rw [h, h3, nI_toInt (by omega)]
  omega
theorem p_T10 (hr : Rel n g) (h : ∀ k, g1 7 k = g 7 k) : 0 ≤ (g1 7 0 10).toInt ∧ (g1 7 0 10).toInt ≤ 16 := by
  obtain ⟨m, h1, h2, h3, h4⟩ := hr.1.2.2.2.2.2.2
  rw [h, h3, nI_toInt (by omega)]
  omega
theorem p_1 (hr : Rel n g) (h : ∀ k, g1 7 k = g 7 k) : ¬ g1 7 0 1 = 0 → 1 ≤ g1 7 4 0 := by
  rw [h, h]
  intro q
  have h9 := hr.now.1.n9
  rw [hr.now.2.2.2] at q
  rw [← hr.now.2.2.1.lo 0 (by decide), hr.now.1.f0]
  by_cases z : 1 ≤ nb (g 2 0)
  · exact nI_le (a := 1) z (by omega)
  · rw [if_neg z] at q
    exact absurd rfl q
theorem p_hA {pr : Nat → Nat → Prop} (hF : okF pr g) : ∀ i, i < 24 → ¬ g 0 1 i = 0 → pr 2 (2 + i) := fun i _ h => (hF.1 i h).2
theorem p_hI {pr : Nat → Nat → Prop} (hF : okF pr g) : ∀ i, i < 2 → ¬ g 6 1 i = 0 → pr 2 (26 + i) := fun i _ h => (hF.2.2.1 i h).2
end WANT
