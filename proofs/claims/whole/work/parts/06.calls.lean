/-- what the tables say of a method -/
def mm_Y (y : MethodName) (cc : ByteArray) (nL : Nat) (ret : Option FieldType) (n : Nat) : Prop := (y.cls ≠ "java/lang/invoke/MethodHandle" ∧ y.cls ≠ "java/lang/invoke/VarHandle" ∧ (parseMethodDescriptor y.desc).map (fun d => d.parameters.length) = some n) ∧ Cond.code y cc nL ret ∈ wsL_law ∧ Cond.initialized y.cls ∈ wsL_law
theorem mm_gw {w : Cond} (h : w ∈ wsL_law) : w ∈ wsL_law ∧ ((w.onTables && w.keeps) = true ∨ ∃ ty, w = .arrayClass ty) := ⟨h, good_of_word (List.all_eq_true.mp wsL_good w h)⟩
theorem mm_gc {w : Cond} (h : w ∈ wsL_law) : GoodIn wsL_law (w :: wsL_law) := fun x hx => by
  rcases List.mem_cons.mp hx with q | q
  · rw [q]; exact mm_gw h
  · exact mm_gw q
theorem mm_gv {own C : String} {idx : Nat} {y : MethodName} {w : Cond} (h1 : Cond.methodLink own idx y ∈ wsL_law) (h2 : Cond.instanceMethod y ∈ wsL_law) (h3 : Cond.selects C y y ∈ wsL_law) (h4 : Cond.initialized C ∈ wsL_law) (h : w ∈ wsL_law) : GoodIn wsL_law (wsV own idx C y (w :: wsL_law)) := fun x hx => by
  unfold wsV at hx
  rcases List.mem_append.mp hx with q | q
  · have q2 := List.mem_cons.mp q
    rcases q2 with rfl | q
    · exact mm_gw h1
    rcases List.mem_cons.mp q with rfl | q
    · exact mm_gw h2
    rcases List.mem_cons.mp q with rfl | q
    · exact mm_gw h3
    rcases List.mem_cons.mp q with rfl | q
    · exact mm_gw h4
    · cases q
  · exact mm_gc h x q
theorem mm_gs {own : String} {idx : Nat} {y : MethodName} {w : Cond} (h1 : Cond.methodLink own idx y ∈ wsL_law) (h2 : Cond.static y ∈ wsL_law) (h4 : Cond.initialized y.cls ∈ wsL_law) (h : w ∈ wsL_law) : GoodIn wsL_law (va_wsS own idx y (w :: wsL_law)) := fun x hx => by
  unfold va_wsS at hx
  rcases List.mem_append.mp hx with q | q
  · rcases List.mem_cons.mp q with rfl | q
    · exact mm_gw h1
    rcases List.mem_cons.mp q with rfl | q
    · exact mm_gw h2
    rcases List.mem_cons.mp q with rfl | q
    · exact mm_gw h4
    · cases q
  · exact mm_gc h x q
section CAL
variable {l : Launch} {G : mm_G} {own : String} {cc : ByteArray} {nL : Nat} {ret : Option FieldType} {rm : Room} {Q0 : mm_T} {mc ms cells slots pc : Nat} {L : List (Nat × Value)} {S S0 : List Value} {pr : Nat → Nat → Prop} {ad : Nat → Nat → Nat → Nat} {g : Nat → Nat → Nat → Int32}
/-- a contract's start is blind for the frame -/
theorem mm_bl {args : List Value} {B : Nat → Prop} {sz : Nat} : FrameBlind (va_Pc args (fun U => U.heap.size = sz ∧ mm_R G pr ad g (fun _ => True) U.heap ∧ mm_K G U ∧ mm_S G B U U.heap)) := fun a U h mk q => ⟨q.1, q.2.1, q.2.2.1, q.2.2.2.1.same (u := U) (U := U.calling h mk a) rfl, q.2.2.2.2.on (u := U) (U := U.calling h mk a) (fun _ _ _ => rfl) (fun _ z => z) (Vm.Alike.refl U.vm)⟩
/-- .. and holds where the caller stands -/
theorem mm_st {p : Program} {s : State} {m : MethodId} {args : Array Value} {meth : Method} {c : Code} {H : Heap} {locs : List Loc} {A : Nat → Prop} (hC : mm_C G own cc nL ret p s m args meth c A) (hR : mm_R G pr ad g A H) (hS : va_S A s.heap H locs) {As : List Value} : ∀ U : State, U.heap = H → s.WarmedH U.vm → va_Pc As (fun U => U.heap.size = H.size ∧ mm_R G pr ad g (fun _ => True) U.heap ∧ mm_K G U ∧ mm_S G (mm_A pr ad H.size) U U.heap) As.toArray U := by
  intro U hU hW
  refine ⟨rfl, by rw [hU], by rw [hU]; exact hR.to (fun _ _ => trivial), hC.2.2.2.2.2.2.2.1.warm hW, ?_⟩
  rw [hU]
  refine hC.2.2.2.2.2.2.2.2.1.on hS.2.1 (fun q hq => ?_) hW.alike
  rcases hq with h | h
  · exact hR.inA h
  · exact hC.2.2.2.2.2.2.2.2.2 q (Nat.le_trans hS.1 h)
/-- behind a call -/
theorem V_run {a : Array Value} {Q1 : mm_T} {mc1 ms1 : Nat}
    (hr : ∀ (p : Program) (e : Env) (s : State) (m : MethodId) (args : Array Value) (below : List Frame) (meth : Method) (c : Code) (H : Heap) (locs : List Loc) (A : Nat → Prop) (ls : Array Slot), mm_C G own cc nL ret p s m args meth c A → mm_R G pr ad g A H → va_S A s.heap H locs → lv_has ls nL L → va_Run p l e rm s m args below meth c H locs cells slots mc1 ms1 (F0 m pc ls S0) S (mm_Q G Q1 (mm_A pr ad H.size) a) (mm_A pr ad H.size))
    (kk : ∀ (r : Option Value) (pr1 : Nat → Nat → Prop) (ad1 : Nat → Nat → Nat → Nat) (g1 : Nat → Nat → Nat → Int32), Q1 r pr1 ad1 g1 → V l G own cc nL ret rm Q0 mc ms (cells + mc1) (slots + ms1) (pc + 3) L (r.toList ++ S) pr1 ad1 g1) : V l G own cc nL ret rm Q0 mc ms cells slots pc L S0 pr ad g := by
  intro p e s m args below meth c H locs A ls hC hR hS hl T hT X
  obtain ⟨v, st0, t, T', Lc, h0, X', hLc, e1, e2, ⟨⟨r, pr1, ad1, g1, hv, hq, hR1⟩, hz, hk⟩, st⟩ := hr p e s m args below meth c H locs A ls hC hR hS hl T hT X
  cases hv
  rw [h0] at hz hk
  have hA : ∀ q, mm_A pr ad H.size q → A q := fun q hq => by
    rcases hq with h | h
    · exact hR.inA h
    · exact hC.2.2.2.2.2.2.2.2.2 q (Nat.le_trans hS.1 h)
  obtain ⟨t2, a1, b1⟩ := kk v pr1 ad1 g1 hq p e s m args below meth c T'.heap (locs ++ Lc) A ls hC (by rw [e1]; exact hR1.to (fun q h => hA q (hR1.inA h)))
    ⟨Nat.le_trans hS.1 (by rw [e1]; exact hz), fun q h1 h2 => by rw [e1, hk q (Nat.lt_of_lt_of_le h1 hS.1) (fun z => h2 (hA q z))]; exact hS.2.1 q h1 h2, fun q hq => by
      rcases List.mem_append.mp hq with h | h
      · exact hS.2.2 q h
      · exact hA _ (hLc q h)⟩ hl T' rfl X'
  exact ⟨t2, st t2 a1, b1⟩
theorem V_cV {t k idx n nL1 mc1 ms1 : Nat} {y : MethodName} {bb : ByteArray} {ret1 : Option FieldType} {rm1 : Room} {As fs : List Value} {q : vw_C} {Q1 : mm_T} (hM : Mt l G y bb nL1 ret1 rm1 (.ref (ad t k 0) :: As) pr ad g Q1 mc1 ms1) (hY : mm_Y y bb nL1 ret1 n) (hi : Cond.instanceMethod y ∈ wsL_law) (hs : Cond.selects y.cls y y ∈ wsL_law) (hq : Cond.methodLink own idx y ∈ wsL_law) (hc : vwCl[t]? = some q) (hyc : y.cls = q.1) (hp : pr t k) (he : mm_ent G ad g t k 0 = some (.inr (t, fs))) (hn : As.length = n) (hst : S0 = As.reverse ++ .ref (ad t k 0) :: S)
    (h1 : rm1.cells = mc1) (h2 : rm1.slots = ms1) (hR : rm1.frames + 1 ≤ rm.frames ∧ 8 + (nL1 + 11) + rm1.locals ≤ rm.locals) (hW : (S.map fun v => v.category).sum ≤ 8) (hf : cells + mc1 ≤ rm.cells ∧ slots + ms1 ≤ rm.slots) (hdg : decode cc pc = .ok (.invokevirtual idx, 3))
    (kk : ∀ (r : Option Value) (pr1 : Nat → Nat → Prop) (ad1 : Nat → Nat → Nat → Nat) (g1 : Nat → Nat → Nat → Int32), Q1 r pr1 ad1 g1 → V l G own cc nL ret rm Q0 mc ms (cells + mc1) (slots + ms1) (pc + 3) L (r.toList ++ S) pr1 ad1 g1) : V l G own cc nL ret rm Q0 mc ms cells slots pc L S0 pr ad g := by
  refine V_run (a := (Value.ref (ad t k 0) :: As).toArray) (fun p e s m args below meth c H locs A ls hC hR0 hS hl => ?_) kk
  subst hst
  refine va_runV (cc := cc) (nL := nL) (own := own) (Ts := wsL_law) (C := y.cls) (b := ad t k 0) (As := As) (rest := S) ⟨hC.1, hC.2.1, hC.2.2.1, hC.2.2.2.2.2.1, hC.2.2.2.2.2.2.1⟩ (hM H.size) (cwV n hC.2.2.2.2.2.2.1 (mm_gv hq hi hs hY.2.2 hY.2.1) rfl h1 h2 ⟨rfl, hY.1⟩ hR) ⟨mm_bl, ?_, mm_st hC hR0 hS⟩ rfl hn hl.1 rfl (lv_room hW) hdg hf
  obtain ⟨Ls, f, hP, hD, hL, hJ⟩ := hR0
  obtain ⟨hm, hf1⟩ := hL.1 t k 0 _ hp he
  obtain ⟨q0, hq0⟩ := va_pl_get (X := []) (f := f) hm
  rw [hf1] at hq0
  rw [hyc]
  exact va_recv hC.2.2.2.2.2.2.2.1.1 hP hc hq0
theorem V_cS {idx n nL1 mc1 ms1 : Nat} {y : MethodName} {bb : ByteArray} {ret1 : Option FieldType} {rm1 : Room} {As : List Value} {Q1 : mm_T} (hM : Mt l G y bb nL1 ret1 rm1 As pr ad g Q1 mc1 ms1) (hY : mm_Y y bb nL1 ret1 n) (hi : Cond.static y ∈ wsL_law) (hq : Cond.methodLink own idx y ∈ wsL_law) (hn : As.length = n) (hst : S0 = As.reverse ++ S)
    (h1 : rm1.cells = mc1) (h2 : rm1.slots = ms1) (hR : rm1.frames + 1 ≤ rm.frames ∧ 8 + (nL1 + 11) + rm1.locals ≤ rm.locals) (hW : (S.map fun v => v.category).sum ≤ 8) (hf : cells + mc1 ≤ rm.cells ∧ slots + ms1 ≤ rm.slots) (hdg : decode cc pc = .ok (.invokestatic idx, 3))
    (kk : ∀ (r : Option Value) (pr1 : Nat → Nat → Prop) (ad1 : Nat → Nat → Nat → Nat) (g1 : Nat → Nat → Nat → Int32), Q1 r pr1 ad1 g1 → V l G own cc nL ret rm Q0 mc ms (cells + mc1) (slots + ms1) (pc + 3) L (r.toList ++ S) pr1 ad1 g1) : V l G own cc nL ret rm Q0 mc ms cells slots pc L S0 pr ad g := by
  refine V_run (a := As.toArray) (fun p e s m args below meth c H locs A ls hC hR0 hS hl => ?_) kk
  subst hst
  exact va_runS (cc := cc) (nL := nL) (own := own) (Ts := wsL_law) (As := As) (rest := S) ⟨hC.1, hC.2.1, hC.2.2.1, hC.2.2.2.2.2.1, hC.2.2.2.2.2.2.1⟩ (hM H.size) (va_cwS n hC.2.2.2.2.2.2.1 (mm_gs hq hi hY.2.2 hY.2.1) rfl h1 h2 hY.1 hR) ⟨mm_bl, mm_st hC hR0 hS⟩ rfl hn hl.1 rfl (lv_room hW) hdg hf
theorem V_cSN {idx n nL1 mc1 ms1 : Nat} {y : MethodName} {bb : ByteArray} {ret1 : Option FieldType} {rm1 : Room} {As : List Value} {Q1 : mm_T} (hM : Mt l G y bb nL1 ret1 rm1 As pr ad g Q1 mc1 ms1) (hY : mm_Y y bb nL1 ret1 n) (hi : Cond.static y ∈ wsL_law) (hq : (own, idx, y) ∈ mm_nM) (hn : As.length = n) (hst : S0 = As.reverse ++ S)
    (h1 : rm1.cells = mc1) (h2 : rm1.slots = ms1) (hR : rm1.frames + 1 ≤ rm.frames ∧ 8 + (nL1 + 11) + rm1.locals ≤ rm.locals) (hW : (S.map fun v => v.category).sum ≤ 8) (hf : cells + mc1 ≤ rm.cells ∧ slots + ms1 ≤ rm.slots) (hdg : decode cc pc = .ok (.invokestatic idx, 3))
    (kk : ∀ (r : Option Value) (pr1 : Nat → Nat → Prop) (ad1 : Nat → Nat → Nat → Nat) (g1 : Nat → Nat → Nat → Int32), Q1 r pr1 ad1 g1 → V l G own cc nL ret rm Q0 mc ms (cells + mc1) (slots + ms1) (pc + 3) L (r.toList ++ S) pr1 ad1 g1) : V l G own cc nL ret rm Q0 mc ms cells slots pc L S0 pr ad g := by
  refine V_run (a := As.toArray) (fun p e s m args below meth c H locs A ls hC hR0 hS hl => ?_) kk
  subst hst
  exact va_runSN (cc := cc) (nL := nL) (own := own) (Ts := wsL_law) (As := As) (rest := S) ⟨hC.1, hC.2.1, hC.2.2.1, hC.2.2.2.2.2.1, hC.2.2.2.2.2.2.1⟩ (hM H.size) ⟨va_cnB n hC.2.2.2.2.2.2.1 (mm_gc hY.2.1) rfl h1 h2 (hC.2.2.2.2.2.2.2.1.2.2 _ hq) (hC.2.2.2.2.2.2.1 _ hY.2.2) hY.1 hR, hC.2.2.2.2.2.2.1 _ hi, trivial⟩ ⟨mm_bl, mm_st hC hR0 hS⟩ rfl hn hl.1 rfl (lv_room hW) hdg hf
/-- a call whose answer and memory are told -/
theorem V_kd {r0 : Option Value} {pr0 : Nat → Nat → Prop} {ad0 : Nat → Nat → Nat → Nat} {g0 : Nat → Nat → Nat → Int32} {mc1 ms1 : Nat} (k : V l G own cc nL ret rm Q0 mc ms (cells + mc1) (slots + ms1) (pc + 3) L (r0.toList ++ S) pr0 ad0 g0) : ∀ (r : Option Value) (pr1 : Nat → Nat → Prop) (ad1 : Nat → Nat → Nat → Nat) (g1 : Nat → Nat → Nat → Int32), mm_D r0 pr0 ad0 g0 r pr1 ad1 g1 → V l G own cc nL ret rm Q0 mc ms (cells + mc1) (slots + ms1) (pc + 3) L (r.toList ++ S) pr1 ad1 g1 := by
  rintro r pr1 ad1 g1 ⟨rfl, rfl, rfl, rfl⟩
  exact k
end CAL
theorem hy_X6_init : mm_Y yX6_init cX6_init 1 none 0 := ⟨⟨by decide +kernel, by decide +kernel, by decide +kernel⟩, q_8, q_2⟩
theorem hi_X6_init : Cond.instanceMethod yX6_init ∈ wsL_law := q_7
theorem hy_X4_init : mm_Y yX4_init cX4_init 2 none 0 := ⟨⟨by decide +kernel, by decide +kernel, by decide +kernel⟩, q_41, q_14⟩
theorem hi_X4_init : Cond.instanceMethod yX4_init ∈ wsL_law := q_40
theorem hy_X5_init : mm_Y yX5_init cX5_init 1 none 0 := ⟨⟨by decide +kernel, by decide +kernel, by decide +kernel⟩, q_48, q_18⟩
theorem hi_X5_init : Cond.instanceMethod yX5_init ∈ wsL_law := q_47
theorem hy_X2_init : mm_Y yX2_init cX2_init 1 none 0 := ⟨⟨by decide +kernel, by decide +kernel, by decide +kernel⟩, q_55, q_22⟩
theorem hi_X2_init : Cond.instanceMethod yX2_init ∈ wsL_law := q_54
theorem hy_X0_init : mm_Y yX0_init cX0_init 1 none 0 := ⟨⟨by decide +kernel, by decide +kernel, by decide +kernel⟩, q_68, q_26⟩
theorem hi_X0_init : Cond.instanceMethod yX0_init ∈ wsL_law := q_67
theorem hy_X3_init : mm_Y yX3_init cX3_init 1 none 0 := ⟨⟨by decide +kernel, by decide +kernel, by decide +kernel⟩, q_75, q_31⟩
theorem hi_X3_init : Cond.instanceMethod yX3_init ∈ wsL_law := q_74
theorem hy_X1_init : mm_Y yX1_init cX1_init 1 none 0 := ⟨⟨by decide +kernel, by decide +kernel, by decide +kernel⟩, q_83, q_35⟩
theorem hi_X1_init : Cond.instanceMethod yX1_init ∈ wsL_law := q_82
theorem hy_X7_init : mm_Y yX7_init cX7_init 2 none 0 := ⟨⟨by decide +kernel, by decide +kernel, by decide +kernel⟩, q_89, q_5⟩
theorem hi_X7_init : Cond.instanceMethod yX7_init ∈ wsL_law := q_88
theorem hy_X6_row : mm_Y yX6_row cX6_row 4 (some .int) 3 := ⟨⟨by decide +kernel, by decide +kernel, by decide +kernel⟩, q_107, q_2⟩
theorem hi_X6_row : Cond.instanceMethod yX6_row ∈ wsL_law := q_105
theorem hs_X6_row : Cond.selects yX6_row.cls yX6_row yX6_row ∈ wsL_law := q_106
theorem hy_X6_within : mm_Y yX6_within cX6_within 3 (some .boolean) 3 := ⟨⟨by decide +kernel, by decide +kernel, by decide +kernel⟩, q_111, q_2⟩
theorem hz_X6_within : Cond.static yX6_within ∈ wsL_law := q_110
theorem hy_X6_found : mm_Y yX6_found cX6_found 2 (some .int) 1 := ⟨⟨by decide +kernel, by decide +kernel, by decide +kernel⟩, q_115, q_2⟩
theorem hi_X6_found : Cond.instanceMethod yX6_found ∈ wsL_law := q_113
theorem hs_X6_found : Cond.selects yX6_found.cls yX6_found yX6_found ∈ wsL_law := q_114
theorem hy_X4_make : mm_Y yX4_make cX4_make 5 none 3 := ⟨⟨by decide +kernel, by decide +kernel, by decide +kernel⟩, q_120, q_14⟩
theorem hi_X4_make : Cond.instanceMethod yX4_make ∈ wsL_law := q_118
theorem hs_X4_make : Cond.selects yX4_make.cls yX4_make yX4_make ∈ wsL_law := q_119
theorem hy_X6_unfound : mm_Y yX6_unfound cX6_unfound 2 (some .int) 1 := ⟨⟨by decide +kernel, by decide +kernel, by decide +kernel⟩, q_124, q_2⟩
theorem hi_X6_unfound : Cond.instanceMethod yX6_unfound ∈ wsL_law := q_122
theorem hs_X6_unfound : Cond.selects yX6_unfound.cls yX6_unfound yX6_unfound ∈ wsL_law := q_123
theorem hy_X7_row : mm_Y yX7_row cX7_row 5 (some .int) 3 := ⟨⟨by decide +kernel, by decide +kernel, by decide +kernel⟩, q_128, q_5⟩
theorem hi_X7_row : Cond.instanceMethod yX7_row ∈ wsL_law := q_126
theorem hs_X7_row : Cond.selects yX7_row.cls yX7_row yX7_row ∈ wsL_law := q_127
theorem hy_X7_isRow : mm_Y yX7_isRow cX7_isRow 1 (some .boolean) 1 := ⟨⟨by decide +kernel, by decide +kernel, by decide +kernel⟩, q_133, q_5⟩
theorem hz_X7_isRow : Cond.static yX7_isRow ∈ wsL_law := q_132
theorem hy_X7_in : mm_Y yX7_in cX7_in 6 (some .boolean) 3 := ⟨⟨by decide +kernel, by decide +kernel, by decide +kernel⟩, q_137, q_5⟩
theorem hz_X7_in : Cond.static yX7_in ∈ wsL_law := q_136
theorem hy_X7_find : mm_Y yX7_find cX7_find 2 (some .int) 1 := ⟨⟨by decide +kernel, by decide +kernel, by decide +kernel⟩, q_141, q_5⟩
theorem hi_X7_find : Cond.instanceMethod yX7_find ∈ wsL_law := q_139
theorem hs_X7_find : Cond.selects yX7_find.cls yX7_find yX7_find ∈ wsL_law := q_140
theorem hy_X7_well : mm_Y yX7_well cX7_well 2 (some .int) 1 := ⟨⟨by decide +kernel, by decide +kernel, by decide +kernel⟩, q_147, q_5⟩
theorem hi_X7_well : Cond.instanceMethod yX7_well ∈ wsL_law := q_145
theorem hs_X7_well : Cond.selects yX7_well.cls yX7_well yX7_well ∈ wsL_law := q_146
theorem hy_X6_set : mm_Y yX6_set cX6_set 4 (some .int) 3 := ⟨⟨by decide +kernel, by decide +kernel, by decide +kernel⟩, q_151, q_2⟩
theorem hi_X6_set : Cond.instanceMethod yX6_set ∈ wsL_law := q_149
theorem hs_X6_set : Cond.selects yX6_set.cls yX6_set yX6_set ∈ wsL_law := q_150
theorem hy_X4_isMissing : mm_Y yX4_isMissing cX4_isMissing 2 (some .boolean) 1 := ⟨⟨by decide +kernel, by decide +kernel, by decide +kernel⟩, q_155, q_14⟩
theorem hi_X4_isMissing : Cond.instanceMethod yX4_isMissing ∈ wsL_law := q_153
theorem hs_X4_isMissing : Cond.selects yX4_isMissing.cls yX4_isMissing yX4_isMissing ∈ wsL_law := q_154
theorem hy_X4_holds : mm_Y yX4_holds cX4_holds 4 (some .boolean) 3 := ⟨⟨by decide +kernel, by decide +kernel, by decide +kernel⟩, q_159, q_14⟩
theorem hi_X4_holds : Cond.instanceMethod yX4_holds ∈ wsL_law := q_157
theorem hs_X4_holds : Cond.selects yX4_holds.cls yX4_holds yX4_holds ∈ wsL_law := q_158
theorem hy_X4_put : mm_Y yX4_put cX4_put 5 (some .int) 3 := ⟨⟨by decide +kernel, by decide +kernel, by decide +kernel⟩, q_164, q_14⟩
theorem hi_X4_put : Cond.instanceMethod yX4_put ∈ wsL_law := q_162
theorem hs_X4_put : Cond.selects yX4_put.cls yX4_put yX4_put ∈ wsL_law := q_163
theorem hy_X4_inLane : mm_Y yX4_inLane cX4_inLane 2 (some .int) 2 := ⟨⟨by decide +kernel, by decide +kernel, by decide +kernel⟩, q_168, q_14⟩
theorem hz_X4_inLane : Cond.static yX4_inLane ∈ wsL_law := q_167
theorem hy_X7_set : mm_Y yX7_set cX7_set 4 (some .int) 3 := ⟨⟨by decide +kernel, by decide +kernel, by decide +kernel⟩, q_172, q_5⟩
theorem hi_X7_set : Cond.instanceMethod yX7_set ∈ wsL_law := q_170
theorem hs_X7_set : Cond.selects yX7_set.cls yX7_set yX7_set ∈ wsL_law := q_171
theorem hy_X7_asLane : mm_Y yX7_asLane cX7_asLane 2 (some .int) 2 := ⟨⟨by decide +kernel, by decide +kernel, by decide +kernel⟩, q_175, q_5⟩
theorem hz_X7_asLane : Cond.static yX7_asLane ∈ wsL_law := q_174
theorem hy_X6_copy : mm_Y yX6_copy cX6_copy 6 (some .int) 5 := ⟨⟨by decide +kernel, by decide +kernel, by decide +kernel⟩, q_179, q_2⟩
theorem hi_X6_copy : Cond.instanceMethod yX6_copy ∈ wsL_law := q_177
theorem hs_X6_copy : Cond.selects yX6_copy.cls yX6_copy yX6_copy ∈ wsL_law := q_178
theorem hy_X4_laneOf : mm_Y yX4_laneOf cX4_laneOf 2 (some .int) 1 := ⟨⟨by decide +kernel, by decide +kernel, by decide +kernel⟩, q_183, q_14⟩
theorem hi_X4_laneOf : Cond.instanceMethod yX4_laneOf ∈ wsL_law := q_181
theorem hs_X4_laneOf : Cond.selects yX4_laneOf.cls yX4_laneOf yX4_laneOf ∈ wsL_law := q_182
theorem hy_X4_carry : mm_Y yX4_carry cX4_carry 6 none 5 := ⟨⟨by decide +kernel, by decide +kernel, by decide +kernel⟩, q_187, q_14⟩
theorem hi_X4_carry : Cond.instanceMethod yX4_carry ∈ wsL_law := q_185
theorem hs_X4_carry : Cond.selects yX4_carry.cls yX4_carry yX4_carry ∈ wsL_law := q_186
theorem hy_X7_copy : mm_Y yX7_copy cX7_copy 7 (some .int) 5 := ⟨⟨by decide +kernel, by decide +kernel, by decide +kernel⟩, q_195, q_5⟩
theorem hi_X7_copy : Cond.instanceMethod yX7_copy ∈ wsL_law := q_193
theorem hs_X7_copy : Cond.selects yX7_copy.cls yX7_copy yX7_copy ∈ wsL_law := q_194
theorem hy_X6_drop : mm_Y yX6_drop cX6_drop 2 (some .int) 1 := ⟨⟨by decide +kernel, by decide +kernel, by decide +kernel⟩, q_199, q_2⟩
theorem hi_X6_drop : Cond.instanceMethod yX6_drop ∈ wsL_law := q_197
theorem hs_X6_drop : Cond.selects yX6_drop.cls yX6_drop yX6_drop ∈ wsL_law := q_198
theorem hy_X4_lose : mm_Y yX4_lose cX4_lose 3 (some .int) 1 := ⟨⟨by decide +kernel, by decide +kernel, by decide +kernel⟩, q_203, q_14⟩
theorem hi_X4_lose : Cond.instanceMethod yX4_lose ∈ wsL_law := q_201
theorem hs_X4_lose : Cond.selects yX4_lose.cls yX4_lose yX4_lose ∈ wsL_law := q_202
theorem hy_X7_drop : mm_Y yX7_drop cX7_drop 3 (some .int) 1 := ⟨⟨by decide +kernel, by decide +kernel, by decide +kernel⟩, q_207, q_5⟩
theorem hi_X7_drop : Cond.instanceMethod yX7_drop ∈ wsL_law := q_205
theorem hs_X7_drop : Cond.selects yX7_drop.cls yX7_drop yX7_drop ∈ wsL_law := q_206
theorem hy_X6_feed : mm_Y yX6_feed cX6_feed 2 (some .int) 1 := ⟨⟨by decide +kernel, by decide +kernel, by decide +kernel⟩, q_211, q_2⟩
theorem hi_X6_feed : Cond.instanceMethod yX6_feed ∈ wsL_law := q_209
theorem hs_X6_feed : Cond.selects yX6_feed.cls yX6_feed yX6_feed ∈ wsL_law := q_210
theorem hy_X5_length : mm_Y yX5_length cX5_length 1 (some .int) 0 := ⟨⟨by decide +kernel, by decide +kernel, by decide +kernel⟩, q_216, q_18⟩
theorem hi_X5_length : Cond.instanceMethod yX5_length ∈ wsL_law := q_214
theorem hs_X5_length : Cond.selects yX5_length.cls yX5_length yX5_length ∈ wsL_law := q_215
theorem hy_X5_append : mm_Y yX5_append cX5_append 2 (some .int) 1 := ⟨⟨by decide +kernel, by decide +kernel, by decide +kernel⟩, q_220, q_18⟩
theorem hi_X5_append : Cond.instanceMethod yX5_append ∈ wsL_law := q_218
theorem hs_X5_append : Cond.selects yX5_append.cls yX5_append yX5_append ∈ wsL_law := q_219
theorem hy_X7_feed : mm_Y yX7_feed cX7_feed 2 (some .int) 1 := ⟨⟨by decide +kernel, by decide +kernel, by decide +kernel⟩, q_224, q_5⟩
theorem hi_X7_feed : Cond.instanceMethod yX7_feed ∈ wsL_law := q_222
theorem hs_X7_feed : Cond.selects yX7_feed.cls yX7_feed yX7_feed ∈ wsL_law := q_223
theorem hy_X6_flat : mm_Y yX6_flat cX6_flat 3 (some .int) 0 := ⟨⟨by decide +kernel, by decide +kernel, by decide +kernel⟩, q_231, q_2⟩
theorem hi_X6_flat : Cond.instanceMethod yX6_flat ∈ wsL_law := q_229
theorem hs_X6_flat : Cond.selects yX6_flat.cls yX6_flat yX6_flat ∈ wsL_law := q_230
theorem hy_X3_scratch : mm_Y yX3_scratch cX3_scratch 1 (some (.object "CockleSquires$Flat")) 0 := ⟨⟨by decide +kernel, by decide +kernel, by decide +kernel⟩, q_236, q_31⟩
theorem hi_X3_scratch : Cond.instanceMethod yX3_scratch ∈ wsL_law := q_234
theorem hs_X3_scratch : Cond.selects yX3_scratch.cls yX3_scratch yX3_scratch ∈ wsL_law := q_235
theorem hy_X5_readInto : mm_Y yX5_readInto cX5_readInto 2 (some .int) 1 := ⟨⟨by decide +kernel, by decide +kernel, by decide +kernel⟩, q_240, q_18⟩
theorem hi_X5_readInto : Cond.instanceMethod yX5_readInto ∈ wsL_law := q_238
theorem hs_X5_readInto : Cond.selects yX5_readInto.cls yX5_readInto yX5_readInto ∈ wsL_law := q_239
theorem hy_X5_readLaw : mm_Y yX5_readLaw cX5_readLaw 5 (some .boolean) 1 := ⟨⟨by decide +kernel, by decide +kernel, by decide +kernel⟩, q_244, q_18⟩
theorem hi_X5_readLaw : Cond.instanceMethod yX5_readLaw ∈ wsL_law := q_242
theorem hs_X5_readLaw : Cond.selects yX5_readLaw.cls yX5_readLaw yX5_readLaw ∈ wsL_law := q_243
theorem hy_X5_takes : mm_Y yX5_takes cX5_takes 2 (some .boolean) 1 := ⟨⟨by decide +kernel, by decide +kernel, by decide +kernel⟩, q_248, q_18⟩
theorem hi_X5_takes : Cond.instanceMethod yX5_takes ∈ wsL_law := q_246
theorem hs_X5_takes : Cond.selects yX5_takes.cls yX5_takes yX5_takes ∈ wsL_law := q_247
theorem hy_X5_letterAt : mm_Y yX5_letterAt cX5_letterAt 2 (some .int) 1 := ⟨⟨by decide +kernel, by decide +kernel, by decide +kernel⟩, q_252, q_18⟩
theorem hi_X5_letterAt : Cond.instanceMethod yX5_letterAt ∈ wsL_law := q_250
theorem hs_X5_letterAt : Cond.selects yX5_letterAt.cls yX5_letterAt yX5_letterAt ∈ wsL_law := q_251
theorem hy_X5_fails : mm_Y yX5_fails cX5_fails 2 (some .boolean) 1 := ⟨⟨by decide +kernel, by decide +kernel, by decide +kernel⟩, q_256, q_18⟩
theorem hi_X5_fails : Cond.instanceMethod yX5_fails ∈ wsL_law := q_254
theorem hs_X5_fails : Cond.selects yX5_fails.cls yX5_fails yX5_fails ∈ wsL_law := q_255
theorem hy_X5_number : mm_Y yX5_number cX5_number 6 (some .int) 2 := ⟨⟨by decide +kernel, by decide +kernel, by decide +kernel⟩, q_260, q_18⟩
theorem hi_X5_number : Cond.instanceMethod yX5_number ∈ wsL_law := q_258
theorem hs_X5_number : Cond.selects yX5_number.cls yX5_number yX5_number ∈ wsL_law := q_259
theorem hy_X5_figuresAhead : mm_Y yX5_figuresAhead cX5_figuresAhead 2 (some .int) 0 := ⟨⟨by decide +kernel, by decide +kernel, by decide +kernel⟩, q_264, q_18⟩
theorem hi_X5_figuresAhead : Cond.instanceMethod yX5_figuresAhead ∈ wsL_law := q_262
theorem hs_X5_figuresAhead : Cond.selects yX5_figuresAhead.cls yX5_figuresAhead yX5_figuresAhead ∈ wsL_law := q_263
theorem hy_X2_begin : mm_Y yX2_begin cX2_begin 5 none 3 := ⟨⟨by decide +kernel, by decide +kernel, by decide +kernel⟩, q_268, q_22⟩
theorem hi_X2_begin : Cond.instanceMethod yX2_begin ∈ wsL_law := q_266
theorem hs_X2_begin : Cond.selects yX2_begin.cls yX2_begin yX2_begin ∈ wsL_law := q_267
theorem hy_X5_readBeds : mm_Y yX5_readBeds cX5_readBeds 3 none 1 := ⟨⟨by decide +kernel, by decide +kernel, by decide +kernel⟩, q_272, q_18⟩
theorem hi_X5_readBeds : Cond.instanceMethod yX5_readBeds ∈ wsL_law := q_270
theorem hs_X5_readBeds : Cond.selects yX5_readBeds.cls yX5_readBeds yX5_readBeds ∈ wsL_law := q_271
theorem hy_X5_readBed : mm_Y yX5_readBed cX5_readBed 5 (some .boolean) 1 := ⟨⟨by decide +kernel, by decide +kernel, by decide +kernel⟩, q_276, q_18⟩
theorem hi_X5_readBed : Cond.instanceMethod yX5_readBed ∈ wsL_law := q_274
theorem hs_X5_readBed : Cond.selects yX5_readBed.cls yX5_readBed yX5_readBed ∈ wsL_law := q_275
theorem hy_X5_kindNamed : mm_Y yX5_kindNamed cX5_kindNamed 1 (some .int) 1 := ⟨⟨by decide +kernel, by decide +kernel, by decide +kernel⟩, q_279, q_18⟩
theorem hz_X5_kindNamed : Cond.static yX5_kindNamed ∈ wsL_law := q_278
theorem hy_X2_add : mm_Y yX2_add cX2_add 4 none 3 := ⟨⟨by decide +kernel, by decide +kernel, by decide +kernel⟩, q_283, q_22⟩
theorem hi_X2_add : Cond.instanceMethod yX2_add ∈ wsL_law := q_281
theorem hs_X2_add : Cond.selects yX2_add.cls yX2_add yX2_add ∈ wsL_law := q_282
theorem hy_X5_clear : mm_Y yX5_clear cX5_clear 1 none 0 := ⟨⟨by decide +kernel, by decide +kernel, by decide +kernel⟩, q_287, q_18⟩
theorem hi_X5_clear : Cond.instanceMethod yX5_clear ∈ wsL_law := q_285
theorem hs_X5_clear : Cond.selects yX5_clear.cls yX5_clear yX5_clear ∈ wsL_law := q_286
theorem hy_X5_readTo : mm_Y yX5_readTo cX5_readTo 1 (some .int) 0 := ⟨⟨by decide +kernel, by decide +kernel, by decide +kernel⟩, q_291, q_18⟩
theorem hi_X5_readTo : Cond.instanceMethod yX5_readTo ∈ wsL_law := q_289
theorem hs_X5_readTo : Cond.selects yX5_readTo.cls yX5_readTo yX5_readTo ∈ wsL_law := q_290
theorem hy_X2_become : mm_Y yX2_become cX2_become 2 none 1 := ⟨⟨by decide +kernel, by decide +kernel, by decide +kernel⟩, q_295, q_22⟩
theorem hi_X2_become : Cond.instanceMethod yX2_become ∈ wsL_law := q_293
theorem hs_X2_become : Cond.selects yX2_become.cls yX2_become yX2_become ∈ wsL_law := q_294
theorem hy_X0_forget : mm_Y yX0_forget cX0_forget 1 none 0 := ⟨⟨by decide +kernel, by decide +kernel, by decide +kernel⟩, q_300, q_26⟩
theorem hi_X0_forget : Cond.instanceMethod yX0_forget ∈ wsL_law := q_298
theorem hs_X0_forget : Cond.selects yX0_forget.cls yX0_forget yX0_forget ∈ wsL_law := q_299
theorem hy_X7_flat : mm_Y yX7_flat cX7_flat 3 (some .int) 0 := ⟨⟨by decide +kernel, by decide +kernel, by decide +kernel⟩, q_304, q_5⟩
theorem hi_X7_flat : Cond.instanceMethod yX7_flat ∈ wsL_law := q_302
theorem hs_X7_flat : Cond.selects yX7_flat.cls yX7_flat yX7_flat ∈ wsL_law := q_303
theorem hy_X7_readFlat : mm_Y yX7_readFlat cX7_readFlat 2 (some .boolean) 0 := ⟨⟨by decide +kernel, by decide +kernel, by decide +kernel⟩, q_314, q_5⟩
theorem hi_X7_readFlat : Cond.instanceMethod yX7_readFlat ∈ wsL_law := q_312
theorem hs_X7_readFlat : Cond.selects yX7_readFlat.cls yX7_readFlat yX7_readFlat ∈ wsL_law := q_313
theorem hy_X7_nextToken : mm_Y yX7_nextToken cX7_nextToken 1 none 0 := ⟨⟨by decide +kernel, by decide +kernel, by decide +kernel⟩, q_320, q_5⟩
theorem hi_X7_nextToken : Cond.instanceMethod yX7_nextToken ∈ wsL_law := q_318
theorem hs_X7_nextToken : Cond.selects yX7_nextToken.cls yX7_nextToken yX7_nextToken ∈ wsL_law := q_319
theorem hy_X7_takes : mm_Y yX7_takes cX7_takes 2 (some .boolean) 1 := ⟨⟨by decide +kernel, by decide +kernel, by decide +kernel⟩, q_329, q_5⟩
theorem hi_X7_takes : Cond.instanceMethod yX7_takes ∈ wsL_law := q_327
theorem hs_X7_takes : Cond.selects yX7_takes.cls yX7_takes yX7_takes ∈ wsL_law := q_328
theorem hy_X7_faults : mm_Y yX7_faults cX7_faults 2 (some .boolean) 1 := ⟨⟨by decide +kernel, by decide +kernel, by decide +kernel⟩, q_333, q_5⟩
theorem hi_X7_faults : Cond.instanceMethod yX7_faults ∈ wsL_law := q_331
theorem hs_X7_faults : Cond.selects yX7_faults.cls yX7_faults yX7_faults ∈ wsL_law := q_332
theorem hy_X7_takesNumber : mm_Y yX7_takesNumber cX7_takesNumber 5 (some .boolean) 4 := ⟨⟨by decide +kernel, by decide +kernel, by decide +kernel⟩, q_337, q_5⟩
theorem hi_X7_takesNumber : Cond.instanceMethod yX7_takesNumber ∈ wsL_law := q_335
theorem hs_X7_takesNumber : Cond.selects yX7_takesNumber.cls yX7_takesNumber yX7_takesNumber ∈ wsL_law := q_336
theorem hy_X7_readBed : mm_Y yX7_readBed cX7_readBed 3 (some .boolean) 0 := ⟨⟨by decide +kernel, by decide +kernel, by decide +kernel⟩, q_341, q_5⟩
theorem hi_X7_readBed : Cond.instanceMethod yX7_readBed ∈ wsL_law := q_339
theorem hs_X7_readBed : Cond.selects yX7_readBed.cls yX7_readBed yX7_readBed ∈ wsL_law := q_340
theorem hy_X7_kindBy : mm_Y yX7_kindBy cX7_kindBy 1 (some .int) 1 := ⟨⟨by decide +kernel, by decide +kernel, by decide +kernel⟩, q_344, q_5⟩
theorem hz_X7_kindBy : Cond.static yX7_kindBy ∈ wsL_law := q_343
theorem hy_X6_fault : mm_Y yX6_fault cX6_fault 1 (some .int) 0 := ⟨⟨by decide +kernel, by decide +kernel, by decide +kernel⟩, q_348, q_2⟩
theorem hi_X6_fault : Cond.instanceMethod yX6_fault ∈ wsL_law := q_346
theorem hs_X6_fault : Cond.selects yX6_fault.cls yX6_fault yX6_fault ∈ wsL_law := q_347
theorem hy_X7_fault : mm_Y yX7_fault cX7_fault 1 (some .int) 0 := ⟨⟨by decide +kernel, by decide +kernel, by decide +kernel⟩, q_352, q_5⟩
theorem hi_X7_fault : Cond.instanceMethod yX7_fault ∈ wsL_law := q_350
theorem hs_X7_fault : Cond.selects yX7_fault.cls yX7_fault yX7_fault ∈ wsL_law := q_351
theorem hy_X6_undo : mm_Y yX6_undo cX6_undo 1 (some .int) 0 := ⟨⟨by decide +kernel, by decide +kernel, by decide +kernel⟩, q_356, q_2⟩
theorem hi_X6_undo : Cond.instanceMethod yX6_undo ∈ wsL_law := q_354
theorem hs_X6_undo : Cond.selects yX6_undo.cls yX6_undo yX6_undo ∈ wsL_law := q_355
theorem hy_X0_takeBack : mm_Y yX0_takeBack cX0_takeBack 4 (some .boolean) 1 := ⟨⟨by decide +kernel, by decide +kernel, by decide +kernel⟩, q_361, q_26⟩
theorem hi_X0_takeBack : Cond.instanceMethod yX0_takeBack ∈ wsL_law := q_359
theorem hs_X0_takeBack : Cond.selects yX0_takeBack.cls yX0_takeBack yX0_takeBack ∈ wsL_law := q_360
theorem hy_X0_kept : mm_Y yX0_kept cX0_kept 1 (some .int) 0 := ⟨⟨by decide +kernel, by decide +kernel, by decide +kernel⟩, q_366, q_26⟩
theorem hi_X0_kept : Cond.instanceMethod yX0_kept ∈ wsL_law := q_364
theorem hs_X0_kept : Cond.selects yX0_kept.cls yX0_kept yX0_kept ∈ wsL_law := q_365
theorem hy_X7_undo : mm_Y yX7_undo cX7_undo 2 (some .int) 0 := ⟨⟨by decide +kernel, by decide +kernel, by decide +kernel⟩, q_370, q_5⟩
theorem hi_X7_undo : Cond.instanceMethod yX7_undo ∈ wsL_law := q_368
theorem hs_X7_undo : Cond.selects yX7_undo.cls yX7_undo yX7_undo ∈ wsL_law := q_369
theorem hy_X6_tides : mm_Y yX6_tides cX6_tides 3 (some .int) 1 := ⟨⟨by decide +kernel, by decide +kernel, by decide +kernel⟩, q_375, q_2⟩
theorem hi_X6_tides : Cond.instanceMethod yX6_tides ∈ wsL_law := q_373
theorem hs_X6_tides : Cond.selects yX6_tides.cls yX6_tides yX6_tides ∈ wsL_law := q_374
theorem hy_X2_isNone : mm_Y yX2_isNone cX2_isNone 1 (some .boolean) 0 := ⟨⟨by decide +kernel, by decide +kernel, by decide +kernel⟩, q_379, q_22⟩
theorem hi_X2_isNone : Cond.instanceMethod yX2_isNone ∈ wsL_law := q_377
theorem hs_X2_isNone : Cond.selects yX2_isNone.cls yX2_isNone yX2_isNone ∈ wsL_law := q_378
theorem hy_X0_keep : mm_Y yX0_keep cX0_keep 3 none 1 := ⟨⟨by decide +kernel, by decide +kernel, by decide +kernel⟩, q_383, q_26⟩
theorem hi_X0_keep : Cond.instanceMethod yX0_keep ∈ wsL_law := q_381
theorem hs_X0_keep : Cond.selects yX0_keep.cls yX0_keep yX0_keep ∈ wsL_law := q_382
theorem hy_X2_flow : mm_Y yX2_flow cX2_flow 2 none 0 := ⟨⟨by decide +kernel, by decide +kernel, by decide +kernel⟩, q_391, q_22⟩
theorem hi_X2_flow : Cond.instanceMethod yX2_flow ∈ wsL_law := q_389
theorem hs_X2_flow : Cond.selects yX2_flow.cls yX2_flow yX2_flow ∈ wsL_law := q_390
theorem hy_X2_swell : mm_Y yX2_swell cX2_swell 3 none 1 := ⟨⟨by decide +kernel, by decide +kernel, by decide +kernel⟩, q_395, q_22⟩
theorem hi_X2_swell : Cond.instanceMethod yX2_swell ∈ wsL_law := q_393
theorem hs_X2_swell : Cond.selects yX2_swell.cls yX2_swell yX2_swell ∈ wsL_law := q_394
theorem hy_X2_has : mm_Y yX2_has cX2_has 2 (some .boolean) 1 := ⟨⟨by decide +kernel, by decide +kernel, by decide +kernel⟩, q_403, q_22⟩
theorem hi_X2_has : Cond.instanceMethod yX2_has ∈ wsL_law := q_401
theorem hs_X2_has : Cond.selects yX2_has.cls yX2_has yX2_has ∈ wsL_law := q_402
theorem hy_X2_lying : mm_Y yX2_lying cX2_lying 2 (some .int) 1 := ⟨⟨by decide +kernel, by decide +kernel, by decide +kernel⟩, q_407, q_22⟩
theorem hi_X2_lying : Cond.instanceMethod yX2_lying ∈ wsL_law := q_405
theorem hs_X2_lying : Cond.selects yX2_lying.cls yX2_lying yX2_lying ∈ wsL_law := q_406
theorem hy_X2_nearerBy : mm_Y yX2_nearerBy cX2_nearerBy 4 (some .int) 2 := ⟨⟨by decide +kernel, by decide +kernel, by decide +kernel⟩, q_411, q_22⟩
theorem hi_X2_nearerBy : Cond.instanceMethod yX2_nearerBy ∈ wsL_law := q_409
theorem hs_X2_nearerBy : Cond.selects yX2_nearerBy.cls yX2_nearerBy yX2_nearerBy ∈ wsL_law := q_410
theorem hy_X2_otherOne : mm_Y yX2_otherOne cX2_otherOne 1 (some .int) 1 := ⟨⟨by decide +kernel, by decide +kernel, by decide +kernel⟩, q_417, q_22⟩
theorem hz_X2_otherOne : Cond.static yX2_otherOne ∈ wsL_law := q_416
theorem hy_X2_byWarmth : mm_Y yX2_byWarmth cX2_byWarmth 1 (some .int) 1 := ⟨⟨by decide +kernel, by decide +kernel, by decide +kernel⟩, q_420, q_22⟩
theorem hz_X2_byWarmth : Cond.static yX2_byWarmth ∈ wsL_law := q_419
theorem hy_X2_allStock : mm_Y yX2_allStock cX2_allStock 3 (some .int) 0 := ⟨⟨by decide +kernel, by decide +kernel, by decide +kernel⟩, q_424, q_22⟩
theorem hi_X2_allStock : Cond.instanceMethod yX2_allStock ∈ wsL_law := q_422
theorem hs_X2_allStock : Cond.selects yX2_allStock.cls yX2_allStock yX2_allStock ∈ wsL_law := q_423
theorem hy_X2_stockOf : mm_Y yX2_stockOf cX2_stockOf 2 (some .int) 1 := ⟨⟨by decide +kernel, by decide +kernel, by decide +kernel⟩, q_428, q_22⟩
theorem hi_X2_stockOf : Cond.instanceMethod yX2_stockOf ∈ wsL_law := q_426
theorem hs_X2_stockOf : Cond.selects yX2_stockOf.cls yX2_stockOf yX2_stockOf ∈ wsL_law := q_427
theorem hy_X7_tides : mm_Y yX7_tides cX7_tides 3 (some .int) 1 := ⟨⟨by decide +kernel, by decide +kernel, by decide +kernel⟩, q_432, q_5⟩
theorem hi_X7_tides : Cond.instanceMethod yX7_tides ∈ wsL_law := q_430
theorem hs_X7_tides : Cond.selects yX7_tides.cls yX7_tides yX7_tides ∈ wsL_law := q_431
theorem hy_X7_note : mm_Y yX7_note cX7_note 2 none 0 := ⟨⟨by decide +kernel, by decide +kernel, by decide +kernel⟩, q_437, q_5⟩
theorem hi_X7_note : Cond.instanceMethod yX7_note ∈ wsL_law := q_435
theorem hs_X7_note : Cond.selects yX7_note.cls yX7_note yX7_note ∈ wsL_law := q_436
theorem hy_X7_oneTide : mm_Y yX7_oneTide cX7_oneTide 4 none 0 := ⟨⟨by decide +kernel, by decide +kernel, by decide +kernel⟩, q_441, q_5⟩
theorem hi_X7_oneTide : Cond.instanceMethod yX7_oneTide ∈ wsL_law := q_439
theorem hs_X7_oneTide : Cond.selects yX7_oneTide.cls yX7_oneTide yX7_oneTide ∈ wsL_law := q_440
theorem hy_X7_lies : mm_Y yX7_lies cX7_lies 4 (some .int) 1 := ⟨⟨by decide +kernel, by decide +kernel, by decide +kernel⟩, q_445, q_5⟩
theorem hi_X7_lies : Cond.instanceMethod yX7_lies ∈ wsL_law := q_443
theorem hs_X7_lies : Cond.selects yX7_lies.cls yX7_lies yX7_lies ∈ wsL_law := q_444
theorem hy_X7_nearer : mm_Y yX7_nearer cX7_nearer 4 (some .int) 2 := ⟨⟨by decide +kernel, by decide +kernel, by decide +kernel⟩, q_449, q_5⟩
theorem hi_X7_nearer : Cond.instanceMethod yX7_nearer ∈ wsL_law := q_447
theorem hs_X7_nearer : Cond.selects yX7_nearer.cls yX7_nearer yX7_nearer ∈ wsL_law := q_448
theorem hy_X7_off : mm_Y yX7_off cX7_off 4 (some .int) 2 := ⟨⟨by decide +kernel, by decide +kernel, by decide +kernel⟩, q_453, q_5⟩
theorem hi_X7_off : Cond.instanceMethod yX7_off ∈ wsL_law := q_451
theorem hs_X7_off : Cond.selects yX7_off.cls yX7_off yX7_off ∈ wsL_law := q_452
theorem hy_X7_allSizes : mm_Y yX7_allSizes cX7_allSizes 3 (some .int) 0 := ⟨⟨by decide +kernel, by decide +kernel, by decide +kernel⟩, q_457, q_5⟩
theorem hi_X7_allSizes : Cond.instanceMethod yX7_allSizes ∈ wsL_law := q_455
theorem hs_X7_allSizes : Cond.selects yX7_allSizes.cls yX7_allSizes yX7_allSizes ∈ wsL_law := q_456
theorem hy_X6_rake : mm_Y yX6_rake cX6_rake 3 (some .int) 2 := ⟨⟨by decide +kernel, by decide +kernel, by decide +kernel⟩, q_461, q_2⟩
theorem hi_X6_rake : Cond.instanceMethod yX6_rake ∈ wsL_law := q_459
theorem hs_X6_rake : Cond.selects yX6_rake.cls yX6_rake yX6_rake ∈ wsL_law := q_460
theorem hy_X2_hasVeto : mm_Y yX2_hasVeto cX2_hasVeto 2 (some .boolean) 1 := ⟨⟨by decide +kernel, by decide +kernel, by decide +kernel⟩, q_466, q_22⟩
theorem hi_X2_hasVeto : Cond.instanceMethod yX2_hasVeto ∈ wsL_law := q_464
theorem hs_X2_hasVeto : Cond.selects yX2_hasVeto.cls yX2_hasVeto yX2_hasVeto ∈ wsL_law := q_465
theorem hy_X2_rakeUp : mm_Y yX2_rakeUp cX2_rakeUp 5 (some .int) 2 := ⟨⟨by decide +kernel, by decide +kernel, by decide +kernel⟩, q_471, q_22⟩
theorem hi_X2_rakeUp : Cond.instanceMethod yX2_rakeUp ∈ wsL_law := q_469
theorem hs_X2_rakeUp : Cond.selects yX2_rakeUp.cls yX2_rakeUp yX2_rakeUp ∈ wsL_law := q_470
theorem hy_X2_sieved : mm_Y yX2_sieved cX2_sieved 1 (some .int) 1 := ⟨⟨by decide +kernel, by decide +kernel, by decide +kernel⟩, q_474, q_22⟩
theorem hz_X2_sieved : Cond.static yX2_sieved ∈ wsL_law := q_473
theorem hy_X7_rake : mm_Y yX7_rake cX7_rake 3 (some .int) 2 := ⟨⟨by decide +kernel, by decide +kernel, by decide +kernel⟩, q_478, q_5⟩
theorem hi_X7_rake : Cond.instanceMethod yX7_rake ∈ wsL_law := q_476
theorem hs_X7_rake : Cond.selects yX7_rake.cls yX7_rake yX7_rake ∈ wsL_law := q_477
theorem hy_X7_isBed : mm_Y yX7_isBed cX7_isBed 2 (some .boolean) 1 := ⟨⟨by decide +kernel, by decide +kernel, by decide +kernel⟩, q_483, q_5⟩
theorem hi_X7_isBed : Cond.instanceMethod yX7_isBed ∈ wsL_law := q_481
theorem hs_X7_isBed : Cond.selects yX7_isBed.cls yX7_isBed yX7_isBed ∈ wsL_law := q_482
theorem hy_X7_hasVeto : mm_Y yX7_hasVeto cX7_hasVeto 2 (some .boolean) 1 := ⟨⟨by decide +kernel, by decide +kernel, by decide +kernel⟩, q_487, q_5⟩
theorem hi_X7_hasVeto : Cond.instanceMethod yX7_hasVeto ∈ wsL_law := q_485
theorem hs_X7_hasVeto : Cond.selects yX7_hasVeto.cls yX7_hasVeto yX7_hasVeto ∈ wsL_law := q_486
theorem hy_X7_has : mm_Y yX7_has cX7_has 2 (some .boolean) 2 := ⟨⟨by decide +kernel, by decide +kernel, by decide +kernel⟩, q_490, q_5⟩
theorem hz_X7_has : Cond.static yX7_has ∈ wsL_law := q_489
theorem hy_X7_rakeBy : mm_Y yX7_rakeBy cX7_rakeBy 4 none 2 := ⟨⟨by decide +kernel, by decide +kernel, by decide +kernel⟩, q_494, q_5⟩
theorem hi_X7_rakeBy : Cond.instanceMethod yX7_rakeBy ∈ wsL_law := q_492
theorem hs_X7_rakeBy : Cond.selects yX7_rakeBy.cls yX7_rakeBy yX7_rakeBy ∈ wsL_law := q_493
theorem hy_X6_rain : mm_Y yX6_rain cX6_rain 4 (some .int) 2 := ⟨⟨by decide +kernel, by decide +kernel, by decide +kernel⟩, q_498, q_2⟩
theorem hi_X6_rain : Cond.instanceMethod yX6_rain ∈ wsL_law := q_496
theorem hs_X6_rain : Cond.selects yX6_rain.cls yX6_rain yX6_rain ∈ wsL_law := q_497
theorem hy_X2_warmOf : mm_Y yX2_warmOf cX2_warmOf 2 (some .int) 1 := ⟨⟨by decide +kernel, by decide +kernel, by decide +kernel⟩, q_502, q_22⟩
theorem hi_X2_warmOf : Cond.instanceMethod yX2_warmOf ∈ wsL_law := q_500
theorem hs_X2_warmOf : Cond.selects yX2_warmOf.cls yX2_warmOf yX2_warmOf ∈ wsL_law := q_501
theorem hy_X2_warmTo : mm_Y yX2_warmTo cX2_warmTo 3 none 2 := ⟨⟨by decide +kernel, by decide +kernel, by decide +kernel⟩, q_506, q_22⟩
theorem hi_X2_warmTo : Cond.instanceMethod yX2_warmTo ∈ wsL_law := q_504
theorem hs_X2_warmTo : Cond.selects yX2_warmTo.cls yX2_warmTo yX2_warmTo ∈ wsL_law := q_505
theorem hy_X7_rain : mm_Y yX7_rain cX7_rain 4 (some .int) 2 := ⟨⟨by decide +kernel, by decide +kernel, by decide +kernel⟩, q_510, q_5⟩
theorem hi_X7_rain : Cond.instanceMethod yX7_rain ∈ wsL_law := q_508
theorem hs_X7_rain : Cond.selects yX7_rain.cls yX7_rain yX7_rain ∈ wsL_law := q_509
theorem hy_X6_veto : mm_Y yX6_veto cX6_veto 3 (some .int) 2 := ⟨⟨by decide +kernel, by decide +kernel, by decide +kernel⟩, q_515, q_2⟩
theorem hi_X6_veto : Cond.instanceMethod yX6_veto ∈ wsL_law := q_513
theorem hs_X6_veto : Cond.selects yX6_veto.cls yX6_veto yX6_veto ∈ wsL_law := q_514
theorem hy_X2_turnVeto : mm_Y yX2_turnVeto cX2_turnVeto 2 none 1 := ⟨⟨by decide +kernel, by decide +kernel, by decide +kernel⟩, q_519, q_22⟩
theorem hi_X2_turnVeto : Cond.instanceMethod yX2_turnVeto ∈ wsL_law := q_517
theorem hs_X2_turnVeto : Cond.selects yX2_turnVeto.cls yX2_turnVeto yX2_turnVeto ∈ wsL_law := q_518
theorem hy_X7_veto : mm_Y yX7_veto cX7_veto 3 (some .int) 2 := ⟨⟨by decide +kernel, by decide +kernel, by decide +kernel⟩, q_523, q_5⟩
theorem hi_X7_veto : Cond.instanceMethod yX7_veto ∈ wsL_law := q_521
theorem hs_X7_veto : Cond.selects yX7_veto.cls yX7_veto yX7_veto ∈ wsL_law := q_522
theorem hy_X6_stand : mm_Y yX6_stand cX6_stand 4 (some .int) 2 := ⟨⟨by decide +kernel, by decide +kernel, by decide +kernel⟩, q_527, q_2⟩
theorem hi_X6_stand : Cond.instanceMethod yX6_stand ∈ wsL_law := q_525
theorem hs_X6_stand : Cond.selects yX6_stand.cls yX6_stand yX6_stand ∈ wsL_law := q_526
theorem hy_X6_isOne : mm_Y yX6_isOne cX6_isOne 1 (some .boolean) 1 := ⟨⟨by decide +kernel, by decide +kernel, by decide +kernel⟩, q_530, q_2⟩
theorem hz_X6_isOne : Cond.static yX6_isOne ∈ wsL_law := q_529
theorem hy_X2_standIn : mm_Y yX2_standIn cX2_standIn 3 none 2 := ⟨⟨by decide +kernel, by decide +kernel, by decide +kernel⟩, q_534, q_22⟩
theorem hi_X2_standIn : Cond.instanceMethod yX2_standIn ∈ wsL_law := q_532
theorem hs_X2_standIn : Cond.selects yX2_standIn.cls yX2_standIn yX2_standIn ∈ wsL_law := q_533
theorem hy_X7_stand : mm_Y yX7_stand cX7_stand 4 (some .int) 2 := ⟨⟨by decide +kernel, by decide +kernel, by decide +kernel⟩, q_538, q_5⟩
theorem hi_X7_stand : Cond.instanceMethod yX7_stand ∈ wsL_law := q_536
theorem hs_X7_stand : Cond.selects yX7_stand.cls yX7_stand yX7_stand ∈ wsL_law := q_537
theorem hy_X7_isWho : mm_Y yX7_isWho cX7_isWho 1 (some .boolean) 1 := ⟨⟨by decide +kernel, by decide +kernel, by decide +kernel⟩, q_542, q_5⟩
theorem hz_X7_isWho : Cond.static yX7_isWho ∈ wsL_law := q_541
theorem hy_X6_bed : mm_Y yX6_bed cX6_bed 3 (some .int) 2 := ⟨⟨by decide +kernel, by decide +kernel, by decide +kernel⟩, q_546, q_2⟩
theorem hi_X6_bed : Cond.instanceMethod yX6_bed ∈ wsL_law := q_544
theorem hs_X6_bed : Cond.selects yX6_bed.cls yX6_bed yX6_bed ∈ wsL_law := q_545
theorem hy_X2_tellOf : mm_Y yX2_tellOf cX2_tellOf 3 (some .int) 2 := ⟨⟨by decide +kernel, by decide +kernel, by decide +kernel⟩, q_550, q_22⟩
theorem hi_X2_tellOf : Cond.instanceMethod yX2_tellOf ∈ wsL_law := q_548
theorem hs_X2_tellOf : Cond.selects yX2_tellOf.cls yX2_tellOf yX2_tellOf ∈ wsL_law := q_549
theorem hy_X7_bed : mm_Y yX7_bed cX7_bed 3 (some .int) 2 := ⟨⟨by decide +kernel, by decide +kernel, by decide +kernel⟩, q_555, q_5⟩
theorem hi_X7_bed : Cond.instanceMethod yX7_bed ∈ wsL_law := q_553
theorem hs_X7_bed : Cond.selects yX7_bed.cls yX7_bed yX7_bed ∈ wsL_law := q_554
theorem hy_X7_toldOf : mm_Y yX7_toldOf cX7_toldOf 3 (some .int) 2 := ⟨⟨by decide +kernel, by decide +kernel, by decide +kernel⟩, q_560, q_5⟩
theorem hi_X7_toldOf : Cond.instanceMethod yX7_toldOf ∈ wsL_law := q_558
theorem hs_X7_toldOf : Cond.selects yX7_toldOf.cls yX7_toldOf yX7_toldOf ∈ wsL_law := q_559
theorem hy_X6_board : mm_Y yX6_board cX6_board 2 (some .int) 1 := ⟨⟨by decide +kernel, by decide +kernel, by decide +kernel⟩, q_564, q_2⟩
theorem hi_X6_board : Cond.instanceMethod yX6_board ∈ wsL_law := q_562
theorem hs_X6_board : Cond.selects yX6_board.cls yX6_board yX6_board ∈ wsL_law := q_563
theorem hy_X2_countedFor : mm_Y yX2_countedFor cX2_countedFor 2 (some .int) 1 := ⟨⟨by decide +kernel, by decide +kernel, by decide +kernel⟩, q_568, q_22⟩
theorem hi_X2_countedFor : Cond.instanceMethod yX2_countedFor ∈ wsL_law := q_566
theorem hs_X2_countedFor : Cond.selects yX2_countedFor.cls yX2_countedFor yX2_countedFor ∈ wsL_law := q_567
theorem hy_X7_board : mm_Y yX7_board cX7_board 2 (some .int) 1 := ⟨⟨by decide +kernel, by decide +kernel, by decide +kernel⟩, q_572, q_5⟩
theorem hi_X7_board : Cond.instanceMethod yX7_board ∈ wsL_law := q_570
theorem hs_X7_board : Cond.selects yX7_board.cls yX7_board yX7_board ∈ wsL_law := q_571
theorem hy_X6_ahead : mm_Y yX6_ahead cX6_ahead 4 (some .int) 3 := ⟨⟨by decide +kernel, by decide +kernel, by decide +kernel⟩, q_577, q_2⟩
theorem hi_X6_ahead : Cond.instanceMethod yX6_ahead ∈ wsL_law := q_575
theorem hs_X6_ahead : Cond.selects yX6_ahead.cls yX6_ahead yX6_ahead ∈ wsL_law := q_576
theorem hy_X3_after : mm_Y yX3_after cX3_after 4 (some (.object "CockleSquires$Flat")) 2 := ⟨⟨by decide +kernel, by decide +kernel, by decide +kernel⟩, q_581, q_31⟩
theorem hi_X3_after : Cond.instanceMethod yX3_after ∈ wsL_law := q_579
theorem hs_X3_after : Cond.selects yX3_after.cls yX3_after yX3_after ∈ wsL_law := q_580
theorem hy_X7_ahead : mm_Y yX7_ahead cX7_ahead 5 (some .int) 3 := ⟨⟨by decide +kernel, by decide +kernel, by decide +kernel⟩, q_587, q_5⟩
theorem hi_X7_ahead : Cond.instanceMethod yX7_ahead ∈ wsL_law := q_585
theorem hs_X7_ahead : Cond.selects yX7_ahead.cls yX7_ahead yX7_ahead ∈ wsL_law := q_586
theorem hy_X7_putAside : mm_Y yX7_putAside cX7_putAside 2 none 0 := ⟨⟨by decide +kernel, by decide +kernel, by decide +kernel⟩, q_592, q_5⟩
theorem hi_X7_putAside : Cond.instanceMethod yX7_putAside ∈ wsL_law := q_590
theorem hs_X7_putAside : Cond.selects yX7_putAside.cls yX7_putAside yX7_putAside ∈ wsL_law := q_591
theorem hy_X7_goOn : mm_Y yX7_goOn cX7_goOn 3 none 1 := ⟨⟨by decide +kernel, by decide +kernel, by decide +kernel⟩, q_596, q_5⟩
theorem hi_X7_goOn : Cond.instanceMethod yX7_goOn ∈ wsL_law := q_594
theorem hs_X7_goOn : Cond.selects yX7_goOn.cls yX7_goOn yX7_goOn ∈ wsL_law := q_595
theorem hy_X7_takeBack : mm_Y yX7_takeBack cX7_takeBack 2 none 0 := ⟨⟨by decide +kernel, by decide +kernel, by decide +kernel⟩, q_600, q_5⟩
theorem hi_X7_takeBack : Cond.instanceMethod yX7_takeBack ∈ wsL_law := q_598
theorem hs_X7_takeBack : Cond.selects yX7_takeBack.cls yX7_takeBack yX7_takeBack ∈ wsL_law := q_599
theorem hy_X6_tally : mm_Y yX6_tally cX6_tally 3 (some .int) 2 := ⟨⟨by decide +kernel, by decide +kernel, by decide +kernel⟩, q_604, q_2⟩
theorem hi_X6_tally : Cond.instanceMethod yX6_tally ∈ wsL_law := q_602
theorem hs_X6_tally : Cond.selects yX6_tally.cls yX6_tally yX6_tally ∈ wsL_law := q_603
theorem hy_X2_tallyFor : mm_Y yX2_tallyFor cX2_tallyFor 4 (some .int) 1 := ⟨⟨by decide +kernel, by decide +kernel, by decide +kernel⟩, q_608, q_22⟩
theorem hi_X2_tallyFor : Cond.instanceMethod yX2_tallyFor ∈ wsL_law := q_606
theorem hs_X2_tallyFor : Cond.selects yX2_tallyFor.cls yX2_tallyFor yX2_tallyFor ∈ wsL_law := q_607
theorem hy_X7_tally : mm_Y yX7_tally cX7_tally 4 (some .int) 2 := ⟨⟨by decide +kernel, by decide +kernel, by decide +kernel⟩, q_614, q_5⟩
theorem hi_X7_tally : Cond.instanceMethod yX7_tally ∈ wsL_law := q_612
theorem hs_X7_tally : Cond.selects yX7_tally.cls yX7_tally yX7_tally ∈ wsL_law := q_613
theorem hy_X7_tallyOf : mm_Y yX7_tallyOf cX7_tallyOf 2 (some .int) 1 := ⟨⟨by decide +kernel, by decide +kernel, by decide +kernel⟩, q_618, q_5⟩
theorem hi_X7_tallyOf : Cond.instanceMethod yX7_tallyOf ∈ wsL_law := q_616
theorem hs_X7_tallyOf : Cond.selects yX7_tallyOf.cls yX7_tallyOf yX7_tallyOf ∈ wsL_law := q_617
theorem hy_X7_bringFor : mm_Y yX7_bringFor cX7_bringFor 5 (some .int) 2 := ⟨⟨by decide +kernel, by decide +kernel, by decide +kernel⟩, q_622, q_5⟩
theorem hi_X7_bringFor : Cond.instanceMethod yX7_bringFor ∈ wsL_law := q_620
theorem hs_X7_bringFor : Cond.selects yX7_bringFor.cls yX7_bringFor yX7_bringFor ∈ wsL_law := q_621
theorem hy_X6_when : mm_Y yX6_when cX6_when 3 (some .int) 2 := ⟨⟨by decide +kernel, by decide +kernel, by decide +kernel⟩, q_626, q_2⟩
theorem hi_X6_when : Cond.instanceMethod yX6_when ∈ wsL_law := q_624
theorem hs_X6_when : Cond.selects yX6_when.cls yX6_when yX6_when ∈ wsL_law := q_625
theorem hy_X3_firstLying : mm_Y yX3_firstLying cX3_firstLying 5 (some .int) 3 := ⟨⟨by decide +kernel, by decide +kernel, by decide +kernel⟩, q_630, q_31⟩
theorem hi_X3_firstLying : Cond.instanceMethod yX3_firstLying ∈ wsL_law := q_628
theorem hs_X3_firstLying : Cond.selects yX3_firstLying.cls yX3_firstLying yX3_firstLying ∈ wsL_law := q_629
theorem hy_X7_when : mm_Y yX7_when cX7_when 5 (some .int) 2 := ⟨⟨by decide +kernel, by decide +kernel, by decide +kernel⟩, q_636, q_5⟩
theorem hi_X7_when : Cond.instanceMethod yX7_when ∈ wsL_law := q_634
theorem hs_X7_when : Cond.selects yX7_when.cls yX7_when yX7_when ∈ wsL_law := q_635
theorem hy_X6_place : mm_Y yX6_place cX6_place 4 (some .int) 2 := ⟨⟨by decide +kernel, by decide +kernel, by decide +kernel⟩, q_641, q_2⟩
theorem hi_X6_place : Cond.instanceMethod yX6_place ∈ wsL_law := q_639
theorem hs_X6_place : Cond.selects yX6_place.cls yX6_place yX6_place ∈ wsL_law := q_640
theorem hy_X3_bestCell : mm_Y yX3_bestCell cX3_bestCell 7 (some .int) 2 := ⟨⟨by decide +kernel, by decide +kernel, by decide +kernel⟩, q_645, q_31⟩
theorem hi_X3_bestCell : Cond.instanceMethod yX3_bestCell ∈ wsL_law := q_643
theorem hs_X3_bestCell : Cond.selects yX3_bestCell.cls yX3_bestCell yX3_bestCell ∈ wsL_law := q_644
theorem hy_X3_leadFrom : mm_Y yX3_leadFrom cX3_leadFrom 4 (some .int) 3 := ⟨⟨by decide +kernel, by decide +kernel, by decide +kernel⟩, q_649, q_31⟩
theorem hi_X3_leadFrom : Cond.instanceMethod yX3_leadFrom ∈ wsL_law := q_647
theorem hs_X3_leadFrom : Cond.selects yX3_leadFrom.cls yX3_leadFrom yX3_leadFrom ∈ wsL_law := q_648
theorem hy_X2_leadOf : mm_Y yX2_leadOf cX2_leadOf 4 (some .int) 1 := ⟨⟨by decide +kernel, by decide +kernel, by decide +kernel⟩, q_654, q_22⟩
theorem hi_X2_leadOf : Cond.instanceMethod yX2_leadOf ∈ wsL_law := q_652
theorem hs_X2_leadOf : Cond.selects yX2_leadOf.cls yX2_leadOf yX2_leadOf ∈ wsL_law := q_653
theorem hy_X2_countedLead : mm_Y yX2_countedLead cX2_countedLead 3 (some .int) 1 := ⟨⟨by decide +kernel, by decide +kernel, by decide +kernel⟩, q_658, q_22⟩
theorem hi_X2_countedLead : Cond.instanceMethod yX2_countedLead ∈ wsL_law := q_656
theorem hs_X2_countedLead : Cond.selects yX2_countedLead.cls yX2_countedLead yX2_countedLead ∈ wsL_law := q_657
theorem hy_X2_gainBy : mm_Y yX2_gainBy cX2_gainBy 5 (some .int) 2 := ⟨⟨by decide +kernel, by decide +kernel, by decide +kernel⟩, q_662, q_22⟩
theorem hi_X2_gainBy : Cond.instanceMethod yX2_gainBy ∈ wsL_law := q_660
theorem hs_X2_gainBy : Cond.selects yX2_gainBy.cls yX2_gainBy yX2_gainBy ∈ wsL_law := q_661
theorem hy_X7_place : mm_Y yX7_place cX7_place 4 (some .int) 2 := ⟨⟨by decide +kernel, by decide +kernel, by decide +kernel⟩, q_667, q_5⟩
theorem hi_X7_place : Cond.instanceMethod yX7_place ∈ wsL_law := q_665
theorem hs_X7_place : Cond.selects yX7_place.cls yX7_place yX7_place ∈ wsL_law := q_666
theorem hy_X7_isWhat : mm_Y yX7_isWhat cX7_isWhat 1 (some .boolean) 1 := ⟨⟨by decide +kernel, by decide +kernel, by decide +kernel⟩, q_670, q_5⟩
theorem hz_X7_isWhat : Cond.static yX7_isWhat ∈ wsL_law := q_669
theorem hy_X7_bestCell : mm_Y yX7_bestCell cX7_bestCell 7 (some .int) 1 := ⟨⟨by decide +kernel, by decide +kernel, by decide +kernel⟩, q_674, q_5⟩
theorem hi_X7_bestCell : Cond.instanceMethod yX7_bestCell ∈ wsL_law := q_672
theorem hs_X7_bestCell : Cond.selects yX7_bestCell.cls yX7_bestCell yX7_bestCell ∈ wsL_law := q_673
theorem hy_X7_leadOf : mm_Y yX7_leadOf cX7_leadOf 2 (some .int) 1 := ⟨⟨by decide +kernel, by decide +kernel, by decide +kernel⟩, q_678, q_5⟩
theorem hi_X7_leadOf : Cond.instanceMethod yX7_leadOf ∈ wsL_law := q_676
theorem hs_X7_leadOf : Cond.selects yX7_leadOf.cls yX7_leadOf yX7_leadOf ∈ wsL_law := q_677
theorem hy_X7_leadFrom : mm_Y yX7_leadFrom cX7_leadFrom 5 (some .int) 2 := ⟨⟨by decide +kernel, by decide +kernel, by decide +kernel⟩, q_682, q_5⟩
theorem hi_X7_leadFrom : Cond.instanceMethod yX7_leadFrom ∈ wsL_law := q_680
theorem hs_X7_leadFrom : Cond.selects yX7_leadFrom.cls yX7_leadFrom yX7_leadFrom ∈ wsL_law := q_681
theorem hy_X6_rests : mm_Y yX6_rests cX6_rests 2 (some .int) 1 := ⟨⟨by decide +kernel, by decide +kernel, by decide +kernel⟩, q_686, q_2⟩
theorem hi_X6_rests : Cond.instanceMethod yX6_rests ∈ wsL_law := q_684
theorem hs_X6_rests : Cond.selects yX6_rests.cls yX6_rests yX6_rests ∈ wsL_law := q_685
theorem hy_X3_weighPairs : mm_Y yX3_weighPairs cX3_weighPairs 4 none 1 := ⟨⟨by decide +kernel, by decide +kernel, by decide +kernel⟩, q_690, q_31⟩
theorem hi_X3_weighPairs : Cond.instanceMethod yX3_weighPairs ∈ wsL_law := q_688
theorem hs_X3_weighPairs : Cond.selects yX3_weighPairs.cls yX3_weighPairs yX3_weighPairs ∈ wsL_law := q_689
theorem hy_X3_restingPairs : mm_Y yX3_restingPairs cX3_restingPairs 4 (some .int) 0 := ⟨⟨by decide +kernel, by decide +kernel, by decide +kernel⟩, q_694, q_31⟩
theorem hi_X3_restingPairs : Cond.instanceMethod yX3_restingPairs ∈ wsL_law := q_692
theorem hs_X3_restingPairs : Cond.selects yX3_restingPairs.cls yX3_restingPairs yX3_restingPairs ∈ wsL_law := q_693
theorem hy_X3_isResting : mm_Y yX3_isResting cX3_isResting 5 (some .boolean) 2 := ⟨⟨by decide +kernel, by decide +kernel, by decide +kernel⟩, q_698, q_31⟩
theorem hi_X3_isResting : Cond.instanceMethod yX3_isResting ∈ wsL_law := q_696
theorem hs_X3_isResting : Cond.selects yX3_isResting.cls yX3_isResting yX3_isResting ∈ wsL_law := q_697
theorem hy_X3_firstResting : mm_Y yX3_firstResting cX3_firstResting 3 (some .int) 0 := ⟨⟨by decide +kernel, by decide +kernel, by decide +kernel⟩, q_702, q_31⟩
theorem hi_X3_firstResting : Cond.instanceMethod yX3_firstResting ∈ wsL_law := q_700
theorem hs_X3_firstResting : Cond.selects yX3_firstResting.cls yX3_firstResting yX3_firstResting ∈ wsL_law := q_701
theorem hy_X7_rests : mm_Y yX7_rests cX7_rests 6 (some .int) 1 := ⟨⟨by decide +kernel, by decide +kernel, by decide +kernel⟩, q_706, q_5⟩
theorem hi_X7_rests : Cond.instanceMethod yX7_rests ∈ wsL_law := q_704
theorem hs_X7_rests : Cond.selects yX7_rests.cls yX7_rests yX7_rests ∈ wsL_law := q_705
theorem hy_X6_rakes : mm_Y yX6_rakes cX6_rakes 4 (some .int) 2 := ⟨⟨by decide +kernel, by decide +kernel, by decide +kernel⟩, q_710, q_2⟩
theorem hi_X6_rakes : Cond.instanceMethod yX6_rakes ∈ wsL_law := q_708
theorem hs_X6_rakes : Cond.selects yX6_rakes.cls yX6_rakes yX6_rakes ∈ wsL_law := q_709
theorem hy_X3_fewestRaked : mm_Y yX3_fewestRaked cX3_fewestRaked 7 (some .int) 2 := ⟨⟨by decide +kernel, by decide +kernel, by decide +kernel⟩, q_715, q_31⟩
theorem hi_X3_fewestRaked : Cond.instanceMethod yX3_fewestRaked ∈ wsL_law := q_713
theorem hs_X3_fewestRaked : Cond.selects yX3_fewestRaked.cls yX3_fewestRaked yX3_fewestRaked ∈ wsL_law := q_714
theorem hy_X3_weighBeds : mm_Y yX3_weighBeds cX3_weighBeds 4 none 2 := ⟨⟨by decide +kernel, by decide +kernel, by decide +kernel⟩, q_719, q_31⟩
theorem hi_X3_weighBeds : Cond.instanceMethod yX3_weighBeds ∈ wsL_law := q_717
theorem hs_X3_weighBeds : Cond.selects yX3_weighBeds.cls yX3_weighBeds yX3_weighBeds ∈ wsL_law := q_718
theorem hy_J6_bitCount_0f7a4 : mm_Y yJ6_bitCount_0f7a4 cJ6_bitCount_0f7a4 1 (some .int) 1 := ⟨⟨by decide +kernel, by decide +kernel, by decide +kernel⟩, q_727, q_726⟩
theorem hz_J6_bitCount_0f7a4 : Cond.static yJ6_bitCount_0f7a4 ∈ wsL_law := q_725
theorem hy_X3_gainOfAll : mm_Y yX3_gainOfAll cX3_gainOfAll 4 (some .int) 1 := ⟨⟨by decide +kernel, by decide +kernel, by decide +kernel⟩, q_734, q_31⟩
theorem hi_X3_gainOfAll : Cond.instanceMethod yX3_gainOfAll ∈ wsL_law := q_732
theorem hs_X3_gainOfAll : Cond.selects yX3_gainOfAll.cls yX3_gainOfAll yX3_gainOfAll ∈ wsL_law := q_733
theorem hy_X7_rakes : mm_Y yX7_rakes cX7_rakes 7 (some .int) 2 := ⟨⟨by decide +kernel, by decide +kernel, by decide +kernel⟩, q_739, q_5⟩
theorem hi_X7_rakes : Cond.instanceMethod yX7_rakes ∈ wsL_law := q_737
theorem hs_X7_rakes : Cond.selects yX7_rakes.cls yX7_rakes yX7_rakes ∈ wsL_law := q_738
theorem hy_X7_ones : mm_Y yX7_ones cX7_ones 3 (some .int) 1 := ⟨⟨by decide +kernel, by decide +kernel, by decide +kernel⟩, q_742, q_5⟩
theorem hz_X7_ones : Cond.static yX7_ones ∈ wsL_law := q_741
theorem hy_X6_wards : mm_Y yX6_wards cX6_wards 5 (some .int) 3 := ⟨⟨by decide +kernel, by decide +kernel, by decide +kernel⟩, q_746, q_2⟩
theorem hi_X6_wards : Cond.instanceMethod yX6_wards ∈ wsL_law := q_744
theorem hs_X6_wards : Cond.selects yX6_wards.cls yX6_wards yX6_wards ∈ wsL_law := q_745
theorem hy_X3_bestCut : mm_Y yX3_bestCut cX3_bestCut 8 (some .int) 3 := ⟨⟨by decide +kernel, by decide +kernel, by decide +kernel⟩, q_750, q_31⟩
theorem hi_X3_bestCut : Cond.instanceMethod yX3_bestCut ∈ wsL_law := q_748
theorem hs_X3_bestCut : Cond.selects yX3_bestCut.cls yX3_bestCut yX3_bestCut ∈ wsL_law := q_749
theorem hy_X3_wardsOf : mm_Y yX3_wardsOf cX3_wardsOf 4 (some .int) 2 := ⟨⟨by decide +kernel, by decide +kernel, by decide +kernel⟩, q_753, q_31⟩
theorem hz_X3_wardsOf : Cond.static yX3_wardsOf ∈ wsL_law := q_752
theorem hy_X3_wardsLed : mm_Y yX3_wardsLed cX3_wardsLed 8 (some .int) 2 := ⟨⟨by decide +kernel, by decide +kernel, by decide +kernel⟩, q_757, q_31⟩
theorem hi_X3_wardsLed : Cond.instanceMethod yX3_wardsLed ∈ wsL_law := q_755
theorem hs_X3_wardsLed : Cond.selects yX3_wardsLed.cls yX3_wardsLed yX3_wardsLed ∈ wsL_law := q_756
theorem hy_X3_gainBetween : mm_Y yX3_gainBetween cX3_gainBetween 5 (some .int) 2 := ⟨⟨by decide +kernel, by decide +kernel, by decide +kernel⟩, q_761, q_31⟩
theorem hi_X3_gainBetween : Cond.instanceMethod yX3_gainBetween ∈ wsL_law := q_759
theorem hs_X3_gainBetween : Cond.selects yX3_gainBetween.cls yX3_gainBetween yX3_gainBetween ∈ wsL_law := q_760
theorem hy_X7_wards : mm_Y yX7_wards cX7_wards 10 (some .int) 3 := ⟨⟨by decide +kernel, by decide +kernel, by decide +kernel⟩, q_766, q_5⟩
theorem hi_X7_wards : Cond.instanceMethod yX7_wards ∈ wsL_law := q_764
theorem hs_X7_wards : Cond.selects yX7_wards.cls yX7_wards yX7_wards ∈ wsL_law := q_765
theorem hy_X7_ledBy : mm_Y yX7_ledBy cX7_ledBy 5 (some .int) 3 := ⟨⟨by decide +kernel, by decide +kernel, by decide +kernel⟩, q_770, q_5⟩
theorem hi_X7_ledBy : Cond.instanceMethod yX7_ledBy ∈ wsL_law := q_768
theorem hs_X7_ledBy : Cond.selects yX7_ledBy.cls yX7_ledBy yX7_ledBy ∈ wsL_law := q_769
theorem hy_X6_decide : mm_Y yX6_decide cX6_decide 1 (some .int) 0 := ⟨⟨by decide +kernel, by decide +kernel, by decide +kernel⟩, q_774, q_2⟩
theorem hi_X6_decide : Cond.instanceMethod yX6_decide ∈ wsL_law := q_772
theorem hs_X6_decide : Cond.selects yX6_decide.cls yX6_decide yX6_decide ∈ wsL_law := q_773
theorem hy_X2_deciding : mm_Y yX2_deciding cX2_deciding 6 (some .int) 0 := ⟨⟨by decide +kernel, by decide +kernel, by decide +kernel⟩, q_778, q_22⟩
theorem hi_X2_deciding : Cond.instanceMethod yX2_deciding ∈ wsL_law := q_776
theorem hs_X2_deciding : Cond.selects yX2_deciding.cls yX2_deciding yX2_deciding ∈ wsL_law := q_777
theorem hy_X2_leader : mm_Y yX2_leader cX2_leader 1 (some .int) 1 := ⟨⟨by decide +kernel, by decide +kernel, by decide +kernel⟩, q_782, q_22⟩
theorem hz_X2_leader : Cond.static yX2_leader ∈ wsL_law := q_781
theorem hy_X7_decide : mm_Y yX7_decide cX7_decide 4 (some .int) 0 := ⟨⟨by decide +kernel, by decide +kernel, by decide +kernel⟩, q_786, q_5⟩
theorem hi_X7_decide : Cond.instanceMethod yX7_decide ∈ wsL_law := q_784
theorem hs_X7_decide : Cond.selects yX7_decide.cls yX7_decide yX7_decide ∈ wsL_law := q_785
theorem hy_X7_sign : mm_Y yX7_sign cX7_sign 1 (some .int) 1 := ⟨⟨by decide +kernel, by decide +kernel, by decide +kernel⟩, q_789, q_5⟩
theorem hz_X7_sign : Cond.static yX7_sign ∈ wsL_law := q_788
theorem hy_X6_grown : mm_Y yX6_grown cX6_grown 6 (some .int) 5 := ⟨⟨by decide +kernel, by decide +kernel, by decide +kernel⟩, q_793, q_2⟩
theorem hi_X6_grown : Cond.instanceMethod yX6_grown ∈ wsL_law := q_791
theorem hs_X6_grown : Cond.selects yX6_grown.cls yX6_grown yX6_grown ∈ wsL_law := q_792
theorem hy_X3_hear : mm_Y yX3_hear cX3_hear 6 none 4 := ⟨⟨by decide +kernel, by decide +kernel, by decide +kernel⟩, q_797, q_31⟩
theorem hi_X3_hear : Cond.instanceMethod yX3_hear ∈ wsL_law := q_795
theorem hs_X3_hear : Cond.selects yX3_hear.cls yX3_hear yX3_hear ∈ wsL_law := q_796
theorem hy_X4_itemOf : mm_Y yX4_itemOf cX4_itemOf 3 (some .int) 2 := ⟨⟨by decide +kernel, by decide +kernel, by decide +kernel⟩, q_801, q_14⟩
theorem hi_X4_itemOf : Cond.instanceMethod yX4_itemOf ∈ wsL_law := q_799
theorem hs_X4_itemOf : Cond.selects yX4_itemOf.cls yX4_itemOf yX4_itemOf ∈ wsL_law := q_800
theorem hy_X3_grownBy : mm_Y yX3_grownBy cX3_grownBy 9 (some .int) 4 := ⟨⟨by decide +kernel, by decide +kernel, by decide +kernel⟩, q_805, q_31⟩
theorem hi_X3_grownBy : Cond.instanceMethod yX3_grownBy ∈ wsL_law := q_803
theorem hs_X3_grownBy : Cond.selects yX3_grownBy.cls yX3_grownBy yX3_grownBy ∈ wsL_law := q_804
theorem hy_X2_kindTo : mm_Y yX2_kindTo cX2_kindTo 3 none 2 := ⟨⟨by decide +kernel, by decide +kernel, by decide +kernel⟩, q_809, q_22⟩
theorem hi_X2_kindTo : Cond.instanceMethod yX2_kindTo ∈ wsL_law := q_807
theorem hs_X2_kindTo : Cond.selects yX2_kindTo.cls yX2_kindTo yX2_kindTo ∈ wsL_law := q_808
theorem hy_X2_lotTo : mm_Y yX2_lotTo cX2_lotTo 2 none 1 := ⟨⟨by decide +kernel, by decide +kernel, by decide +kernel⟩, q_814, q_22⟩
theorem hi_X2_lotTo : Cond.instanceMethod yX2_lotTo ∈ wsL_law := q_812
theorem hs_X2_lotTo : Cond.selects yX2_lotTo.cls yX2_lotTo yX2_lotTo ∈ wsL_law := q_813
theorem hy_X3_growsAsTold : mm_Y yX3_growsAsTold cX3_growsAsTold 4 (some .boolean) 2 := ⟨⟨by decide +kernel, by decide +kernel, by decide +kernel⟩, q_818, q_31⟩
theorem hi_X3_growsAsTold : Cond.instanceMethod yX3_growsAsTold ∈ wsL_law := q_816
theorem hs_X3_growsAsTold : Cond.selects yX3_growsAsTold.cls yX3_growsAsTold yX3_growsAsTold ∈ wsL_law := q_817
theorem hy_X7_grown : mm_Y yX7_grown cX7_grown 10 (some .int) 5 := ⟨⟨by decide +kernel, by decide +kernel, by decide +kernel⟩, q_823, q_5⟩
theorem hi_X7_grown : Cond.instanceMethod yX7_grown ∈ wsL_law := q_821
theorem hs_X7_grown : Cond.selects yX7_grown.cls yX7_grown yX7_grown ∈ wsL_law := q_822
theorem hy_X7_lacks : mm_Y yX7_lacks cX7_lacks 4 (some .int) 3 := ⟨⟨by decide +kernel, by decide +kernel, by decide +kernel⟩, q_828, q_5⟩
theorem hi_X7_lacks : Cond.instanceMethod yX7_lacks ∈ wsL_law := q_826
theorem hs_X7_lacks : Cond.selects yX7_lacks.cls yX7_lacks yX7_lacks ∈ wsL_law := q_827
theorem hy_X7_isSo : mm_Y yX7_isSo cX7_isSo 6 (some .boolean) 3 := ⟨⟨by decide +kernel, by decide +kernel, by decide +kernel⟩, q_832, q_5⟩
theorem hi_X7_isSo : Cond.instanceMethod yX7_isSo ∈ wsL_law := q_830
theorem hs_X7_isSo : Cond.selects yX7_isSo.cls yX7_isSo yX7_isSo ∈ wsL_law := q_831
theorem hy_X6_lain : mm_Y yX6_lain cX6_lain 4 (some .int) 3 := ⟨⟨by decide +kernel, by decide +kernel, by decide +kernel⟩, q_836, q_2⟩
theorem hi_X6_lain : Cond.instanceMethod yX6_lain ∈ wsL_law := q_834
theorem hs_X6_lain : Cond.selects yX6_lain.cls yX6_lain yX6_lain ∈ wsL_law := q_835
theorem hy_X3_lainBy : mm_Y yX3_lainBy cX3_lainBy 5 (some .int) 2 := ⟨⟨by decide +kernel, by decide +kernel, by decide +kernel⟩, q_840, q_31⟩
theorem hi_X3_lainBy : Cond.instanceMethod yX3_lainBy ∈ wsL_law := q_838
theorem hs_X3_lainBy : Cond.selects yX3_lainBy.cls yX3_lainBy yX3_lainBy ∈ wsL_law := q_839
theorem hy_X3_liesAsTold : mm_Y yX3_liesAsTold cX3_liesAsTold 2 (some .boolean) 0 := ⟨⟨by decide +kernel, by decide +kernel, by decide +kernel⟩, q_844, q_31⟩
theorem hi_X3_liesAsTold : Cond.instanceMethod yX3_liesAsTold ∈ wsL_law := q_842
theorem hs_X3_liesAsTold : Cond.selects yX3_liesAsTold.cls yX3_liesAsTold yX3_liesAsTold ∈ wsL_law := q_843
theorem hy_X7_lain : mm_Y yX7_lain cX7_lain 10 (some .int) 3 := ⟨⟨by decide +kernel, by decide +kernel, by decide +kernel⟩, q_848, q_5⟩
theorem hi_X7_lain : Cond.instanceMethod yX7_lain ∈ wsL_law := q_846
theorem hs_X7_lain : Cond.selects yX7_lain.cls yX7_lain yX7_lain ∈ wsL_law := q_847
theorem hy_X6_flood : mm_Y yX6_flood cX6_flood 10 (some .long) 3 := ⟨⟨by decide +kernel, by decide +kernel, by decide +kernel⟩, q_852, q_2⟩
theorem hi_X6_flood : Cond.instanceMethod yX6_flood ∈ wsL_law := q_850
theorem hs_X6_flood : Cond.selects yX6_flood.cls yX6_flood yX6_flood ∈ wsL_law := q_851
theorem hy_X3_casesLed : mm_Y yX3_casesLed cX3_casesLed 8 (some .long) 3 := ⟨⟨by decide +kernel, by decide +kernel, by decide +kernel⟩, q_858, q_31⟩
theorem hi_X3_casesLed : Cond.instanceMethod yX3_casesLed ∈ wsL_law := q_856
theorem hs_X3_casesLed : Cond.selects yX3_casesLed.cls yX3_casesLed yX3_casesLed ∈ wsL_law := q_857
theorem hy_X3_casesOf : mm_Y yX3_casesOf cX3_casesOf 6 (some .long) 3 := ⟨⟨by decide +kernel, by decide +kernel, by decide +kernel⟩, q_861, q_31⟩
theorem hz_X3_casesOf : Cond.static yX3_casesOf ∈ wsL_law := q_860
theorem hy_X3_allCases : mm_Y yX3_allCases cX3_allCases 5 (some .long) 1 := ⟨⟨by decide +kernel, by decide +kernel, by decide +kernel⟩, q_865, q_31⟩
theorem hi_X3_allCases : Cond.instanceMethod yX3_allCases ∈ wsL_law := q_863
theorem hs_X3_allCases : Cond.selects yX3_allCases.cls yX3_allCases yX3_allCases ∈ wsL_law := q_864
theorem hy_X6_commonDivisor : mm_Y yX6_commonDivisor cX6_commonDivisor 7 (some .long) 2 := ⟨⟨by decide +kernel, by decide +kernel, by decide +kernel⟩, q_869, q_2⟩
theorem hz_X6_commonDivisor : Cond.static yX6_commonDivisor ∈ wsL_law := q_868
theorem hy_X7_flood : mm_Y yX7_flood cX7_flood 15 (some .long) 3 := ⟨⟨by decide +kernel, by decide +kernel, by decide +kernel⟩, q_873, q_5⟩
theorem hi_X7_flood : Cond.instanceMethod yX7_flood ∈ wsL_law := q_871
theorem hs_X7_flood : Cond.selects yX7_flood.cls yX7_flood yX7_flood ∈ wsL_law := q_872
theorem hy_X6_drawn : mm_Y yX6_drawn cX6_drawn 4 (some .int) 3 := ⟨⟨by decide +kernel, by decide +kernel, by decide +kernel⟩, q_880, q_2⟩
theorem hi_X6_drawn : Cond.instanceMethod yX6_drawn ∈ wsL_law := q_878
theorem hs_X6_drawn : Cond.selects yX6_drawn.cls yX6_drawn yX6_drawn ∈ wsL_law := q_879
theorem hy_X3_afterYears : mm_Y yX3_afterYears cX3_afterYears 8 (some (.object "CockleSquires$Flat")) 3 := ⟨⟨by decide +kernel, by decide +kernel, by decide +kernel⟩, q_885, q_31⟩
theorem hi_X3_afterYears : Cond.instanceMethod yX3_afterYears ∈ wsL_law := q_883
theorem hs_X3_afterYears : Cond.selects yX3_afterYears.cls yX3_afterYears yX3_afterYears ∈ wsL_law := q_884
theorem hy_X7_drawn : mm_Y yX7_drawn cX7_drawn 8 (some .int) 3 := ⟨⟨by decide +kernel, by decide +kernel, by decide +kernel⟩, q_895, q_5⟩
theorem hi_X7_drawn : Cond.instanceMethod yX7_drawn ∈ wsL_law := q_893
theorem hs_X7_drawn : Cond.selects yX7_drawn.cls yX7_drawn yX7_drawn ∈ wsL_law := q_894
theorem hy_X6_image : mm_Y yX6_image cX6_image 3 (some .int) 1 := ⟨⟨by decide +kernel, by decide +kernel, by decide +kernel⟩, q_902, q_2⟩
theorem hi_X6_image : Cond.instanceMethod yX6_image ∈ wsL_law := q_900
theorem hs_X6_image : Cond.selects yX6_image.cls yX6_image yX6_image ∈ wsL_law := q_901
theorem hy_X7_image : mm_Y yX7_image cX7_image 3 (some .int) 1 := ⟨⟨by decide +kernel, by decide +kernel, by decide +kernel⟩, q_906, q_5⟩
theorem hi_X7_image : Cond.instanceMethod yX7_image ∈ wsL_law := q_904
theorem hs_X7_image : Cond.selects yX7_image.cls yX7_image yX7_image ∈ wsL_law := q_905
theorem hy_X6_restore : mm_Y yX6_restore cX6_restore 3 (some .int) 1 := ⟨⟨by decide +kernel, by decide +kernel, by decide +kernel⟩, q_910, q_2⟩
theorem hi_X6_restore : Cond.instanceMethod yX6_restore ∈ wsL_law := q_908
theorem hs_X6_restore : Cond.selects yX6_restore.cls yX6_restore yX6_restore ∈ wsL_law := q_909
theorem hy_X7_restore : mm_Y yX7_restore cX7_restore 3 (some .int) 1 := ⟨⟨by decide +kernel, by decide +kernel, by decide +kernel⟩, q_914, q_5⟩
theorem hi_X7_restore : Cond.instanceMethod yX7_restore ∈ wsL_law := q_912
theorem hs_X7_restore : Cond.selects yX7_restore.cls yX7_restore yX7_restore ∈ wsL_law := q_913
theorem hy_X6_kind : mm_Y yX6_kind cX6_kind 2 (some .int) 1 := ⟨⟨by decide +kernel, by decide +kernel, by decide +kernel⟩, q_918, q_2⟩
theorem hi_X6_kind : Cond.instanceMethod yX6_kind ∈ wsL_law := q_916
theorem hs_X6_kind : Cond.selects yX6_kind.cls yX6_kind yX6_kind ∈ wsL_law := q_917
theorem hy_X2_kindOf : mm_Y yX2_kindOf cX2_kindOf 2 (some .int) 1 := ⟨⟨by decide +kernel, by decide +kernel, by decide +kernel⟩, q_922, q_22⟩
theorem hi_X2_kindOf : Cond.instanceMethod yX2_kindOf ∈ wsL_law := q_920
theorem hs_X2_kindOf : Cond.selects yX2_kindOf.cls yX2_kindOf yX2_kindOf ∈ wsL_law := q_921
theorem hy_X7_kind : mm_Y yX7_kind cX7_kind 2 (some .int) 1 := ⟨⟨by decide +kernel, by decide +kernel, by decide +kernel⟩, q_926, q_5⟩
theorem hi_X7_kind : Cond.instanceMethod yX7_kind ∈ wsL_law := q_924
theorem hs_X7_kind : Cond.selects yX7_kind.cls yX7_kind yX7_kind ∈ wsL_law := q_925
theorem hy_X6_as : mm_Y yX6_as cX6_as 3 (some .int) 2 := ⟨⟨by decide +kernel, by decide +kernel, by decide +kernel⟩, q_930, q_2⟩
theorem hi_X6_as : Cond.instanceMethod yX6_as ∈ wsL_law := q_928
theorem hs_X6_as : Cond.selects yX6_as.cls yX6_as yX6_as ∈ wsL_law := q_929
theorem hy_X1_isSuch : mm_Y yX1_isSuch cX1_isSuch 4 (some .boolean) 2 := ⟨⟨by decide +kernel, by decide +kernel, by decide +kernel⟩, q_933, q_35⟩
theorem hz_X1_isSuch : Cond.static yX1_isSuch ∈ wsL_law := q_932
theorem hy_X7_as : mm_Y yX7_as cX7_as 3 (some .int) 2 := ⟨⟨by decide +kernel, by decide +kernel, by decide +kernel⟩, q_938, q_5⟩
theorem hi_X7_as : Cond.instanceMethod yX7_as ∈ wsL_law := q_936
theorem hs_X7_as : Cond.selects yX7_as.cls yX7_as yX7_as ∈ wsL_law := q_937
theorem hy_X7_isKind : mm_Y yX7_isKind cX7_isKind 2 (some .boolean) 2 := ⟨⟨by decide +kernel, by decide +kernel, by decide +kernel⟩, q_941, q_5⟩
theorem hz_X7_isKind : Cond.static yX7_isKind ∈ wsL_law := q_940
theorem hy_X6_ask : mm_Y yX6_ask cX6_ask 3 (some .int) 2 := ⟨⟨by decide +kernel, by decide +kernel, by decide +kernel⟩, q_945, q_2⟩
theorem hi_X6_ask : Cond.instanceMethod yX6_ask ∈ wsL_law := q_943
theorem hs_X6_ask : Cond.selects yX6_ask.cls yX6_ask yX6_ask ∈ wsL_law := q_944
theorem hy_X1_answer : mm_Y yX1_answer cX1_answer 5 (some .int) 3 := ⟨⟨by decide +kernel, by decide +kernel, by decide +kernel⟩, q_949, q_35⟩
theorem hi_X1_answer : Cond.instanceMethod yX1_answer ∈ wsL_law := q_947
theorem hs_X1_answer : Cond.selects yX1_answer.cls yX1_answer yX1_answer ∈ wsL_law := q_948
theorem hy_X1_sizeBody : mm_Y yX1_sizeBody cX1_sizeBody 1 (some .int) 1 := ⟨⟨by decide +kernel, by decide +kernel, by decide +kernel⟩, q_953, q_35⟩
theorem hz_X1_sizeBody : Cond.static yX1_sizeBody ∈ wsL_law := q_952
theorem hy_X1_markBody : mm_Y yX1_markBody cX1_markBody 1 (some .int) 1 := ⟨⟨by decide +kernel, by decide +kernel, by decide +kernel⟩, q_957, q_35⟩
theorem hz_X1_markBody : Cond.static yX1_markBody ∈ wsL_law := q_956
theorem hy_X1_give : mm_Y yX1_give cX1_give 7 (some .int) 5 := ⟨⟨by decide +kernel, by decide +kernel, by decide +kernel⟩, q_961, q_35⟩
theorem hz_X1_give : Cond.static yX1_give ∈ wsL_law := q_960
theorem hy_X1_leave : mm_Y yX1_leave cX1_leave 2 none 1 := ⟨⟨by decide +kernel, by decide +kernel, by decide +kernel⟩, q_965, q_35⟩
theorem hi_X1_leave : Cond.instanceMethod yX1_leave ∈ wsL_law := q_963
theorem hs_X1_leave : Cond.selects yX1_leave.cls yX1_leave yX1_leave ∈ wsL_law := q_964
theorem hy_X7_ask : mm_Y yX7_ask cX7_ask 3 (some .int) 2 := ⟨⟨by decide +kernel, by decide +kernel, by decide +kernel⟩, q_971, q_5⟩
theorem hi_X7_ask : Cond.instanceMethod yX7_ask ∈ wsL_law := q_969
theorem hs_X7_ask : Cond.selects yX7_ask.cls yX7_ask yX7_ask ∈ wsL_law := q_970
theorem hy_X7_sizeOf : mm_Y yX7_sizeOf cX7_sizeOf 3 (some .int) 1 := ⟨⟨by decide +kernel, by decide +kernel, by decide +kernel⟩, q_976, q_5⟩
theorem hi_X7_sizeOf : Cond.instanceMethod yX7_sizeOf ∈ wsL_law := q_974
theorem hs_X7_sizeOf : Cond.selects yX7_sizeOf.cls yX7_sizeOf yX7_sizeOf ∈ wsL_law := q_975
theorem hy_X7_begin : mm_Y yX7_begin cX7_begin 2 none 1 := ⟨⟨by decide +kernel, by decide +kernel, by decide +kernel⟩, q_980, q_5⟩
theorem hi_X7_begin : Cond.instanceMethod yX7_begin ∈ wsL_law := q_978
theorem hs_X7_begin : Cond.selects yX7_begin.cls yX7_begin yX7_begin ∈ wsL_law := q_979
theorem hy_X7_commonSize : mm_Y yX7_commonSize cX7_commonSize 3 (some .int) 1 := ⟨⟨by decide +kernel, by decide +kernel, by decide +kernel⟩, q_984, q_5⟩
theorem hi_X7_commonSize : Cond.instanceMethod yX7_commonSize ∈ wsL_law := q_982
theorem hs_X7_commonSize : Cond.selects yX7_commonSize.cls yX7_commonSize yX7_commonSize ∈ wsL_law := q_983
theorem hy_X7_lent : mm_Y yX7_lent cX7_lent 3 (some .int) 2 := ⟨⟨by decide +kernel, by decide +kernel, by decide +kernel⟩, q_988, q_5⟩
theorem hi_X7_lent : Cond.instanceMethod yX7_lent ∈ wsL_law := q_986
theorem hs_X7_lent : Cond.selects yX7_lent.cls yX7_lent yX7_lent ∈ wsL_law := q_987
theorem hy_X7_markOf : mm_Y yX7_markOf cX7_markOf 4 (some .int) 1 := ⟨⟨by decide +kernel, by decide +kernel, by decide +kernel⟩, q_992, q_5⟩
theorem hi_X7_markOf : Cond.instanceMethod yX7_markOf ∈ wsL_law := q_990
theorem hs_X7_markOf : Cond.selects yX7_markOf.cls yX7_markOf yX7_markOf ∈ wsL_law := q_991
theorem hy_X7_commonMark : mm_Y yX7_commonMark cX7_commonMark 2 (some .int) 1 := ⟨⟨by decide +kernel, by decide +kernel, by decide +kernel⟩, q_996, q_5⟩
theorem hi_X7_commonMark : Cond.instanceMethod yX7_commonMark ∈ wsL_law := q_994
theorem hs_X7_commonMark : Cond.selects yX7_commonMark.cls yX7_commonMark yX7_commonMark ∈ wsL_law := q_995
theorem hy_X7_sizeOfWarm : mm_Y yX7_sizeOfWarm cX7_sizeOfWarm 2 (some .int) 1 := ⟨⟨by decide +kernel, by decide +kernel, by decide +kernel⟩, q_1000, q_5⟩
theorem hi_X7_sizeOfWarm : Cond.instanceMethod yX7_sizeOfWarm ∈ wsL_law := q_998
theorem hs_X7_sizeOfWarm : Cond.selects yX7_sizeOfWarm.cls yX7_sizeOfWarm yX7_sizeOfWarm ∈ wsL_law := q_999
theorem hy_X7_warmSize : mm_Y yX7_warmSize cX7_warmSize 2 (some .int) 1 := ⟨⟨by decide +kernel, by decide +kernel, by decide +kernel⟩, q_1004, q_5⟩
theorem hi_X7_warmSize : Cond.instanceMethod yX7_warmSize ∈ wsL_law := q_1002
theorem hs_X7_warmSize : Cond.selects yX7_warmSize.cls yX7_warmSize yX7_warmSize ∈ wsL_law := q_1003
theorem hy_X6_trace : mm_Y yX6_trace cX6_trace 2 (some .int) 1 := ⟨⟨by decide +kernel, by decide +kernel, by decide +kernel⟩, q_1008, q_2⟩
theorem hi_X6_trace : Cond.instanceMethod yX6_trace ∈ wsL_law := q_1006
theorem hs_X6_trace : Cond.selects yX6_trace.cls yX6_trace yX6_trace ∈ wsL_law := q_1007
theorem hy_X1_traced : mm_Y yX1_traced cX1_traced 2 (some .int) 1 := ⟨⟨by decide +kernel, by decide +kernel, by decide +kernel⟩, q_1012, q_35⟩
theorem hi_X1_traced : Cond.instanceMethod yX1_traced ∈ wsL_law := q_1010
theorem hs_X1_traced : Cond.selects yX1_traced.cls yX1_traced yX1_traced ∈ wsL_law := q_1011
theorem hy_X7_trace : mm_Y yX7_trace cX7_trace 2 (some .int) 1 := ⟨⟨by decide +kernel, by decide +kernel, by decide +kernel⟩, q_1017, q_5⟩
theorem hi_X7_trace : Cond.instanceMethod yX7_trace ∈ wsL_law := q_1015
theorem hs_X7_trace : Cond.selects yX7_trace.cls yX7_trace yX7_trace ∈ wsL_law := q_1016
theorem hy_X6_count : mm_Y yX6_count cX6_count 2 (some .int) 1 := ⟨⟨by decide +kernel, by decide +kernel, by decide +kernel⟩, q_1021, q_2⟩
theorem hi_X6_count : Cond.instanceMethod yX6_count ∈ wsL_law := q_1019
theorem hs_X6_count : Cond.selects yX6_count.cls yX6_count yX6_count ∈ wsL_law := q_1020
theorem hy_X4_present : mm_Y yX4_present cX4_present 3 (some .int) 0 := ⟨⟨by decide +kernel, by decide +kernel, by decide +kernel⟩, q_1025, q_14⟩
theorem hi_X4_present : Cond.instanceMethod yX4_present ∈ wsL_law := q_1023
theorem hs_X4_present : Cond.selects yX4_present.cls yX4_present yX4_present ∈ wsL_law := q_1024
theorem hy_X2_allCounted : mm_Y yX2_allCounted cX2_allCounted 1 (some .int) 0 := ⟨⟨by decide +kernel, by decide +kernel, by decide +kernel⟩, q_1029, q_22⟩
theorem hi_X2_allCounted : Cond.instanceMethod yX2_allCounted ∈ wsL_law := q_1027
theorem hs_X2_allCounted : Cond.selects yX2_allCounted.cls yX2_allCounted yX2_allCounted ∈ wsL_law := q_1028
theorem hy_X7_count : mm_Y yX7_count cX7_count 4 (some .int) 1 := ⟨⟨by decide +kernel, by decide +kernel, by decide +kernel⟩, q_1033, q_5⟩
theorem hi_X7_count : Cond.instanceMethod yX7_count ∈ wsL_law := q_1031
theorem hs_X7_count : Cond.selects yX7_count.cls yX7_count yX7_count ∈ wsL_law := q_1032
theorem hy_X6_status : mm_Y yX6_status cX6_status 1 (some .int) 0 := ⟨⟨by decide +kernel, by decide +kernel, by decide +kernel⟩, q_1037, q_2⟩
theorem hi_X6_status : Cond.instanceMethod yX6_status ∈ wsL_law := q_1035
theorem hs_X6_status : Cond.selects yX6_status.cls yX6_status yX6_status ∈ wsL_law := q_1036
theorem hy_X7_status : mm_Y yX7_status cX7_status 1 (some .int) 0 := ⟨⟨by decide +kernel, by decide +kernel, by decide +kernel⟩, q_1041, q_5⟩
theorem hi_X7_status : Cond.instanceMethod yX7_status ∈ wsL_law := q_1039
theorem hs_X7_status : Cond.selects yX7_status.cls yX7_status yX7_status ∈ wsL_law := q_1040
