theorem leadH_eq {f f2 : Fl} {w : Int32} {b : Nat} (e : EqF f f2) (hb : b < nb f) : leadH f2 w b = leadH f w b := by
  unfold leadH
  rw [vetoF_eq e, gainW_eq e hb]
theorem valF_eq {f f2 : Fl} {w : Int32} (e : EqF f f2) : valF f2 w = valF f w := by
  have h : ∀ a b, led f2 w a b = led f w a b := fun a b => by
    unfold led GB
    rw [e.nb, sumR_congr (fun i _ c => by rw [leadH_eq e (by omega)])]
  funext c
  unfold valF
  rw [e.nb]
  simp only [h]
theorem fold_c {val : Nat → Int32} : ∀ (l : List Nat) (p : Int32 × Int32), (∃ c, c < 100 ∧ p = (nI c, val c)) → (∀ c, c ∈ l → c < 100) → ∃ c, c < 100 ∧ l.foldl (stp val) p = (nI c, val c)
  | [], _, h, _ => h
  | c :: l, p, h, hl => by
    rw [List.foldl_cons]
    refine fold_c l _ ?_ (fun z hz => hl z (List.mem_cons_of_mem _ hz))
    unfold stp
    split
    · exact h
    · exact ⟨c, hl c List.mem_cons_self, rfl⟩
theorem fold_n {val : Nat → Int32} (hv : ∀ c, 0 ≤ (val c).toInt) {c : Nat} {l : List Nat} {p : Int32 × Int32} (h : p.2.toInt < 0) : (c :: l).foldl (stp val) p = l.foldl (stp val) (nI c, val c) := by
  rw [List.foldl_cons]
  refine congrArg (fun z => l.foldl (stp val) z) (if_neg (fun q => ?_))
  have h1 := hv c
  rw [toI_le] at q
  omega
theorem three_of {x : Int32} (h : ¬ F_X6_within x 1 3 = 0) : x = 1 ∨ x = 2 ∨ x = 3 := by
  have h1 := within_iff.mp h
  have e1 : (1 : Int32).toInt = 1 := rfl
  have e3 : (3 : Int32).toInt = 3 := rfl
  obtain ⟨j, hj, e⟩ := nI_ofT (x := x) (m := 3) (by omega)
  subst e
  rw [nI_toInt (by omega)] at h1
  rcases (show j = 1 ∨ j = 2 ∨ j = 3 by omega) with q | q | q <;> subst q
  · exact Or.inl rfl
  · exact Or.inr (Or.inl rfl)
  · exact Or.inr (Or.inr rfl)
def cutL (N : Nat) (x2 : Int32) : List Nat := (List.range' 0 100).filter (fun c => decide (F_X3_wardsOf (nI c) (nI N) = x2))
theorem cutL_100 {N : Nat} {x2 : Int32} : ∀ c, c ∈ cutL N x2 → c < 100 := fun c h => by
  have h1 := (List.mem_filter.mp h).1
  rw [List.mem_range'_1] at h1
  omega
theorem wards_7 {g : mm_g} {w x2 x3 : Int32} (v : Vd (g 7 4)) (hw : w = 0 ∨ w = 1) (h0 : 0 < nb (g 7 4)) (hx : x2 = 1 ∨ x2 = 2 ∨ x2 = 3) : (if x2 = 1 then (F_X7_wards_76 g w x2 x3 (g 7 4 0) (fun (a76 : Int32) (b76 : Int32) (j76 : Nat) => (if x3 = 0 then b76 else a76)) ((g 7 4 0).toInt.toNat + 2) 0 (F_X7_ledBy g w 0 (g 7 4 0)) 1) else (F_X7_wards_76 g w x2 x3 (g 7 4 0) (fun (a76 : Int32) (b76 : Int32) (j76 : Nat) => (if x3 = 0 then b76 else a76)) ((g 7 4 0).toInt.toNat + 2) (-1000000) (-1000000) 1)) = if x3 = 0 then ((cutL (nb (g 7 4)) x2).foldl (stp (valF (g 7 4) w)) (-1000000, -1000000)).2 else ((cutL (nb (g 7 4)) x2).foldl (stp (valF (g 7 4) w)) (-1000000, -1000000)).1 := by
  have h9 := v.n9
  rw [v.f0, nI_n (by omega)]
  rcases hx with e | e | e <;> subst e
  · rw [if_pos rfl, cutL, cuts_1 _ (by omega) h0, fold_n (fun _ => valF_p) (by decide), List.foldl_nil, F_X7_wards_76]
    have e1 : F_X7_ledBy g w 0 (nI (nb (g 7 4))) = valF (g 7 4) w 0 := by
      rw [show F_X7_ledBy g w 0 (nI (nb (g 7 4))) = led (g 7 4) w 0 (nb (g 7 4)) from ledBy_F (a := 0) v hw (by omega) h9]
      unfold valF
      rw [if_neg (show ¬ 0 < 0 / 10 by decide), if_neg (show ¬ 0 < 0 / 10 by decide), Int32.add_zero, Int32.add_zero]
    rw [e1, if_pos (show (1 : Int32) ≤ 1 by decide)]
    split <;> rfl
  · rw [if_neg (by decide), cutL, cuts_2 _ (by omega), w76_2 v hw (nb (g 7 4) - 1) _ (-1000000, -1000000) 1 (by decide) (by omega) (by omega)]
  · rw [if_neg (by decide), cutL, cuts_3 _ (by omega), w76_3 v hw (nb (g 7 4) - 1) _ (-1000000, -1000000) 1 (by decide) (by omega) (by omega)]
theorem none_c {c : Nat} (h : c < 100) : ¬ nI c = -1000000 := fun q => by
  have h1 := congrArg Int32.toInt q
  rw [nI_toInt (by omega)] at h1
  have e : (-1000000 : Int32).toInt = -1000000 := rfl
  omega
theorem e_wards {n : Nat} {g : mm_g} {x1 x2 x3 : Int32} (hr : Rel n g) : Ok n g (F_X6_wards g x1 x2 x3) (fun s => (F_X7_wards s x1 x2 x3, s)) ∧ Fr g (F_X6_wards g x1 x2 x3).2 := by
  have hv := hr.now.1
  by_cases q1 : nb (g 2 0) = 0
  · refine Ok_b hr (a := -1000002) ?_ ?_
    · unfold F_X6_wards; rw [if_neg (fun z => (isN_2 hr).mp z q1)]
    · show (F_X7_wards g x1 x2 x3, g) = _
      unfold F_X7_wards; rw [if_pos ((there_2 hr).mpr q1)]
  · by_cases q2 : F_X6_within x1 0 1 = 0
    · refine Ok_b hr (a := -1000001) ?_ ?_
      · unfold F_X6_wards; rw [if_pos ((isN_2 hr).mpr q1), isOne_within, if_pos q2]
      · show (F_X7_wards g x1 x2 x3, g) = _
        unfold F_X7_wards; rw [if_neg (fun z => q1 ((there_2 hr).mp z)), isWho_within, if_pos q2]
    · by_cases q3 : F_X6_within x2 1 3 = 0
      · refine Ok_b hr (a := -1000001) ?_ ?_
        · unfold F_X6_wards; rw [if_pos ((isN_2 hr).mpr q1), isOne_within, if_neg q2, if_pos q3]
        · show (F_X7_wards g x1 x2 x3, g) = _
          unfold F_X7_wards; rw [if_neg (fun z => q1 ((there_2 hr).mp z)), isWho_within, if_neg q2, in_w (a := 1) (b := 3) (A := 1) (B := 3) rfl rfl, if_pos q3]
      · by_cases q4 : F_X6_within x3 0 1 = 0
        · refine Ok_b hr (a := -1000001) ?_ ?_
          · unfold F_X6_wards; rw [if_pos ((isN_2 hr).mpr q1), isOne_within, if_neg q2, if_neg q3, if_pos q4]
          · show (F_X7_wards g x1 x2 x3, g) = _
            unfold F_X7_wards; rw [if_neg (fun z => q1 ((there_2 hr).mp z)), isWho_within, if_neg q2, in_w (a := 1) (b := 3) (A := 1) (B := 3) rfl rfl, if_neg q3, isWhat_within, if_pos q4]
        · have hw := two_cases q2
          have h9 := hv.n9
          obtain ⟨w1, w2⟩ := weigh_F (g := g) (w := x1) hv
          have w3 := w1 2 0 (by decide) (by decide)
          have e : F_X3_bestCut g 0 x1 x2 = (((cutL (nb (g 2 0)) x2).foldl (stp (valF (g 2 0) x1)) (-1000000, -1)).1, F_X3_weighBeds g 0 x1) := by
            unfold F_X3_bestCut
            have w2' := w2
            have hv' := hv
            rw [← w3] at w2' hv'
            rw [cut_16 (K := fun (a16 : Int32) (b16 : Int32) (j16 : Nat) => (a16, (F_X3_weighBeds g 0 x1))) hv' w2' 100 _ (-1000000, -1) 0 rfl (by decide), w3]
            rfl
          have eF : F_X6_wards g x1 x2 x3 = (if ((cutL (nb (g 2 0)) x2).foldl (stp (valF (g 2 0) x1)) (-1000000, -1)).1 = -1000000 then (-1000000 : Int32) else if x3 = 1 then ((cutL (nb (g 2 0)) x2).foldl (stp (valF (g 2 0) x1)) (-1000000, -1)).1 else F_X3_wardsLed (F_X3_weighBeds g 0 x1) ((cutL (nb (g 2 0)) x2).foldl (stp (valF (g 2 0) x1)) (-1000000, -1)).1 (nI (nb (g 2 0))), F_X3_weighBeds g 0 x1) := by
            unfold F_X6_wards; rw [if_pos ((isN_2 hr).mpr q1), isOne_within, if_neg q2, if_neg q3, if_neg q4, e, show ((((cutL (nb (g 2 0)) x2).foldl (stp (valF (g 2 0) x1)) (-1000000, -1)).1, F_X3_weighBeds g 0 x1).2 2 0 0) = nI (nb (g 2 0)) from (congrFun w3 0).trans hv.f0]
            by_cases z : ((cutL (nb (g 2 0)) x2).foldl (stp (valF (g 2 0) x1)) (-1000000, -1)).1 = -1000000
            · rw [if_pos z, if_pos z, z]
            · rw [if_neg z, if_neg z]
              by_cases z2 : x3 = 1
              · rw [if_pos z2, if_pos z2]
              · rw [if_neg z2, if_neg z2]
          rw [eF]
          refine Ok_p hr _ rfl w1 (fun s hs h2 => ⟨?_, Sr_r⟩)
          have he := hs.now.2.2.1
          have v7 := hs.vd7
          have hn7 : nb (s 7 4) = nb (g 2 0) := by rw [he.nb, h2]
          have e7 : F_X7_wards s x1 x2 x3 = if x3 = 0 then ((cutL (nb (g 2 0)) x2).foldl (stp (valF (g 2 0) x1)) (-1000000, -1000000)).2 else ((cutL (nb (g 2 0)) x2).foldl (stp (valF (g 2 0) x1)) (-1000000, -1000000)).1 := by
            unfold F_X7_wards
            rw [if_neg (fun z => q1 (by rw [← h2]; exact (there_2 hs).mp z)), isWho_within, if_neg q2, in_w (a := 1) (b := 3) (A := 1) (B := 3) rfl rfl, if_neg q3, isWhat_within, if_neg q4, wards_7 v7 hw (by rw [hn7]; omega) (three_of q3), hn7, valF_eq he, h2]
          show F_X7_wards s x1 x2 x3 = _
          rw [e7]
          have h01 := two_cases q4
          have hL := cutL_100 (N := nb (g 2 0)) (x2 := x2)
          cases hc : cutL (nb (g 2 0)) x2 with
          | nil =>
            rw [List.foldl_nil, List.foldl_nil, if_pos rfl]
            split <;> rfl
          | cons c l =>
            rw [hc] at hL
            rw [fold_n (fun _ => valF_p) (by decide), fold_n (fun _ => valF_p) (by decide)]
            obtain ⟨c2, k1, k2⟩ := fold_c (val := valF (g 2 0) x1) l (nI c, valF (g 2 0) x1 c) ⟨c, hL c List.mem_cons_self, rfl⟩ (fun z hz => hL z (List.mem_cons_of_mem _ hz))
            rw [k2, if_neg (none_c k1), wardsLed_F hv w2 k1]
            rcases h01 with z | z <;> subst z
            · rw [if_pos rfl, if_neg (by decide)]
            · rw [if_neg (by decide), if_pos rfl]
/-! bits (the kit's family on the bits of an int begins this; b_one, b_an1, vetoF_bt, setF_bt are ours) -/
def bt (x : Int32) (i : Nat) : Bool := x.toBitVec.getLsbD i
theorem b_ext {x y : Int32} (h : ∀ i, i < 32 → bt x i = bt y i) : x = y := Int32.toBitVec_inj.mp (BitVec.eq_of_getLsbD_eq (fun i hi => h i hi))
theorem b_and (x y : Int32) (i : Nat) : bt (x &&& y) i = (bt x i && bt y i) := by unfold bt; rw [Int32.toBitVec_and, BitVec.getLsbD_and]
theorem b_xor (x y : Int32) (i : Nat) : bt (x ^^^ y) i = (bt x i ^^ bt y i) := by unfold bt; rw [Int32.toBitVec_xor, BitVec.getLsbD_xor]
theorem b_m1 : ∀ i, i < 32 → bt (-1) i = true := by decide +kernel
theorem b_0 (i : Nat) : bt 0 i = false := BitVec.getLsbD_zero
theorem s_l : ∀ n, n < 32 → ((nI n &&& 31).toBitVec.smod 32).toNat = n := by decide +kernel
theorem b_sshr (n : Nat) (hn : n < 32) (x : Int32) {i : Nat} (hi : i < 32) : bt (x >>> (nI n &&& 31)) i = if n + i < 32 then bt x (n + i) else bt x 31 := by
  unfold bt
  rw [Int32.toBitVec_shiftRight]
  show (x.toBitVec.sshiftRight ((nI n &&& 31).toBitVec.smod 32).toNat).getLsbD i = _
  rw [s_l n hn, BitVec.getLsbD_sshiftRight, BitVec.msb_eq_getLsbD_last]
  simp [hi]
theorem b_one : ∀ n, n < 32 → ∀ i, i < 32 → bt ((1 : Int32) <<< (nI n &&& 31)) i = decide (i = n) := by decide +kernel
theorem b_1 : ∀ i, i < 32 → bt 1 i = decide (i = 0) := by decide +kernel
theorem b_an1 {y : Int32} : (y &&& 1) = 1 ↔ bt y 0 = true := by
  constructor
  · intro h
    have e : bt (y &&& 1) 0 = bt 1 0 := by rw [h]
    rw [b_and, b_1 0 (by decide)] at e
    simpa using e
  · intro h
    refine b_ext (fun i hi => ?_)
    rw [b_and, b_1 i hi]
    by_cases z : i = 0
    · subst z; rw [h]; rfl
    · rw [decide_eq_false z, Bool.and_false]
theorem bit_iff {x : Int32} {b : Nat} (hb : b < 32) : ((x >>> (nI b &&& 31)) &&& 1) = 1 ↔ bt x b = true := by
  rw [b_an1, b_sshr b hb x (by decide), if_pos (by omega)]
  exact Iff.rfl
theorem vetoF_bt {f : Fl} {b : Nat} (hb : b < 32) : vetoF f b = if bt (f 5) b = true then 1 else 0 := by
  unfold vetoF
  by_cases z : bt (f 5) b = true
  · rw [if_pos ((bit_iff hb).mpr z), if_pos z]
  · rw [if_neg (fun q => z ((bit_iff hb).mp q)), if_neg z]
theorem setF_bt {s : Int32} {b : Nat} (hb : b < 32) : setF s b = if bt s b = true then 1 else 0 := by
  unfold setF
  by_cases z : bt s b = true
  · rw [if_pos ((bit_iff hb).mpr z), if_pos z]
  · rw [if_neg (fun q => z ((bit_iff hb).mp q)), if_neg z]
/-! the bed that decides -/
def tgl (f : Fl) (b : Nat) : Fl := upd f 5 (f 5 ^^^ ((1 : Int32) <<< (nI b &&& 31)))
theorem tgl_o {f : Fl} {b j : Nat} (h : j ≠ 5) : tgl f b j = f j := if_neg h
theorem tgl_nb {f : Fl} {b : Nat} : nb (tgl f b) = nb f := upd_nb (by decide)
theorem tgl_lie {f : Fl} {b c : Nat} : lieF (tgl f b) c = lieF f c := by
  unfold lieF nearF offF warmF
  rw [tgl_o (j := 9 + c) (by omega), tgl_o (j := 27 + c) (by omega), tgl_o (j := 18 + c) (by omega), tgl_o (j := 1 + 1) (by decide), tgl_o (j := 1 + 0) (by decide)]
theorem tgl_gain {f : Fl} {w : Int32} {b c : Nat} : gainW (tgl f b) w c = gainW f w c := by
  unfold gainW bushF
  rw [tgl_lie, tgl_o (by omega)]
theorem tgl_veto {f : Fl} {b c : Nat} (hb : b < 32) (hc : c < 32) : vetoF (tgl f b) c = if c = b then 1 - vetoF f b else vetoF f c := by
  rw [vetoF_bt hc, vetoF_bt hc, vetoF_bt hb, show tgl f b 5 = f 5 ^^^ ((1 : Int32) <<< (nI b &&& 31)) from pk_us, b_xor, b_one b hb c hc]
  by_cases z : c = b
  · subst z
    rw [decide_eq_true rfl, if_pos rfl]
    cases bt (f 5) c <;> decide
  · rw [decide_eq_false z, if_neg z, Bool.xor_false]
theorem sumR_one {h h2 : Nat → Int32} {b : Nat} : ∀ (m j : Nat), j ≤ b → b < j + m → (∀ i, i ≠ b → h2 i = h i) → sumR h2 j m = sumR h j m - h b + h2 b
  | 0, j, h1, h3, _ => by omega
  | m + 1, j, h1, h3, H => by
    rw [sumR, sumR]
    by_cases z : j = b
    · subst z
      rw [sumR_congr (h := h2) (h2 := h) (fun i a _ => H i (by omega))]
      grind
    · rw [H j z, sumR_one m (j + 1) (by omega) (by omega) H]
      grind
theorem tgl_lead {f : Fl} {w : Int32} {b : Nat} (v : Vd f) (hb : b < nb f) : leadF (tgl f b) w = if vetoF f b = 0 then leadF f w - gainW f w b else leadF f w + gainW f w b := by
  have h9 := v.n9
  have hC : countF (tgl f b) w = countF f w := by
    unfold countF
    rw [tgl_o (by decide), tgl_o (by decide)]
  unfold leadF
  rw [hC, tgl_nb, sumR_one (h := leadH f w) (h2 := fun i => if i < nb f then leadH (tgl f b) w i else leadH f w i) (b := b) (nb f) 0 (by omega) (by omega) ?_ |> fun e => (sumR_congr (h := leadH (tgl f b) w) (h2 := fun i => if i < nb f then leadH (tgl f b) w i else leadH f w i) (fun i _ c => (if_pos (show i < nb f by omega)).symm)).trans e]
  · have e1 : (if b < nb f then leadH (tgl f b) w b else leadH f w b) = leadH (tgl f b) w b := if_pos hb
    have hb1 : leadH f w b = (if vetoF f b = 0 then gainW f w b else 0) := rfl
    have hb2 : leadH (tgl f b) w b = (if 1 - vetoF f b = 0 then gainW f w b else 0) := by
      unfold leadH
      rw [tgl_veto (by omega) (by omega), if_pos rfl, tgl_gain]
    rw [e1, hb1, hb2]
    generalize sumR (leadH f w) 0 (nb f) = S1
    generalize gainW f w b = G1
    generalize countF f w = C1
    rcases veto_01 (f := f) (b := b) with z | z <;> rw [z]
    · rw [if_pos rfl, if_pos rfl, if_neg (show ¬ (1 : Int32) - 0 = 0 by decide)]
      grind
    · rw [if_neg (show ¬ (1 : Int32) = 0 by decide), if_neg (show ¬ (1 : Int32) = 0 by decide), if_pos (show (1 : Int32) - 1 = 0 by decide)]
      grind
  · intro i hi
    by_cases q : i < nb f
    · rw [if_pos q]
      unfold leadH
      rw [tgl_veto (by omega) (by omega), if_neg hi, tgl_gain]
    · rw [if_neg q]
theorem sgn_3 (x : Int32) : (x < 0 ∧ F_X2_leader x = 1 ∧ F_X7_sign x = -1) ∨ (x = 0 ∧ F_X2_leader x = 2 ∧ F_X7_sign x = 0) ∨ (0 < x ∧ F_X2_leader x = 0 ∧ F_X7_sign x = 1) := by
  have e0 : (0 : Int32).toInt = 0 := rfl
  unfold F_X2_leader F_X7_sign
  by_cases z : x = 0
  · subst z
    exact Or.inr (Or.inl (by decide))
  · have z2 : x.toInt ≠ 0 := fun q => z (Int32.toInt_inj.mp (q.trans e0.symm))
    by_cases z3 : x < 0
    · refine Or.inl ⟨z3, ?_, ?_⟩
      · rw [if_neg z, if_pos]
        rw [toI_lt] at z3
        rw [toI_le]
        omega
      · rw [toI_lt] at z3
        rw [if_pos (by rw [toI_le]; omega), if_neg (by rw [toI_le]; omega)]
    · rw [toI_lt] at z3
      refine Or.inr (Or.inr ⟨by rw [toI_lt]; omega, ?_, ?_⟩)
      · rw [if_neg z, if_neg (by rw [toI_le]; omega)]
      · rw [if_neg (by rw [toI_le]; omega)]
theorem sgn_eq (x y : Int32) : F_X2_leader x = F_X2_leader y ↔ F_X7_sign x = F_X7_sign y := by
  rcases sgn_3 x with ⟨_, a, b⟩ | ⟨_, a, b⟩ | ⟨_, a, b⟩ <;> rcases sgn_3 y with ⟨_, c, d⟩ | ⟨_, c, d⟩ | ⟨_, c, d⟩ <;> rw [a, b, c, d] <;> decide
def dcL (f : Fl) : Nat → Int32 → Nat → Int32
  | 0, a, _ => a
  | m + 1, a, j => if F_X7_sign (leadF (tgl f j) 0) = F_X7_sign (leadF f 0) then dcL f m a (j + 1) else dcL f m (a ||| ((1 : Int32) <<< (nI j &&& 31))) (j + 1)
theorem dc_10 {g : mm_g} {K : Int32 → Nat → Int32} (v : Vd (g 2 0)) : ∀ (m n : Nat) (a : Int32) (j : Nat), m + j = nb (g 2 0) → m < n → F_X2_deciding_10 g 0 (leadF (g 2 0) 0) K n a j = K (dcL (g 2 0) m a j) (nb (g 2 0)) := by
  have h9 := v.n9
  intro m
  induction m with
  | zero =>
    intro n a j h1 h2
    obtain ⟨n1, e⟩ : ∃ n1, n = n1 + 1 := ⟨n - 1, by omega⟩
    subst e
    unfold F_X2_deciding_10
    rw [if_pos ((le_0 v (by omega)).mpr (by omega)), show j = nb (g 2 0) by omega]
    rfl
  | succ m ih =>
    intro n a j h1 h2
    obtain ⟨n1, e⟩ : ∃ n1, n = n1 + 1 := ⟨n - 1, by omega⟩
    subst e
    have hj : j < nb (g 2 0) := by omega
    unfold F_X2_deciding_10
    rw [if_neg (fun q => absurd ((le_0 v (by omega)).mp q) (by omega)), hasVeto_F v hj, gainBy_F v hj, ih _ _ _ (by omega) (by omega), ih _ _ _ (by omega) (by omega), dcL, tgl_lead v hj]
    rcases veto_01 (f := g 2 0) (b := j) with z | z <;> rw [z]
    · rw [if_pos rfl, if_pos rfl]
      by_cases z2 : F_X7_sign (leadF (g 2 0) 0 - gainW (g 2 0) 0 j) = F_X7_sign (leadF (g 2 0) 0)
      · rw [if_pos ((sgn_eq _ _).mpr z2), if_pos z2]
      · rw [if_neg (fun q => z2 ((sgn_eq _ _).mp q)), if_neg z2]
    · rw [if_neg (show ¬ (1 : Int32) = 0 by decide), if_neg (show ¬ (1 : Int32) = 0 by decide)]
      by_cases z2 : F_X7_sign (leadF (g 2 0) 0 + gainW (g 2 0) 0 j) = F_X7_sign (leadF (g 2 0) 0)
      · rw [if_pos ((sgn_eq _ _).mpr z2), if_pos z2]
      · rw [if_neg (fun q => z2 ((sgn_eq _ _).mp q)), if_neg z2]
theorem upd5_vd {f : Fl} {x : Int32} (v : Vd f) : Vd (upd f 5 x) := by
  refine ⟨?_, ?_, ?_, ?_, fun b hb => ?_⟩
  · rw [upd, if_neg (by decide)]; exact v.b0
  · rw [upd, if_neg (by decide)]; exact v.ca
  · rw [upd, if_neg (by decide)]; exact v.cb
  · rw [upd, if_neg (by decide)]; exact v.lot
  · rw [upd_nb (by decide)] at hb
    rw [upd, upd, upd, if_neg (by omega), if_neg (by omega), if_neg (by omega)]
    exact v.bed b hb
theorem dc_23 {g : mm_g} {K : Int32 → Nat → mm_g → Int32 × mm_g} (v : Vd (g 7 4)) : ∀ (m n : Nat) (a : Int32) (j : Nat), m + j = nb (g 7 4) → m < n → F_X7_decide_23 (F_X7_sign (leadF (g 7 4) 0)) K n a j g = K (dcL (g 7 4) m a j) (nb (g 7 4)) g := by
  have h9 := v.n9
  intro m
  induction m with
  | zero =>
    intro n a j h1 h2
    obtain ⟨n1, e⟩ : ∃ n1, n = n1 + 1 := ⟨n - 1, by omega⟩
    subst e
    unfold F_X7_decide_23
    rw [if_pos ((le_0 v (by omega)).mpr (by omega)), show j = nb (g 7 4) by omega]
    rfl
  | succ m ih =>
    intro n a j h1 h2
    obtain ⟨n1, e⟩ : ∃ n1, n = n1 + 1 := ⟨n - 1, by omega⟩
    subst e
    have hj : j < nb (g 7 4) := by omega
    have eW : wr g 7 4 5 (g 7 4 5 ^^^ ((1 : Int32) <<< (nI j &&& 31))) = mw g 7 4 (tgl (g 7 4) j) := rfl
    have e5 : wr g 7 4 5 (g 7 4 5 ^^^ ((1 : Int32) <<< (nI j &&& 31))) 7 4 5 ^^^ ((1 : Int32) <<< (nI j &&& 31)) = g 7 4 5 := by
      rw [wr_ss, if_pos rfl, Int32.xor_assoc, Int32.xor_self, Int32.xor_zero]
    unfold F_X7_decide_23
    rw [if_neg (fun q => absurd ((le_0 v (by omega)).mp q) (by omega)), e5, wr_wr, wr_id, eW, leadOf7_F (by rw [mw_s]; exact upd5_vd v) (Or.inl rfl), mw_s, ih _ _ _ (by omega) (by omega), ih _ _ _ (by omega) (by omega), dcL, Int32.or_zero]
    by_cases z2 : F_X7_sign (leadF (tgl (g 7 4) j) 0) = F_X7_sign (leadF (g 7 4) 0)
    · rw [if_pos z2, if_pos z2]
    · rw [if_neg z2, if_neg z2]
theorem dcL_eq {f f2 : Fl} (e : EqF f f2) : ∀ (m : Nat) (a : Int32) (j : Nat), dcL f2 m a j = dcL f m a j
  | 0, _, _ => rfl
  | m + 1, a, j => by
    have e2 : EqF (tgl f j) (tgl f2 j) := by
      unfold tgl
      rw [← e.lo 5 (by decide)]
      exact upd_eq e (by decide) (by decide)
    rw [dcL, dcL, leadF_eq e2, leadF_eq e, dcL_eq e m, dcL_eq e m]
theorem e_decide {n : Nat} {g : mm_g} (hr : Rel n g) : Ok n g (F_X6_decide g, g) (fun s => F_X7_decide s) ∧ Fr g (F_X6_decide g, g).2 := by
  have hv := hr.now.1
  by_cases q1 : nb (g 2 0) = 0
  · refine Ok_b hr (a := -1000002) ?_ ?_
    · unfold F_X6_decide; rw [if_neg (fun z => (isN_2 hr).mp z q1)]
    · show F_X7_decide g = _
      unfold F_X7_decide; rw [if_pos ((there_2 hr).mpr q1)]
  · refine Ok_p hr (dcL (g 2 0) (nb (g 2 0)) 0 0) ?_ Sc_r (fun s hs h2 => ?_)
    · have h9 := hv.n9
      show F_X6_decide g = _
      unfold F_X6_decide F_X2_deciding
      rw [if_pos ((isN_2 hr).mpr q1), leadOf_F hv, dc_10 hv (nb (g 2 0)) _ _ _ rfl (by show _ < nb (g 2 0) + 1; omega)]
    · have he := hs.now.2.2.1
      have v7 := hs.vd7
      have e7 : F_X7_decide s = (dcL (g 2 0) (nb (g 2 0)) 0 0, s) := by
        unfold F_X7_decide
        rw [if_neg (fun z => q1 (by rw [← h2]; exact (there_2 hs).mp z)), leadOf7_F v7 (Or.inl rfl), dc_23 v7 (nb (s 7 4)) _ _ _ rfl (by show _ < nb (s 7 4) + 1; omega), dcL_eq he, he.nb, h2]
      show (F_X7_decide s).1 = _ ∧ Sr s (F_X7_decide s).2
      rw [e7]
      exact ⟨rfl, Sr_r⟩
