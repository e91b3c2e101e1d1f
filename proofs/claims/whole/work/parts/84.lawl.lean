section LOOP
variable {p : Program} {l : Launch} {e : Env} {s : State} {m : MethodId} {below : List Frame} {meth : Method} {c : Code} {b Ln : Nat} {xs : Nat → Int32} {G : mm_G} {cells slots n i : Nat} {pr : Nat → Nat → Prop} {ad : Nat → Nat → Nat → Nat} {g : mm_g}
set_option maxRecDepth 100000 in
set_option maxHeartbeats 4000000 in
theorem lw_sw {x : Int32} (B : lw_B p s m meth c b Ln xs G) (hw : mm_W pr) (hF : okF pr g) (hr : Rel n g) (hn : n ≤ 512) (hi : i + 5 < Ln) (hL : Ln ≤ 3072) (hc : cells + 120 ≤ 600000) (hs : slots + 960 ≤ 7302249) (K : LK p l e s m below meth c b G cells slots n i) : LV p l e s m below meth c b G cells slots 33 [(0, .ref b), (1, .ref (ad 6 0 0)), (2, .ref (ad 7 0 0)), (3, .int (nI i))] [.int x] pr ad g := by
  by_cases h : x.toInt < 0 ∨ 34 < x.toInt
  · refine LV_tabO (tgt := 1274) B dL_law_33 h (by decide) ?_
    exact K pr ad g _ _ hw hF (hr.up (Nat.le_succ n)) (by omega) (by omega)
  · obtain ⟨j, hj, e⟩ := nI_ofT (x := x) (m := 34) (by omega)
    subst e
    match j, hj with
    | 0, _ => exact LV_tabI (off := 155) (tgt := 188) B dL_law_33 (by decide) (by decide) rfl (by decide) (lc_row B hw hF hr hn hi hL hc hs K)
    | 1, _ => exact LV_tabI (off := 198) (tgt := 231) B dL_law_33 (by decide) (by decide) rfl (by decide) (lc_set B hw hF hr hn hi hL hc hs K)
    | 2, _ => exact LV_tabI (off := 241) (tgt := 274) B dL_law_33 (by decide) (by decide) rfl (by decide) (lc_copy B hw hF hr hn hi hL hc hs K)
    | 3, _ => exact LV_tabI (off := 304) (tgt := 337) B dL_law_33 (by decide) (by decide) rfl (by decide) (lc_drop B hw hF hr hn hi hL hc hs K)
    | 4, _ => exact LV_tabI (off := 327) (tgt := 360) B dL_law_33 (by decide) (by decide) rfl (by decide) (lc_feed B hw hF hr hn hi hL hc hs K)
    | 5, _ => exact LV_tabI (off := 350) (tgt := 383) B dL_law_33 (by decide) (by decide) rfl (by decide) (lc_flat B hw hF hr hn hi hL hc hs K)
    | 6, _ => exact LV_tabI (off := 363) (tgt := 396) B dL_law_33 (by decide) (by decide) rfl (by decide) (lc_fault B hw hF hr hn hi hL hc hs K)
    | 7, _ => exact LV_tabI (off := 376) (tgt := 409) B dL_law_33 (by decide) (by decide) rfl (by decide) (lc_undo B hw hF hr hn hi hL hc hs K)
    | 8, _ => exact LV_tabI (off := 389) (tgt := 422) B dL_law_33 (by decide) (by decide) rfl (by decide) (lc_tides B hw hF hr hn hi hL hc hs K)
    | 9, _ => exact LV_tabI (off := 412) (tgt := 445) B dL_law_33 (by decide) (by decide) rfl (by decide) (lc_rake B hw hF hr hn hi hL hc hs K)
    | 10, _ => exact LV_tabI (off := 445) (tgt := 478) B dL_law_33 (by decide) (by decide) rfl (by decide) (lc_rain B hw hF hr hn hi hL hc hs K)
    | 11, _ => exact LV_tabI (off := 478) (tgt := 511) B dL_law_33 (by decide) (by decide) rfl (by decide) (lc_veto B hw hF hr hn hi hL hc hs K)
    | 12, _ => exact LV_tabI (off := 511) (tgt := 544) B dL_law_33 (by decide) (by decide) rfl (by decide) (lc_stand B hw hF hr hn hi hL hc hs K)
    | 13, _ => exact LV_tabI (off := 544) (tgt := 577) B dL_law_33 (by decide) (by decide) rfl (by decide) (lc_bed B hw hF hr hn hi hL hc hs K)
    | 14, _ => exact LV_tabI (off := 577) (tgt := 610) B dL_law_33 (by decide) (by decide) rfl (by decide) (lc_board B hw hF hr hn hi hL hc hs K)
    | 15, _ => exact LV_tabI (off := 600) (tgt := 633) B dL_law_33 (by decide) (by decide) rfl (by decide) (lc_ahead B hw hF hr hn hi hL hc hs K)
    | 16, _ => exact LV_tabI (off := 643) (tgt := 676) B dL_law_33 (by decide) (by decide) rfl (by decide) (lc_tally B hw hF hr hn hi hL hc hs K)
    | 17, _ => exact LV_tabI (off := 676) (tgt := 709) B dL_law_33 (by decide) (by decide) rfl (by decide) (lc_when B hw hF hr hn hi hL hc hs K)
    | 18, _ => exact LV_tabI (off := 709) (tgt := 742) B dL_law_33 (by decide) (by decide) rfl (by decide) (lc_place B hw hF hr hn hi hL hc hs K)
    | 19, _ => exact LV_tabI (off := 742) (tgt := 775) B dL_law_33 (by decide) (by decide) rfl (by decide) (lc_rests B hw hF hr hn hi hL hc hs K)
    | 20, _ => exact LV_tabI (off := 765) (tgt := 798) B dL_law_33 (by decide) (by decide) rfl (by decide) (lc_rakes B hw hF hr hn hi hL hc hs K)
    | 21, _ => exact LV_tabI (off := 798) (tgt := 831) B dL_law_33 (by decide) (by decide) rfl (by decide) (lc_wards B hw hF hr hn hi hL hc hs K)
    | 22, _ => exact LV_tabI (off := 841) (tgt := 874) B dL_law_33 (by decide) (by decide) rfl (by decide) (lc_decide B hw hF hr hn hi hL hc hs K)
    | 23, _ => exact LV_tabI (off := 854) (tgt := 887) B dL_law_33 (by decide) (by decide) rfl (by decide) (lc_grown B hw hF hr hn hi hL hc hs K)
    | 24, _ => exact LV_tabI (off := 917) (tgt := 950) B dL_law_33 (by decide) (by decide) rfl (by decide) (lc_lain B hw hF hr hn hi hL hc hs K)
    | 25, _ => exact LV_tabI (off := 960) (tgt := 993) B dL_law_33 (by decide) (by decide) rfl (by decide) (lc_flood B hw hF hr hn hi hL hc hs K)
    | 26, _ => exact LV_tabI (off := 1004) (tgt := 1037) B dL_law_33 (by decide) (by decide) rfl (by decide) (lc_drawn B hw hF hr hn hi hL hc hs K)
    | 27, _ => exact LV_tabI (off := 1047) (tgt := 1080) B dL_law_33 (by decide) (by decide) rfl (by decide) (lc_image B hw hF hr hn hi hL hc hs K)
    | 28, _ => exact LV_tabI (off := 1070) (tgt := 1103) B dL_law_33 (by decide) (by decide) rfl (by decide) (lc_restore B hw hF hr hn hi hL hc hs K)
    | 29, _ => exact LV_tabI (off := 1093) (tgt := 1126) B dL_law_33 (by decide) (by decide) rfl (by decide) (lc_kind B hw hF hr hn hi hL hc hs K)
    | 30, _ => exact LV_tabI (off := 1116) (tgt := 1149) B dL_law_33 (by decide) (by decide) rfl (by decide) (lc_as B hw hF hr hn hi hL hc hs K)
    | 31, _ => exact LV_tabI (off := 1149) (tgt := 1182) B dL_law_33 (by decide) (by decide) rfl (by decide) (lc_ask B hw hF hr hn hi hL hc hs K)
    | 32, _ => exact LV_tabI (off := 1182) (tgt := 1215) B dL_law_33 (by decide) (by decide) rfl (by decide) (lc_trace B hw hF hr hn hi hL hc hs K)
    | 33, _ => exact LV_tabI (off := 1205) (tgt := 1238) B dL_law_33 (by decide) (by decide) rfl (by decide) (lc_count B hw hF hr hn hi hL hc hs K)
    | 34, _ => exact LV_tabI (off := 1228) (tgt := 1261) B dL_law_33 (by decide) (by decide) rfl (by decide) (lc_status B hw hF hr hn hi hL hc hs K)
    | j + 35, hj => omega
theorem sub6 {Ln i : Nat} (hL : Ln ≤ 3072) (hi : i ≤ Ln) : nI Ln - 6 < nI i ↔ Ln < i + 6 := by
  have e6 : (6 : Int32).toInt = 6 := rfl
  rw [toI_lt, Int32.toInt_sub, e6, nI_toInt (by omega), nI_toInt (by omega), Int.bmod_eq_of_le_mul_two (by omega) (by omega)]
  omega
theorem and63 {n i : Nat} (hi : i = 6 * n) : nI i + Int32.ofInt 6 = nI (6 * (n + 1)) := by
  rw [show Int32.ofInt 6 = nI 6 from rfl, nI_add, hi]
  rfl
set_option maxRecDepth 100000 in
set_option maxHeartbeats 4000000 in
/-- at the loop's head, n calls are behind -/
theorem lw_loop (B : lw_B p s m meth c b Ln xs G) (hL : Ln ≤ 3072) : ∀ (k n cells slots : Nat) (pr : Nat → Nat → Prop) (ad : Nat → Nat → Nat → Nat) (g : mm_g), Ln + 6 ≤ 6 * n + 6 * k → 6 * n ≤ Ln → mm_W pr → okF pr g → Rel n g → cells ≤ 40 + 120 * n → slots ≤ 2300 + 960 * n → LV p l e s m below meth c b G cells slots 18 [(0, .ref b), (1, .ref (ad 6 0 0)), (2, .ref (ad 7 0 0)), (3, .int (nI (6 * n)))] [] pr ad g := by
  intro k
  induction k with
  | zero => intro n cells slots pr ad g h1 h2; omega
  | succ k ih =>
    intro n cells slots pr ad g h1 h2 hw hF hr h3 h4
    refine LV_iload_n B dL_law_18 3 rfl ?_
    refine LV_aload_n B dL_law_19 0 rfl ?_
    refine LV_slen B dL_law_20 ?_
    refine LV_bipush (v := 6) B dL_law_21 (by decide) ?_
    refine LV_isub B dL_law_23 ?_
    refine LV_gt (tgt := 1280) B dL_law_24 (by decide) (fun q => ?_) (fun q => ?_)
    · refine LV_iconst (v := 1) B dL_law_1280 (by decide) ?_
      exact LV_ret B dL_law_1281 (by omega) (by omega)
    · have hi : 6 * n + 5 < Ln := by
        have q2 : ¬ nI Ln - 6 < nI (6 * n) := q
        rw [sub6 hL h2] at q2
        omega
      refine LV_aload_n B dL_law_27 0 rfl ?_
      refine LV_iload_n B dL_law_28 3 rfl ?_
      refine LV_sld B dL_law_29 (vp_in_nI (by omega) (by omega)) ?_
      refine LV_bipush (v := 63) B dL_law_30 (by decide) ?_
      refine LV_iand B dL_law_32 ?_
      refine lw_sw B hw hF hr (by omega) hi hL (by omega) (by omega) ?_
      intro pr2 ad2 g2 c2 s2 hw2 hF2 hr2 h5 h6
      refine LV_iinc (v := nI (6 * (n + 1))) B dL_law_1274 3 rfl (and63 rfl) (by decide) rfl ?_
      refine LV_goto (tgt := 18) B dL_law_1277 (by decide) ?_
      refine LV_lp [1, 2, 3, 0] rfl ?_
      exact ih (n + 1) c2 s2 pr2 ad2 g2 (by omega) (by omega) hw2 hF2 hr2 (by omega) (by omega)
end LOOP
