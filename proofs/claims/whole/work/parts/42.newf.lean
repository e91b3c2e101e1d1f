section NEWF
variable {l : Launch} {G : mm_G} {own : String} {cc : ByteArray} {nL : Nat} {ret : Option FieldType} {rm : Room} {Q0 : mm_T} {mc ms cells slots pc : Nat} {L : List (Nat × Value)} {S : List Value} {pr : Nat → Nat → Prop} {ad : Nat → Nat → Nat → Nat} {g : mm_g}
set_option maxHeartbeats 4000000 in
set_option maxRecDepth 100000 in
/-- a flat is made: new, dup, its constructor -/
theorem V_newF {k idx idx2 : Nat} (hk : ¬ pr 2 k) (hk0 : k ≠ 0) (hk1 : k ≠ 1) (h01 : ∀ i, ¬ g 0 1 i = 0 → 2 + i ≠ k) (h61 : ∀ i, ¬ g 6 1 i = 0 → 26 + i ≠ k) (hq1 : Cond.classLink own idx RX2 ∈ wsL_law) (hq2 : Cond.instantiable RX2 10 ∈ wsL_law) (hnm : (own, idx2, yX2_init) ∈ mm_nM) (hd1 : decode cc pc = .ok (.new idx, 3)) (hd2 : decode cc (pc + 3) = .ok (.dup, 1)) (hd3 : decode cc (pc + 4) = .ok (.invokespecial idx2, 3)) (hfr : 2 ≤ rm.frames ∧ 80 ≤ rm.locals) (hW : ((S.map fun v => v.category).sum) + 1 ≤ 8) (hc : cells + 5 ≤ rm.cells) (hs : slots + 40 ≤ rm.slots)
    (kk : ∀ (q u1 u2 u3 u4 : Nat), V l G own cc nL ret rm Q0 mc ms (cells + 5) (slots + 40) (pc + 7) L (.ref (adU ad k q u1 u2 u3 u4 2 k 0) :: S) (prU pr k) (adU ad k q u1 u2 u3 u4) (mw g 2 k (fun _ => 0))) : V l G own cc nL ret rm Q0 mc ms cells slots pc L S pr ad g := by
  intro p e s m args below meth c H locs A ls hC hR hS hl
  obtain ⟨Ls, f, hP, hD, hL, hJ⟩ := hR
  have hA := hC.2.2.2.2.2.2.2.2.2
  have hts := hC.2.2.2.2.2.2.1
  have hKK := hC.2.2.2.2.2.2.2.1
  have hown := hC.2.2.2.2.2.1
  refine va_new (ci := 2) (fs := [.int 0, .int 0, .int 0, .int 0, .int 0, .int 0, .null, .null, .null, .null]) (C := RX2) (T := TX2) (N := 10) hC.1 hC.2.1 hts inlX2 tyX2 tyX2_ok hown (hts _ hq1) (hts _ hq2) (hts _ hy_X2_init.2.2) hKK.1 hP hD hS hA rfl (fun j hj => by rcases (show j = 0 ∨ j = 1 ∨ j = 2 ∨ j = 3 ∨ j = 4 ∨ j = 5 ∨ j = 6 ∨ j = 7 ∨ j = 8 ∨ j = 9 by omega) with rfl | rfl | rfl | rfl | rfl | rfl | rfl | rfl | rfl | rfl <;> rfl) (Nat.le_trans (Nat.add_le_add_left (by decide) cells) hc) (Nat.le_trans (Nat.add_le_add_left (by decide) slots) hs) hd1 (fun q H2 hP hD hS => ?_)
  refine lv_dup hC.1 hC.2.1 hd2 rfl ?_
  have hP := va_P.swap (a := []) (b := va_pl Ls f) (c := [(q, .inr (2, [.int 0, .int 0, .int 0, .int 0, .int 0, .int 0, .null, .null, .null, .null]))]) hP
  have hD := va_D.swap (a := []) (b := va_pl Ls f) (c := [(q, .inr (2, [.int 0, .int 0, .int 0, .int 0, .int 0, .int 0, .null, .null, .null, .null]))]) hD
  have hP : va_P G.1 vwCl ([(q, .inr (2, [.int 0, .int 0, .int 0, .int 0, .int 0, .int 0, .null, .null, .null, .null]))] ++ va_pl Ls f) H2 := hP
  have hD : va_D A ([(q, .inr (2, [.int 0, .int 0, .int 0, .int 0, .int 0, .int 0, .null, .null, .null, .null]))] ++ va_pl Ls f) := hD
  have hPc : va_P G.1 vwCl [(q, .inr (2, [.int 0, .int 0, .int 0, .int 0, .int 0, .int 0, .null, .null, .null, .null]))] H2 := hP.sub [0] rfl
  have hDc : va_D A [(q, .inr (2, [.int 0, .int 0, .int 0, .int 0, .int 0, .int 0, .null, .null, .null, .null]))] := hD.sub [0] (by decide) rfl
  have hFc := va_free (wc := [(q, .inr (2, [.int 0, .int 0, .int 0, .int 0, .int 0, .int 0, .null, .null, .null, .null]))]) hD hS hA [0] rfl
  refine va_callv (va_runIN (cc := cc) (nL := nL) (own := own) (Ts := wsL_law) (As := []) (rest := .ref q :: S) ⟨hC.1, hC.2.1, hC.2.2.1, hown, hts⟩ (c_X2_init l G q H2.size) ⟨va_cnB 0 hts (mm_gc hy_X2_init.2.1) rfl rfl rfl (hKK.2.2 _ hnm) (hts _ hy_X2_init.2.2) hy_X2_init.1 ⟨hfr.1, hfr.2⟩, rfl, hts _ hi_X2_init⟩ ⟨fun a U g2 mk q2 => ⟨q2.1, q2.2.1, q2.2.2.1, q2.2.2.2.1.same (u := U) (U := U.calling g2 mk a) rfl, q2.2.2.2.2⟩, fun U hU hW2 => ⟨rfl, by rw [hU], by rw [hU]; exact hPc, hKK.warm hW2, hDc.weaken (fun _ _ _ _ => trivial)⟩⟩ rfl rfl hl.1 rfl (lv_room (by show (1 + (S.map fun v => v.category).sum) ≤ 8; omega)) hd3 ⟨by show cells + 1 + 4 ≤ rm.cells; omega, by show slots + 10 + 30 ≤ rm.slots; omega⟩) hS (fun x _ h => hFc x h) hFc (fun u t H1 locs ht hvm hw hB hz1 hk2 hS => ?_)
  obtain ⟨u1, u2, u3, u4⟩ := u
  obtain ⟨hP1, hD1⟩ := hB
  rw [ht] at hP1
  obtain ⟨hP, hD⟩ := va_joinQ (wr := []) (w1 := at_X2 G q (u1, u2, u3, u4)) hP hD [0] [] rfl rfl rfl (by simp) hk2 hFc hP1 hD1
  have hP := va_P.swap (a := []) (b := at_X2 G q (u1, u2, u3, u4)) (c := va_pl Ls f) hP
  have hD := va_D.swap (a := []) (b := at_X2 G q (u1, u2, u3, u4)) (c := va_pl Ls f) hD
  have hR2 := mm_grow (A := A) hk hk0 hk1 h01 h61 hP hD hL hJ
  have K := kk q u1 u2 u3 u4 p e s m args below meth c H1 locs A ls hC hR2 hS hl
  rw [adU_0] at K
  exact K
end NEWF
