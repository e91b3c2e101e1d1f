def F_X0_keep_46 (g : mm_g) (k k2 : Nat) : mm_g := (wr (wr (F_X2_become g k k2) 0 0 0 ((((F_X2_become g k k2) 0 0 0) + 1) - (((F_X2_become g k k2) 0 0 0) + 1) / 24 * 24)) 0 0 1 (if (((wr (F_X2_become g k k2) 0 0 0 ((((F_X2_become g k k2) 0 0 0) + 1) - (((F_X2_become g k k2) 0 0 0) + 1) / 24 * 24)) 0 0 1) + 1) < 24 then (((wr (F_X2_become g k k2) 0 0 0 ((((F_X2_become g k k2) 0 0 0) + 1) - (((F_X2_become g k k2) 0 0 0) + 1) / 24 * 24)) 0 0 1) + 1) else 24))
set_option maxRecDepth 100000 in
set_option maxHeartbeats 4000000 in
theorem w_X0_keep_46 {l : Launch} {G : mm_G} {pr : Nat → Nat → Prop} {ad : Nat → Nat → Nat → Nat} {g : mm_g} {k k2 : Nat} {Q0 : mm_T} (hw : mm_W pr) (hk : pr 2 k) (hk2 : pr 2 k2) (hQ : Q0 none pr ad (F_X0_keep_46 g k k2)) : V l G RX0 cX0_keep 3 none ({ frames := 3, cells := 5, slots := 40, locals := 110 }) Q0 5 40 5 40 46 [(2, .ref (ad 2 k 0)), (0, .ref (ad 0 0 0)), (1, .ref (ad 2 k2 0))] [] pr ad g := by
  refine V_aload_n dX0_keep_46 0 rfl ?_
  refine V_aload_n dX0_keep_47 2 rfl ?_
  refine V_cV (k_X2_become l G hw g hk hk2  ) hy_X2_become hi_X2_become hs_X2_become q_362 rfl rfl hk rfl rfl rfl rfl rfl ⟨by decide, by decide⟩ (Nat.le_of_ble_eq_true rfl) ⟨by decide, by decide⟩ dX0_keep_48 (V_kN ?_)
  refine V_aload_n dX0_keep_51 1 rfl ?_
  refine V_aload_n dX0_keep_52 1 rfl ?_
  refine V_get (i := 1) inlX0 rfl (W_0 hw) rfl (by decide) q_72 rfl dX0_keep_53 ?_
  refine V_iconst (v := 1) dX0_keep_56 (by decide) ?_
  refine V_iadd dX0_keep_57 ?_
  refine V_bipush (v := 24) dX0_keep_58 (by decide) ?_
  refine V_irem dX0_keep_60 (by decide) ?_
  refine P_0_1 (W_0 hw) q_72 dX0_keep_61 ?_
  refine V_aload_n dX0_keep_64 1 rfl ?_
  refine V_bipush (v := 24) dX0_keep_65 (by decide) ?_
  refine V_aload_n dX0_keep_67 1 rfl ?_
  refine V_get (i := 2) inlX0 rfl (W_0 hw) rfl (by decide) q_73 rfl dX0_keep_68 ?_
  refine V_iconst (v := 1) dX0_keep_71 (by decide) ?_
  refine V_iadd dX0_keep_72 ?_
  refine V_mmin q_384 q_385 q_386 q_387 (by decide) (Nat.le_of_ble_eq_true rfl) (by decide) (by decide) dX0_keep_73 ?_
  refine P_0_2 (W_0 hw) q_73 dX0_keep_76 ?_
  exact V_vret dX0_keep_79 rfl hQ
theorem wr_fl {g : mm_g} {ad : Nat → Nat → Nat → Nat} {i : Nat} : (fun j => if (wr g 0 1 i 1) 0 1 j = 0 then none else some (ad 2 (2 + j) 0)) = va_up (fun j => if g 0 1 j = 0 then none else some (ad 2 (2 + j) 0)) i (some (ad 2 (2 + i) 0)) := by
  funext j
  simp only [wr_key, upd, va_up]
  by_cases h : j = i
  · subst h
    rw [if_pos rfl, if_pos rfl, if_neg (by decide)]
  · rw [if_neg h, if_neg h]
theorem wr_fm {g : mm_g} {ad : Nat → Nat → Nat → Nat} {i : Nat} : (fun j => if (wr g 6 1 i 1) 6 1 j = 0 then none else some (ad 2 (26 + j) 0)) = va_up (fun j => if g 6 1 j = 0 then none else some (ad 2 (26 + j) 0)) i (some (ad 2 (26 + i) 0)) := by
  funext j
  simp only [wr_key, upd, va_up]
  by_cases h : j = i
  · subst h
    rw [if_pos rfl, if_pos rfl, if_neg (by decide)]
  · rw [if_neg h, if_neg h]
section ASR
variable {l : Launch} {G : mm_G} {own : String} {cc : ByteArray} {nL : Nat} {ret : Option FieldType} {rm : Room} {Q0 : mm_T} {mc ms cells slots pc : Nat} {L : List (Nat × Value)} {S : List Value} {pr : Nat → Nat → Prop} {ad : Nat → Nat → Nat → Nat} {g : mm_g}
theorem AS_0 {x : Int32} {k : Nat} (hk : k = 2 + x.toNatClampNeg) (hp : pr 0 0) (hp2 : pr 2 k) (hin : vp_in x 24) (hdg : decode cc pc = .ok (.aastore, 1)) (kk : V l G own cc nL ret rm Q0 mc ms cells slots (pc + 1) L S pr ad (wr g 0 1 x.toNatClampNeg 1)) : V l G own cc nL ret rm Q0 mc ms cells slots pc L (.ref (ad 2 k 0) :: .int x :: .ref (ad 0 0 1) :: S) pr ad g := by
  subst hk
  refine V_ast (t2 := 0) (g' := wr g 0 1 x.toNatClampNeg 1) hp rfl rfl hp2 rfl hin ?_ (mm_ho (by decide) _) hdg kk
  show some (Sum.inl (_, _, Sum.inr (Sum.inr (Sum.inr (Sum.inr _))))) = _
  rw [wr_fl]
theorem AS_6 {x : Int32} {k : Nat} (hk : k = 26 + x.toNatClampNeg) (hp : pr 6 0) (hp2 : pr 2 k) (hin : vp_in x 2) (hdg : decode cc pc = .ok (.aastore, 1)) (kk : V l G own cc nL ret rm Q0 mc ms cells slots (pc + 1) L S pr ad (wr g 6 1 x.toNatClampNeg 1)) : V l G own cc nL ret rm Q0 mc ms cells slots pc L (.ref (ad 2 k 0) :: .int x :: .ref (ad 6 0 1) :: S) pr ad g := by
  subst hk
  refine V_ast (t2 := 0) (g' := wr g 6 1 x.toNatClampNeg 1) hp rfl rfl hp2 rfl hin ?_ (mm_ho (by decide) _) hdg kk
  show some (Sum.inl (_, _, Sum.inr (Sum.inr (Sum.inr (Sum.inr _))))) = _
  rw [wr_fm]
end ASR
set_option maxRecDepth 100000 in
set_option maxHeartbeats 4000000 in
theorem w_X0_keep_36 {l : Launch} {G : mm_G} {pr : Nat → Nat → Prop} {ad : Nat → Nat → Nat → Nat} {g : mm_g} {k k2 : Nat} {Q0 : mm_T} (hw : mm_W pr) (hk : pr 2 k) (hk2 : pr 2 k2) (he : k = 2 + (g 0 0 0).toNatClampNeg) (hin : vp_in (g 0 0 0) 24) (hQ : Q0 none pr ad (F_X0_keep_46 (wr g 0 1 (g 0 0 0).toNatClampNeg 1) k k2)) : V l G RX0 cX0_keep 3 none ({ frames := 3, cells := 5, slots := 40, locals := 110 }) Q0 5 40 5 40 36 [(2, .ref (ad 2 k 0)), (0, .ref (ad 0 0 0)), (1, .ref (ad 2 k2 0))] [] pr ad g := by
  refine V_aload_n dX0_keep_36 1 rfl ?_
  refine V_get (i := 0) inlX0 rfl (W_0 hw) rfl (by decide) q_71 rfl dX0_keep_37 ?_
  refine V_aload_n dX0_keep_40 1 rfl ?_
  refine V_get (i := 1) inlX0 rfl (W_0 hw) rfl (by decide) q_72 rfl dX0_keep_41 ?_
  refine V_aload_n dX0_keep_44 0 rfl ?_
  refine AS_0 he (W_0 hw) hk hin dX0_keep_45 ?_
  exact w_X0_keep_46 hw hk hk2 hQ
def mm_x (pr : Nat → Nat → Prop) (ad : Nat → Nat → Nat → Nat) (pr2 : Nat → Nat → Prop) (ad2 : Nat → Nat → Nat → Nat) : Prop := (∀ t k, pr t k → pr2 t k) ∧ ∀ t k c, pr t k → ad2 t k c = ad t k c
def okF (pr : Nat → Nat → Prop) (g : mm_g) : Prop := (∀ i, ¬ g 0 1 i = 0 → i < 24 ∧ pr 2 (2 + i)) ∧ (∀ i, i < 24 → g 0 1 i = 0 → ¬ pr 2 (2 + i)) ∧ (∀ i, ¬ g 6 1 i = 0 → i < 2 ∧ pr 2 (26 + i)) ∧ (∀ i, i < 2 → g 6 1 i = 0 → ¬ pr 2 (26 + i))
def qE (pr : Nat → Nat → Prop) (ad : Nat → Nat → Nat → Nat) (R : mm_g) : mm_T := fun r pr2 ad2 g2 => r = none ∧ g2 = R ∧ mm_x pr ad pr2 ad2 ∧ okF pr2 g2
def F_X0_keep (g : mm_g) (k2 : Nat) : mm_g := if F_X6_within (g 0 0 0) 0 23 = 0 then g else if g 0 1 (g 0 0 0).toNatClampNeg = 0 then F_X0_keep_46 (wr (mw g 2 (2 + (g 0 0 0).toNatClampNeg) (fun _ => 0)) 0 1 (g 0 0 0).toNatClampNeg 1) (2 + (g 0 0 0).toNatClampNeg) k2 else F_X0_keep_46 g (2 + (g 0 0 0).toNatClampNeg) k2
theorem mm_x0 {pr : Nat → Nat → Prop} {ad : Nat → Nat → Nat → Nat} : mm_x pr ad pr ad := ⟨fun _ _ h => h, fun _ _ _ _ => rfl⟩
theorem mm_xU {pr : Nat → Nat → Prop} {ad : Nat → Nat → Nat → Nat} {k q u1 u2 u3 u4 : Nat} (hk : ¬ pr 2 k) : mm_x pr ad (prU pr k) (adU ad k q u1 u2 u3 u4) := ⟨fun _ _ h => Or.inl h, fun t k2 c h => adU_n (fun z => hk (by rw [← z.1, ← z.2]; exact h))⟩
theorem mm_xW {pr pr2 : Nat → Nat → Prop} {ad ad2 : Nat → Nat → Nat → Nat} (h : mm_x pr ad pr2 ad2) (hw : mm_W pr) : mm_W pr2 := ⟨h.1 _ _ (W_0 hw), h.1 _ _ (W_1 hw), h.1 _ _ (W_20 hw), h.1 _ _ (W_21 hw), h.1 _ _ (W_3 hw), h.1 _ _ (W_4 hw), h.1 _ _ (W_5 hw), h.1 _ _ (W_6 hw), h.1 _ _ (W_7 hw)⟩
theorem become_k {g : mm_g} {k k2 t c : Nat} (ht : t ≠ 2) : (F_X2_become g k k2) t c = g t c := by
  unfold F_X2_become
  funext j
  simp only [cpF_at, wr_at, ht, false_and, if_false]
theorem keep_46k {g : mm_g} {k k2 t c : Nat} (ht : t ≠ 2) (hc : ¬ (t = 0 ∧ c = 0)) : (F_X0_keep_46 g k k2) t c = g t c := by
  unfold F_X0_keep_46
  rw [wr_ne _ _ _ hc, wr_ne _ _ _ hc, become_k ht]
set_option maxRecDepth 100000 in
set_option maxHeartbeats 4000000 in
theorem k_X0_keep (l : Launch) (G : mm_G) {pr : Nat → Nat → Prop} {ad : Nat → Nat → Nat → Nat} (hw : mm_W pr) (g : mm_g) {k2 : Nat} (hk2 : pr 2 k2) (hF : okF pr g) : Mt l G yX0_keep cX0_keep 3 none ({ frames := 3, cells := 5, slots := 40, locals := 110 }) [.ref (ad 0 0 0), .ref (ad 2 k2 0)] pr ad g (qE pr ad (F_X0_keep g k2)) 5 40 := by
  refine Mt_of (by decide) (Nat.le_of_ble_eq_true rfl) ?_
  show V l G RX0 cX0_keep 3 none _ _ 5 40 0 0 0 [(0, .ref (ad 0 0 0)), (1, .ref (ad 2 k2 0))] [] pr ad g
  refine V_aload_n dX0_keep_0 0 rfl ?_
  refine V_get (i := 1) inlX0 rfl (W_0 hw) rfl (by decide) q_72 rfl dX0_keep_1 ?_
  refine V_iconst (v := 0) dX0_keep_4 (by decide) ?_
  refine V_bipush (v := 23) dX0_keep_5 (by decide) ?_
  refine V_cSN (k_X6_within l G hw g (g 0 0 0) 0 23) hy_X6_within hz_X6_within nm_X0_24 rfl rfl rfl rfl ⟨by decide, by decide⟩ (Nat.le_of_ble_eq_true rfl) ⟨by decide, by decide⟩ dX0_keep_7 (V_kI ?_)
  refine V_if_ne (tgt := 14) dX0_keep_10 (by decide) (fun c_10 => ?_) (fun c_10 => ?_)
  · have hin := ix_w23 c_10
    have hlt := vp_lt hin
    refine V_aload_n dX0_keep_14 0 rfl ?_
    refine V_get (i := 0) inlX0 rfl (W_0 hw) rfl (by decide) q_71 rfl dX0_keep_15 ?_
    refine V_aload_n dX0_keep_18 0 rfl ?_
    refine V_get (i := 1) inlX0 rfl (W_0 hw) rfl (by decide) q_72 rfl dX0_keep_19 ?_
    by_cases o_22 : g 0 1 (g 0 0 0).toNatClampNeg = 0
    · have hk : ¬ pr 2 (2 + (g 0 0 0).toNatClampNeg) := hF.2.1 _ hlt o_22
      refine A_0_N (W_0 hw) hin o_22 dX0_keep_22 ?_
      refine V_astN (L2 := [(2, .null), (0, .ref (ad 0 0 0)), (1, .ref (ad 2 k2 0))]) dX0_keep_23 (by decide) rfl ?_
      refine V_aldN dX0_keep_24 0 rfl ?_
      refine V_nnN dX0_keep_25 ?_
      refine V_newF (k := 2 + (g 0 0 0).toNatClampNeg) hk (by omega) (fun z => by omega) (fun i hi z => by rw [show i = (g 0 0 0).toNatClampNeg by omega] at hi; exact hi o_22) (fun i hi z => by omega) q_70 q_21 nm_X0_28 dX0_keep_28 dX0_keep_31 dX0_keep_32 ⟨by decide, by decide⟩ (Nat.le_of_ble_eq_true rfl) (by decide) (by decide) (fun q u1 u2 u3 u4 => ?_)
      have hx := mm_xU (pr := pr) (ad := ad) (q := q) (u1 := u1) (u2 := u2) (u3 := u3) (u4 := u4) hk
      have e0 : ad 0 0 0 = adU ad (2 + (g 0 0 0).toNatClampNeg) q u1 u2 u3 u4 0 0 0 := (hx.2 _ _ _ (W_0 hw)).symm
      have e2 : ad 2 k2 0 = adU ad (2 + (g 0 0 0).toNatClampNeg) q u1 u2 u3 u4 2 k2 0 := (hx.2 _ _ _ hk2).symm
      rw [e0, e2]
      have hnx : (mw g 2 (2 + (g 0 0 0).toNatClampNeg) (fun _ => 0)) 0 0 0 = g 0 0 0 := by rw [mw_n _ _ (fun z => absurd z.1 (by decide))]
      refine V_astore_n (L2 := [(2, .ref (adU ad (2 + (g 0 0 0).toNatClampNeg) q u1 u2 u3 u4 2 (2 + (g 0 0 0).toNatClampNeg) 0)), (0, .ref (adU ad (2 + (g 0 0 0).toNatClampNeg) q u1 u2 u3 u4 0 0 0)), (1, .ref (adU ad (2 + (g 0 0 0).toNatClampNeg) q u1 u2 u3 u4 2 k2 0))]) dX0_keep_35 (by decide) rfl ?_
      refine w_X0_keep_36 (mm_xW hx hw) (Or.inr ⟨rfl, rfl⟩) (hx.1 _ _ hk2) (by rw [hnx]) (by rw [hnx]; exact hin) ?_
      refine ⟨rfl, ?_, hx, ?_⟩
      · rw [hnx]
        simp only [F_X0_keep, if_neg c_10, if_pos o_22]
      · unfold okF
        rw [hnx, keep_46k (by decide) (by decide), keep_46k (by decide) (by decide), wr_key, wr_ne (t' := 6) _ _ _ (by decide), mw_n (t' := 0) _ _ (fun z => absurd z.1 (by decide)), mw_n (t' := 6) _ _ (fun z => absurd z.1 (by decide))]
        refine ⟨fun j hj => ?_, fun j hlj hj hp => ?_, fun j hj => ?_, fun j hlj hj hp => ?_⟩
        · by_cases e : j = (g 0 0 0).toNatClampNeg
          · exact ⟨by omega, Or.inr ⟨rfl, by omega⟩⟩
          · rw [upd, if_neg e] at hj
            exact ⟨(hF.1 j hj).1, Or.inl (hF.1 j hj).2⟩
        · by_cases e : j = (g 0 0 0).toNatClampNeg
          · rw [upd, if_pos e] at hj
            exact absurd hj (by decide)
          · rw [upd, if_neg e] at hj
            rcases hp with hp | hp
            · exact hF.2.1 j hlj hj hp
            · omega
        · exact ⟨(hF.2.2.1 j hj).1, Or.inl (hF.2.2.1 j hj).2⟩
        · rcases hp with hp | hp
          · exact hF.2.2.2 j hlj hj hp
          · omega
    · refine A_0_R (W_0 hw) hin o_22 dX0_keep_22 ?_
      refine V_astore_n (L2 := [(2, .ref (ad 2 (2 + (g 0 0 0).toNatClampNeg) 0)), (0, .ref (ad 0 0 0)), (1, .ref (ad 2 k2 0))]) dX0_keep_23 (by decide) rfl ?_
      refine V_aload_n dX0_keep_24 0 rfl ?_
      refine V_nnR (tgt := 46) dX0_keep_25 (by decide) ?_
      refine V_wi (c2 := 5) (s2 := 40) (by decide) (by decide) ?_
      refine w_X0_keep_46 hw (hF.1 _ o_22).2 hk2 ?_
      refine ⟨rfl, ?_, mm_x0, ?_⟩
      · simp only [F_X0_keep, if_neg c_10, if_neg o_22]
      · unfold okF
        rw [keep_46k (by decide) (by decide), keep_46k (by decide) (by decide)]
        exact hF
  · refine V_wi (c2 := 5) (s2 := 40) (by decide) (by decide) ?_
    exact V_vret dX0_keep_13 rfl ⟨rfl, by simp only [F_X0_keep, if_pos c_10], mm_x0, hF⟩
