def mz (j : Nat) : Nat → Int32 := fun i => if i < j then -1 else 0
theorem mz_0 : mz 0 = fun _ => 0 := by funext i; simp [mz]
theorem mz_up (j : Nat) : mz (j + 1) = upd (mz j) j (-1) := by
  funext i
  simp only [mz, upd]
  by_cases h : i = j
  · subst h
    simp
  · by_cases h1 : i < j
    · rw [if_pos (by omega), if_neg h, if_pos h1]
    · rw [if_neg (by omega), if_neg h, if_neg h1]
def at_X4 (G : mm_G) (h0 : Nat) (u : Nat × Nat × Nat) : va_W := match u with | (q8, q16, q24) => [(h0, .inr (4, [.ref q8, .ref q16, .ref q24])), (q8, .inl (G.2.1, 320, .inl (fun _ => 0))), (q16, .inl (G.2.1, 8, .inl (fun _ => 0))), (q24, .inl (G.2.1, 8, .inl (mz 8)))]
set_option maxHeartbeats 4000000 in
set_option maxRecDepth 100000 in
theorem c_X4_init (l : Launch) (G : mm_G) (h0 sz : Nat) : Met l yX4_init (.code yX4_init cX4_init 2 none :: wsL_law) ({ frames := 1, cells := 3, slots := 336, locals := 60 }) (va_Pc [.ref h0] (fun U => U.heap.size = sz ∧ va_P G.1 vwCl [(h0, .inr (4, [.null, .null, .null]))] U.heap ∧ mm_K G U ∧ va_D (fun _ => True) [(h0, .inr (4, [.null, .null, .null]))])) (va_Qv (fun _ : Nat × Nat × Nat => True) (fun u t => va_P G.1 vwCl (at_X4 G h0 u) t.heap ∧ va_D (va_A [(h0, .inr (4, [.null, .null, .null]))] sz) (at_X4 G h0 u)) (va_A [(h0, .inr (4, [.null, .null, .null]))] sz)) 3 336 (va_A [(h0, .inr (4, [.null, .null, .null]))] sz) := by
  refine Met.ofW (cc := cX4_init) (maxL := 2) (ret := none) (by decide) rfl ?_
  intro p e s m args below meth c s₁ B hml hv
  obtain ⟨rfl, hsz, hP, hKK, hD0⟩ := hv
  have hx := B.exec
  have hb := B.bytes
  have hr := B.returns
  have hts0 := atoms_spec (ws := .code yX4_init cX4_init 2 none :: wsL_law) B.pre
  have hts := fun (w : Cond) (hw : w ∈ wsL_law) => hts0 w (List.mem_cons_of_mem _ hw)
  have hown : s.vm.findClass RX4 = some m.cls := findClass_of_methodNamed B.named
  have hlocks := B.notSynchronized
  have hin : meth.name = "<init>" := (name_of_methodNamed B.named B.method).1
  subst hsz
  have hD := hD0.self (sz := s.heap.size)
  generalize hAe : va_A [(h0, .inr (4, [.null, .null, .null]))] s.heap.size = A at hD ⊢
  have hA : ∀ q : Nat, s.heap.size ≤ q → A q := fun q h => by rw [← hAe]; exact Or.inr h
  have hS : va_S A s.heap s.heap [] := va_S.rf
  have hK := hKK.1
  have hl := lv_entry ([.ref h0]) (n := 2) (Nat.le_of_ble_eq_true rfl)
  rw [lg_entry_eq]
  generalize (lg_sl ([.ref h0]) ++ List.replicate (2 - (lg_sl ([.ref h0])).length) Slot.unset).toArray = ls at hl ⊢
  have hl : lv_has ls 2 [(0, .ref h0)] := hl
  refine lv_aload_n hx hb dX4_init_0 rfl (lv_at hl 0 rfl) ?_
  refine W.objInit hx hb hown (hts _ q_42) (hts _ q_10) (hts _ q_11) rfl (by rw [hml]; exact hl.1) rfl dX4_init_1 (Nat.le_of_ble_eq_true rfl) (Nat.le_of_ble_eq_true rfl) ?_
  refine W.eq (g2 := F0 m 4 ls []) rfl ?_
  refine lv_aload_n hx hb dX4_init_4 rfl (lv_at hl 0 rfl) ?_
  refine lv_sipush (v := 320) hx hb dX4_init_5 (by decide) ?_
  refine va_newa (atype := .int) (ty := .int) (a0 := (320, .inl (fun _ => 0))) (N' := 320) hx hb (hts _ q_43) rfl hK hP hD hS hA (fun cA => rfl) (by decide) (by decide) (by decide) (Nat.le_of_ble_eq_true rfl) (Nat.le_of_ble_eq_true rfl) dX4_init_8 (fun q8 cA H hK2 hP hD hS => ?_)
  have eA := arr_I hK2
  subst eA
  have hP : va_P G.1 vwCl [(h0, .inr (4, [.null, .null, .null])), (q8, .inl (G.2.1, 320, .inl (fun _ => 0)))] H := hP
  have hD : va_D A [(h0, .inr (4, [.null, .null, .null])), (q8, .inl (G.2.1, 320, .inl (fun _ => 0)))] := hD
  refine va_putF (ci := 4) (v := .ref q8) (ty := .array .int) (C := RX4) (T := TX4) (N := 3) hx hb hts inlX4 tyX4 tyX4_ok nmX4 hown hK hP hD hS 0 rfl rfl 0 (by decide) (hts _ q_44) (fun _ h9 => h9) rfl hin rfl (by decide +kernel) rfl rfl (Nat.le_of_ble_eq_true rfl) dX4_init_10 (fun H locs hP hD hS => ?_)
  have hP : va_P G.1 vwCl [(h0, .inr (4, [.ref q8, .null, .null])), (q8, .inl (G.2.1, 320, .inl (fun _ => 0)))] H := hP
  have hD : va_D A [(h0, .inr (4, [.ref q8, .null, .null])), (q8, .inl (G.2.1, 320, .inl (fun _ => 0)))] := hD
  refine lv_aload_n hx hb dX4_init_13 rfl (lv_at hl 0 rfl) ?_
  refine lv_bipush (v := 8) hx hb dX4_init_14 (by decide) ?_
  refine va_newa (atype := .int) (ty := .int) (a0 := (8, .inl (fun _ => 0))) (N' := 8) hx hb (hts _ q_43) rfl hK hP hD hS hA (fun cA => rfl) (by decide) (by decide) (by decide) (Nat.le_of_ble_eq_true rfl) (Nat.le_of_ble_eq_true rfl) dX4_init_16 (fun q16 cA H hK2 hP hD hS => ?_)
  have eA := arr_I hK2
  subst eA
  have hP : va_P G.1 vwCl [(h0, .inr (4, [.ref q8, .null, .null])), (q8, .inl (G.2.1, 320, .inl (fun _ => 0))), (q16, .inl (G.2.1, 8, .inl (fun _ => 0)))] H := hP
  have hD : va_D A [(h0, .inr (4, [.ref q8, .null, .null])), (q8, .inl (G.2.1, 320, .inl (fun _ => 0))), (q16, .inl (G.2.1, 8, .inl (fun _ => 0)))] := hD
  refine va_putF (ci := 4) (v := .ref q16) (ty := .array .int) (C := RX4) (T := TX4) (N := 3) hx hb hts inlX4 tyX4 tyX4_ok nmX4 hown hK hP hD hS 0 rfl rfl 1 (by decide) (hts _ q_45) (fun _ h9 => h9) rfl hin rfl (by decide +kernel) rfl rfl (Nat.le_of_ble_eq_true rfl) dX4_init_18 (fun H locs hP hD hS => ?_)
  have hP : va_P G.1 vwCl [(h0, .inr (4, [.ref q8, .ref q16, .null])), (q8, .inl (G.2.1, 320, .inl (fun _ => 0))), (q16, .inl (G.2.1, 8, .inl (fun _ => 0)))] H := hP
  have hD : va_D A [(h0, .inr (4, [.ref q8, .ref q16, .null])), (q8, .inl (G.2.1, 320, .inl (fun _ => 0))), (q16, .inl (G.2.1, 8, .inl (fun _ => 0)))] := hD
  refine lv_aload_n hx hb dX4_init_21 rfl (lv_at hl 0 rfl) ?_
  refine lv_bipush (v := 8) hx hb dX4_init_22 (by decide) ?_
  refine va_newa (atype := .int) (ty := .int) (a0 := (8, .inl (fun _ => 0))) (N' := 8) hx hb (hts _ q_43) rfl hK hP hD hS hA (fun cA => rfl) (by decide) (by decide) (by decide) (Nat.le_of_ble_eq_true rfl) (Nat.le_of_ble_eq_true rfl) dX4_init_24 (fun q24 cA H hK2 hP hD hS => ?_)
  have eA := arr_I hK2
  subst eA
  have hP : va_P G.1 vwCl [(h0, .inr (4, [.ref q8, .ref q16, .null])), (q8, .inl (G.2.1, 320, .inl (fun _ => 0))), (q16, .inl (G.2.1, 8, .inl (fun _ => 0))), (q24, .inl (G.2.1, 8, .inl (fun _ => 0)))] H := hP
  have hD : va_D A [(h0, .inr (4, [.ref q8, .ref q16, .null])), (q8, .inl (G.2.1, 320, .inl (fun _ => 0))), (q16, .inl (G.2.1, 8, .inl (fun _ => 0))), (q24, .inl (G.2.1, 8, .inl (fun _ => 0)))] := hD
  refine va_putF (ci := 4) (v := .ref q24) (ty := .array .int) (C := RX4) (T := TX4) (N := 3) hx hb hts inlX4 tyX4 tyX4_ok nmX4 hown hK hP hD hS 0 rfl rfl 2 (by decide) (hts _ q_46) (fun _ h9 => h9) rfl hin rfl (by decide +kernel) rfl rfl (Nat.le_of_ble_eq_true rfl) dX4_init_26 (fun H locs hP hD hS => ?_)
  have hP : va_P G.1 vwCl [(h0, .inr (4, [.ref q8, .ref q16, .ref q24])), (q8, .inl (G.2.1, 320, .inl (fun _ => 0))), (q16, .inl (G.2.1, 8, .inl (fun _ => 0))), (q24, .inl (G.2.1, 8, .inl (fun _ => 0)))] H := hP
  have hD : va_D A [(h0, .inr (4, [.ref q8, .ref q16, .ref q24])), (q8, .inl (G.2.1, 320, .inl (fun _ => 0))), (q16, .inl (G.2.1, 8, .inl (fun _ => 0))), (q24, .inl (G.2.1, 8, .inl (fun _ => 0)))] := hD
  refine lv_iconst (v := 0) hx hb dX4_init_29 (by decide) ?_
  refine lv_istore_n (nL := 2) (lv' := [(1, .int 0), (0, .ref h0)]) hx hb dX4_init_30 rfl hl (by decide) rfl (fun ls hl => ?_)
  have hP : va_P G.1 vwCl [(h0, .inr (4, [.ref q8, .ref q16, .ref q24])), (q8, .inl (G.2.1, 320, .inl (fun _ => 0))), (q16, .inl (G.2.1, 8, .inl (fun _ => 0))), (q24, .inl (G.2.1, 8, .inl (mz 0)))] H := by rw [mz_0]; exact hP
  have hD : va_D A [(h0, .inr (4, [.ref q8, .ref q16, .ref q24])), (q8, .inl (G.2.1, 320, .inl (fun _ => 0))), (q16, .inl (G.2.1, 8, .inl (fun _ => 0))), (q24, .inl (G.2.1, 8, .inl (mz 0)))] := by rw [mz_0]; exact hD
  refine lv_iload_n hx hb dX4_init_31 rfl (lv_at hl 0 rfl) ?_
  refine lv_bipush (v := 8) hx hb dX4_init_32 (by decide) ?_
  refine lv_icmp_ge hx hb dX4_init_34 (tgt := 50) (by decide) (fun h9 => absurd h9 (by decide)) (fun _ => ?_)
  refine lv_aload_n hx hb dX4_init_37 rfl (lv_at hl 1 rfl) ?_
  refine va_get (ci := 4) (v := .ref q24) (C := RX4) (T := TX4) (N := 3) hx hb hts inlX4 hown hK hP 0 rfl rfl 2 (by decide) (hts _ q_46) (fun _ h9 => h9) rfl dX4_init_38 ?_
  refine lv_iload_n hx hb dX4_init_41 rfl (lv_at hl 0 rfl) ?_
  refine lv_iconst (v := -1) hx hb dX4_init_42 (by decide) ?_
  refine va_iast (n := 8) (f := mz 0) (i := 0) hx hb hK hP hD hS 3 0 rfl rfl (by unfold vp_in; decide) dX4_init_43 (fun H locs hP hD hS => ?_)
  have hP : va_P G.1 vwCl [(h0, .inr (4, [.ref q8, .ref q16, .ref q24])), (q8, .inl (G.2.1, 320, .inl (fun _ => 0))), (q16, .inl (G.2.1, 8, .inl (fun _ => 0))), (q24, .inl (G.2.1, 8, .inl (mz 1)))] H := by rw [mz_up 0]; exact hP
  have hD : va_D A [(h0, .inr (4, [.ref q8, .ref q16, .ref q24])), (q8, .inl (G.2.1, 320, .inl (fun _ => 0))), (q16, .inl (G.2.1, 8, .inl (fun _ => 0))), (q24, .inl (G.2.1, 8, .inl (mz 1)))] := by rw [mz_up 0]; exact hD
  refine lv_iinc (nL := 2) (v := 1) (lv' := [(1, .int 1), (0, .ref h0)]) hx hb dX4_init_44 hl (k := 0) rfl (by decide) (by decide) rfl (fun ls hl => ?_)
  refine lv_goto hx hb dX4_init_47 (tgt := 31) (by decide) ?_
  refine lv_iload_n hx hb dX4_init_31 rfl (lv_at hl 0 rfl) ?_
  refine lv_bipush (v := 8) hx hb dX4_init_32 (by decide) ?_
  refine lv_icmp_ge hx hb dX4_init_34 (tgt := 50) (by decide) (fun h9 => absurd h9 (by decide)) (fun _ => ?_)
  refine lv_aload_n hx hb dX4_init_37 rfl (lv_at hl 1 rfl) ?_
  refine va_get (ci := 4) (v := .ref q24) (C := RX4) (T := TX4) (N := 3) hx hb hts inlX4 hown hK hP 0 rfl rfl 2 (by decide) (hts _ q_46) (fun _ h9 => h9) rfl dX4_init_38 ?_
  refine lv_iload_n hx hb dX4_init_41 rfl (lv_at hl 0 rfl) ?_
  refine lv_iconst (v := -1) hx hb dX4_init_42 (by decide) ?_
  refine va_iast (n := 8) (f := mz 1) (i := 1) hx hb hK hP hD hS 3 0 rfl rfl (by unfold vp_in; decide) dX4_init_43 (fun H locs hP hD hS => ?_)
  have hP : va_P G.1 vwCl [(h0, .inr (4, [.ref q8, .ref q16, .ref q24])), (q8, .inl (G.2.1, 320, .inl (fun _ => 0))), (q16, .inl (G.2.1, 8, .inl (fun _ => 0))), (q24, .inl (G.2.1, 8, .inl (mz 2)))] H := by rw [mz_up 1]; exact hP
  have hD : va_D A [(h0, .inr (4, [.ref q8, .ref q16, .ref q24])), (q8, .inl (G.2.1, 320, .inl (fun _ => 0))), (q16, .inl (G.2.1, 8, .inl (fun _ => 0))), (q24, .inl (G.2.1, 8, .inl (mz 2)))] := by rw [mz_up 1]; exact hD
  refine lv_iinc (nL := 2) (v := 2) (lv' := [(1, .int 2), (0, .ref h0)]) hx hb dX4_init_44 hl (k := 0) rfl (by decide) (by decide) rfl (fun ls hl => ?_)
  refine lv_goto hx hb dX4_init_47 (tgt := 31) (by decide) ?_
  refine lv_iload_n hx hb dX4_init_31 rfl (lv_at hl 0 rfl) ?_
  refine lv_bipush (v := 8) hx hb dX4_init_32 (by decide) ?_
  refine lv_icmp_ge hx hb dX4_init_34 (tgt := 50) (by decide) (fun h9 => absurd h9 (by decide)) (fun _ => ?_)
  refine lv_aload_n hx hb dX4_init_37 rfl (lv_at hl 1 rfl) ?_
  refine va_get (ci := 4) (v := .ref q24) (C := RX4) (T := TX4) (N := 3) hx hb hts inlX4 hown hK hP 0 rfl rfl 2 (by decide) (hts _ q_46) (fun _ h9 => h9) rfl dX4_init_38 ?_
  refine lv_iload_n hx hb dX4_init_41 rfl (lv_at hl 0 rfl) ?_
  refine lv_iconst (v := -1) hx hb dX4_init_42 (by decide) ?_
  refine va_iast (n := 8) (f := mz 2) (i := 2) hx hb hK hP hD hS 3 0 rfl rfl (by unfold vp_in; decide) dX4_init_43 (fun H locs hP hD hS => ?_)
  have hP : va_P G.1 vwCl [(h0, .inr (4, [.ref q8, .ref q16, .ref q24])), (q8, .inl (G.2.1, 320, .inl (fun _ => 0))), (q16, .inl (G.2.1, 8, .inl (fun _ => 0))), (q24, .inl (G.2.1, 8, .inl (mz 3)))] H := by rw [mz_up 2]; exact hP
  have hD : va_D A [(h0, .inr (4, [.ref q8, .ref q16, .ref q24])), (q8, .inl (G.2.1, 320, .inl (fun _ => 0))), (q16, .inl (G.2.1, 8, .inl (fun _ => 0))), (q24, .inl (G.2.1, 8, .inl (mz 3)))] := by rw [mz_up 2]; exact hD
  refine lv_iinc (nL := 2) (v := 3) (lv' := [(1, .int 3), (0, .ref h0)]) hx hb dX4_init_44 hl (k := 0) rfl (by decide) (by decide) rfl (fun ls hl => ?_)
  refine lv_goto hx hb dX4_init_47 (tgt := 31) (by decide) ?_
  refine lv_iload_n hx hb dX4_init_31 rfl (lv_at hl 0 rfl) ?_
  refine lv_bipush (v := 8) hx hb dX4_init_32 (by decide) ?_
  refine lv_icmp_ge hx hb dX4_init_34 (tgt := 50) (by decide) (fun h9 => absurd h9 (by decide)) (fun _ => ?_)
  refine lv_aload_n hx hb dX4_init_37 rfl (lv_at hl 1 rfl) ?_
  refine va_get (ci := 4) (v := .ref q24) (C := RX4) (T := TX4) (N := 3) hx hb hts inlX4 hown hK hP 0 rfl rfl 2 (by decide) (hts _ q_46) (fun _ h9 => h9) rfl dX4_init_38 ?_
  refine lv_iload_n hx hb dX4_init_41 rfl (lv_at hl 0 rfl) ?_
  refine lv_iconst (v := -1) hx hb dX4_init_42 (by decide) ?_
  refine va_iast (n := 8) (f := mz 3) (i := 3) hx hb hK hP hD hS 3 0 rfl rfl (by unfold vp_in; decide) dX4_init_43 (fun H locs hP hD hS => ?_)
  have hP : va_P G.1 vwCl [(h0, .inr (4, [.ref q8, .ref q16, .ref q24])), (q8, .inl (G.2.1, 320, .inl (fun _ => 0))), (q16, .inl (G.2.1, 8, .inl (fun _ => 0))), (q24, .inl (G.2.1, 8, .inl (mz 4)))] H := by rw [mz_up 3]; exact hP
  have hD : va_D A [(h0, .inr (4, [.ref q8, .ref q16, .ref q24])), (q8, .inl (G.2.1, 320, .inl (fun _ => 0))), (q16, .inl (G.2.1, 8, .inl (fun _ => 0))), (q24, .inl (G.2.1, 8, .inl (mz 4)))] := by rw [mz_up 3]; exact hD
  refine lv_iinc (nL := 2) (v := 4) (lv' := [(1, .int 4), (0, .ref h0)]) hx hb dX4_init_44 hl (k := 0) rfl (by decide) (by decide) rfl (fun ls hl => ?_)
  refine lv_goto hx hb dX4_init_47 (tgt := 31) (by decide) ?_
  refine lv_iload_n hx hb dX4_init_31 rfl (lv_at hl 0 rfl) ?_
  refine lv_bipush (v := 8) hx hb dX4_init_32 (by decide) ?_
  refine lv_icmp_ge hx hb dX4_init_34 (tgt := 50) (by decide) (fun h9 => absurd h9 (by decide)) (fun _ => ?_)
  refine lv_aload_n hx hb dX4_init_37 rfl (lv_at hl 1 rfl) ?_
  refine va_get (ci := 4) (v := .ref q24) (C := RX4) (T := TX4) (N := 3) hx hb hts inlX4 hown hK hP 0 rfl rfl 2 (by decide) (hts _ q_46) (fun _ h9 => h9) rfl dX4_init_38 ?_
  refine lv_iload_n hx hb dX4_init_41 rfl (lv_at hl 0 rfl) ?_
  refine lv_iconst (v := -1) hx hb dX4_init_42 (by decide) ?_
  refine va_iast (n := 8) (f := mz 4) (i := 4) hx hb hK hP hD hS 3 0 rfl rfl (by unfold vp_in; decide) dX4_init_43 (fun H locs hP hD hS => ?_)
  have hP : va_P G.1 vwCl [(h0, .inr (4, [.ref q8, .ref q16, .ref q24])), (q8, .inl (G.2.1, 320, .inl (fun _ => 0))), (q16, .inl (G.2.1, 8, .inl (fun _ => 0))), (q24, .inl (G.2.1, 8, .inl (mz 5)))] H := by rw [mz_up 4]; exact hP
  have hD : va_D A [(h0, .inr (4, [.ref q8, .ref q16, .ref q24])), (q8, .inl (G.2.1, 320, .inl (fun _ => 0))), (q16, .inl (G.2.1, 8, .inl (fun _ => 0))), (q24, .inl (G.2.1, 8, .inl (mz 5)))] := by rw [mz_up 4]; exact hD
  refine lv_iinc (nL := 2) (v := 5) (lv' := [(1, .int 5), (0, .ref h0)]) hx hb dX4_init_44 hl (k := 0) rfl (by decide) (by decide) rfl (fun ls hl => ?_)
  refine lv_goto hx hb dX4_init_47 (tgt := 31) (by decide) ?_
  refine lv_iload_n hx hb dX4_init_31 rfl (lv_at hl 0 rfl) ?_
  refine lv_bipush (v := 8) hx hb dX4_init_32 (by decide) ?_
  refine lv_icmp_ge hx hb dX4_init_34 (tgt := 50) (by decide) (fun h9 => absurd h9 (by decide)) (fun _ => ?_)
  refine lv_aload_n hx hb dX4_init_37 rfl (lv_at hl 1 rfl) ?_
  refine va_get (ci := 4) (v := .ref q24) (C := RX4) (T := TX4) (N := 3) hx hb hts inlX4 hown hK hP 0 rfl rfl 2 (by decide) (hts _ q_46) (fun _ h9 => h9) rfl dX4_init_38 ?_
  refine lv_iload_n hx hb dX4_init_41 rfl (lv_at hl 0 rfl) ?_
  refine lv_iconst (v := -1) hx hb dX4_init_42 (by decide) ?_
  refine va_iast (n := 8) (f := mz 5) (i := 5) hx hb hK hP hD hS 3 0 rfl rfl (by unfold vp_in; decide) dX4_init_43 (fun H locs hP hD hS => ?_)
  have hP : va_P G.1 vwCl [(h0, .inr (4, [.ref q8, .ref q16, .ref q24])), (q8, .inl (G.2.1, 320, .inl (fun _ => 0))), (q16, .inl (G.2.1, 8, .inl (fun _ => 0))), (q24, .inl (G.2.1, 8, .inl (mz 6)))] H := by rw [mz_up 5]; exact hP
  have hD : va_D A [(h0, .inr (4, [.ref q8, .ref q16, .ref q24])), (q8, .inl (G.2.1, 320, .inl (fun _ => 0))), (q16, .inl (G.2.1, 8, .inl (fun _ => 0))), (q24, .inl (G.2.1, 8, .inl (mz 6)))] := by rw [mz_up 5]; exact hD
  refine lv_iinc (nL := 2) (v := 6) (lv' := [(1, .int 6), (0, .ref h0)]) hx hb dX4_init_44 hl (k := 0) rfl (by decide) (by decide) rfl (fun ls hl => ?_)
  refine lv_goto hx hb dX4_init_47 (tgt := 31) (by decide) ?_
  refine lv_iload_n hx hb dX4_init_31 rfl (lv_at hl 0 rfl) ?_
  refine lv_bipush (v := 8) hx hb dX4_init_32 (by decide) ?_
  refine lv_icmp_ge hx hb dX4_init_34 (tgt := 50) (by decide) (fun h9 => absurd h9 (by decide)) (fun _ => ?_)
  refine lv_aload_n hx hb dX4_init_37 rfl (lv_at hl 1 rfl) ?_
  refine va_get (ci := 4) (v := .ref q24) (C := RX4) (T := TX4) (N := 3) hx hb hts inlX4 hown hK hP 0 rfl rfl 2 (by decide) (hts _ q_46) (fun _ h9 => h9) rfl dX4_init_38 ?_
  refine lv_iload_n hx hb dX4_init_41 rfl (lv_at hl 0 rfl) ?_
  refine lv_iconst (v := -1) hx hb dX4_init_42 (by decide) ?_
  refine va_iast (n := 8) (f := mz 6) (i := 6) hx hb hK hP hD hS 3 0 rfl rfl (by unfold vp_in; decide) dX4_init_43 (fun H locs hP hD hS => ?_)
  have hP : va_P G.1 vwCl [(h0, .inr (4, [.ref q8, .ref q16, .ref q24])), (q8, .inl (G.2.1, 320, .inl (fun _ => 0))), (q16, .inl (G.2.1, 8, .inl (fun _ => 0))), (q24, .inl (G.2.1, 8, .inl (mz 7)))] H := by rw [mz_up 6]; exact hP
  have hD : va_D A [(h0, .inr (4, [.ref q8, .ref q16, .ref q24])), (q8, .inl (G.2.1, 320, .inl (fun _ => 0))), (q16, .inl (G.2.1, 8, .inl (fun _ => 0))), (q24, .inl (G.2.1, 8, .inl (mz 7)))] := by rw [mz_up 6]; exact hD
  refine lv_iinc (nL := 2) (v := 7) (lv' := [(1, .int 7), (0, .ref h0)]) hx hb dX4_init_44 hl (k := 0) rfl (by decide) (by decide) rfl (fun ls hl => ?_)
  refine lv_goto hx hb dX4_init_47 (tgt := 31) (by decide) ?_
  refine lv_iload_n hx hb dX4_init_31 rfl (lv_at hl 0 rfl) ?_
  refine lv_bipush (v := 8) hx hb dX4_init_32 (by decide) ?_
  refine lv_icmp_ge hx hb dX4_init_34 (tgt := 50) (by decide) (fun h9 => absurd h9 (by decide)) (fun _ => ?_)
  refine lv_aload_n hx hb dX4_init_37 rfl (lv_at hl 1 rfl) ?_
  refine va_get (ci := 4) (v := .ref q24) (C := RX4) (T := TX4) (N := 3) hx hb hts inlX4 hown hK hP 0 rfl rfl 2 (by decide) (hts _ q_46) (fun _ h9 => h9) rfl dX4_init_38 ?_
  refine lv_iload_n hx hb dX4_init_41 rfl (lv_at hl 0 rfl) ?_
  refine lv_iconst (v := -1) hx hb dX4_init_42 (by decide) ?_
  refine va_iast (n := 8) (f := mz 7) (i := 7) hx hb hK hP hD hS 3 0 rfl rfl (by unfold vp_in; decide) dX4_init_43 (fun H locs hP hD hS => ?_)
  have hP : va_P G.1 vwCl [(h0, .inr (4, [.ref q8, .ref q16, .ref q24])), (q8, .inl (G.2.1, 320, .inl (fun _ => 0))), (q16, .inl (G.2.1, 8, .inl (fun _ => 0))), (q24, .inl (G.2.1, 8, .inl (mz 8)))] H := by rw [mz_up 7]; exact hP
  have hD : va_D A [(h0, .inr (4, [.ref q8, .ref q16, .ref q24])), (q8, .inl (G.2.1, 320, .inl (fun _ => 0))), (q16, .inl (G.2.1, 8, .inl (fun _ => 0))), (q24, .inl (G.2.1, 8, .inl (mz 8)))] := by rw [mz_up 7]; exact hD
  refine lv_iinc (nL := 2) (v := 8) (lv' := [(1, .int 8), (0, .ref h0)]) hx hb dX4_init_44 hl (k := 0) rfl (by decide) (by decide) rfl (fun ls hl => ?_)
  refine lv_goto hx hb dX4_init_47 (tgt := 31) (by decide) ?_
  refine lv_iload_n hx hb dX4_init_31 rfl (lv_at hl 0 rfl) ?_
  refine lv_bipush (v := 8) hx hb dX4_init_32 (by decide) ?_
  refine lv_icmp_ge hx hb dX4_init_34 (tgt := 50) (by decide) (fun _ => ?_) (fun h9 => absurd (by decide) h9)
  exact W.vret hx hb hr (fun t ht hW => ⟨⟨⟨q8, q16, q24⟩, rfl, trivial, by rw [ht]; exact hP, hD⟩, hS.F ht⟩) hS.2.2 dX4_init_50
def at_X7 (G : mm_G) (h0 : Nat) (u : Nat × Nat × Nat × Nat × Nat × Nat × Nat × Nat × Nat × Nat × Nat × Nat) : va_W := match u with | (q7, q15, q24, q32, q40, q48, q56, q65, q73, q80, q88, q96) => [(h0, .inr (7, [.ref q7, .ref q15, .ref q24, .int 0, .int 0, .ref q32, .ref q40, .ref q48, .int 0, .int 0, .int 0, .int 0, .int 0, .int 0, .int 0, .ref q56, .ref q65, .int 0, .ref q73, .ref q80, .ref q88, .ref q96, .int 0])), (q7, .inl (G.2.1, 8, .inl (fun _ => 0))), (q15, .inl (G.2.1, 8, .inl (mz 8))), (q24, .inl (G.2.1, 320, .inl (fun _ => 0))), (q32, .inl (G.2.1, 36, .inl (fun _ => 0))), (q40, .inl (G.2.1, 40, .inl (fun _ => 0))), (q48, .inl (G.2.1, 100, .inl (fun _ => 0))), (q56, .inl (G.2.1, 36, .inl (fun _ => 0))), (q65, .inl (G.2.1, 864, .inl (fun _ => 0))), (q73, .inl (G.2.1, 36, .inl (fun _ => 0))), (q80, .inl (G.2.2.1, 2, .inl (fun _ => 0))), (q88, .inl (G.2.1, 72, .inl (fun _ => 0))), (q96, .inl (G.2.1, 16, .inl (fun _ => 0)))]
set_option maxHeartbeats 4000000 in
set_option maxRecDepth 100000 in
theorem c_X7_init (l : Launch) (G : mm_G) (h0 sz : Nat) : Met l yX7_init (.code yX7_init cX7_init 2 none :: wsL_law) ({ frames := 1, cells := 12, slots := 1538, locals := 60 }) (va_Pc [.ref h0] (fun U => U.heap.size = sz ∧ va_P G.1 vwCl [(h0, .inr (7, [.null, .null, .null, .int 0, .int 0, .null, .null, .null, .int 0, .int 0, .int 0, .int 0, .int 0, .int 0, .int 0, .null, .null, .int 0, .null, .null, .null, .null, .int 0]))] U.heap ∧ mm_K G U ∧ va_D (fun _ => True) [(h0, .inr (7, [.null, .null, .null, .int 0, .int 0, .null, .null, .null, .int 0, .int 0, .int 0, .int 0, .int 0, .int 0, .int 0, .null, .null, .int 0, .null, .null, .null, .null, .int 0]))])) (va_Qv (fun _ : Nat × Nat × Nat × Nat × Nat × Nat × Nat × Nat × Nat × Nat × Nat × Nat => True) (fun u t => va_P G.1 vwCl (at_X7 G h0 u) t.heap ∧ va_D (va_A [(h0, .inr (7, [.null, .null, .null, .int 0, .int 0, .null, .null, .null, .int 0, .int 0, .int 0, .int 0, .int 0, .int 0, .int 0, .null, .null, .int 0, .null, .null, .null, .null, .int 0]))] sz) (at_X7 G h0 u)) (va_A [(h0, .inr (7, [.null, .null, .null, .int 0, .int 0, .null, .null, .null, .int 0, .int 0, .int 0, .int 0, .int 0, .int 0, .int 0, .null, .null, .int 0, .null, .null, .null, .null, .int 0]))] sz)) 12 1538 (va_A [(h0, .inr (7, [.null, .null, .null, .int 0, .int 0, .null, .null, .null, .int 0, .int 0, .int 0, .int 0, .int 0, .int 0, .int 0, .null, .null, .int 0, .null, .null, .null, .null, .int 0]))] sz) := by
  refine Met.ofW (cc := cX7_init) (maxL := 2) (ret := none) (by decide) rfl ?_
  intro p e s m args below meth c s₁ B hml hv
  obtain ⟨rfl, hsz, hP, hKK, hD0⟩ := hv
  have hx := B.exec
  have hb := B.bytes
  have hr := B.returns
  have hts0 := atoms_spec (ws := .code yX7_init cX7_init 2 none :: wsL_law) B.pre
  have hts := fun (w : Cond) (hw : w ∈ wsL_law) => hts0 w (List.mem_cons_of_mem _ hw)
  have hown : s.vm.findClass RX7 = some m.cls := findClass_of_methodNamed B.named
  have hlocks := B.notSynchronized
  have hin : meth.name = "<init>" := (name_of_methodNamed B.named B.method).1
  subst hsz
  have hD := hD0.self (sz := s.heap.size)
  generalize hAe : va_A [(h0, .inr (7, [.null, .null, .null, .int 0, .int 0, .null, .null, .null, .int 0, .int 0, .int 0, .int 0, .int 0, .int 0, .int 0, .null, .null, .int 0, .null, .null, .null, .null, .int 0]))] s.heap.size = A at hD ⊢
  have hA : ∀ q : Nat, s.heap.size ≤ q → A q := fun q h => by rw [← hAe]; exact Or.inr h
  have hS : va_S A s.heap s.heap [] := va_S.rf
  have hK := hKK.1
  have hl := lv_entry ([.ref h0]) (n := 2) (Nat.le_of_ble_eq_true rfl)
  rw [lg_entry_eq]
  generalize (lg_sl ([.ref h0]) ++ List.replicate (2 - (lg_sl ([.ref h0])).length) Slot.unset).toArray = ls at hl ⊢
  have hl : lv_has ls 2 [(0, .ref h0)] := hl
  refine lv_aload_n hx hb dX7_init_0 rfl (lv_at hl 0 rfl) ?_
  refine W.objInit hx hb hown (hts _ q_90) (hts _ q_10) (hts _ q_11) rfl (by rw [hml]; exact hl.1) rfl dX7_init_1 (Nat.le_of_ble_eq_true rfl) (Nat.le_of_ble_eq_true rfl) ?_
  refine W.eq (g2 := F0 m 4 ls []) rfl ?_
  refine lv_aload_n hx hb dX7_init_4 rfl (lv_at hl 0 rfl) ?_
  refine lv_bipush (v := 8) hx hb dX7_init_5 (by decide) ?_
  refine va_newa (atype := .int) (ty := .int) (a0 := (8, .inl (fun _ => 0))) (N' := 8) hx hb (hts _ q_43) rfl hK hP hD hS hA (fun cA => rfl) (by decide) (by decide) (by decide) (Nat.le_of_ble_eq_true rfl) (Nat.le_of_ble_eq_true rfl) dX7_init_7 (fun q7 cA H hK2 hP hD hS => ?_)
  have eA := arr_I hK2
  subst eA
  have hP : va_P G.1 vwCl [(h0, .inr (7, [.null, .null, .null, .int 0, .int 0, .null, .null, .null, .int 0, .int 0, .int 0, .int 0, .int 0, .int 0, .int 0, .null, .null, .int 0, .null, .null, .null, .null, .int 0])), (q7, .inl (G.2.1, 8, .inl (fun _ => 0)))] H := hP
  have hD : va_D A [(h0, .inr (7, [.null, .null, .null, .int 0, .int 0, .null, .null, .null, .int 0, .int 0, .int 0, .int 0, .int 0, .int 0, .int 0, .null, .null, .int 0, .null, .null, .null, .null, .int 0])), (q7, .inl (G.2.1, 8, .inl (fun _ => 0)))] := hD
  refine va_putF (ci := 7) (v := .ref q7) (ty := .array .int) (C := RX7) (T := TX7) (N := 23) hx hb hts inlX7 tyX7 tyX7_ok nmX7 hown hK hP hD hS 0 rfl rfl 0 (by decide) (hts _ q_91) (fun _ h9 => h9) rfl hin rfl (by decide +kernel) rfl rfl (Nat.le_of_ble_eq_true rfl) dX7_init_9 (fun H locs hP hD hS => ?_)
  have hP : va_P G.1 vwCl [(h0, .inr (7, [.ref q7, .null, .null, .int 0, .int 0, .null, .null, .null, .int 0, .int 0, .int 0, .int 0, .int 0, .int 0, .int 0, .null, .null, .int 0, .null, .null, .null, .null, .int 0])), (q7, .inl (G.2.1, 8, .inl (fun _ => 0)))] H := hP
  have hD : va_D A [(h0, .inr (7, [.ref q7, .null, .null, .int 0, .int 0, .null, .null, .null, .int 0, .int 0, .int 0, .int 0, .int 0, .int 0, .int 0, .null, .null, .int 0, .null, .null, .null, .null, .int 0])), (q7, .inl (G.2.1, 8, .inl (fun _ => 0)))] := hD
  refine lv_aload_n hx hb dX7_init_12 rfl (lv_at hl 0 rfl) ?_
  refine lv_bipush (v := 8) hx hb dX7_init_13 (by decide) ?_
  refine va_newa (atype := .int) (ty := .int) (a0 := (8, .inl (fun _ => 0))) (N' := 8) hx hb (hts _ q_43) rfl hK hP hD hS hA (fun cA => rfl) (by decide) (by decide) (by decide) (Nat.le_of_ble_eq_true rfl) (Nat.le_of_ble_eq_true rfl) dX7_init_15 (fun q15 cA H hK2 hP hD hS => ?_)
  have eA := arr_I hK2
  subst eA
  have hP : va_P G.1 vwCl [(h0, .inr (7, [.ref q7, .null, .null, .int 0, .int 0, .null, .null, .null, .int 0, .int 0, .int 0, .int 0, .int 0, .int 0, .int 0, .null, .null, .int 0, .null, .null, .null, .null, .int 0])), (q7, .inl (G.2.1, 8, .inl (fun _ => 0))), (q15, .inl (G.2.1, 8, .inl (fun _ => 0)))] H := hP
  have hD : va_D A [(h0, .inr (7, [.ref q7, .null, .null, .int 0, .int 0, .null, .null, .null, .int 0, .int 0, .int 0, .int 0, .int 0, .int 0, .int 0, .null, .null, .int 0, .null, .null, .null, .null, .int 0])), (q7, .inl (G.2.1, 8, .inl (fun _ => 0))), (q15, .inl (G.2.1, 8, .inl (fun _ => 0)))] := hD
  refine va_putF (ci := 7) (v := .ref q15) (ty := .array .int) (C := RX7) (T := TX7) (N := 23) hx hb hts inlX7 tyX7 tyX7_ok nmX7 hown hK hP hD hS 0 rfl rfl 1 (by decide) (hts _ q_92) (fun _ h9 => h9) rfl hin rfl (by decide +kernel) rfl rfl (Nat.le_of_ble_eq_true rfl) dX7_init_17 (fun H locs hP hD hS => ?_)
  have hP : va_P G.1 vwCl [(h0, .inr (7, [.ref q7, .ref q15, .null, .int 0, .int 0, .null, .null, .null, .int 0, .int 0, .int 0, .int 0, .int 0, .int 0, .int 0, .null, .null, .int 0, .null, .null, .null, .null, .int 0])), (q7, .inl (G.2.1, 8, .inl (fun _ => 0))), (q15, .inl (G.2.1, 8, .inl (fun _ => 0)))] H := hP
  have hD : va_D A [(h0, .inr (7, [.ref q7, .ref q15, .null, .int 0, .int 0, .null, .null, .null, .int 0, .int 0, .int 0, .int 0, .int 0, .int 0, .int 0, .null, .null, .int 0, .null, .null, .null, .null, .int 0])), (q7, .inl (G.2.1, 8, .inl (fun _ => 0))), (q15, .inl (G.2.1, 8, .inl (fun _ => 0)))] := hD
  refine lv_aload_n hx hb dX7_init_20 rfl (lv_at hl 0 rfl) ?_
  refine lv_sipush (v := 320) hx hb dX7_init_21 (by decide) ?_
  refine va_newa (atype := .int) (ty := .int) (a0 := (320, .inl (fun _ => 0))) (N' := 320) hx hb (hts _ q_43) rfl hK hP hD hS hA (fun cA => rfl) (by decide) (by decide) (by decide) (Nat.le_of_ble_eq_true rfl) (Nat.le_of_ble_eq_true rfl) dX7_init_24 (fun q24 cA H hK2 hP hD hS => ?_)
  have eA := arr_I hK2
  subst eA
  have hP : va_P G.1 vwCl [(h0, .inr (7, [.ref q7, .ref q15, .null, .int 0, .int 0, .null, .null, .null, .int 0, .int 0, .int 0, .int 0, .int 0, .int 0, .int 0, .null, .null, .int 0, .null, .null, .null, .null, .int 0])), (q7, .inl (G.2.1, 8, .inl (fun _ => 0))), (q15, .inl (G.2.1, 8, .inl (fun _ => 0))), (q24, .inl (G.2.1, 320, .inl (fun _ => 0)))] H := hP
  have hD : va_D A [(h0, .inr (7, [.ref q7, .ref q15, .null, .int 0, .int 0, .null, .null, .null, .int 0, .int 0, .int 0, .int 0, .int 0, .int 0, .int 0, .null, .null, .int 0, .null, .null, .null, .null, .int 0])), (q7, .inl (G.2.1, 8, .inl (fun _ => 0))), (q15, .inl (G.2.1, 8, .inl (fun _ => 0))), (q24, .inl (G.2.1, 320, .inl (fun _ => 0)))] := hD
  refine va_putF (ci := 7) (v := .ref q24) (ty := .array .int) (C := RX7) (T := TX7) (N := 23) hx hb hts inlX7 tyX7 tyX7_ok nmX7 hown hK hP hD hS 0 rfl rfl 2 (by decide) (hts _ q_93) (fun _ h9 => h9) rfl hin rfl (by decide +kernel) rfl rfl (Nat.le_of_ble_eq_true rfl) dX7_init_26 (fun H locs hP hD hS => ?_)
  have hP : va_P G.1 vwCl [(h0, .inr (7, [.ref q7, .ref q15, .ref q24, .int 0, .int 0, .null, .null, .null, .int 0, .int 0, .int 0, .int 0, .int 0, .int 0, .int 0, .null, .null, .int 0, .null, .null, .null, .null, .int 0])), (q7, .inl (G.2.1, 8, .inl (fun _ => 0))), (q15, .inl (G.2.1, 8, .inl (fun _ => 0))), (q24, .inl (G.2.1, 320, .inl (fun _ => 0)))] H := hP
  have hD : va_D A [(h0, .inr (7, [.ref q7, .ref q15, .ref q24, .int 0, .int 0, .null, .null, .null, .int 0, .int 0, .int 0, .int 0, .int 0, .int 0, .int 0, .null, .null, .int 0, .null, .null, .null, .null, .int 0])), (q7, .inl (G.2.1, 8, .inl (fun _ => 0))), (q15, .inl (G.2.1, 8, .inl (fun _ => 0))), (q24, .inl (G.2.1, 320, .inl (fun _ => 0)))] := hD
  refine lv_aload_n hx hb dX7_init_29 rfl (lv_at hl 0 rfl) ?_
  refine lv_bipush (v := 36) hx hb dX7_init_30 (by decide) ?_
  refine va_newa (atype := .int) (ty := .int) (a0 := (36, .inl (fun _ => 0))) (N' := 36) hx hb (hts _ q_43) rfl hK hP hD hS hA (fun cA => rfl) (by decide) (by decide) (by decide) (Nat.le_of_ble_eq_true rfl) (Nat.le_of_ble_eq_true rfl) dX7_init_32 (fun q32 cA H hK2 hP hD hS => ?_)
  have eA := arr_I hK2
  subst eA
  have hP : va_P G.1 vwCl [(h0, .inr (7, [.ref q7, .ref q15, .ref q24, .int 0, .int 0, .null, .null, .null, .int 0, .int 0, .int 0, .int 0, .int 0, .int 0, .int 0, .null, .null, .int 0, .null, .null, .null, .null, .int 0])), (q7, .inl (G.2.1, 8, .inl (fun _ => 0))), (q15, .inl (G.2.1, 8, .inl (fun _ => 0))), (q24, .inl (G.2.1, 320, .inl (fun _ => 0))), (q32, .inl (G.2.1, 36, .inl (fun _ => 0)))] H := hP
  have hD : va_D A [(h0, .inr (7, [.ref q7, .ref q15, .ref q24, .int 0, .int 0, .null, .null, .null, .int 0, .int 0, .int 0, .int 0, .int 0, .int 0, .int 0, .null, .null, .int 0, .null, .null, .null, .null, .int 0])), (q7, .inl (G.2.1, 8, .inl (fun _ => 0))), (q15, .inl (G.2.1, 8, .inl (fun _ => 0))), (q24, .inl (G.2.1, 320, .inl (fun _ => 0))), (q32, .inl (G.2.1, 36, .inl (fun _ => 0)))] := hD
  refine va_putF (ci := 7) (v := .ref q32) (ty := .array .int) (C := RX7) (T := TX7) (N := 23) hx hb hts inlX7 tyX7 tyX7_ok nmX7 hown hK hP hD hS 0 rfl rfl 5 (by decide) (hts _ q_94) (fun _ h9 => h9) rfl hin rfl (by decide +kernel) rfl rfl (Nat.le_of_ble_eq_true rfl) dX7_init_34 (fun H locs hP hD hS => ?_)
  have hP : va_P G.1 vwCl [(h0, .inr (7, [.ref q7, .ref q15, .ref q24, .int 0, .int 0, .ref q32, .null, .null, .int 0, .int 0, .int 0, .int 0, .int 0, .int 0, .int 0, .null, .null, .int 0, .null, .null, .null, .null, .int 0])), (q7, .inl (G.2.1, 8, .inl (fun _ => 0))), (q15, .inl (G.2.1, 8, .inl (fun _ => 0))), (q24, .inl (G.2.1, 320, .inl (fun _ => 0))), (q32, .inl (G.2.1, 36, .inl (fun _ => 0)))] H := hP
  have hD : va_D A [(h0, .inr (7, [.ref q7, .ref q15, .ref q24, .int 0, .int 0, .ref q32, .null, .null, .int 0, .int 0, .int 0, .int 0, .int 0, .int 0, .int 0, .null, .null, .int 0, .null, .null, .null, .null, .int 0])), (q7, .inl (G.2.1, 8, .inl (fun _ => 0))), (q15, .inl (G.2.1, 8, .inl (fun _ => 0))), (q24, .inl (G.2.1, 320, .inl (fun _ => 0))), (q32, .inl (G.2.1, 36, .inl (fun _ => 0)))] := hD
  refine lv_aload_n hx hb dX7_init_37 rfl (lv_at hl 0 rfl) ?_
  refine lv_bipush (v := 40) hx hb dX7_init_38 (by decide) ?_
  refine va_newa (atype := .int) (ty := .int) (a0 := (40, .inl (fun _ => 0))) (N' := 40) hx hb (hts _ q_43) rfl hK hP hD hS hA (fun cA => rfl) (by decide) (by decide) (by decide) (Nat.le_of_ble_eq_true rfl) (Nat.le_of_ble_eq_true rfl) dX7_init_40 (fun q40 cA H hK2 hP hD hS => ?_)
  have eA := arr_I hK2
  subst eA
  have hP : va_P G.1 vwCl [(h0, .inr (7, [.ref q7, .ref q15, .ref q24, .int 0, .int 0, .ref q32, .null, .null, .int 0, .int 0, .int 0, .int 0, .int 0, .int 0, .int 0, .null, .null, .int 0, .null, .null, .null, .null, .int 0])), (q7, .inl (G.2.1, 8, .inl (fun _ => 0))), (q15, .inl (G.2.1, 8, .inl (fun _ => 0))), (q24, .inl (G.2.1, 320, .inl (fun _ => 0))), (q32, .inl (G.2.1, 36, .inl (fun _ => 0))), (q40, .inl (G.2.1, 40, .inl (fun _ => 0)))] H := hP
  have hD : va_D A [(h0, .inr (7, [.ref q7, .ref q15, .ref q24, .int 0, .int 0, .ref q32, .null, .null, .int 0, .int 0, .int 0, .int 0, .int 0, .int 0, .int 0, .null, .null, .int 0, .null, .null, .null, .null, .int 0])), (q7, .inl (G.2.1, 8, .inl (fun _ => 0))), (q15, .inl (G.2.1, 8, .inl (fun _ => 0))), (q24, .inl (G.2.1, 320, .inl (fun _ => 0))), (q32, .inl (G.2.1, 36, .inl (fun _ => 0))), (q40, .inl (G.2.1, 40, .inl (fun _ => 0)))] := hD
  refine va_putF (ci := 7) (v := .ref q40) (ty := .array .int) (C := RX7) (T := TX7) (N := 23) hx hb hts inlX7 tyX7 tyX7_ok nmX7 hown hK hP hD hS 0 rfl rfl 6 (by decide) (hts _ q_95) (fun _ h9 => h9) rfl hin rfl (by decide +kernel) rfl rfl (Nat.le_of_ble_eq_true rfl) dX7_init_42 (fun H locs hP hD hS => ?_)
  have hP : va_P G.1 vwCl [(h0, .inr (7, [.ref q7, .ref q15, .ref q24, .int 0, .int 0, .ref q32, .ref q40, .null, .int 0, .int 0, .int 0, .int 0, .int 0, .int 0, .int 0, .null, .null, .int 0, .null, .null, .null, .null, .int 0])), (q7, .inl (G.2.1, 8, .inl (fun _ => 0))), (q15, .inl (G.2.1, 8, .inl (fun _ => 0))), (q24, .inl (G.2.1, 320, .inl (fun _ => 0))), (q32, .inl (G.2.1, 36, .inl (fun _ => 0))), (q40, .inl (G.2.1, 40, .inl (fun _ => 0)))] H := hP
  have hD : va_D A [(h0, .inr (7, [.ref q7, .ref q15, .ref q24, .int 0, .int 0, .ref q32, .ref q40, .null, .int 0, .int 0, .int 0, .int 0, .int 0, .int 0, .int 0, .null, .null, .int 0, .null, .null, .null, .null, .int 0])), (q7, .inl (G.2.1, 8, .inl (fun _ => 0))), (q15, .inl (G.2.1, 8, .inl (fun _ => 0))), (q24, .inl (G.2.1, 320, .inl (fun _ => 0))), (q32, .inl (G.2.1, 36, .inl (fun _ => 0))), (q40, .inl (G.2.1, 40, .inl (fun _ => 0)))] := hD
  refine lv_aload_n hx hb dX7_init_45 rfl (lv_at hl 0 rfl) ?_
  refine lv_bipush (v := 100) hx hb dX7_init_46 (by decide) ?_
  refine va_newa (atype := .int) (ty := .int) (a0 := (100, .inl (fun _ => 0))) (N' := 100) hx hb (hts _ q_43) rfl hK hP hD hS hA (fun cA => rfl) (by decide) (by decide) (by decide) (Nat.le_of_ble_eq_true rfl) (Nat.le_of_ble_eq_true rfl) dX7_init_48 (fun q48 cA H hK2 hP hD hS => ?_)
  have eA := arr_I hK2
  subst eA
  have hP : va_P G.1 vwCl [(h0, .inr (7, [.ref q7, .ref q15, .ref q24, .int 0, .int 0, .ref q32, .ref q40, .null, .int 0, .int 0, .int 0, .int 0, .int 0, .int 0, .int 0, .null, .null, .int 0, .null, .null, .null, .null, .int 0])), (q7, .inl (G.2.1, 8, .inl (fun _ => 0))), (q15, .inl (G.2.1, 8, .inl (fun _ => 0))), (q24, .inl (G.2.1, 320, .inl (fun _ => 0))), (q32, .inl (G.2.1, 36, .inl (fun _ => 0))), (q40, .inl (G.2.1, 40, .inl (fun _ => 0))), (q48, .inl (G.2.1, 100, .inl (fun _ => 0)))] H := hP
  have hD : va_D A [(h0, .inr (7, [.ref q7, .ref q15, .ref q24, .int 0, .int 0, .ref q32, .ref q40, .null, .int 0, .int 0, .int 0, .int 0, .int 0, .int 0, .int 0, .null, .null, .int 0, .null, .null, .null, .null, .int 0])), (q7, .inl (G.2.1, 8, .inl (fun _ => 0))), (q15, .inl (G.2.1, 8, .inl (fun _ => 0))), (q24, .inl (G.2.1, 320, .inl (fun _ => 0))), (q32, .inl (G.2.1, 36, .inl (fun _ => 0))), (q40, .inl (G.2.1, 40, .inl (fun _ => 0))), (q48, .inl (G.2.1, 100, .inl (fun _ => 0)))] := hD
  refine va_putF (ci := 7) (v := .ref q48) (ty := .array .int) (C := RX7) (T := TX7) (N := 23) hx hb hts inlX7 tyX7 tyX7_ok nmX7 hown hK hP hD hS 0 rfl rfl 7 (by decide) (hts _ q_96) (fun _ h9 => h9) rfl hin rfl (by decide +kernel) rfl rfl (Nat.le_of_ble_eq_true rfl) dX7_init_50 (fun H locs hP hD hS => ?_)
  have hP : va_P G.1 vwCl [(h0, .inr (7, [.ref q7, .ref q15, .ref q24, .int 0, .int 0, .ref q32, .ref q40, .ref q48, .int 0, .int 0, .int 0, .int 0, .int 0, .int 0, .int 0, .null, .null, .int 0, .null, .null, .null, .null, .int 0])), (q7, .inl (G.2.1, 8, .inl (fun _ => 0))), (q15, .inl (G.2.1, 8, .inl (fun _ => 0))), (q24, .inl (G.2.1, 320, .inl (fun _ => 0))), (q32, .inl (G.2.1, 36, .inl (fun _ => 0))), (q40, .inl (G.2.1, 40, .inl (fun _ => 0))), (q48, .inl (G.2.1, 100, .inl (fun _ => 0)))] H := hP
  have hD : va_D A [(h0, .inr (7, [.ref q7, .ref q15, .ref q24, .int 0, .int 0, .ref q32, .ref q40, .ref q48, .int 0, .int 0, .int 0, .int 0, .int 0, .int 0, .int 0, .null, .null, .int 0, .null, .null, .null, .null, .int 0])), (q7, .inl (G.2.1, 8, .inl (fun _ => 0))), (q15, .inl (G.2.1, 8, .inl (fun _ => 0))), (q24, .inl (G.2.1, 320, .inl (fun _ => 0))), (q32, .inl (G.2.1, 36, .inl (fun _ => 0))), (q40, .inl (G.2.1, 40, .inl (fun _ => 0))), (q48, .inl (G.2.1, 100, .inl (fun _ => 0)))] := hD
  refine lv_aload_n hx hb dX7_init_53 rfl (lv_at hl 0 rfl) ?_
  refine lv_bipush (v := 36) hx hb dX7_init_54 (by decide) ?_
  refine va_newa (atype := .int) (ty := .int) (a0 := (36, .inl (fun _ => 0))) (N' := 36) hx hb (hts _ q_43) rfl hK hP hD hS hA (fun cA => rfl) (by decide) (by decide) (by decide) (Nat.le_of_ble_eq_true rfl) (Nat.le_of_ble_eq_true rfl) dX7_init_56 (fun q56 cA H hK2 hP hD hS => ?_)
  have eA := arr_I hK2
  subst eA
  have hP : va_P G.1 vwCl [(h0, .inr (7, [.ref q7, .ref q15, .ref q24, .int 0, .int 0, .ref q32, .ref q40, .ref q48, .int 0, .int 0, .int 0, .int 0, .int 0, .int 0, .int 0, .null, .null, .int 0, .null, .null, .null, .null, .int 0])), (q7, .inl (G.2.1, 8, .inl (fun _ => 0))), (q15, .inl (G.2.1, 8, .inl (fun _ => 0))), (q24, .inl (G.2.1, 320, .inl (fun _ => 0))), (q32, .inl (G.2.1, 36, .inl (fun _ => 0))), (q40, .inl (G.2.1, 40, .inl (fun _ => 0))), (q48, .inl (G.2.1, 100, .inl (fun _ => 0))), (q56, .inl (G.2.1, 36, .inl (fun _ => 0)))] H := hP
  have hD : va_D A [(h0, .inr (7, [.ref q7, .ref q15, .ref q24, .int 0, .int 0, .ref q32, .ref q40, .ref q48, .int 0, .int 0, .int 0, .int 0, .int 0, .int 0, .int 0, .null, .null, .int 0, .null, .null, .null, .null, .int 0])), (q7, .inl (G.2.1, 8, .inl (fun _ => 0))), (q15, .inl (G.2.1, 8, .inl (fun _ => 0))), (q24, .inl (G.2.1, 320, .inl (fun _ => 0))), (q32, .inl (G.2.1, 36, .inl (fun _ => 0))), (q40, .inl (G.2.1, 40, .inl (fun _ => 0))), (q48, .inl (G.2.1, 100, .inl (fun _ => 0))), (q56, .inl (G.2.1, 36, .inl (fun _ => 0)))] := hD
  refine va_putF (ci := 7) (v := .ref q56) (ty := .array .int) (C := RX7) (T := TX7) (N := 23) hx hb hts inlX7 tyX7 tyX7_ok nmX7 hown hK hP hD hS 0 rfl rfl 15 (by decide) (hts _ q_97) (fun _ h9 => h9) rfl hin rfl (by decide +kernel) rfl rfl (Nat.le_of_ble_eq_true rfl) dX7_init_58 (fun H locs hP hD hS => ?_)
  have hP : va_P G.1 vwCl [(h0, .inr (7, [.ref q7, .ref q15, .ref q24, .int 0, .int 0, .ref q32, .ref q40, .ref q48, .int 0, .int 0, .int 0, .int 0, .int 0, .int 0, .int 0, .ref q56, .null, .int 0, .null, .null, .null, .null, .int 0])), (q7, .inl (G.2.1, 8, .inl (fun _ => 0))), (q15, .inl (G.2.1, 8, .inl (fun _ => 0))), (q24, .inl (G.2.1, 320, .inl (fun _ => 0))), (q32, .inl (G.2.1, 36, .inl (fun _ => 0))), (q40, .inl (G.2.1, 40, .inl (fun _ => 0))), (q48, .inl (G.2.1, 100, .inl (fun _ => 0))), (q56, .inl (G.2.1, 36, .inl (fun _ => 0)))] H := hP
  have hD : va_D A [(h0, .inr (7, [.ref q7, .ref q15, .ref q24, .int 0, .int 0, .ref q32, .ref q40, .ref q48, .int 0, .int 0, .int 0, .int 0, .int 0, .int 0, .int 0, .ref q56, .null, .int 0, .null, .null, .null, .null, .int 0])), (q7, .inl (G.2.1, 8, .inl (fun _ => 0))), (q15, .inl (G.2.1, 8, .inl (fun _ => 0))), (q24, .inl (G.2.1, 320, .inl (fun _ => 0))), (q32, .inl (G.2.1, 36, .inl (fun _ => 0))), (q40, .inl (G.2.1, 40, .inl (fun _ => 0))), (q48, .inl (G.2.1, 100, .inl (fun _ => 0))), (q56, .inl (G.2.1, 36, .inl (fun _ => 0)))] := hD
  refine lv_aload_n hx hb dX7_init_61 rfl (lv_at hl 0 rfl) ?_
  refine lv_sipush (v := 864) hx hb dX7_init_62 (by decide) ?_
  refine va_newa (atype := .int) (ty := .int) (a0 := (864, .inl (fun _ => 0))) (N' := 864) hx hb (hts _ q_43) rfl hK hP hD hS hA (fun cA => rfl) (by decide) (by decide) (by decide) (Nat.le_of_ble_eq_true rfl) (Nat.le_of_ble_eq_true rfl) dX7_init_65 (fun q65 cA H hK2 hP hD hS => ?_)
  have eA := arr_I hK2
  subst eA
  have hP : va_P G.1 vwCl [(h0, .inr (7, [.ref q7, .ref q15, .ref q24, .int 0, .int 0, .ref q32, .ref q40, .ref q48, .int 0, .int 0, .int 0, .int 0, .int 0, .int 0, .int 0, .ref q56, .null, .int 0, .null, .null, .null, .null, .int 0])), (q7, .inl (G.2.1, 8, .inl (fun _ => 0))), (q15, .inl (G.2.1, 8, .inl (fun _ => 0))), (q24, .inl (G.2.1, 320, .inl (fun _ => 0))), (q32, .inl (G.2.1, 36, .inl (fun _ => 0))), (q40, .inl (G.2.1, 40, .inl (fun _ => 0))), (q48, .inl (G.2.1, 100, .inl (fun _ => 0))), (q56, .inl (G.2.1, 36, .inl (fun _ => 0))), (q65, .inl (G.2.1, 864, .inl (fun _ => 0)))] H := hP
  have hD : va_D A [(h0, .inr (7, [.ref q7, .ref q15, .ref q24, .int 0, .int 0, .ref q32, .ref q40, .ref q48, .int 0, .int 0, .int 0, .int 0, .int 0, .int 0, .int 0, .ref q56, .null, .int 0, .null, .null, .null, .null, .int 0])), (q7, .inl (G.2.1, 8, .inl (fun _ => 0))), (q15, .inl (G.2.1, 8, .inl (fun _ => 0))), (q24, .inl (G.2.1, 320, .inl (fun _ => 0))), (q32, .inl (G.2.1, 36, .inl (fun _ => 0))), (q40, .inl (G.2.1, 40, .inl (fun _ => 0))), (q48, .inl (G.2.1, 100, .inl (fun _ => 0))), (q56, .inl (G.2.1, 36, .inl (fun _ => 0))), (q65, .inl (G.2.1, 864, .inl (fun _ => 0)))] := hD
  refine va_putF (ci := 7) (v := .ref q65) (ty := .array .int) (C := RX7) (T := TX7) (N := 23) hx hb hts inlX7 tyX7 tyX7_ok nmX7 hown hK hP hD hS 0 rfl rfl 16 (by decide) (hts _ q_98) (fun _ h9 => h9) rfl hin rfl (by decide +kernel) rfl rfl (Nat.le_of_ble_eq_true rfl) dX7_init_67 (fun H locs hP hD hS => ?_)
  have hP : va_P G.1 vwCl [(h0, .inr (7, [.ref q7, .ref q15, .ref q24, .int 0, .int 0, .ref q32, .ref q40, .ref q48, .int 0, .int 0, .int 0, .int 0, .int 0, .int 0, .int 0, .ref q56, .ref q65, .int 0, .null, .null, .null, .null, .int 0])), (q7, .inl (G.2.1, 8, .inl (fun _ => 0))), (q15, .inl (G.2.1, 8, .inl (fun _ => 0))), (q24, .inl (G.2.1, 320, .inl (fun _ => 0))), (q32, .inl (G.2.1, 36, .inl (fun _ => 0))), (q40, .inl (G.2.1, 40, .inl (fun _ => 0))), (q48, .inl (G.2.1, 100, .inl (fun _ => 0))), (q56, .inl (G.2.1, 36, .inl (fun _ => 0))), (q65, .inl (G.2.1, 864, .inl (fun _ => 0)))] H := hP
  have hD : va_D A [(h0, .inr (7, [.ref q7, .ref q15, .ref q24, .int 0, .int 0, .ref q32, .ref q40, .ref q48, .int 0, .int 0, .int 0, .int 0, .int 0, .int 0, .int 0, .ref q56, .ref q65, .int 0, .null, .null, .null, .null, .int 0])), (q7, .inl (G.2.1, 8, .inl (fun _ => 0))), (q15, .inl (G.2.1, 8, .inl (fun _ => 0))), (q24, .inl (G.2.1, 320, .inl (fun _ => 0))), (q32, .inl (G.2.1, 36, .inl (fun _ => 0))), (q40, .inl (G.2.1, 40, .inl (fun _ => 0))), (q48, .inl (G.2.1, 100, .inl (fun _ => 0))), (q56, .inl (G.2.1, 36, .inl (fun _ => 0))), (q65, .inl (G.2.1, 864, .inl (fun _ => 0)))] := hD
  refine lv_aload_n hx hb dX7_init_70 rfl (lv_at hl 0 rfl) ?_
  refine lv_bipush (v := 36) hx hb dX7_init_71 (by decide) ?_
  refine va_newa (atype := .int) (ty := .int) (a0 := (36, .inl (fun _ => 0))) (N' := 36) hx hb (hts _ q_43) rfl hK hP hD hS hA (fun cA => rfl) (by decide) (by decide) (by decide) (Nat.le_of_ble_eq_true rfl) (Nat.le_of_ble_eq_true rfl) dX7_init_73 (fun q73 cA H hK2 hP hD hS => ?_)
  have eA := arr_I hK2
  subst eA
  have hP : va_P G.1 vwCl [(h0, .inr (7, [.ref q7, .ref q15, .ref q24, .int 0, .int 0, .ref q32, .ref q40, .ref q48, .int 0, .int 0, .int 0, .int 0, .int 0, .int 0, .int 0, .ref q56, .ref q65, .int 0, .null, .null, .null, .null, .int 0])), (q7, .inl (G.2.1, 8, .inl (fun _ => 0))), (q15, .inl (G.2.1, 8, .inl (fun _ => 0))), (q24, .inl (G.2.1, 320, .inl (fun _ => 0))), (q32, .inl (G.2.1, 36, .inl (fun _ => 0))), (q40, .inl (G.2.1, 40, .inl (fun _ => 0))), (q48, .inl (G.2.1, 100, .inl (fun _ => 0))), (q56, .inl (G.2.1, 36, .inl (fun _ => 0))), (q65, .inl (G.2.1, 864, .inl (fun _ => 0))), (q73, .inl (G.2.1, 36, .inl (fun _ => 0)))] H := hP
  have hD : va_D A [(h0, .inr (7, [.ref q7, .ref q15, .ref q24, .int 0, .int 0, .ref q32, .ref q40, .ref q48, .int 0, .int 0, .int 0, .int 0, .int 0, .int 0, .int 0, .ref q56, .ref q65, .int 0, .null, .null, .null, .null, .int 0])), (q7, .inl (G.2.1, 8, .inl (fun _ => 0))), (q15, .inl (G.2.1, 8, .inl (fun _ => 0))), (q24, .inl (G.2.1, 320, .inl (fun _ => 0))), (q32, .inl (G.2.1, 36, .inl (fun _ => 0))), (q40, .inl (G.2.1, 40, .inl (fun _ => 0))), (q48, .inl (G.2.1, 100, .inl (fun _ => 0))), (q56, .inl (G.2.1, 36, .inl (fun _ => 0))), (q65, .inl (G.2.1, 864, .inl (fun _ => 0))), (q73, .inl (G.2.1, 36, .inl (fun _ => 0)))] := hD
  refine va_putF (ci := 7) (v := .ref q73) (ty := .array .int) (C := RX7) (T := TX7) (N := 23) hx hb hts inlX7 tyX7 tyX7_ok nmX7 hown hK hP hD hS 0 rfl rfl 18 (by decide) (hts _ q_99) (fun _ h9 => h9) rfl hin rfl (by decide +kernel) rfl rfl (Nat.le_of_ble_eq_true rfl) dX7_init_75 (fun H locs hP hD hS => ?_)
  have hP : va_P G.1 vwCl [(h0, .inr (7, [.ref q7, .ref q15, .ref q24, .int 0, .int 0, .ref q32, .ref q40, .ref q48, .int 0, .int 0, .int 0, .int 0, .int 0, .int 0, .int 0, .ref q56, .ref q65, .int 0, .ref q73, .null, .null, .null, .int 0])), (q7, .inl (G.2.1, 8, .inl (fun _ => 0))), (q15, .inl (G.2.1, 8, .inl (fun _ => 0))), (q24, .inl (G.2.1, 320, .inl (fun _ => 0))), (q32, .inl (G.2.1, 36, .inl (fun _ => 0))), (q40, .inl (G.2.1, 40, .inl (fun _ => 0))), (q48, .inl (G.2.1, 100, .inl (fun _ => 0))), (q56, .inl (G.2.1, 36, .inl (fun _ => 0))), (q65, .inl (G.2.1, 864, .inl (fun _ => 0))), (q73, .inl (G.2.1, 36, .inl (fun _ => 0)))] H := hP
  have hD : va_D A [(h0, .inr (7, [.ref q7, .ref q15, .ref q24, .int 0, .int 0, .ref q32, .ref q40, .ref q48, .int 0, .int 0, .int 0, .int 0, .int 0, .int 0, .int 0, .ref q56, .ref q65, .int 0, .ref q73, .null, .null, .null, .int 0])), (q7, .inl (G.2.1, 8, .inl (fun _ => 0))), (q15, .inl (G.2.1, 8, .inl (fun _ => 0))), (q24, .inl (G.2.1, 320, .inl (fun _ => 0))), (q32, .inl (G.2.1, 36, .inl (fun _ => 0))), (q40, .inl (G.2.1, 40, .inl (fun _ => 0))), (q48, .inl (G.2.1, 100, .inl (fun _ => 0))), (q56, .inl (G.2.1, 36, .inl (fun _ => 0))), (q65, .inl (G.2.1, 864, .inl (fun _ => 0))), (q73, .inl (G.2.1, 36, .inl (fun _ => 0)))] := hD
  refine lv_aload_n hx hb dX7_init_78 rfl (lv_at hl 0 rfl) ?_
  refine lv_iconst (v := 2) hx hb dX7_init_79 (by decide) ?_
  refine va_newa (atype := .boolean) (ty := .boolean) (a0 := (2, .inl (fun _ => 0))) (N' := 2) hx hb (hts _ q_100) rfl hK hP hD hS hA (fun cA => rfl) (by decide) (by decide) (by decide) (Nat.le_of_ble_eq_true rfl) (Nat.le_of_ble_eq_true rfl) dX7_init_80 (fun q80 cA H hK2 hP hD hS => ?_)
  have eA := arr_Z hK2
  subst eA
  have hP : va_P G.1 vwCl [(h0, .inr (7, [.ref q7, .ref q15, .ref q24, .int 0, .int 0, .ref q32, .ref q40, .ref q48, .int 0, .int 0, .int 0, .int 0, .int 0, .int 0, .int 0, .ref q56, .ref q65, .int 0, .ref q73, .null, .null, .null, .int 0])), (q7, .inl (G.2.1, 8, .inl (fun _ => 0))), (q15, .inl (G.2.1, 8, .inl (fun _ => 0))), (q24, .inl (G.2.1, 320, .inl (fun _ => 0))), (q32, .inl (G.2.1, 36, .inl (fun _ => 0))), (q40, .inl (G.2.1, 40, .inl (fun _ => 0))), (q48, .inl (G.2.1, 100, .inl (fun _ => 0))), (q56, .inl (G.2.1, 36, .inl (fun _ => 0))), (q65, .inl (G.2.1, 864, .inl (fun _ => 0))), (q73, .inl (G.2.1, 36, .inl (fun _ => 0))), (q80, .inl (G.2.2.1, 2, .inl (fun _ => 0)))] H := hP
  have hD : va_D A [(h0, .inr (7, [.ref q7, .ref q15, .ref q24, .int 0, .int 0, .ref q32, .ref q40, .ref q48, .int 0, .int 0, .int 0, .int 0, .int 0, .int 0, .int 0, .ref q56, .ref q65, .int 0, .ref q73, .null, .null, .null, .int 0])), (q7, .inl (G.2.1, 8, .inl (fun _ => 0))), (q15, .inl (G.2.1, 8, .inl (fun _ => 0))), (q24, .inl (G.2.1, 320, .inl (fun _ => 0))), (q32, .inl (G.2.1, 36, .inl (fun _ => 0))), (q40, .inl (G.2.1, 40, .inl (fun _ => 0))), (q48, .inl (G.2.1, 100, .inl (fun _ => 0))), (q56, .inl (G.2.1, 36, .inl (fun _ => 0))), (q65, .inl (G.2.1, 864, .inl (fun _ => 0))), (q73, .inl (G.2.1, 36, .inl (fun _ => 0))), (q80, .inl (G.2.2.1, 2, .inl (fun _ => 0)))] := hD
  refine va_putF (ci := 7) (v := .ref q80) (ty := .array .boolean) (C := RX7) (T := TX7) (N := 23) hx hb hts inlX7 tyX7 tyX7_ok nmX7 hown hK hP hD hS 0 rfl rfl 19 (by decide) (hts _ q_101) (fun _ h9 => h9) rfl hin rfl (by decide +kernel) rfl rfl (Nat.le_of_ble_eq_true rfl) dX7_init_82 (fun H locs hP hD hS => ?_)
  have hP : va_P G.1 vwCl [(h0, .inr (7, [.ref q7, .ref q15, .ref q24, .int 0, .int 0, .ref q32, .ref q40, .ref q48, .int 0, .int 0, .int 0, .int 0, .int 0, .int 0, .int 0, .ref q56, .ref q65, .int 0, .ref q73, .ref q80, .null, .null, .int 0])), (q7, .inl (G.2.1, 8, .inl (fun _ => 0))), (q15, .inl (G.2.1, 8, .inl (fun _ => 0))), (q24, .inl (G.2.1, 320, .inl (fun _ => 0))), (q32, .inl (G.2.1, 36, .inl (fun _ => 0))), (q40, .inl (G.2.1, 40, .inl (fun _ => 0))), (q48, .inl (G.2.1, 100, .inl (fun _ => 0))), (q56, .inl (G.2.1, 36, .inl (fun _ => 0))), (q65, .inl (G.2.1, 864, .inl (fun _ => 0))), (q73, .inl (G.2.1, 36, .inl (fun _ => 0))), (q80, .inl (G.2.2.1, 2, .inl (fun _ => 0)))] H := hP
  have hD : va_D A [(h0, .inr (7, [.ref q7, .ref q15, .ref q24, .int 0, .int 0, .ref q32, .ref q40, .ref q48, .int 0, .int 0, .int 0, .int 0, .int 0, .int 0, .int 0, .ref q56, .ref q65, .int 0, .ref q73, .ref q80, .null, .null, .int 0])), (q7, .inl (G.2.1, 8, .inl (fun _ => 0))), (q15, .inl (G.2.1, 8, .inl (fun _ => 0))), (q24, .inl (G.2.1, 320, .inl (fun _ => 0))), (q32, .inl (G.2.1, 36, .inl (fun _ => 0))), (q40, .inl (G.2.1, 40, .inl (fun _ => 0))), (q48, .inl (G.2.1, 100, .inl (fun _ => 0))), (q56, .inl (G.2.1, 36, .inl (fun _ => 0))), (q65, .inl (G.2.1, 864, .inl (fun _ => 0))), (q73, .inl (G.2.1, 36, .inl (fun _ => 0))), (q80, .inl (G.2.2.1, 2, .inl (fun _ => 0)))] := hD
  refine lv_aload_n hx hb dX7_init_85 rfl (lv_at hl 0 rfl) ?_
  refine lv_bipush (v := 72) hx hb dX7_init_86 (by decide) ?_
  refine va_newa (atype := .int) (ty := .int) (a0 := (72, .inl (fun _ => 0))) (N' := 72) hx hb (hts _ q_43) rfl hK hP hD hS hA (fun cA => rfl) (by decide) (by decide) (by decide) (Nat.le_of_ble_eq_true rfl) (Nat.le_of_ble_eq_true rfl) dX7_init_88 (fun q88 cA H hK2 hP hD hS => ?_)
  have eA := arr_I hK2
  subst eA
  have hP : va_P G.1 vwCl [(h0, .inr (7, [.ref q7, .ref q15, .ref q24, .int 0, .int 0, .ref q32, .ref q40, .ref q48, .int 0, .int 0, .int 0, .int 0, .int 0, .int 0, .int 0, .ref q56, .ref q65, .int 0, .ref q73, .ref q80, .null, .null, .int 0])), (q7, .inl (G.2.1, 8, .inl (fun _ => 0))), (q15, .inl (G.2.1, 8, .inl (fun _ => 0))), (q24, .inl (G.2.1, 320, .inl (fun _ => 0))), (q32, .inl (G.2.1, 36, .inl (fun _ => 0))), (q40, .inl (G.2.1, 40, .inl (fun _ => 0))), (q48, .inl (G.2.1, 100, .inl (fun _ => 0))), (q56, .inl (G.2.1, 36, .inl (fun _ => 0))), (q65, .inl (G.2.1, 864, .inl (fun _ => 0))), (q73, .inl (G.2.1, 36, .inl (fun _ => 0))), (q80, .inl (G.2.2.1, 2, .inl (fun _ => 0))), (q88, .inl (G.2.1, 72, .inl (fun _ => 0)))] H := hP
  have hD : va_D A [(h0, .inr (7, [.ref q7, .ref q15, .ref q24, .int 0, .int 0, .ref q32, .ref q40, .ref q48, .int 0, .int 0, .int 0, .int 0, .int 0, .int 0, .int 0, .ref q56, .ref q65, .int 0, .ref q73, .ref q80, .null, .null, .int 0])), (q7, .inl (G.2.1, 8, .inl (fun _ => 0))), (q15, .inl (G.2.1, 8, .inl (fun _ => 0))), (q24, .inl (G.2.1, 320, .inl (fun _ => 0))), (q32, .inl (G.2.1, 36, .inl (fun _ => 0))), (q40, .inl (G.2.1, 40, .inl (fun _ => 0))), (q48, .inl (G.2.1, 100, .inl (fun _ => 0))), (q56, .inl (G.2.1, 36, .inl (fun _ => 0))), (q65, .inl (G.2.1, 864, .inl (fun _ => 0))), (q73, .inl (G.2.1, 36, .inl (fun _ => 0))), (q80, .inl (G.2.2.1, 2, .inl (fun _ => 0))), (q88, .inl (G.2.1, 72, .inl (fun _ => 0)))] := hD
  refine va_putF (ci := 7) (v := .ref q88) (ty := .array .int) (C := RX7) (T := TX7) (N := 23) hx hb hts inlX7 tyX7 tyX7_ok nmX7 hown hK hP hD hS 0 rfl rfl 20 (by decide) (hts _ q_102) (fun _ h9 => h9) rfl hin rfl (by decide +kernel) rfl rfl (Nat.le_of_ble_eq_true rfl) dX7_init_90 (fun H locs hP hD hS => ?_)
  have hP : va_P G.1 vwCl [(h0, .inr (7, [.ref q7, .ref q15, .ref q24, .int 0, .int 0, .ref q32, .ref q40, .ref q48, .int 0, .int 0, .int 0, .int 0, .int 0, .int 0, .int 0, .ref q56, .ref q65, .int 0, .ref q73, .ref q80, .ref q88, .null, .int 0])), (q7, .inl (G.2.1, 8, .inl (fun _ => 0))), (q15, .inl (G.2.1, 8, .inl (fun _ => 0))), (q24, .inl (G.2.1, 320, .inl (fun _ => 0))), (q32, .inl (G.2.1, 36, .inl (fun _ => 0))), (q40, .inl (G.2.1, 40, .inl (fun _ => 0))), (q48, .inl (G.2.1, 100, .inl (fun _ => 0))), (q56, .inl (G.2.1, 36, .inl (fun _ => 0))), (q65, .inl (G.2.1, 864, .inl (fun _ => 0))), (q73, .inl (G.2.1, 36, .inl (fun _ => 0))), (q80, .inl (G.2.2.1, 2, .inl (fun _ => 0))), (q88, .inl (G.2.1, 72, .inl (fun _ => 0)))] H := hP
  have hD : va_D A [(h0, .inr (7, [.ref q7, .ref q15, .ref q24, .int 0, .int 0, .ref q32, .ref q40, .ref q48, .int 0, .int 0, .int 0, .int 0, .int 0, .int 0, .int 0, .ref q56, .ref q65, .int 0, .ref q73, .ref q80, .ref q88, .null, .int 0])), (q7, .inl (G.2.1, 8, .inl (fun _ => 0))), (q15, .inl (G.2.1, 8, .inl (fun _ => 0))), (q24, .inl (G.2.1, 320, .inl (fun _ => 0))), (q32, .inl (G.2.1, 36, .inl (fun _ => 0))), (q40, .inl (G.2.1, 40, .inl (fun _ => 0))), (q48, .inl (G.2.1, 100, .inl (fun _ => 0))), (q56, .inl (G.2.1, 36, .inl (fun _ => 0))), (q65, .inl (G.2.1, 864, .inl (fun _ => 0))), (q73, .inl (G.2.1, 36, .inl (fun _ => 0))), (q80, .inl (G.2.2.1, 2, .inl (fun _ => 0))), (q88, .inl (G.2.1, 72, .inl (fun _ => 0)))] := hD
  refine lv_aload_n hx hb dX7_init_93 rfl (lv_at hl 0 rfl) ?_
  refine lv_bipush (v := 16) hx hb dX7_init_94 (by decide) ?_
  refine va_newa (atype := .int) (ty := .int) (a0 := (16, .inl (fun _ => 0))) (N' := 16) hx hb (hts _ q_43) rfl hK hP hD hS hA (fun cA => rfl) (by decide) (by decide) (by decide) (Nat.le_of_ble_eq_true rfl) (Nat.le_of_ble_eq_true rfl) dX7_init_96 (fun q96 cA H hK2 hP hD hS => ?_)
  have eA := arr_I hK2
  subst eA
  have hP : va_P G.1 vwCl [(h0, .inr (7, [.ref q7, .ref q15, .ref q24, .int 0, .int 0, .ref q32, .ref q40, .ref q48, .int 0, .int 0, .int 0, .int 0, .int 0, .int 0, .int 0, .ref q56, .ref q65, .int 0, .ref q73, .ref q80, .ref q88, .null, .int 0])), (q7, .inl (G.2.1, 8, .inl (fun _ => 0))), (q15, .inl (G.2.1, 8, .inl (fun _ => 0))), (q24, .inl (G.2.1, 320, .inl (fun _ => 0))), (q32, .inl (G.2.1, 36, .inl (fun _ => 0))), (q40, .inl (G.2.1, 40, .inl (fun _ => 0))), (q48, .inl (G.2.1, 100, .inl (fun _ => 0))), (q56, .inl (G.2.1, 36, .inl (fun _ => 0))), (q65, .inl (G.2.1, 864, .inl (fun _ => 0))), (q73, .inl (G.2.1, 36, .inl (fun _ => 0))), (q80, .inl (G.2.2.1, 2, .inl (fun _ => 0))), (q88, .inl (G.2.1, 72, .inl (fun _ => 0))), (q96, .inl (G.2.1, 16, .inl (fun _ => 0)))] H := hP
  have hD : va_D A [(h0, .inr (7, [.ref q7, .ref q15, .ref q24, .int 0, .int 0, .ref q32, .ref q40, .ref q48, .int 0, .int 0, .int 0, .int 0, .int 0, .int 0, .int 0, .ref q56, .ref q65, .int 0, .ref q73, .ref q80, .ref q88, .null, .int 0])), (q7, .inl (G.2.1, 8, .inl (fun _ => 0))), (q15, .inl (G.2.1, 8, .inl (fun _ => 0))), (q24, .inl (G.2.1, 320, .inl (fun _ => 0))), (q32, .inl (G.2.1, 36, .inl (fun _ => 0))), (q40, .inl (G.2.1, 40, .inl (fun _ => 0))), (q48, .inl (G.2.1, 100, .inl (fun _ => 0))), (q56, .inl (G.2.1, 36, .inl (fun _ => 0))), (q65, .inl (G.2.1, 864, .inl (fun _ => 0))), (q73, .inl (G.2.1, 36, .inl (fun _ => 0))), (q80, .inl (G.2.2.1, 2, .inl (fun _ => 0))), (q88, .inl (G.2.1, 72, .inl (fun _ => 0))), (q96, .inl (G.2.1, 16, .inl (fun _ => 0)))] := hD
  refine va_putF (ci := 7) (v := .ref q96) (ty := .array .int) (C := RX7) (T := TX7) (N := 23) hx hb hts inlX7 tyX7 tyX7_ok nmX7 hown hK hP hD hS 0 rfl rfl 21 (by decide) (hts _ q_103) (fun _ h9 => h9) rfl hin rfl (by decide +kernel) rfl rfl (Nat.le_of_ble_eq_true rfl) dX7_init_98 (fun H locs hP hD hS => ?_)
  have hP : va_P G.1 vwCl [(h0, .inr (7, [.ref q7, .ref q15, .ref q24, .int 0, .int 0, .ref q32, .ref q40, .ref q48, .int 0, .int 0, .int 0, .int 0, .int 0, .int 0, .int 0, .ref q56, .ref q65, .int 0, .ref q73, .ref q80, .ref q88, .ref q96, .int 0])), (q7, .inl (G.2.1, 8, .inl (fun _ => 0))), (q15, .inl (G.2.1, 8, .inl (fun _ => 0))), (q24, .inl (G.2.1, 320, .inl (fun _ => 0))), (q32, .inl (G.2.1, 36, .inl (fun _ => 0))), (q40, .inl (G.2.1, 40, .inl (fun _ => 0))), (q48, .inl (G.2.1, 100, .inl (fun _ => 0))), (q56, .inl (G.2.1, 36, .inl (fun _ => 0))), (q65, .inl (G.2.1, 864, .inl (fun _ => 0))), (q73, .inl (G.2.1, 36, .inl (fun _ => 0))), (q80, .inl (G.2.2.1, 2, .inl (fun _ => 0))), (q88, .inl (G.2.1, 72, .inl (fun _ => 0))), (q96, .inl (G.2.1, 16, .inl (fun _ => 0)))] H := hP
  have hD : va_D A [(h0, .inr (7, [.ref q7, .ref q15, .ref q24, .int 0, .int 0, .ref q32, .ref q40, .ref q48, .int 0, .int 0, .int 0, .int 0, .int 0, .int 0, .int 0, .ref q56, .ref q65, .int 0, .ref q73, .ref q80, .ref q88, .ref q96, .int 0])), (q7, .inl (G.2.1, 8, .inl (fun _ => 0))), (q15, .inl (G.2.1, 8, .inl (fun _ => 0))), (q24, .inl (G.2.1, 320, .inl (fun _ => 0))), (q32, .inl (G.2.1, 36, .inl (fun _ => 0))), (q40, .inl (G.2.1, 40, .inl (fun _ => 0))), (q48, .inl (G.2.1, 100, .inl (fun _ => 0))), (q56, .inl (G.2.1, 36, .inl (fun _ => 0))), (q65, .inl (G.2.1, 864, .inl (fun _ => 0))), (q73, .inl (G.2.1, 36, .inl (fun _ => 0))), (q80, .inl (G.2.2.1, 2, .inl (fun _ => 0))), (q88, .inl (G.2.1, 72, .inl (fun _ => 0))), (q96, .inl (G.2.1, 16, .inl (fun _ => 0)))] := hD
  refine lv_iconst (v := 0) hx hb dX7_init_101 (by decide) ?_
  refine lv_istore_n (nL := 2) (lv' := [(1, .int 0), (0, .ref h0)]) hx hb dX7_init_102 rfl hl (by decide) rfl (fun ls hl => ?_)
  have hP : va_P G.1 vwCl [(h0, .inr (7, [.ref q7, .ref q15, .ref q24, .int 0, .int 0, .ref q32, .ref q40, .ref q48, .int 0, .int 0, .int 0, .int 0, .int 0, .int 0, .int 0, .ref q56, .ref q65, .int 0, .ref q73, .ref q80, .ref q88, .ref q96, .int 0])), (q7, .inl (G.2.1, 8, .inl (fun _ => 0))), (q15, .inl (G.2.1, 8, .inl (mz 0))), (q24, .inl (G.2.1, 320, .inl (fun _ => 0))), (q32, .inl (G.2.1, 36, .inl (fun _ => 0))), (q40, .inl (G.2.1, 40, .inl (fun _ => 0))), (q48, .inl (G.2.1, 100, .inl (fun _ => 0))), (q56, .inl (G.2.1, 36, .inl (fun _ => 0))), (q65, .inl (G.2.1, 864, .inl (fun _ => 0))), (q73, .inl (G.2.1, 36, .inl (fun _ => 0))), (q80, .inl (G.2.2.1, 2, .inl (fun _ => 0))), (q88, .inl (G.2.1, 72, .inl (fun _ => 0))), (q96, .inl (G.2.1, 16, .inl (fun _ => 0)))] H := by rw [mz_0]; exact hP
  have hD : va_D A [(h0, .inr (7, [.ref q7, .ref q15, .ref q24, .int 0, .int 0, .ref q32, .ref q40, .ref q48, .int 0, .int 0, .int 0, .int 0, .int 0, .int 0, .int 0, .ref q56, .ref q65, .int 0, .ref q73, .ref q80, .ref q88, .ref q96, .int 0])), (q7, .inl (G.2.1, 8, .inl (fun _ => 0))), (q15, .inl (G.2.1, 8, .inl (mz 0))), (q24, .inl (G.2.1, 320, .inl (fun _ => 0))), (q32, .inl (G.2.1, 36, .inl (fun _ => 0))), (q40, .inl (G.2.1, 40, .inl (fun _ => 0))), (q48, .inl (G.2.1, 100, .inl (fun _ => 0))), (q56, .inl (G.2.1, 36, .inl (fun _ => 0))), (q65, .inl (G.2.1, 864, .inl (fun _ => 0))), (q73, .inl (G.2.1, 36, .inl (fun _ => 0))), (q80, .inl (G.2.2.1, 2, .inl (fun _ => 0))), (q88, .inl (G.2.1, 72, .inl (fun _ => 0))), (q96, .inl (G.2.1, 16, .inl (fun _ => 0)))] := by rw [mz_0]; exact hD
  refine lv_iload_n hx hb dX7_init_103 rfl (lv_at hl 0 rfl) ?_
  refine lv_bipush (v := 8) hx hb dX7_init_104 (by decide) ?_
  refine lv_icmp_ge hx hb dX7_init_106 (tgt := 122) (by decide) (fun h9 => absurd h9 (by decide)) (fun _ => ?_)
  refine lv_aload_n hx hb dX7_init_109 rfl (lv_at hl 1 rfl) ?_
  refine va_get (ci := 7) (v := .ref q15) (C := RX7) (T := TX7) (N := 23) hx hb hts inlX7 hown hK hP 0 rfl rfl 1 (by decide) (hts _ q_92) (fun _ h9 => h9) rfl dX7_init_110 ?_
  refine lv_iload_n hx hb dX7_init_113 rfl (lv_at hl 0 rfl) ?_
  refine lv_iconst (v := -1) hx hb dX7_init_114 (by decide) ?_
  refine va_iast (n := 8) (f := mz 0) (i := 0) hx hb hK hP hD hS 2 0 rfl rfl (by unfold vp_in; decide) dX7_init_115 (fun H locs hP hD hS => ?_)
  have hP : va_P G.1 vwCl [(h0, .inr (7, [.ref q7, .ref q15, .ref q24, .int 0, .int 0, .ref q32, .ref q40, .ref q48, .int 0, .int 0, .int 0, .int 0, .int 0, .int 0, .int 0, .ref q56, .ref q65, .int 0, .ref q73, .ref q80, .ref q88, .ref q96, .int 0])), (q7, .inl (G.2.1, 8, .inl (fun _ => 0))), (q15, .inl (G.2.1, 8, .inl (mz 1))), (q24, .inl (G.2.1, 320, .inl (fun _ => 0))), (q32, .inl (G.2.1, 36, .inl (fun _ => 0))), (q40, .inl (G.2.1, 40, .inl (fun _ => 0))), (q48, .inl (G.2.1, 100, .inl (fun _ => 0))), (q56, .inl (G.2.1, 36, .inl (fun _ => 0))), (q65, .inl (G.2.1, 864, .inl (fun _ => 0))), (q73, .inl (G.2.1, 36, .inl (fun _ => 0))), (q80, .inl (G.2.2.1, 2, .inl (fun _ => 0))), (q88, .inl (G.2.1, 72, .inl (fun _ => 0))), (q96, .inl (G.2.1, 16, .inl (fun _ => 0)))] H := by rw [mz_up 0]; exact hP
  have hD : va_D A [(h0, .inr (7, [.ref q7, .ref q15, .ref q24, .int 0, .int 0, .ref q32, .ref q40, .ref q48, .int 0, .int 0, .int 0, .int 0, .int 0, .int 0, .int 0, .ref q56, .ref q65, .int 0, .ref q73, .ref q80, .ref q88, .ref q96, .int 0])), (q7, .inl (G.2.1, 8, .inl (fun _ => 0))), (q15, .inl (G.2.1, 8, .inl (mz 1))), (q24, .inl (G.2.1, 320, .inl (fun _ => 0))), (q32, .inl (G.2.1, 36, .inl (fun _ => 0))), (q40, .inl (G.2.1, 40, .inl (fun _ => 0))), (q48, .inl (G.2.1, 100, .inl (fun _ => 0))), (q56, .inl (G.2.1, 36, .inl (fun _ => 0))), (q65, .inl (G.2.1, 864, .inl (fun _ => 0))), (q73, .inl (G.2.1, 36, .inl (fun _ => 0))), (q80, .inl (G.2.2.1, 2, .inl (fun _ => 0))), (q88, .inl (G.2.1, 72, .inl (fun _ => 0))), (q96, .inl (G.2.1, 16, .inl (fun _ => 0)))] := by rw [mz_up 0]; exact hD
  refine lv_iinc (nL := 2) (v := 1) (lv' := [(1, .int 1), (0, .ref h0)]) hx hb dX7_init_116 hl (k := 0) rfl (by decide) (by decide) rfl (fun ls hl => ?_)
  refine lv_goto hx hb dX7_init_119 (tgt := 103) (by decide) ?_
  refine lv_iload_n hx hb dX7_init_103 rfl (lv_at hl 0 rfl) ?_
  refine lv_bipush (v := 8) hx hb dX7_init_104 (by decide) ?_
  refine lv_icmp_ge hx hb dX7_init_106 (tgt := 122) (by decide) (fun h9 => absurd h9 (by decide)) (fun _ => ?_)
  refine lv_aload_n hx hb dX7_init_109 rfl (lv_at hl 1 rfl) ?_
  refine va_get (ci := 7) (v := .ref q15) (C := RX7) (T := TX7) (N := 23) hx hb hts inlX7 hown hK hP 0 rfl rfl 1 (by decide) (hts _ q_92) (fun _ h9 => h9) rfl dX7_init_110 ?_
  refine lv_iload_n hx hb dX7_init_113 rfl (lv_at hl 0 rfl) ?_
  refine lv_iconst (v := -1) hx hb dX7_init_114 (by decide) ?_
  refine va_iast (n := 8) (f := mz 1) (i := 1) hx hb hK hP hD hS 2 0 rfl rfl (by unfold vp_in; decide) dX7_init_115 (fun H locs hP hD hS => ?_)
  have hP : va_P G.1 vwCl [(h0, .inr (7, [.ref q7, .ref q15, .ref q24, .int 0, .int 0, .ref q32, .ref q40, .ref q48, .int 0, .int 0, .int 0, .int 0, .int 0, .int 0, .int 0, .ref q56, .ref q65, .int 0, .ref q73, .ref q80, .ref q88, .ref q96, .int 0])), (q7, .inl (G.2.1, 8, .inl (fun _ => 0))), (q15, .inl (G.2.1, 8, .inl (mz 2))), (q24, .inl (G.2.1, 320, .inl (fun _ => 0))), (q32, .inl (G.2.1, 36, .inl (fun _ => 0))), (q40, .inl (G.2.1, 40, .inl (fun _ => 0))), (q48, .inl (G.2.1, 100, .inl (fun _ => 0))), (q56, .inl (G.2.1, 36, .inl (fun _ => 0))), (q65, .inl (G.2.1, 864, .inl (fun _ => 0))), (q73, .inl (G.2.1, 36, .inl (fun _ => 0))), (q80, .inl (G.2.2.1, 2, .inl (fun _ => 0))), (q88, .inl (G.2.1, 72, .inl (fun _ => 0))), (q96, .inl (G.2.1, 16, .inl (fun _ => 0)))] H := by rw [mz_up 1]; exact hP
  have hD : va_D A [(h0, .inr (7, [.ref q7, .ref q15, .ref q24, .int 0, .int 0, .ref q32, .ref q40, .ref q48, .int 0, .int 0, .int 0, .int 0, .int 0, .int 0, .int 0, .ref q56, .ref q65, .int 0, .ref q73, .ref q80, .ref q88, .ref q96, .int 0])), (q7, .inl (G.2.1, 8, .inl (fun _ => 0))), (q15, .inl (G.2.1, 8, .inl (mz 2))), (q24, .inl (G.2.1, 320, .inl (fun _ => 0))), (q32, .inl (G.2.1, 36, .inl (fun _ => 0))), (q40, .inl (G.2.1, 40, .inl (fun _ => 0))), (q48, .inl (G.2.1, 100, .inl (fun _ => 0))), (q56, .inl (G.2.1, 36, .inl (fun _ => 0))), (q65, .inl (G.2.1, 864, .inl (fun _ => 0))), (q73, .inl (G.2.1, 36, .inl (fun _ => 0))), (q80, .inl (G.2.2.1, 2, .inl (fun _ => 0))), (q88, .inl (G.2.1, 72, .inl (fun _ => 0))), (q96, .inl (G.2.1, 16, .inl (fun _ => 0)))] := by rw [mz_up 1]; exact hD
  refine lv_iinc (nL := 2) (v := 2) (lv' := [(1, .int 2), (0, .ref h0)]) hx hb dX7_init_116 hl (k := 0) rfl (by decide) (by decide) rfl (fun ls hl => ?_)
  refine lv_goto hx hb dX7_init_119 (tgt := 103) (by decide) ?_
  refine lv_iload_n hx hb dX7_init_103 rfl (lv_at hl 0 rfl) ?_
  refine lv_bipush (v := 8) hx hb dX7_init_104 (by decide) ?_
  refine lv_icmp_ge hx hb dX7_init_106 (tgt := 122) (by decide) (fun h9 => absurd h9 (by decide)) (fun _ => ?_)
  refine lv_aload_n hx hb dX7_init_109 rfl (lv_at hl 1 rfl) ?_
  refine va_get (ci := 7) (v := .ref q15) (C := RX7) (T := TX7) (N := 23) hx hb hts inlX7 hown hK hP 0 rfl rfl 1 (by decide) (hts _ q_92) (fun _ h9 => h9) rfl dX7_init_110 ?_
  refine lv_iload_n hx hb dX7_init_113 rfl (lv_at hl 0 rfl) ?_
  refine lv_iconst (v := -1) hx hb dX7_init_114 (by decide) ?_
  refine va_iast (n := 8) (f := mz 2) (i := 2) hx hb hK hP hD hS 2 0 rfl rfl (by unfold vp_in; decide) dX7_init_115 (fun H locs hP hD hS => ?_)
  have hP : va_P G.1 vwCl [(h0, .inr (7, [.ref q7, .ref q15, .ref q24, .int 0, .int 0, .ref q32, .ref q40, .ref q48, .int 0, .int 0, .int 0, .int 0, .int 0, .int 0, .int 0, .ref q56, .ref q65, .int 0, .ref q73, .ref q80, .ref q88, .ref q96, .int 0])), (q7, .inl (G.2.1, 8, .inl (fun _ => 0))), (q15, .inl (G.2.1, 8, .inl (mz 3))), (q24, .inl (G.2.1, 320, .inl (fun _ => 0))), (q32, .inl (G.2.1, 36, .inl (fun _ => 0))), (q40, .inl (G.2.1, 40, .inl (fun _ => 0))), (q48, .inl (G.2.1, 100, .inl (fun _ => 0))), (q56, .inl (G.2.1, 36, .inl (fun _ => 0))), (q65, .inl (G.2.1, 864, .inl (fun _ => 0))), (q73, .inl (G.2.1, 36, .inl (fun _ => 0))), (q80, .inl (G.2.2.1, 2, .inl (fun _ => 0))), (q88, .inl (G.2.1, 72, .inl (fun _ => 0))), (q96, .inl (G.2.1, 16, .inl (fun _ => 0)))] H := by rw [mz_up 2]; exact hP
  have hD : va_D A [(h0, .inr (7, [.ref q7, .ref q15, .ref q24, .int 0, .int 0, .ref q32, .ref q40, .ref q48, .int 0, .int 0, .int 0, .int 0, .int 0, .int 0, .int 0, .ref q56, .ref q65, .int 0, .ref q73, .ref q80, .ref q88, .ref q96, .int 0])), (q7, .inl (G.2.1, 8, .inl (fun _ => 0))), (q15, .inl (G.2.1, 8, .inl (mz 3))), (q24, .inl (G.2.1, 320, .inl (fun _ => 0))), (q32, .inl (G.2.1, 36, .inl (fun _ => 0))), (q40, .inl (G.2.1, 40, .inl (fun _ => 0))), (q48, .inl (G.2.1, 100, .inl (fun _ => 0))), (q56, .inl (G.2.1, 36, .inl (fun _ => 0))), (q65, .inl (G.2.1, 864, .inl (fun _ => 0))), (q73, .inl (G.2.1, 36, .inl (fun _ => 0))), (q80, .inl (G.2.2.1, 2, .inl (fun _ => 0))), (q88, .inl (G.2.1, 72, .inl (fun _ => 0))), (q96, .inl (G.2.1, 16, .inl (fun _ => 0)))] := by rw [mz_up 2]; exact hD
  refine lv_iinc (nL := 2) (v := 3) (lv' := [(1, .int 3), (0, .ref h0)]) hx hb dX7_init_116 hl (k := 0) rfl (by decide) (by decide) rfl (fun ls hl => ?_)
  refine lv_goto hx hb dX7_init_119 (tgt := 103) (by decide) ?_
  refine lv_iload_n hx hb dX7_init_103 rfl (lv_at hl 0 rfl) ?_
  refine lv_bipush (v := 8) hx hb dX7_init_104 (by decide) ?_
  refine lv_icmp_ge hx hb dX7_init_106 (tgt := 122) (by decide) (fun h9 => absurd h9 (by decide)) (fun _ => ?_)
  refine lv_aload_n hx hb dX7_init_109 rfl (lv_at hl 1 rfl) ?_
  refine va_get (ci := 7) (v := .ref q15) (C := RX7) (T := TX7) (N := 23) hx hb hts inlX7 hown hK hP 0 rfl rfl 1 (by decide) (hts _ q_92) (fun _ h9 => h9) rfl dX7_init_110 ?_
  refine lv_iload_n hx hb dX7_init_113 rfl (lv_at hl 0 rfl) ?_
  refine lv_iconst (v := -1) hx hb dX7_init_114 (by decide) ?_
  refine va_iast (n := 8) (f := mz 3) (i := 3) hx hb hK hP hD hS 2 0 rfl rfl (by unfold vp_in; decide) dX7_init_115 (fun H locs hP hD hS => ?_)
  have hP : va_P G.1 vwCl [(h0, .inr (7, [.ref q7, .ref q15, .ref q24, .int 0, .int 0, .ref q32, .ref q40, .ref q48, .int 0, .int 0, .int 0, .int 0, .int 0, .int 0, .int 0, .ref q56, .ref q65, .int 0, .ref q73, .ref q80, .ref q88, .ref q96, .int 0])), (q7, .inl (G.2.1, 8, .inl (fun _ => 0))), (q15, .inl (G.2.1, 8, .inl (mz 4))), (q24, .inl (G.2.1, 320, .inl (fun _ => 0))), (q32, .inl (G.2.1, 36, .inl (fun _ => 0))), (q40, .inl (G.2.1, 40, .inl (fun _ => 0))), (q48, .inl (G.2.1, 100, .inl (fun _ => 0))), (q56, .inl (G.2.1, 36, .inl (fun _ => 0))), (q65, .inl (G.2.1, 864, .inl (fun _ => 0))), (q73, .inl (G.2.1, 36, .inl (fun _ => 0))), (q80, .inl (G.2.2.1, 2, .inl (fun _ => 0))), (q88, .inl (G.2.1, 72, .inl (fun _ => 0))), (q96, .inl (G.2.1, 16, .inl (fun _ => 0)))] H := by rw [mz_up 3]; exact hP
  have hD : va_D A [(h0, .inr (7, [.ref q7, .ref q15, .ref q24, .int 0, .int 0, .ref q32, .ref q40, .ref q48, .int 0, .int 0, .int 0, .int 0, .int 0, .int 0, .int 0, .ref q56, .ref q65, .int 0, .ref q73, .ref q80, .ref q88, .ref q96, .int 0])), (q7, .inl (G.2.1, 8, .inl (fun _ => 0))), (q15, .inl (G.2.1, 8, .inl (mz 4))), (q24, .inl (G.2.1, 320, .inl (fun _ => 0))), (q32, .inl (G.2.1, 36, .inl (fun _ => 0))), (q40, .inl (G.2.1, 40, .inl (fun _ => 0))), (q48, .inl (G.2.1, 100, .inl (fun _ => 0))), (q56, .inl (G.2.1, 36, .inl (fun _ => 0))), (q65, .inl (G.2.1, 864, .inl (fun _ => 0))), (q73, .inl (G.2.1, 36, .inl (fun _ => 0))), (q80, .inl (G.2.2.1, 2, .inl (fun _ => 0))), (q88, .inl (G.2.1, 72, .inl (fun _ => 0))), (q96, .inl (G.2.1, 16, .inl (fun _ => 0)))] := by rw [mz_up 3]; exact hD
  refine lv_iinc (nL := 2) (v := 4) (lv' := [(1, .int 4), (0, .ref h0)]) hx hb dX7_init_116 hl (k := 0) rfl (by decide) (by decide) rfl (fun ls hl => ?_)
  refine lv_goto hx hb dX7_init_119 (tgt := 103) (by decide) ?_
  refine lv_iload_n hx hb dX7_init_103 rfl (lv_at hl 0 rfl) ?_
  refine lv_bipush (v := 8) hx hb dX7_init_104 (by decide) ?_
  refine lv_icmp_ge hx hb dX7_init_106 (tgt := 122) (by decide) (fun h9 => absurd h9 (by decide)) (fun _ => ?_)
  refine lv_aload_n hx hb dX7_init_109 rfl (lv_at hl 1 rfl) ?_
  refine va_get (ci := 7) (v := .ref q15) (C := RX7) (T := TX7) (N := 23) hx hb hts inlX7 hown hK hP 0 rfl rfl 1 (by decide) (hts _ q_92) (fun _ h9 => h9) rfl dX7_init_110 ?_
  refine lv_iload_n hx hb dX7_init_113 rfl (lv_at hl 0 rfl) ?_
  refine lv_iconst (v := -1) hx hb dX7_init_114 (by decide) ?_
  refine va_iast (n := 8) (f := mz 4) (i := 4) hx hb hK hP hD hS 2 0 rfl rfl (by unfold vp_in; decide) dX7_init_115 (fun H locs hP hD hS => ?_)
  have hP : va_P G.1 vwCl [(h0, .inr (7, [.ref q7, .ref q15, .ref q24, .int 0, .int 0, .ref q32, .ref q40, .ref q48, .int 0, .int 0, .int 0, .int 0, .int 0, .int 0, .int 0, .ref q56, .ref q65, .int 0, .ref q73, .ref q80, .ref q88, .ref q96, .int 0])), (q7, .inl (G.2.1, 8, .inl (fun _ => 0))), (q15, .inl (G.2.1, 8, .inl (mz 5))), (q24, .inl (G.2.1, 320, .inl (fun _ => 0))), (q32, .inl (G.2.1, 36, .inl (fun _ => 0))), (q40, .inl (G.2.1, 40, .inl (fun _ => 0))), (q48, .inl (G.2.1, 100, .inl (fun _ => 0))), (q56, .inl (G.2.1, 36, .inl (fun _ => 0))), (q65, .inl (G.2.1, 864, .inl (fun _ => 0))), (q73, .inl (G.2.1, 36, .inl (fun _ => 0))), (q80, .inl (G.2.2.1, 2, .inl (fun _ => 0))), (q88, .inl (G.2.1, 72, .inl (fun _ => 0))), (q96, .inl (G.2.1, 16, .inl (fun _ => 0)))] H := by rw [mz_up 4]; exact hP
  have hD : va_D A [(h0, .inr (7, [.ref q7, .ref q15, .ref q24, .int 0, .int 0, .ref q32, .ref q40, .ref q48, .int 0, .int 0, .int 0, .int 0, .int 0, .int 0, .int 0, .ref q56, .ref q65, .int 0, .ref q73, .ref q80, .ref q88, .ref q96, .int 0])), (q7, .inl (G.2.1, 8, .inl (fun _ => 0))), (q15, .inl (G.2.1, 8, .inl (mz 5))), (q24, .inl (G.2.1, 320, .inl (fun _ => 0))), (q32, .inl (G.2.1, 36, .inl (fun _ => 0))), (q40, .inl (G.2.1, 40, .inl (fun _ => 0))), (q48, .inl (G.2.1, 100, .inl (fun _ => 0))), (q56, .inl (G.2.1, 36, .inl (fun _ => 0))), (q65, .inl (G.2.1, 864, .inl (fun _ => 0))), (q73, .inl (G.2.1, 36, .inl (fun _ => 0))), (q80, .inl (G.2.2.1, 2, .inl (fun _ => 0))), (q88, .inl (G.2.1, 72, .inl (fun _ => 0))), (q96, .inl (G.2.1, 16, .inl (fun _ => 0)))] := by rw [mz_up 4]; exact hD
  refine lv_iinc (nL := 2) (v := 5) (lv' := [(1, .int 5), (0, .ref h0)]) hx hb dX7_init_116 hl (k := 0) rfl (by decide) (by decide) rfl (fun ls hl => ?_)
  refine lv_goto hx hb dX7_init_119 (tgt := 103) (by decide) ?_
  refine lv_iload_n hx hb dX7_init_103 rfl (lv_at hl 0 rfl) ?_
  refine lv_bipush (v := 8) hx hb dX7_init_104 (by decide) ?_
  refine lv_icmp_ge hx hb dX7_init_106 (tgt := 122) (by decide) (fun h9 => absurd h9 (by decide)) (fun _ => ?_)
  refine lv_aload_n hx hb dX7_init_109 rfl (lv_at hl 1 rfl) ?_
  refine va_get (ci := 7) (v := .ref q15) (C := RX7) (T := TX7) (N := 23) hx hb hts inlX7 hown hK hP 0 rfl rfl 1 (by decide) (hts _ q_92) (fun _ h9 => h9) rfl dX7_init_110 ?_
  refine lv_iload_n hx hb dX7_init_113 rfl (lv_at hl 0 rfl) ?_
  refine lv_iconst (v := -1) hx hb dX7_init_114 (by decide) ?_
  refine va_iast (n := 8) (f := mz 5) (i := 5) hx hb hK hP hD hS 2 0 rfl rfl (by unfold vp_in; decide) dX7_init_115 (fun H locs hP hD hS => ?_)
  have hP : va_P G.1 vwCl [(h0, .inr (7, [.ref q7, .ref q15, .ref q24, .int 0, .int 0, .ref q32, .ref q40, .ref q48, .int 0, .int 0, .int 0, .int 0, .int 0, .int 0, .int 0, .ref q56, .ref q65, .int 0, .ref q73, .ref q80, .ref q88, .ref q96, .int 0])), (q7, .inl (G.2.1, 8, .inl (fun _ => 0))), (q15, .inl (G.2.1, 8, .inl (mz 6))), (q24, .inl (G.2.1, 320, .inl (fun _ => 0))), (q32, .inl (G.2.1, 36, .inl (fun _ => 0))), (q40, .inl (G.2.1, 40, .inl (fun _ => 0))), (q48, .inl (G.2.1, 100, .inl (fun _ => 0))), (q56, .inl (G.2.1, 36, .inl (fun _ => 0))), (q65, .inl (G.2.1, 864, .inl (fun _ => 0))), (q73, .inl (G.2.1, 36, .inl (fun _ => 0))), (q80, .inl (G.2.2.1, 2, .inl (fun _ => 0))), (q88, .inl (G.2.1, 72, .inl (fun _ => 0))), (q96, .inl (G.2.1, 16, .inl (fun _ => 0)))] H := by rw [mz_up 5]; exact hP
  have hD : va_D A [(h0, .inr (7, [.ref q7, .ref q15, .ref q24, .int 0, .int 0, .ref q32, .ref q40, .ref q48, .int 0, .int 0, .int 0, .int 0, .int 0, .int 0, .int 0, .ref q56, .ref q65, .int 0, .ref q73, .ref q80, .ref q88, .ref q96, .int 0])), (q7, .inl (G.2.1, 8, .inl (fun _ => 0))), (q15, .inl (G.2.1, 8, .inl (mz 6))), (q24, .inl (G.2.1, 320, .inl (fun _ => 0))), (q32, .inl (G.2.1, 36, .inl (fun _ => 0))), (q40, .inl (G.2.1, 40, .inl (fun _ => 0))), (q48, .inl (G.2.1, 100, .inl (fun _ => 0))), (q56, .inl (G.2.1, 36, .inl (fun _ => 0))), (q65, .inl (G.2.1, 864, .inl (fun _ => 0))), (q73, .inl (G.2.1, 36, .inl (fun _ => 0))), (q80, .inl (G.2.2.1, 2, .inl (fun _ => 0))), (q88, .inl (G.2.1, 72, .inl (fun _ => 0))), (q96, .inl (G.2.1, 16, .inl (fun _ => 0)))] := by rw [mz_up 5]; exact hD
  refine lv_iinc (nL := 2) (v := 6) (lv' := [(1, .int 6), (0, .ref h0)]) hx hb dX7_init_116 hl (k := 0) rfl (by decide) (by decide) rfl (fun ls hl => ?_)
  refine lv_goto hx hb dX7_init_119 (tgt := 103) (by decide) ?_
  refine lv_iload_n hx hb dX7_init_103 rfl (lv_at hl 0 rfl) ?_
  refine lv_bipush (v := 8) hx hb dX7_init_104 (by decide) ?_
  refine lv_icmp_ge hx hb dX7_init_106 (tgt := 122) (by decide) (fun h9 => absurd h9 (by decide)) (fun _ => ?_)
  refine lv_aload_n hx hb dX7_init_109 rfl (lv_at hl 1 rfl) ?_
  refine va_get (ci := 7) (v := .ref q15) (C := RX7) (T := TX7) (N := 23) hx hb hts inlX7 hown hK hP 0 rfl rfl 1 (by decide) (hts _ q_92) (fun _ h9 => h9) rfl dX7_init_110 ?_
  refine lv_iload_n hx hb dX7_init_113 rfl (lv_at hl 0 rfl) ?_
  refine lv_iconst (v := -1) hx hb dX7_init_114 (by decide) ?_
  refine va_iast (n := 8) (f := mz 6) (i := 6) hx hb hK hP hD hS 2 0 rfl rfl (by unfold vp_in; decide) dX7_init_115 (fun H locs hP hD hS => ?_)
  have hP : va_P G.1 vwCl [(h0, .inr (7, [.ref q7, .ref q15, .ref q24, .int 0, .int 0, .ref q32, .ref q40, .ref q48, .int 0, .int 0, .int 0, .int 0, .int 0, .int 0, .int 0, .ref q56, .ref q65, .int 0, .ref q73, .ref q80, .ref q88, .ref q96, .int 0])), (q7, .inl (G.2.1, 8, .inl (fun _ => 0))), (q15, .inl (G.2.1, 8, .inl (mz 7))), (q24, .inl (G.2.1, 320, .inl (fun _ => 0))), (q32, .inl (G.2.1, 36, .inl (fun _ => 0))), (q40, .inl (G.2.1, 40, .inl (fun _ => 0))), (q48, .inl (G.2.1, 100, .inl (fun _ => 0))), (q56, .inl (G.2.1, 36, .inl (fun _ => 0))), (q65, .inl (G.2.1, 864, .inl (fun _ => 0))), (q73, .inl (G.2.1, 36, .inl (fun _ => 0))), (q80, .inl (G.2.2.1, 2, .inl (fun _ => 0))), (q88, .inl (G.2.1, 72, .inl (fun _ => 0))), (q96, .inl (G.2.1, 16, .inl (fun _ => 0)))] H := by rw [mz_up 6]; exact hP
  have hD : va_D A [(h0, .inr (7, [.ref q7, .ref q15, .ref q24, .int 0, .int 0, .ref q32, .ref q40, .ref q48, .int 0, .int 0, .int 0, .int 0, .int 0, .int 0, .int 0, .ref q56, .ref q65, .int 0, .ref q73, .ref q80, .ref q88, .ref q96, .int 0])), (q7, .inl (G.2.1, 8, .inl (fun _ => 0))), (q15, .inl (G.2.1, 8, .inl (mz 7))), (q24, .inl (G.2.1, 320, .inl (fun _ => 0))), (q32, .inl (G.2.1, 36, .inl (fun _ => 0))), (q40, .inl (G.2.1, 40, .inl (fun _ => 0))), (q48, .inl (G.2.1, 100, .inl (fun _ => 0))), (q56, .inl (G.2.1, 36, .inl (fun _ => 0))), (q65, .inl (G.2.1, 864, .inl (fun _ => 0))), (q73, .inl (G.2.1, 36, .inl (fun _ => 0))), (q80, .inl (G.2.2.1, 2, .inl (fun _ => 0))), (q88, .inl (G.2.1, 72, .inl (fun _ => 0))), (q96, .inl (G.2.1, 16, .inl (fun _ => 0)))] := by rw [mz_up 6]; exact hD
  refine lv_iinc (nL := 2) (v := 7) (lv' := [(1, .int 7), (0, .ref h0)]) hx hb dX7_init_116 hl (k := 0) rfl (by decide) (by decide) rfl (fun ls hl => ?_)
  refine lv_goto hx hb dX7_init_119 (tgt := 103) (by decide) ?_
  refine lv_iload_n hx hb dX7_init_103 rfl (lv_at hl 0 rfl) ?_
  refine lv_bipush (v := 8) hx hb dX7_init_104 (by decide) ?_
  refine lv_icmp_ge hx hb dX7_init_106 (tgt := 122) (by decide) (fun h9 => absurd h9 (by decide)) (fun _ => ?_)
  refine lv_aload_n hx hb dX7_init_109 rfl (lv_at hl 1 rfl) ?_
  refine va_get (ci := 7) (v := .ref q15) (C := RX7) (T := TX7) (N := 23) hx hb hts inlX7 hown hK hP 0 rfl rfl 1 (by decide) (hts _ q_92) (fun _ h9 => h9) rfl dX7_init_110 ?_
  refine lv_iload_n hx hb dX7_init_113 rfl (lv_at hl 0 rfl) ?_
  refine lv_iconst (v := -1) hx hb dX7_init_114 (by decide) ?_
  refine va_iast (n := 8) (f := mz 7) (i := 7) hx hb hK hP hD hS 2 0 rfl rfl (by unfold vp_in; decide) dX7_init_115 (fun H locs hP hD hS => ?_)
  have hP : va_P G.1 vwCl [(h0, .inr (7, [.ref q7, .ref q15, .ref q24, .int 0, .int 0, .ref q32, .ref q40, .ref q48, .int 0, .int 0, .int 0, .int 0, .int 0, .int 0, .int 0, .ref q56, .ref q65, .int 0, .ref q73, .ref q80, .ref q88, .ref q96, .int 0])), (q7, .inl (G.2.1, 8, .inl (fun _ => 0))), (q15, .inl (G.2.1, 8, .inl (mz 8))), (q24, .inl (G.2.1, 320, .inl (fun _ => 0))), (q32, .inl (G.2.1, 36, .inl (fun _ => 0))), (q40, .inl (G.2.1, 40, .inl (fun _ => 0))), (q48, .inl (G.2.1, 100, .inl (fun _ => 0))), (q56, .inl (G.2.1, 36, .inl (fun _ => 0))), (q65, .inl (G.2.1, 864, .inl (fun _ => 0))), (q73, .inl (G.2.1, 36, .inl (fun _ => 0))), (q80, .inl (G.2.2.1, 2, .inl (fun _ => 0))), (q88, .inl (G.2.1, 72, .inl (fun _ => 0))), (q96, .inl (G.2.1, 16, .inl (fun _ => 0)))] H := by rw [mz_up 7]; exact hP
  have hD : va_D A [(h0, .inr (7, [.ref q7, .ref q15, .ref q24, .int 0, .int 0, .ref q32, .ref q40, .ref q48, .int 0, .int 0, .int 0, .int 0, .int 0, .int 0, .int 0, .ref q56, .ref q65, .int 0, .ref q73, .ref q80, .ref q88, .ref q96, .int 0])), (q7, .inl (G.2.1, 8, .inl (fun _ => 0))), (q15, .inl (G.2.1, 8, .inl (mz 8))), (q24, .inl (G.2.1, 320, .inl (fun _ => 0))), (q32, .inl (G.2.1, 36, .inl (fun _ => 0))), (q40, .inl (G.2.1, 40, .inl (fun _ => 0))), (q48, .inl (G.2.1, 100, .inl (fun _ => 0))), (q56, .inl (G.2.1, 36, .inl (fun _ => 0))), (q65, .inl (G.2.1, 864, .inl (fun _ => 0))), (q73, .inl (G.2.1, 36, .inl (fun _ => 0))), (q80, .inl (G.2.2.1, 2, .inl (fun _ => 0))), (q88, .inl (G.2.1, 72, .inl (fun _ => 0))), (q96, .inl (G.2.1, 16, .inl (fun _ => 0)))] := by rw [mz_up 7]; exact hD
  refine lv_iinc (nL := 2) (v := 8) (lv' := [(1, .int 8), (0, .ref h0)]) hx hb dX7_init_116 hl (k := 0) rfl (by decide) (by decide) rfl (fun ls hl => ?_)
  refine lv_goto hx hb dX7_init_119 (tgt := 103) (by decide) ?_
  refine lv_iload_n hx hb dX7_init_103 rfl (lv_at hl 0 rfl) ?_
  refine lv_bipush (v := 8) hx hb dX7_init_104 (by decide) ?_
  refine lv_icmp_ge hx hb dX7_init_106 (tgt := 122) (by decide) (fun _ => ?_) (fun h9 => absurd (by decide) h9)
  exact W.vret hx hb hr (fun t ht hW => ⟨⟨⟨q7, q15, q24, q32, q40, q48, q56, q65, q73, q80, q88, q96⟩, rfl, trivial, by rw [ht]; exact hP, hD⟩, hS.F ht⟩) hS.2.2 dX7_init_122
