theorem arr_I {G : mm_G} {s : State} {cA : ClassId} (hK : va_K G.1 vwCl (mm_ty G ++ [(cA, .int)]) s) : cA = G.2.1 := by
  have h1 : s.vm.findClass _ = some G.2.1 := (hK.2 0 (G.2.1, .int) rfl).2
  have h2 : s.vm.findClass _ = some cA := (hK.2 3 (cA, .int) rfl).2
  exact Option.some.inj (h2.symm.trans h1)
theorem arr_Z {G : mm_G} {s : State} {cA : ClassId} (hK : va_K G.1 vwCl (mm_ty G ++ [(cA, .boolean)]) s) : cA = G.2.2.1 := by
  have h1 : s.vm.findClass _ = some G.2.2.1 := (hK.2 1 (G.2.2.1, .boolean) rfl).2
  have h2 : s.vm.findClass _ = some cA := (hK.2 3 (cA, .boolean) rfl).2
  exact Option.some.inj (h2.symm.trans h1)
theorem arr_F {G : mm_G} {s : State} {cA : ClassId} (hK : va_K G.1 vwCl (mm_ty G ++ [(cA, .object RX2)]) s) : cA = G.2.2.2.1 := by
  obtain ⟨_, _, _, _, _, h1⟩ := (hK.2 2 (G.2.2.2.1, .object RX2) rfl).2
  obtain ⟨_, _, _, _, _, h2⟩ := (hK.2 3 (cA, .object RX2) rfl).2
  exact Option.some.inj (h2.symm.trans h1)
def at_X2 (G : mm_G) (h0 : Nat) (u : Nat × Nat × Nat × Nat) : va_W := match u with | (q36, q44, q52, q60) => [(h0, .inr (2, [.int 0, .int 0, .int 0, .int 0, .int 0, .int 0, .ref q36, .ref q44, .ref q52, .ref q60])), (q36, .inl (G.2.1, 3, .inl (fun _ => 0))), (q44, .inl (G.2.1, 9, .inl (fun _ => 0))), (q52, .inl (G.2.1, 9, .inl (fun _ => 0))), (q60, .inl (G.2.1, 9, .inl (fun _ => 0)))]
set_option maxHeartbeats 4000000 in
set_option maxRecDepth 100000 in
theorem c_X2_init (l : Launch) (G : mm_G) (h0 sz : Nat) : Met l yX2_init (.code yX2_init cX2_init 1 none :: wsL_law) ({ frames := 1, cells := 4, slots := 30, locals := 60 }) (va_Pc [.ref h0] (fun U => U.heap.size = sz ∧ va_P G.1 vwCl [(h0, .inr (2, [.int 0, .int 0, .int 0, .int 0, .int 0, .int 0, .null, .null, .null, .null]))] U.heap ∧ mm_K G U ∧ va_D (fun _ => True) [(h0, .inr (2, [.int 0, .int 0, .int 0, .int 0, .int 0, .int 0, .null, .null, .null, .null]))])) (va_Qv (fun _ : Nat × Nat × Nat × Nat => True) (fun u t => va_P G.1 vwCl (at_X2 G h0 u) t.heap ∧ va_D (va_A [(h0, .inr (2, [.int 0, .int 0, .int 0, .int 0, .int 0, .int 0, .null, .null, .null, .null]))] sz) (at_X2 G h0 u)) (va_A [(h0, .inr (2, [.int 0, .int 0, .int 0, .int 0, .int 0, .int 0, .null, .null, .null, .null]))] sz)) 4 30 (va_A [(h0, .inr (2, [.int 0, .int 0, .int 0, .int 0, .int 0, .int 0, .null, .null, .null, .null]))] sz) := by
  refine Met.ofW (cc := cX2_init) (maxL := 1) (ret := none) (by decide) rfl ?_
  intro p e s m args below meth c s₁ B hml hv
  obtain ⟨rfl, hsz, hP, hKK, hD0⟩ := hv
  have hx := B.exec
  have hb := B.bytes
  have hr := B.returns
  have hts0 := atoms_spec (ws := .code yX2_init cX2_init 1 none :: wsL_law) B.pre
  have hts := fun (w : Cond) (hw : w ∈ wsL_law) => hts0 w (List.mem_cons_of_mem _ hw)
  have hown : s.vm.findClass RX2 = some m.cls := findClass_of_methodNamed B.named
  have hlocks := B.notSynchronized
  have hin : meth.name = "<init>" := (name_of_methodNamed B.named B.method).1
  subst hsz
  have hD := hD0.self (sz := s.heap.size)
  generalize hAe : va_A [(h0, .inr (2, [.int 0, .int 0, .int 0, .int 0, .int 0, .int 0, .null, .null, .null, .null]))] s.heap.size = A at hD ⊢
  have hA : ∀ q : Nat, s.heap.size ≤ q → A q := fun q h => by rw [← hAe]; exact Or.inr h
  have hS : va_S A s.heap s.heap [] := va_S.rf
  have hK := hKK.1
  have hl := lv_entry ([.ref h0]) (n := 1) (Nat.le_of_ble_eq_true rfl)
  rw [lg_entry_eq]
  generalize (lg_sl ([.ref h0]) ++ List.replicate (1 - (lg_sl ([.ref h0])).length) Slot.unset).toArray = ls at hl ⊢
  have hl : lv_has ls 1 [(0, .ref h0)] := hl
  refine lv_aload_n hx hb dX2_init_0 rfl (lv_at hl 0 rfl) ?_
  refine W.objInit hx hb hown (hts _ q_56) (hts _ q_10) (hts _ q_11) rfl (by rw [hml]; exact hl.1) rfl dX2_init_1 (Nat.le_of_ble_eq_true rfl) (Nat.le_of_ble_eq_true rfl) ?_
  refine W.eq (g2 := F0 m 4 ls []) rfl ?_
  refine lv_aload_n hx hb dX2_init_4 rfl (lv_at hl 0 rfl) ?_
  refine lv_iconst (v := 0) hx hb dX2_init_5 (by decide) ?_
  refine va_put (ci := 2) (v := .int 0) (ty := .int) (C := RX2) (T := TX2) (N := 10) hx hb hts inlX2 tyX2 tyX2_ok nmX2 hown hK hP hD hS 0 rfl rfl 0 (by decide) (hts _ q_57) (fun _ h9 => h9) rfl (by decide +kernel) rfl rfl (Nat.le_of_ble_eq_true rfl) dX2_init_6 (fun H locs hP hD hS => ?_)
  have hP : va_P G.1 vwCl [(h0, .inr (2, [.int 0, .int 0, .int 0, .int 0, .int 0, .int 0, .null, .null, .null, .null]))] H := hP
  have hD : va_D A [(h0, .inr (2, [.int 0, .int 0, .int 0, .int 0, .int 0, .int 0, .null, .null, .null, .null]))] := hD
  refine lv_aload_n hx hb dX2_init_9 rfl (lv_at hl 0 rfl) ?_
  refine lv_iconst (v := 0) hx hb dX2_init_10 (by decide) ?_
  refine va_put (ci := 2) (v := .int 0) (ty := .int) (C := RX2) (T := TX2) (N := 10) hx hb hts inlX2 tyX2 tyX2_ok nmX2 hown hK hP hD hS 0 rfl rfl 1 (by decide) (hts _ q_58) (fun _ h9 => h9) rfl (by decide +kernel) rfl rfl (Nat.le_of_ble_eq_true rfl) dX2_init_11 (fun H locs hP hD hS => ?_)
  have hP : va_P G.1 vwCl [(h0, .inr (2, [.int 0, .int 0, .int 0, .int 0, .int 0, .int 0, .null, .null, .null, .null]))] H := hP
  have hD : va_D A [(h0, .inr (2, [.int 0, .int 0, .int 0, .int 0, .int 0, .int 0, .null, .null, .null, .null]))] := hD
  refine lv_aload_n hx hb dX2_init_14 rfl (lv_at hl 0 rfl) ?_
  refine lv_iconst (v := 0) hx hb dX2_init_15 (by decide) ?_
  refine va_put (ci := 2) (v := .int 0) (ty := .int) (C := RX2) (T := TX2) (N := 10) hx hb hts inlX2 tyX2 tyX2_ok nmX2 hown hK hP hD hS 0 rfl rfl 2 (by decide) (hts _ q_59) (fun _ h9 => h9) rfl (by decide +kernel) rfl rfl (Nat.le_of_ble_eq_true rfl) dX2_init_16 (fun H locs hP hD hS => ?_)
  have hP : va_P G.1 vwCl [(h0, .inr (2, [.int 0, .int 0, .int 0, .int 0, .int 0, .int 0, .null, .null, .null, .null]))] H := hP
  have hD : va_D A [(h0, .inr (2, [.int 0, .int 0, .int 0, .int 0, .int 0, .int 0, .null, .null, .null, .null]))] := hD
  refine lv_aload_n hx hb dX2_init_19 rfl (lv_at hl 0 rfl) ?_
  refine lv_iconst (v := 0) hx hb dX2_init_20 (by decide) ?_
  refine va_put (ci := 2) (v := .int 0) (ty := .int) (C := RX2) (T := TX2) (N := 10) hx hb hts inlX2 tyX2 tyX2_ok nmX2 hown hK hP hD hS 0 rfl rfl 3 (by decide) (hts _ q_60) (fun _ h9 => h9) rfl (by decide +kernel) rfl rfl (Nat.le_of_ble_eq_true rfl) dX2_init_21 (fun H locs hP hD hS => ?_)
  have hP : va_P G.1 vwCl [(h0, .inr (2, [.int 0, .int 0, .int 0, .int 0, .int 0, .int 0, .null, .null, .null, .null]))] H := hP
  have hD : va_D A [(h0, .inr (2, [.int 0, .int 0, .int 0, .int 0, .int 0, .int 0, .null, .null, .null, .null]))] := hD
  refine lv_aload_n hx hb dX2_init_24 rfl (lv_at hl 0 rfl) ?_
  refine lv_iconst (v := 0) hx hb dX2_init_25 (by decide) ?_
  refine va_put (ci := 2) (v := .int 0) (ty := .int) (C := RX2) (T := TX2) (N := 10) hx hb hts inlX2 tyX2 tyX2_ok nmX2 hown hK hP hD hS 0 rfl rfl 4 (by decide) (hts _ q_61) (fun _ h9 => h9) rfl (by decide +kernel) rfl rfl (Nat.le_of_ble_eq_true rfl) dX2_init_26 (fun H locs hP hD hS => ?_)
  have hP : va_P G.1 vwCl [(h0, .inr (2, [.int 0, .int 0, .int 0, .int 0, .int 0, .int 0, .null, .null, .null, .null]))] H := hP
  have hD : va_D A [(h0, .inr (2, [.int 0, .int 0, .int 0, .int 0, .int 0, .int 0, .null, .null, .null, .null]))] := hD
  refine lv_aload_n hx hb dX2_init_29 rfl (lv_at hl 0 rfl) ?_
  refine lv_iconst (v := 0) hx hb dX2_init_30 (by decide) ?_
  refine va_put (ci := 2) (v := .int 0) (ty := .int) (C := RX2) (T := TX2) (N := 10) hx hb hts inlX2 tyX2 tyX2_ok nmX2 hown hK hP hD hS 0 rfl rfl 5 (by decide) (hts _ q_62) (fun _ h9 => h9) rfl (by decide +kernel) rfl rfl (Nat.le_of_ble_eq_true rfl) dX2_init_31 (fun H locs hP hD hS => ?_)
  have hP : va_P G.1 vwCl [(h0, .inr (2, [.int 0, .int 0, .int 0, .int 0, .int 0, .int 0, .null, .null, .null, .null]))] H := hP
  have hD : va_D A [(h0, .inr (2, [.int 0, .int 0, .int 0, .int 0, .int 0, .int 0, .null, .null, .null, .null]))] := hD
  refine lv_aload_n hx hb dX2_init_34 rfl (lv_at hl 0 rfl) ?_
  refine lv_iconst (v := 3) hx hb dX2_init_35 (by decide) ?_
  refine va_newa (atype := .int) (ty := .int) (a0 := (3, .inl (fun _ => 0))) (N' := 3) hx hb (hts _ q_43) rfl hK hP hD hS hA (fun cA => rfl) (by decide) (by decide) (by decide) (Nat.le_of_ble_eq_true rfl) (Nat.le_of_ble_eq_true rfl) dX2_init_36 (fun q36 cA H hK2 hP hD hS => ?_)
  have eA := arr_I hK2
  subst eA
  have hP : va_P G.1 vwCl [(h0, .inr (2, [.int 0, .int 0, .int 0, .int 0, .int 0, .int 0, .null, .null, .null, .null])), (q36, .inl (G.2.1, 3, .inl (fun _ => 0)))] H := hP
  have hD : va_D A [(h0, .inr (2, [.int 0, .int 0, .int 0, .int 0, .int 0, .int 0, .null, .null, .null, .null])), (q36, .inl (G.2.1, 3, .inl (fun _ => 0)))] := hD
  refine va_putF (ci := 2) (v := .ref q36) (ty := .array .int) (C := RX2) (T := TX2) (N := 10) hx hb hts inlX2 tyX2 tyX2_ok nmX2 hown hK hP hD hS 0 rfl rfl 6 (by decide) (hts _ q_63) (fun _ h9 => h9) rfl hin rfl (by decide +kernel) rfl rfl (Nat.le_of_ble_eq_true rfl) dX2_init_38 (fun H locs hP hD hS => ?_)
  have hP : va_P G.1 vwCl [(h0, .inr (2, [.int 0, .int 0, .int 0, .int 0, .int 0, .int 0, .ref q36, .null, .null, .null])), (q36, .inl (G.2.1, 3, .inl (fun _ => 0)))] H := hP
  have hD : va_D A [(h0, .inr (2, [.int 0, .int 0, .int 0, .int 0, .int 0, .int 0, .ref q36, .null, .null, .null])), (q36, .inl (G.2.1, 3, .inl (fun _ => 0)))] := hD
  refine lv_aload_n hx hb dX2_init_41 rfl (lv_at hl 0 rfl) ?_
  refine lv_bipush (v := 9) hx hb dX2_init_42 (by decide) ?_
  refine va_newa (atype := .int) (ty := .int) (a0 := (9, .inl (fun _ => 0))) (N' := 9) hx hb (hts _ q_43) rfl hK hP hD hS hA (fun cA => rfl) (by decide) (by decide) (by decide) (Nat.le_of_ble_eq_true rfl) (Nat.le_of_ble_eq_true rfl) dX2_init_44 (fun q44 cA H hK2 hP hD hS => ?_)
  have eA := arr_I hK2
  subst eA
  have hP : va_P G.1 vwCl [(h0, .inr (2, [.int 0, .int 0, .int 0, .int 0, .int 0, .int 0, .ref q36, .null, .null, .null])), (q36, .inl (G.2.1, 3, .inl (fun _ => 0))), (q44, .inl (G.2.1, 9, .inl (fun _ => 0)))] H := hP
  have hD : va_D A [(h0, .inr (2, [.int 0, .int 0, .int 0, .int 0, .int 0, .int 0, .ref q36, .null, .null, .null])), (q36, .inl (G.2.1, 3, .inl (fun _ => 0))), (q44, .inl (G.2.1, 9, .inl (fun _ => 0)))] := hD
  refine va_putF (ci := 2) (v := .ref q44) (ty := .array .int) (C := RX2) (T := TX2) (N := 10) hx hb hts inlX2 tyX2 tyX2_ok nmX2 hown hK hP hD hS 0 rfl rfl 7 (by decide) (hts _ q_64) (fun _ h9 => h9) rfl hin rfl (by decide +kernel) rfl rfl (Nat.le_of_ble_eq_true rfl) dX2_init_46 (fun H locs hP hD hS => ?_)
  have hP : va_P G.1 vwCl [(h0, .inr (2, [.int 0, .int 0, .int 0, .int 0, .int 0, .int 0, .ref q36, .ref q44, .null, .null])), (q36, .inl (G.2.1, 3, .inl (fun _ => 0))), (q44, .inl (G.2.1, 9, .inl (fun _ => 0)))] H := hP
  have hD : va_D A [(h0, .inr (2, [.int 0, .int 0, .int 0, .int 0, .int 0, .int 0, .ref q36, .ref q44, .null, .null])), (q36, .inl (G.2.1, 3, .inl (fun _ => 0))), (q44, .inl (G.2.1, 9, .inl (fun _ => 0)))] := hD
  refine lv_aload_n hx hb dX2_init_49 rfl (lv_at hl 0 rfl) ?_
  refine lv_bipush (v := 9) hx hb dX2_init_50 (by decide) ?_
  refine va_newa (atype := .int) (ty := .int) (a0 := (9, .inl (fun _ => 0))) (N' := 9) hx hb (hts _ q_43) rfl hK hP hD hS hA (fun cA => rfl) (by decide) (by decide) (by decide) (Nat.le_of_ble_eq_true rfl) (Nat.le_of_ble_eq_true rfl) dX2_init_52 (fun q52 cA H hK2 hP hD hS => ?_)
  have eA := arr_I hK2
  subst eA
  have hP : va_P G.1 vwCl [(h0, .inr (2, [.int 0, .int 0, .int 0, .int 0, .int 0, .int 0, .ref q36, .ref q44, .null, .null])), (q36, .inl (G.2.1, 3, .inl (fun _ => 0))), (q44, .inl (G.2.1, 9, .inl (fun _ => 0))), (q52, .inl (G.2.1, 9, .inl (fun _ => 0)))] H := hP
  have hD : va_D A [(h0, .inr (2, [.int 0, .int 0, .int 0, .int 0, .int 0, .int 0, .ref q36, .ref q44, .null, .null])), (q36, .inl (G.2.1, 3, .inl (fun _ => 0))), (q44, .inl (G.2.1, 9, .inl (fun _ => 0))), (q52, .inl (G.2.1, 9, .inl (fun _ => 0)))] := hD
  refine va_putF (ci := 2) (v := .ref q52) (ty := .array .int) (C := RX2) (T := TX2) (N := 10) hx hb hts inlX2 tyX2 tyX2_ok nmX2 hown hK hP hD hS 0 rfl rfl 8 (by decide) (hts _ q_65) (fun _ h9 => h9) rfl hin rfl (by decide +kernel) rfl rfl (Nat.le_of_ble_eq_true rfl) dX2_init_54 (fun H locs hP hD hS => ?_)
  have hP : va_P G.1 vwCl [(h0, .inr (2, [.int 0, .int 0, .int 0, .int 0, .int 0, .int 0, .ref q36, .ref q44, .ref q52, .null])), (q36, .inl (G.2.1, 3, .inl (fun _ => 0))), (q44, .inl (G.2.1, 9, .inl (fun _ => 0))), (q52, .inl (G.2.1, 9, .inl (fun _ => 0)))] H := hP
  have hD : va_D A [(h0, .inr (2, [.int 0, .int 0, .int 0, .int 0, .int 0, .int 0, .ref q36, .ref q44, .ref q52, .null])), (q36, .inl (G.2.1, 3, .inl (fun _ => 0))), (q44, .inl (G.2.1, 9, .inl (fun _ => 0))), (q52, .inl (G.2.1, 9, .inl (fun _ => 0)))] := hD
  refine lv_aload_n hx hb dX2_init_57 rfl (lv_at hl 0 rfl) ?_
  refine lv_bipush (v := 9) hx hb dX2_init_58 (by decide) ?_
  refine va_newa (atype := .int) (ty := .int) (a0 := (9, .inl (fun _ => 0))) (N' := 9) hx hb (hts _ q_43) rfl hK hP hD hS hA (fun cA => rfl) (by decide) (by decide) (by decide) (Nat.le_of_ble_eq_true rfl) (Nat.le_of_ble_eq_true rfl) dX2_init_60 (fun q60 cA H hK2 hP hD hS => ?_)
  have eA := arr_I hK2
  subst eA
  have hP : va_P G.1 vwCl [(h0, .inr (2, [.int 0, .int 0, .int 0, .int 0, .int 0, .int 0, .ref q36, .ref q44, .ref q52, .null])), (q36, .inl (G.2.1, 3, .inl (fun _ => 0))), (q44, .inl (G.2.1, 9, .inl (fun _ => 0))), (q52, .inl (G.2.1, 9, .inl (fun _ => 0))), (q60, .inl (G.2.1, 9, .inl (fun _ => 0)))] H := hP
  have hD : va_D A [(h0, .inr (2, [.int 0, .int 0, .int 0, .int 0, .int 0, .int 0, .ref q36, .ref q44, .ref q52, .null])), (q36, .inl (G.2.1, 3, .inl (fun _ => 0))), (q44, .inl (G.2.1, 9, .inl (fun _ => 0))), (q52, .inl (G.2.1, 9, .inl (fun _ => 0))), (q60, .inl (G.2.1, 9, .inl (fun _ => 0)))] := hD
  refine va_putF (ci := 2) (v := .ref q60) (ty := .array .int) (C := RX2) (T := TX2) (N := 10) hx hb hts inlX2 tyX2 tyX2_ok nmX2 hown hK hP hD hS 0 rfl rfl 9 (by decide) (hts _ q_66) (fun _ h9 => h9) rfl hin rfl (by decide +kernel) rfl rfl (Nat.le_of_ble_eq_true rfl) dX2_init_62 (fun H locs hP hD hS => ?_)
  have hP : va_P G.1 vwCl [(h0, .inr (2, [.int 0, .int 0, .int 0, .int 0, .int 0, .int 0, .ref q36, .ref q44, .ref q52, .ref q60])), (q36, .inl (G.2.1, 3, .inl (fun _ => 0))), (q44, .inl (G.2.1, 9, .inl (fun _ => 0))), (q52, .inl (G.2.1, 9, .inl (fun _ => 0))), (q60, .inl (G.2.1, 9, .inl (fun _ => 0)))] H := hP
  have hD : va_D A [(h0, .inr (2, [.int 0, .int 0, .int 0, .int 0, .int 0, .int 0, .ref q36, .ref q44, .ref q52, .ref q60])), (q36, .inl (G.2.1, 3, .inl (fun _ => 0))), (q44, .inl (G.2.1, 9, .inl (fun _ => 0))), (q52, .inl (G.2.1, 9, .inl (fun _ => 0))), (q60, .inl (G.2.1, 9, .inl (fun _ => 0)))] := hD
  exact W.vret hx hb hr (fun t ht hW => ⟨⟨⟨q36, q44, q52, q60⟩, rfl, trivial, by rw [ht]; exact hP, hD⟩, hS.F ht⟩) hS.2.2 dX2_init_65
def at_X5 (G : mm_G) (h0 : Nat) (u : Nat) : va_W := [(h0, .inr (5, [.ref u, .int 0, .int 0, .int 0])), (u, .inl (G.2.1, 100, .inl (fun _ => 0)))]
set_option maxHeartbeats 4000000 in
set_option maxRecDepth 100000 in
theorem c_X5_init (l : Launch) (G : mm_G) (h0 sz : Nat) : Met l yX5_init (.code yX5_init cX5_init 1 none :: wsL_law) ({ frames := 1, cells := 1, slots := 100, locals := 60 }) (va_Pc [.ref h0] (fun U => U.heap.size = sz ∧ va_P G.1 vwCl [(h0, .inr (5, [.null, .int 0, .int 0, .int 0]))] U.heap ∧ mm_K G U ∧ va_D (fun _ => True) [(h0, .inr (5, [.null, .int 0, .int 0, .int 0]))])) (va_Qv (fun _ : Nat => True) (fun u t => va_P G.1 vwCl (at_X5 G h0 u) t.heap ∧ va_D (va_A [(h0, .inr (5, [.null, .int 0, .int 0, .int 0]))] sz) (at_X5 G h0 u)) (va_A [(h0, .inr (5, [.null, .int 0, .int 0, .int 0]))] sz)) 1 100 (va_A [(h0, .inr (5, [.null, .int 0, .int 0, .int 0]))] sz) := by
  refine Met.ofW (cc := cX5_init) (maxL := 1) (ret := none) (by decide) rfl ?_
  intro p e s m args below meth c s₁ B hml hv
  obtain ⟨rfl, hsz, hP, hKK, hD0⟩ := hv
  have hx := B.exec
  have hb := B.bytes
  have hr := B.returns
  have hts0 := atoms_spec (ws := .code yX5_init cX5_init 1 none :: wsL_law) B.pre
  have hts := fun (w : Cond) (hw : w ∈ wsL_law) => hts0 w (List.mem_cons_of_mem _ hw)
  have hown : s.vm.findClass RX5 = some m.cls := findClass_of_methodNamed B.named
  have hlocks := B.notSynchronized
  have hin : meth.name = "<init>" := (name_of_methodNamed B.named B.method).1
  subst hsz
  have hD := hD0.self (sz := s.heap.size)
  generalize hAe : va_A [(h0, .inr (5, [.null, .int 0, .int 0, .int 0]))] s.heap.size = A at hD ⊢
  have hA : ∀ q : Nat, s.heap.size ≤ q → A q := fun q h => by rw [← hAe]; exact Or.inr h
  have hS : va_S A s.heap s.heap [] := va_S.rf
  have hK := hKK.1
  have hl := lv_entry ([.ref h0]) (n := 1) (Nat.le_of_ble_eq_true rfl)
  rw [lg_entry_eq]
  generalize (lg_sl ([.ref h0]) ++ List.replicate (1 - (lg_sl ([.ref h0])).length) Slot.unset).toArray = ls at hl ⊢
  have hl : lv_has ls 1 [(0, .ref h0)] := hl
  refine lv_aload_n hx hb dX5_init_0 rfl (lv_at hl 0 rfl) ?_
  refine W.objInit hx hb hown (hts _ q_49) (hts _ q_10) (hts _ q_11) rfl (by rw [hml]; exact hl.1) rfl dX5_init_1 (Nat.le_of_ble_eq_true rfl) (Nat.le_of_ble_eq_true rfl) ?_
  refine W.eq (g2 := F0 m 4 ls []) rfl ?_
  refine lv_aload_n hx hb dX5_init_4 rfl (lv_at hl 0 rfl) ?_
  refine lv_bipush (v := 100) hx hb dX5_init_5 (by decide) ?_
  refine va_newa (atype := .int) (ty := .int) (a0 := (100, .inl (fun _ => 0))) (N' := 100) hx hb (hts _ q_43) rfl hK hP hD hS hA (fun cA => rfl) (by decide) (by decide) (by decide) (Nat.le_of_ble_eq_true rfl) (Nat.le_of_ble_eq_true rfl) dX5_init_7 (fun q7 cA H hK2 hP hD hS => ?_)
  have eA := arr_I hK2
  subst eA
  have hP : va_P G.1 vwCl [(h0, .inr (5, [.null, .int 0, .int 0, .int 0])), (q7, .inl (G.2.1, 100, .inl (fun _ => 0)))] H := hP
  have hD : va_D A [(h0, .inr (5, [.null, .int 0, .int 0, .int 0])), (q7, .inl (G.2.1, 100, .inl (fun _ => 0)))] := hD
  refine va_putF (ci := 5) (v := .ref q7) (ty := .array .int) (C := RX5) (T := TX5) (N := 4) hx hb hts inlX5 tyX5 tyX5_ok nmX5 hown hK hP hD hS 0 rfl rfl 0 (by decide) (hts _ q_50) (fun _ h9 => h9) rfl hin rfl (by decide +kernel) rfl rfl (Nat.le_of_ble_eq_true rfl) dX5_init_9 (fun H locs hP hD hS => ?_)
  have hP : va_P G.1 vwCl [(h0, .inr (5, [.ref q7, .int 0, .int 0, .int 0])), (q7, .inl (G.2.1, 100, .inl (fun _ => 0)))] H := hP
  have hD : va_D A [(h0, .inr (5, [.ref q7, .int 0, .int 0, .int 0])), (q7, .inl (G.2.1, 100, .inl (fun _ => 0)))] := hD
  refine lv_aload_n hx hb dX5_init_12 rfl (lv_at hl 0 rfl) ?_
  refine lv_iconst (v := 0) hx hb dX5_init_13 (by decide) ?_
  refine va_put (ci := 5) (v := .int 0) (ty := .int) (C := RX5) (T := TX5) (N := 4) hx hb hts inlX5 tyX5 tyX5_ok nmX5 hown hK hP hD hS 0 rfl rfl 1 (by decide) (hts _ q_51) (fun _ h9 => h9) rfl (by decide +kernel) rfl rfl (Nat.le_of_ble_eq_true rfl) dX5_init_14 (fun H locs hP hD hS => ?_)
  have hP : va_P G.1 vwCl [(h0, .inr (5, [.ref q7, .int 0, .int 0, .int 0])), (q7, .inl (G.2.1, 100, .inl (fun _ => 0)))] H := hP
  have hD : va_D A [(h0, .inr (5, [.ref q7, .int 0, .int 0, .int 0])), (q7, .inl (G.2.1, 100, .inl (fun _ => 0)))] := hD
  refine lv_aload_n hx hb dX5_init_17 rfl (lv_at hl 0 rfl) ?_
  refine lv_iconst (v := 0) hx hb dX5_init_18 (by decide) ?_
  refine va_put (ci := 5) (v := .int 0) (ty := .int) (C := RX5) (T := TX5) (N := 4) hx hb hts inlX5 tyX5 tyX5_ok nmX5 hown hK hP hD hS 0 rfl rfl 2 (by decide) (hts _ q_52) (fun _ h9 => h9) rfl (by decide +kernel) rfl rfl (Nat.le_of_ble_eq_true rfl) dX5_init_19 (fun H locs hP hD hS => ?_)
  have hP : va_P G.1 vwCl [(h0, .inr (5, [.ref q7, .int 0, .int 0, .int 0])), (q7, .inl (G.2.1, 100, .inl (fun _ => 0)))] H := hP
  have hD : va_D A [(h0, .inr (5, [.ref q7, .int 0, .int 0, .int 0])), (q7, .inl (G.2.1, 100, .inl (fun _ => 0)))] := hD
  refine lv_aload_n hx hb dX5_init_22 rfl (lv_at hl 0 rfl) ?_
  refine lv_iconst (v := 0) hx hb dX5_init_23 (by decide) ?_
  refine va_put (ci := 5) (v := .int 0) (ty := .int) (C := RX5) (T := TX5) (N := 4) hx hb hts inlX5 tyX5 tyX5_ok nmX5 hown hK hP hD hS 0 rfl rfl 3 (by decide) (hts _ q_53) (fun _ h9 => h9) rfl (by decide +kernel) rfl rfl (Nat.le_of_ble_eq_true rfl) dX5_init_24 (fun H locs hP hD hS => ?_)
  have hP : va_P G.1 vwCl [(h0, .inr (5, [.ref q7, .int 0, .int 0, .int 0])), (q7, .inl (G.2.1, 100, .inl (fun _ => 0)))] H := hP
  have hD : va_D A [(h0, .inr (5, [.ref q7, .int 0, .int 0, .int 0])), (q7, .inl (G.2.1, 100, .inl (fun _ => 0)))] := hD
  exact W.vret hx hb hr (fun t ht hW => ⟨⟨q7, rfl, trivial, by rw [ht]; exact hP, hD⟩, hS.F ht⟩) hS.2.2 dX5_init_27
def at_X1 (G : mm_G) (h0 : Nat) (u : Nat) : va_W := [(h0, .inr (1, [.ref u, .int 0])), (u, .inl (G.2.1, 16, .inl (fun _ => 0)))]
set_option maxHeartbeats 4000000 in
set_option maxRecDepth 100000 in
theorem c_X1_init (l : Launch) (G : mm_G) (h0 sz : Nat) : Met l yX1_init (.code yX1_init cX1_init 1 none :: wsL_law) ({ frames := 1, cells := 1, slots := 16, locals := 60 }) (va_Pc [.ref h0] (fun U => U.heap.size = sz ∧ va_P G.1 vwCl [(h0, .inr (1, [.null, .int 0]))] U.heap ∧ mm_K G U ∧ va_D (fun _ => True) [(h0, .inr (1, [.null, .int 0]))])) (va_Qv (fun _ : Nat => True) (fun u t => va_P G.1 vwCl (at_X1 G h0 u) t.heap ∧ va_D (va_A [(h0, .inr (1, [.null, .int 0]))] sz) (at_X1 G h0 u)) (va_A [(h0, .inr (1, [.null, .int 0]))] sz)) 1 16 (va_A [(h0, .inr (1, [.null, .int 0]))] sz) := by
  refine Met.ofW (cc := cX1_init) (maxL := 1) (ret := none) (by decide) rfl ?_
  intro p e s m args below meth c s₁ B hml hv
  obtain ⟨rfl, hsz, hP, hKK, hD0⟩ := hv
  have hx := B.exec
  have hb := B.bytes
  have hr := B.returns
  have hts0 := atoms_spec (ws := .code yX1_init cX1_init 1 none :: wsL_law) B.pre
  have hts := fun (w : Cond) (hw : w ∈ wsL_law) => hts0 w (List.mem_cons_of_mem _ hw)
  have hown : s.vm.findClass RX1 = some m.cls := findClass_of_methodNamed B.named
  have hlocks := B.notSynchronized
  have hin : meth.name = "<init>" := (name_of_methodNamed B.named B.method).1
  subst hsz
  have hD := hD0.self (sz := s.heap.size)
  generalize hAe : va_A [(h0, .inr (1, [.null, .int 0]))] s.heap.size = A at hD ⊢
  have hA : ∀ q : Nat, s.heap.size ≤ q → A q := fun q h => by rw [← hAe]; exact Or.inr h
  have hS : va_S A s.heap s.heap [] := va_S.rf
  have hK := hKK.1
  have hl := lv_entry ([.ref h0]) (n := 1) (Nat.le_of_ble_eq_true rfl)
  rw [lg_entry_eq]
  generalize (lg_sl ([.ref h0]) ++ List.replicate (1 - (lg_sl ([.ref h0])).length) Slot.unset).toArray = ls at hl ⊢
  have hl : lv_has ls 1 [(0, .ref h0)] := hl
  refine lv_aload_n hx hb dX1_init_0 rfl (lv_at hl 0 rfl) ?_
  refine W.objInit hx hb hown (hts _ q_84) (hts _ q_10) (hts _ q_11) rfl (by rw [hml]; exact hl.1) rfl dX1_init_1 (Nat.le_of_ble_eq_true rfl) (Nat.le_of_ble_eq_true rfl) ?_
  refine W.eq (g2 := F0 m 4 ls []) rfl ?_
  refine lv_aload_n hx hb dX1_init_4 rfl (lv_at hl 0 rfl) ?_
  refine lv_bipush (v := 16) hx hb dX1_init_5 (by decide) ?_
  refine va_newa (atype := .int) (ty := .int) (a0 := (16, .inl (fun _ => 0))) (N' := 16) hx hb (hts _ q_43) rfl hK hP hD hS hA (fun cA => rfl) (by decide) (by decide) (by decide) (Nat.le_of_ble_eq_true rfl) (Nat.le_of_ble_eq_true rfl) dX1_init_7 (fun q7 cA H hK2 hP hD hS => ?_)
  have eA := arr_I hK2
  subst eA
  have hP : va_P G.1 vwCl [(h0, .inr (1, [.null, .int 0])), (q7, .inl (G.2.1, 16, .inl (fun _ => 0)))] H := hP
  have hD : va_D A [(h0, .inr (1, [.null, .int 0])), (q7, .inl (G.2.1, 16, .inl (fun _ => 0)))] := hD
  refine va_putF (ci := 1) (v := .ref q7) (ty := .array .int) (C := RX1) (T := TX1) (N := 2) hx hb hts inlX1 tyX1 tyX1_ok nmX1 hown hK hP hD hS 0 rfl rfl 0 (by decide) (hts _ q_85) (fun _ h9 => h9) rfl hin rfl (by decide +kernel) rfl rfl (Nat.le_of_ble_eq_true rfl) dX1_init_9 (fun H locs hP hD hS => ?_)
  have hP : va_P G.1 vwCl [(h0, .inr (1, [.ref q7, .int 0])), (q7, .inl (G.2.1, 16, .inl (fun _ => 0)))] H := hP
  have hD : va_D A [(h0, .inr (1, [.ref q7, .int 0])), (q7, .inl (G.2.1, 16, .inl (fun _ => 0)))] := hD
  refine lv_aload_n hx hb dX1_init_12 rfl (lv_at hl 0 rfl) ?_
  refine lv_iconst (v := 0) hx hb dX1_init_13 (by decide) ?_
  refine va_put (ci := 1) (v := .int 0) (ty := .int) (C := RX1) (T := TX1) (N := 2) hx hb hts inlX1 tyX1 tyX1_ok nmX1 hown hK hP hD hS 0 rfl rfl 1 (by decide) (hts _ q_86) (fun _ h9 => h9) rfl (by decide +kernel) rfl rfl (Nat.le_of_ble_eq_true rfl) dX1_init_14 (fun H locs hP hD hS => ?_)
  have hP : va_P G.1 vwCl [(h0, .inr (1, [.ref q7, .int 0])), (q7, .inl (G.2.1, 16, .inl (fun _ => 0)))] H := hP
  have hD : va_D A [(h0, .inr (1, [.ref q7, .int 0])), (q7, .inl (G.2.1, 16, .inl (fun _ => 0)))] := hD
  exact W.vret hx hb hr (fun t ht hW => ⟨⟨q7, rfl, trivial, by rw [ht]; exact hP, hD⟩, hS.F ht⟩) hS.2.2 dX1_init_17
def at_X0 (G : mm_G) (h0 : Nat) (u : Nat) : va_W := [(h0, .inr (0, [.ref u, .int 0, .int 0])), (u, .inl (G.2.2.2.1, 24, .inr (.inr (.inr (.inr (fun _ => none))))))]
set_option maxHeartbeats 4000000 in
set_option maxRecDepth 100000 in
theorem c_X0_init (l : Launch) (G : mm_G) (h0 sz : Nat) : Met l yX0_init (.code yX0_init cX0_init 1 none :: wsL_law) ({ frames := 1, cells := 1, slots := 24, locals := 60 }) (va_Pc [.ref h0] (fun U => U.heap.size = sz ∧ va_P G.1 vwCl [(h0, .inr (0, [.null, .int 0, .int 0]))] U.heap ∧ mm_K G U ∧ va_AO RX2 U ∧ va_D (fun _ => True) [(h0, .inr (0, [.null, .int 0, .int 0]))])) (va_Qv (fun _ : Nat => True) (fun u t => va_P G.1 vwCl (at_X0 G h0 u) t.heap ∧ va_D (va_A [(h0, .inr (0, [.null, .int 0, .int 0]))] sz) (at_X0 G h0 u)) (va_A [(h0, .inr (0, [.null, .int 0, .int 0]))] sz)) 1 24 (va_A [(h0, .inr (0, [.null, .int 0, .int 0]))] sz) := by
  refine Met.ofW (cc := cX0_init) (maxL := 1) (ret := none) (by decide) rfl ?_
  intro p e s m args below meth c s₁ B hml hv
  obtain ⟨rfl, hsz, hP, hKK, hAO, hD0⟩ := hv
  have hx := B.exec
  have hb := B.bytes
  have hr := B.returns
  have hts0 := atoms_spec (ws := .code yX0_init cX0_init 1 none :: wsL_law) B.pre
  have hts := fun (w : Cond) (hw : w ∈ wsL_law) => hts0 w (List.mem_cons_of_mem _ hw)
  have hown : s.vm.findClass RX0 = some m.cls := findClass_of_methodNamed B.named
  have hlocks := B.notSynchronized
  have hin : meth.name = "<init>" := (name_of_methodNamed B.named B.method).1
  subst hsz
  have hD := hD0.self (sz := s.heap.size)
  generalize hAe : va_A [(h0, .inr (0, [.null, .int 0, .int 0]))] s.heap.size = A at hD ⊢
  have hA : ∀ q : Nat, s.heap.size ≤ q → A q := fun q h => by rw [← hAe]; exact Or.inr h
  have hS : va_S A s.heap s.heap [] := va_S.rf
  have hK := hKK.1
  have hl := lv_entry ([.ref h0]) (n := 1) (Nat.le_of_ble_eq_true rfl)
  rw [lg_entry_eq]
  generalize (lg_sl ([.ref h0]) ++ List.replicate (1 - (lg_sl ([.ref h0])).length) Slot.unset).toArray = ls at hl ⊢
  have hl : lv_has ls 1 [(0, .ref h0)] := hl
  refine lv_aload_n hx hb dX0_init_0 rfl (lv_at hl 0 rfl) ?_
  refine W.objInit hx hb hown (hts _ q_69) (hts _ q_10) (hts _ q_11) rfl (by rw [hml]; exact hl.1) rfl dX0_init_1 (Nat.le_of_ble_eq_true rfl) (Nat.le_of_ble_eq_true rfl) ?_
  refine W.eq (g2 := F0 m 4 ls []) rfl ?_
  refine lv_aload_n hx hb dX0_init_4 rfl (lv_at hl 0 rfl) ?_
  refine lv_bipush (v := 24) hx hb dX0_init_5 (by decide) ?_
  refine va_newq (N' := 24) hx hb hown (hts _ q_70) hAO hK hP hD hS hA (by decide) (by decide) (by decide) (Nat.le_of_ble_eq_true rfl) (Nat.le_of_ble_eq_true rfl) dX0_init_7 (fun q7 cA H hK2 hP hD hS => ?_)
  have eA := arr_F hK2
  subst eA
  have hP : va_P G.1 vwCl [(h0, .inr (0, [.null, .int 0, .int 0])), (q7, .inl (G.2.2.2.1, 24, .inr (.inr (.inr (.inr (fun _ => none))))))] H := hP
  have hD : va_D A [(h0, .inr (0, [.null, .int 0, .int 0])), (q7, .inl (G.2.2.2.1, 24, .inr (.inr (.inr (.inr (fun _ => none))))))] := hD
  refine va_putF (ci := 0) (v := .ref q7) (ty := .array (.object "CockleSquires$Flat")) (C := RX0) (T := TX0) (N := 3) hx hb hts inlX0 tyX0 tyX0_ok nmX0 hown hK hP hD hS 0 rfl rfl 0 (by decide) (hts _ q_71) (fun _ h9 => h9) rfl hin rfl (by decide +kernel) rfl rfl (Nat.le_of_ble_eq_true rfl) dX0_init_10 (fun H locs hP hD hS => ?_)
  have hP : va_P G.1 vwCl [(h0, .inr (0, [.ref q7, .int 0, .int 0])), (q7, .inl (G.2.2.2.1, 24, .inr (.inr (.inr (.inr (fun _ => none))))))] H := hP
  have hD : va_D A [(h0, .inr (0, [.ref q7, .int 0, .int 0])), (q7, .inl (G.2.2.2.1, 24, .inr (.inr (.inr (.inr (fun _ => none))))))] := hD
  refine lv_aload_n hx hb dX0_init_13 rfl (lv_at hl 0 rfl) ?_
  refine lv_iconst (v := 0) hx hb dX0_init_14 (by decide) ?_
  refine va_put (ci := 0) (v := .int 0) (ty := .int) (C := RX0) (T := TX0) (N := 3) hx hb hts inlX0 tyX0 tyX0_ok nmX0 hown hK hP hD hS 0 rfl rfl 1 (by decide) (hts _ q_72) (fun _ h9 => h9) rfl (by decide +kernel) rfl rfl (Nat.le_of_ble_eq_true rfl) dX0_init_15 (fun H locs hP hD hS => ?_)
  have hP : va_P G.1 vwCl [(h0, .inr (0, [.ref q7, .int 0, .int 0])), (q7, .inl (G.2.2.2.1, 24, .inr (.inr (.inr (.inr (fun _ => none))))))] H := hP
  have hD : va_D A [(h0, .inr (0, [.ref q7, .int 0, .int 0])), (q7, .inl (G.2.2.2.1, 24, .inr (.inr (.inr (.inr (fun _ => none))))))] := hD
  refine lv_aload_n hx hb dX0_init_18 rfl (lv_at hl 0 rfl) ?_
  refine lv_iconst (v := 0) hx hb dX0_init_19 (by decide) ?_
  refine va_put (ci := 0) (v := .int 0) (ty := .int) (C := RX0) (T := TX0) (N := 3) hx hb hts inlX0 tyX0 tyX0_ok nmX0 hown hK hP hD hS 0 rfl rfl 2 (by decide) (hts _ q_73) (fun _ h9 => h9) rfl (by decide +kernel) rfl rfl (Nat.le_of_ble_eq_true rfl) dX0_init_20 (fun H locs hP hD hS => ?_)
  have hP : va_P G.1 vwCl [(h0, .inr (0, [.ref q7, .int 0, .int 0])), (q7, .inl (G.2.2.2.1, 24, .inr (.inr (.inr (.inr (fun _ => none))))))] H := hP
  have hD : va_D A [(h0, .inr (0, [.ref q7, .int 0, .int 0])), (q7, .inl (G.2.2.2.1, 24, .inr (.inr (.inr (.inr (fun _ => none))))))] := hD
  exact W.vret hx hb hr (fun t ht hW => ⟨⟨q7, rfl, trivial, by rw [ht]; exact hP, hD⟩, hS.F ht⟩) hS.2.2 dX0_init_23
def at_X3 (G : mm_G) (h0 : Nat) (u : Nat × Nat × Nat × Nat × Nat × Nat × Nat × Nat) : va_W := match u with | (q5, u9_0, u9_1, u9_2, u9_3, q18, q26, q34) => [(h0, .inr (3, [.ref q5, .ref q18, .ref q26, .ref q34])), (q5, .inr (2, [.int 0, .int 0, .int 0, .int 0, .int 0, .int 0, .ref u9_0, .ref u9_1, .ref u9_2, .ref u9_3])), (u9_0, .inl (G.2.1, 3, .inl (fun _ => 0))), (u9_1, .inl (G.2.1, 9, .inl (fun _ => 0))), (u9_2, .inl (G.2.1, 9, .inl (fun _ => 0))), (u9_3, .inl (G.2.1, 9, .inl (fun _ => 0))), (q18, .inl (G.2.1, 12, .inl (fun _ => 0))), (q26, .inl (G.2.1, 9, .inl (fun _ => 0))), (q34, .inl (G.2.1, 81, .inl (fun _ => 0)))]
set_option maxHeartbeats 4000000 in
set_option maxRecDepth 100000 in
theorem c_X3_init (l : Launch) (G : mm_G) (h0 sz : Nat) : Met l yX3_init (.code yX3_init cX3_init 1 none :: wsL_law) ({ frames := 2, cells := 8, slots := 142, locals := 80 }) (va_Pc [.ref h0] (fun U => U.heap.size = sz ∧ va_P G.1 vwCl [(h0, .inr (3, [.null, .null, .null, .null]))] U.heap ∧ mm_K G U ∧ va_D (fun _ => True) [(h0, .inr (3, [.null, .null, .null, .null]))])) (va_Qv (fun _ : Nat × Nat × Nat × Nat × Nat × Nat × Nat × Nat => True) (fun u t => va_P G.1 vwCl (at_X3 G h0 u) t.heap ∧ va_D (va_A [(h0, .inr (3, [.null, .null, .null, .null]))] sz) (at_X3 G h0 u)) (va_A [(h0, .inr (3, [.null, .null, .null, .null]))] sz)) 8 142 (va_A [(h0, .inr (3, [.null, .null, .null, .null]))] sz) := by
  refine Met.ofW (cc := cX3_init) (maxL := 1) (ret := none) (by decide) rfl ?_
  intro p e s m args below meth c s₁ B hml hv
  obtain ⟨rfl, hsz, hP, hKK, hD0⟩ := hv
  have hx := B.exec
  have hb := B.bytes
  have hr := B.returns
  have hts0 := atoms_spec (ws := .code yX3_init cX3_init 1 none :: wsL_law) B.pre
  have hts := fun (w : Cond) (hw : w ∈ wsL_law) => hts0 w (List.mem_cons_of_mem _ hw)
  have hown : s.vm.findClass RX3 = some m.cls := findClass_of_methodNamed B.named
  have hlocks := B.notSynchronized
  have hin : meth.name = "<init>" := (name_of_methodNamed B.named B.method).1
  subst hsz
  have hD := hD0.self (sz := s.heap.size)
  generalize hAe : va_A [(h0, .inr (3, [.null, .null, .null, .null]))] s.heap.size = A at hD ⊢
  have hA : ∀ q : Nat, s.heap.size ≤ q → A q := fun q h => by rw [← hAe]; exact Or.inr h
  have hS : va_S A s.heap s.heap [] := va_S.rf
  have hK := hKK.1
  have hl := lv_entry ([.ref h0]) (n := 1) (Nat.le_of_ble_eq_true rfl)
  rw [lg_entry_eq]
  generalize (lg_sl ([.ref h0]) ++ List.replicate (1 - (lg_sl ([.ref h0])).length) Slot.unset).toArray = ls at hl ⊢
  have hl : lv_has ls 1 [(0, .ref h0)] := hl
  refine lv_aload_n hx hb dX3_init_0 rfl (lv_at hl 0 rfl) ?_
  refine W.objInit hx hb hown (hts _ q_76) (hts _ q_10) (hts _ q_11) rfl (by rw [hml]; exact hl.1) rfl dX3_init_1 (Nat.le_of_ble_eq_true rfl) (Nat.le_of_ble_eq_true rfl) ?_
  refine W.eq (g2 := F0 m 4 ls []) rfl ?_
  refine lv_aload_n hx hb dX3_init_4 rfl (lv_at hl 0 rfl) ?_
  refine va_new (ci := 2) (fs := [.int 0, .int 0, .int 0, .int 0, .int 0, .int 0, .null, .null, .null, .null]) (C := RX2) (T := TX2) (N := 10) hx hb hts inlX2 tyX2 tyX2_ok hown (hts _ q_77) (hts _ q_21) (hts _ q_22) hK hP hD hS hA rfl (fun j hj => by rcases (show j = 0 ∨ j = 1 ∨ j = 2 ∨ j = 3 ∨ j = 4 ∨ j = 5 ∨ j = 6 ∨ j = 7 ∨ j = 8 ∨ j = 9 by omega) with rfl | rfl | rfl | rfl | rfl | rfl | rfl | rfl | rfl | rfl <;> rfl) (Nat.le_of_ble_eq_true rfl) (Nat.le_of_ble_eq_true rfl) dX3_init_5 (fun q5 H hP hD hS => ?_)
  have hP : va_P G.1 vwCl [(h0, .inr (3, [.null, .null, .null, .null])), (q5, .inr (2, [.int 0, .int 0, .int 0, .int 0, .int 0, .int 0, .null, .null, .null, .null]))] H := hP
  have hD : va_D A [(h0, .inr (3, [.null, .null, .null, .null])), (q5, .inr (2, [.int 0, .int 0, .int 0, .int 0, .int 0, .int 0, .null, .null, .null, .null]))] := hD
  refine lv_dup hx hb dX3_init_8 rfl ?_
  have hPc := hP.sub (ws' := [(q5, .inr (2, [.int 0, .int 0, .int 0, .int 0, .int 0, .int 0, .null, .null, .null, .null]))]) [1] rfl
  have hDc := hD.sub (ws' := [(q5, .inr (2, [.int 0, .int 0, .int 0, .int 0, .int 0, .int 0, .null, .null, .null, .null]))]) [1] (by decide) rfl
  have hFc := va_free (wc := [(q5, .inr (2, [.int 0, .int 0, .int 0, .int 0, .int 0, .int 0, .null, .null, .null, .null]))]) hD hS hA [1] rfl
  refine va_callv (va_runIN (As := []) (rest := [.ref q5, .ref h0]) ⟨hx, hb, hml, hown, hts⟩ (c_X2_init l G q5 H.size) ⟨va_cnB 0 hts (mm_gc hy_X2_init.2.1) rfl rfl rfl (hKK.2.2 _ nm_X3_11) (hts _ hy_X2_init.2.2) hy_X2_init.1 ⟨Nat.le_of_ble_eq_true rfl, Nat.le_of_ble_eq_true rfl⟩, rfl, hts _ hi_X2_init⟩ ⟨fun a U g mk q => ⟨q.1, q.2.1, q.2.2.1, q.2.2.2.1.same (u := U) (U := U.calling g mk a) rfl, q.2.2.2.2⟩, fun U hU hW => ⟨rfl, by rw [hU], by rw [hU]; exact hPc, hKK.warm hW, hDc.weaken (fun _ _ _ _ => trivial)⟩⟩ rfl rfl hl.1 rfl (lv_room (Nat.le_of_ble_eq_true rfl)) dX3_init_9 ⟨Nat.le_of_ble_eq_true rfl, Nat.le_of_ble_eq_true rfl⟩) hS (fun q _ h => hFc q h) hFc (fun u t H1 locs ht hvm hw hB hz1 hk1 hS => ?_)
  obtain ⟨u9_0, u9_1, u9_2, u9_3⟩ := u
  obtain ⟨hP1, hD1⟩ := hB
  rw [ht] at hP1
  obtain ⟨hP, hD⟩ := va_join (wr := [(h0, .inr (3, [.null, .null, .null, .null]))]) (w1 := [(q5, .inr (2, [.int 0, .int 0, .int 0, .int 0, .int 0, .int 0, .ref u9_0, .ref u9_1, .ref u9_2, .ref u9_3])), (u9_0, .inl (G.2.1, 3, .inl (fun _ => 0))), (u9_1, .inl (G.2.1, 9, .inl (fun _ => 0))), (u9_2, .inl (G.2.1, 9, .inl (fun _ => 0))), (u9_3, .inl (G.2.1, 9, .inl (fun _ => 0)))]) hP hD [1] [0] rfl rfl (by decide) (by decide) hk1 hFc hP1 hD1
  generalize H1 = H at hP hS ⊢
  have hP : va_P G.1 vwCl [(h0, .inr (3, [.null, .null, .null, .null])), (q5, .inr (2, [.int 0, .int 0, .int 0, .int 0, .int 0, .int 0, .ref u9_0, .ref u9_1, .ref u9_2, .ref u9_3])), (u9_0, .inl (G.2.1, 3, .inl (fun _ => 0))), (u9_1, .inl (G.2.1, 9, .inl (fun _ => 0))), (u9_2, .inl (G.2.1, 9, .inl (fun _ => 0))), (u9_3, .inl (G.2.1, 9, .inl (fun _ => 0)))] H := hP
  have hD : va_D A [(h0, .inr (3, [.null, .null, .null, .null])), (q5, .inr (2, [.int 0, .int 0, .int 0, .int 0, .int 0, .int 0, .ref u9_0, .ref u9_1, .ref u9_2, .ref u9_3])), (u9_0, .inl (G.2.1, 3, .inl (fun _ => 0))), (u9_1, .inl (G.2.1, 9, .inl (fun _ => 0))), (u9_2, .inl (G.2.1, 9, .inl (fun _ => 0))), (u9_3, .inl (G.2.1, 9, .inl (fun _ => 0)))] := hD
  refine va_putF (ci := 3) (v := .ref q5) (ty := .object "CockleSquires$Flat") (C := RX3) (T := TX3) (N := 4) hx hb hts inlX3 tyX3 tyX3_ok nmX3 hown hK hP hD hS 0 rfl rfl 0 (by decide) (hts _ q_78) (fun _ h9 => h9) rfl hin rfl (by decide +kernel) rfl rfl (Nat.le_of_ble_eq_true rfl) dX3_init_12 (fun H locs hP hD hS => ?_)
  have hP : va_P G.1 vwCl [(h0, .inr (3, [.ref q5, .null, .null, .null])), (q5, .inr (2, [.int 0, .int 0, .int 0, .int 0, .int 0, .int 0, .ref u9_0, .ref u9_1, .ref u9_2, .ref u9_3])), (u9_0, .inl (G.2.1, 3, .inl (fun _ => 0))), (u9_1, .inl (G.2.1, 9, .inl (fun _ => 0))), (u9_2, .inl (G.2.1, 9, .inl (fun _ => 0))), (u9_3, .inl (G.2.1, 9, .inl (fun _ => 0)))] H := hP
  have hD : va_D A [(h0, .inr (3, [.ref q5, .null, .null, .null])), (q5, .inr (2, [.int 0, .int 0, .int 0, .int 0, .int 0, .int 0, .ref u9_0, .ref u9_1, .ref u9_2, .ref u9_3])), (u9_0, .inl (G.2.1, 3, .inl (fun _ => 0))), (u9_1, .inl (G.2.1, 9, .inl (fun _ => 0))), (u9_2, .inl (G.2.1, 9, .inl (fun _ => 0))), (u9_3, .inl (G.2.1, 9, .inl (fun _ => 0)))] := hD
  refine lv_aload_n hx hb dX3_init_15 rfl (lv_at hl 0 rfl) ?_
  refine lv_bipush (v := 12) hx hb dX3_init_16 (by decide) ?_
  refine va_newa (atype := .int) (ty := .int) (a0 := (12, .inl (fun _ => 0))) (N' := 12) hx hb (hts _ q_43) rfl hK hP hD hS hA (fun cA => rfl) (by decide) (by decide) (by decide) (Nat.le_of_ble_eq_true rfl) (Nat.le_of_ble_eq_true rfl) dX3_init_18 (fun q18 cA H hK2 hP hD hS => ?_)
  have eA := arr_I hK2
  subst eA
  have hP : va_P G.1 vwCl [(h0, .inr (3, [.ref q5, .null, .null, .null])), (q5, .inr (2, [.int 0, .int 0, .int 0, .int 0, .int 0, .int 0, .ref u9_0, .ref u9_1, .ref u9_2, .ref u9_3])), (u9_0, .inl (G.2.1, 3, .inl (fun _ => 0))), (u9_1, .inl (G.2.1, 9, .inl (fun _ => 0))), (u9_2, .inl (G.2.1, 9, .inl (fun _ => 0))), (u9_3, .inl (G.2.1, 9, .inl (fun _ => 0))), (q18, .inl (G.2.1, 12, .inl (fun _ => 0)))] H := hP
  have hD : va_D A [(h0, .inr (3, [.ref q5, .null, .null, .null])), (q5, .inr (2, [.int 0, .int 0, .int 0, .int 0, .int 0, .int 0, .ref u9_0, .ref u9_1, .ref u9_2, .ref u9_3])), (u9_0, .inl (G.2.1, 3, .inl (fun _ => 0))), (u9_1, .inl (G.2.1, 9, .inl (fun _ => 0))), (u9_2, .inl (G.2.1, 9, .inl (fun _ => 0))), (u9_3, .inl (G.2.1, 9, .inl (fun _ => 0))), (q18, .inl (G.2.1, 12, .inl (fun _ => 0)))] := hD
  refine va_putF (ci := 3) (v := .ref q18) (ty := .array .int) (C := RX3) (T := TX3) (N := 4) hx hb hts inlX3 tyX3 tyX3_ok nmX3 hown hK hP hD hS 0 rfl rfl 1 (by decide) (hts _ q_79) (fun _ h9 => h9) rfl hin rfl (by decide +kernel) rfl rfl (Nat.le_of_ble_eq_true rfl) dX3_init_20 (fun H locs hP hD hS => ?_)
  have hP : va_P G.1 vwCl [(h0, .inr (3, [.ref q5, .ref q18, .null, .null])), (q5, .inr (2, [.int 0, .int 0, .int 0, .int 0, .int 0, .int 0, .ref u9_0, .ref u9_1, .ref u9_2, .ref u9_3])), (u9_0, .inl (G.2.1, 3, .inl (fun _ => 0))), (u9_1, .inl (G.2.1, 9, .inl (fun _ => 0))), (u9_2, .inl (G.2.1, 9, .inl (fun _ => 0))), (u9_3, .inl (G.2.1, 9, .inl (fun _ => 0))), (q18, .inl (G.2.1, 12, .inl (fun _ => 0)))] H := hP
  have hD : va_D A [(h0, .inr (3, [.ref q5, .ref q18, .null, .null])), (q5, .inr (2, [.int 0, .int 0, .int 0, .int 0, .int 0, .int 0, .ref u9_0, .ref u9_1, .ref u9_2, .ref u9_3])), (u9_0, .inl (G.2.1, 3, .inl (fun _ => 0))), (u9_1, .inl (G.2.1, 9, .inl (fun _ => 0))), (u9_2, .inl (G.2.1, 9, .inl (fun _ => 0))), (u9_3, .inl (G.2.1, 9, .inl (fun _ => 0))), (q18, .inl (G.2.1, 12, .inl (fun _ => 0)))] := hD
  refine lv_aload_n hx hb dX3_init_23 rfl (lv_at hl 0 rfl) ?_
  refine lv_bipush (v := 9) hx hb dX3_init_24 (by decide) ?_
  refine va_newa (atype := .int) (ty := .int) (a0 := (9, .inl (fun _ => 0))) (N' := 9) hx hb (hts _ q_43) rfl hK hP hD hS hA (fun cA => rfl) (by decide) (by decide) (by decide) (Nat.le_of_ble_eq_true rfl) (Nat.le_of_ble_eq_true rfl) dX3_init_26 (fun q26 cA H hK2 hP hD hS => ?_)
  have eA := arr_I hK2
  subst eA
  have hP : va_P G.1 vwCl [(h0, .inr (3, [.ref q5, .ref q18, .null, .null])), (q5, .inr (2, [.int 0, .int 0, .int 0, .int 0, .int 0, .int 0, .ref u9_0, .ref u9_1, .ref u9_2, .ref u9_3])), (u9_0, .inl (G.2.1, 3, .inl (fun _ => 0))), (u9_1, .inl (G.2.1, 9, .inl (fun _ => 0))), (u9_2, .inl (G.2.1, 9, .inl (fun _ => 0))), (u9_3, .inl (G.2.1, 9, .inl (fun _ => 0))), (q18, .inl (G.2.1, 12, .inl (fun _ => 0))), (q26, .inl (G.2.1, 9, .inl (fun _ => 0)))] H := hP
  have hD : va_D A [(h0, .inr (3, [.ref q5, .ref q18, .null, .null])), (q5, .inr (2, [.int 0, .int 0, .int 0, .int 0, .int 0, .int 0, .ref u9_0, .ref u9_1, .ref u9_2, .ref u9_3])), (u9_0, .inl (G.2.1, 3, .inl (fun _ => 0))), (u9_1, .inl (G.2.1, 9, .inl (fun _ => 0))), (u9_2, .inl (G.2.1, 9, .inl (fun _ => 0))), (u9_3, .inl (G.2.1, 9, .inl (fun _ => 0))), (q18, .inl (G.2.1, 12, .inl (fun _ => 0))), (q26, .inl (G.2.1, 9, .inl (fun _ => 0)))] := hD
  refine va_putF (ci := 3) (v := .ref q26) (ty := .array .int) (C := RX3) (T := TX3) (N := 4) hx hb hts inlX3 tyX3 tyX3_ok nmX3 hown hK hP hD hS 0 rfl rfl 2 (by decide) (hts _ q_80) (fun _ h9 => h9) rfl hin rfl (by decide +kernel) rfl rfl (Nat.le_of_ble_eq_true rfl) dX3_init_28 (fun H locs hP hD hS => ?_)
  have hP : va_P G.1 vwCl [(h0, .inr (3, [.ref q5, .ref q18, .ref q26, .null])), (q5, .inr (2, [.int 0, .int 0, .int 0, .int 0, .int 0, .int 0, .ref u9_0, .ref u9_1, .ref u9_2, .ref u9_3])), (u9_0, .inl (G.2.1, 3, .inl (fun _ => 0))), (u9_1, .inl (G.2.1, 9, .inl (fun _ => 0))), (u9_2, .inl (G.2.1, 9, .inl (fun _ => 0))), (u9_3, .inl (G.2.1, 9, .inl (fun _ => 0))), (q18, .inl (G.2.1, 12, .inl (fun _ => 0))), (q26, .inl (G.2.1, 9, .inl (fun _ => 0)))] H := hP
  have hD : va_D A [(h0, .inr (3, [.ref q5, .ref q18, .ref q26, .null])), (q5, .inr (2, [.int 0, .int 0, .int 0, .int 0, .int 0, .int 0, .ref u9_0, .ref u9_1, .ref u9_2, .ref u9_3])), (u9_0, .inl (G.2.1, 3, .inl (fun _ => 0))), (u9_1, .inl (G.2.1, 9, .inl (fun _ => 0))), (u9_2, .inl (G.2.1, 9, .inl (fun _ => 0))), (u9_3, .inl (G.2.1, 9, .inl (fun _ => 0))), (q18, .inl (G.2.1, 12, .inl (fun _ => 0))), (q26, .inl (G.2.1, 9, .inl (fun _ => 0)))] := hD
  refine lv_aload_n hx hb dX3_init_31 rfl (lv_at hl 0 rfl) ?_
  refine lv_bipush (v := 81) hx hb dX3_init_32 (by decide) ?_
  refine va_newa (atype := .int) (ty := .int) (a0 := (81, .inl (fun _ => 0))) (N' := 81) hx hb (hts _ q_43) rfl hK hP hD hS hA (fun cA => rfl) (by decide) (by decide) (by decide) (Nat.le_of_ble_eq_true rfl) (Nat.le_of_ble_eq_true rfl) dX3_init_34 (fun q34 cA H hK2 hP hD hS => ?_)
  have eA := arr_I hK2
  subst eA
  have hP : va_P G.1 vwCl [(h0, .inr (3, [.ref q5, .ref q18, .ref q26, .null])), (q5, .inr (2, [.int 0, .int 0, .int 0, .int 0, .int 0, .int 0, .ref u9_0, .ref u9_1, .ref u9_2, .ref u9_3])), (u9_0, .inl (G.2.1, 3, .inl (fun _ => 0))), (u9_1, .inl (G.2.1, 9, .inl (fun _ => 0))), (u9_2, .inl (G.2.1, 9, .inl (fun _ => 0))), (u9_3, .inl (G.2.1, 9, .inl (fun _ => 0))), (q18, .inl (G.2.1, 12, .inl (fun _ => 0))), (q26, .inl (G.2.1, 9, .inl (fun _ => 0))), (q34, .inl (G.2.1, 81, .inl (fun _ => 0)))] H := hP
  have hD : va_D A [(h0, .inr (3, [.ref q5, .ref q18, .ref q26, .null])), (q5, .inr (2, [.int 0, .int 0, .int 0, .int 0, .int 0, .int 0, .ref u9_0, .ref u9_1, .ref u9_2, .ref u9_3])), (u9_0, .inl (G.2.1, 3, .inl (fun _ => 0))), (u9_1, .inl (G.2.1, 9, .inl (fun _ => 0))), (u9_2, .inl (G.2.1, 9, .inl (fun _ => 0))), (u9_3, .inl (G.2.1, 9, .inl (fun _ => 0))), (q18, .inl (G.2.1, 12, .inl (fun _ => 0))), (q26, .inl (G.2.1, 9, .inl (fun _ => 0))), (q34, .inl (G.2.1, 81, .inl (fun _ => 0)))] := hD
  refine va_putF (ci := 3) (v := .ref q34) (ty := .array .int) (C := RX3) (T := TX3) (N := 4) hx hb hts inlX3 tyX3 tyX3_ok nmX3 hown hK hP hD hS 0 rfl rfl 3 (by decide) (hts _ q_81) (fun _ h9 => h9) rfl hin rfl (by decide +kernel) rfl rfl (Nat.le_of_ble_eq_true rfl) dX3_init_36 (fun H locs hP hD hS => ?_)
  have hP : va_P G.1 vwCl [(h0, .inr (3, [.ref q5, .ref q18, .ref q26, .ref q34])), (q5, .inr (2, [.int 0, .int 0, .int 0, .int 0, .int 0, .int 0, .ref u9_0, .ref u9_1, .ref u9_2, .ref u9_3])), (u9_0, .inl (G.2.1, 3, .inl (fun _ => 0))), (u9_1, .inl (G.2.1, 9, .inl (fun _ => 0))), (u9_2, .inl (G.2.1, 9, .inl (fun _ => 0))), (u9_3, .inl (G.2.1, 9, .inl (fun _ => 0))), (q18, .inl (G.2.1, 12, .inl (fun _ => 0))), (q26, .inl (G.2.1, 9, .inl (fun _ => 0))), (q34, .inl (G.2.1, 81, .inl (fun _ => 0)))] H := hP
  have hD : va_D A [(h0, .inr (3, [.ref q5, .ref q18, .ref q26, .ref q34])), (q5, .inr (2, [.int 0, .int 0, .int 0, .int 0, .int 0, .int 0, .ref u9_0, .ref u9_1, .ref u9_2, .ref u9_3])), (u9_0, .inl (G.2.1, 3, .inl (fun _ => 0))), (u9_1, .inl (G.2.1, 9, .inl (fun _ => 0))), (u9_2, .inl (G.2.1, 9, .inl (fun _ => 0))), (u9_3, .inl (G.2.1, 9, .inl (fun _ => 0))), (q18, .inl (G.2.1, 12, .inl (fun _ => 0))), (q26, .inl (G.2.1, 9, .inl (fun _ => 0))), (q34, .inl (G.2.1, 81, .inl (fun _ => 0)))] := hD
  exact W.vret hx hb hr (fun t ht hW => ⟨⟨⟨q5, u9_0, u9_1, u9_2, u9_3, q18, q26, q34⟩, rfl, trivial, by rw [ht]; exact hP, hD⟩, hS.F ht⟩) hS.2.2 dX3_init_39
