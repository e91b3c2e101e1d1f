def F_J6_bitCount_0f7a4 (x1 : Int32) : Int32 := ((((((((x1 - (((x1.toUInt32 >>> ((1 : Int32).toUInt32 &&& Int32.toUInt32 31)).toInt32) &&& 1431655765)) &&& 858993459) + ((((x1 - (((x1.toUInt32 >>> ((1 : Int32).toUInt32 &&& Int32.toUInt32 31)).toInt32) &&& 1431655765)).toUInt32 >>> ((2 : Int32).toUInt32 &&& Int32.toUInt32 31)).toInt32) &&& 858993459)) + (((((x1 - (((x1.toUInt32 >>> ((1 : Int32).toUInt32 &&& Int32.toUInt32 31)).toInt32) &&& 1431655765)) &&& 858993459) + ((((x1 - (((x1.toUInt32 >>> ((1 : Int32).toUInt32 &&& Int32.toUInt32 31)).toInt32) &&& 1431655765)).toUInt32 >>> ((2 : Int32).toUInt32 &&& Int32.toUInt32 31)).toInt32) &&& 858993459)).toUInt32 >>> ((4 : Int32).toUInt32 &&& Int32.toUInt32 31)).toInt32)) &&& 252645135) + (((((((x1 - (((x1.toUInt32 >>> ((1 : Int32).toUInt32 &&& Int32.toUInt32 31)).toInt32) &&& 1431655765)) &&& 858993459) + ((((x1 - (((x1.toUInt32 >>> ((1 : Int32).toUInt32 &&& Int32.toUInt32 31)).toInt32) &&& 1431655765)).toUInt32 >>> ((2 : Int32).toUInt32 &&& Int32.toUInt32 31)).toInt32) &&& 858993459)) + (((((x1 - (((x1.toUInt32 >>> ((1 : Int32).toUInt32 &&& Int32.toUInt32 31)).toInt32) &&& 1431655765)) &&& 858993459) + ((((x1 - (((x1.toUInt32 >>> ((1 : Int32).toUInt32 &&& Int32.toUInt32 31)).toInt32) &&& 1431655765)).toUInt32 >>> ((2 : Int32).toUInt32 &&& Int32.toUInt32 31)).toInt32) &&& 858993459)).toUInt32 >>> ((4 : Int32).toUInt32 &&& Int32.toUInt32 31)).toInt32)) &&& 252645135).toUInt32 >>> ((8 : Int32).toUInt32 &&& Int32.toUInt32 31)).toInt32)) + ((((((((x1 - (((x1.toUInt32 >>> ((1 : Int32).toUInt32 &&& Int32.toUInt32 31)).toInt32) &&& 1431655765)) &&& 858993459) + ((((x1 - (((x1.toUInt32 >>> ((1 : Int32).toUInt32 &&& Int32.toUInt32 31)).toInt32) &&& 1431655765)).toUInt32 >>> ((2 : Int32).toUInt32 &&& Int32.toUInt32 31)).toInt32) &&& 858993459)) + (((((x1 - (((x1.toUInt32 >>> ((1 : Int32).toUInt32 &&& Int32.toUInt32 31)).toInt32) &&& 1431655765)) &&& 858993459) + ((((x1 - (((x1.toUInt32 >>> ((1 : Int32).toUInt32 &&& Int32.toUInt32 31)).toInt32) &&& 1431655765)).toUInt32 >>> ((2 : Int32).toUInt32 &&& Int32.toUInt32 31)).toInt32) &&& 858993459)).toUInt32 >>> ((4 : Int32).toUInt32 &&& Int32.toUInt32 31)).toInt32)) &&& 252645135) + (((((((x1 - (((x1.toUInt32 >>> ((1 : Int32).toUInt32 &&& Int32.toUInt32 31)).toInt32) &&& 1431655765)) &&& 858993459) + ((((x1 - (((x1.toUInt32 >>> ((1 : Int32).toUInt32 &&& Int32.toUInt32 31)).toInt32) &&& 1431655765)).toUInt32 >>> ((2 : Int32).toUInt32 &&& Int32.toUInt32 31)).toInt32) &&& 858993459)) + (((((x1 - (((x1.toUInt32 >>> ((1 : Int32).toUInt32 &&& Int32.toUInt32 31)).toInt32) &&& 1431655765)) &&& 858993459) + ((((x1 - (((x1.toUInt32 >>> ((1 : Int32).toUInt32 &&& Int32.toUInt32 31)).toInt32) &&& 1431655765)).toUInt32 >>> ((2 : Int32).toUInt32 &&& Int32.toUInt32 31)).toInt32) &&& 858993459)).toUInt32 >>> ((4 : Int32).toUInt32 &&& Int32.toUInt32 31)).toInt32)) &&& 252645135).toUInt32 >>> ((8 : Int32).toUInt32 &&& Int32.toUInt32 31)).toInt32)).toUInt32 >>> ((16 : Int32).toUInt32 &&& Int32.toUInt32 31)).toInt32)) &&& 63)
set_option maxRecDepth 100000 in
set_option maxHeartbeats 4000000 in
theorem k_J6_bitCount_0f7a4 (l : Launch) (G : mm_G) {pr : Nat → Nat → Prop} {ad : Nat → Nat → Nat → Nat} (hw : mm_W pr) (g : mm_g) (x1 : Int32)  : Mt l G yJ6_bitCount_0f7a4 cJ6_bitCount_0f7a4 1 (some .int) (rmk 1 60) [.int x1] pr ad g (qI pr ad g (F_J6_bitCount_0f7a4 x1)) 0 0 := by
  refine Mt_of (by decide) (Nat.le_of_ble_eq_true rfl) ?_
  show V l G RJ6 cJ6_bitCount_0f7a4 1 (some .int) _ _ 0 0 0 0 0 [(0, .int x1)] [] pr ad g
  refine V_iload_n dJ6_bitCount_0f7a4_0 0 rfl ?_
  refine V_iload_n dJ6_bitCount_0f7a4_1 0 rfl ?_
  refine V_iconst (v := 1) dJ6_bitCount_0f7a4_2 (by decide) ?_
  refine V_iushr dJ6_bitCount_0f7a4_3 rfl ?_
  refine V_ldcw q_728 dJ6_bitCount_0f7a4_4 ?_
  refine V_iand dJ6_bitCount_0f7a4_7 ?_
  refine V_isub dJ6_bitCount_0f7a4_8 ?_
  refine V_istore_n (L2 := [(0, .int (x1 - (((x1.toUInt32 >>> ((1 : Int32).toUInt32 &&& Int32.toUInt32 31)).toInt32) &&& 1431655765)))]) dJ6_bitCount_0f7a4_9 (by decide) rfl ?_
  refine V_iload_n dJ6_bitCount_0f7a4_10 0 rfl ?_
  refine V_ldcw q_729 dJ6_bitCount_0f7a4_11 ?_
  refine V_iand dJ6_bitCount_0f7a4_14 ?_
  refine V_iload_n dJ6_bitCount_0f7a4_15 0 rfl ?_
  refine V_iconst (v := 2) dJ6_bitCount_0f7a4_16 (by decide) ?_
  refine V_iushr dJ6_bitCount_0f7a4_17 rfl ?_
  refine V_ldcw q_729 dJ6_bitCount_0f7a4_18 ?_
  refine V_iand dJ6_bitCount_0f7a4_21 ?_
  refine V_iadd dJ6_bitCount_0f7a4_22 ?_
  refine V_istore_n (L2 := [(0, .int (((x1 - (((x1.toUInt32 >>> ((1 : Int32).toUInt32 &&& Int32.toUInt32 31)).toInt32) &&& 1431655765)) &&& 858993459) + ((((x1 - (((x1.toUInt32 >>> ((1 : Int32).toUInt32 &&& Int32.toUInt32 31)).toInt32) &&& 1431655765)).toUInt32 >>> ((2 : Int32).toUInt32 &&& Int32.toUInt32 31)).toInt32) &&& 858993459)))]) dJ6_bitCount_0f7a4_23 (by decide) rfl ?_
  refine V_iload_n dJ6_bitCount_0f7a4_24 0 rfl ?_
  refine V_iload_n dJ6_bitCount_0f7a4_25 0 rfl ?_
  refine V_iconst (v := 4) dJ6_bitCount_0f7a4_26 (by decide) ?_
  refine V_iushr dJ6_bitCount_0f7a4_27 rfl ?_
  refine V_iadd dJ6_bitCount_0f7a4_28 ?_
  refine V_ldcw q_730 dJ6_bitCount_0f7a4_29 ?_
  refine V_iand dJ6_bitCount_0f7a4_32 ?_
  refine V_istore_n (L2 := [(0, .int (((((x1 - (((x1.toUInt32 >>> ((1 : Int32).toUInt32 &&& Int32.toUInt32 31)).toInt32) &&& 1431655765)) &&& 858993459) + ((((x1 - (((x1.toUInt32 >>> ((1 : Int32).toUInt32 &&& Int32.toUInt32 31)).toInt32) &&& 1431655765)).toUInt32 >>> ((2 : Int32).toUInt32 &&& Int32.toUInt32 31)).toInt32) &&& 858993459)) + (((((x1 - (((x1.toUInt32 >>> ((1 : Int32).toUInt32 &&& Int32.toUInt32 31)).toInt32) &&& 1431655765)) &&& 858993459) + ((((x1 - (((x1.toUInt32 >>> ((1 : Int32).toUInt32 &&& Int32.toUInt32 31)).toInt32) &&& 1431655765)).toUInt32 >>> ((2 : Int32).toUInt32 &&& Int32.toUInt32 31)).toInt32) &&& 858993459)).toUInt32 >>> ((4 : Int32).toUInt32 &&& Int32.toUInt32 31)).toInt32)) &&& 252645135))]) dJ6_bitCount_0f7a4_33 (by decide) rfl ?_
  refine V_iload_n dJ6_bitCount_0f7a4_34 0 rfl ?_
  refine V_iload_n dJ6_bitCount_0f7a4_35 0 rfl ?_
  refine V_bipush (v := 8) dJ6_bitCount_0f7a4_36 (by decide) ?_
  refine V_iushr dJ6_bitCount_0f7a4_38 rfl ?_
  refine V_iadd dJ6_bitCount_0f7a4_39 ?_
  refine V_istore_n (L2 := [(0, .int ((((((x1 - (((x1.toUInt32 >>> ((1 : Int32).toUInt32 &&& Int32.toUInt32 31)).toInt32) &&& 1431655765)) &&& 858993459) + ((((x1 - (((x1.toUInt32 >>> ((1 : Int32).toUInt32 &&& Int32.toUInt32 31)).toInt32) &&& 1431655765)).toUInt32 >>> ((2 : Int32).toUInt32 &&& Int32.toUInt32 31)).toInt32) &&& 858993459)) + (((((x1 - (((x1.toUInt32 >>> ((1 : Int32).toUInt32 &&& Int32.toUInt32 31)).toInt32) &&& 1431655765)) &&& 858993459) + ((((x1 - (((x1.toUInt32 >>> ((1 : Int32).toUInt32 &&& Int32.toUInt32 31)).toInt32) &&& 1431655765)).toUInt32 >>> ((2 : Int32).toUInt32 &&& Int32.toUInt32 31)).toInt32) &&& 858993459)).toUInt32 >>> ((4 : Int32).toUInt32 &&& Int32.toUInt32 31)).toInt32)) &&& 252645135) + (((((((x1 - (((x1.toUInt32 >>> ((1 : Int32).toUInt32 &&& Int32.toUInt32 31)).toInt32) &&& 1431655765)) &&& 858993459) + ((((x1 - (((x1.toUInt32 >>> ((1 : Int32).toUInt32 &&& Int32.toUInt32 31)).toInt32) &&& 1431655765)).toUInt32 >>> ((2 : Int32).toUInt32 &&& Int32.toUInt32 31)).toInt32) &&& 858993459)) + (((((x1 - (((x1.toUInt32 >>> ((1 : Int32).toUInt32 &&& Int32.toUInt32 31)).toInt32) &&& 1431655765)) &&& 858993459) + ((((x1 - (((x1.toUInt32 >>> ((1 : Int32).toUInt32 &&& Int32.toUInt32 31)).toInt32) &&& 1431655765)).toUInt32 >>> ((2 : Int32).toUInt32 &&& Int32.toUInt32 31)).toInt32) &&& 858993459)).toUInt32 >>> ((4 : Int32).toUInt32 &&& Int32.toUInt32 31)).toInt32)) &&& 252645135).toUInt32 >>> ((8 : Int32).toUInt32 &&& Int32.toUInt32 31)).toInt32)))]) dJ6_bitCount_0f7a4_40 (by decide) rfl ?_
  refine V_iload_n dJ6_bitCount_0f7a4_41 0 rfl ?_
  refine V_iload_n dJ6_bitCount_0f7a4_42 0 rfl ?_
  refine V_bipush (v := 16) dJ6_bitCount_0f7a4_43 (by decide) ?_
  refine V_iushr dJ6_bitCount_0f7a4_45 rfl ?_
  refine V_iadd dJ6_bitCount_0f7a4_46 ?_
  refine V_istore_n (L2 := [(0, .int (((((((x1 - (((x1.toUInt32 >>> ((1 : Int32).toUInt32 &&& Int32.toUInt32 31)).toInt32) &&& 1431655765)) &&& 858993459) + ((((x1 - (((x1.toUInt32 >>> ((1 : Int32).toUInt32 &&& Int32.toUInt32 31)).toInt32) &&& 1431655765)).toUInt32 >>> ((2 : Int32).toUInt32 &&& Int32.toUInt32 31)).toInt32) &&& 858993459)) + (((((x1 - (((x1.toUInt32 >>> ((1 : Int32).toUInt32 &&& Int32.toUInt32 31)).toInt32) &&& 1431655765)) &&& 858993459) + ((((x1 - (((x1.toUInt32 >>> ((1 : Int32).toUInt32 &&& Int32.toUInt32 31)).toInt32) &&& 1431655765)).toUInt32 >>> ((2 : Int32).toUInt32 &&& Int32.toUInt32 31)).toInt32) &&& 858993459)).toUInt32 >>> ((4 : Int32).toUInt32 &&& Int32.toUInt32 31)).toInt32)) &&& 252645135) + (((((((x1 - (((x1.toUInt32 >>> ((1 : Int32).toUInt32 &&& Int32.toUInt32 31)).toInt32) &&& 1431655765)) &&& 858993459) + ((((x1 - (((x1.toUInt32 >>> ((1 : Int32).toUInt32 &&& Int32.toUInt32 31)).toInt32) &&& 1431655765)).toUInt32 >>> ((2 : Int32).toUInt32 &&& Int32.toUInt32 31)).toInt32) &&& 858993459)) + (((((x1 - (((x1.toUInt32 >>> ((1 : Int32).toUInt32 &&& Int32.toUInt32 31)).toInt32) &&& 1431655765)) &&& 858993459) + ((((x1 - (((x1.toUInt32 >>> ((1 : Int32).toUInt32 &&& Int32.toUInt32 31)).toInt32) &&& 1431655765)).toUInt32 >>> ((2 : Int32).toUInt32 &&& Int32.toUInt32 31)).toInt32) &&& 858993459)).toUInt32 >>> ((4 : Int32).toUInt32 &&& Int32.toUInt32 31)).toInt32)) &&& 252645135).toUInt32 >>> ((8 : Int32).toUInt32 &&& Int32.toUInt32 31)).toInt32)) + ((((((((x1 - (((x1.toUInt32 >>> ((1 : Int32).toUInt32 &&& Int32.toUInt32 31)).toInt32) &&& 1431655765)) &&& 858993459) + ((((x1 - (((x1.toUInt32 >>> ((1 : Int32).toUInt32 &&& Int32.toUInt32 31)).toInt32) &&& 1431655765)).toUInt32 >>> ((2 : Int32).toUInt32 &&& Int32.toUInt32 31)).toInt32) &&& 858993459)) + (((((x1 - (((x1.toUInt32 >>> ((1 : Int32).toUInt32 &&& Int32.toUInt32 31)).toInt32) &&& 1431655765)) &&& 858993459) + ((((x1 - (((x1.toUInt32 >>> ((1 : Int32).toUInt32 &&& Int32.toUInt32 31)).toInt32) &&& 1431655765)).toUInt32 >>> ((2 : Int32).toUInt32 &&& Int32.toUInt32 31)).toInt32) &&& 858993459)).toUInt32 >>> ((4 : Int32).toUInt32 &&& Int32.toUInt32 31)).toInt32)) &&& 252645135) + (((((((x1 - (((x1.toUInt32 >>> ((1 : Int32).toUInt32 &&& Int32.toUInt32 31)).toInt32) &&& 1431655765)) &&& 858993459) + ((((x1 - (((x1.toUInt32 >>> ((1 : Int32).toUInt32 &&& Int32.toUInt32 31)).toInt32) &&& 1431655765)).toUInt32 >>> ((2 : Int32).toUInt32 &&& Int32.toUInt32 31)).toInt32) &&& 858993459)) + (((((x1 - (((x1.toUInt32 >>> ((1 : Int32).toUInt32 &&& Int32.toUInt32 31)).toInt32) &&& 1431655765)) &&& 858993459) + ((((x1 - (((x1.toUInt32 >>> ((1 : Int32).toUInt32 &&& Int32.toUInt32 31)).toInt32) &&& 1431655765)).toUInt32 >>> ((2 : Int32).toUInt32 &&& Int32.toUInt32 31)).toInt32) &&& 858993459)).toUInt32 >>> ((4 : Int32).toUInt32 &&& Int32.toUInt32 31)).toInt32)) &&& 252645135).toUInt32 >>> ((8 : Int32).toUInt32 &&& Int32.toUInt32 31)).toInt32)).toUInt32 >>> ((16 : Int32).toUInt32 &&& Int32.toUInt32 31)).toInt32)))]) dJ6_bitCount_0f7a4_47 (by decide) rfl ?_
  refine V_iload_n dJ6_bitCount_0f7a4_48 0 rfl ?_
  refine V_bipush (v := 63) dJ6_bitCount_0f7a4_49 (by decide) ?_
  refine V_iand dJ6_bitCount_0f7a4_51 ?_
  exact V_iret dJ6_bitCount_0f7a4_52 rfl (lfI (by simp only [F_J6_bitCount_0f7a4]))
def F_X3_fewestRaked_19 (g19 : mm_g) (k2 : Nat) (x1 : Int32) (f3 : Int32) (K : Int32 → Nat → Int32 × mm_g) : Nat → Int32 → Nat → Int32 × mm_g
  | 0, a, j => K a j
  | n + 1, a, j => (if ((1 : Int32) <<< ((g19 2 k2 0) &&& 31)) ≤ (nI j) then K a j else (if a = (-1000000) then (if ((nI j) &&& (g19 2 k2 5)) = 0 then (if (f3 + (F_X3_gainOfAll g19 (nI j))) ≤ 0 then F_X3_fewestRaked_19 g19 k2 x1 f3 K n a (j + 1) else F_X3_fewestRaked_19 g19 k2 x1 f3 K n (nI j) (j + 1)) else F_X3_fewestRaked_19 g19 k2 x1 f3 K n a (j + 1)) else (if (F_J6_bitCount_0f7a4 a) ≤ (F_J6_bitCount_0f7a4 (nI j)) then F_X3_fewestRaked_19 g19 k2 x1 f3 K n a (j + 1) else (if ((nI j) &&& (g19 2 k2 5)) = 0 then (if (f3 + (F_X3_gainOfAll g19 (nI j))) ≤ 0 then F_X3_fewestRaked_19 g19 k2 x1 f3 K n a (j + 1) else F_X3_fewestRaked_19 g19 k2 x1 f3 K n (nI j) (j + 1)) else F_X3_fewestRaked_19 g19 k2 x1 f3 K n a (j + 1)))))
def F_X3_fewestRaked (g : mm_g) (k2 : Nat) (x1 : Int32) : Int32 × mm_g := (F_X3_fewestRaked_19 (F_X3_weighBeds g k2 x1) k2 x1 (F_X2_countedLead (F_X3_weighBeds g k2 x1) k2 x1) (fun (a19 : Int32) (j19 : Nat) => (a19, (F_X3_weighBeds g k2 x1))) (((1 : Int32) <<< ((F_X3_weighBeds g k2 x1) 2 k2 0 &&& 31)).toInt.toNat + 1) (-1000000) 0)
set_option maxRecDepth 100000 in
set_option maxHeartbeats 4000000 in
theorem w_X3_fewestRaked_19 (l : Launch) (G : mm_G) {pr : Nat → Nat → Prop} {ad : Nat → Nat → Nat → Nat} (hw : mm_W pr) (g19 : mm_g) (k2 : Nat) (x1 : Int32) (f3 : Int32)  (hk2 : pr 2 k2) (K : Int32 → Nat → Int32 × mm_g) (hK : ∀ (a : Int32) (j : Nat) (hj : j ≤ ((1 : Int32) <<< (g19 2 k2 0 &&& 31)).toInt.toNat), V l G RX3 cX3_fewestRaked 7 (some .int) (rmk 5 151) (qM pr ad (K a j)) 0 0 0 0 93 [(0, .ref (ad 3 0 0)), (1, .ref (ad 2 k2 0)), (2, .int x1), (3, .int f3), (4, .int a), (5, .int (nI j))] [] pr ad g19) : ∀ (n : Nat) (a : Int32) (j : Nat) (hj : j ≤ ((1 : Int32) <<< (g19 2 k2 0 &&& 31)).toInt.toNat) (hm : ((1 : Int32) <<< (g19 2 k2 0 &&& 31)).toInt.toNat - j < n), V l G RX3 cX3_fewestRaked 7 (some .int) (rmk 5 151) (qM pr ad (F_X3_fewestRaked_19 g19 k2 x1 f3 K n a j)) 0 0 0 0 19 [(0, .ref (ad 3 0 0)), (1, .ref (ad 2 k2 0)), (2, .int x1), (3, .int f3), (4, .int a), (5, .int (nI j))] [] pr ad g19 := by
  intro n
  induction n with
  | zero => intro a j hj hm; exact absurd hm (Nat.not_lt_zero _)
  | succ n ih =>
      intro a j hj hm
      refine V_iload dX3_fewestRaked_19 5 rfl ?_
      refine V_iconst (v := 1) dX3_fewestRaked_21 (by decide) ?_
      refine V_aload_n dX3_fewestRaked_22 1 rfl ?_
      refine V_getN (i := 0) inlX2 rfl hk2 rfl (by decide) nf_X3_82 rfl dX3_fewestRaked_23 ?_
      refine V_ishl dX3_fewestRaked_26 ?_
      refine V_ic_ge (tgt := 93) dX3_fewestRaked_27 (by decide) (fun c_27 => ?_) (fun c_27 => ?_)
      · refine V_rp (R2 := K a j) (by simp only [F_X3_fewestRaked_19, if_pos c_27]) ?_
        refine V_lp [0, 1, 2, 3, 4, 5] rfl ?_
        exact hK a j (by assumption)
      · refine V_iload dX3_fewestRaked_30 4 rfl ?_
        refine V_ldc q_631 dX3_fewestRaked_32 ?_
        refine V_ic_eq (tgt := 50) dX3_fewestRaked_34 (by decide) (fun c_34 => ?_) (fun c_34 => ?_)
        · refine V_iconst (v := 1) dX3_fewestRaked_50 (by decide) ?_
          refine V_goto (tgt := 55) dX3_fewestRaked_51 (by decide) ?_
          refine V_istore (L2 := [(6, .int 1), (0, .ref (ad 3 0 0)), (1, .ref (ad 2 k2 0)), (2, .int x1), (3, .int f3), (4, .int a), (5, .int (nI j))]) dX3_fewestRaked_55 (by decide) rfl ?_
          refine V_iload dX3_fewestRaked_57 0 rfl ?_
          refine V_if_eq (tgt := 87) dX3_fewestRaked_59 (by decide) (fun c_59 => ?_) (fun c_59 => ?_)
          · exact absurd c_59 (by decide)
          · refine V_iload dX3_fewestRaked_62 6 rfl ?_
            refine V_aload_n dX3_fewestRaked_64 2 rfl ?_
            refine V_getN (i := 3) inlX2 rfl hk2 rfl (by decide) nf_X3_91 rfl dX3_fewestRaked_65 ?_
            refine V_iand dX3_fewestRaked_68 ?_
            refine V_if_ne (tgt := 87) dX3_fewestRaked_69 (by decide) (fun c_69 => ?_) (fun c_69 => ?_)
            · refine V_iinc (v := (nI (j + 1))) (L2 := [(5, .int (nI (j + 1))), (6, .int 1), (0, .ref (ad 3 0 0)), (1, .ref (ad 2 k2 0)), (2, .int x1), (3, .int f3), (4, .int a)]) dX3_fewestRaked_87 6 rfl (nI_1 _) (by decide) rfl ?_
              refine V_goto (tgt := 19) dX3_fewestRaked_90 (by decide) ?_
              refine V_rp (R2 := F_X3_fewestRaked_19 g19 k2 x1 f3 K n a (j + 1)) (by simp only [F_X3_fewestRaked_19, if_neg c_27, if_pos c_34, if_neg c_69]) ?_
              refine V_lp [2, 3, 4, 5, 6, 0] rfl ?_
              exact ih a (j + 1) (by exact (lp_up hj c_27 hm).1) (by exact (lp_up hj c_27 hm).2) 
            · refine V_iload_n dX3_fewestRaked_72 4 rfl ?_
              refine V_aload_n dX3_fewestRaked_73 1 rfl ?_
              refine V_iload dX3_fewestRaked_74 6 rfl ?_
              refine V_cV (k_X3_gainOfAll l G hw g19  (nI j) ) hy_X3_gainOfAll hi_X3_gainOfAll hs_X3_gainOfAll q_731 rfl rfl (W_3 hw) rfl rfl rfl rfl rfl ⟨by decide, by decide⟩ (Nat.le_of_ble_eq_true rfl) ⟨by decide, by decide⟩ dX3_fewestRaked_76 (V_kI ?_)
              refine V_iadd dX3_fewestRaked_79 ?_
              refine V_if_le (tgt := 87) dX3_fewestRaked_80 (by decide) (fun c_80 => ?_) (fun c_80 => ?_)
              · refine V_iinc (v := (nI (j + 1))) (L2 := [(5, .int (nI (j + 1))), (6, .int 1), (0, .ref (ad 3 0 0)), (1, .ref (ad 2 k2 0)), (2, .int x1), (3, .int f3), (4, .int a)]) dX3_fewestRaked_87 6 rfl (nI_1 _) (by decide) rfl ?_
                refine V_goto (tgt := 19) dX3_fewestRaked_90 (by decide) ?_
                refine V_rp (R2 := F_X3_fewestRaked_19 g19 k2 x1 f3 K n a (j + 1)) (by simp only [F_X3_fewestRaked_19, if_neg c_27, if_pos c_34, if_pos c_69, if_pos c_80]) ?_
                refine V_lp [2, 3, 4, 5, 6, 0] rfl ?_
                exact ih a (j + 1) (by exact (lp_up hj c_27 hm).1) (by exact (lp_up hj c_27 hm).2) 
              · refine V_iload dX3_fewestRaked_83 6 rfl ?_
                refine V_istore (L2 := [(4, .int (nI j)), (6, .int 1), (0, .ref (ad 3 0 0)), (1, .ref (ad 2 k2 0)), (2, .int x1), (3, .int f3), (5, .int (nI j))]) dX3_fewestRaked_85 (by decide) rfl ?_
                refine V_iinc (v := (nI (j + 1))) (L2 := [(5, .int (nI (j + 1))), (4, .int (nI j)), (6, .int 1), (0, .ref (ad 3 0 0)), (1, .ref (ad 2 k2 0)), (2, .int x1), (3, .int f3)]) dX3_fewestRaked_87 6 rfl (nI_1 _) (by decide) rfl ?_
                refine V_goto (tgt := 19) dX3_fewestRaked_90 (by decide) ?_
                refine V_rp (R2 := F_X3_fewestRaked_19 g19 k2 x1 f3 K n (nI j) (j + 1)) (by simp only [F_X3_fewestRaked_19, if_neg c_27, if_pos c_34, if_pos c_69, if_neg c_80]) ?_
                refine V_lp [3, 4, 5, 6, 1, 0] rfl ?_
                exact ih (nI j) (j + 1) (by exact (lp_up hj c_27 hm).1) (by exact (lp_up hj c_27 hm).2) 
        · refine V_iload dX3_fewestRaked_37 5 rfl ?_
          refine V_cS (k_J6_bitCount_0f7a4 l G hw g19  (nI j) ) hy_J6_bitCount_0f7a4 hz_J6_bitCount_0f7a4 q_724 rfl rfl rfl rfl ⟨by decide, by decide⟩ (Nat.le_of_ble_eq_true rfl) ⟨by decide, by decide⟩ dX3_fewestRaked_39 (V_kI ?_)
          refine V_iload dX3_fewestRaked_42 4 rfl ?_
          refine V_cS (k_J6_bitCount_0f7a4 l G hw g19  a ) hy_J6_bitCount_0f7a4 hz_J6_bitCount_0f7a4 q_724 rfl rfl rfl rfl ⟨by decide, by decide⟩ (Nat.le_of_ble_eq_true rfl) ⟨by decide, by decide⟩ dX3_fewestRaked_44 (V_kI ?_)
          refine V_ic_ge (tgt := 54) dX3_fewestRaked_47 (by decide) (fun c_47 => ?_) (fun c_47 => ?_)
          · refine V_iconst (v := 0) dX3_fewestRaked_54 (by decide) ?_
            refine V_istore (L2 := [(6, .int 0), (0, .ref (ad 3 0 0)), (1, .ref (ad 2 k2 0)), (2, .int x1), (3, .int f3), (4, .int a), (5, .int (nI j))]) dX3_fewestRaked_55 (by decide) rfl ?_
            refine V_iload dX3_fewestRaked_57 0 rfl ?_
            refine V_if_eq (tgt := 87) dX3_fewestRaked_59 (by decide) (fun c_59 => ?_) (fun c_59 => ?_)
            · refine V_iinc (v := (nI (j + 1))) (L2 := [(5, .int (nI (j + 1))), (6, .int 0), (0, .ref (ad 3 0 0)), (1, .ref (ad 2 k2 0)), (2, .int x1), (3, .int f3), (4, .int a)]) dX3_fewestRaked_87 6 rfl (nI_1 _) (by decide) rfl ?_
              refine V_goto (tgt := 19) dX3_fewestRaked_90 (by decide) ?_
              refine V_rp (R2 := F_X3_fewestRaked_19 g19 k2 x1 f3 K n a (j + 1)) (by simp only [F_X3_fewestRaked_19, if_neg c_27, if_neg c_34, if_pos c_47]) ?_
              refine V_lp [2, 3, 4, 5, 6, 0] rfl ?_
              exact ih a (j + 1) (by exact (lp_up hj c_27 hm).1) (by exact (lp_up hj c_27 hm).2) 
            · exact absurd (by decide) c_59
          · refine V_iconst (v := 1) dX3_fewestRaked_50 (by decide) ?_
            refine V_goto (tgt := 55) dX3_fewestRaked_51 (by decide) ?_
            refine V_istore (L2 := [(6, .int 1), (0, .ref (ad 3 0 0)), (1, .ref (ad 2 k2 0)), (2, .int x1), (3, .int f3), (4, .int a), (5, .int (nI j))]) dX3_fewestRaked_55 (by decide) rfl ?_
            refine V_iload dX3_fewestRaked_57 0 rfl ?_
            refine V_if_eq (tgt := 87) dX3_fewestRaked_59 (by decide) (fun c_59 => ?_) (fun c_59 => ?_)
            · exact absurd c_59 (by decide)
            · refine V_iload dX3_fewestRaked_62 6 rfl ?_
              refine V_aload_n dX3_fewestRaked_64 2 rfl ?_
              refine V_getN (i := 3) inlX2 rfl hk2 rfl (by decide) nf_X3_91 rfl dX3_fewestRaked_65 ?_
              refine V_iand dX3_fewestRaked_68 ?_
              refine V_if_ne (tgt := 87) dX3_fewestRaked_69 (by decide) (fun c_69 => ?_) (fun c_69 => ?_)
              · refine V_iinc (v := (nI (j + 1))) (L2 := [(5, .int (nI (j + 1))), (6, .int 1), (0, .ref (ad 3 0 0)), (1, .ref (ad 2 k2 0)), (2, .int x1), (3, .int f3), (4, .int a)]) dX3_fewestRaked_87 6 rfl (nI_1 _) (by decide) rfl ?_
                refine V_goto (tgt := 19) dX3_fewestRaked_90 (by decide) ?_
                refine V_rp (R2 := F_X3_fewestRaked_19 g19 k2 x1 f3 K n a (j + 1)) (by simp only [F_X3_fewestRaked_19, if_neg c_27, if_neg c_34, if_neg c_47, if_neg c_69]) ?_
                refine V_lp [2, 3, 4, 5, 6, 0] rfl ?_
                exact ih a (j + 1) (by exact (lp_up hj c_27 hm).1) (by exact (lp_up hj c_27 hm).2) 
              · refine V_iload_n dX3_fewestRaked_72 4 rfl ?_
                refine V_aload_n dX3_fewestRaked_73 1 rfl ?_
                refine V_iload dX3_fewestRaked_74 6 rfl ?_
                refine V_cV (k_X3_gainOfAll l G hw g19  (nI j) ) hy_X3_gainOfAll hi_X3_gainOfAll hs_X3_gainOfAll q_731 rfl rfl (W_3 hw) rfl rfl rfl rfl rfl ⟨by decide, by decide⟩ (Nat.le_of_ble_eq_true rfl) ⟨by decide, by decide⟩ dX3_fewestRaked_76 (V_kI ?_)
                refine V_iadd dX3_fewestRaked_79 ?_
                refine V_if_le (tgt := 87) dX3_fewestRaked_80 (by decide) (fun c_80 => ?_) (fun c_80 => ?_)
                · refine V_iinc (v := (nI (j + 1))) (L2 := [(5, .int (nI (j + 1))), (6, .int 1), (0, .ref (ad 3 0 0)), (1, .ref (ad 2 k2 0)), (2, .int x1), (3, .int f3), (4, .int a)]) dX3_fewestRaked_87 6 rfl (nI_1 _) (by decide) rfl ?_
                  refine V_goto (tgt := 19) dX3_fewestRaked_90 (by decide) ?_
                  refine V_rp (R2 := F_X3_fewestRaked_19 g19 k2 x1 f3 K n a (j + 1)) (by simp only [F_X3_fewestRaked_19, if_neg c_27, if_neg c_34, if_neg c_47, if_pos c_69, if_pos c_80]) ?_
                  refine V_lp [2, 3, 4, 5, 6, 0] rfl ?_
                  exact ih a (j + 1) (by exact (lp_up hj c_27 hm).1) (by exact (lp_up hj c_27 hm).2) 
                · refine V_iload dX3_fewestRaked_83 6 rfl ?_
                  refine V_istore (L2 := [(4, .int (nI j)), (6, .int 1), (0, .ref (ad 3 0 0)), (1, .ref (ad 2 k2 0)), (2, .int x1), (3, .int f3), (5, .int (nI j))]) dX3_fewestRaked_85 (by decide) rfl ?_
                  refine V_iinc (v := (nI (j + 1))) (L2 := [(5, .int (nI (j + 1))), (4, .int (nI j)), (6, .int 1), (0, .ref (ad 3 0 0)), (1, .ref (ad 2 k2 0)), (2, .int x1), (3, .int f3)]) dX3_fewestRaked_87 6 rfl (nI_1 _) (by decide) rfl ?_
                  refine V_goto (tgt := 19) dX3_fewestRaked_90 (by decide) ?_
                  refine V_rp (R2 := F_X3_fewestRaked_19 g19 k2 x1 f3 K n (nI j) (j + 1)) (by simp only [F_X3_fewestRaked_19, if_neg c_27, if_neg c_34, if_neg c_47, if_pos c_69, if_neg c_80]) ?_
                  refine V_lp [3, 4, 5, 6, 1, 0] rfl ?_
                  exact ih (nI j) (j + 1) (by exact (lp_up hj c_27 hm).1) (by exact (lp_up hj c_27 hm).2) 
set_option maxRecDepth 100000 in
set_option maxHeartbeats 4000000 in
theorem k_X3_fewestRaked (l : Launch) (G : mm_G) {pr : Nat → Nat → Prop} {ad : Nat → Nat → Nat → Nat} (hw : mm_W pr) (g : mm_g) {k2 : Nat} (hk2 : pr 2 k2) (x1 : Int32)  : Mt l G yX3_fewestRaked cX3_fewestRaked 7 (some .int) (rmk 5 151) [.ref (ad 3 0 0), .ref (ad 2 k2 0), .int x1] pr ad g (qM pr ad (F_X3_fewestRaked g k2 x1)) 0 0 := by
  refine Mt_of (by decide) (Nat.le_of_ble_eq_true rfl) ?_
  show V l G RX3 cX3_fewestRaked 7 (some .int) _ _ 0 0 0 0 0 [(0, .ref (ad 3 0 0)), (1, .ref (ad 2 k2 0)), (2, .int x1)] [] pr ad g
  refine V_aload_n dX3_fewestRaked_0 0 rfl ?_
  refine V_aload_n dX3_fewestRaked_1 1 rfl ?_
  refine V_iload_n dX3_fewestRaked_2 2 rfl ?_
  refine V_cV (k_X3_weighBeds l G hw g hk2 x1 ) hy_X3_weighBeds hi_X3_weighBeds hs_X3_weighBeds q_716 rfl rfl (W_3 hw) rfl rfl rfl rfl rfl ⟨by decide, by decide⟩ (Nat.le_of_ble_eq_true rfl) ⟨by decide, by decide⟩ dX3_fewestRaked_3 (V_kN ?_)
  refine V_aload_n dX3_fewestRaked_6 1 rfl ?_
  refine V_iload_n dX3_fewestRaked_7 2 rfl ?_
  refine V_cV (k_X2_countedLead l G hw (F_X3_weighBeds g k2 x1) hk2 x1 ) hy_X2_countedLead hi_X2_countedLead hs_X2_countedLead q_723 rfl rfl hk2 rfl rfl rfl rfl rfl ⟨by decide, by decide⟩ (Nat.le_of_ble_eq_true rfl) ⟨by decide, by decide⟩ dX3_fewestRaked_8 (V_kI ?_)
  refine V_istore_n (L2 := [(3, .int (F_X2_countedLead (F_X3_weighBeds g k2 x1) k2 x1)), (0, .ref (ad 3 0 0)), (1, .ref (ad 2 k2 0)), (2, .int x1)]) dX3_fewestRaked_11 (by decide) rfl ?_
  refine V_ldc q_631 dX3_fewestRaked_12 ?_
  refine V_istore (L2 := [(4, .int (-1000000)), (3, .int (F_X2_countedLead (F_X3_weighBeds g k2 x1) k2 x1)), (0, .ref (ad 3 0 0)), (1, .ref (ad 2 k2 0)), (2, .int x1)]) dX3_fewestRaked_14 (by decide) rfl ?_
  refine V_iconst (v := 0) dX3_fewestRaked_16 (by decide) ?_
  refine V_istore (L2 := [(5, .int 0), (4, .int (-1000000)), (3, .int (F_X2_countedLead (F_X3_weighBeds g k2 x1) k2 x1)), (0, .ref (ad 3 0 0)), (1, .ref (ad 2 k2 0)), (2, .int x1)]) dX3_fewestRaked_17 (by decide) rfl ?_
  refine V_rp (R2 := F_X3_fewestRaked_19 (F_X3_weighBeds g k2 x1) k2 x1 (F_X2_countedLead (F_X3_weighBeds g k2 x1) k2 x1) (fun (a19 : Int32) (j19 : Nat) => (a19, (F_X3_weighBeds g k2 x1))) (((1 : Int32) <<< ((F_X3_weighBeds g k2 x1) 2 k2 0 &&& 31)).toInt.toNat + 1) (-1000000) 0) (by simp only [F_X3_fewestRaked]) ?_
  refine V_lp [3, 4, 5, 2, 1, 0] rfl ?_
  refine w_X3_fewestRaked_19 l G hw (F_X3_weighBeds g k2 x1) k2 x1 (F_X2_countedLead (F_X3_weighBeds g k2 x1) k2 x1) hk2  _ (fun a19 j19 hj19 => ?_) (((1 : Int32) <<< ((F_X3_weighBeds g k2 x1) 2 k2 0 &&& 31)).toInt.toNat + 1) (-1000000) 0 (by first | exact Nat.zero_le _ | decide) (by omega)
  refine V_iload dX3_fewestRaked_93 4 rfl ?_
  exact V_iret dX3_fewestRaked_95 rfl (lfM (by rfl))
def F_X3_wardsOf (x1 : Int32) (x2 : Int32) : Int32 := (if x1 = 0 then (if x2 ≤ 0 then 0 else 1) else (if (x1 / 10) < 1 then 0 else (if (x1 / 10) < x2 then (if (x1 - x1 / 10 * 10) = 0 then 2 else (if (x1 - x1 / 10 * 10) ≤ (x1 / 10) then 0 else (if x2 ≤ (x1 - x1 / 10 * 10) then 0 else 3))) else 0)))
set_option maxRecDepth 100000 in
set_option maxHeartbeats 4000000 in
theorem k_X3_wardsOf (l : Launch) (G : mm_G) {pr : Nat → Nat → Prop} {ad : Nat → Nat → Nat → Nat} (hw : mm_W pr) (g : mm_g) (x1 : Int32) (x2 : Int32)  : Mt l G yX3_wardsOf cX3_wardsOf 4 (some .int) (rmk 1 60) [.int x1, .int x2] pr ad g (qI pr ad g (F_X3_wardsOf x1 x2)) 0 0 := by
  refine Mt_of (by decide) (Nat.le_of_ble_eq_true rfl) ?_
  show V l G RX3 cX3_wardsOf 4 (some .int) _ _ 0 0 0 0 0 [(0, .int x1), (1, .int x2)] [] pr ad g
  refine V_iload_n dX3_wardsOf_0 0 rfl ?_
  refine V_bipush (v := 10) dX3_wardsOf_1 (by decide) ?_
  refine V_idiv dX3_wardsOf_3 (by decide) ?_
  refine V_istore_n (L2 := [(2, .int (x1 / 10)), (0, .int x1), (1, .int x2)]) dX3_wardsOf_4 (by decide) rfl ?_
  refine V_iload_n dX3_wardsOf_5 1 rfl ?_
  refine V_bipush (v := 10) dX3_wardsOf_6 (by decide) ?_
  refine V_irem dX3_wardsOf_8 (by decide) ?_
  refine V_istore_n (L2 := [(3, .int (x1 - x1 / 10 * 10)), (2, .int (x1 / 10)), (0, .int x1), (1, .int x2)]) dX3_wardsOf_9 (by decide) rfl ?_
  refine V_iload_n dX3_wardsOf_10 2 rfl ?_
  refine V_if_ne (tgt := 24) dX3_wardsOf_11 (by decide) (fun c_11 => ?_) (fun c_11 => ?_)
  · refine V_iload_n dX3_wardsOf_24 1 rfl ?_
    refine V_iconst (v := 1) dX3_wardsOf_25 (by decide) ?_
    refine V_ic_lt (tgt := 34) dX3_wardsOf_26 (by decide) (fun c_26 => ?_) (fun c_26 => ?_)
    · refine V_iconst (v := 0) dX3_wardsOf_34 (by decide) ?_
      exact V_iret dX3_wardsOf_35 rfl (lfI (by simp only [F_X3_wardsOf, if_neg c_11, if_pos c_26]))
    · refine V_iload_n dX3_wardsOf_29 1 rfl ?_
      refine V_iload_n dX3_wardsOf_30 3 rfl ?_
      refine V_ic_lt (tgt := 36) dX3_wardsOf_31 (by decide) (fun c_31 => ?_) (fun c_31 => ?_)
      · refine V_iload_n dX3_wardsOf_36 0 rfl ?_
        refine V_if_ne (tgt := 42) dX3_wardsOf_37 (by decide) (fun c_37 => ?_) (fun c_37 => ?_)
        · refine V_iload_n dX3_wardsOf_42 0 rfl ?_
          refine V_iload_n dX3_wardsOf_43 1 rfl ?_
          refine V_ic_le (tgt := 56) dX3_wardsOf_44 (by decide) (fun c_44 => ?_) (fun c_44 => ?_)
          · refine V_iconst (v := 0) dX3_wardsOf_56 (by decide) ?_
            exact V_iret dX3_wardsOf_57 rfl (lfI (by simp only [F_X3_wardsOf, if_neg c_11, if_neg c_26, if_pos c_31, if_neg c_37, if_pos c_44]))
          · refine V_iload_n dX3_wardsOf_47 0 rfl ?_
            refine V_iload_n dX3_wardsOf_48 3 rfl ?_
            refine V_ic_ge (tgt := 56) dX3_wardsOf_49 (by decide) (fun c_49 => ?_) (fun c_49 => ?_)
            · refine V_iconst (v := 0) dX3_wardsOf_56 (by decide) ?_
              exact V_iret dX3_wardsOf_57 rfl (lfI (by simp only [F_X3_wardsOf, if_neg c_11, if_neg c_26, if_pos c_31, if_neg c_37, if_neg c_44, if_pos c_49]))
            · refine V_iconst (v := 3) dX3_wardsOf_52 (by decide) ?_
              refine V_goto (tgt := 57) dX3_wardsOf_53 (by decide) ?_
              exact V_iret dX3_wardsOf_57 rfl (lfI (by simp only [F_X3_wardsOf, if_neg c_11, if_neg c_26, if_pos c_31, if_neg c_37, if_neg c_44, if_neg c_49]))
        · refine V_iconst (v := 2) dX3_wardsOf_40 (by decide) ?_
          exact V_iret dX3_wardsOf_41 rfl (lfI (by simp only [F_X3_wardsOf, if_neg c_11, if_neg c_26, if_pos c_31, if_pos c_37]))
      · refine V_iconst (v := 0) dX3_wardsOf_34 (by decide) ?_
        exact V_iret dX3_wardsOf_35 rfl (lfI (by simp only [F_X3_wardsOf, if_neg c_11, if_neg c_26, if_neg c_31]))
  · refine V_iload_n dX3_wardsOf_14 3 rfl ?_
    refine V_if_le (tgt := 22) dX3_wardsOf_15 (by decide) (fun c_15 => ?_) (fun c_15 => ?_)
    · refine V_iconst (v := 0) dX3_wardsOf_22 (by decide) ?_
      exact V_iret dX3_wardsOf_23 rfl (lfI (by simp only [F_X3_wardsOf, if_pos c_11, if_pos c_15]))
    · refine V_iconst (v := 1) dX3_wardsOf_18 (by decide) ?_
      refine V_goto (tgt := 23) dX3_wardsOf_19 (by decide) ?_
      exact V_iret dX3_wardsOf_23 rfl (lfI (by simp only [F_X3_wardsOf, if_pos c_11, if_neg c_15]))
def F_X3_wardsLed (g : mm_g) (x1 : Int32) (x2 : Int32) : Int32 := (if (x1 / 10) ≤ 0 then (if (x1 - x1 / 10 * 10) ≤ 0 then (if (F_X3_gainBetween g 0 x2) ≤ 0 then 0 else (0 + 1)) else (if (F_X3_gainBetween g 0 x2) ≤ 0 then (if (F_X3_gainBetween g (x1 - x1 / 10 * 10) x2) ≤ 0 then 0 else (0 + 1)) else (if (F_X3_gainBetween g (x1 - x1 / 10 * 10) x2) ≤ 0 then (0 + 1) else ((0 + 1) + 1)))) else (if (x1 - x1 / 10 * 10) ≤ 0 then (if (F_X3_gainBetween g 0 (x1 / 10)) ≤ 0 then (if (F_X3_gainBetween g (x1 / 10) x2) ≤ 0 then 0 else (0 + 1)) else (if (F_X3_gainBetween g (x1 / 10) x2) ≤ 0 then (0 + 1) else ((0 + 1) + 1))) else (if (F_X3_gainBetween g 0 (x1 / 10)) ≤ 0 then (if (F_X3_gainBetween g (x1 / 10) (x1 - x1 / 10 * 10)) ≤ 0 then (if (F_X3_gainBetween g (x1 - x1 / 10 * 10) x2) ≤ 0 then 0 else (0 + 1)) else (if (F_X3_gainBetween g (x1 - x1 / 10 * 10) x2) ≤ 0 then (0 + 1) else ((0 + 1) + 1))) else (if (F_X3_gainBetween g (x1 / 10) (x1 - x1 / 10 * 10)) ≤ 0 then (if (F_X3_gainBetween g (x1 - x1 / 10 * 10) x2) ≤ 0 then (0 + 1) else ((0 + 1) + 1)) else (if (F_X3_gainBetween g (x1 - x1 / 10 * 10) x2) ≤ 0 then ((0 + 1) + 1) else (((0 + 1) + 1) + 1))))))
set_option maxRecDepth 100000 in
set_option maxHeartbeats 4000000 in
theorem k_X3_wardsLed (l : Launch) (G : mm_G) {pr : Nat → Nat → Prop} {ad : Nat → Nat → Nat → Nat} (hw : mm_W pr) (g : mm_g) (x1 : Int32) (x2 : Int32)  : Mt l G yX3_wardsLed cX3_wardsLed 8 (some .int) (rmk 2 84) [.ref (ad 3 0 0), .int x1, .int x2] pr ad g (qI pr ad g (F_X3_wardsLed g x1 x2)) 0 0 := by
  refine Mt_of (by decide) (Nat.le_of_ble_eq_true rfl) ?_
  show V l G RX3 cX3_wardsLed 8 (some .int) _ _ 0 0 0 0 0 [(0, .ref (ad 3 0 0)), (1, .int x1), (2, .int x2)] [] pr ad g
  refine V_iload_n dX3_wardsLed_0 1 rfl ?_
  refine V_bipush (v := 10) dX3_wardsLed_1 (by decide) ?_
  refine V_idiv dX3_wardsLed_3 (by decide) ?_
  refine V_istore_n (L2 := [(3, .int (x1 / 10)), (0, .ref (ad 3 0 0)), (1, .int x1), (2, .int x2)]) dX3_wardsLed_4 (by decide) rfl ?_
  refine V_iload_n dX3_wardsLed_5 2 rfl ?_
  refine V_bipush (v := 10) dX3_wardsLed_6 (by decide) ?_
  refine V_irem dX3_wardsLed_8 (by decide) ?_
  refine V_istore (L2 := [(4, .int (x1 - x1 / 10 * 10)), (3, .int (x1 / 10)), (0, .ref (ad 3 0 0)), (1, .int x1), (2, .int x2)]) dX3_wardsLed_9 (by decide) rfl ?_
  refine V_iload_n dX3_wardsLed_11 1 rfl ?_
  refine V_if_le (tgt := 19) dX3_wardsLed_12 (by decide) (fun c_12 => ?_) (fun c_12 => ?_)
  · refine V_iload_n dX3_wardsLed_19 4 rfl ?_
    refine V_istore (L2 := [(5, .int x2), (4, .int (x1 - x1 / 10 * 10)), (3, .int (x1 / 10)), (0, .ref (ad 3 0 0)), (1, .int x1), (2, .int x2)]) dX3_wardsLed_20 (by decide) rfl ?_
    refine V_iload dX3_wardsLed_22 1 rfl ?_
    refine V_if_le (tgt := 32) dX3_wardsLed_24 (by decide) (fun c_24 => ?_) (fun c_24 => ?_)
    · refine V_iload_n dX3_wardsLed_32 5 rfl ?_
      refine V_istore (L2 := [(6, .int x2), (5, .int x2), (4, .int (x1 - x1 / 10 * 10)), (3, .int (x1 / 10)), (0, .ref (ad 3 0 0)), (1, .int x1), (2, .int x2)]) dX3_wardsLed_33 (by decide) rfl ?_
      refine V_iconst (v := 0) dX3_wardsLed_35 (by decide) ?_
      refine V_istore (L2 := [(7, .int 0), (6, .int x2), (5, .int x2), (4, .int (x1 - x1 / 10 * 10)), (3, .int (x1 / 10)), (0, .ref (ad 3 0 0)), (1, .int x1), (2, .int x2)]) dX3_wardsLed_36 (by decide) rfl ?_
      refine V_aload_n dX3_wardsLed_38 5 rfl ?_
      refine V_iconst (v := 0) dX3_wardsLed_39 (by decide) ?_
      refine V_iload dX3_wardsLed_40 2 rfl ?_
      refine V_cV (k_X3_gainBetween l G hw g  0 x2 ) hy_X3_gainBetween hi_X3_gainBetween hs_X3_gainBetween q_758 rfl rfl (W_3 hw) rfl rfl rfl rfl rfl ⟨by decide, by decide⟩ (Nat.le_of_ble_eq_true rfl) ⟨by decide, by decide⟩ dX3_wardsLed_42 (V_kI ?_)
      refine V_if_le (tgt := 51) dX3_wardsLed_45 (by decide) (fun c_45 => ?_) (fun c_45 => ?_)
      · refine V_iload_n dX3_wardsLed_51 4 rfl ?_
        refine V_if_le (tgt := 68) dX3_wardsLed_52 (by decide) (fun c_52 => ?_) (fun c_52 => ?_)
        · refine V_iload dX3_wardsLed_68 3 rfl ?_
          refine V_if_le (tgt := 86) dX3_wardsLed_70 (by decide) (fun c_70 => ?_) (fun c_70 => ?_)
          · refine V_iload dX3_wardsLed_86 0 rfl ?_
            exact V_iret dX3_wardsLed_88 rfl (lfI (by simp only [F_X3_wardsLed, if_pos c_12, if_pos c_24, if_pos c_45]))
          · exact absurd c_24 c_70
        · exact absurd c_12 c_52
      · refine V_iinc (v := (0 + 1)) (L2 := [(7, .int (0 + 1)), (6, .int x2), (5, .int x2), (4, .int (x1 - x1 / 10 * 10)), (3, .int (x1 / 10)), (0, .ref (ad 3 0 0)), (1, .int x1), (2, .int x2)]) dX3_wardsLed_48 0 rfl rfl (by decide) rfl ?_
        refine V_iload_n dX3_wardsLed_51 4 rfl ?_
        refine V_if_le (tgt := 68) dX3_wardsLed_52 (by decide) (fun c_52 => ?_) (fun c_52 => ?_)
        · refine V_iload dX3_wardsLed_68 3 rfl ?_
          refine V_if_le (tgt := 86) dX3_wardsLed_70 (by decide) (fun c_70 => ?_) (fun c_70 => ?_)
          · refine V_iload dX3_wardsLed_86 0 rfl ?_
            exact V_iret dX3_wardsLed_88 rfl (lfI (by simp only [F_X3_wardsLed, if_pos c_12, if_pos c_24, if_neg c_45]))
          · exact absurd c_24 c_70
        · exact absurd c_12 c_52
    · refine V_iload dX3_wardsLed_27 1 rfl ?_
      refine V_goto (tgt := 33) dX3_wardsLed_29 (by decide) ?_
      refine V_istore (L2 := [(6, .int (x1 - x1 / 10 * 10)), (5, .int x2), (4, .int (x1 - x1 / 10 * 10)), (3, .int (x1 / 10)), (0, .ref (ad 3 0 0)), (1, .int x1), (2, .int x2)]) dX3_wardsLed_33 (by decide) rfl ?_
      refine V_iconst (v := 0) dX3_wardsLed_35 (by decide) ?_
      refine V_istore (L2 := [(7, .int 0), (6, .int (x1 - x1 / 10 * 10)), (5, .int x2), (4, .int (x1 - x1 / 10 * 10)), (3, .int (x1 / 10)), (0, .ref (ad 3 0 0)), (1, .int x1), (2, .int x2)]) dX3_wardsLed_36 (by decide) rfl ?_
      refine V_aload_n dX3_wardsLed_38 5 rfl ?_
      refine V_iconst (v := 0) dX3_wardsLed_39 (by decide) ?_
      refine V_iload dX3_wardsLed_40 2 rfl ?_
      refine V_cV (k_X3_gainBetween l G hw g  0 x2 ) hy_X3_gainBetween hi_X3_gainBetween hs_X3_gainBetween q_758 rfl rfl (W_3 hw) rfl rfl rfl rfl rfl ⟨by decide, by decide⟩ (Nat.le_of_ble_eq_true rfl) ⟨by decide, by decide⟩ dX3_wardsLed_42 (V_kI ?_)
      refine V_if_le (tgt := 51) dX3_wardsLed_45 (by decide) (fun c_45 => ?_) (fun c_45 => ?_)
      · refine V_iload_n dX3_wardsLed_51 4 rfl ?_
        refine V_if_le (tgt := 68) dX3_wardsLed_52 (by decide) (fun c_52 => ?_) (fun c_52 => ?_)
        · refine V_iload dX3_wardsLed_68 3 rfl ?_
          refine V_if_le (tgt := 86) dX3_wardsLed_70 (by decide) (fun c_70 => ?_) (fun c_70 => ?_)
          · exact absurd c_70 c_24
          · refine V_aload_n dX3_wardsLed_73 5 rfl ?_
            refine V_iload dX3_wardsLed_74 3 rfl ?_
            refine V_iload_n dX3_wardsLed_76 7 rfl ?_
            refine V_cV (k_X3_gainBetween l G hw g  (x1 - x1 / 10 * 10) x2 ) hy_X3_gainBetween hi_X3_gainBetween hs_X3_gainBetween q_758 rfl rfl (W_3 hw) rfl rfl rfl rfl rfl ⟨by decide, by decide⟩ (Nat.le_of_ble_eq_true rfl) ⟨by decide, by decide⟩ dX3_wardsLed_77 (V_kI ?_)
            refine V_if_le (tgt := 86) dX3_wardsLed_80 (by decide) (fun c_80 => ?_) (fun c_80 => ?_)
            · refine V_iload dX3_wardsLed_86 0 rfl ?_
              exact V_iret dX3_wardsLed_88 rfl (lfI (by simp only [F_X3_wardsLed, if_pos c_12, if_neg c_24, if_pos c_45, if_pos c_80]))
            · refine V_iinc (v := (0 + 1)) (L2 := [(7, .int (0 + 1)), (6, .int (x1 - x1 / 10 * 10)), (5, .int x2), (4, .int (x1 - x1 / 10 * 10)), (3, .int (x1 / 10)), (0, .ref (ad 3 0 0)), (1, .int x1), (2, .int x2)]) dX3_wardsLed_83 0 rfl rfl (by decide) rfl ?_
              refine V_iload dX3_wardsLed_86 0 rfl ?_
              exact V_iret dX3_wardsLed_88 rfl (lfI (by simp only [F_X3_wardsLed, if_pos c_12, if_neg c_24, if_pos c_45, if_neg c_80]))
        · exact absurd c_12 c_52
      · refine V_iinc (v := (0 + 1)) (L2 := [(7, .int (0 + 1)), (6, .int (x1 - x1 / 10 * 10)), (5, .int x2), (4, .int (x1 - x1 / 10 * 10)), (3, .int (x1 / 10)), (0, .ref (ad 3 0 0)), (1, .int x1), (2, .int x2)]) dX3_wardsLed_48 0 rfl rfl (by decide) rfl ?_
        refine V_iload_n dX3_wardsLed_51 4 rfl ?_
        refine V_if_le (tgt := 68) dX3_wardsLed_52 (by decide) (fun c_52 => ?_) (fun c_52 => ?_)
        · refine V_iload dX3_wardsLed_68 3 rfl ?_
          refine V_if_le (tgt := 86) dX3_wardsLed_70 (by decide) (fun c_70 => ?_) (fun c_70 => ?_)
          · exact absurd c_70 c_24
          · refine V_aload_n dX3_wardsLed_73 5 rfl ?_
            refine V_iload dX3_wardsLed_74 3 rfl ?_
            refine V_iload_n dX3_wardsLed_76 7 rfl ?_
            refine V_cV (k_X3_gainBetween l G hw g  (x1 - x1 / 10 * 10) x2 ) hy_X3_gainBetween hi_X3_gainBetween hs_X3_gainBetween q_758 rfl rfl (W_3 hw) rfl rfl rfl rfl rfl ⟨by decide, by decide⟩ (Nat.le_of_ble_eq_true rfl) ⟨by decide, by decide⟩ dX3_wardsLed_77 (V_kI ?_)
            refine V_if_le (tgt := 86) dX3_wardsLed_80 (by decide) (fun c_80 => ?_) (fun c_80 => ?_)
            · refine V_iload dX3_wardsLed_86 0 rfl ?_
              exact V_iret dX3_wardsLed_88 rfl (lfI (by simp only [F_X3_wardsLed, if_pos c_12, if_neg c_24, if_neg c_45, if_pos c_80]))
            · refine V_iinc (v := ((0 + 1) + 1)) (L2 := [(7, .int ((0 + 1) + 1)), (6, .int (x1 - x1 / 10 * 10)), (5, .int x2), (4, .int (x1 - x1 / 10 * 10)), (3, .int (x1 / 10)), (0, .ref (ad 3 0 0)), (1, .int x1), (2, .int x2)]) dX3_wardsLed_83 0 rfl rfl (by decide) rfl ?_
              refine V_iload dX3_wardsLed_86 0 rfl ?_
              exact V_iret dX3_wardsLed_88 rfl (lfI (by simp only [F_X3_wardsLed, if_pos c_12, if_neg c_24, if_neg c_45, if_neg c_80]))
        · exact absurd c_12 c_52
  · refine V_iload_n dX3_wardsLed_15 1 rfl ?_
    refine V_goto (tgt := 20) dX3_wardsLed_16 (by decide) ?_
    refine V_istore (L2 := [(5, .int (x1 / 10)), (4, .int (x1 - x1 / 10 * 10)), (3, .int (x1 / 10)), (0, .ref (ad 3 0 0)), (1, .int x1), (2, .int x2)]) dX3_wardsLed_20 (by decide) rfl ?_
    refine V_iload dX3_wardsLed_22 1 rfl ?_
    refine V_if_le (tgt := 32) dX3_wardsLed_24 (by decide) (fun c_24 => ?_) (fun c_24 => ?_)
    · refine V_iload_n dX3_wardsLed_32 5 rfl ?_
      refine V_istore (L2 := [(6, .int x2), (5, .int (x1 / 10)), (4, .int (x1 - x1 / 10 * 10)), (3, .int (x1 / 10)), (0, .ref (ad 3 0 0)), (1, .int x1), (2, .int x2)]) dX3_wardsLed_33 (by decide) rfl ?_
      refine V_iconst (v := 0) dX3_wardsLed_35 (by decide) ?_
      refine V_istore (L2 := [(7, .int 0), (6, .int x2), (5, .int (x1 / 10)), (4, .int (x1 - x1 / 10 * 10)), (3, .int (x1 / 10)), (0, .ref (ad 3 0 0)), (1, .int x1), (2, .int x2)]) dX3_wardsLed_36 (by decide) rfl ?_
      refine V_aload_n dX3_wardsLed_38 5 rfl ?_
      refine V_iconst (v := 0) dX3_wardsLed_39 (by decide) ?_
      refine V_iload dX3_wardsLed_40 2 rfl ?_
      refine V_cV (k_X3_gainBetween l G hw g  0 (x1 / 10) ) hy_X3_gainBetween hi_X3_gainBetween hs_X3_gainBetween q_758 rfl rfl (W_3 hw) rfl rfl rfl rfl rfl ⟨by decide, by decide⟩ (Nat.le_of_ble_eq_true rfl) ⟨by decide, by decide⟩ dX3_wardsLed_42 (V_kI ?_)
      refine V_if_le (tgt := 51) dX3_wardsLed_45 (by decide) (fun c_45 => ?_) (fun c_45 => ?_)
      · refine V_iload_n dX3_wardsLed_51 4 rfl ?_
        refine V_if_le (tgt := 68) dX3_wardsLed_52 (by decide) (fun c_52 => ?_) (fun c_52 => ?_)
        · exact absurd c_52 c_12
        · refine V_aload_n dX3_wardsLed_55 5 rfl ?_
          refine V_iload_n dX3_wardsLed_56 4 rfl ?_
          refine V_iload dX3_wardsLed_57 1 rfl ?_
          refine V_cV (k_X3_gainBetween l G hw g  (x1 / 10) x2 ) hy_X3_gainBetween hi_X3_gainBetween hs_X3_gainBetween q_758 rfl rfl (W_3 hw) rfl rfl rfl rfl rfl ⟨by decide, by decide⟩ (Nat.le_of_ble_eq_true rfl) ⟨by decide, by decide⟩ dX3_wardsLed_59 (V_kI ?_)
          refine V_if_le (tgt := 68) dX3_wardsLed_62 (by decide) (fun c_62 => ?_) (fun c_62 => ?_)
          · refine V_iload dX3_wardsLed_68 3 rfl ?_
            refine V_if_le (tgt := 86) dX3_wardsLed_70 (by decide) (fun c_70 => ?_) (fun c_70 => ?_)
            · refine V_iload dX3_wardsLed_86 0 rfl ?_
              exact V_iret dX3_wardsLed_88 rfl (lfI (by simp only [F_X3_wardsLed, if_neg c_12, if_pos c_24, if_pos c_45, if_pos c_62]))
            · exact absurd c_24 c_70
          · refine V_iinc (v := (0 + 1)) (L2 := [(7, .int (0 + 1)), (6, .int x2), (5, .int (x1 / 10)), (4, .int (x1 - x1 / 10 * 10)), (3, .int (x1 / 10)), (0, .ref (ad 3 0 0)), (1, .int x1), (2, .int x2)]) dX3_wardsLed_65 0 rfl rfl (by decide) rfl ?_
            refine V_iload dX3_wardsLed_68 3 rfl ?_
            refine V_if_le (tgt := 86) dX3_wardsLed_70 (by decide) (fun c_70 => ?_) (fun c_70 => ?_)
            · refine V_iload dX3_wardsLed_86 0 rfl ?_
              exact V_iret dX3_wardsLed_88 rfl (lfI (by simp only [F_X3_wardsLed, if_neg c_12, if_pos c_24, if_pos c_45, if_neg c_62]))
            · exact absurd c_24 c_70
      · refine V_iinc (v := (0 + 1)) (L2 := [(7, .int (0 + 1)), (6, .int x2), (5, .int (x1 / 10)), (4, .int (x1 - x1 / 10 * 10)), (3, .int (x1 / 10)), (0, .ref (ad 3 0 0)), (1, .int x1), (2, .int x2)]) dX3_wardsLed_48 0 rfl rfl (by decide) rfl ?_
        refine V_iload_n dX3_wardsLed_51 4 rfl ?_
        refine V_if_le (tgt := 68) dX3_wardsLed_52 (by decide) (fun c_52 => ?_) (fun c_52 => ?_)
        · exact absurd c_52 c_12
        · refine V_aload_n dX3_wardsLed_55 5 rfl ?_
          refine V_iload_n dX3_wardsLed_56 4 rfl ?_
          refine V_iload dX3_wardsLed_57 1 rfl ?_
          refine V_cV (k_X3_gainBetween l G hw g  (x1 / 10) x2 ) hy_X3_gainBetween hi_X3_gainBetween hs_X3_gainBetween q_758 rfl rfl (W_3 hw) rfl rfl rfl rfl rfl ⟨by decide, by decide⟩ (Nat.le_of_ble_eq_true rfl) ⟨by decide, by decide⟩ dX3_wardsLed_59 (V_kI ?_)
          refine V_if_le (tgt := 68) dX3_wardsLed_62 (by decide) (fun c_62 => ?_) (fun c_62 => ?_)
          · refine V_iload dX3_wardsLed_68 3 rfl ?_
            refine V_if_le (tgt := 86) dX3_wardsLed_70 (by decide) (fun c_70 => ?_) (fun c_70 => ?_)
            · refine V_iload dX3_wardsLed_86 0 rfl ?_
              exact V_iret dX3_wardsLed_88 rfl (lfI (by simp only [F_X3_wardsLed, if_neg c_12, if_pos c_24, if_neg c_45, if_pos c_62]))
            · exact absurd c_24 c_70
          · refine V_iinc (v := ((0 + 1) + 1)) (L2 := [(7, .int ((0 + 1) + 1)), (6, .int x2), (5, .int (x1 / 10)), (4, .int (x1 - x1 / 10 * 10)), (3, .int (x1 / 10)), (0, .ref (ad 3 0 0)), (1, .int x1), (2, .int x2)]) dX3_wardsLed_65 0 rfl rfl (by decide) rfl ?_
            refine V_iload dX3_wardsLed_68 3 rfl ?_
            refine V_if_le (tgt := 86) dX3_wardsLed_70 (by decide) (fun c_70 => ?_) (fun c_70 => ?_)
            · refine V_iload dX3_wardsLed_86 0 rfl ?_
              exact V_iret dX3_wardsLed_88 rfl (lfI (by simp only [F_X3_wardsLed, if_neg c_12, if_pos c_24, if_neg c_45, if_neg c_62]))
            · exact absurd c_24 c_70
    · refine V_iload dX3_wardsLed_27 1 rfl ?_
      refine V_goto (tgt := 33) dX3_wardsLed_29 (by decide) ?_
      refine V_istore (L2 := [(6, .int (x1 - x1 / 10 * 10)), (5, .int (x1 / 10)), (4, .int (x1 - x1 / 10 * 10)), (3, .int (x1 / 10)), (0, .ref (ad 3 0 0)), (1, .int x1), (2, .int x2)]) dX3_wardsLed_33 (by decide) rfl ?_
      refine V_iconst (v := 0) dX3_wardsLed_35 (by decide) ?_
      refine V_istore (L2 := [(7, .int 0), (6, .int (x1 - x1 / 10 * 10)), (5, .int (x1 / 10)), (4, .int (x1 - x1 / 10 * 10)), (3, .int (x1 / 10)), (0, .ref (ad 3 0 0)), (1, .int x1), (2, .int x2)]) dX3_wardsLed_36 (by decide) rfl ?_
      refine V_aload_n dX3_wardsLed_38 5 rfl ?_
      refine V_iconst (v := 0) dX3_wardsLed_39 (by decide) ?_
      refine V_iload dX3_wardsLed_40 2 rfl ?_
      refine V_cV (k_X3_gainBetween l G hw g  0 (x1 / 10) ) hy_X3_gainBetween hi_X3_gainBetween hs_X3_gainBetween q_758 rfl rfl (W_3 hw) rfl rfl rfl rfl rfl ⟨by decide, by decide⟩ (Nat.le_of_ble_eq_true rfl) ⟨by decide, by decide⟩ dX3_wardsLed_42 (V_kI ?_)
      refine V_if_le (tgt := 51) dX3_wardsLed_45 (by decide) (fun c_45 => ?_) (fun c_45 => ?_)
      · refine V_iload_n dX3_wardsLed_51 4 rfl ?_
        refine V_if_le (tgt := 68) dX3_wardsLed_52 (by decide) (fun c_52 => ?_) (fun c_52 => ?_)
        · exact absurd c_52 c_12
        · refine V_aload_n dX3_wardsLed_55 5 rfl ?_
          refine V_iload_n dX3_wardsLed_56 4 rfl ?_
          refine V_iload dX3_wardsLed_57 1 rfl ?_
          refine V_cV (k_X3_gainBetween l G hw g  (x1 / 10) (x1 - x1 / 10 * 10) ) hy_X3_gainBetween hi_X3_gainBetween hs_X3_gainBetween q_758 rfl rfl (W_3 hw) rfl rfl rfl rfl rfl ⟨by decide, by decide⟩ (Nat.le_of_ble_eq_true rfl) ⟨by decide, by decide⟩ dX3_wardsLed_59 (V_kI ?_)
          refine V_if_le (tgt := 68) dX3_wardsLed_62 (by decide) (fun c_62 => ?_) (fun c_62 => ?_)
          · refine V_iload dX3_wardsLed_68 3 rfl ?_
            refine V_if_le (tgt := 86) dX3_wardsLed_70 (by decide) (fun c_70 => ?_) (fun c_70 => ?_)
            · exact absurd c_70 c_24
            · refine V_aload_n dX3_wardsLed_73 5 rfl ?_
              refine V_iload dX3_wardsLed_74 3 rfl ?_
              refine V_iload_n dX3_wardsLed_76 7 rfl ?_
              refine V_cV (k_X3_gainBetween l G hw g  (x1 - x1 / 10 * 10) x2 ) hy_X3_gainBetween hi_X3_gainBetween hs_X3_gainBetween q_758 rfl rfl (W_3 hw) rfl rfl rfl rfl rfl ⟨by decide, by decide⟩ (Nat.le_of_ble_eq_true rfl) ⟨by decide, by decide⟩ dX3_wardsLed_77 (V_kI ?_)
              refine V_if_le (tgt := 86) dX3_wardsLed_80 (by decide) (fun c_80 => ?_) (fun c_80 => ?_)
              · refine V_iload dX3_wardsLed_86 0 rfl ?_
                exact V_iret dX3_wardsLed_88 rfl (lfI (by simp only [F_X3_wardsLed, if_neg c_12, if_neg c_24, if_pos c_45, if_pos c_62, if_pos c_80]))
              · refine V_iinc (v := (0 + 1)) (L2 := [(7, .int (0 + 1)), (6, .int (x1 - x1 / 10 * 10)), (5, .int (x1 / 10)), (4, .int (x1 - x1 / 10 * 10)), (3, .int (x1 / 10)), (0, .ref (ad 3 0 0)), (1, .int x1), (2, .int x2)]) dX3_wardsLed_83 0 rfl rfl (by decide) rfl ?_
                refine V_iload dX3_wardsLed_86 0 rfl ?_
                exact V_iret dX3_wardsLed_88 rfl (lfI (by simp only [F_X3_wardsLed, if_neg c_12, if_neg c_24, if_pos c_45, if_pos c_62, if_neg c_80]))
          · refine V_iinc (v := (0 + 1)) (L2 := [(7, .int (0 + 1)), (6, .int (x1 - x1 / 10 * 10)), (5, .int (x1 / 10)), (4, .int (x1 - x1 / 10 * 10)), (3, .int (x1 / 10)), (0, .ref (ad 3 0 0)), (1, .int x1), (2, .int x2)]) dX3_wardsLed_65 0 rfl rfl (by decide) rfl ?_
            refine V_iload dX3_wardsLed_68 3 rfl ?_
            refine V_if_le (tgt := 86) dX3_wardsLed_70 (by decide) (fun c_70 => ?_) (fun c_70 => ?_)
            · exact absurd c_70 c_24
            · refine V_aload_n dX3_wardsLed_73 5 rfl ?_
              refine V_iload dX3_wardsLed_74 3 rfl ?_
              refine V_iload_n dX3_wardsLed_76 7 rfl ?_
              refine V_cV (k_X3_gainBetween l G hw g  (x1 - x1 / 10 * 10) x2 ) hy_X3_gainBetween hi_X3_gainBetween hs_X3_gainBetween q_758 rfl rfl (W_3 hw) rfl rfl rfl rfl rfl ⟨by decide, by decide⟩ (Nat.le_of_ble_eq_true rfl) ⟨by decide, by decide⟩ dX3_wardsLed_77 (V_kI ?_)
              refine V_if_le (tgt := 86) dX3_wardsLed_80 (by decide) (fun c_80 => ?_) (fun c_80 => ?_)
              · refine V_iload dX3_wardsLed_86 0 rfl ?_
                exact V_iret dX3_wardsLed_88 rfl (lfI (by simp only [F_X3_wardsLed, if_neg c_12, if_neg c_24, if_pos c_45, if_neg c_62, if_pos c_80]))
              · refine V_iinc (v := ((0 + 1) + 1)) (L2 := [(7, .int ((0 + 1) + 1)), (6, .int (x1 - x1 / 10 * 10)), (5, .int (x1 / 10)), (4, .int (x1 - x1 / 10 * 10)), (3, .int (x1 / 10)), (0, .ref (ad 3 0 0)), (1, .int x1), (2, .int x2)]) dX3_wardsLed_83 0 rfl rfl (by decide) rfl ?_
                refine V_iload dX3_wardsLed_86 0 rfl ?_
                exact V_iret dX3_wardsLed_88 rfl (lfI (by simp only [F_X3_wardsLed, if_neg c_12, if_neg c_24, if_pos c_45, if_neg c_62, if_neg c_80]))
      · refine V_iinc (v := (0 + 1)) (L2 := [(7, .int (0 + 1)), (6, .int (x1 - x1 / 10 * 10)), (5, .int (x1 / 10)), (4, .int (x1 - x1 / 10 * 10)), (3, .int (x1 / 10)), (0, .ref (ad 3 0 0)), (1, .int x1), (2, .int x2)]) dX3_wardsLed_48 0 rfl rfl (by decide) rfl ?_
        refine V_iload_n dX3_wardsLed_51 4 rfl ?_
        refine V_if_le (tgt := 68) dX3_wardsLed_52 (by decide) (fun c_52 => ?_) (fun c_52 => ?_)
        · exact absurd c_52 c_12
        · refine V_aload_n dX3_wardsLed_55 5 rfl ?_
          refine V_iload_n dX3_wardsLed_56 4 rfl ?_
          refine V_iload dX3_wardsLed_57 1 rfl ?_
          refine V_cV (k_X3_gainBetween l G hw g  (x1 / 10) (x1 - x1 / 10 * 10) ) hy_X3_gainBetween hi_X3_gainBetween hs_X3_gainBetween q_758 rfl rfl (W_3 hw) rfl rfl rfl rfl rfl ⟨by decide, by decide⟩ (Nat.le_of_ble_eq_true rfl) ⟨by decide, by decide⟩ dX3_wardsLed_59 (V_kI ?_)
          refine V_if_le (tgt := 68) dX3_wardsLed_62 (by decide) (fun c_62 => ?_) (fun c_62 => ?_)
          · refine V_iload dX3_wardsLed_68 3 rfl ?_
            refine V_if_le (tgt := 86) dX3_wardsLed_70 (by decide) (fun c_70 => ?_) (fun c_70 => ?_)
            · exact absurd c_70 c_24
            · refine V_aload_n dX3_wardsLed_73 5 rfl ?_
              refine V_iload dX3_wardsLed_74 3 rfl ?_
              refine V_iload_n dX3_wardsLed_76 7 rfl ?_
              refine V_cV (k_X3_gainBetween l G hw g  (x1 - x1 / 10 * 10) x2 ) hy_X3_gainBetween hi_X3_gainBetween hs_X3_gainBetween q_758 rfl rfl (W_3 hw) rfl rfl rfl rfl rfl ⟨by decide, by decide⟩ (Nat.le_of_ble_eq_true rfl) ⟨by decide, by decide⟩ dX3_wardsLed_77 (V_kI ?_)
              refine V_if_le (tgt := 86) dX3_wardsLed_80 (by decide) (fun c_80 => ?_) (fun c_80 => ?_)
              · refine V_iload dX3_wardsLed_86 0 rfl ?_
                exact V_iret dX3_wardsLed_88 rfl (lfI (by simp only [F_X3_wardsLed, if_neg c_12, if_neg c_24, if_neg c_45, if_pos c_62, if_pos c_80]))
              · refine V_iinc (v := ((0 + 1) + 1)) (L2 := [(7, .int ((0 + 1) + 1)), (6, .int (x1 - x1 / 10 * 10)), (5, .int (x1 / 10)), (4, .int (x1 - x1 / 10 * 10)), (3, .int (x1 / 10)), (0, .ref (ad 3 0 0)), (1, .int x1), (2, .int x2)]) dX3_wardsLed_83 0 rfl rfl (by decide) rfl ?_
                refine V_iload dX3_wardsLed_86 0 rfl ?_
                exact V_iret dX3_wardsLed_88 rfl (lfI (by simp only [F_X3_wardsLed, if_neg c_12, if_neg c_24, if_neg c_45, if_pos c_62, if_neg c_80]))
          · refine V_iinc (v := ((0 + 1) + 1)) (L2 := [(7, .int ((0 + 1) + 1)), (6, .int (x1 - x1 / 10 * 10)), (5, .int (x1 / 10)), (4, .int (x1 - x1 / 10 * 10)), (3, .int (x1 / 10)), (0, .ref (ad 3 0 0)), (1, .int x1), (2, .int x2)]) dX3_wardsLed_65 0 rfl rfl (by decide) rfl ?_
            refine V_iload dX3_wardsLed_68 3 rfl ?_
            refine V_if_le (tgt := 86) dX3_wardsLed_70 (by decide) (fun c_70 => ?_) (fun c_70 => ?_)
            · exact absurd c_70 c_24
            · refine V_aload_n dX3_wardsLed_73 5 rfl ?_
              refine V_iload dX3_wardsLed_74 3 rfl ?_
              refine V_iload_n dX3_wardsLed_76 7 rfl ?_
              refine V_cV (k_X3_gainBetween l G hw g  (x1 - x1 / 10 * 10) x2 ) hy_X3_gainBetween hi_X3_gainBetween hs_X3_gainBetween q_758 rfl rfl (W_3 hw) rfl rfl rfl rfl rfl ⟨by decide, by decide⟩ (Nat.le_of_ble_eq_true rfl) ⟨by decide, by decide⟩ dX3_wardsLed_77 (V_kI ?_)
              refine V_if_le (tgt := 86) dX3_wardsLed_80 (by decide) (fun c_80 => ?_) (fun c_80 => ?_)
              · refine V_iload dX3_wardsLed_86 0 rfl ?_
                exact V_iret dX3_wardsLed_88 rfl (lfI (by simp only [F_X3_wardsLed, if_neg c_12, if_neg c_24, if_neg c_45, if_neg c_62, if_pos c_80]))
              · refine V_iinc (v := (((0 + 1) + 1) + 1)) (L2 := [(7, .int (((0 + 1) + 1) + 1)), (6, .int (x1 - x1 / 10 * 10)), (5, .int (x1 / 10)), (4, .int (x1 - x1 / 10 * 10)), (3, .int (x1 / 10)), (0, .ref (ad 3 0 0)), (1, .int x1), (2, .int x2)]) dX3_wardsLed_83 0 rfl rfl (by decide) rfl ?_
                refine V_iload dX3_wardsLed_86 0 rfl ?_
                exact V_iret dX3_wardsLed_88 rfl (lfI (by simp only [F_X3_wardsLed, if_neg c_12, if_neg c_24, if_neg c_45, if_neg c_62, if_neg c_80]))
def F_X3_bestCut_16 (g16 : mm_g) (k2 : Nat) (x1 : Int32) (x2 : Int32) (K : Int32 → Int32 → Nat → Int32 × mm_g) : Nat → Int32 → Int32 → Nat → Int32 × mm_g
  | 0, a, b, j => K a b j
  | n + 1, a, b, j => (if 100 ≤ (nI j) then K a b j else (if (F_X3_wardsOf (nI j) (g16 2 k2 0)) = x2 then (if (F_X3_wardsLed g16 (nI j) (g16 2 k2 0)) ≤ b then F_X3_bestCut_16 g16 k2 x1 x2 K n a b (j + 1) else F_X3_bestCut_16 g16 k2 x1 x2 K n (nI j) (F_X3_wardsLed g16 (nI j) (g16 2 k2 0)) (j + 1)) else F_X3_bestCut_16 g16 k2 x1 x2 K n a b (j + 1)))
def F_X3_bestCut (g : mm_g) (k2 : Nat) (x1 : Int32) (x2 : Int32) : Int32 × mm_g := (F_X3_bestCut_16 (F_X3_weighBeds g k2 x1) k2 x1 x2 (fun (a16 : Int32) (b16 : Int32) (j16 : Nat) => (a16, (F_X3_weighBeds g k2 x1))) ((100 : Int32).toInt.toNat + 1) (-1000000) (-1) 0)
set_option maxRecDepth 100000 in
set_option maxHeartbeats 4000000 in
theorem w_X3_bestCut_16 (l : Launch) (G : mm_G) {pr : Nat → Nat → Prop} {ad : Nat → Nat → Nat → Nat} (hw : mm_W pr) (g16 : mm_g) (k2 : Nat) (x1 : Int32) (x2 : Int32)  (hk2 : pr 2 k2) (K : Int32 → Int32 → Nat → Int32 × mm_g) (hK : ∀ (a : Int32) (b : Int32) (j : Nat) (hj : j ≤ (100 : Int32).toInt.toNat), V l G RX3 cX3_bestCut 8 (some .int) (rmk 5 151) (qM pr ad (K a b j)) 0 0 0 0 72 [(0, .ref (ad 3 0 0)), (1, .ref (ad 2 k2 0)), (2, .int x1), (3, .int x2), (4, .int a), (5, .int b), (6, .int (nI j))] [] pr ad g16) : ∀ (n : Nat) (a : Int32) (b : Int32) (j : Nat) (hj : j ≤ (100 : Int32).toInt.toNat) (hm : (100 : Int32).toInt.toNat - j < n), V l G RX3 cX3_bestCut 8 (some .int) (rmk 5 151) (qM pr ad (F_X3_bestCut_16 g16 k2 x1 x2 K n a b j)) 0 0 0 0 16 [(0, .ref (ad 3 0 0)), (1, .ref (ad 2 k2 0)), (2, .int x1), (3, .int x2), (4, .int a), (5, .int b), (6, .int (nI j))] [] pr ad g16 := by
  intro n
  induction n with
  | zero => intro a b j hj hm; exact absurd hm (Nat.not_lt_zero _)
  | succ n ih =>
      intro a b j hj hm
      refine V_iload dX3_bestCut_16 6 rfl ?_
      refine V_bipush (v := 100) dX3_bestCut_18 (by decide) ?_
      refine V_ic_ge (tgt := 72) dX3_bestCut_20 (by decide) (fun c_20 => ?_) (fun c_20 => ?_)
      · refine V_rp (R2 := K a b j) (by simp only [F_X3_bestCut_16, if_pos c_20]) ?_
        refine V_lp [0, 1, 2, 3, 4, 5, 6] rfl ?_
        exact hK a b j (by assumption)
      · refine V_iload dX3_bestCut_23 6 rfl ?_
        refine V_aload_n dX3_bestCut_25 1 rfl ?_
        refine V_getN (i := 0) inlX2 rfl hk2 rfl (by decide) nf_X3_82 rfl dX3_bestCut_26 ?_
        refine V_cS (k_X3_wardsOf l G hw g16  (nI j) (g16 2 k2 0) ) hy_X3_wardsOf hz_X3_wardsOf q_751 rfl rfl rfl rfl ⟨by decide, by decide⟩ (Nat.le_of_ble_eq_true rfl) ⟨by decide, by decide⟩ dX3_bestCut_29 (V_kI ?_)
        refine V_iload_n dX3_bestCut_32 3 rfl ?_
        refine V_ic_eq (tgt := 39) dX3_bestCut_33 (by decide) (fun c_33 => ?_) (fun c_33 => ?_)
        · refine V_aload_n dX3_bestCut_39 0 rfl ?_
          refine V_iload dX3_bestCut_40 6 rfl ?_
          refine V_aload_n dX3_bestCut_42 1 rfl ?_
          refine V_getN (i := 0) inlX2 rfl hk2 rfl (by decide) nf_X3_82 rfl dX3_bestCut_43 ?_
          refine V_cV (k_X3_wardsLed l G hw g16  (nI j) (g16 2 k2 0) ) hy_X3_wardsLed hi_X3_wardsLed hs_X3_wardsLed q_754 rfl rfl (W_3 hw) rfl rfl rfl rfl rfl ⟨by decide, by decide⟩ (Nat.le_of_ble_eq_true rfl) ⟨by decide, by decide⟩ dX3_bestCut_46 (V_kI ?_)
          refine V_istore (L2 := [(7, .int (F_X3_wardsLed g16 (nI j) (g16 2 k2 0))), (0, .ref (ad 3 0 0)), (1, .ref (ad 2 k2 0)), (2, .int x1), (3, .int x2), (4, .int a), (5, .int b), (6, .int (nI j))]) dX3_bestCut_49 (by decide) rfl ?_
          refine V_iload dX3_bestCut_51 0 rfl ?_
          refine V_iload dX3_bestCut_53 6 rfl ?_
          refine V_ic_le (tgt := 66) dX3_bestCut_55 (by decide) (fun c_55 => ?_) (fun c_55 => ?_)
          · refine V_iinc (v := (nI (j + 1))) (L2 := [(6, .int (nI (j + 1))), (7, .int (F_X3_wardsLed g16 (nI j) (g16 2 k2 0))), (0, .ref (ad 3 0 0)), (1, .ref (ad 2 k2 0)), (2, .int x1), (3, .int x2), (4, .int a), (5, .int b)]) dX3_bestCut_66 7 rfl (nI_1 _) (by decide) rfl ?_
            refine V_goto (tgt := 16) dX3_bestCut_69 (by decide) ?_
            refine V_rp (R2 := F_X3_bestCut_16 g16 k2 x1 x2 K n a b (j + 1)) (by simp only [F_X3_bestCut_16, if_neg c_20, if_pos c_33, if_pos c_55]) ?_
            refine V_lp [2, 3, 4, 5, 6, 7, 0] rfl ?_
            exact ih a b (j + 1) (by exact (lp_up hj c_20 hm).1) (by exact (lp_up hj c_20 hm).2) 
          · refine V_iload dX3_bestCut_58 7 rfl ?_
            refine V_istore (L2 := [(4, .int (nI j)), (7, .int (F_X3_wardsLed g16 (nI j) (g16 2 k2 0))), (0, .ref (ad 3 0 0)), (1, .ref (ad 2 k2 0)), (2, .int x1), (3, .int x2), (5, .int b), (6, .int (nI j))]) dX3_bestCut_60 (by decide) rfl ?_
            refine V_iload dX3_bestCut_62 1 rfl ?_
            refine V_istore (L2 := [(5, .int (F_X3_wardsLed g16 (nI j) (g16 2 k2 0))), (4, .int (nI j)), (7, .int (F_X3_wardsLed g16 (nI j) (g16 2 k2 0))), (0, .ref (ad 3 0 0)), (1, .ref (ad 2 k2 0)), (2, .int x1), (3, .int x2), (6, .int (nI j))]) dX3_bestCut_64 (by decide) rfl ?_
            refine V_iinc (v := (nI (j + 1))) (L2 := [(6, .int (nI (j + 1))), (5, .int (F_X3_wardsLed g16 (nI j) (g16 2 k2 0))), (4, .int (nI j)), (7, .int (F_X3_wardsLed g16 (nI j) (g16 2 k2 0))), (0, .ref (ad 3 0 0)), (1, .ref (ad 2 k2 0)), (2, .int x1), (3, .int x2)]) dX3_bestCut_66 7 rfl (nI_1 _) (by decide) rfl ?_
            refine V_goto (tgt := 16) dX3_bestCut_69 (by decide) ?_
            refine V_rp (R2 := F_X3_bestCut_16 g16 k2 x1 x2 K n (nI j) (F_X3_wardsLed g16 (nI j) (g16 2 k2 0)) (j + 1)) (by simp only [F_X3_bestCut_16, if_neg c_20, if_pos c_33, if_neg c_55]) ?_
            refine V_lp [4, 5, 6, 7, 2, 1, 0] rfl ?_
            exact ih (nI j) (F_X3_wardsLed g16 (nI j) (g16 2 k2 0)) (j + 1) (by exact (lp_up hj c_20 hm).1) (by exact (lp_up hj c_20 hm).2) 
        · refine V_goto (tgt := 66) dX3_bestCut_36 (by decide) ?_
          refine V_iinc (v := (nI (j + 1))) (L2 := [(6, .int (nI (j + 1))), (0, .ref (ad 3 0 0)), (1, .ref (ad 2 k2 0)), (2, .int x1), (3, .int x2), (4, .int a), (5, .int b)]) dX3_bestCut_66 6 rfl (nI_1 _) (by decide) rfl ?_
          refine V_goto (tgt := 16) dX3_bestCut_69 (by decide) ?_
          refine V_rp (R2 := F_X3_bestCut_16 g16 k2 x1 x2 K n a b (j + 1)) (by simp only [F_X3_bestCut_16, if_neg c_20, if_neg c_33]) ?_
          refine V_lp [1, 2, 3, 4, 5, 6, 0] rfl ?_
          exact ih a b (j + 1) (by exact (lp_up hj c_20 hm).1) (by exact (lp_up hj c_20 hm).2) 
set_option maxRecDepth 100000 in
set_option maxHeartbeats 4000000 in
theorem k_X3_bestCut (l : Launch) (G : mm_G) {pr : Nat → Nat → Prop} {ad : Nat → Nat → Nat → Nat} (hw : mm_W pr) (g : mm_g) {k2 : Nat} (hk2 : pr 2 k2) (x1 : Int32) (x2 : Int32)  : Mt l G yX3_bestCut cX3_bestCut 8 (some .int) (rmk 5 151) [.ref (ad 3 0 0), .ref (ad 2 k2 0), .int x1, .int x2] pr ad g (qM pr ad (F_X3_bestCut g k2 x1 x2)) 0 0 := by
  refine Mt_of (by decide) (Nat.le_of_ble_eq_true rfl) ?_
  show V l G RX3 cX3_bestCut 8 (some .int) _ _ 0 0 0 0 0 [(0, .ref (ad 3 0 0)), (1, .ref (ad 2 k2 0)), (2, .int x1), (3, .int x2)] [] pr ad g
  refine V_aload_n dX3_bestCut_0 0 rfl ?_
  refine V_aload_n dX3_bestCut_1 1 rfl ?_
  refine V_iload_n dX3_bestCut_2 2 rfl ?_
  refine V_cV (k_X3_weighBeds l G hw g hk2 x1 ) hy_X3_weighBeds hi_X3_weighBeds hs_X3_weighBeds q_716 rfl rfl (W_3 hw) rfl rfl rfl rfl rfl ⟨by decide, by decide⟩ (Nat.le_of_ble_eq_true rfl) ⟨by decide, by decide⟩ dX3_bestCut_3 (V_kN ?_)
  refine V_ldc q_631 dX3_bestCut_6 ?_
  refine V_istore (L2 := [(4, .int (-1000000)), (0, .ref (ad 3 0 0)), (1, .ref (ad 2 k2 0)), (2, .int x1), (3, .int x2)]) dX3_bestCut_8 (by decide) rfl ?_
  refine V_iconst (v := (-1)) dX3_bestCut_10 (by decide) ?_
  refine V_istore (L2 := [(5, .int (-1)), (4, .int (-1000000)), (0, .ref (ad 3 0 0)), (1, .ref (ad 2 k2 0)), (2, .int x1), (3, .int x2)]) dX3_bestCut_11 (by decide) rfl ?_
  refine V_iconst (v := 0) dX3_bestCut_13 (by decide) ?_
  refine V_istore (L2 := [(6, .int 0), (5, .int (-1)), (4, .int (-1000000)), (0, .ref (ad 3 0 0)), (1, .ref (ad 2 k2 0)), (2, .int x1), (3, .int x2)]) dX3_bestCut_14 (by decide) rfl ?_
  refine V_rp (R2 := F_X3_bestCut_16 (F_X3_weighBeds g k2 x1) k2 x1 x2 (fun (a16 : Int32) (b16 : Int32) (j16 : Nat) => (a16, (F_X3_weighBeds g k2 x1))) ((100 : Int32).toInt.toNat + 1) (-1000000) (-1) 0) (by simp only [F_X3_bestCut]) ?_
  refine V_lp [3, 4, 5, 6, 2, 1, 0] rfl ?_
  refine w_X3_bestCut_16 l G hw (F_X3_weighBeds g k2 x1) k2 x1 x2 hk2  _ (fun a16 b16 j16 hj16 => ?_) ((100 : Int32).toInt.toNat + 1) (-1000000) (-1) 0 (by first | exact Nat.zero_le _ | decide) (by omega)
  refine V_iload dX3_bestCut_72 4 rfl ?_
  exact V_iret dX3_bestCut_74 rfl (lfM (by rfl))
def F_X3_growsAsTold_2 (x1 : Int32) (x2 : Int32) (K : Nat → mm_g → Int32 × mm_g) : Nat → Nat → mm_g → Int32 × mm_g
  | 0, j, s => K j s
  | n + 1, j, s => (if x2 ≤ (nI j) then K j s else (if 12 ≤ (nI j) then K j s else (if (F_X2_stockOf (F_X2_flow s 1) 1 x1) = ((F_X2_flow s 1) 3 1 (nI j).toNatClampNeg) then F_X3_growsAsTold_2 x1 x2 K n (j + 1) (F_X2_flow s 1) else (0, (F_X2_flow s 1)))))
def F_X3_growsAsTold (g : mm_g) (x1 : Int32) (x2 : Int32) : Int32 × mm_g := (F_X3_growsAsTold_2 x1 x2 (fun (j2 : Nat) (s2 : mm_g) => (1, s2)) ((12 : Int32).toInt.toNat + 1) 0 g)
set_option maxRecDepth 100000 in
set_option maxHeartbeats 4000000 in
theorem w_X3_growsAsTold_2 (l : Launch) (G : mm_G) {pr : Nat → Nat → Prop} {ad : Nat → Nat → Nat → Nat} (hw : mm_W pr) (x1 : Int32) (x2 : Int32)  (K : Nat → mm_g → Int32 × mm_g) (hK : ∀ (j : Nat) (s : mm_g) (hj : j ≤ (12 : Int32).toInt.toNat), V l G RX3 cX3_growsAsTold 4 (some .boolean) (rmk 5 147) (qM pr ad (K j s)) 0 0 0 0 45 [(0, .ref (ad 3 0 0)), (1, .int x1), (2, .int x2), (3, .int (nI j))] [] pr ad s) : ∀ (n : Nat) (j : Nat) (s : mm_g) (hj : j ≤ (12 : Int32).toInt.toNat) (hm : (12 : Int32).toInt.toNat - j < n), V l G RX3 cX3_growsAsTold 4 (some .boolean) (rmk 5 147) (qM pr ad (F_X3_growsAsTold_2 x1 x2 K n j s)) 0 0 0 0 2 [(0, .ref (ad 3 0 0)), (1, .int x1), (2, .int x2), (3, .int (nI j))] [] pr ad s := by
  intro n
  induction n with
  | zero => intro j s hj hm; exact absurd hm (Nat.not_lt_zero _)
  | succ n ih =>
      intro j s hj hm
      refine V_iload_n dX3_growsAsTold_2 3 rfl ?_
      refine V_iload_n dX3_growsAsTold_3 2 rfl ?_
      refine V_ic_ge (tgt := 45) dX3_growsAsTold_4 (by decide) (fun c_4 => ?_) (fun c_4 => ?_)
      · refine V_rp (R2 := K j s) (by simp only [F_X3_growsAsTold_2, if_pos c_4]) ?_
        refine V_lp [0, 1, 2, 3] rfl ?_
        exact hK j s (by assumption)
      · refine V_iload_n dX3_growsAsTold_7 3 rfl ?_
        refine V_bipush (v := 12) dX3_growsAsTold_8 (by decide) ?_
        refine V_ic_ge (tgt := 45) dX3_growsAsTold_10 (by decide) (fun c_10 => ?_) (fun c_10 => ?_)
        · refine V_rp (R2 := K j s) (by simp only [F_X3_growsAsTold_2, if_neg c_4, if_pos c_10]) ?_
          refine V_lp [0, 1, 2, 3] rfl ?_
          exact hK j s (by assumption)
        · refine V_aload_n dX3_growsAsTold_13 0 rfl ?_
          refine V_get (i := 0) inlX3 rfl (W_3 hw) rfl (by decide) q_78 rfl dX3_growsAsTold_14 ?_
          refine V_cV (k_X2_flow l G hw s (W_21 hw)  ) hy_X2_flow hi_X2_flow hs_X2_flow q_583 rfl rfl (W_21 hw) rfl rfl rfl rfl rfl ⟨by decide, by decide⟩ (Nat.le_of_ble_eq_true rfl) ⟨by decide, by decide⟩ dX3_growsAsTold_17 (V_kN ?_)
          refine V_aload_n dX3_growsAsTold_20 0 rfl ?_
          refine V_get (i := 0) inlX3 rfl (W_3 hw) rfl (by decide) q_78 rfl dX3_growsAsTold_21 ?_
          refine V_iload_n dX3_growsAsTold_24 1 rfl ?_
          refine V_cV (k_X2_stockOf l G hw (F_X2_flow s 1) (W_21 hw) x1 ) hy_X2_stockOf hi_X2_stockOf hs_X2_stockOf q_819 rfl rfl (W_21 hw) rfl rfl rfl rfl rfl ⟨by decide, by decide⟩ (Nat.le_of_ble_eq_true rfl) ⟨by decide, by decide⟩ dX3_growsAsTold_25 (V_kI ?_)
          refine V_aload_n dX3_growsAsTold_28 0 rfl ?_
          refine V_get (i := 1) inlX3 rfl (W_3 hw) rfl (by decide) q_79 rfl dX3_growsAsTold_29 ?_
          refine V_iload_n dX3_growsAsTold_32 3 rfl ?_
          refine L_3_1 (W_3 hw) (by exact ix_x hj c_10 (by decide)) dX3_growsAsTold_33 ?_
          refine V_ic_eq (tgt := 39) dX3_growsAsTold_34 (by decide) (fun c_34 => ?_) (fun c_34 => ?_)
          · refine V_iinc (v := (nI (j + 1))) (L2 := [(3, .int (nI (j + 1))), (0, .ref (ad 3 0 0)), (1, .int x1), (2, .int x2)]) dX3_growsAsTold_39 3 rfl (nI_1 _) (by decide) rfl ?_
            refine V_goto (tgt := 2) dX3_growsAsTold_42 (by decide) ?_
            refine V_rp (R2 := F_X3_growsAsTold_2 x1 x2 K n (j + 1) (F_X2_flow s 1)) (by simp only [F_X3_growsAsTold_2, if_neg c_4, if_neg c_10, if_pos c_34]) ?_
            refine V_lp [1, 2, 3, 0] rfl ?_
            exact ih (j + 1) (F_X2_flow s 1) (by exact (lp_up hj c_10 hm).1) (by exact (lp_up hj c_10 hm).2) 
          · refine V_iconst (v := 0) dX3_growsAsTold_37 (by decide) ?_
            exact V_zret dX3_growsAsTold_38 rfl rfl (lfM (by simp only [F_X3_growsAsTold_2, if_neg c_4, if_neg c_10, if_neg c_34]))
set_option maxRecDepth 100000 in
set_option maxHeartbeats 4000000 in
theorem k_X3_growsAsTold (l : Launch) (G : mm_G) {pr : Nat → Nat → Prop} {ad : Nat → Nat → Nat → Nat} (hw : mm_W pr) (g : mm_g) (x1 : Int32) (x2 : Int32)  : Mt l G yX3_growsAsTold cX3_growsAsTold 4 (some .boolean) (rmk 5 147) [.ref (ad 3 0 0), .int x1, .int x2] pr ad g (qM pr ad (F_X3_growsAsTold g x1 x2)) 0 0 := by
  refine Mt_of (by decide) (Nat.le_of_ble_eq_true rfl) ?_
  show V l G RX3 cX3_growsAsTold 4 (some .boolean) _ _ 0 0 0 0 0 [(0, .ref (ad 3 0 0)), (1, .int x1), (2, .int x2)] [] pr ad g
  refine V_iconst (v := 0) dX3_growsAsTold_0 (by decide) ?_
  refine V_istore_n (L2 := [(3, .int 0), (0, .ref (ad 3 0 0)), (1, .int x1), (2, .int x2)]) dX3_growsAsTold_1 (by decide) rfl ?_
  refine V_rp (R2 := F_X3_growsAsTold_2 x1 x2 (fun (j2 : Nat) (s2 : mm_g) => (1, s2)) ((12 : Int32).toInt.toNat + 1) 0 g) (by simp only [F_X3_growsAsTold]) ?_
  refine V_lp [1, 2, 3, 0] rfl ?_
  refine w_X3_growsAsTold_2 l G hw x1 x2   _ (fun j2 s2 hj2 => ?_) ((12 : Int32).toInt.toNat + 1) 0 g (by first | exact Nat.zero_le _ | decide) (by omega)
  refine V_iconst (v := 1) dX3_growsAsTold_45 (by decide) ?_
  exact V_zret dX3_growsAsTold_46 rfl rfl (lfM (by rfl))
def F_X3_grownBy_49 (k2 : Nat) (x1 : Int32) (x2 : Int32) (x3 : Int32) (f5 : Int32) (f6 : Int32) (K : Int32 → Nat → mm_g → Int32 × mm_g) : Nat → Int32 → Nat → mm_g → Int32 × mm_g
  | 0, a, j, s => K a j s
  | n + 1, a, j, s => (if f6 < (nI j) then K a j s else (if x2 = 0 then (if (F_X3_growsAsTold (F_X2_kindTo (F_X2_become s 1 k2) 1 x1 (nI j)) x1 x3).1 = 0 then F_X3_grownBy_49 k2 x1 x2 x3 f5 f6 K n a (j + 1) ((F_X3_growsAsTold (F_X2_kindTo (F_X2_become s 1 k2) 1 x1 (nI j)) x1 x3).2) else F_X3_grownBy_49 k2 x1 x2 x3 f5 f6 K n (a ||| ((1 : Int32) <<< ((nI j) &&& 31))) (j + 1) ((F_X3_growsAsTold (F_X2_kindTo (F_X2_become s 1 k2) 1 x1 (nI j)) x1 x3).2)) else (if x2 = 1 then (if (F_X3_growsAsTold (F_X2_warmTo (F_X2_become s 1 k2) 1 x1 (nI j)) x1 x3).1 = 0 then F_X3_grownBy_49 k2 x1 x2 x3 f5 f6 K n a (j + 1) ((F_X3_growsAsTold (F_X2_warmTo (F_X2_become s 1 k2) 1 x1 (nI j)) x1 x3).2) else F_X3_grownBy_49 k2 x1 x2 x3 f5 f6 K n (a ||| ((1 : Int32) <<< ((nI j) &&& 31))) (j + 1) ((F_X3_growsAsTold (F_X2_warmTo (F_X2_become s 1 k2) 1 x1 (nI j)) x1 x3).2)) else (if (F_X3_growsAsTold (F_X2_lotTo (F_X2_become s 1 k2) 1 (nI j)) x1 x3).1 = 0 then F_X3_grownBy_49 k2 x1 x2 x3 f5 f6 K n a (j + 1) ((F_X3_growsAsTold (F_X2_lotTo (F_X2_become s 1 k2) 1 (nI j)) x1 x3).2) else F_X3_grownBy_49 k2 x1 x2 x3 f5 f6 K n (a ||| ((1 : Int32) <<< ((nI j) &&& 31))) (j + 1) ((F_X3_growsAsTold (F_X2_lotTo (F_X2_become s 1 k2) 1 (nI j)) x1 x3).2)))))
def F_X3_grownBy (g : mm_g) (k2 : Nat) (x1 : Int32) (x2 : Int32) (x3 : Int32) : Int32 × mm_g := (if x2 = 0 then (F_X3_grownBy_49 k2 x1 x2 x3 1 5 (fun (a49 : Int32) (j49 : Nat) (s49 : mm_g) => (a49, s49)) 12 0 1 g) else (if x2 = 1 then (F_X3_grownBy_49 k2 x1 x2 x3 0 9 (fun (a49 : Int32) (j49 : Nat) (s49 : mm_g) => (a49, s49)) 12 0 0 g) else (F_X3_grownBy_49 k2 x1 x2 x3 1 9 (fun (a49 : Int32) (j49 : Nat) (s49 : mm_g) => (a49, s49)) 12 0 1 g)))
set_option maxRecDepth 100000 in
set_option maxHeartbeats 4000000 in
theorem w_X3_grownBy_49 (l : Launch) (G : mm_G) {pr : Nat → Nat → Prop} {ad : Nat → Nat → Nat → Nat} (hw : mm_W pr) (k2 : Nat) (x1 : Int32) (x2 : Int32) (x3 : Int32) (f5 : Int32) (f6 : Int32)  (hk2 : pr 2 k2) (h6 : 0 ≤ f6.toInt ∧ f6.toInt ≤ 9) (K : Int32 → Nat → mm_g → Int32 × mm_g) (hK : ∀ (a : Int32) (j : Nat) (s : mm_g) (hj : j ≤ f6.toInt.toNat + 1), V l G RX3 cX3_grownBy 9 (some .int) (rmk 6 170) (qM pr ad (K a j s)) 0 0 0 0 133 [(0, .ref (ad 3 0 0)), (1, .ref (ad 2 k2 0)), (2, .int x1), (3, .int x2), (4, .int x3), (5, .int f5), (6, .int f6), (7, .int a), (8, .int (nI j))] [] pr ad s) : ∀ (n : Nat) (a : Int32) (j : Nat) (s : mm_g) (hj : j ≤ f6.toInt.toNat + 1) (hm : f6.toInt.toNat + 1 - j < n), V l G RX3 cX3_grownBy 9 (some .int) (rmk 6 170) (qM pr ad (F_X3_grownBy_49 k2 x1 x2 x3 f5 f6 K n a j s)) 0 0 0 0 49 [(0, .ref (ad 3 0 0)), (1, .ref (ad 2 k2 0)), (2, .int x1), (3, .int x2), (4, .int x3), (5, .int f5), (6, .int f6), (7, .int a), (8, .int (nI j))] [] pr ad s := by
  intro n
  induction n with
  | zero => intro a j s hj hm; exact absurd hm (Nat.not_lt_zero _)
  | succ n ih =>
      intro a j s hj hm
      refine V_iload dX3_grownBy_49 8 rfl ?_
      refine V_iload dX3_grownBy_51 6 rfl ?_
      refine V_ic_gt (tgt := 133) dX3_grownBy_53 (by decide) (fun c_53 => ?_) (fun c_53 => ?_)
      · refine V_rp (R2 := K a j s) (by simp only [F_X3_grownBy_49, if_pos c_53]) ?_
        refine V_lp [0, 1, 2, 3, 4, 5, 6, 7, 8] rfl ?_
        exact hK a j s (by assumption)
      · refine V_aload_n dX3_grownBy_56 0 rfl ?_
        refine V_get (i := 0) inlX3 rfl (W_3 hw) rfl (by decide) q_78 rfl dX3_grownBy_57 ?_
        refine V_aload_n dX3_grownBy_60 1 rfl ?_
        refine V_cV (k_X2_become l G hw s (W_21 hw) hk2  ) hy_X2_become hi_X2_become hs_X2_become q_582 rfl rfl (W_21 hw) rfl rfl rfl rfl rfl ⟨by decide, by decide⟩ (Nat.le_of_ble_eq_true rfl) ⟨by decide, by decide⟩ dX3_grownBy_61 (V_kN ?_)
        refine V_iload_n dX3_grownBy_64 3 rfl ?_
        refine V_if_ne (tgt := 81) dX3_grownBy_65 (by decide) (fun c_65 => ?_) (fun c_65 => ?_)
        · refine V_iload_n dX3_grownBy_81 3 rfl ?_
          refine V_iconst (v := 1) dX3_grownBy_82 (by decide) ?_
          refine V_ic_ne (tgt := 99) dX3_grownBy_83 (by decide) (fun c_83 => ?_) (fun c_83 => ?_)
          · refine V_aload_n dX3_grownBy_99 0 rfl ?_
            refine V_get (i := 0) inlX3 rfl (W_3 hw) rfl (by decide) q_78 rfl dX3_grownBy_100 ?_
            refine V_iload dX3_grownBy_103 8 rfl ?_
            refine V_cV (k_X2_lotTo l G hw (F_X2_become s 1 k2) (W_21 hw) (nI j) ) hy_X2_lotTo hi_X2_lotTo hs_X2_lotTo q_811 rfl rfl (W_21 hw) rfl rfl rfl rfl rfl ⟨by decide, by decide⟩ (Nat.le_of_ble_eq_true rfl) ⟨by decide, by decide⟩ dX3_grownBy_105 (V_kN ?_)
            refine V_aload_n dX3_grownBy_108 0 rfl ?_
            refine V_iload_n dX3_grownBy_109 2 rfl ?_
            refine V_iload dX3_grownBy_110 4 rfl ?_
            refine V_cV (k_X3_growsAsTold l G hw (F_X2_lotTo (F_X2_become s 1 k2) 1 (nI j))  x1 x3 ) hy_X3_growsAsTold hi_X3_growsAsTold hs_X3_growsAsTold q_815 rfl rfl (W_3 hw) rfl rfl rfl rfl rfl ⟨by decide, by decide⟩ (Nat.le_of_ble_eq_true rfl) ⟨by decide, by decide⟩ dX3_grownBy_112 (V_kM ?_)
            refine V_if_eq (tgt := 127) dX3_grownBy_115 (by decide) (fun c_115 => ?_) (fun c_115 => ?_)
            · refine V_iinc (v := (nI (j + 1))) (L2 := [(8, .int (nI (j + 1))), (0, .ref (ad 3 0 0)), (1, .ref (ad 2 k2 0)), (2, .int x1), (3, .int x2), (4, .int x3), (5, .int f5), (6, .int f6), (7, .int a)]) dX3_grownBy_127 8 rfl (nI_1 _) (by decide) rfl ?_
              refine V_goto (tgt := 49) dX3_grownBy_130 (by decide) ?_
              refine V_rp (R2 := F_X3_grownBy_49 k2 x1 x2 x3 f5 f6 K n a (j + 1) ((F_X3_growsAsTold (F_X2_lotTo (F_X2_become s 1 k2) 1 (nI j)) x1 x3).2)) (by simp only [F_X3_grownBy_49, if_neg c_53, if_neg c_65, if_neg c_83, if_pos c_115]) ?_
              refine V_lp [1, 2, 3, 4, 5, 6, 7, 8, 0] rfl ?_
              exact ih a (j + 1) ((F_X3_growsAsTold (F_X2_lotTo (F_X2_become s 1 k2) 1 (nI j)) x1 x3).2) (by exact (lp_ul (by omega) hj c_53 h6.1 hm).1) (by exact (lp_ul (by omega) hj c_53 h6.1 hm).2) 
            · refine V_iload dX3_grownBy_118 7 rfl ?_
              refine V_iconst (v := 1) dX3_grownBy_120 (by decide) ?_
              refine V_iload dX3_grownBy_121 8 rfl ?_
              refine V_ishl dX3_grownBy_123 ?_
              refine V_ior dX3_grownBy_124 ?_
              refine V_istore (L2 := [(7, .int (a ||| ((1 : Int32) <<< ((nI j) &&& 31)))), (0, .ref (ad 3 0 0)), (1, .ref (ad 2 k2 0)), (2, .int x1), (3, .int x2), (4, .int x3), (5, .int f5), (6, .int f6), (8, .int (nI j))]) dX3_grownBy_125 (by decide) rfl ?_
              refine V_iinc (v := (nI (j + 1))) (L2 := [(8, .int (nI (j + 1))), (7, .int (a ||| ((1 : Int32) <<< ((nI j) &&& 31)))), (0, .ref (ad 3 0 0)), (1, .ref (ad 2 k2 0)), (2, .int x1), (3, .int x2), (4, .int x3), (5, .int f5), (6, .int f6)]) dX3_grownBy_127 8 rfl (nI_1 _) (by decide) rfl ?_
              refine V_goto (tgt := 49) dX3_grownBy_130 (by decide) ?_
              refine V_rp (R2 := F_X3_grownBy_49 k2 x1 x2 x3 f5 f6 K n (a ||| ((1 : Int32) <<< ((nI j) &&& 31))) (j + 1) ((F_X3_growsAsTold (F_X2_lotTo (F_X2_become s 1 k2) 1 (nI j)) x1 x3).2)) (by simp only [F_X3_grownBy_49, if_neg c_53, if_neg c_65, if_neg c_83, if_neg c_115]) ?_
              refine V_lp [2, 3, 4, 5, 6, 7, 8, 1, 0] rfl ?_
              exact ih (a ||| ((1 : Int32) <<< ((nI j) &&& 31))) (j + 1) ((F_X3_growsAsTold (F_X2_lotTo (F_X2_become s 1 k2) 1 (nI j)) x1 x3).2) (by exact (lp_ul (by omega) hj c_53 h6.1 hm).1) (by exact (lp_ul (by omega) hj c_53 h6.1 hm).2) 
          · refine V_aload_n dX3_grownBy_86 0 rfl ?_
            refine V_get (i := 0) inlX3 rfl (W_3 hw) rfl (by decide) q_78 rfl dX3_grownBy_87 ?_
            refine V_iload_n dX3_grownBy_90 2 rfl ?_
            refine V_iload dX3_grownBy_91 8 rfl ?_
            refine V_cV (k_X2_warmTo l G hw (F_X2_become s 1 k2) (W_21 hw) x1 (nI j) ) hy_X2_warmTo hi_X2_warmTo hs_X2_warmTo q_810 rfl rfl (W_21 hw) rfl rfl rfl rfl rfl ⟨by decide, by decide⟩ (Nat.le_of_ble_eq_true rfl) ⟨by decide, by decide⟩ dX3_grownBy_93 (V_kN ?_)
            refine V_goto (tgt := 108) dX3_grownBy_96 (by decide) ?_
            refine V_aload_n dX3_grownBy_108 0 rfl ?_
            refine V_iload_n dX3_grownBy_109 2 rfl ?_
            refine V_iload dX3_grownBy_110 4 rfl ?_
            refine V_cV (k_X3_growsAsTold l G hw (F_X2_warmTo (F_X2_become s 1 k2) 1 x1 (nI j))  x1 x3 ) hy_X3_growsAsTold hi_X3_growsAsTold hs_X3_growsAsTold q_815 rfl rfl (W_3 hw) rfl rfl rfl rfl rfl ⟨by decide, by decide⟩ (Nat.le_of_ble_eq_true rfl) ⟨by decide, by decide⟩ dX3_grownBy_112 (V_kM ?_)
            refine V_if_eq (tgt := 127) dX3_grownBy_115 (by decide) (fun c_115 => ?_) (fun c_115 => ?_)
            · refine V_iinc (v := (nI (j + 1))) (L2 := [(8, .int (nI (j + 1))), (0, .ref (ad 3 0 0)), (1, .ref (ad 2 k2 0)), (2, .int x1), (3, .int x2), (4, .int x3), (5, .int f5), (6, .int f6), (7, .int a)]) dX3_grownBy_127 8 rfl (nI_1 _) (by decide) rfl ?_
              refine V_goto (tgt := 49) dX3_grownBy_130 (by decide) ?_
              refine V_rp (R2 := F_X3_grownBy_49 k2 x1 x2 x3 f5 f6 K n a (j + 1) ((F_X3_growsAsTold (F_X2_warmTo (F_X2_become s 1 k2) 1 x1 (nI j)) x1 x3).2)) (by simp only [F_X3_grownBy_49, if_neg c_53, if_neg c_65, if_pos c_83, if_pos c_115]) ?_
              refine V_lp [1, 2, 3, 4, 5, 6, 7, 8, 0] rfl ?_
              exact ih a (j + 1) ((F_X3_growsAsTold (F_X2_warmTo (F_X2_become s 1 k2) 1 x1 (nI j)) x1 x3).2) (by exact (lp_ul (by omega) hj c_53 h6.1 hm).1) (by exact (lp_ul (by omega) hj c_53 h6.1 hm).2) 
            · refine V_iload dX3_grownBy_118 7 rfl ?_
              refine V_iconst (v := 1) dX3_grownBy_120 (by decide) ?_
              refine V_iload dX3_grownBy_121 8 rfl ?_
              refine V_ishl dX3_grownBy_123 ?_
              refine V_ior dX3_grownBy_124 ?_
              refine V_istore (L2 := [(7, .int (a ||| ((1 : Int32) <<< ((nI j) &&& 31)))), (0, .ref (ad 3 0 0)), (1, .ref (ad 2 k2 0)), (2, .int x1), (3, .int x2), (4, .int x3), (5, .int f5), (6, .int f6), (8, .int (nI j))]) dX3_grownBy_125 (by decide) rfl ?_
              refine V_iinc (v := (nI (j + 1))) (L2 := [(8, .int (nI (j + 1))), (7, .int (a ||| ((1 : Int32) <<< ((nI j) &&& 31)))), (0, .ref (ad 3 0 0)), (1, .ref (ad 2 k2 0)), (2, .int x1), (3, .int x2), (4, .int x3), (5, .int f5), (6, .int f6)]) dX3_grownBy_127 8 rfl (nI_1 _) (by decide) rfl ?_
              refine V_goto (tgt := 49) dX3_grownBy_130 (by decide) ?_
              refine V_rp (R2 := F_X3_grownBy_49 k2 x1 x2 x3 f5 f6 K n (a ||| ((1 : Int32) <<< ((nI j) &&& 31))) (j + 1) ((F_X3_growsAsTold (F_X2_warmTo (F_X2_become s 1 k2) 1 x1 (nI j)) x1 x3).2)) (by simp only [F_X3_grownBy_49, if_neg c_53, if_neg c_65, if_pos c_83, if_neg c_115]) ?_
              refine V_lp [2, 3, 4, 5, 6, 7, 8, 1, 0] rfl ?_
              exact ih (a ||| ((1 : Int32) <<< ((nI j) &&& 31))) (j + 1) ((F_X3_growsAsTold (F_X2_warmTo (F_X2_become s 1 k2) 1 x1 (nI j)) x1 x3).2) (by exact (lp_ul (by omega) hj c_53 h6.1 hm).1) (by exact (lp_ul (by omega) hj c_53 h6.1 hm).2) 
        · refine V_aload_n dX3_grownBy_68 0 rfl ?_
          refine V_get (i := 0) inlX3 rfl (W_3 hw) rfl (by decide) q_78 rfl dX3_grownBy_69 ?_
          refine V_iload_n dX3_grownBy_72 2 rfl ?_
          refine V_iload dX3_grownBy_73 8 rfl ?_
          refine V_cV (k_X2_kindTo l G hw (F_X2_become s 1 k2) (W_21 hw) x1 (nI j) ) hy_X2_kindTo hi_X2_kindTo hs_X2_kindTo q_806 rfl rfl (W_21 hw) rfl rfl rfl rfl rfl ⟨by decide, by decide⟩ (Nat.le_of_ble_eq_true rfl) ⟨by decide, by decide⟩ dX3_grownBy_75 (V_kN ?_)
          refine V_goto (tgt := 108) dX3_grownBy_78 (by decide) ?_
          refine V_aload_n dX3_grownBy_108 0 rfl ?_
          refine V_iload_n dX3_grownBy_109 2 rfl ?_
          refine V_iload dX3_grownBy_110 4 rfl ?_
          refine V_cV (k_X3_growsAsTold l G hw (F_X2_kindTo (F_X2_become s 1 k2) 1 x1 (nI j))  x1 x3 ) hy_X3_growsAsTold hi_X3_growsAsTold hs_X3_growsAsTold q_815 rfl rfl (W_3 hw) rfl rfl rfl rfl rfl ⟨by decide, by decide⟩ (Nat.le_of_ble_eq_true rfl) ⟨by decide, by decide⟩ dX3_grownBy_112 (V_kM ?_)
          refine V_if_eq (tgt := 127) dX3_grownBy_115 (by decide) (fun c_115 => ?_) (fun c_115 => ?_)
          · refine V_iinc (v := (nI (j + 1))) (L2 := [(8, .int (nI (j + 1))), (0, .ref (ad 3 0 0)), (1, .ref (ad 2 k2 0)), (2, .int x1), (3, .int x2), (4, .int x3), (5, .int f5), (6, .int f6), (7, .int a)]) dX3_grownBy_127 8 rfl (nI_1 _) (by decide) rfl ?_
            refine V_goto (tgt := 49) dX3_grownBy_130 (by decide) ?_
            refine V_rp (R2 := F_X3_grownBy_49 k2 x1 x2 x3 f5 f6 K n a (j + 1) ((F_X3_growsAsTold (F_X2_kindTo (F_X2_become s 1 k2) 1 x1 (nI j)) x1 x3).2)) (by simp only [F_X3_grownBy_49, if_neg c_53, if_pos c_65, if_pos c_115]) ?_
            refine V_lp [1, 2, 3, 4, 5, 6, 7, 8, 0] rfl ?_
            exact ih a (j + 1) ((F_X3_growsAsTold (F_X2_kindTo (F_X2_become s 1 k2) 1 x1 (nI j)) x1 x3).2) (by exact (lp_ul (by omega) hj c_53 h6.1 hm).1) (by exact (lp_ul (by omega) hj c_53 h6.1 hm).2) 
          · refine V_iload dX3_grownBy_118 7 rfl ?_
            refine V_iconst (v := 1) dX3_grownBy_120 (by decide) ?_
            refine V_iload dX3_grownBy_121 8 rfl ?_
            refine V_ishl dX3_grownBy_123 ?_
            refine V_ior dX3_grownBy_124 ?_
            refine V_istore (L2 := [(7, .int (a ||| ((1 : Int32) <<< ((nI j) &&& 31)))), (0, .ref (ad 3 0 0)), (1, .ref (ad 2 k2 0)), (2, .int x1), (3, .int x2), (4, .int x3), (5, .int f5), (6, .int f6), (8, .int (nI j))]) dX3_grownBy_125 (by decide) rfl ?_
            refine V_iinc (v := (nI (j + 1))) (L2 := [(8, .int (nI (j + 1))), (7, .int (a ||| ((1 : Int32) <<< ((nI j) &&& 31)))), (0, .ref (ad 3 0 0)), (1, .ref (ad 2 k2 0)), (2, .int x1), (3, .int x2), (4, .int x3), (5, .int f5), (6, .int f6)]) dX3_grownBy_127 8 rfl (nI_1 _) (by decide) rfl ?_
            refine V_goto (tgt := 49) dX3_grownBy_130 (by decide) ?_
            refine V_rp (R2 := F_X3_grownBy_49 k2 x1 x2 x3 f5 f6 K n (a ||| ((1 : Int32) <<< ((nI j) &&& 31))) (j + 1) ((F_X3_growsAsTold (F_X2_kindTo (F_X2_become s 1 k2) 1 x1 (nI j)) x1 x3).2)) (by simp only [F_X3_grownBy_49, if_neg c_53, if_pos c_65, if_neg c_115]) ?_
            refine V_lp [2, 3, 4, 5, 6, 7, 8, 1, 0] rfl ?_
            exact ih (a ||| ((1 : Int32) <<< ((nI j) &&& 31))) (j + 1) ((F_X3_growsAsTold (F_X2_kindTo (F_X2_become s 1 k2) 1 x1 (nI j)) x1 x3).2) (by exact (lp_ul (by omega) hj c_53 h6.1 hm).1) (by exact (lp_ul (by omega) hj c_53 h6.1 hm).2) 
set_option maxRecDepth 100000 in
set_option maxHeartbeats 4000000 in
theorem k_X3_grownBy (l : Launch) (G : mm_G) {pr : Nat → Nat → Prop} {ad : Nat → Nat → Nat → Nat} (hw : mm_W pr) (g : mm_g) {k2 : Nat} (hk2 : pr 2 k2) (x1 : Int32) (x2 : Int32) (x3 : Int32)  : Mt l G yX3_grownBy cX3_grownBy 9 (some .int) (rmk 6 170) [.ref (ad 3 0 0), .ref (ad 2 k2 0), .int x1, .int x2, .int x3] pr ad g (qM pr ad (F_X3_grownBy g k2 x1 x2 x3)) 0 0 := by
  refine Mt_of (by decide) (Nat.le_of_ble_eq_true rfl) ?_
  show V l G RX3 cX3_grownBy 9 (some .int) _ _ 0 0 0 0 0 [(0, .ref (ad 3 0 0)), (1, .ref (ad 2 k2 0)), (2, .int x1), (3, .int x2), (4, .int x3)] [] pr ad g
  refine V_iload_n dX3_grownBy_0 3 rfl ?_
  refine V_if_ne (tgt := 8) dX3_grownBy_1 (by decide) (fun c_1 => ?_) (fun c_1 => ?_)
  · refine V_iload_n dX3_grownBy_8 3 rfl ?_
    refine V_iconst (v := 1) dX3_grownBy_9 (by decide) ?_
    refine V_ic_ne (tgt := 17) dX3_grownBy_10 (by decide) (fun c_10 => ?_) (fun c_10 => ?_)
    · refine V_iconst (v := 1) dX3_grownBy_17 (by decide) ?_
      refine V_istore (L2 := [(5, .int 1), (0, .ref (ad 3 0 0)), (1, .ref (ad 2 k2 0)), (2, .int x1), (3, .int x2), (4, .int x3)]) dX3_grownBy_18 (by decide) rfl ?_
      refine V_iload_n dX3_grownBy_20 4 rfl ?_
      refine V_if_ne (tgt := 28) dX3_grownBy_21 (by decide) (fun c_21 => ?_) (fun c_21 => ?_)
      · refine V_iload_n dX3_grownBy_28 4 rfl ?_
        refine V_iconst (v := 1) dX3_grownBy_29 (by decide) ?_
        refine V_ic_ne (tgt := 38) dX3_grownBy_30 (by decide) (fun c_30 => ?_) (fun c_30 => ?_)
        · refine V_bipush (v := 9) dX3_grownBy_38 (by decide) ?_
          refine V_istore (L2 := [(6, .int 9), (5, .int 1), (0, .ref (ad 3 0 0)), (1, .ref (ad 2 k2 0)), (2, .int x1), (3, .int x2), (4, .int x3)]) dX3_grownBy_40 (by decide) rfl ?_
          refine V_iconst (v := 0) dX3_grownBy_42 (by decide) ?_
          refine V_istore (L2 := [(7, .int 0), (6, .int 9), (5, .int 1), (0, .ref (ad 3 0 0)), (1, .ref (ad 2 k2 0)), (2, .int x1), (3, .int x2), (4, .int x3)]) dX3_grownBy_43 (by decide) rfl ?_
          refine V_iload dX3_grownBy_45 2 rfl ?_
          refine V_istore (L2 := [(8, .int 1), (7, .int 0), (6, .int 9), (5, .int 1), (0, .ref (ad 3 0 0)), (1, .ref (ad 2 k2 0)), (2, .int x1), (3, .int x2), (4, .int x3)]) dX3_grownBy_47 (by decide) rfl ?_
          refine V_rp (R2 := F_X3_grownBy_49 k2 x1 x2 x3 1 9 (fun (a49 : Int32) (j49 : Nat) (s49 : mm_g) => (a49, s49)) 12 0 1 g) (by simp only [F_X3_grownBy, if_neg c_1, if_neg c_10]) ?_
          refine V_lp [4, 5, 6, 7, 8, 3, 2, 1, 0] rfl ?_
          refine w_X3_grownBy_49 l G hw k2 x1 x2 x3 1 9 hk2 (by decide) _ (fun a49 j49 s49 hj49 => ?_) 12 0 1 g (by decide) (by decide)
          refine V_iload dX3_grownBy_133 7 rfl ?_
          exact V_iret dX3_grownBy_135 rfl (lfM (by rfl))
        · exact absurd c_30 c_10
      · exact absurd c_21 c_1
    · refine V_iconst (v := 0) dX3_grownBy_13 (by decide) ?_
      refine V_goto (tgt := 18) dX3_grownBy_14 (by decide) ?_
      refine V_istore (L2 := [(5, .int 0), (0, .ref (ad 3 0 0)), (1, .ref (ad 2 k2 0)), (2, .int x1), (3, .int x2), (4, .int x3)]) dX3_grownBy_18 (by decide) rfl ?_
      refine V_iload_n dX3_grownBy_20 4 rfl ?_
      refine V_if_ne (tgt := 28) dX3_grownBy_21 (by decide) (fun c_21 => ?_) (fun c_21 => ?_)
      · refine V_iload_n dX3_grownBy_28 4 rfl ?_
        refine V_iconst (v := 1) dX3_grownBy_29 (by decide) ?_
        refine V_ic_ne (tgt := 38) dX3_grownBy_30 (by decide) (fun c_30 => ?_) (fun c_30 => ?_)
        · exact absurd c_10 c_30
        · refine V_bipush (v := 9) dX3_grownBy_33 (by decide) ?_
          refine V_goto (tgt := 40) dX3_grownBy_35 (by decide) ?_
          refine V_istore (L2 := [(6, .int 9), (5, .int 0), (0, .ref (ad 3 0 0)), (1, .ref (ad 2 k2 0)), (2, .int x1), (3, .int x2), (4, .int x3)]) dX3_grownBy_40 (by decide) rfl ?_
          refine V_iconst (v := 0) dX3_grownBy_42 (by decide) ?_
          refine V_istore (L2 := [(7, .int 0), (6, .int 9), (5, .int 0), (0, .ref (ad 3 0 0)), (1, .ref (ad 2 k2 0)), (2, .int x1), (3, .int x2), (4, .int x3)]) dX3_grownBy_43 (by decide) rfl ?_
          refine V_iload dX3_grownBy_45 2 rfl ?_
          refine V_istore (L2 := [(8, .int 0), (7, .int 0), (6, .int 9), (5, .int 0), (0, .ref (ad 3 0 0)), (1, .ref (ad 2 k2 0)), (2, .int x1), (3, .int x2), (4, .int x3)]) dX3_grownBy_47 (by decide) rfl ?_
          refine V_rp (R2 := F_X3_grownBy_49 k2 x1 x2 x3 0 9 (fun (a49 : Int32) (j49 : Nat) (s49 : mm_g) => (a49, s49)) 12 0 0 g) (by simp only [F_X3_grownBy, if_neg c_1, if_pos c_10]) ?_
          refine V_lp [4, 5, 6, 7, 8, 3, 2, 1, 0] rfl ?_
          refine w_X3_grownBy_49 l G hw k2 x1 x2 x3 0 9 hk2 (by decide) _ (fun a49 j49 s49 hj49 => ?_) 12 0 0 g (by decide) (by decide)
          refine V_iload dX3_grownBy_133 7 rfl ?_
          exact V_iret dX3_grownBy_135 rfl (lfM (by rfl))
      · exact absurd c_21 c_1
  · refine V_iconst (v := 1) dX3_grownBy_4 (by decide) ?_
    refine V_goto (tgt := 18) dX3_grownBy_5 (by decide) ?_
    refine V_istore (L2 := [(5, .int 1), (0, .ref (ad 3 0 0)), (1, .ref (ad 2 k2 0)), (2, .int x1), (3, .int x2), (4, .int x3)]) dX3_grownBy_18 (by decide) rfl ?_
    refine V_iload_n dX3_grownBy_20 4 rfl ?_
    refine V_if_ne (tgt := 28) dX3_grownBy_21 (by decide) (fun c_21 => ?_) (fun c_21 => ?_)
    · exact absurd c_1 c_21
    · refine V_iconst (v := 5) dX3_grownBy_24 (by decide) ?_
      refine V_goto (tgt := 40) dX3_grownBy_25 (by decide) ?_
      refine V_istore (L2 := [(6, .int 5), (5, .int 1), (0, .ref (ad 3 0 0)), (1, .ref (ad 2 k2 0)), (2, .int x1), (3, .int x2), (4, .int x3)]) dX3_grownBy_40 (by decide) rfl ?_
      refine V_iconst (v := 0) dX3_grownBy_42 (by decide) ?_
      refine V_istore (L2 := [(7, .int 0), (6, .int 5), (5, .int 1), (0, .ref (ad 3 0 0)), (1, .ref (ad 2 k2 0)), (2, .int x1), (3, .int x2), (4, .int x3)]) dX3_grownBy_43 (by decide) rfl ?_
      refine V_iload dX3_grownBy_45 2 rfl ?_
      refine V_istore (L2 := [(8, .int 1), (7, .int 0), (6, .int 5), (5, .int 1), (0, .ref (ad 3 0 0)), (1, .ref (ad 2 k2 0)), (2, .int x1), (3, .int x2), (4, .int x3)]) dX3_grownBy_47 (by decide) rfl ?_
      refine V_rp (R2 := F_X3_grownBy_49 k2 x1 x2 x3 1 5 (fun (a49 : Int32) (j49 : Nat) (s49 : mm_g) => (a49, s49)) 12 0 1 g) (by simp only [F_X3_grownBy, if_pos c_1]) ?_
      refine V_lp [4, 5, 6, 7, 8, 3, 2, 1, 0] rfl ?_
      refine w_X3_grownBy_49 l G hw k2 x1 x2 x3 1 5 hk2 (by decide) _ (fun a49 j49 s49 hj49 => ?_) 12 0 1 g (by decide) (by decide)
      refine V_iload dX3_grownBy_133 7 rfl ?_
      exact V_iret dX3_grownBy_135 rfl (lfM (by rfl))
def F_X3_liesAsTold_2 (g2 : mm_g) (K : Nat → Int32) : Nat → Nat → Int32
  | 0, j => K j
  | n + 1, j => (if 9 ≤ (nI j) then K j else (if (F_X2_has g2 1 (nI j)) = 0 then F_X3_liesAsTold_2 g2  K n (j + 1) else (if (F_X2_lying g2 1 (nI j)) = (g2 3 1 (nI j).toNatClampNeg) then F_X3_liesAsTold_2 g2  K n (j + 1) else 0)))
def F_X3_liesAsTold (g : mm_g) : Int32 := (F_X3_liesAsTold_2 g  (fun (j2 : Nat) => 1) ((9 : Int32).toInt.toNat + 1) 0)
set_option maxRecDepth 100000 in
set_option maxHeartbeats 4000000 in
theorem w_X3_liesAsTold_2 (l : Launch) (G : mm_G) {pr : Nat → Nat → Prop} {ad : Nat → Nat → Nat → Nat} (hw : mm_W pr) (g2 : mm_g)  (K : Nat → Int32) (hK : ∀ (j : Nat) (hj : j ≤ (9 : Int32).toInt.toNat), V l G RX3 cX3_liesAsTold 2 (some .boolean) (rmk 3 104) (qI pr ad g2 (K j)) 0 0 0 0 44 [(0, .ref (ad 3 0 0)), (1, .int (nI j))] [] pr ad g2) : ∀ (n : Nat) (j : Nat) (hj : j ≤ (9 : Int32).toInt.toNat) (hm : (9 : Int32).toInt.toNat - j < n), V l G RX3 cX3_liesAsTold 2 (some .boolean) (rmk 3 104) (qI pr ad g2 (F_X3_liesAsTold_2 g2  K n j)) 0 0 0 0 2 [(0, .ref (ad 3 0 0)), (1, .int (nI j))] [] pr ad g2 := by
  intro n
  induction n with
  | zero => intro j hj hm; exact absurd hm (Nat.not_lt_zero _)
  | succ n ih =>
      intro j hj hm
      refine V_iload_n dX3_liesAsTold_2 1 rfl ?_
      refine V_bipush (v := 9) dX3_liesAsTold_3 (by decide) ?_
      refine V_ic_ge (tgt := 44) dX3_liesAsTold_5 (by decide) (fun c_5 => ?_) (fun c_5 => ?_)
      · refine V_rp (R2 := K j) (by simp only [F_X3_liesAsTold_2, if_pos c_5]) ?_
        refine V_lp [0, 1] rfl ?_
        exact hK j (by assumption)
      · refine V_aload_n dX3_liesAsTold_8 0 rfl ?_
        refine V_get (i := 0) inlX3 rfl (W_3 hw) rfl (by decide) q_78 rfl dX3_liesAsTold_9 ?_
        refine V_iload_n dX3_liesAsTold_12 1 rfl ?_
        refine V_cV (k_X2_has l G hw g2 (W_21 hw) (nI j) ) hy_X2_has hi_X2_has hs_X2_has q_720 rfl rfl (W_21 hw) rfl rfl rfl rfl rfl ⟨by decide, by decide⟩ (Nat.le_of_ble_eq_true rfl) ⟨by decide, by decide⟩ dX3_liesAsTold_13 (V_kI ?_)
        refine V_if_eq (tgt := 38) dX3_liesAsTold_16 (by decide) (fun c_16 => ?_) (fun c_16 => ?_)
        · refine V_iinc (v := (nI (j + 1))) (L2 := [(1, .int (nI (j + 1))), (0, .ref (ad 3 0 0))]) dX3_liesAsTold_38 1 rfl (nI_1 _) (by decide) rfl ?_
          refine V_goto (tgt := 2) dX3_liesAsTold_41 (by decide) ?_
          refine V_rp (R2 := F_X3_liesAsTold_2 g2  K n (j + 1)) (by simp only [F_X3_liesAsTold_2, if_neg c_5, if_pos c_16]) ?_
          refine V_lp [1, 0] rfl ?_
          exact ih (j + 1) (by exact (lp_up hj c_5 hm).1) (by exact (lp_up hj c_5 hm).2) 
        · refine V_aload_n dX3_liesAsTold_19 0 rfl ?_
          refine V_get (i := 0) inlX3 rfl (W_3 hw) rfl (by decide) q_78 rfl dX3_liesAsTold_20 ?_
          refine V_iload_n dX3_liesAsTold_23 1 rfl ?_
          refine V_cV (k_X2_lying l G hw g2 (W_21 hw) (nI j) ) hy_X2_lying hi_X2_lying hs_X2_lying q_632 rfl rfl (W_21 hw) rfl rfl rfl rfl rfl ⟨by decide, by decide⟩ (Nat.le_of_ble_eq_true rfl) ⟨by decide, by decide⟩ dX3_liesAsTold_24 (V_kI ?_)
          refine V_aload_n dX3_liesAsTold_27 0 rfl ?_
          refine V_get (i := 1) inlX3 rfl (W_3 hw) rfl (by decide) q_79 rfl dX3_liesAsTold_28 ?_
          refine V_iload_n dX3_liesAsTold_31 1 rfl ?_
          refine L_3_1 (W_3 hw) (by exact ix_x hj c_5 (by decide)) dX3_liesAsTold_32 ?_
          refine V_ic_eq (tgt := 38) dX3_liesAsTold_33 (by decide) (fun c_33 => ?_) (fun c_33 => ?_)
          · refine V_iinc (v := (nI (j + 1))) (L2 := [(1, .int (nI (j + 1))), (0, .ref (ad 3 0 0))]) dX3_liesAsTold_38 1 rfl (nI_1 _) (by decide) rfl ?_
            refine V_goto (tgt := 2) dX3_liesAsTold_41 (by decide) ?_
            refine V_rp (R2 := F_X3_liesAsTold_2 g2  K n (j + 1)) (by simp only [F_X3_liesAsTold_2, if_neg c_5, if_neg c_16, if_pos c_33]) ?_
            refine V_lp [1, 0] rfl ?_
            exact ih (j + 1) (by exact (lp_up hj c_5 hm).1) (by exact (lp_up hj c_5 hm).2) 
          · refine V_iconst (v := 0) dX3_liesAsTold_36 (by decide) ?_
            exact V_zret dX3_liesAsTold_37 rfl rfl (lfI (by simp only [F_X3_liesAsTold_2, if_neg c_5, if_neg c_16, if_neg c_33]))
set_option maxRecDepth 100000 in
set_option maxHeartbeats 4000000 in
theorem k_X3_liesAsTold (l : Launch) (G : mm_G) {pr : Nat → Nat → Prop} {ad : Nat → Nat → Nat → Nat} (hw : mm_W pr) (g : mm_g)  : Mt l G yX3_liesAsTold cX3_liesAsTold 2 (some .boolean) (rmk 3 104) [.ref (ad 3 0 0)] pr ad g (qI pr ad g (F_X3_liesAsTold g)) 0 0 := by
  refine Mt_of (by decide) (Nat.le_of_ble_eq_true rfl) ?_
  show V l G RX3 cX3_liesAsTold 2 (some .boolean) _ _ 0 0 0 0 0 [(0, .ref (ad 3 0 0))] [] pr ad g
  refine V_iconst (v := 0) dX3_liesAsTold_0 (by decide) ?_
  refine V_istore_n (L2 := [(1, .int 0), (0, .ref (ad 3 0 0))]) dX3_liesAsTold_1 (by decide) rfl ?_
  refine V_rp (R2 := F_X3_liesAsTold_2 g  (fun (j2 : Nat) => 1) ((9 : Int32).toInt.toNat + 1) 0) (by simp only [F_X3_liesAsTold]) ?_
  refine V_lp [1, 0] rfl ?_
  refine w_X3_liesAsTold_2 l G hw g    _ (fun j2 hj2 => ?_) ((9 : Int32).toInt.toNat + 1) 0 (by first | exact Nat.zero_le _ | decide) (by omega)
  refine V_iconst (v := 1) dX3_liesAsTold_44 (by decide) ?_
  exact V_zret dX3_liesAsTold_45 rfl rfl (lfI (by rfl))
def F_X3_lainBy_13 (k2 : Nat) (x1 : Int32) (K : Int32 → Nat → mm_g → Int32 × mm_g) : Nat → Int32 → Nat → mm_g → Int32 × mm_g
  | 0, a, j, s => K a j s
  | n + 1, a, j, s => (if 9 ≤ (nI j) then K a j s else (if (F_X3_liesAsTold (F_X2_standIn s 1 x1 (nI j))) = 0 then F_X3_lainBy_13 k2 x1 K n a (j + 1) (F_X2_standIn s 1 x1 (nI j)) else F_X3_lainBy_13 k2 x1 K n (a ||| ((1 : Int32) <<< ((nI j) &&& 31))) (j + 1) (F_X2_standIn s 1 x1 (nI j))))
def F_X3_lainBy (g : mm_g) (k2 : Nat) (x1 : Int32) : Int32 × mm_g := (F_X3_lainBy_13 k2 x1 (fun (a13 : Int32) (j13 : Nat) (s13 : mm_g) => (a13, s13)) ((9 : Int32).toInt.toNat + 1) 0 0 (F_X2_become g 1 k2))
set_option maxRecDepth 100000 in
set_option maxHeartbeats 4000000 in
theorem w_X3_lainBy_13 (l : Launch) (G : mm_G) {pr : Nat → Nat → Prop} {ad : Nat → Nat → Nat → Nat} (hw : mm_W pr) (k2 : Nat) (x1 : Int32)  (hk2 : pr 2 k2) (K : Int32 → Nat → mm_g → Int32 × mm_g) (hK : ∀ (a : Int32) (j : Nat) (s : mm_g) (hj : j ≤ (9 : Int32).toInt.toNat), V l G RX3 cX3_lainBy 5 (some .int) (rmk 4 125) (qM pr ad (K a j s)) 0 0 0 0 50 [(0, .ref (ad 3 0 0)), (1, .ref (ad 2 k2 0)), (2, .int x1), (3, .int a), (4, .int (nI j))] [] pr ad s) : ∀ (n : Nat) (a : Int32) (j : Nat) (s : mm_g) (hj : j ≤ (9 : Int32).toInt.toNat) (hm : (9 : Int32).toInt.toNat - j < n), V l G RX3 cX3_lainBy 5 (some .int) (rmk 4 125) (qM pr ad (F_X3_lainBy_13 k2 x1 K n a j s)) 0 0 0 0 13 [(0, .ref (ad 3 0 0)), (1, .ref (ad 2 k2 0)), (2, .int x1), (3, .int a), (4, .int (nI j))] [] pr ad s := by
  intro n
  induction n with
  | zero => intro a j s hj hm; exact absurd hm (Nat.not_lt_zero _)
  | succ n ih =>
      intro a j s hj hm
      refine V_iload dX3_lainBy_13 4 rfl ?_
      refine V_bipush (v := 9) dX3_lainBy_15 (by decide) ?_
      refine V_ic_ge (tgt := 50) dX3_lainBy_17 (by decide) (fun c_17 => ?_) (fun c_17 => ?_)
      · refine V_rp (R2 := K a j s) (by simp only [F_X3_lainBy_13, if_pos c_17]) ?_
        refine V_lp [0, 1, 2, 3, 4] rfl ?_
        exact hK a j s (by assumption)
      · refine V_aload_n dX3_lainBy_20 0 rfl ?_
        refine V_get (i := 0) inlX3 rfl (W_3 hw) rfl (by decide) q_78 rfl dX3_lainBy_21 ?_
        refine V_iload_n dX3_lainBy_24 2 rfl ?_
        refine V_iload dX3_lainBy_25 4 rfl ?_
        refine V_cV (k_X2_standIn l G hw s (W_21 hw) x1 (nI j) ) hy_X2_standIn hi_X2_standIn hs_X2_standIn q_650 rfl rfl (W_21 hw) rfl rfl rfl rfl rfl ⟨by decide, by decide⟩ (Nat.le_of_ble_eq_true rfl) ⟨by decide, by decide⟩ dX3_lainBy_27 (V_kN ?_)
        refine V_aload_n dX3_lainBy_30 0 rfl ?_
        refine V_cV (k_X3_liesAsTold l G hw (F_X2_standIn s 1 x1 (nI j))   ) hy_X3_liesAsTold hi_X3_liesAsTold hs_X3_liesAsTold q_841 rfl rfl (W_3 hw) rfl rfl rfl rfl rfl ⟨by decide, by decide⟩ (Nat.le_of_ble_eq_true rfl) ⟨by decide, by decide⟩ dX3_lainBy_31 (V_kI ?_)
        refine V_if_eq (tgt := 44) dX3_lainBy_34 (by decide) (fun c_34 => ?_) (fun c_34 => ?_)
        · refine V_iinc (v := (nI (j + 1))) (L2 := [(4, .int (nI (j + 1))), (0, .ref (ad 3 0 0)), (1, .ref (ad 2 k2 0)), (2, .int x1), (3, .int a)]) dX3_lainBy_44 4 rfl (nI_1 _) (by decide) rfl ?_
          refine V_goto (tgt := 13) dX3_lainBy_47 (by decide) ?_
          refine V_rp (R2 := F_X3_lainBy_13 k2 x1 K n a (j + 1) (F_X2_standIn s 1 x1 (nI j))) (by simp only [F_X3_lainBy_13, if_neg c_17, if_pos c_34]) ?_
          refine V_lp [1, 2, 3, 4, 0] rfl ?_
          exact ih a (j + 1) (F_X2_standIn s 1 x1 (nI j)) (by exact (lp_up hj c_17 hm).1) (by exact (lp_up hj c_17 hm).2) 
        · refine V_iload_n dX3_lainBy_37 3 rfl ?_
          refine V_iconst (v := 1) dX3_lainBy_38 (by decide) ?_
          refine V_iload dX3_lainBy_39 4 rfl ?_
          refine V_ishl dX3_lainBy_41 ?_
          refine V_ior dX3_lainBy_42 ?_
          refine V_istore_n (L2 := [(3, .int (a ||| ((1 : Int32) <<< ((nI j) &&& 31)))), (0, .ref (ad 3 0 0)), (1, .ref (ad 2 k2 0)), (2, .int x1), (4, .int (nI j))]) dX3_lainBy_43 (by decide) rfl ?_
          refine V_iinc (v := (nI (j + 1))) (L2 := [(4, .int (nI (j + 1))), (3, .int (a ||| ((1 : Int32) <<< ((nI j) &&& 31)))), (0, .ref (ad 3 0 0)), (1, .ref (ad 2 k2 0)), (2, .int x1)]) dX3_lainBy_44 4 rfl (nI_1 _) (by decide) rfl ?_
          refine V_goto (tgt := 13) dX3_lainBy_47 (by decide) ?_
          refine V_rp (R2 := F_X3_lainBy_13 k2 x1 K n (a ||| ((1 : Int32) <<< ((nI j) &&& 31))) (j + 1) (F_X2_standIn s 1 x1 (nI j))) (by simp only [F_X3_lainBy_13, if_neg c_17, if_neg c_34]) ?_
          refine V_lp [2, 3, 4, 1, 0] rfl ?_
          exact ih (a ||| ((1 : Int32) <<< ((nI j) &&& 31))) (j + 1) (F_X2_standIn s 1 x1 (nI j)) (by exact (lp_up hj c_17 hm).1) (by exact (lp_up hj c_17 hm).2) 
set_option maxRecDepth 100000 in
set_option maxHeartbeats 4000000 in
theorem k_X3_lainBy (l : Launch) (G : mm_G) {pr : Nat → Nat → Prop} {ad : Nat → Nat → Nat → Nat} (hw : mm_W pr) (g : mm_g) {k2 : Nat} (hk2 : pr 2 k2) (x1 : Int32)  : Mt l G yX3_lainBy cX3_lainBy 5 (some .int) (rmk 4 125) [.ref (ad 3 0 0), .ref (ad 2 k2 0), .int x1] pr ad g (qM pr ad (F_X3_lainBy g k2 x1)) 0 0 := by
  refine Mt_of (by decide) (Nat.le_of_ble_eq_true rfl) ?_
  show V l G RX3 cX3_lainBy 5 (some .int) _ _ 0 0 0 0 0 [(0, .ref (ad 3 0 0)), (1, .ref (ad 2 k2 0)), (2, .int x1)] [] pr ad g
  refine V_aload_n dX3_lainBy_0 0 rfl ?_
  refine V_get (i := 0) inlX3 rfl (W_3 hw) rfl (by decide) q_78 rfl dX3_lainBy_1 ?_
  refine V_aload_n dX3_lainBy_4 1 rfl ?_
  refine V_cV (k_X2_become l G hw g (W_21 hw) hk2  ) hy_X2_become hi_X2_become hs_X2_become q_582 rfl rfl (W_21 hw) rfl rfl rfl rfl rfl ⟨by decide, by decide⟩ (Nat.le_of_ble_eq_true rfl) ⟨by decide, by decide⟩ dX3_lainBy_5 (V_kN ?_)
  refine V_iconst (v := 0) dX3_lainBy_8 (by decide) ?_
  refine V_istore_n (L2 := [(3, .int 0), (0, .ref (ad 3 0 0)), (1, .ref (ad 2 k2 0)), (2, .int x1)]) dX3_lainBy_9 (by decide) rfl ?_
  refine V_iconst (v := 0) dX3_lainBy_10 (by decide) ?_
  refine V_istore (L2 := [(4, .int 0), (3, .int 0), (0, .ref (ad 3 0 0)), (1, .ref (ad 2 k2 0)), (2, .int x1)]) dX3_lainBy_11 (by decide) rfl ?_
  refine V_rp (R2 := F_X3_lainBy_13 k2 x1 (fun (a13 : Int32) (j13 : Nat) (s13 : mm_g) => (a13, s13)) ((9 : Int32).toInt.toNat + 1) 0 0 (F_X2_become g 1 k2)) (by simp only [F_X3_lainBy]) ?_
  refine V_lp [2, 3, 4, 1, 0] rfl ?_
  refine w_X3_lainBy_13 l G hw k2 x1 hk2  _ (fun a13 j13 s13 hj13 => ?_) ((9 : Int32).toInt.toNat + 1) 0 0 (F_X2_become g 1 k2) (by first | exact Nat.zero_le _ | decide) (by omega)
  refine V_iload_n dX3_lainBy_50 3 rfl ?_
  exact V_iret dX3_lainBy_51 rfl (lfM (by rfl))
def F_X3_allCases_5 (g5 : mm_g) (k2 : Nat) (K : Int64 → Nat → Int64) : Nat → Int64 → Nat → Int64
  | 0, a, j => K a j
  | n + 1, a, j => (if (g5 2 k2 0) ≤ (nI j) then K a j else (if (F_X2_hasVeto g5 k2 (nI j)) = 0 then F_X3_allCases_5 g5 k2 K n (a * 10) (j + 1) else F_X3_allCases_5 g5 k2 K n a (j + 1)))
def F_X3_allCases (g : mm_g) (k2 : Nat) : Int64 := (F_X3_allCases_5 g k2 (fun (a5 : Int64) (j5 : Nat) => a5) ((g 2 k2 0).toInt.toNat + 1) 1 0)
set_option maxRecDepth 100000 in
set_option maxHeartbeats 4000000 in
theorem w_X3_allCases_5 (l : Launch) (G : mm_G) {pr : Nat → Nat → Prop} {ad : Nat → Nat → Nat → Nat} (hw : mm_W pr) (g5 : mm_g) (k2 : Nat)  (hk2 : pr 2 k2) (K : Int64 → Nat → Int64) (hK : ∀ (a : Int64) (j : Nat) (hj : j ≤ (g5 2 k2 0).toInt.toNat), V l G RX3 cX3_allCases 5 (some .long) (rmk 3 102) (qL pr ad g5 (K a j)) 0 0 0 0 35 [(0, .ref (ad 3 0 0)), (1, .ref (ad 2 k2 0)), (2, .long a), (4, .int (nI j))] [] pr ad g5) : ∀ (n : Nat) (a : Int64) (j : Nat) (hj : j ≤ (g5 2 k2 0).toInt.toNat) (hm : (g5 2 k2 0).toInt.toNat - j < n), V l G RX3 cX3_allCases 5 (some .long) (rmk 3 102) (qL pr ad g5 (F_X3_allCases_5 g5 k2 K n a j)) 0 0 0 0 5 [(0, .ref (ad 3 0 0)), (1, .ref (ad 2 k2 0)), (2, .long a), (4, .int (nI j))] [] pr ad g5 := by
  intro n
  induction n with
  | zero => intro a j hj hm; exact absurd hm (Nat.not_lt_zero _)
  | succ n ih =>
      intro a j hj hm
      refine V_iload dX3_allCases_5 3 rfl ?_
      refine V_aload_n dX3_allCases_7 1 rfl ?_
      refine V_getN (i := 0) inlX2 rfl hk2 rfl (by decide) nf_X3_82 rfl dX3_allCases_8 ?_
      refine V_ic_ge (tgt := 35) dX3_allCases_11 (by decide) (fun c_11 => ?_) (fun c_11 => ?_)
      · refine V_rp (R2 := K a j) (by simp only [F_X3_allCases_5, if_pos c_11]) ?_
        refine V_lp [0, 1, 2, 3] rfl ?_
        exact hK a j (by assumption)
      · refine V_aload_n dX3_allCases_14 1 rfl ?_
        refine V_iload dX3_allCases_15 3 rfl ?_
        refine V_cV (k_X2_hasVeto l G hw g5 hk2 (nI j) ) hy_X2_hasVeto hi_X2_hasVeto hs_X2_hasVeto q_721 rfl rfl hk2 rfl rfl rfl rfl rfl ⟨by decide, by decide⟩ (Nat.le_of_ble_eq_true rfl) ⟨by decide, by decide⟩ dX3_allCases_17 (V_kI ?_)
        refine V_if_ne (tgt := 29) dX3_allCases_20 (by decide) (fun c_20 => ?_) (fun c_20 => ?_)
        · refine V_iinc (v := (nI (j + 1))) (L2 := [(4, .int (nI (j + 1))), (0, .ref (ad 3 0 0)), (1, .ref (ad 2 k2 0)), (2, .long a)]) dX3_allCases_29 3 rfl (nI_1 _) (by decide) rfl ?_
          refine V_goto (tgt := 5) dX3_allCases_32 (by decide) ?_
          refine V_rp (R2 := F_X3_allCases_5 g5 k2 K n a (j + 1)) (by simp only [F_X3_allCases_5, if_neg c_11, if_neg c_20]) ?_
          refine V_lp [1, 2, 3, 0] rfl ?_
          exact ih a (j + 1) (by exact (lp_up hj c_11 hm).1) (by exact (lp_up hj c_11 hm).2) 
        · refine V_lload_n dX3_allCases_23 2 rfl ?_
          refine V_ldc2 q_866 dX3_allCases_24 ?_
          refine V_lmul dX3_allCases_27 ?_
          refine V_lstore_n (L2 := [(2, .long (a * 10)), (0, .ref (ad 3 0 0)), (1, .ref (ad 2 k2 0)), (4, .int (nI j))]) dX3_allCases_28 (by decide) rfl ?_
          refine V_iinc (v := (nI (j + 1))) (L2 := [(4, .int (nI (j + 1))), (2, .long (a * 10)), (0, .ref (ad 3 0 0)), (1, .ref (ad 2 k2 0))]) dX3_allCases_29 3 rfl (nI_1 _) (by decide) rfl ?_
          refine V_goto (tgt := 5) dX3_allCases_32 (by decide) ?_
          refine V_rp (R2 := F_X3_allCases_5 g5 k2 K n (a * 10) (j + 1)) (by simp only [F_X3_allCases_5, if_neg c_11, if_pos c_20]) ?_
          refine V_lp [2, 3, 1, 0] rfl ?_
          exact ih (a * 10) (j + 1) (by exact (lp_up hj c_11 hm).1) (by exact (lp_up hj c_11 hm).2) 
set_option maxRecDepth 100000 in
set_option maxHeartbeats 4000000 in
theorem k_X3_allCases (l : Launch) (G : mm_G) {pr : Nat → Nat → Prop} {ad : Nat → Nat → Nat → Nat} (hw : mm_W pr) (g : mm_g) {k2 : Nat} (hk2 : pr 2 k2)  : Mt l G yX3_allCases cX3_allCases 5 (some .long) (rmk 3 102) [.ref (ad 3 0 0), .ref (ad 2 k2 0)] pr ad g (qL pr ad g (F_X3_allCases g k2)) 0 0 := by
  refine Mt_of (by decide) (Nat.le_of_ble_eq_true rfl) ?_
  show V l G RX3 cX3_allCases 5 (some .long) _ _ 0 0 0 0 0 [(0, .ref (ad 3 0 0)), (1, .ref (ad 2 k2 0))] [] pr ad g
  refine V_lconst (v := 1) dX3_allCases_0 (by decide) ?_
  refine V_lstore_n (L2 := [(2, .long 1), (0, .ref (ad 3 0 0)), (1, .ref (ad 2 k2 0))]) dX3_allCases_1 (by decide) rfl ?_
  refine V_iconst (v := 0) dX3_allCases_2 (by decide) ?_
  refine V_istore (L2 := [(4, .int 0), (2, .long 1), (0, .ref (ad 3 0 0)), (1, .ref (ad 2 k2 0))]) dX3_allCases_3 (by decide) rfl ?_
  refine V_rp (R2 := F_X3_allCases_5 g k2 (fun (a5 : Int64) (j5 : Nat) => a5) ((g 2 k2 0).toInt.toNat + 1) 1 0) (by simp only [F_X3_allCases]) ?_
  refine V_lp [2, 3, 1, 0] rfl ?_
  refine w_X3_allCases_5 l G hw g k2 hk2  _ (fun a5 j5 hj5 => ?_) ((g 2 k2 0).toInt.toNat + 1) 1 0 (by first | exact Nat.zero_le _ | decide) (by omega)
  refine V_lload_n dX3_allCases_35 2 rfl ?_
  exact V_lret dX3_allCases_36 rfl (lfL (by rfl))
def F_X3_casesOf_5 (g5 : mm_g) (k2 : Nat) (x1 : Int32) (x2 : Int32) (K : Int64 → Nat → Int64) : Nat → Int64 → Nat → Int64
  | 0, a, j => K a j
  | n + 1, a, j => (if (g5 2 k2 0) ≤ (nI j) then K a j else (if (F_X2_hasVeto g5 k2 (nI j)) = 0 then (if ((x1 >>> ((nI j) &&& 31)) &&& 1) = 1 then F_X3_casesOf_5 g5 k2 x1 x2 K n (a * ((10 - x2).toInt64)) (j + 1) else F_X3_casesOf_5 g5 k2 x1 x2 K n (a * (x2.toInt64)) (j + 1)) else F_X3_casesOf_5 g5 k2 x1 x2 K n a (j + 1)))
def F_X3_casesOf (g : mm_g) (k2 : Nat) (x1 : Int32) (x2 : Int32) : Int64 := (F_X3_casesOf_5 g k2 x1 x2 (fun (a5 : Int64) (j5 : Nat) => a5) ((g 2 k2 0).toInt.toNat + 1) 1 0)
set_option maxRecDepth 100000 in
set_option maxHeartbeats 4000000 in
theorem w_X3_casesOf_5 (l : Launch) (G : mm_G) {pr : Nat → Nat → Prop} {ad : Nat → Nat → Nat → Nat} (hw : mm_W pr) (g5 : mm_g) (k2 : Nat) (x1 : Int32) (x2 : Int32)  (hk2 : pr 2 k2) (K : Int64 → Nat → Int64) (hK : ∀ (a : Int64) (j : Nat) (hj : j ≤ (g5 2 k2 0).toInt.toNat), V l G RX3 cX3_casesOf 6 (some .long) (rmk 3 102) (qL pr ad g5 (K a j)) 0 0 0 0 52 [(0, .ref (ad 2 k2 0)), (1, .int x1), (2, .int x2), (3, .long a), (5, .int (nI j))] [] pr ad g5) : ∀ (n : Nat) (a : Int64) (j : Nat) (hj : j ≤ (g5 2 k2 0).toInt.toNat) (hm : (g5 2 k2 0).toInt.toNat - j < n), V l G RX3 cX3_casesOf 6 (some .long) (rmk 3 102) (qL pr ad g5 (F_X3_casesOf_5 g5 k2 x1 x2 K n a j)) 0 0 0 0 5 [(0, .ref (ad 2 k2 0)), (1, .int x1), (2, .int x2), (3, .long a), (5, .int (nI j))] [] pr ad g5 := by
  intro n
  induction n with
  | zero => intro a j hj hm; exact absurd hm (Nat.not_lt_zero _)
  | succ n ih =>
      intro a j hj hm
      refine V_iload dX3_casesOf_5 4 rfl ?_
      refine V_aload_n dX3_casesOf_7 0 rfl ?_
      refine V_getN (i := 0) inlX2 rfl hk2 rfl (by decide) nf_X3_82 rfl dX3_casesOf_8 ?_
      refine V_ic_ge (tgt := 52) dX3_casesOf_11 (by decide) (fun c_11 => ?_) (fun c_11 => ?_)
      · refine V_rp (R2 := K a j) (by simp only [F_X3_casesOf_5, if_pos c_11]) ?_
        refine V_lp [0, 1, 2, 3, 4] rfl ?_
        exact hK a j (by assumption)
      · refine V_aload_n dX3_casesOf_14 0 rfl ?_
        refine V_iload dX3_casesOf_15 4 rfl ?_
        refine V_cV (k_X2_hasVeto l G hw g5 hk2 (nI j) ) hy_X2_hasVeto hi_X2_hasVeto hs_X2_hasVeto q_721 rfl rfl hk2 rfl rfl rfl rfl rfl ⟨by decide, by decide⟩ (Nat.le_of_ble_eq_true rfl) ⟨by decide, by decide⟩ dX3_casesOf_17 (V_kI ?_)
        refine V_if_ne (tgt := 46) dX3_casesOf_20 (by decide) (fun c_20 => ?_) (fun c_20 => ?_)
        · refine V_iinc (v := (nI (j + 1))) (L2 := [(5, .int (nI (j + 1))), (0, .ref (ad 2 k2 0)), (1, .int x1), (2, .int x2), (3, .long a)]) dX3_casesOf_46 4 rfl (nI_1 _) (by decide) rfl ?_
          refine V_goto (tgt := 5) dX3_casesOf_49 (by decide) ?_
          refine V_rp (R2 := F_X3_casesOf_5 g5 k2 x1 x2 K n a (j + 1)) (by simp only [F_X3_casesOf_5, if_neg c_11, if_neg c_20]) ?_
          refine V_lp [1, 2, 3, 4, 0] rfl ?_
          exact ih a (j + 1) (by exact (lp_up hj c_11 hm).1) (by exact (lp_up hj c_11 hm).2) 
        · refine V_lload_n dX3_casesOf_23 3 rfl ?_
          refine V_iload_n dX3_casesOf_24 1 rfl ?_
          refine V_iload dX3_casesOf_25 4 rfl ?_
          refine V_ishr dX3_casesOf_27 ?_
          refine V_iconst (v := 1) dX3_casesOf_28 (by decide) ?_
          refine V_iand dX3_casesOf_29 ?_
          refine V_iconst (v := 1) dX3_casesOf_30 (by decide) ?_
          refine V_ic_ne (tgt := 42) dX3_casesOf_31 (by decide) (fun c_31 => ?_) (fun c_31 => ?_)
          · refine V_iload_n dX3_casesOf_42 2 rfl ?_
            refine V_i2l dX3_casesOf_43 ?_
            refine V_lmul dX3_casesOf_44 ?_
            refine V_lstore_n (L2 := [(3, .long (a * (x2.toInt64))), (0, .ref (ad 2 k2 0)), (1, .int x1), (2, .int x2), (5, .int (nI j))]) dX3_casesOf_45 (by decide) rfl ?_
            refine V_iinc (v := (nI (j + 1))) (L2 := [(5, .int (nI (j + 1))), (3, .long (a * (x2.toInt64))), (0, .ref (ad 2 k2 0)), (1, .int x1), (2, .int x2)]) dX3_casesOf_46 4 rfl (nI_1 _) (by decide) rfl ?_
            refine V_goto (tgt := 5) dX3_casesOf_49 (by decide) ?_
            refine V_rp (R2 := F_X3_casesOf_5 g5 k2 x1 x2 K n (a * (x2.toInt64)) (j + 1)) (by simp only [F_X3_casesOf_5, if_neg c_11, if_pos c_20, if_neg c_31]) ?_
            refine V_lp [2, 3, 4, 1, 0] rfl ?_
            exact ih (a * (x2.toInt64)) (j + 1) (by exact (lp_up hj c_11 hm).1) (by exact (lp_up hj c_11 hm).2) 
          · refine V_bipush (v := 10) dX3_casesOf_34 (by decide) ?_
            refine V_iload_n dX3_casesOf_36 2 rfl ?_
            refine V_isub dX3_casesOf_37 ?_
            refine V_i2l dX3_casesOf_38 ?_
            refine V_goto (tgt := 44) dX3_casesOf_39 (by decide) ?_
            refine V_lmul dX3_casesOf_44 ?_
            refine V_lstore_n (L2 := [(3, .long (a * ((10 - x2).toInt64))), (0, .ref (ad 2 k2 0)), (1, .int x1), (2, .int x2), (5, .int (nI j))]) dX3_casesOf_45 (by decide) rfl ?_
            refine V_iinc (v := (nI (j + 1))) (L2 := [(5, .int (nI (j + 1))), (3, .long (a * ((10 - x2).toInt64))), (0, .ref (ad 2 k2 0)), (1, .int x1), (2, .int x2)]) dX3_casesOf_46 4 rfl (nI_1 _) (by decide) rfl ?_
            refine V_goto (tgt := 5) dX3_casesOf_49 (by decide) ?_
            refine V_rp (R2 := F_X3_casesOf_5 g5 k2 x1 x2 K n (a * ((10 - x2).toInt64)) (j + 1)) (by simp only [F_X3_casesOf_5, if_neg c_11, if_pos c_20, if_pos c_31]) ?_
            refine V_lp [2, 3, 4, 1, 0] rfl ?_
            exact ih (a * ((10 - x2).toInt64)) (j + 1) (by exact (lp_up hj c_11 hm).1) (by exact (lp_up hj c_11 hm).2) 
set_option maxRecDepth 100000 in
set_option maxHeartbeats 4000000 in
theorem k_X3_casesOf (l : Launch) (G : mm_G) {pr : Nat → Nat → Prop} {ad : Nat → Nat → Nat → Nat} (hw : mm_W pr) (g : mm_g) {k2 : Nat} (hk2 : pr 2 k2) (x1 : Int32) (x2 : Int32)  : Mt l G yX3_casesOf cX3_casesOf 6 (some .long) (rmk 3 102) [.ref (ad 2 k2 0), .int x1, .int x2] pr ad g (qL pr ad g (F_X3_casesOf g k2 x1 x2)) 0 0 := by
  refine Mt_of (by decide) (Nat.le_of_ble_eq_true rfl) ?_
  show V l G RX3 cX3_casesOf 6 (some .long) _ _ 0 0 0 0 0 [(0, .ref (ad 2 k2 0)), (1, .int x1), (2, .int x2)] [] pr ad g
  refine V_lconst (v := 1) dX3_casesOf_0 (by decide) ?_
  refine V_lstore_n (L2 := [(3, .long 1), (0, .ref (ad 2 k2 0)), (1, .int x1), (2, .int x2)]) dX3_casesOf_1 (by decide) rfl ?_
  refine V_iconst (v := 0) dX3_casesOf_2 (by decide) ?_
  refine V_istore (L2 := [(5, .int 0), (3, .long 1), (0, .ref (ad 2 k2 0)), (1, .int x1), (2, .int x2)]) dX3_casesOf_3 (by decide) rfl ?_
  refine V_rp (R2 := F_X3_casesOf_5 g k2 x1 x2 (fun (a5 : Int64) (j5 : Nat) => a5) ((g 2 k2 0).toInt.toNat + 1) 1 0) (by simp only [F_X3_casesOf]) ?_
  refine V_lp [2, 3, 4, 1, 0] rfl ?_
  refine w_X3_casesOf_5 l G hw g k2 x1 x2 hk2  _ (fun a5 j5 hj5 => ?_) ((g 2 k2 0).toInt.toNat + 1) 1 0 (by first | exact Nat.zero_le _ | decide) (by omega)
  refine V_lload_n dX3_casesOf_52 3 rfl ?_
  exact V_lret dX3_casesOf_53 rfl (lfL (by rfl))
def F_X3_casesLed_19 (g19 : mm_g) (k2 : Nat) (x1 : Int32) (x2 : Int32) (f4 : Int32) (K : Int64 → Nat → Int64 × mm_g) : Nat → Int64 → Nat → Int64 × mm_g
  | 0, a, j => K a j
  | n + 1, a, j => (if ((1 : Int32) <<< ((g19 2 k2 0) &&& 31)) ≤ (nI j) then K a j else (if ((nI j) &&& (g19 2 k2 5)) = 0 then (if (f4 + (F_X3_gainOfAll g19 (nI j))) ≤ 0 then F_X3_casesLed_19 g19 k2 x1 x2 f4 K n a (j + 1) else F_X3_casesLed_19 g19 k2 x1 x2 f4 K n (a + (F_X3_casesOf g19 k2 (nI j) x2)) (j + 1)) else F_X3_casesLed_19 g19 k2 x1 x2 f4 K n a (j + 1)))
def F_X3_casesLed (g : mm_g) (k2 : Nat) (x1 : Int32) (x2 : Int32) : Int64 × mm_g := (F_X3_casesLed_19 (F_X3_weighBeds g k2 x1) k2 x1 x2 (F_X2_countedLead (F_X3_weighBeds g k2 x1) k2 x1) (fun (a19 : Int64) (j19 : Nat) => (a19, (F_X3_weighBeds g k2 x1))) (((1 : Int32) <<< ((F_X3_weighBeds g k2 x1) 2 k2 0 &&& 31)).toInt.toNat + 1) 0 0)
set_option maxRecDepth 100000 in
set_option maxHeartbeats 4000000 in
theorem w_X3_casesLed_19 (l : Launch) (G : mm_G) {pr : Nat → Nat → Prop} {ad : Nat → Nat → Nat → Nat} (hw : mm_W pr) (g19 : mm_g) (k2 : Nat) (x1 : Int32) (x2 : Int32) (f4 : Int32)  (hk2 : pr 2 k2) (K : Int64 → Nat → Int64 × mm_g) (hK : ∀ (a : Int64) (j : Nat) (hj : j ≤ ((1 : Int32) <<< (g19 2 k2 0 &&& 31)).toInt.toNat), V l G RX3 cX3_casesLed 8 (some .long) (rmk 5 151) (qJ pr ad (K a j)) 0 0 0 0 70 [(0, .ref (ad 3 0 0)), (1, .ref (ad 2 k2 0)), (2, .int x1), (3, .int x2), (4, .int f4), (5, .long a), (7, .int (nI j))] [] pr ad g19) : ∀ (n : Nat) (a : Int64) (j : Nat) (hj : j ≤ ((1 : Int32) <<< (g19 2 k2 0 &&& 31)).toInt.toNat) (hm : ((1 : Int32) <<< (g19 2 k2 0 &&& 31)).toInt.toNat - j < n), V l G RX3 cX3_casesLed 8 (some .long) (rmk 5 151) (qJ pr ad (F_X3_casesLed_19 g19 k2 x1 x2 f4 K n a j)) 0 0 0 0 19 [(0, .ref (ad 3 0 0)), (1, .ref (ad 2 k2 0)), (2, .int x1), (3, .int x2), (4, .int f4), (5, .long a), (7, .int (nI j))] [] pr ad g19 := by
  intro n
  induction n with
  | zero => intro a j hj hm; exact absurd hm (Nat.not_lt_zero _)
  | succ n ih =>
      intro a j hj hm
      refine V_iload dX3_casesLed_19 6 rfl ?_
      refine V_iconst (v := 1) dX3_casesLed_21 (by decide) ?_
      refine V_aload_n dX3_casesLed_22 1 rfl ?_
      refine V_getN (i := 0) inlX2 rfl hk2 rfl (by decide) nf_X3_82 rfl dX3_casesLed_23 ?_
      refine V_ishl dX3_casesLed_26 ?_
      refine V_ic_ge (tgt := 70) dX3_casesLed_27 (by decide) (fun c_27 => ?_) (fun c_27 => ?_)
      · refine V_rp (R2 := K a j) (by simp only [F_X3_casesLed_19, if_pos c_27]) ?_
        refine V_lp [0, 1, 2, 3, 4, 5, 6] rfl ?_
        exact hK a j (by assumption)
      · refine V_iload dX3_casesLed_30 6 rfl ?_
        refine V_aload_n dX3_casesLed_32 1 rfl ?_
        refine V_getN (i := 3) inlX2 rfl hk2 rfl (by decide) nf_X3_91 rfl dX3_casesLed_33 ?_
        refine V_iand dX3_casesLed_36 ?_
        refine V_if_ne (tgt := 64) dX3_casesLed_37 (by decide) (fun c_37 => ?_) (fun c_37 => ?_)
        · refine V_iinc (v := (nI (j + 1))) (L2 := [(7, .int (nI (j + 1))), (0, .ref (ad 3 0 0)), (1, .ref (ad 2 k2 0)), (2, .int x1), (3, .int x2), (4, .int f4), (5, .long a)]) dX3_casesLed_64 6 rfl (nI_1 _) (by decide) rfl ?_
          refine V_goto (tgt := 19) dX3_casesLed_67 (by decide) ?_
          refine V_rp (R2 := F_X3_casesLed_19 g19 k2 x1 x2 f4 K n a (j + 1)) (by simp only [F_X3_casesLed_19, if_neg c_27, if_neg c_37]) ?_
          refine V_lp [1, 2, 3, 4, 5, 6, 0] rfl ?_
          exact ih a (j + 1) (by exact (lp_up hj c_27 hm).1) (by exact (lp_up hj c_27 hm).2) 
        · refine V_iload dX3_casesLed_40 4 rfl ?_
          refine V_aload_n dX3_casesLed_42 0 rfl ?_
          refine V_iload dX3_casesLed_43 6 rfl ?_
          refine V_cV (k_X3_gainOfAll l G hw g19  (nI j) ) hy_X3_gainOfAll hi_X3_gainOfAll hs_X3_gainOfAll q_731 rfl rfl (W_3 hw) rfl rfl rfl rfl rfl ⟨by decide, by decide⟩ (Nat.le_of_ble_eq_true rfl) ⟨by decide, by decide⟩ dX3_casesLed_45 (V_kI ?_)
          refine V_iadd dX3_casesLed_48 ?_
          refine V_if_le (tgt := 64) dX3_casesLed_49 (by decide) (fun c_49 => ?_) (fun c_49 => ?_)
          · refine V_iinc (v := (nI (j + 1))) (L2 := [(7, .int (nI (j + 1))), (0, .ref (ad 3 0 0)), (1, .ref (ad 2 k2 0)), (2, .int x1), (3, .int x2), (4, .int f4), (5, .long a)]) dX3_casesLed_64 6 rfl (nI_1 _) (by decide) rfl ?_
            refine V_goto (tgt := 19) dX3_casesLed_67 (by decide) ?_
            refine V_rp (R2 := F_X3_casesLed_19 g19 k2 x1 x2 f4 K n a (j + 1)) (by simp only [F_X3_casesLed_19, if_neg c_27, if_pos c_37, if_pos c_49]) ?_
            refine V_lp [1, 2, 3, 4, 5, 6, 0] rfl ?_
            exact ih a (j + 1) (by exact (lp_up hj c_27 hm).1) (by exact (lp_up hj c_27 hm).2) 
          · refine V_lload dX3_casesLed_52 5 rfl ?_
            refine V_aload_n dX3_casesLed_54 1 rfl ?_
            refine V_iload dX3_casesLed_55 6 rfl ?_
            refine V_iload_n dX3_casesLed_57 3 rfl ?_
            refine V_cS (k_X3_casesOf l G hw g19 hk2 (nI j) x2 ) hy_X3_casesOf hz_X3_casesOf q_859 rfl rfl rfl rfl ⟨by decide, by decide⟩ (Nat.le_of_ble_eq_true rfl) ⟨by decide, by decide⟩ dX3_casesLed_58 (V_kL ?_)
            refine V_ladd dX3_casesLed_61 ?_
            refine V_lstore (L2 := [(5, .long (a + (F_X3_casesOf g19 k2 (nI j) x2))), (0, .ref (ad 3 0 0)), (1, .ref (ad 2 k2 0)), (2, .int x1), (3, .int x2), (4, .int f4), (7, .int (nI j))]) dX3_casesLed_62 (by decide) rfl ?_
            refine V_iinc (v := (nI (j + 1))) (L2 := [(7, .int (nI (j + 1))), (5, .long (a + (F_X3_casesOf g19 k2 (nI j) x2))), (0, .ref (ad 3 0 0)), (1, .ref (ad 2 k2 0)), (2, .int x1), (3, .int x2), (4, .int f4)]) dX3_casesLed_64 6 rfl (nI_1 _) (by decide) rfl ?_
            refine V_goto (tgt := 19) dX3_casesLed_67 (by decide) ?_
            refine V_rp (R2 := F_X3_casesLed_19 g19 k2 x1 x2 f4 K n (a + (F_X3_casesOf g19 k2 (nI j) x2)) (j + 1)) (by simp only [F_X3_casesLed_19, if_neg c_27, if_pos c_37, if_neg c_49]) ?_
            refine V_lp [2, 3, 4, 5, 6, 1, 0] rfl ?_
            exact ih (a + (F_X3_casesOf g19 k2 (nI j) x2)) (j + 1) (by exact (lp_up hj c_27 hm).1) (by exact (lp_up hj c_27 hm).2) 
set_option maxRecDepth 100000 in
set_option maxHeartbeats 4000000 in
theorem k_X3_casesLed (l : Launch) (G : mm_G) {pr : Nat → Nat → Prop} {ad : Nat → Nat → Nat → Nat} (hw : mm_W pr) (g : mm_g) {k2 : Nat} (hk2 : pr 2 k2) (x1 : Int32) (x2 : Int32)  : Mt l G yX3_casesLed cX3_casesLed 8 (some .long) (rmk 5 151) [.ref (ad 3 0 0), .ref (ad 2 k2 0), .int x1, .int x2] pr ad g (qJ pr ad (F_X3_casesLed g k2 x1 x2)) 0 0 := by
  refine Mt_of (by decide) (Nat.le_of_ble_eq_true rfl) ?_
  show V l G RX3 cX3_casesLed 8 (some .long) _ _ 0 0 0 0 0 [(0, .ref (ad 3 0 0)), (1, .ref (ad 2 k2 0)), (2, .int x1), (3, .int x2)] [] pr ad g
  refine V_aload_n dX3_casesLed_0 0 rfl ?_
  refine V_aload_n dX3_casesLed_1 1 rfl ?_
  refine V_iload_n dX3_casesLed_2 2 rfl ?_
  refine V_cV (k_X3_weighBeds l G hw g hk2 x1 ) hy_X3_weighBeds hi_X3_weighBeds hs_X3_weighBeds q_716 rfl rfl (W_3 hw) rfl rfl rfl rfl rfl ⟨by decide, by decide⟩ (Nat.le_of_ble_eq_true rfl) ⟨by decide, by decide⟩ dX3_casesLed_3 (V_kN ?_)
  refine V_aload_n dX3_casesLed_6 1 rfl ?_
  refine V_iload_n dX3_casesLed_7 2 rfl ?_
  refine V_cV (k_X2_countedLead l G hw (F_X3_weighBeds g k2 x1) hk2 x1 ) hy_X2_countedLead hi_X2_countedLead hs_X2_countedLead q_723 rfl rfl hk2 rfl rfl rfl rfl rfl ⟨by decide, by decide⟩ (Nat.le_of_ble_eq_true rfl) ⟨by decide, by decide⟩ dX3_casesLed_8 (V_kI ?_)
  refine V_istore (L2 := [(4, .int (F_X2_countedLead (F_X3_weighBeds g k2 x1) k2 x1)), (0, .ref (ad 3 0 0)), (1, .ref (ad 2 k2 0)), (2, .int x1), (3, .int x2)]) dX3_casesLed_11 (by decide) rfl ?_
  refine V_lconst (v := 0) dX3_casesLed_13 (by decide) ?_
  refine V_lstore (L2 := [(5, .long 0), (4, .int (F_X2_countedLead (F_X3_weighBeds g k2 x1) k2 x1)), (0, .ref (ad 3 0 0)), (1, .ref (ad 2 k2 0)), (2, .int x1), (3, .int x2)]) dX3_casesLed_14 (by decide) rfl ?_
  refine V_iconst (v := 0) dX3_casesLed_16 (by decide) ?_
  refine V_istore (L2 := [(7, .int 0), (5, .long 0), (4, .int (F_X2_countedLead (F_X3_weighBeds g k2 x1) k2 x1)), (0, .ref (ad 3 0 0)), (1, .ref (ad 2 k2 0)), (2, .int x1), (3, .int x2)]) dX3_casesLed_17 (by decide) rfl ?_
  refine V_rp (R2 := F_X3_casesLed_19 (F_X3_weighBeds g k2 x1) k2 x1 x2 (F_X2_countedLead (F_X3_weighBeds g k2 x1) k2 x1) (fun (a19 : Int64) (j19 : Nat) => (a19, (F_X3_weighBeds g k2 x1))) (((1 : Int32) <<< ((F_X3_weighBeds g k2 x1) 2 k2 0 &&& 31)).toInt.toNat + 1) 0 0) (by simp only [F_X3_casesLed]) ?_
  refine V_lp [3, 4, 5, 6, 2, 1, 0] rfl ?_
  refine w_X3_casesLed_19 l G hw (F_X3_weighBeds g k2 x1) k2 x1 x2 (F_X2_countedLead (F_X3_weighBeds g k2 x1) k2 x1) hk2  _ (fun a19 j19 hj19 => ?_) (((1 : Int32) <<< ((F_X3_weighBeds g k2 x1) 2 k2 0 &&& 31)).toInt.toNat + 1) 0 0 (by first | exact Nat.zero_le _ | decide) (by omega)
  refine V_lload dX3_casesLed_70 5 rfl ?_
  exact V_lret dX3_casesLed_72 rfl (lfJ (by rfl))
def F_X3_afterYears_31 (k2 : Nat) (x1 : Int32) (x2 : Int32) (K : Int64 → Nat → mm_g → mm_g) : Nat → Int64 → Nat → mm_g → mm_g
  | 0, y, j, s => K y j s
  | n + 1, y, j, s => (if x1 ≤ (nI j) then K y j s else (if (lg_cmp (((y * 16807) - (y * 16807) / 2147483647 * 2147483647) - ((y * 16807) - (y * 16807) / 2147483647 * 2147483647) / 2 * 2) 0) = 0 then (if (lg_cmp (((y * 16807) - (y * 16807) / 2147483647 * 2147483647) - ((y * 16807) - (y * 16807) / 2147483647 * 2147483647) / 3 * 3) 0) = 0 then (if (F_X2_hasVeto (F_X2_flow (F_X2_warmTo (F_X2_standIn s 1 0 ((((y * 16807) - (y * 16807) / 2147483647 * 2147483647) - ((y * 16807) - (y * 16807) / 2147483647 * 2147483647) / 9 * 9).toInt32)) 1 ((((y * 16807) - (y * 16807) / 2147483647 * 2147483647) - ((y * 16807) - (y * 16807) / 2147483647 * 2147483647) / ((s 2 1 0).toInt64) * ((s 2 1 0).toInt64)).toInt32) ((((y * 16807) - (y * 16807) / 2147483647 * 2147483647) - ((y * 16807) - (y * 16807) / 2147483647 * 2147483647) / 10 * 10).toInt32)) 1) 1 ((((y * 16807) - (y * 16807) / 2147483647 * 2147483647) - ((y * 16807) - (y * 16807) / 2147483647 * 2147483647) / ((s 2 1 0).toInt64) * ((s 2 1 0).toInt64)).toInt32)) = 0 then F_X3_afterYears_31 k2 x1 x2 K n ((y * 16807) - (y * 16807) / 2147483647 * 2147483647) (j + 1) ((F_X2_rakeUp (F_X2_flow (F_X2_warmTo (F_X2_standIn s 1 0 ((((y * 16807) - (y * 16807) / 2147483647 * 2147483647) - ((y * 16807) - (y * 16807) / 2147483647 * 2147483647) / 9 * 9).toInt32)) 1 ((((y * 16807) - (y * 16807) / 2147483647 * 2147483647) - ((y * 16807) - (y * 16807) / 2147483647 * 2147483647) / ((s 2 1 0).toInt64) * ((s 2 1 0).toInt64)).toInt32) ((((y * 16807) - (y * 16807) / 2147483647 * 2147483647) - ((y * 16807) - (y * 16807) / 2147483647 * 2147483647) / 10 * 10).toInt32)) 1) 1 ((((y * 16807) - (y * 16807) / 2147483647 * 2147483647) - ((y * 16807) - (y * 16807) / 2147483647 * 2147483647) / ((s 2 1 0).toInt64) * ((s 2 1 0).toInt64)).toInt32) (F_X2_stockOf (F_X2_flow (F_X2_warmTo (F_X2_standIn s 1 0 ((((y * 16807) - (y * 16807) / 2147483647 * 2147483647) - ((y * 16807) - (y * 16807) / 2147483647 * 2147483647) / 9 * 9).toInt32)) 1 ((((y * 16807) - (y * 16807) / 2147483647 * 2147483647) - ((y * 16807) - (y * 16807) / 2147483647 * 2147483647) / ((s 2 1 0).toInt64) * ((s 2 1 0).toInt64)).toInt32) ((((y * 16807) - (y * 16807) / 2147483647 * 2147483647) - ((y * 16807) - (y * 16807) / 2147483647 * 2147483647) / 10 * 10).toInt32)) 1) 1 ((((y * 16807) - (y * 16807) / 2147483647 * 2147483647) - ((y * 16807) - (y * 16807) / 2147483647 * 2147483647) / ((s 2 1 0).toInt64) * ((s 2 1 0).toInt64)).toInt32))).2) else F_X3_afterYears_31 k2 x1 x2 K n ((y * 16807) - (y * 16807) / 2147483647 * 2147483647) (j + 1) (F_X2_flow (F_X2_warmTo (F_X2_standIn s 1 0 ((((y * 16807) - (y * 16807) / 2147483647 * 2147483647) - ((y * 16807) - (y * 16807) / 2147483647 * 2147483647) / 9 * 9).toInt32)) 1 ((((y * 16807) - (y * 16807) / 2147483647 * 2147483647) - ((y * 16807) - (y * 16807) / 2147483647 * 2147483647) / ((s 2 1 0).toInt64) * ((s 2 1 0).toInt64)).toInt32) ((((y * 16807) - (y * 16807) / 2147483647 * 2147483647) - ((y * 16807) - (y * 16807) / 2147483647 * 2147483647) / 10 * 10).toInt32)) 1)) else (if (F_X2_hasVeto (F_X2_flow (F_X2_standIn s 1 0 ((((y * 16807) - (y * 16807) / 2147483647 * 2147483647) - ((y * 16807) - (y * 16807) / 2147483647 * 2147483647) / 9 * 9).toInt32)) 1) 1 ((((y * 16807) - (y * 16807) / 2147483647 * 2147483647) - ((y * 16807) - (y * 16807) / 2147483647 * 2147483647) / ((s 2 1 0).toInt64) * ((s 2 1 0).toInt64)).toInt32)) = 0 then F_X3_afterYears_31 k2 x1 x2 K n ((y * 16807) - (y * 16807) / 2147483647 * 2147483647) (j + 1) ((F_X2_rakeUp (F_X2_flow (F_X2_standIn s 1 0 ((((y * 16807) - (y * 16807) / 2147483647 * 2147483647) - ((y * 16807) - (y * 16807) / 2147483647 * 2147483647) / 9 * 9).toInt32)) 1) 1 ((((y * 16807) - (y * 16807) / 2147483647 * 2147483647) - ((y * 16807) - (y * 16807) / 2147483647 * 2147483647) / ((s 2 1 0).toInt64) * ((s 2 1 0).toInt64)).toInt32) (F_X2_stockOf (F_X2_flow (F_X2_standIn s 1 0 ((((y * 16807) - (y * 16807) / 2147483647 * 2147483647) - ((y * 16807) - (y * 16807) / 2147483647 * 2147483647) / 9 * 9).toInt32)) 1) 1 ((((y * 16807) - (y * 16807) / 2147483647 * 2147483647) - ((y * 16807) - (y * 16807) / 2147483647 * 2147483647) / ((s 2 1 0).toInt64) * ((s 2 1 0).toInt64)).toInt32))).2) else F_X3_afterYears_31 k2 x1 x2 K n ((y * 16807) - (y * 16807) / 2147483647 * 2147483647) (j + 1) (F_X2_flow (F_X2_standIn s 1 0 ((((y * 16807) - (y * 16807) / 2147483647 * 2147483647) - ((y * 16807) - (y * 16807) / 2147483647 * 2147483647) / 9 * 9).toInt32)) 1))) else (if (lg_cmp (((y * 16807) - (y * 16807) / 2147483647 * 2147483647) - ((y * 16807) - (y * 16807) / 2147483647 * 2147483647) / 3 * 3) 0) = 0 then (if (F_X2_hasVeto (F_X2_flow (F_X2_warmTo (F_X2_standIn s 1 1 ((((y * 16807) - (y * 16807) / 2147483647 * 2147483647) - ((y * 16807) - (y * 16807) / 2147483647 * 2147483647) / 9 * 9).toInt32)) 1 ((((y * 16807) - (y * 16807) / 2147483647 * 2147483647) - ((y * 16807) - (y * 16807) / 2147483647 * 2147483647) / ((s 2 1 0).toInt64) * ((s 2 1 0).toInt64)).toInt32) ((((y * 16807) - (y * 16807) / 2147483647 * 2147483647) - ((y * 16807) - (y * 16807) / 2147483647 * 2147483647) / 10 * 10).toInt32)) 1) 1 ((((y * 16807) - (y * 16807) / 2147483647 * 2147483647) - ((y * 16807) - (y * 16807) / 2147483647 * 2147483647) / ((s 2 1 0).toInt64) * ((s 2 1 0).toInt64)).toInt32)) = 0 then F_X3_afterYears_31 k2 x1 x2 K n ((y * 16807) - (y * 16807) / 2147483647 * 2147483647) (j + 1) ((F_X2_rakeUp (F_X2_flow (F_X2_warmTo (F_X2_standIn s 1 1 ((((y * 16807) - (y * 16807) / 2147483647 * 2147483647) - ((y * 16807) - (y * 16807) / 2147483647 * 2147483647) / 9 * 9).toInt32)) 1 ((((y * 16807) - (y * 16807) / 2147483647 * 2147483647) - ((y * 16807) - (y * 16807) / 2147483647 * 2147483647) / ((s 2 1 0).toInt64) * ((s 2 1 0).toInt64)).toInt32) ((((y * 16807) - (y * 16807) / 2147483647 * 2147483647) - ((y * 16807) - (y * 16807) / 2147483647 * 2147483647) / 10 * 10).toInt32)) 1) 1 ((((y * 16807) - (y * 16807) / 2147483647 * 2147483647) - ((y * 16807) - (y * 16807) / 2147483647 * 2147483647) / ((s 2 1 0).toInt64) * ((s 2 1 0).toInt64)).toInt32) (F_X2_stockOf (F_X2_flow (F_X2_warmTo (F_X2_standIn s 1 1 ((((y * 16807) - (y * 16807) / 2147483647 * 2147483647) - ((y * 16807) - (y * 16807) / 2147483647 * 2147483647) / 9 * 9).toInt32)) 1 ((((y * 16807) - (y * 16807) / 2147483647 * 2147483647) - ((y * 16807) - (y * 16807) / 2147483647 * 2147483647) / ((s 2 1 0).toInt64) * ((s 2 1 0).toInt64)).toInt32) ((((y * 16807) - (y * 16807) / 2147483647 * 2147483647) - ((y * 16807) - (y * 16807) / 2147483647 * 2147483647) / 10 * 10).toInt32)) 1) 1 ((((y * 16807) - (y * 16807) / 2147483647 * 2147483647) - ((y * 16807) - (y * 16807) / 2147483647 * 2147483647) / ((s 2 1 0).toInt64) * ((s 2 1 0).toInt64)).toInt32))).2) else F_X3_afterYears_31 k2 x1 x2 K n ((y * 16807) - (y * 16807) / 2147483647 * 2147483647) (j + 1) (F_X2_flow (F_X2_warmTo (F_X2_standIn s 1 1 ((((y * 16807) - (y * 16807) / 2147483647 * 2147483647) - ((y * 16807) - (y * 16807) / 2147483647 * 2147483647) / 9 * 9).toInt32)) 1 ((((y * 16807) - (y * 16807) / 2147483647 * 2147483647) - ((y * 16807) - (y * 16807) / 2147483647 * 2147483647) / ((s 2 1 0).toInt64) * ((s 2 1 0).toInt64)).toInt32) ((((y * 16807) - (y * 16807) / 2147483647 * 2147483647) - ((y * 16807) - (y * 16807) / 2147483647 * 2147483647) / 10 * 10).toInt32)) 1)) else (if (F_X2_hasVeto (F_X2_flow (F_X2_standIn s 1 1 ((((y * 16807) - (y * 16807) / 2147483647 * 2147483647) - ((y * 16807) - (y * 16807) / 2147483647 * 2147483647) / 9 * 9).toInt32)) 1) 1 ((((y * 16807) - (y * 16807) / 2147483647 * 2147483647) - ((y * 16807) - (y * 16807) / 2147483647 * 2147483647) / ((s 2 1 0).toInt64) * ((s 2 1 0).toInt64)).toInt32)) = 0 then F_X3_afterYears_31 k2 x1 x2 K n ((y * 16807) - (y * 16807) / 2147483647 * 2147483647) (j + 1) ((F_X2_rakeUp (F_X2_flow (F_X2_standIn s 1 1 ((((y * 16807) - (y * 16807) / 2147483647 * 2147483647) - ((y * 16807) - (y * 16807) / 2147483647 * 2147483647) / 9 * 9).toInt32)) 1) 1 ((((y * 16807) - (y * 16807) / 2147483647 * 2147483647) - ((y * 16807) - (y * 16807) / 2147483647 * 2147483647) / ((s 2 1 0).toInt64) * ((s 2 1 0).toInt64)).toInt32) (F_X2_stockOf (F_X2_flow (F_X2_standIn s 1 1 ((((y * 16807) - (y * 16807) / 2147483647 * 2147483647) - ((y * 16807) - (y * 16807) / 2147483647 * 2147483647) / 9 * 9).toInt32)) 1) 1 ((((y * 16807) - (y * 16807) / 2147483647 * 2147483647) - ((y * 16807) - (y * 16807) / 2147483647 * 2147483647) / ((s 2 1 0).toInt64) * ((s 2 1 0).toInt64)).toInt32))).2) else F_X3_afterYears_31 k2 x1 x2 K n ((y * 16807) - (y * 16807) / 2147483647 * 2147483647) (j + 1) (F_X2_flow (F_X2_standIn s 1 1 ((((y * 16807) - (y * 16807) / 2147483647 * 2147483647) - ((y * 16807) - (y * 16807) / 2147483647 * 2147483647) / 9 * 9).toInt32)) 1)))))
def F_X3_afterYears (g : mm_g) (k2 : Nat) (x1 : Int32) (x2 : Int32) : mm_g := (if 1 ≤ ((F_X2_become g 1 k2) 2 1 0) then (F_X3_afterYears_31 k2 x1 x2 (fun (y31 : Int64) (j31 : Nat) (s31 : mm_g) => s31) (x1.toInt.toNat + 1) (x2.toInt64) 0 (F_X2_become g 1 k2)) else (F_X2_become g 1 k2))
set_option maxRecDepth 100000 in
set_option maxHeartbeats 4000000 in
theorem w_X3_afterYears_31 (l : Launch) (G : mm_G) {pr : Nat → Nat → Prop} {ad : Nat → Nat → Nat → Nat} (hw : mm_W pr) (k2 : Nat) (x1 : Int32) (x2 : Int32)  (hk2 : pr 2 k2) (K : Int64 → Nat → mm_g → mm_g) (hK : ∀ (y : Int64) (j : Nat) (s : mm_g) (hj : j ≤ x1.toInt.toNat) (hb : 1 ≤ s 2 1 0), V l G RX3 cX3_afterYears 8 (some (.object "CockleSquires$Flat")) (rmk 5 147) (qR pr ad (ad 2 1 0) (K y j s)) 0 0 0 0 164 [(0, .ref (ad 3 0 0)), (1, .ref (ad 2 k2 0)), (2, .int x1), (3, .int x2), (4, .long y), (6, .int (nI j))] [] pr ad s) : ∀ (n : Nat) (y : Int64) (j : Nat) (s : mm_g) (hj : j ≤ x1.toInt.toNat) (hb : 1 ≤ s 2 1 0) (hm : x1.toInt.toNat - j < n), V l G RX3 cX3_afterYears 8 (some (.object "CockleSquires$Flat")) (rmk 5 147) (qR pr ad (ad 2 1 0) (F_X3_afterYears_31 k2 x1 x2 K n y j s)) 0 0 0 0 31 [(0, .ref (ad 3 0 0)), (1, .ref (ad 2 k2 0)), (2, .int x1), (3, .int x2), (4, .long y), (6, .int (nI j))] [] pr ad s := by
  intro n
  induction n with
  | zero => intro y j s hj hb hm; exact absurd hm (Nat.not_lt_zero _)
  | succ n ih =>
      intro y j s hj hb hm
      refine V_iload dX3_afterYears_31 5 rfl ?_
      refine V_iload_n dX3_afterYears_33 2 rfl ?_
      refine V_ic_ge (tgt := 164) dX3_afterYears_34 (by decide) (fun c_34 => ?_) (fun c_34 => ?_)
      · refine V_rp (R2 := K y j s) (by simp only [F_X3_afterYears_31, if_pos c_34]) ?_
        refine V_lp [0, 1, 2, 3, 4, 5] rfl ?_
        exact hK y j s (by assumption) (by assumption)
      · refine V_lload dX3_afterYears_37 4 rfl ?_
        refine V_ldc2 q_886 dX3_afterYears_39 ?_
        refine V_lmul dX3_afterYears_42 ?_
        refine V_ldc2 q_887 dX3_afterYears_43 ?_
        refine V_lrem dX3_afterYears_46 (by decide) ?_
        refine V_lstore (L2 := [(4, .long ((y * 16807) - (y * 16807) / 2147483647 * 2147483647)), (0, .ref (ad 3 0 0)), (1, .ref (ad 2 k2 0)), (2, .int x1), (3, .int x2), (6, .int (nI j))]) dX3_afterYears_47 (by decide) rfl ?_
        refine V_lload dX3_afterYears_49 0 rfl ?_
        refine V_aload_n dX3_afterYears_51 1 rfl ?_
        refine V_get (i := 0) inlX3 rfl (W_3 hw) rfl (by decide) q_78 rfl dX3_afterYears_52 ?_
        refine V_getN (i := 0) inlX2 rfl (W_21 hw) rfl (by decide) nf_X3_82 rfl dX3_afterYears_55 ?_
        refine V_i2l dX3_afterYears_58 ?_
        refine V_lrem dX3_afterYears_59 (by exact ne_i2l hb) ?_
        refine V_l2i dX3_afterYears_60 ?_
        refine V_istore (L2 := [(7, .int ((((y * 16807) - (y * 16807) / 2147483647 * 2147483647) - ((y * 16807) - (y * 16807) / 2147483647 * 2147483647) / ((s 2 1 0).toInt64) * ((s 2 1 0).toInt64)).toInt32)), (4, .long ((y * 16807) - (y * 16807) / 2147483647 * 2147483647)), (0, .ref (ad 3 0 0)), (1, .ref (ad 2 k2 0)), (2, .int x1), (3, .int x2), (6, .int (nI j))]) dX3_afterYears_61 (by decide) rfl ?_
        refine V_aload_n dX3_afterYears_63 2 rfl ?_
        refine V_get (i := 0) inlX3 rfl (W_3 hw) rfl (by decide) q_78 rfl dX3_afterYears_64 ?_
        refine V_lload dX3_afterYears_67 1 rfl ?_
        refine V_ldc2 q_888 dX3_afterYears_69 ?_
        refine V_lrem dX3_afterYears_72 (by decide) ?_
        refine V_lconst (v := 0) dX3_afterYears_73 (by decide) ?_
        refine V_lcmp dX3_afterYears_74 ?_
        refine V_if_ne (tgt := 82) dX3_afterYears_75 (by decide) (fun c_75 => ?_) (fun c_75 => ?_)
        · refine V_iconst (v := 1) dX3_afterYears_82 (by decide) ?_
          refine V_lload dX3_afterYears_83 1 rfl ?_
          refine V_ldc2 q_889 dX3_afterYears_85 ?_
          refine V_lrem dX3_afterYears_88 (by decide) ?_
          refine V_l2i dX3_afterYears_89 ?_
          refine V_cV (k_X2_standIn l G hw s (W_21 hw) 1 ((((y * 16807) - (y * 16807) / 2147483647 * 2147483647) - ((y * 16807) - (y * 16807) / 2147483647 * 2147483647) / 9 * 9).toInt32) ) hy_X2_standIn hi_X2_standIn hs_X2_standIn q_650 rfl rfl (W_21 hw) rfl rfl rfl rfl rfl ⟨by decide, by decide⟩ (Nat.le_of_ble_eq_true rfl) ⟨by decide, by decide⟩ dX3_afterYears_90 (V_kN ?_)
          refine V_lload dX3_afterYears_93 1 rfl ?_
          refine V_ldc2 q_890 dX3_afterYears_95 ?_
          refine V_lrem dX3_afterYears_98 (by decide) ?_
          refine V_lconst (v := 0) dX3_afterYears_99 (by decide) ?_
          refine V_lcmp dX3_afterYears_100 ?_
          refine V_if_ne (tgt := 120) dX3_afterYears_101 (by decide) (fun c_101 => ?_) (fun c_101 => ?_)
          · refine V_aload_n dX3_afterYears_120 2 rfl ?_
            refine V_get (i := 0) inlX3 rfl (W_3 hw) rfl (by decide) q_78 rfl dX3_afterYears_121 ?_
            refine V_cV (k_X2_flow l G hw (F_X2_standIn s 1 1 ((((y * 16807) - (y * 16807) / 2147483647 * 2147483647) - ((y * 16807) - (y * 16807) / 2147483647 * 2147483647) / 9 * 9).toInt32)) (W_21 hw)  ) hy_X2_flow hi_X2_flow hs_X2_flow q_583 rfl rfl (W_21 hw) rfl rfl rfl rfl rfl ⟨by decide, by decide⟩ (Nat.le_of_ble_eq_true rfl) ⟨by decide, by decide⟩ dX3_afterYears_124 (V_kN ?_)
            refine V_aload_n dX3_afterYears_127 2 rfl ?_
            refine V_get (i := 0) inlX3 rfl (W_3 hw) rfl (by decide) q_78 rfl dX3_afterYears_128 ?_
            refine V_iload dX3_afterYears_131 0 rfl ?_
            refine V_cV (k_X2_hasVeto l G hw (F_X2_flow (F_X2_standIn s 1 1 ((((y * 16807) - (y * 16807) / 2147483647 * 2147483647) - ((y * 16807) - (y * 16807) / 2147483647 * 2147483647) / 9 * 9).toInt32)) 1) (W_21 hw) ((((y * 16807) - (y * 16807) / 2147483647 * 2147483647) - ((y * 16807) - (y * 16807) / 2147483647 * 2147483647) / ((s 2 1 0).toInt64) * ((s 2 1 0).toInt64)).toInt32) ) hy_X2_hasVeto hi_X2_hasVeto hs_X2_hasVeto q_721 rfl rfl (W_21 hw) rfl rfl rfl rfl rfl ⟨by decide, by decide⟩ (Nat.le_of_ble_eq_true rfl) ⟨by decide, by decide⟩ dX3_afterYears_133 (V_kI ?_)
            refine V_if_ne (tgt := 158) dX3_afterYears_136 (by decide) (fun c_136 => ?_) (fun c_136 => ?_)
            · refine V_iinc (v := (nI (j + 1))) (L2 := [(6, .int (nI (j + 1))), (7, .int ((((y * 16807) - (y * 16807) / 2147483647 * 2147483647) - ((y * 16807) - (y * 16807) / 2147483647 * 2147483647) / ((s 2 1 0).toInt64) * ((s 2 1 0).toInt64)).toInt32)), (4, .long ((y * 16807) - (y * 16807) / 2147483647 * 2147483647)), (0, .ref (ad 3 0 0)), (1, .ref (ad 2 k2 0)), (2, .int x1), (3, .int x2)]) dX3_afterYears_158 6 rfl (nI_1 _) (by decide) rfl ?_
              refine V_goto (tgt := 31) dX3_afterYears_161 (by decide) ?_
              refine V_rp (R2 := F_X3_afterYears_31 k2 x1 x2 K n ((y * 16807) - (y * 16807) / 2147483647 * 2147483647) (j + 1) (F_X2_flow (F_X2_standIn s 1 1 ((((y * 16807) - (y * 16807) / 2147483647 * 2147483647) - ((y * 16807) - (y * 16807) / 2147483647 * 2147483647) / 9 * 9).toInt32)) 1)) (by simp only [F_X3_afterYears_31, if_neg c_34, if_neg c_75, if_neg c_101, if_neg c_136]) ?_
              refine V_lp [3, 4, 5, 6, 2, 0] rfl ?_
              exact ih ((y * 16807) - (y * 16807) / 2147483647 * 2147483647) (j + 1) (F_X2_flow (F_X2_standIn s 1 1 ((((y * 16807) - (y * 16807) / 2147483647 * 2147483647) - ((y * 16807) - (y * 16807) / 2147483647 * 2147483647) / 9 * 9).toInt32)) 1) (by exact (lp_up hj c_34 hm).1) (by simp only [F_X2_rakeUp_0, F_X2_flow_0, F_X2_warmTo_0, F_X2_standIn_0]; exact hb) (by exact (lp_up hj c_34 hm).2) 
            · refine V_aload_n dX3_afterYears_139 2 rfl ?_
              refine V_get (i := 0) inlX3 rfl (W_3 hw) rfl (by decide) q_78 rfl dX3_afterYears_140 ?_
              refine V_iload dX3_afterYears_143 0 rfl ?_
              refine V_aload_n dX3_afterYears_145 2 rfl ?_
              refine V_get (i := 0) inlX3 rfl (W_3 hw) rfl (by decide) q_78 rfl dX3_afterYears_146 ?_
              refine V_iload dX3_afterYears_149 0 rfl ?_
              refine V_cV (k_X2_stockOf l G hw (F_X2_flow (F_X2_standIn s 1 1 ((((y * 16807) - (y * 16807) / 2147483647 * 2147483647) - ((y * 16807) - (y * 16807) / 2147483647 * 2147483647) / 9 * 9).toInt32)) 1) (W_21 hw) ((((y * 16807) - (y * 16807) / 2147483647 * 2147483647) - ((y * 16807) - (y * 16807) / 2147483647 * 2147483647) / ((s 2 1 0).toInt64) * ((s 2 1 0).toInt64)).toInt32) ) hy_X2_stockOf hi_X2_stockOf hs_X2_stockOf q_819 rfl rfl (W_21 hw) rfl rfl rfl rfl rfl ⟨by decide, by decide⟩ (Nat.le_of_ble_eq_true rfl) ⟨by decide, by decide⟩ dX3_afterYears_151 (V_kI ?_)
              refine V_cV (k_X2_rakeUp l G hw (F_X2_flow (F_X2_standIn s 1 1 ((((y * 16807) - (y * 16807) / 2147483647 * 2147483647) - ((y * 16807) - (y * 16807) / 2147483647 * 2147483647) / 9 * 9).toInt32)) 1) (W_21 hw) ((((y * 16807) - (y * 16807) / 2147483647 * 2147483647) - ((y * 16807) - (y * 16807) / 2147483647 * 2147483647) / ((s 2 1 0).toInt64) * ((s 2 1 0).toInt64)).toInt32) (F_X2_stockOf (F_X2_flow (F_X2_standIn s 1 1 ((((y * 16807) - (y * 16807) / 2147483647 * 2147483647) - ((y * 16807) - (y * 16807) / 2147483647 * 2147483647) / 9 * 9).toInt32)) 1) 1 ((((y * 16807) - (y * 16807) / 2147483647 * 2147483647) - ((y * 16807) - (y * 16807) / 2147483647 * 2147483647) / ((s 2 1 0).toInt64) * ((s 2 1 0).toInt64)).toInt32)) ) hy_X2_rakeUp hi_X2_rakeUp hs_X2_rakeUp q_891 rfl rfl (W_21 hw) rfl rfl rfl rfl rfl ⟨by decide, by decide⟩ (Nat.le_of_ble_eq_true rfl) ⟨by decide, by decide⟩ dX3_afterYears_154 (V_kM ?_)
              refine V_pop dX3_afterYears_157 rfl ?_
              refine V_iinc (v := (nI (j + 1))) (L2 := [(6, .int (nI (j + 1))), (7, .int ((((y * 16807) - (y * 16807) / 2147483647 * 2147483647) - ((y * 16807) - (y * 16807) / 2147483647 * 2147483647) / ((s 2 1 0).toInt64) * ((s 2 1 0).toInt64)).toInt32)), (4, .long ((y * 16807) - (y * 16807) / 2147483647 * 2147483647)), (0, .ref (ad 3 0 0)), (1, .ref (ad 2 k2 0)), (2, .int x1), (3, .int x2)]) dX3_afterYears_158 6 rfl (nI_1 _) (by decide) rfl ?_
              refine V_goto (tgt := 31) dX3_afterYears_161 (by decide) ?_
              refine V_rp (R2 := F_X3_afterYears_31 k2 x1 x2 K n ((y * 16807) - (y * 16807) / 2147483647 * 2147483647) (j + 1) ((F_X2_rakeUp (F_X2_flow (F_X2_standIn s 1 1 ((((y * 16807) - (y * 16807) / 2147483647 * 2147483647) - ((y * 16807) - (y * 16807) / 2147483647 * 2147483647) / 9 * 9).toInt32)) 1) 1 ((((y * 16807) - (y * 16807) / 2147483647 * 2147483647) - ((y * 16807) - (y * 16807) / 2147483647 * 2147483647) / ((s 2 1 0).toInt64) * ((s 2 1 0).toInt64)).toInt32) (F_X2_stockOf (F_X2_flow (F_X2_standIn s 1 1 ((((y * 16807) - (y * 16807) / 2147483647 * 2147483647) - ((y * 16807) - (y * 16807) / 2147483647 * 2147483647) / 9 * 9).toInt32)) 1) 1 ((((y * 16807) - (y * 16807) / 2147483647 * 2147483647) - ((y * 16807) - (y * 16807) / 2147483647 * 2147483647) / ((s 2 1 0).toInt64) * ((s 2 1 0).toInt64)).toInt32))).2)) (by simp only [F_X3_afterYears_31, if_neg c_34, if_neg c_75, if_neg c_101, if_pos c_136]) ?_
              refine V_lp [3, 4, 5, 6, 2, 0] rfl ?_
              exact ih ((y * 16807) - (y * 16807) / 2147483647 * 2147483647) (j + 1) ((F_X2_rakeUp (F_X2_flow (F_X2_standIn s 1 1 ((((y * 16807) - (y * 16807) / 2147483647 * 2147483647) - ((y * 16807) - (y * 16807) / 2147483647 * 2147483647) / 9 * 9).toInt32)) 1) 1 ((((y * 16807) - (y * 16807) / 2147483647 * 2147483647) - ((y * 16807) - (y * 16807) / 2147483647 * 2147483647) / ((s 2 1 0).toInt64) * ((s 2 1 0).toInt64)).toInt32) (F_X2_stockOf (F_X2_flow (F_X2_standIn s 1 1 ((((y * 16807) - (y * 16807) / 2147483647 * 2147483647) - ((y * 16807) - (y * 16807) / 2147483647 * 2147483647) / 9 * 9).toInt32)) 1) 1 ((((y * 16807) - (y * 16807) / 2147483647 * 2147483647) - ((y * 16807) - (y * 16807) / 2147483647 * 2147483647) / ((s 2 1 0).toInt64) * ((s 2 1 0).toInt64)).toInt32))).2) (by exact (lp_up hj c_34 hm).1) (by simp only [F_X2_rakeUp_0, F_X2_flow_0, F_X2_warmTo_0, F_X2_standIn_0]; exact hb) (by exact (lp_up hj c_34 hm).2) 
          · refine V_aload_n dX3_afterYears_104 2 rfl ?_
            refine V_get (i := 0) inlX3 rfl (W_3 hw) rfl (by decide) q_78 rfl dX3_afterYears_105 ?_
            refine V_iload dX3_afterYears_108 0 rfl ?_
            refine V_lload dX3_afterYears_110 1 rfl ?_
            refine V_ldc2 q_866 dX3_afterYears_112 ?_
            refine V_lrem dX3_afterYears_115 (by decide) ?_
            refine V_l2i dX3_afterYears_116 ?_
            refine V_cV (k_X2_warmTo l G hw (F_X2_standIn s 1 1 ((((y * 16807) - (y * 16807) / 2147483647 * 2147483647) - ((y * 16807) - (y * 16807) / 2147483647 * 2147483647) / 9 * 9).toInt32)) (W_21 hw) ((((y * 16807) - (y * 16807) / 2147483647 * 2147483647) - ((y * 16807) - (y * 16807) / 2147483647 * 2147483647) / ((s 2 1 0).toInt64) * ((s 2 1 0).toInt64)).toInt32) ((((y * 16807) - (y * 16807) / 2147483647 * 2147483647) - ((y * 16807) - (y * 16807) / 2147483647 * 2147483647) / 10 * 10).toInt32) ) hy_X2_warmTo hi_X2_warmTo hs_X2_warmTo q_810 rfl rfl (W_21 hw) rfl rfl rfl rfl rfl ⟨by decide, by decide⟩ (Nat.le_of_ble_eq_true rfl) ⟨by decide, by decide⟩ dX3_afterYears_117 (V_kN ?_)
            refine V_aload_n dX3_afterYears_120 2 rfl ?_
            refine V_get (i := 0) inlX3 rfl (W_3 hw) rfl (by decide) q_78 rfl dX3_afterYears_121 ?_
            refine V_cV (k_X2_flow l G hw (F_X2_warmTo (F_X2_standIn s 1 1 ((((y * 16807) - (y * 16807) / 2147483647 * 2147483647) - ((y * 16807) - (y * 16807) / 2147483647 * 2147483647) / 9 * 9).toInt32)) 1 ((((y * 16807) - (y * 16807) / 2147483647 * 2147483647) - ((y * 16807) - (y * 16807) / 2147483647 * 2147483647) / ((s 2 1 0).toInt64) * ((s 2 1 0).toInt64)).toInt32) ((((y * 16807) - (y * 16807) / 2147483647 * 2147483647) - ((y * 16807) - (y * 16807) / 2147483647 * 2147483647) / 10 * 10).toInt32)) (W_21 hw)  ) hy_X2_flow hi_X2_flow hs_X2_flow q_583 rfl rfl (W_21 hw) rfl rfl rfl rfl rfl ⟨by decide, by decide⟩ (Nat.le_of_ble_eq_true rfl) ⟨by decide, by decide⟩ dX3_afterYears_124 (V_kN ?_)
            refine V_aload_n dX3_afterYears_127 2 rfl ?_
            refine V_get (i := 0) inlX3 rfl (W_3 hw) rfl (by decide) q_78 rfl dX3_afterYears_128 ?_
            refine V_iload dX3_afterYears_131 0 rfl ?_
            refine V_cV (k_X2_hasVeto l G hw (F_X2_flow (F_X2_warmTo (F_X2_standIn s 1 1 ((((y * 16807) - (y * 16807) / 2147483647 * 2147483647) - ((y * 16807) - (y * 16807) / 2147483647 * 2147483647) / 9 * 9).toInt32)) 1 ((((y * 16807) - (y * 16807) / 2147483647 * 2147483647) - ((y * 16807) - (y * 16807) / 2147483647 * 2147483647) / ((s 2 1 0).toInt64) * ((s 2 1 0).toInt64)).toInt32) ((((y * 16807) - (y * 16807) / 2147483647 * 2147483647) - ((y * 16807) - (y * 16807) / 2147483647 * 2147483647) / 10 * 10).toInt32)) 1) (W_21 hw) ((((y * 16807) - (y * 16807) / 2147483647 * 2147483647) - ((y * 16807) - (y * 16807) / 2147483647 * 2147483647) / ((s 2 1 0).toInt64) * ((s 2 1 0).toInt64)).toInt32) ) hy_X2_hasVeto hi_X2_hasVeto hs_X2_hasVeto q_721 rfl rfl (W_21 hw) rfl rfl rfl rfl rfl ⟨by decide, by decide⟩ (Nat.le_of_ble_eq_true rfl) ⟨by decide, by decide⟩ dX3_afterYears_133 (V_kI ?_)
            refine V_if_ne (tgt := 158) dX3_afterYears_136 (by decide) (fun c_136 => ?_) (fun c_136 => ?_)
            · refine V_iinc (v := (nI (j + 1))) (L2 := [(6, .int (nI (j + 1))), (7, .int ((((y * 16807) - (y * 16807) / 2147483647 * 2147483647) - ((y * 16807) - (y * 16807) / 2147483647 * 2147483647) / ((s 2 1 0).toInt64) * ((s 2 1 0).toInt64)).toInt32)), (4, .long ((y * 16807) - (y * 16807) / 2147483647 * 2147483647)), (0, .ref (ad 3 0 0)), (1, .ref (ad 2 k2 0)), (2, .int x1), (3, .int x2)]) dX3_afterYears_158 6 rfl (nI_1 _) (by decide) rfl ?_
              refine V_goto (tgt := 31) dX3_afterYears_161 (by decide) ?_
              refine V_rp (R2 := F_X3_afterYears_31 k2 x1 x2 K n ((y * 16807) - (y * 16807) / 2147483647 * 2147483647) (j + 1) (F_X2_flow (F_X2_warmTo (F_X2_standIn s 1 1 ((((y * 16807) - (y * 16807) / 2147483647 * 2147483647) - ((y * 16807) - (y * 16807) / 2147483647 * 2147483647) / 9 * 9).toInt32)) 1 ((((y * 16807) - (y * 16807) / 2147483647 * 2147483647) - ((y * 16807) - (y * 16807) / 2147483647 * 2147483647) / ((s 2 1 0).toInt64) * ((s 2 1 0).toInt64)).toInt32) ((((y * 16807) - (y * 16807) / 2147483647 * 2147483647) - ((y * 16807) - (y * 16807) / 2147483647 * 2147483647) / 10 * 10).toInt32)) 1)) (by simp only [F_X3_afterYears_31, if_neg c_34, if_neg c_75, if_pos c_101, if_neg c_136]) ?_
              refine V_lp [3, 4, 5, 6, 2, 0] rfl ?_
              exact ih ((y * 16807) - (y * 16807) / 2147483647 * 2147483647) (j + 1) (F_X2_flow (F_X2_warmTo (F_X2_standIn s 1 1 ((((y * 16807) - (y * 16807) / 2147483647 * 2147483647) - ((y * 16807) - (y * 16807) / 2147483647 * 2147483647) / 9 * 9).toInt32)) 1 ((((y * 16807) - (y * 16807) / 2147483647 * 2147483647) - ((y * 16807) - (y * 16807) / 2147483647 * 2147483647) / ((s 2 1 0).toInt64) * ((s 2 1 0).toInt64)).toInt32) ((((y * 16807) - (y * 16807) / 2147483647 * 2147483647) - ((y * 16807) - (y * 16807) / 2147483647 * 2147483647) / 10 * 10).toInt32)) 1) (by exact (lp_up hj c_34 hm).1) (by simp only [F_X2_rakeUp_0, F_X2_flow_0, F_X2_warmTo_0, F_X2_standIn_0]; exact hb) (by exact (lp_up hj c_34 hm).2) 
            · refine V_aload_n dX3_afterYears_139 2 rfl ?_
              refine V_get (i := 0) inlX3 rfl (W_3 hw) rfl (by decide) q_78 rfl dX3_afterYears_140 ?_
              refine V_iload dX3_afterYears_143 0 rfl ?_
              refine V_aload_n dX3_afterYears_145 2 rfl ?_
              refine V_get (i := 0) inlX3 rfl (W_3 hw) rfl (by decide) q_78 rfl dX3_afterYears_146 ?_
              refine V_iload dX3_afterYears_149 0 rfl ?_
              refine V_cV (k_X2_stockOf l G hw (F_X2_flow (F_X2_warmTo (F_X2_standIn s 1 1 ((((y * 16807) - (y * 16807) / 2147483647 * 2147483647) - ((y * 16807) - (y * 16807) / 2147483647 * 2147483647) / 9 * 9).toInt32)) 1 ((((y * 16807) - (y * 16807) / 2147483647 * 2147483647) - ((y * 16807) - (y * 16807) / 2147483647 * 2147483647) / ((s 2 1 0).toInt64) * ((s 2 1 0).toInt64)).toInt32) ((((y * 16807) - (y * 16807) / 2147483647 * 2147483647) - ((y * 16807) - (y * 16807) / 2147483647 * 2147483647) / 10 * 10).toInt32)) 1) (W_21 hw) ((((y * 16807) - (y * 16807) / 2147483647 * 2147483647) - ((y * 16807) - (y * 16807) / 2147483647 * 2147483647) / ((s 2 1 0).toInt64) * ((s 2 1 0).toInt64)).toInt32) ) hy_X2_stockOf hi_X2_stockOf hs_X2_stockOf q_819 rfl rfl (W_21 hw) rfl rfl rfl rfl rfl ⟨by decide, by decide⟩ (Nat.le_of_ble_eq_true rfl) ⟨by decide, by decide⟩ dX3_afterYears_151 (V_kI ?_)
              refine V_cV (k_X2_rakeUp l G hw (F_X2_flow (F_X2_warmTo (F_X2_standIn s 1 1 ((((y * 16807) - (y * 16807) / 2147483647 * 2147483647) - ((y * 16807) - (y * 16807) / 2147483647 * 2147483647) / 9 * 9).toInt32)) 1 ((((y * 16807) - (y * 16807) / 2147483647 * 2147483647) - ((y * 16807) - (y * 16807) / 2147483647 * 2147483647) / ((s 2 1 0).toInt64) * ((s 2 1 0).toInt64)).toInt32) ((((y * 16807) - (y * 16807) / 2147483647 * 2147483647) - ((y * 16807) - (y * 16807) / 2147483647 * 2147483647) / 10 * 10).toInt32)) 1) (W_21 hw) ((((y * 16807) - (y * 16807) / 2147483647 * 2147483647) - ((y * 16807) - (y * 16807) / 2147483647 * 2147483647) / ((s 2 1 0).toInt64) * ((s 2 1 0).toInt64)).toInt32) (F_X2_stockOf (F_X2_flow (F_X2_warmTo (F_X2_standIn s 1 1 ((((y * 16807) - (y * 16807) / 2147483647 * 2147483647) - ((y * 16807) - (y * 16807) / 2147483647 * 2147483647) / 9 * 9).toInt32)) 1 ((((y * 16807) - (y * 16807) / 2147483647 * 2147483647) - ((y * 16807) - (y * 16807) / 2147483647 * 2147483647) / ((s 2 1 0).toInt64) * ((s 2 1 0).toInt64)).toInt32) ((((y * 16807) - (y * 16807) / 2147483647 * 2147483647) - ((y * 16807) - (y * 16807) / 2147483647 * 2147483647) / 10 * 10).toInt32)) 1) 1 ((((y * 16807) - (y * 16807) / 2147483647 * 2147483647) - ((y * 16807) - (y * 16807) / 2147483647 * 2147483647) / ((s 2 1 0).toInt64) * ((s 2 1 0).toInt64)).toInt32)) ) hy_X2_rakeUp hi_X2_rakeUp hs_X2_rakeUp q_891 rfl rfl (W_21 hw) rfl rfl rfl rfl rfl ⟨by decide, by decide⟩ (Nat.le_of_ble_eq_true rfl) ⟨by decide, by decide⟩ dX3_afterYears_154 (V_kM ?_)
              refine V_pop dX3_afterYears_157 rfl ?_
              refine V_iinc (v := (nI (j + 1))) (L2 := [(6, .int (nI (j + 1))), (7, .int ((((y * 16807) - (y * 16807) / 2147483647 * 2147483647) - ((y * 16807) - (y * 16807) / 2147483647 * 2147483647) / ((s 2 1 0).toInt64) * ((s 2 1 0).toInt64)).toInt32)), (4, .long ((y * 16807) - (y * 16807) / 2147483647 * 2147483647)), (0, .ref (ad 3 0 0)), (1, .ref (ad 2 k2 0)), (2, .int x1), (3, .int x2)]) dX3_afterYears_158 6 rfl (nI_1 _) (by decide) rfl ?_
              refine V_goto (tgt := 31) dX3_afterYears_161 (by decide) ?_
              refine V_rp (R2 := F_X3_afterYears_31 k2 x1 x2 K n ((y * 16807) - (y * 16807) / 2147483647 * 2147483647) (j + 1) ((F_X2_rakeUp (F_X2_flow (F_X2_warmTo (F_X2_standIn s 1 1 ((((y * 16807) - (y * 16807) / 2147483647 * 2147483647) - ((y * 16807) - (y * 16807) / 2147483647 * 2147483647) / 9 * 9).toInt32)) 1 ((((y * 16807) - (y * 16807) / 2147483647 * 2147483647) - ((y * 16807) - (y * 16807) / 2147483647 * 2147483647) / ((s 2 1 0).toInt64) * ((s 2 1 0).toInt64)).toInt32) ((((y * 16807) - (y * 16807) / 2147483647 * 2147483647) - ((y * 16807) - (y * 16807) / 2147483647 * 2147483647) / 10 * 10).toInt32)) 1) 1 ((((y * 16807) - (y * 16807) / 2147483647 * 2147483647) - ((y * 16807) - (y * 16807) / 2147483647 * 2147483647) / ((s 2 1 0).toInt64) * ((s 2 1 0).toInt64)).toInt32) (F_X2_stockOf (F_X2_flow (F_X2_warmTo (F_X2_standIn s 1 1 ((((y * 16807) - (y * 16807) / 2147483647 * 2147483647) - ((y * 16807) - (y * 16807) / 2147483647 * 2147483647) / 9 * 9).toInt32)) 1 ((((y * 16807) - (y * 16807) / 2147483647 * 2147483647) - ((y * 16807) - (y * 16807) / 2147483647 * 2147483647) / ((s 2 1 0).toInt64) * ((s 2 1 0).toInt64)).toInt32) ((((y * 16807) - (y * 16807) / 2147483647 * 2147483647) - ((y * 16807) - (y * 16807) / 2147483647 * 2147483647) / 10 * 10).toInt32)) 1) 1 ((((y * 16807) - (y * 16807) / 2147483647 * 2147483647) - ((y * 16807) - (y * 16807) / 2147483647 * 2147483647) / ((s 2 1 0).toInt64) * ((s 2 1 0).toInt64)).toInt32))).2)) (by simp only [F_X3_afterYears_31, if_neg c_34, if_neg c_75, if_pos c_101, if_pos c_136]) ?_
              refine V_lp [3, 4, 5, 6, 2, 0] rfl ?_
              exact ih ((y * 16807) - (y * 16807) / 2147483647 * 2147483647) (j + 1) ((F_X2_rakeUp (F_X2_flow (F_X2_warmTo (F_X2_standIn s 1 1 ((((y * 16807) - (y * 16807) / 2147483647 * 2147483647) - ((y * 16807) - (y * 16807) / 2147483647 * 2147483647) / 9 * 9).toInt32)) 1 ((((y * 16807) - (y * 16807) / 2147483647 * 2147483647) - ((y * 16807) - (y * 16807) / 2147483647 * 2147483647) / ((s 2 1 0).toInt64) * ((s 2 1 0).toInt64)).toInt32) ((((y * 16807) - (y * 16807) / 2147483647 * 2147483647) - ((y * 16807) - (y * 16807) / 2147483647 * 2147483647) / 10 * 10).toInt32)) 1) 1 ((((y * 16807) - (y * 16807) / 2147483647 * 2147483647) - ((y * 16807) - (y * 16807) / 2147483647 * 2147483647) / ((s 2 1 0).toInt64) * ((s 2 1 0).toInt64)).toInt32) (F_X2_stockOf (F_X2_flow (F_X2_warmTo (F_X2_standIn s 1 1 ((((y * 16807) - (y * 16807) / 2147483647 * 2147483647) - ((y * 16807) - (y * 16807) / 2147483647 * 2147483647) / 9 * 9).toInt32)) 1 ((((y * 16807) - (y * 16807) / 2147483647 * 2147483647) - ((y * 16807) - (y * 16807) / 2147483647 * 2147483647) / ((s 2 1 0).toInt64) * ((s 2 1 0).toInt64)).toInt32) ((((y * 16807) - (y * 16807) / 2147483647 * 2147483647) - ((y * 16807) - (y * 16807) / 2147483647 * 2147483647) / 10 * 10).toInt32)) 1) 1 ((((y * 16807) - (y * 16807) / 2147483647 * 2147483647) - ((y * 16807) - (y * 16807) / 2147483647 * 2147483647) / ((s 2 1 0).toInt64) * ((s 2 1 0).toInt64)).toInt32))).2) (by exact (lp_up hj c_34 hm).1) (by simp only [F_X2_rakeUp_0, F_X2_flow_0, F_X2_warmTo_0, F_X2_standIn_0]; exact hb) (by exact (lp_up hj c_34 hm).2) 
        · refine V_iconst (v := 0) dX3_afterYears_78 (by decide) ?_
          refine V_goto (tgt := 83) dX3_afterYears_79 (by decide) ?_
          refine V_lload dX3_afterYears_83 1 rfl ?_
          refine V_ldc2 q_889 dX3_afterYears_85 ?_
          refine V_lrem dX3_afterYears_88 (by decide) ?_
          refine V_l2i dX3_afterYears_89 ?_
          refine V_cV (k_X2_standIn l G hw s (W_21 hw) 0 ((((y * 16807) - (y * 16807) / 2147483647 * 2147483647) - ((y * 16807) - (y * 16807) / 2147483647 * 2147483647) / 9 * 9).toInt32) ) hy_X2_standIn hi_X2_standIn hs_X2_standIn q_650 rfl rfl (W_21 hw) rfl rfl rfl rfl rfl ⟨by decide, by decide⟩ (Nat.le_of_ble_eq_true rfl) ⟨by decide, by decide⟩ dX3_afterYears_90 (V_kN ?_)
          refine V_lload dX3_afterYears_93 1 rfl ?_
          refine V_ldc2 q_890 dX3_afterYears_95 ?_
          refine V_lrem dX3_afterYears_98 (by decide) ?_
          refine V_lconst (v := 0) dX3_afterYears_99 (by decide) ?_
          refine V_lcmp dX3_afterYears_100 ?_
          refine V_if_ne (tgt := 120) dX3_afterYears_101 (by decide) (fun c_101 => ?_) (fun c_101 => ?_)
          · refine V_aload_n dX3_afterYears_120 2 rfl ?_
            refine V_get (i := 0) inlX3 rfl (W_3 hw) rfl (by decide) q_78 rfl dX3_afterYears_121 ?_
            refine V_cV (k_X2_flow l G hw (F_X2_standIn s 1 0 ((((y * 16807) - (y * 16807) / 2147483647 * 2147483647) - ((y * 16807) - (y * 16807) / 2147483647 * 2147483647) / 9 * 9).toInt32)) (W_21 hw)  ) hy_X2_flow hi_X2_flow hs_X2_flow q_583 rfl rfl (W_21 hw) rfl rfl rfl rfl rfl ⟨by decide, by decide⟩ (Nat.le_of_ble_eq_true rfl) ⟨by decide, by decide⟩ dX3_afterYears_124 (V_kN ?_)
            refine V_aload_n dX3_afterYears_127 2 rfl ?_
            refine V_get (i := 0) inlX3 rfl (W_3 hw) rfl (by decide) q_78 rfl dX3_afterYears_128 ?_
            refine V_iload dX3_afterYears_131 0 rfl ?_
            refine V_cV (k_X2_hasVeto l G hw (F_X2_flow (F_X2_standIn s 1 0 ((((y * 16807) - (y * 16807) / 2147483647 * 2147483647) - ((y * 16807) - (y * 16807) / 2147483647 * 2147483647) / 9 * 9).toInt32)) 1) (W_21 hw) ((((y * 16807) - (y * 16807) / 2147483647 * 2147483647) - ((y * 16807) - (y * 16807) / 2147483647 * 2147483647) / ((s 2 1 0).toInt64) * ((s 2 1 0).toInt64)).toInt32) ) hy_X2_hasVeto hi_X2_hasVeto hs_X2_hasVeto q_721 rfl rfl (W_21 hw) rfl rfl rfl rfl rfl ⟨by decide, by decide⟩ (Nat.le_of_ble_eq_true rfl) ⟨by decide, by decide⟩ dX3_afterYears_133 (V_kI ?_)
            refine V_if_ne (tgt := 158) dX3_afterYears_136 (by decide) (fun c_136 => ?_) (fun c_136 => ?_)
            · refine V_iinc (v := (nI (j + 1))) (L2 := [(6, .int (nI (j + 1))), (7, .int ((((y * 16807) - (y * 16807) / 2147483647 * 2147483647) - ((y * 16807) - (y * 16807) / 2147483647 * 2147483647) / ((s 2 1 0).toInt64) * ((s 2 1 0).toInt64)).toInt32)), (4, .long ((y * 16807) - (y * 16807) / 2147483647 * 2147483647)), (0, .ref (ad 3 0 0)), (1, .ref (ad 2 k2 0)), (2, .int x1), (3, .int x2)]) dX3_afterYears_158 6 rfl (nI_1 _) (by decide) rfl ?_
              refine V_goto (tgt := 31) dX3_afterYears_161 (by decide) ?_
              refine V_rp (R2 := F_X3_afterYears_31 k2 x1 x2 K n ((y * 16807) - (y * 16807) / 2147483647 * 2147483647) (j + 1) (F_X2_flow (F_X2_standIn s 1 0 ((((y * 16807) - (y * 16807) / 2147483647 * 2147483647) - ((y * 16807) - (y * 16807) / 2147483647 * 2147483647) / 9 * 9).toInt32)) 1)) (by simp only [F_X3_afterYears_31, if_neg c_34, if_pos c_75, if_neg c_101, if_neg c_136]) ?_
              refine V_lp [3, 4, 5, 6, 2, 0] rfl ?_
              exact ih ((y * 16807) - (y * 16807) / 2147483647 * 2147483647) (j + 1) (F_X2_flow (F_X2_standIn s 1 0 ((((y * 16807) - (y * 16807) / 2147483647 * 2147483647) - ((y * 16807) - (y * 16807) / 2147483647 * 2147483647) / 9 * 9).toInt32)) 1) (by exact (lp_up hj c_34 hm).1) (by simp only [F_X2_rakeUp_0, F_X2_flow_0, F_X2_warmTo_0, F_X2_standIn_0]; exact hb) (by exact (lp_up hj c_34 hm).2) 
            · refine V_aload_n dX3_afterYears_139 2 rfl ?_
              refine V_get (i := 0) inlX3 rfl (W_3 hw) rfl (by decide) q_78 rfl dX3_afterYears_140 ?_
              refine V_iload dX3_afterYears_143 0 rfl ?_
              refine V_aload_n dX3_afterYears_145 2 rfl ?_
              refine V_get (i := 0) inlX3 rfl (W_3 hw) rfl (by decide) q_78 rfl dX3_afterYears_146 ?_
              refine V_iload dX3_afterYears_149 0 rfl ?_
              refine V_cV (k_X2_stockOf l G hw (F_X2_flow (F_X2_standIn s 1 0 ((((y * 16807) - (y * 16807) / 2147483647 * 2147483647) - ((y * 16807) - (y * 16807) / 2147483647 * 2147483647) / 9 * 9).toInt32)) 1) (W_21 hw) ((((y * 16807) - (y * 16807) / 2147483647 * 2147483647) - ((y * 16807) - (y * 16807) / 2147483647 * 2147483647) / ((s 2 1 0).toInt64) * ((s 2 1 0).toInt64)).toInt32) ) hy_X2_stockOf hi_X2_stockOf hs_X2_stockOf q_819 rfl rfl (W_21 hw) rfl rfl rfl rfl rfl ⟨by decide, by decide⟩ (Nat.le_of_ble_eq_true rfl) ⟨by decide, by decide⟩ dX3_afterYears_151 (V_kI ?_)
              refine V_cV (k_X2_rakeUp l G hw (F_X2_flow (F_X2_standIn s 1 0 ((((y * 16807) - (y * 16807) / 2147483647 * 2147483647) - ((y * 16807) - (y * 16807) / 2147483647 * 2147483647) / 9 * 9).toInt32)) 1) (W_21 hw) ((((y * 16807) - (y * 16807) / 2147483647 * 2147483647) - ((y * 16807) - (y * 16807) / 2147483647 * 2147483647) / ((s 2 1 0).toInt64) * ((s 2 1 0).toInt64)).toInt32) (F_X2_stockOf (F_X2_flow (F_X2_standIn s 1 0 ((((y * 16807) - (y * 16807) / 2147483647 * 2147483647) - ((y * 16807) - (y * 16807) / 2147483647 * 2147483647) / 9 * 9).toInt32)) 1) 1 ((((y * 16807) - (y * 16807) / 2147483647 * 2147483647) - ((y * 16807) - (y * 16807) / 2147483647 * 2147483647) / ((s 2 1 0).toInt64) * ((s 2 1 0).toInt64)).toInt32)) ) hy_X2_rakeUp hi_X2_rakeUp hs_X2_rakeUp q_891 rfl rfl (W_21 hw) rfl rfl rfl rfl rfl ⟨by decide, by decide⟩ (Nat.le_of_ble_eq_true rfl) ⟨by decide, by decide⟩ dX3_afterYears_154 (V_kM ?_)
              refine V_pop dX3_afterYears_157 rfl ?_
              refine V_iinc (v := (nI (j + 1))) (L2 := [(6, .int (nI (j + 1))), (7, .int ((((y * 16807) - (y * 16807) / 2147483647 * 2147483647) - ((y * 16807) - (y * 16807) / 2147483647 * 2147483647) / ((s 2 1 0).toInt64) * ((s 2 1 0).toInt64)).toInt32)), (4, .long ((y * 16807) - (y * 16807) / 2147483647 * 2147483647)), (0, .ref (ad 3 0 0)), (1, .ref (ad 2 k2 0)), (2, .int x1), (3, .int x2)]) dX3_afterYears_158 6 rfl (nI_1 _) (by decide) rfl ?_
              refine V_goto (tgt := 31) dX3_afterYears_161 (by decide) ?_
              refine V_rp (R2 := F_X3_afterYears_31 k2 x1 x2 K n ((y * 16807) - (y * 16807) / 2147483647 * 2147483647) (j + 1) ((F_X2_rakeUp (F_X2_flow (F_X2_standIn s 1 0 ((((y * 16807) - (y * 16807) / 2147483647 * 2147483647) - ((y * 16807) - (y * 16807) / 2147483647 * 2147483647) / 9 * 9).toInt32)) 1) 1 ((((y * 16807) - (y * 16807) / 2147483647 * 2147483647) - ((y * 16807) - (y * 16807) / 2147483647 * 2147483647) / ((s 2 1 0).toInt64) * ((s 2 1 0).toInt64)).toInt32) (F_X2_stockOf (F_X2_flow (F_X2_standIn s 1 0 ((((y * 16807) - (y * 16807) / 2147483647 * 2147483647) - ((y * 16807) - (y * 16807) / 2147483647 * 2147483647) / 9 * 9).toInt32)) 1) 1 ((((y * 16807) - (y * 16807) / 2147483647 * 2147483647) - ((y * 16807) - (y * 16807) / 2147483647 * 2147483647) / ((s 2 1 0).toInt64) * ((s 2 1 0).toInt64)).toInt32))).2)) (by simp only [F_X3_afterYears_31, if_neg c_34, if_pos c_75, if_neg c_101, if_pos c_136]) ?_
              refine V_lp [3, 4, 5, 6, 2, 0] rfl ?_
              exact ih ((y * 16807) - (y * 16807) / 2147483647 * 2147483647) (j + 1) ((F_X2_rakeUp (F_X2_flow (F_X2_standIn s 1 0 ((((y * 16807) - (y * 16807) / 2147483647 * 2147483647) - ((y * 16807) - (y * 16807) / 2147483647 * 2147483647) / 9 * 9).toInt32)) 1) 1 ((((y * 16807) - (y * 16807) / 2147483647 * 2147483647) - ((y * 16807) - (y * 16807) / 2147483647 * 2147483647) / ((s 2 1 0).toInt64) * ((s 2 1 0).toInt64)).toInt32) (F_X2_stockOf (F_X2_flow (F_X2_standIn s 1 0 ((((y * 16807) - (y * 16807) / 2147483647 * 2147483647) - ((y * 16807) - (y * 16807) / 2147483647 * 2147483647) / 9 * 9).toInt32)) 1) 1 ((((y * 16807) - (y * 16807) / 2147483647 * 2147483647) - ((y * 16807) - (y * 16807) / 2147483647 * 2147483647) / ((s 2 1 0).toInt64) * ((s 2 1 0).toInt64)).toInt32))).2) (by exact (lp_up hj c_34 hm).1) (by simp only [F_X2_rakeUp_0, F_X2_flow_0, F_X2_warmTo_0, F_X2_standIn_0]; exact hb) (by exact (lp_up hj c_34 hm).2) 
          · refine V_aload_n dX3_afterYears_104 2 rfl ?_
            refine V_get (i := 0) inlX3 rfl (W_3 hw) rfl (by decide) q_78 rfl dX3_afterYears_105 ?_
            refine V_iload dX3_afterYears_108 0 rfl ?_
            refine V_lload dX3_afterYears_110 1 rfl ?_
            refine V_ldc2 q_866 dX3_afterYears_112 ?_
            refine V_lrem dX3_afterYears_115 (by decide) ?_
            refine V_l2i dX3_afterYears_116 ?_
            refine V_cV (k_X2_warmTo l G hw (F_X2_standIn s 1 0 ((((y * 16807) - (y * 16807) / 2147483647 * 2147483647) - ((y * 16807) - (y * 16807) / 2147483647 * 2147483647) / 9 * 9).toInt32)) (W_21 hw) ((((y * 16807) - (y * 16807) / 2147483647 * 2147483647) - ((y * 16807) - (y * 16807) / 2147483647 * 2147483647) / ((s 2 1 0).toInt64) * ((s 2 1 0).toInt64)).toInt32) ((((y * 16807) - (y * 16807) / 2147483647 * 2147483647) - ((y * 16807) - (y * 16807) / 2147483647 * 2147483647) / 10 * 10).toInt32) ) hy_X2_warmTo hi_X2_warmTo hs_X2_warmTo q_810 rfl rfl (W_21 hw) rfl rfl rfl rfl rfl ⟨by decide, by decide⟩ (Nat.le_of_ble_eq_true rfl) ⟨by decide, by decide⟩ dX3_afterYears_117 (V_kN ?_)
            refine V_aload_n dX3_afterYears_120 2 rfl ?_
            refine V_get (i := 0) inlX3 rfl (W_3 hw) rfl (by decide) q_78 rfl dX3_afterYears_121 ?_
            refine V_cV (k_X2_flow l G hw (F_X2_warmTo (F_X2_standIn s 1 0 ((((y * 16807) - (y * 16807) / 2147483647 * 2147483647) - ((y * 16807) - (y * 16807) / 2147483647 * 2147483647) / 9 * 9).toInt32)) 1 ((((y * 16807) - (y * 16807) / 2147483647 * 2147483647) - ((y * 16807) - (y * 16807) / 2147483647 * 2147483647) / ((s 2 1 0).toInt64) * ((s 2 1 0).toInt64)).toInt32) ((((y * 16807) - (y * 16807) / 2147483647 * 2147483647) - ((y * 16807) - (y * 16807) / 2147483647 * 2147483647) / 10 * 10).toInt32)) (W_21 hw)  ) hy_X2_flow hi_X2_flow hs_X2_flow q_583 rfl rfl (W_21 hw) rfl rfl rfl rfl rfl ⟨by decide, by decide⟩ (Nat.le_of_ble_eq_true rfl) ⟨by decide, by decide⟩ dX3_afterYears_124 (V_kN ?_)
            refine V_aload_n dX3_afterYears_127 2 rfl ?_
            refine V_get (i := 0) inlX3 rfl (W_3 hw) rfl (by decide) q_78 rfl dX3_afterYears_128 ?_
            refine V_iload dX3_afterYears_131 0 rfl ?_
            refine V_cV (k_X2_hasVeto l G hw (F_X2_flow (F_X2_warmTo (F_X2_standIn s 1 0 ((((y * 16807) - (y * 16807) / 2147483647 * 2147483647) - ((y * 16807) - (y * 16807) / 2147483647 * 2147483647) / 9 * 9).toInt32)) 1 ((((y * 16807) - (y * 16807) / 2147483647 * 2147483647) - ((y * 16807) - (y * 16807) / 2147483647 * 2147483647) / ((s 2 1 0).toInt64) * ((s 2 1 0).toInt64)).toInt32) ((((y * 16807) - (y * 16807) / 2147483647 * 2147483647) - ((y * 16807) - (y * 16807) / 2147483647 * 2147483647) / 10 * 10).toInt32)) 1) (W_21 hw) ((((y * 16807) - (y * 16807) / 2147483647 * 2147483647) - ((y * 16807) - (y * 16807) / 2147483647 * 2147483647) / ((s 2 1 0).toInt64) * ((s 2 1 0).toInt64)).toInt32) ) hy_X2_hasVeto hi_X2_hasVeto hs_X2_hasVeto q_721 rfl rfl (W_21 hw) rfl rfl rfl rfl rfl ⟨by decide, by decide⟩ (Nat.le_of_ble_eq_true rfl) ⟨by decide, by decide⟩ dX3_afterYears_133 (V_kI ?_)
            refine V_if_ne (tgt := 158) dX3_afterYears_136 (by decide) (fun c_136 => ?_) (fun c_136 => ?_)
            · refine V_iinc (v := (nI (j + 1))) (L2 := [(6, .int (nI (j + 1))), (7, .int ((((y * 16807) - (y * 16807) / 2147483647 * 2147483647) - ((y * 16807) - (y * 16807) / 2147483647 * 2147483647) / ((s 2 1 0).toInt64) * ((s 2 1 0).toInt64)).toInt32)), (4, .long ((y * 16807) - (y * 16807) / 2147483647 * 2147483647)), (0, .ref (ad 3 0 0)), (1, .ref (ad 2 k2 0)), (2, .int x1), (3, .int x2)]) dX3_afterYears_158 6 rfl (nI_1 _) (by decide) rfl ?_
              refine V_goto (tgt := 31) dX3_afterYears_161 (by decide) ?_
              refine V_rp (R2 := F_X3_afterYears_31 k2 x1 x2 K n ((y * 16807) - (y * 16807) / 2147483647 * 2147483647) (j + 1) (F_X2_flow (F_X2_warmTo (F_X2_standIn s 1 0 ((((y * 16807) - (y * 16807) / 2147483647 * 2147483647) - ((y * 16807) - (y * 16807) / 2147483647 * 2147483647) / 9 * 9).toInt32)) 1 ((((y * 16807) - (y * 16807) / 2147483647 * 2147483647) - ((y * 16807) - (y * 16807) / 2147483647 * 2147483647) / ((s 2 1 0).toInt64) * ((s 2 1 0).toInt64)).toInt32) ((((y * 16807) - (y * 16807) / 2147483647 * 2147483647) - ((y * 16807) - (y * 16807) / 2147483647 * 2147483647) / 10 * 10).toInt32)) 1)) (by simp only [F_X3_afterYears_31, if_neg c_34, if_pos c_75, if_pos c_101, if_neg c_136]) ?_
              refine V_lp [3, 4, 5, 6, 2, 0] rfl ?_
              exact ih ((y * 16807) - (y * 16807) / 2147483647 * 2147483647) (j + 1) (F_X2_flow (F_X2_warmTo (F_X2_standIn s 1 0 ((((y * 16807) - (y * 16807) / 2147483647 * 2147483647) - ((y * 16807) - (y * 16807) / 2147483647 * 2147483647) / 9 * 9).toInt32)) 1 ((((y * 16807) - (y * 16807) / 2147483647 * 2147483647) - ((y * 16807) - (y * 16807) / 2147483647 * 2147483647) / ((s 2 1 0).toInt64) * ((s 2 1 0).toInt64)).toInt32) ((((y * 16807) - (y * 16807) / 2147483647 * 2147483647) - ((y * 16807) - (y * 16807) / 2147483647 * 2147483647) / 10 * 10).toInt32)) 1) (by exact (lp_up hj c_34 hm).1) (by simp only [F_X2_rakeUp_0, F_X2_flow_0, F_X2_warmTo_0, F_X2_standIn_0]; exact hb) (by exact (lp_up hj c_34 hm).2) 
            · refine V_aload_n dX3_afterYears_139 2 rfl ?_
              refine V_get (i := 0) inlX3 rfl (W_3 hw) rfl (by decide) q_78 rfl dX3_afterYears_140 ?_
              refine V_iload dX3_afterYears_143 0 rfl ?_
              refine V_aload_n dX3_afterYears_145 2 rfl ?_
              refine V_get (i := 0) inlX3 rfl (W_3 hw) rfl (by decide) q_78 rfl dX3_afterYears_146 ?_
              refine V_iload dX3_afterYears_149 0 rfl ?_
              refine V_cV (k_X2_stockOf l G hw (F_X2_flow (F_X2_warmTo (F_X2_standIn s 1 0 ((((y * 16807) - (y * 16807) / 2147483647 * 2147483647) - ((y * 16807) - (y * 16807) / 2147483647 * 2147483647) / 9 * 9).toInt32)) 1 ((((y * 16807) - (y * 16807) / 2147483647 * 2147483647) - ((y * 16807) - (y * 16807) / 2147483647 * 2147483647) / ((s 2 1 0).toInt64) * ((s 2 1 0).toInt64)).toInt32) ((((y * 16807) - (y * 16807) / 2147483647 * 2147483647) - ((y * 16807) - (y * 16807) / 2147483647 * 2147483647) / 10 * 10).toInt32)) 1) (W_21 hw) ((((y * 16807) - (y * 16807) / 2147483647 * 2147483647) - ((y * 16807) - (y * 16807) / 2147483647 * 2147483647) / ((s 2 1 0).toInt64) * ((s 2 1 0).toInt64)).toInt32) ) hy_X2_stockOf hi_X2_stockOf hs_X2_stockOf q_819 rfl rfl (W_21 hw) rfl rfl rfl rfl rfl ⟨by decide, by decide⟩ (Nat.le_of_ble_eq_true rfl) ⟨by decide, by decide⟩ dX3_afterYears_151 (V_kI ?_)
              refine V_cV (k_X2_rakeUp l G hw (F_X2_flow (F_X2_warmTo (F_X2_standIn s 1 0 ((((y * 16807) - (y * 16807) / 2147483647 * 2147483647) - ((y * 16807) - (y * 16807) / 2147483647 * 2147483647) / 9 * 9).toInt32)) 1 ((((y * 16807) - (y * 16807) / 2147483647 * 2147483647) - ((y * 16807) - (y * 16807) / 2147483647 * 2147483647) / ((s 2 1 0).toInt64) * ((s 2 1 0).toInt64)).toInt32) ((((y * 16807) - (y * 16807) / 2147483647 * 2147483647) - ((y * 16807) - (y * 16807) / 2147483647 * 2147483647) / 10 * 10).toInt32)) 1) (W_21 hw) ((((y * 16807) - (y * 16807) / 2147483647 * 2147483647) - ((y * 16807) - (y * 16807) / 2147483647 * 2147483647) / ((s 2 1 0).toInt64) * ((s 2 1 0).toInt64)).toInt32) (F_X2_stockOf (F_X2_flow (F_X2_warmTo (F_X2_standIn s 1 0 ((((y * 16807) - (y * 16807) / 2147483647 * 2147483647) - ((y * 16807) - (y * 16807) / 2147483647 * 2147483647) / 9 * 9).toInt32)) 1 ((((y * 16807) - (y * 16807) / 2147483647 * 2147483647) - ((y * 16807) - (y * 16807) / 2147483647 * 2147483647) / ((s 2 1 0).toInt64) * ((s 2 1 0).toInt64)).toInt32) ((((y * 16807) - (y * 16807) / 2147483647 * 2147483647) - ((y * 16807) - (y * 16807) / 2147483647 * 2147483647) / 10 * 10).toInt32)) 1) 1 ((((y * 16807) - (y * 16807) / 2147483647 * 2147483647) - ((y * 16807) - (y * 16807) / 2147483647 * 2147483647) / ((s 2 1 0).toInt64) * ((s 2 1 0).toInt64)).toInt32)) ) hy_X2_rakeUp hi_X2_rakeUp hs_X2_rakeUp q_891 rfl rfl (W_21 hw) rfl rfl rfl rfl rfl ⟨by decide, by decide⟩ (Nat.le_of_ble_eq_true rfl) ⟨by decide, by decide⟩ dX3_afterYears_154 (V_kM ?_)
              refine V_pop dX3_afterYears_157 rfl ?_
              refine V_iinc (v := (nI (j + 1))) (L2 := [(6, .int (nI (j + 1))), (7, .int ((((y * 16807) - (y * 16807) / 2147483647 * 2147483647) - ((y * 16807) - (y * 16807) / 2147483647 * 2147483647) / ((s 2 1 0).toInt64) * ((s 2 1 0).toInt64)).toInt32)), (4, .long ((y * 16807) - (y * 16807) / 2147483647 * 2147483647)), (0, .ref (ad 3 0 0)), (1, .ref (ad 2 k2 0)), (2, .int x1), (3, .int x2)]) dX3_afterYears_158 6 rfl (nI_1 _) (by decide) rfl ?_
              refine V_goto (tgt := 31) dX3_afterYears_161 (by decide) ?_
              refine V_rp (R2 := F_X3_afterYears_31 k2 x1 x2 K n ((y * 16807) - (y * 16807) / 2147483647 * 2147483647) (j + 1) ((F_X2_rakeUp (F_X2_flow (F_X2_warmTo (F_X2_standIn s 1 0 ((((y * 16807) - (y * 16807) / 2147483647 * 2147483647) - ((y * 16807) - (y * 16807) / 2147483647 * 2147483647) / 9 * 9).toInt32)) 1 ((((y * 16807) - (y * 16807) / 2147483647 * 2147483647) - ((y * 16807) - (y * 16807) / 2147483647 * 2147483647) / ((s 2 1 0).toInt64) * ((s 2 1 0).toInt64)).toInt32) ((((y * 16807) - (y * 16807) / 2147483647 * 2147483647) - ((y * 16807) - (y * 16807) / 2147483647 * 2147483647) / 10 * 10).toInt32)) 1) 1 ((((y * 16807) - (y * 16807) / 2147483647 * 2147483647) - ((y * 16807) - (y * 16807) / 2147483647 * 2147483647) / ((s 2 1 0).toInt64) * ((s 2 1 0).toInt64)).toInt32) (F_X2_stockOf (F_X2_flow (F_X2_warmTo (F_X2_standIn s 1 0 ((((y * 16807) - (y * 16807) / 2147483647 * 2147483647) - ((y * 16807) - (y * 16807) / 2147483647 * 2147483647) / 9 * 9).toInt32)) 1 ((((y * 16807) - (y * 16807) / 2147483647 * 2147483647) - ((y * 16807) - (y * 16807) / 2147483647 * 2147483647) / ((s 2 1 0).toInt64) * ((s 2 1 0).toInt64)).toInt32) ((((y * 16807) - (y * 16807) / 2147483647 * 2147483647) - ((y * 16807) - (y * 16807) / 2147483647 * 2147483647) / 10 * 10).toInt32)) 1) 1 ((((y * 16807) - (y * 16807) / 2147483647 * 2147483647) - ((y * 16807) - (y * 16807) / 2147483647 * 2147483647) / ((s 2 1 0).toInt64) * ((s 2 1 0).toInt64)).toInt32))).2)) (by simp only [F_X3_afterYears_31, if_neg c_34, if_pos c_75, if_pos c_101, if_pos c_136]) ?_
              refine V_lp [3, 4, 5, 6, 2, 0] rfl ?_
              exact ih ((y * 16807) - (y * 16807) / 2147483647 * 2147483647) (j + 1) ((F_X2_rakeUp (F_X2_flow (F_X2_warmTo (F_X2_standIn s 1 0 ((((y * 16807) - (y * 16807) / 2147483647 * 2147483647) - ((y * 16807) - (y * 16807) / 2147483647 * 2147483647) / 9 * 9).toInt32)) 1 ((((y * 16807) - (y * 16807) / 2147483647 * 2147483647) - ((y * 16807) - (y * 16807) / 2147483647 * 2147483647) / ((s 2 1 0).toInt64) * ((s 2 1 0).toInt64)).toInt32) ((((y * 16807) - (y * 16807) / 2147483647 * 2147483647) - ((y * 16807) - (y * 16807) / 2147483647 * 2147483647) / 10 * 10).toInt32)) 1) 1 ((((y * 16807) - (y * 16807) / 2147483647 * 2147483647) - ((y * 16807) - (y * 16807) / 2147483647 * 2147483647) / ((s 2 1 0).toInt64) * ((s 2 1 0).toInt64)).toInt32) (F_X2_stockOf (F_X2_flow (F_X2_warmTo (F_X2_standIn s 1 0 ((((y * 16807) - (y * 16807) / 2147483647 * 2147483647) - ((y * 16807) - (y * 16807) / 2147483647 * 2147483647) / 9 * 9).toInt32)) 1 ((((y * 16807) - (y * 16807) / 2147483647 * 2147483647) - ((y * 16807) - (y * 16807) / 2147483647 * 2147483647) / ((s 2 1 0).toInt64) * ((s 2 1 0).toInt64)).toInt32) ((((y * 16807) - (y * 16807) / 2147483647 * 2147483647) - ((y * 16807) - (y * 16807) / 2147483647 * 2147483647) / 10 * 10).toInt32)) 1) 1 ((((y * 16807) - (y * 16807) / 2147483647 * 2147483647) - ((y * 16807) - (y * 16807) / 2147483647 * 2147483647) / ((s 2 1 0).toInt64) * ((s 2 1 0).toInt64)).toInt32))).2) (by exact (lp_up hj c_34 hm).1) (by simp only [F_X2_rakeUp_0, F_X2_flow_0, F_X2_warmTo_0, F_X2_standIn_0]; exact hb) (by exact (lp_up hj c_34 hm).2) 
set_option maxRecDepth 100000 in
set_option maxHeartbeats 4000000 in
theorem k_X3_afterYears (l : Launch) (G : mm_G) {pr : Nat → Nat → Prop} {ad : Nat → Nat → Nat → Nat} (hw : mm_W pr) (g : mm_g) {k2 : Nat} (hk2 : pr 2 k2) (x1 : Int32) (x2 : Int32)  : Mt l G yX3_afterYears cX3_afterYears 8 (some (.object "CockleSquires$Flat")) (rmk 5 147) [.ref (ad 3 0 0), .ref (ad 2 k2 0), .int x1, .int x2] pr ad g (qR pr ad (ad 2 1 0) (F_X3_afterYears g k2 x1 x2)) 0 0 := by
  refine Mt_of (by decide) (Nat.le_of_ble_eq_true rfl) ?_
  show V l G RX3 cX3_afterYears 8 (some (.object "CockleSquires$Flat")) _ _ 0 0 0 0 0 [(0, .ref (ad 3 0 0)), (1, .ref (ad 2 k2 0)), (2, .int x1), (3, .int x2)] [] pr ad g
  refine V_aload_n dX3_afterYears_0 0 rfl ?_
  refine V_get (i := 0) inlX3 rfl (W_3 hw) rfl (by decide) q_78 rfl dX3_afterYears_1 ?_
  refine V_aload_n dX3_afterYears_4 1 rfl ?_
  refine V_cV (k_X2_become l G hw g (W_21 hw) hk2  ) hy_X2_become hi_X2_become hs_X2_become q_582 rfl rfl (W_21 hw) rfl rfl rfl rfl rfl ⟨by decide, by decide⟩ (Nat.le_of_ble_eq_true rfl) ⟨by decide, by decide⟩ dX3_afterYears_5 (V_kN ?_)
  refine V_aload_n dX3_afterYears_8 0 rfl ?_
  refine V_get (i := 0) inlX3 rfl (W_3 hw) rfl (by decide) q_78 rfl dX3_afterYears_9 ?_
  refine V_getN (i := 0) inlX2 rfl (W_21 hw) rfl (by decide) nf_X3_82 rfl dX3_afterYears_12 ?_
  refine V_iconst (v := 1) dX3_afterYears_15 (by decide) ?_
  refine V_ic_ge (tgt := 24) dX3_afterYears_16 (by decide) (fun c_16 => ?_) (fun c_16 => ?_)
  · refine V_iload_n dX3_afterYears_24 3 rfl ?_
    refine V_i2l dX3_afterYears_25 ?_
    refine V_lstore (L2 := [(4, .long (x2.toInt64)), (0, .ref (ad 3 0 0)), (1, .ref (ad 2 k2 0)), (2, .int x1), (3, .int x2)]) dX3_afterYears_26 (by decide) rfl ?_
    refine V_iconst (v := 0) dX3_afterYears_28 (by decide) ?_
    refine V_istore (L2 := [(6, .int 0), (4, .long (x2.toInt64)), (0, .ref (ad 3 0 0)), (1, .ref (ad 2 k2 0)), (2, .int x1), (3, .int x2)]) dX3_afterYears_29 (by decide) rfl ?_
    refine V_rp (R2 := F_X3_afterYears_31 k2 x1 x2 (fun (y31 : Int64) (j31 : Nat) (s31 : mm_g) => s31) (x1.toInt.toNat + 1) (x2.toInt64) 0 (F_X2_become g 1 k2)) (by simp only [F_X3_afterYears, if_pos c_16]) ?_
    refine V_lp [2, 3, 4, 5, 1, 0] rfl ?_
    refine w_X3_afterYears_31 l G hw k2 x1 x2 hk2  _ (fun y31 j31 s31 hj31 hb31 => ?_) (x1.toInt.toNat + 1) (x2.toInt64) 0 (F_X2_become g 1 k2) (by first | exact Nat.zero_le _ | decide) (by exact c_16) (by omega)
    refine V_aload_n dX3_afterYears_164 0 rfl ?_
    refine V_get (i := 0) inlX3 rfl (W_3 hw) rfl (by decide) q_78 rfl dX3_afterYears_165 ?_
    exact V_aret dX3_afterYears_168 rfl (lfR (by rfl))
  · refine V_aload_n dX3_afterYears_19 0 rfl ?_
    refine V_get (i := 0) inlX3 rfl (W_3 hw) rfl (by decide) q_78 rfl dX3_afterYears_20 ?_
    exact V_aret dX3_afterYears_23 rfl (lfR (by simp only [F_X3_afterYears, if_neg c_16]))
