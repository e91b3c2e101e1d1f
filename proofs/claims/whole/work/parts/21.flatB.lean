def F_X2_add (g : mm_g) (k : Nat) (x1 : Int32) (x2 : Int32) (x3 : Int32) : mm_g := (if (g 2 k 0) < 0 then g else (if (g 2 k 0) < 9 then (wr (wr (wr (wr g 2 k (9 + (g 2 k 0).toNatClampNeg) x1) 2 k (18 + ((wr g 2 k (9 + (g 2 k 0).toNatClampNeg) x1) 2 k 0).toNatClampNeg) x2) 2 k (27 + ((wr (wr g 2 k (9 + (g 2 k 0).toNatClampNeg) x1) 2 k (18 + ((wr g 2 k (9 + (g 2 k 0).toNatClampNeg) x1) 2 k 0).toNatClampNeg) x2) 2 k 0).toNatClampNeg) x3) 2 k 0 (((wr (wr (wr g 2 k (9 + (g 2 k 0).toNatClampNeg) x1) 2 k (18 + ((wr g 2 k (9 + (g 2 k 0).toNatClampNeg) x1) 2 k 0).toNatClampNeg) x2) 2 k (27 + ((wr (wr g 2 k (9 + (g 2 k 0).toNatClampNeg) x1) 2 k (18 + ((wr g 2 k (9 + (g 2 k 0).toNatClampNeg) x1) 2 k 0).toNatClampNeg) x2) 2 k 0).toNatClampNeg) x3) 2 k 0) + 1)) else g))
set_option maxRecDepth 100000 in
set_option maxHeartbeats 4000000 in
theorem k_X2_add (l : Launch) (G : mm_G) {pr : Nat → Nat → Prop} {ad : Nat → Nat → Nat → Nat} (hw : mm_W pr) (g : mm_g) {k : Nat} (hk : pr 2 k) (x1 : Int32) (x2 : Int32) (x3 : Int32)  : Mt l G yX2_add cX2_add 4 none (rmk 1 60) [.ref (ad 2 k 0), .int x1, .int x2, .int x3] pr ad g (qN pr ad (F_X2_add g k x1 x2 x3)) 0 0 := by
  refine Mt_of (by decide) (Nat.le_of_ble_eq_true rfl) ?_
  show V l G RX2 cX2_add 4 none _ _ 0 0 0 0 0 [(0, .ref (ad 2 k 0)), (1, .int x1), (2, .int x2), (3, .int x3)] [] pr ad g
  refine V_aload_n dX2_add_0 0 rfl ?_
  refine V_get (i := 0) inlX2 rfl hk rfl (by decide) q_57 rfl dX2_add_1 ?_
  refine V_if_lt (tgt := 16) dX2_add_4 (by decide) (fun c_4 => ?_) (fun c_4 => ?_)
  · exact V_vret dX2_add_16 rfl (lfN (by simp only [F_X2_add, if_pos c_4]))
  · refine V_aload_n dX2_add_7 0 rfl ?_
    refine V_get (i := 0) inlX2 rfl hk rfl (by decide) q_57 rfl dX2_add_8 ?_
    refine V_bipush (v := 9) dX2_add_11 (by decide) ?_
    refine V_ic_lt (tgt := 17) dX2_add_13 (by decide) (fun c_13 => ?_) (fun c_13 => ?_)
    · refine V_aload_n dX2_add_17 0 rfl ?_
      refine V_get (i := 7) inlX2 rfl hk rfl (by decide) q_64 rfl dX2_add_18 ?_
      refine V_aload_n dX2_add_21 0 rfl ?_
      refine V_get (i := 0) inlX2 rfl hk rfl (by decide) q_57 rfl dX2_add_22 ?_
      refine V_iload_n dX2_add_25 1 rfl ?_
      refine S_2_2 hk (by exact ixs c_4 c_13 rfl) dX2_add_26 ?_
      refine V_aload_n dX2_add_27 0 rfl ?_
      refine V_get (i := 8) inlX2 rfl hk rfl (by decide) q_65 rfl dX2_add_28 ?_
      refine V_aload_n dX2_add_31 0 rfl ?_
      refine V_get (i := 0) inlX2 rfl hk rfl (by decide) q_57 rfl dX2_add_32 ?_
      refine V_iload_n dX2_add_35 2 rfl ?_
      refine S_2_3 hk (by rw [wr_o (by omega)]; exact ixs c_4 c_13 rfl) dX2_add_36 ?_
      refine V_aload_n dX2_add_37 0 rfl ?_
      refine V_get (i := 9) inlX2 rfl hk rfl (by decide) q_66 rfl dX2_add_38 ?_
      refine V_aload_n dX2_add_41 0 rfl ?_
      refine V_get (i := 0) inlX2 rfl hk rfl (by decide) q_57 rfl dX2_add_42 ?_
      refine V_iload_n dX2_add_45 3 rfl ?_
      refine S_2_4 hk (by rw [wr_o (by omega), wr_o (by omega)]; exact ixs c_4 c_13 rfl) dX2_add_46 ?_
      refine V_aload_n dX2_add_47 0 rfl ?_
      refine V_dup dX2_add_48 rfl ?_
      refine V_get (i := 0) inlX2 rfl hk rfl (by decide) q_57 rfl dX2_add_49 ?_
      refine V_iconst (v := 1) dX2_add_52 (by decide) ?_
      refine V_iadd dX2_add_53 ?_
      refine P_2_0 hk q_57 dX2_add_54 ?_
      exact V_vret dX2_add_57 rfl (lfN (by simp only [F_X2_add, if_neg c_4, if_pos c_13]))
    · exact V_vret dX2_add_16 rfl (lfN (by simp only [F_X2_add, if_neg c_4, if_neg c_13]))
def F_X2_become (g : mm_g) (k : Nat) (k2 : Nat) : mm_g := (cpF (cpF (cpF (cpF (wr (wr (wr (wr (wr (wr g 2 k 0 (g 2 k2 0)) 2 k 4 ((wr g 2 k 0 (g 2 k2 0)) 2 k2 4)) 2 k 3 ((wr (wr g 2 k 0 (g 2 k2 0)) 2 k 4 ((wr g 2 k 0 (g 2 k2 0)) 2 k2 4)) 2 k2 3)) 2 k 5 ((wr (wr (wr g 2 k 0 (g 2 k2 0)) 2 k 4 ((wr g 2 k 0 (g 2 k2 0)) 2 k2 4)) 2 k 3 ((wr (wr g 2 k 0 (g 2 k2 0)) 2 k 4 ((wr g 2 k 0 (g 2 k2 0)) 2 k2 4)) 2 k2 3)) 2 k2 5)) 2 k 1 ((wr (wr (wr (wr g 2 k 0 (g 2 k2 0)) 2 k 4 ((wr g 2 k 0 (g 2 k2 0)) 2 k2 4)) 2 k 3 ((wr (wr g 2 k 0 (g 2 k2 0)) 2 k 4 ((wr g 2 k 0 (g 2 k2 0)) 2 k2 4)) 2 k2 3)) 2 k 5 ((wr (wr (wr g 2 k 0 (g 2 k2 0)) 2 k 4 ((wr g 2 k 0 (g 2 k2 0)) 2 k2 4)) 2 k 3 ((wr (wr g 2 k 0 (g 2 k2 0)) 2 k 4 ((wr g 2 k 0 (g 2 k2 0)) 2 k2 4)) 2 k2 3)) 2 k2 5)) 2 k2 1)) 2 k 2 ((wr (wr (wr (wr (wr g 2 k 0 (g 2 k2 0)) 2 k 4 ((wr g 2 k 0 (g 2 k2 0)) 2 k2 4)) 2 k 3 ((wr (wr g 2 k 0 (g 2 k2 0)) 2 k 4 ((wr g 2 k 0 (g 2 k2 0)) 2 k2 4)) 2 k2 3)) 2 k 5 ((wr (wr (wr g 2 k 0 (g 2 k2 0)) 2 k 4 ((wr g 2 k 0 (g 2 k2 0)) 2 k2 4)) 2 k 3 ((wr (wr g 2 k 0 (g 2 k2 0)) 2 k 4 ((wr g 2 k 0 (g 2 k2 0)) 2 k2 4)) 2 k2 3)) 2 k2 5)) 2 k 1 ((wr (wr (wr (wr g 2 k 0 (g 2 k2 0)) 2 k 4 ((wr g 2 k 0 (g 2 k2 0)) 2 k2 4)) 2 k 3 ((wr (wr g 2 k 0 (g 2 k2 0)) 2 k 4 ((wr g 2 k 0 (g 2 k2 0)) 2 k2 4)) 2 k2 3)) 2 k 5 ((wr (wr (wr g 2 k 0 (g 2 k2 0)) 2 k 4 ((wr g 2 k 0 (g 2 k2 0)) 2 k2 4)) 2 k 3 ((wr (wr g 2 k 0 (g 2 k2 0)) 2 k 4 ((wr g 2 k 0 (g 2 k2 0)) 2 k2 4)) 2 k2 3)) 2 k2 5)) 2 k2 1)) 2 k2 2)) k k2 6 3) k k2 9 9) k k2 18 9) k k2 27 9)
set_option maxRecDepth 100000 in
set_option maxHeartbeats 4000000 in
theorem k_X2_become (l : Launch) (G : mm_G) {pr : Nat → Nat → Prop} {ad : Nat → Nat → Nat → Nat} (hw : mm_W pr) (g : mm_g) {k : Nat} {k2 : Nat} (hk : pr 2 k) (hk2 : pr 2 k2)  : Mt l G yX2_become cX2_become 2 none (rmk 1 60) [.ref (ad 2 k 0), .ref (ad 2 k2 0)] pr ad g (qN pr ad (F_X2_become g k k2)) 0 0 := by
  refine Mt_of (by decide) (Nat.le_of_ble_eq_true rfl) ?_
  show V l G RX2 cX2_become 2 none _ _ 0 0 0 0 0 [(0, .ref (ad 2 k 0)), (1, .ref (ad 2 k2 0))] [] pr ad g
  refine V_aload_n dX2_become_0 0 rfl ?_
  refine V_aload_n dX2_become_1 1 rfl ?_
  refine V_get (i := 0) inlX2 rfl hk2 rfl (by decide) q_57 rfl dX2_become_2 ?_
  refine P_2_0 hk q_57 dX2_become_5 ?_
  refine V_aload_n dX2_become_8 0 rfl ?_
  refine V_aload_n dX2_become_9 1 rfl ?_
  refine V_get (i := 1) inlX2 rfl hk2 rfl (by decide) q_58 rfl dX2_become_10 ?_
  refine P_2_1 hk q_58 dX2_become_13 ?_
  refine V_aload_n dX2_become_16 0 rfl ?_
  refine V_aload_n dX2_become_17 1 rfl ?_
  refine V_get (i := 2) inlX2 rfl hk2 rfl (by decide) q_59 rfl dX2_become_18 ?_
  refine P_2_2 hk q_59 dX2_become_21 ?_
  refine V_aload_n dX2_become_24 0 rfl ?_
  refine V_aload_n dX2_become_25 1 rfl ?_
  refine V_get (i := 3) inlX2 rfl hk2 rfl (by decide) q_60 rfl dX2_become_26 ?_
  refine P_2_3 hk q_60 dX2_become_29 ?_
  refine V_aload_n dX2_become_32 0 rfl ?_
  refine V_aload_n dX2_become_33 1 rfl ?_
  refine V_get (i := 4) inlX2 rfl hk2 rfl (by decide) q_61 rfl dX2_become_34 ?_
  refine P_2_4 hk q_61 dX2_become_37 ?_
  refine V_aload_n dX2_become_40 0 rfl ?_
  refine V_aload_n dX2_become_41 1 rfl ?_
  refine V_get (i := 5) inlX2 rfl hk2 rfl (by decide) q_62 rfl dX2_become_42 ?_
  refine P_2_5 hk q_62 dX2_become_45 ?_
  refine V_aload_n dX2_become_48 1 rfl ?_
  refine V_get (i := 6) inlX2 rfl hk2 rfl (by decide) q_63 rfl dX2_become_49 ?_
  refine V_iconst (v := 0) dX2_become_52 (by decide) ?_
  refine V_aload_n dX2_become_53 0 rfl ?_
  refine V_get (i := 6) inlX2 rfl hk rfl (by decide) q_63 rfl dX2_become_54 ?_
  refine V_iconst (v := 0) dX2_become_57 (by decide) ?_
  refine V_iconst (v := 3) dX2_become_58 (by decide) ?_
  refine C_2_1 q_296 hk hk2 (by decide) (Nat.le_of_ble_eq_true rfl) dX2_become_59 ?_
  refine V_aload_n dX2_become_62 1 rfl ?_
  refine V_get (i := 7) inlX2 rfl hk2 rfl (by decide) q_64 rfl dX2_become_63 ?_
  refine V_iconst (v := 0) dX2_become_66 (by decide) ?_
  refine V_aload_n dX2_become_67 0 rfl ?_
  refine V_get (i := 7) inlX2 rfl hk rfl (by decide) q_64 rfl dX2_become_68 ?_
  refine V_iconst (v := 0) dX2_become_71 (by decide) ?_
  refine V_bipush (v := 9) dX2_become_72 (by decide) ?_
  refine C_2_2 q_296 hk hk2 (by decide) (Nat.le_of_ble_eq_true rfl) dX2_become_74 ?_
  refine V_aload_n dX2_become_77 1 rfl ?_
  refine V_get (i := 8) inlX2 rfl hk2 rfl (by decide) q_65 rfl dX2_become_78 ?_
  refine V_iconst (v := 0) dX2_become_81 (by decide) ?_
  refine V_aload_n dX2_become_82 0 rfl ?_
  refine V_get (i := 8) inlX2 rfl hk rfl (by decide) q_65 rfl dX2_become_83 ?_
  refine V_iconst (v := 0) dX2_become_86 (by decide) ?_
  refine V_bipush (v := 9) dX2_become_87 (by decide) ?_
  refine C_2_3 q_296 hk hk2 (by decide) (Nat.le_of_ble_eq_true rfl) dX2_become_89 ?_
  refine V_aload_n dX2_become_92 1 rfl ?_
  refine V_get (i := 9) inlX2 rfl hk2 rfl (by decide) q_66 rfl dX2_become_93 ?_
  refine V_iconst (v := 0) dX2_become_96 (by decide) ?_
  refine V_aload_n dX2_become_97 0 rfl ?_
  refine V_get (i := 9) inlX2 rfl hk rfl (by decide) q_66 rfl dX2_become_98 ?_
  refine V_iconst (v := 0) dX2_become_101 (by decide) ?_
  refine V_bipush (v := 9) dX2_become_102 (by decide) ?_
  refine C_2_4 q_296 hk hk2 (by decide) (Nat.le_of_ble_eq_true rfl) dX2_become_104 ?_
  exact V_vret dX2_become_107 rfl (lfN (by simp only [F_X2_become]))
def F_X2_begin_33 (k : Nat) (x1 : Int32) (x2 : Int32) (x3 : Int32) (K : Nat → mm_g → mm_g) : Nat → Nat → mm_g → mm_g
  | 0, j, s => K j s
  | n + 1, j, s => (if 2 < (nI j) then K j s else F_X2_begin_33 k x1 x2 x3 K n (j + 1) (wr s 2 k (6 + (nI j).toNatClampNeg) 0))
def F_X2_begin (g : mm_g) (k : Nat) (x1 : Int32) (x2 : Int32) (x3 : Int32) : mm_g := (F_X2_begin_33 k x1 x2 x3 (fun (j33 : Nat) (s33 : mm_g) => s33) 4 0 (wr (wr (wr (wr (wr (wr g 2 k 0 0) 2 k 4 0) 2 k 3 x3) 2 k 5 0) 2 k 1 x1) 2 k 2 x2))
set_option maxRecDepth 100000 in
set_option maxHeartbeats 4000000 in
theorem w_X2_begin_33 (l : Launch) (G : mm_G) {pr : Nat → Nat → Prop} {ad : Nat → Nat → Nat → Nat} (hw : mm_W pr) (k : Nat) (x1 : Int32) (x2 : Int32) (x3 : Int32)  (hk : pr 2 k) (K : Nat → mm_g → mm_g) (hK : ∀ (j : Nat) (s : mm_g) (hj : j ≤ 3), V l G RX2 cX2_begin 5 none (rmk 1 60) (qN pr ad (K j s)) 0 0 0 0 53 [(0, .ref (ad 2 k 0)), (1, .int x1), (2, .int x2), (3, .int x3), (4, .int (nI j))] [] pr ad s) : ∀ (n : Nat) (j : Nat) (s : mm_g) (hj : j ≤ 3) (hm : 3 - j < n), V l G RX2 cX2_begin 5 none (rmk 1 60) (qN pr ad (F_X2_begin_33 k x1 x2 x3 K n j s)) 0 0 0 0 33 [(0, .ref (ad 2 k 0)), (1, .int x1), (2, .int x2), (3, .int x3), (4, .int (nI j))] [] pr ad s := by
  intro n
  induction n with
  | zero => intro j s hj hm; exact absurd hm (Nat.not_lt_zero _)
  | succ n ih =>
      intro j s hj hm
      refine V_iload dX2_begin_33 4 rfl ?_
      refine V_iconst (v := 2) dX2_begin_35 (by decide) ?_
      refine V_ic_gt (tgt := 53) dX2_begin_36 (by decide) (fun c_36 => ?_) (fun c_36 => ?_)
      · refine V_rp (R2 := K j s) (by simp only [F_X2_begin_33, if_pos c_36]) ?_
        refine V_lp [0, 1, 2, 3, 4] rfl ?_
        exact hK j s (by assumption)
      · refine V_aload_n dX2_begin_39 0 rfl ?_
        refine V_get (i := 6) inlX2 rfl hk rfl (by decide) q_63 rfl dX2_begin_40 ?_
        refine V_iload dX2_begin_43 4 rfl ?_
        refine V_iconst (v := 0) dX2_begin_45 (by decide) ?_
        refine S_2_1 hk (by exact ix_l (x := 2) (by decide) hj c_36 (by decide) (by decide)) dX2_begin_46 ?_
        refine V_iinc (v := (nI (j + 1))) (L2 := [(4, .int (nI (j + 1))), (0, .ref (ad 2 k 0)), (1, .int x1), (2, .int x2), (3, .int x3)]) dX2_begin_47 4 rfl (nI_1 _) (by decide) rfl ?_
        refine V_goto (tgt := 33) dX2_begin_50 (by decide) ?_
        refine V_rp (R2 := F_X2_begin_33 k x1 x2 x3 K n (j + 1) (wr s 2 k (6 + (nI j).toNatClampNeg) 0)) (by simp only [F_X2_begin_33, if_neg c_36]) ?_
        refine V_lp [1, 2, 3, 4, 0] rfl ?_
        exact ih (j + 1) (wr s 2 k (6 + (nI j).toNatClampNeg) 0) (by exact (lp_ul (x := 2) (n := n) (by decide) hj c_36 (by decide) hm).1) (by exact (lp_ul (x := 2) (n := n) (by decide) hj c_36 (by decide) hm).2) 
set_option maxRecDepth 100000 in
set_option maxHeartbeats 4000000 in
theorem k_X2_begin (l : Launch) (G : mm_G) {pr : Nat → Nat → Prop} {ad : Nat → Nat → Nat → Nat} (hw : mm_W pr) (g : mm_g) {k : Nat} (hk : pr 2 k) (x1 : Int32) (x2 : Int32) (x3 : Int32)  : Mt l G yX2_begin cX2_begin 5 none (rmk 1 60) [.ref (ad 2 k 0), .int x1, .int x2, .int x3] pr ad g (qN pr ad (F_X2_begin g k x1 x2 x3)) 0 0 := by
  refine Mt_of (by decide) (Nat.le_of_ble_eq_true rfl) ?_
  show V l G RX2 cX2_begin 5 none _ _ 0 0 0 0 0 [(0, .ref (ad 2 k 0)), (1, .int x1), (2, .int x2), (3, .int x3)] [] pr ad g
  refine V_aload_n dX2_begin_0 0 rfl ?_
  refine V_iconst (v := 0) dX2_begin_1 (by decide) ?_
  refine P_2_0 hk q_57 dX2_begin_2 ?_
  refine V_aload_n dX2_begin_5 0 rfl ?_
  refine V_iconst (v := 0) dX2_begin_6 (by decide) ?_
  refine P_2_1 hk q_58 dX2_begin_7 ?_
  refine V_aload_n dX2_begin_10 0 rfl ?_
  refine V_iload_n dX2_begin_11 3 rfl ?_
  refine P_2_2 hk q_59 dX2_begin_12 ?_
  refine V_aload_n dX2_begin_15 0 rfl ?_
  refine V_iconst (v := 0) dX2_begin_16 (by decide) ?_
  refine P_2_3 hk q_60 dX2_begin_17 ?_
  refine V_aload_n dX2_begin_20 0 rfl ?_
  refine V_iload_n dX2_begin_21 1 rfl ?_
  refine P_2_4 hk q_61 dX2_begin_22 ?_
  refine V_aload_n dX2_begin_25 0 rfl ?_
  refine V_iload_n dX2_begin_26 2 rfl ?_
  refine P_2_5 hk q_62 dX2_begin_27 ?_
  refine V_iconst (v := 0) dX2_begin_30 (by decide) ?_
  refine V_istore (L2 := [(4, .int 0), (0, .ref (ad 2 k 0)), (1, .int x1), (2, .int x2), (3, .int x3)]) dX2_begin_31 (by decide) rfl ?_
  refine V_rp (R2 := F_X2_begin_33 k x1 x2 x3 (fun (j33 : Nat) (s33 : mm_g) => s33) 4 0 (wr (wr (wr (wr (wr (wr g 2 k 0 0) 2 k 4 0) 2 k 3 x3) 2 k 5 0) 2 k 1 x1) 2 k 2 x2)) (by simp only [F_X2_begin]) ?_
  refine V_lp [1, 2, 3, 4, 0] rfl ?_
  refine w_X2_begin_33 l G hw k x1 x2 x3 hk  _ (fun j33 s33 hj33 => ?_) 4 0 (wr (wr (wr (wr (wr (wr g 2 k 0 0) 2 k 4 0) 2 k 3 x3) 2 k 5 0) 2 k 1 x1) 2 k 2 x2) (by omega) (by omega)
  exact V_vret dX2_begin_53 rfl (lfN (by rfl))
def F_X2_allStock_4 (g4 : mm_g) (k : Nat) (K : Int32 → Nat → Int32) : Nat → Int32 → Nat → Int32
  | 0, a, j => K a j
  | n + 1, a, j => (if (g4 2 k 0) ≤ (nI j) then K a j else F_X2_allStock_4 g4 k K n (a + (F_X2_stockOf g4 k (nI j))) (j + 1))
def F_X2_allStock (g : mm_g) (k : Nat) : Int32 := (F_X2_allStock_4 g k (fun (a4 : Int32) (j4 : Nat) => a4) ((g 2 k 0).toInt.toNat + 1) 0 0)
set_option maxRecDepth 100000 in
set_option maxHeartbeats 4000000 in
theorem w_X2_allStock_4 (l : Launch) (G : mm_G) {pr : Nat → Nat → Prop} {ad : Nat → Nat → Nat → Nat} (hw : mm_W pr) (g4 : mm_g) (k : Nat)  (hk : pr 2 k) (K : Int32 → Nat → Int32) (hK : ∀ (a : Int32) (j : Nat) (hj : j ≤ (g4 2 k 0).toInt.toNat), V l G RX2 cX2_allStock 3 (some .int) (rmk 3 102) (qI pr ad g4 (K a j)) 0 0 0 0 26 [(0, .ref (ad 2 k 0)), (1, .int a), (2, .int (nI j))] [] pr ad g4) : ∀ (n : Nat) (a : Int32) (j : Nat) (hj : j ≤ (g4 2 k 0).toInt.toNat) (hm : (g4 2 k 0).toInt.toNat - j < n), V l G RX2 cX2_allStock 3 (some .int) (rmk 3 102) (qI pr ad g4 (F_X2_allStock_4 g4 k K n a j)) 0 0 0 0 4 [(0, .ref (ad 2 k 0)), (1, .int a), (2, .int (nI j))] [] pr ad g4 := by
  intro n
  induction n with
  | zero => intro a j hj hm; exact absurd hm (Nat.not_lt_zero _)
  | succ n ih =>
      intro a j hj hm
      refine V_iload_n dX2_allStock_4 2 rfl ?_
      refine V_aload_n dX2_allStock_5 0 rfl ?_
      refine V_get (i := 0) inlX2 rfl hk rfl (by decide) q_57 rfl dX2_allStock_6 ?_
      refine V_ic_ge (tgt := 26) dX2_allStock_9 (by decide) (fun c_9 => ?_) (fun c_9 => ?_)
      · refine V_rp (R2 := K a j) (by simp only [F_X2_allStock_4, if_pos c_9]) ?_
        refine V_lp [0, 1, 2] rfl ?_
        exact hK a j (by assumption)
      · refine V_iload_n dX2_allStock_12 1 rfl ?_
        refine V_aload_n dX2_allStock_13 0 rfl ?_
        refine V_iload_n dX2_allStock_14 2 rfl ?_
        refine V_cV (k_X2_stockOf l G hw g4 hk (nI j) ) hy_X2_stockOf hi_X2_stockOf hs_X2_stockOf q_425 rfl rfl hk rfl rfl rfl rfl rfl ⟨by decide, by decide⟩ (Nat.le_of_ble_eq_true rfl) ⟨by decide, by decide⟩ dX2_allStock_15 (V_kI ?_)
        refine V_iadd dX2_allStock_18 ?_
        refine V_istore_n (L2 := [(1, .int (a + (F_X2_stockOf g4 k (nI j)))), (0, .ref (ad 2 k 0)), (2, .int (nI j))]) dX2_allStock_19 (by decide) rfl ?_
        refine V_iinc (v := (nI (j + 1))) (L2 := [(2, .int (nI (j + 1))), (1, .int (a + (F_X2_stockOf g4 k (nI j)))), (0, .ref (ad 2 k 0))]) dX2_allStock_20 2 rfl (nI_1 _) (by decide) rfl ?_
        refine V_goto (tgt := 4) dX2_allStock_23 (by decide) ?_
        refine V_rp (R2 := F_X2_allStock_4 g4 k K n (a + (F_X2_stockOf g4 k (nI j))) (j + 1)) (by simp only [F_X2_allStock_4, if_neg c_9]) ?_
        refine V_lp [2, 1, 0] rfl ?_
        exact ih (a + (F_X2_stockOf g4 k (nI j))) (j + 1) (by exact (lp_up hj c_9 hm).1) (by exact (lp_up hj c_9 hm).2) 
set_option maxRecDepth 100000 in
set_option maxHeartbeats 4000000 in
theorem k_X2_allStock (l : Launch) (G : mm_G) {pr : Nat → Nat → Prop} {ad : Nat → Nat → Nat → Nat} (hw : mm_W pr) (g : mm_g) {k : Nat} (hk : pr 2 k)  : Mt l G yX2_allStock cX2_allStock 3 (some .int) (rmk 3 102) [.ref (ad 2 k 0)] pr ad g (qI pr ad g (F_X2_allStock g k)) 0 0 := by
  refine Mt_of (by decide) (Nat.le_of_ble_eq_true rfl) ?_
  show V l G RX2 cX2_allStock 3 (some .int) _ _ 0 0 0 0 0 [(0, .ref (ad 2 k 0))] [] pr ad g
  refine V_iconst (v := 0) dX2_allStock_0 (by decide) ?_
  refine V_istore_n (L2 := [(1, .int 0), (0, .ref (ad 2 k 0))]) dX2_allStock_1 (by decide) rfl ?_
  refine V_iconst (v := 0) dX2_allStock_2 (by decide) ?_
  refine V_istore_n (L2 := [(2, .int 0), (1, .int 0), (0, .ref (ad 2 k 0))]) dX2_allStock_3 (by decide) rfl ?_
  refine V_rp (R2 := F_X2_allStock_4 g k (fun (a4 : Int32) (j4 : Nat) => a4) ((g 2 k 0).toInt.toNat + 1) 0 0) (by simp only [F_X2_allStock]) ?_
  refine V_lp [2, 1, 0] rfl ?_
  refine w_X2_allStock_4 l G hw g k hk  _ (fun a4 j4 hj4 => ?_) ((g 2 k 0).toInt.toNat + 1) 0 0 (by first | exact Nat.zero_le _ | decide) (by omega)
  refine V_iload_n dX2_allStock_26 1 rfl ?_
  exact V_iret dX2_allStock_27 rfl (lfI (by rfl))
def F_X2_swell (g : mm_g) (k : Nat) (x1 : Int32) : mm_g := (if (F_X2_has g k x1) = 0 then g else (if (F_X2_lying g k x1) = 2 then (if (((wr g 2 k (18 + x1.toNatClampNeg) (if ((g 2 k (18 + x1.toNatClampNeg)) + ((((g 2 k (27 + x1.toNatClampNeg)) + 1) / 2) + (g 2 k 3))) < 99 then ((g 2 k (18 + x1.toNatClampNeg)) + ((((g 2 k (27 + x1.toNatClampNeg)) + 1) / 2) + (g 2 k 3))) else 99)) 2 k 4) - ((wr g 2 k (18 + x1.toNatClampNeg) (if ((g 2 k (18 + x1.toNatClampNeg)) + ((((g 2 k (27 + x1.toNatClampNeg)) + 1) / 2) + (g 2 k 3))) < 99 then ((g 2 k (18 + x1.toNatClampNeg)) + ((((g 2 k (27 + x1.toNatClampNeg)) + 1) / 2) + (g 2 k 3))) else 99)) 2 k 4) / 2 * 2) = 1 then (wr (wr g 2 k (18 + x1.toNatClampNeg) (if ((g 2 k (18 + x1.toNatClampNeg)) + ((((g 2 k (27 + x1.toNatClampNeg)) + 1) / 2) + (g 2 k 3))) < 99 then ((g 2 k (18 + x1.toNatClampNeg)) + ((((g 2 k (27 + x1.toNatClampNeg)) + 1) / 2) + (g 2 k 3))) else 99)) 2 k (27 + x1.toNatClampNeg) (if 0 < (((wr g 2 k (18 + x1.toNatClampNeg) (if ((g 2 k (18 + x1.toNatClampNeg)) + ((((g 2 k (27 + x1.toNatClampNeg)) + 1) / 2) + (g 2 k 3))) < 99 then ((g 2 k (18 + x1.toNatClampNeg)) + ((((g 2 k (27 + x1.toNatClampNeg)) + 1) / 2) + (g 2 k 3))) else 99)) 2 k (27 + x1.toNatClampNeg)) - 1) then (((wr g 2 k (18 + x1.toNatClampNeg) (if ((g 2 k (18 + x1.toNatClampNeg)) + ((((g 2 k (27 + x1.toNatClampNeg)) + 1) / 2) + (g 2 k 3))) < 99 then ((g 2 k (18 + x1.toNatClampNeg)) + ((((g 2 k (27 + x1.toNatClampNeg)) + 1) / 2) + (g 2 k 3))) else 99)) 2 k (27 + x1.toNatClampNeg)) - 1) else 0)) else (wr g 2 k (18 + x1.toNatClampNeg) (if ((g 2 k (18 + x1.toNatClampNeg)) + ((((g 2 k (27 + x1.toNatClampNeg)) + 1) / 2) + (g 2 k 3))) < 99 then ((g 2 k (18 + x1.toNatClampNeg)) + ((((g 2 k (27 + x1.toNatClampNeg)) + 1) / 2) + (g 2 k 3))) else 99))) else (if (((wr g 2 k (18 + x1.toNatClampNeg) (if ((g 2 k (18 + x1.toNatClampNeg)) + (((g 2 k (27 + x1.toNatClampNeg)) + 1) / 2)) < 99 then ((g 2 k (18 + x1.toNatClampNeg)) + (((g 2 k (27 + x1.toNatClampNeg)) + 1) / 2)) else 99)) 2 k 4) - ((wr g 2 k (18 + x1.toNatClampNeg) (if ((g 2 k (18 + x1.toNatClampNeg)) + (((g 2 k (27 + x1.toNatClampNeg)) + 1) / 2)) < 99 then ((g 2 k (18 + x1.toNatClampNeg)) + (((g 2 k (27 + x1.toNatClampNeg)) + 1) / 2)) else 99)) 2 k 4) / 2 * 2) = 1 then (wr (wr g 2 k (18 + x1.toNatClampNeg) (if ((g 2 k (18 + x1.toNatClampNeg)) + (((g 2 k (27 + x1.toNatClampNeg)) + 1) / 2)) < 99 then ((g 2 k (18 + x1.toNatClampNeg)) + (((g 2 k (27 + x1.toNatClampNeg)) + 1) / 2)) else 99)) 2 k (27 + x1.toNatClampNeg) (if 0 < (((wr g 2 k (18 + x1.toNatClampNeg) (if ((g 2 k (18 + x1.toNatClampNeg)) + (((g 2 k (27 + x1.toNatClampNeg)) + 1) / 2)) < 99 then ((g 2 k (18 + x1.toNatClampNeg)) + (((g 2 k (27 + x1.toNatClampNeg)) + 1) / 2)) else 99)) 2 k (27 + x1.toNatClampNeg)) - 1) then (((wr g 2 k (18 + x1.toNatClampNeg) (if ((g 2 k (18 + x1.toNatClampNeg)) + (((g 2 k (27 + x1.toNatClampNeg)) + 1) / 2)) < 99 then ((g 2 k (18 + x1.toNatClampNeg)) + (((g 2 k (27 + x1.toNatClampNeg)) + 1) / 2)) else 99)) 2 k (27 + x1.toNatClampNeg)) - 1) else 0)) else (wr g 2 k (18 + x1.toNatClampNeg) (if ((g 2 k (18 + x1.toNatClampNeg)) + (((g 2 k (27 + x1.toNatClampNeg)) + 1) / 2)) < 99 then ((g 2 k (18 + x1.toNatClampNeg)) + (((g 2 k (27 + x1.toNatClampNeg)) + 1) / 2)) else 99)))))
set_option maxRecDepth 100000 in
set_option maxHeartbeats 4000000 in
theorem k_X2_swell (l : Launch) (G : mm_G) {pr : Nat → Nat → Prop} {ad : Nat → Nat → Nat → Nat} (hw : mm_W pr) (g : mm_g) {k : Nat} (hk : pr 2 k) (x1 : Int32)  : Mt l G yX2_swell cX2_swell 3 none (rmk 3 104) [.ref (ad 2 k 0), .int x1] pr ad g (qN pr ad (F_X2_swell g k x1)) 0 0 := by
  refine Mt_of (by decide) (Nat.le_of_ble_eq_true rfl) ?_
  show V l G RX2 cX2_swell 3 none _ _ 0 0 0 0 0 [(0, .ref (ad 2 k 0)), (1, .int x1)] [] pr ad g
  refine V_aload_n dX2_swell_0 0 rfl ?_
  refine V_iload_n dX2_swell_1 1 rfl ?_
  refine V_cV (k_X2_has l G hw g hk x1 ) hy_X2_has hi_X2_has hs_X2_has q_400 rfl rfl hk rfl rfl rfl rfl rfl ⟨by decide, by decide⟩ (Nat.le_of_ble_eq_true rfl) ⟨by decide, by decide⟩ dX2_swell_2 (V_kI ?_)
  refine V_if_ne (tgt := 9) dX2_swell_5 (by decide) (fun c_5 => ?_) (fun c_5 => ?_)
  · refine V_aload_n dX2_swell_9 0 rfl ?_
    refine V_get (i := 9) inlX2 rfl hk rfl (by decide) q_66 rfl dX2_swell_10 ?_
    refine V_iload_n dX2_swell_13 1 rfl ?_
    refine L_2_4 hk (by first | exact ix_has c_5) dX2_swell_14 ?_
    refine V_iconst (v := 1) dX2_swell_15 (by decide) ?_
    refine V_iadd dX2_swell_16 ?_
    refine V_iconst (v := 2) dX2_swell_17 (by decide) ?_
    refine V_idiv dX2_swell_18 (by decide) ?_
    refine V_istore_n (L2 := [(2, .int (((g 2 k (27 + x1.toNatClampNeg)) + 1) / 2)), (0, .ref (ad 2 k 0)), (1, .int x1)]) dX2_swell_19 (by decide) rfl ?_
    refine V_aload_n dX2_swell_20 1 rfl ?_
    refine V_iload_n dX2_swell_21 2 rfl ?_
    refine V_cV (k_X2_lying l G hw g hk x1 ) hy_X2_lying hi_X2_lying hs_X2_lying q_404 rfl rfl hk rfl rfl rfl rfl rfl ⟨by decide, by decide⟩ (Nat.le_of_ble_eq_true rfl) ⟨by decide, by decide⟩ dX2_swell_22 (V_kI ?_)
    refine V_iconst (v := 2) dX2_swell_25 (by decide) ?_
    refine V_ic_ne (tgt := 36) dX2_swell_26 (by decide) (fun c_26 => ?_) (fun c_26 => ?_)
    · refine V_aload_n dX2_swell_36 1 rfl ?_
      refine V_get (i := 8) inlX2 rfl hk rfl (by decide) q_65 rfl dX2_swell_37 ?_
      refine V_iload_n dX2_swell_40 2 rfl ?_
      refine V_bipush (v := 99) dX2_swell_41 (by decide) ?_
      refine V_aload_n dX2_swell_43 1 rfl ?_
      refine V_get (i := 8) inlX2 rfl hk rfl (by decide) q_65 rfl dX2_swell_44 ?_
      refine V_iload_n dX2_swell_47 2 rfl ?_
      refine L_2_3 hk (by first | exact ix_has c_5) dX2_swell_48 ?_
      refine V_iload_n dX2_swell_49 0 rfl ?_
      refine V_iadd dX2_swell_50 ?_
      refine V_mmin q_396 q_385 q_386 q_387 (by decide) (Nat.le_of_ble_eq_true rfl) (by decide) (by decide) dX2_swell_51 ?_
      refine S_2_3 hk (by first | exact ix_has c_5) dX2_swell_54 ?_
      refine V_aload_n dX2_swell_55 1 rfl ?_
      refine V_get (i := 1) inlX2 rfl hk rfl (by decide) q_58 rfl dX2_swell_56 ?_
      refine V_iconst (v := 2) dX2_swell_59 (by decide) ?_
      refine V_irem dX2_swell_60 (by decide) ?_
      refine V_iconst (v := 1) dX2_swell_61 (by decide) ?_
      refine V_ic_ne (tgt := 83) dX2_swell_62 (by decide) (fun c_62 => ?_) (fun c_62 => ?_)
      · exact V_vret dX2_swell_83 rfl (lfN (by simp only [F_X2_swell, if_neg c_5, if_neg c_26, if_neg c_62]))
      · refine V_aload_n dX2_swell_65 1 rfl ?_
        refine V_get (i := 9) inlX2 rfl hk rfl (by decide) q_66 rfl dX2_swell_66 ?_
        refine V_iload_n dX2_swell_69 2 rfl ?_
        refine V_iconst (v := 0) dX2_swell_70 (by decide) ?_
        refine V_aload_n dX2_swell_71 1 rfl ?_
        refine V_get (i := 9) inlX2 rfl hk rfl (by decide) q_66 rfl dX2_swell_72 ?_
        refine V_iload_n dX2_swell_75 2 rfl ?_
        refine L_2_4 hk (by first | exact ix_has c_5) dX2_swell_76 ?_
        refine V_iconst (v := 1) dX2_swell_77 (by decide) ?_
        refine V_isub dX2_swell_78 ?_
        refine V_mmax q_397 q_398 q_386 q_399 (by decide) (Nat.le_of_ble_eq_true rfl) (by decide) (by decide) dX2_swell_79 ?_
        refine S_2_4 hk (by first | exact ix_has c_5) dX2_swell_82 ?_
        exact V_vret dX2_swell_83 rfl (lfN (by simp only [F_X2_swell, if_neg c_5, if_neg c_26, if_pos c_62]))
    · refine V_iload_n dX2_swell_29 0 rfl ?_
      refine V_aload_n dX2_swell_30 1 rfl ?_
      refine V_get (i := 2) inlX2 rfl hk rfl (by decide) q_59 rfl dX2_swell_31 ?_
      refine V_iadd dX2_swell_34 ?_
      refine V_istore_n (L2 := [(2, .int ((((g 2 k (27 + x1.toNatClampNeg)) + 1) / 2) + (g 2 k 3))), (0, .ref (ad 2 k 0)), (1, .int x1)]) dX2_swell_35 (by decide) rfl ?_
      refine V_aload_n dX2_swell_36 1 rfl ?_
      refine V_get (i := 8) inlX2 rfl hk rfl (by decide) q_65 rfl dX2_swell_37 ?_
      refine V_iload_n dX2_swell_40 2 rfl ?_
      refine V_bipush (v := 99) dX2_swell_41 (by decide) ?_
      refine V_aload_n dX2_swell_43 1 rfl ?_
      refine V_get (i := 8) inlX2 rfl hk rfl (by decide) q_65 rfl dX2_swell_44 ?_
      refine V_iload_n dX2_swell_47 2 rfl ?_
      refine L_2_3 hk (by first | exact ix_has c_5) dX2_swell_48 ?_
      refine V_iload_n dX2_swell_49 0 rfl ?_
      refine V_iadd dX2_swell_50 ?_
      refine V_mmin q_396 q_385 q_386 q_387 (by decide) (Nat.le_of_ble_eq_true rfl) (by decide) (by decide) dX2_swell_51 ?_
      refine S_2_3 hk (by first | exact ix_has c_5) dX2_swell_54 ?_
      refine V_aload_n dX2_swell_55 1 rfl ?_
      refine V_get (i := 1) inlX2 rfl hk rfl (by decide) q_58 rfl dX2_swell_56 ?_
      refine V_iconst (v := 2) dX2_swell_59 (by decide) ?_
      refine V_irem dX2_swell_60 (by decide) ?_
      refine V_iconst (v := 1) dX2_swell_61 (by decide) ?_
      refine V_ic_ne (tgt := 83) dX2_swell_62 (by decide) (fun c_62 => ?_) (fun c_62 => ?_)
      · exact V_vret dX2_swell_83 rfl (lfN (by simp only [F_X2_swell, if_neg c_5, if_pos c_26, if_neg c_62]))
      · refine V_aload_n dX2_swell_65 1 rfl ?_
        refine V_get (i := 9) inlX2 rfl hk rfl (by decide) q_66 rfl dX2_swell_66 ?_
        refine V_iload_n dX2_swell_69 2 rfl ?_
        refine V_iconst (v := 0) dX2_swell_70 (by decide) ?_
        refine V_aload_n dX2_swell_71 1 rfl ?_
        refine V_get (i := 9) inlX2 rfl hk rfl (by decide) q_66 rfl dX2_swell_72 ?_
        refine V_iload_n dX2_swell_75 2 rfl ?_
        refine L_2_4 hk (by first | exact ix_has c_5) dX2_swell_76 ?_
        refine V_iconst (v := 1) dX2_swell_77 (by decide) ?_
        refine V_isub dX2_swell_78 ?_
        refine V_mmax q_397 q_398 q_386 q_399 (by decide) (Nat.le_of_ble_eq_true rfl) (by decide) (by decide) dX2_swell_79 ?_
        refine S_2_4 hk (by first | exact ix_has c_5) dX2_swell_82 ?_
        exact V_vret dX2_swell_83 rfl (lfN (by simp only [F_X2_swell, if_neg c_5, if_pos c_26, if_pos c_62]))
  · exact V_vret dX2_swell_8 rfl (lfN (by simp only [F_X2_swell, if_pos c_5]))
theorem F_X2_swell_0 (g : mm_g) (k : Nat) (b : Int32) : (F_X2_swell g k b) 2 k 0 = g 2 k 0 := by
  unfold F_X2_swell
  repeat' split
  all_goals first | rfl | (simp only [wr_at]; repeat' split) <;> first | rfl | omega
def F_X2_flow_2 (k : Nat) (K : Nat → mm_g → mm_g) : Nat → Nat → mm_g → mm_g
  | 0, j, s => K j s
  | n + 1, j, s => (if (s 2 k 0) ≤ (nI j) then K j s else F_X2_flow_2 k K n (j + 1) (F_X2_swell s k (nI j)))
def F_X2_flow (g : mm_g) (k : Nat) : mm_g := (F_X2_flow_2 k (fun (j2 : Nat) (s2 : mm_g) => (wr s2 2 k 4 ((s2 2 k 4) + 1))) ((g 2 k 0).toInt.toNat + 1) 0 g)
set_option maxRecDepth 100000 in
set_option maxHeartbeats 4000000 in
theorem w_X2_flow_2 (l : Launch) (G : mm_G) {pr : Nat → Nat → Prop} {ad : Nat → Nat → Nat → Nat} (hw : mm_W pr) (k : Nat)  (hk : pr 2 k) (K : Nat → mm_g → mm_g) (hK : ∀ (j : Nat) (s : mm_g) (hj : j ≤ (s 2 k 0).toInt.toNat), V l G RX2 cX2_flow 2 none (rmk 4 126) (qN pr ad (K j s)) 0 0 0 0 21 [(0, .ref (ad 2 k 0)), (1, .int (nI j))] [] pr ad s) : ∀ (n : Nat) (j : Nat) (s : mm_g) (hj : j ≤ (s 2 k 0).toInt.toNat) (hm : (s 2 k 0).toInt.toNat - j < n), V l G RX2 cX2_flow 2 none (rmk 4 126) (qN pr ad (F_X2_flow_2 k K n j s)) 0 0 0 0 2 [(0, .ref (ad 2 k 0)), (1, .int (nI j))] [] pr ad s := by
  intro n
  induction n with
  | zero => intro j s hj hm; exact absurd hm (Nat.not_lt_zero _)
  | succ n ih =>
      intro j s hj hm
      refine V_iload_n dX2_flow_2 1 rfl ?_
      refine V_aload_n dX2_flow_3 0 rfl ?_
      refine V_get (i := 0) inlX2 rfl hk rfl (by decide) q_57 rfl dX2_flow_4 ?_
      refine V_ic_ge (tgt := 21) dX2_flow_7 (by decide) (fun c_7 => ?_) (fun c_7 => ?_)
      · refine V_rp (R2 := K j s) (by simp only [F_X2_flow_2, if_pos c_7]) ?_
        refine V_lp [0, 1] rfl ?_
        exact hK j s (by assumption)
      · refine V_aload_n dX2_flow_10 0 rfl ?_
        refine V_iload_n dX2_flow_11 1 rfl ?_
        refine V_cV (k_X2_swell l G hw s hk (nI j) ) hy_X2_swell hi_X2_swell hs_X2_swell q_392 rfl rfl hk rfl rfl rfl rfl rfl ⟨by decide, by decide⟩ (Nat.le_of_ble_eq_true rfl) ⟨by decide, by decide⟩ dX2_flow_12 (V_kN ?_)
        refine V_iinc (v := (nI (j + 1))) (L2 := [(1, .int (nI (j + 1))), (0, .ref (ad 2 k 0))]) dX2_flow_15 1 rfl (nI_1 _) (by decide) rfl ?_
        refine V_goto (tgt := 2) dX2_flow_18 (by decide) ?_
        refine V_rp (R2 := F_X2_flow_2 k K n (j + 1) (F_X2_swell s k (nI j))) (by simp only [F_X2_flow_2, if_neg c_7]) ?_
        refine V_lp [1, 0] rfl ?_
        exact ih (j + 1) (F_X2_swell s k (nI j)) (by rw [F_X2_swell_0]; exact (lp_up hj c_7 hm).1) (by rw [F_X2_swell_0]; exact (lp_up hj c_7 hm).2) 
set_option maxRecDepth 100000 in
set_option maxHeartbeats 4000000 in
theorem k_X2_flow (l : Launch) (G : mm_G) {pr : Nat → Nat → Prop} {ad : Nat → Nat → Nat → Nat} (hw : mm_W pr) (g : mm_g) {k : Nat} (hk : pr 2 k)  : Mt l G yX2_flow cX2_flow 2 none (rmk 4 126) [.ref (ad 2 k 0)] pr ad g (qN pr ad (F_X2_flow g k)) 0 0 := by
  refine Mt_of (by decide) (Nat.le_of_ble_eq_true rfl) ?_
  show V l G RX2 cX2_flow 2 none _ _ 0 0 0 0 0 [(0, .ref (ad 2 k 0))] [] pr ad g
  refine V_iconst (v := 0) dX2_flow_0 (by decide) ?_
  refine V_istore_n (L2 := [(1, .int 0), (0, .ref (ad 2 k 0))]) dX2_flow_1 (by decide) rfl ?_
  refine V_rp (R2 := F_X2_flow_2 k (fun (j2 : Nat) (s2 : mm_g) => (wr s2 2 k 4 ((s2 2 k 4) + 1))) ((g 2 k 0).toInt.toNat + 1) 0 g) (by simp only [F_X2_flow]) ?_
  refine V_lp [1, 0] rfl ?_
  refine w_X2_flow_2 l G hw k hk  _ (fun j2 s2 hj2 => ?_) ((g 2 k 0).toInt.toNat + 1) 0 g (by exact Nat.zero_le _) (by omega)
  refine V_aload_n dX2_flow_21 0 rfl ?_
  refine V_dup dX2_flow_22 rfl ?_
  refine V_get (i := 1) inlX2 rfl hk rfl (by decide) q_58 rfl dX2_flow_23 ?_
  refine V_iconst (v := 1) dX2_flow_26 (by decide) ?_
  refine V_iadd dX2_flow_27 ?_
  refine P_2_1 hk q_58 dX2_flow_28 ?_
  exact V_vret dX2_flow_31 rfl (lfN (by rfl))
def F_X2_rakeUp (g : mm_g) (k : Nat) (x1 : Int32) (x2 : Int32) : Int32 × mm_g := (if (F_X2_has g k x1) = 0 then (0, g) else (if (F_X6_within (F_X2_lying g k x1) 0 2) = 0 then ((F_X2_sieved x2), (wr g 2 k (18 + x1.toNatClampNeg) ((g 2 k (18 + x1.toNatClampNeg)) - (F_X2_sieved x2)))) else ((F_X2_sieved x2), (wr (wr g 2 k (6 + (F_X2_lying g k x1).toNatClampNeg) ((g 2 k (6 + (F_X2_lying g k x1).toNatClampNeg)) + (F_X2_sieved x2))) 2 k (18 + x1.toNatClampNeg) (((wr g 2 k (6 + (F_X2_lying g k x1).toNatClampNeg) ((g 2 k (6 + (F_X2_lying g k x1).toNatClampNeg)) + (F_X2_sieved x2))) 2 k (18 + x1.toNatClampNeg)) - (F_X2_sieved x2))))))
set_option maxRecDepth 100000 in
set_option maxHeartbeats 4000000 in
theorem k_X2_rakeUp (l : Launch) (G : mm_G) {pr : Nat → Nat → Prop} {ad : Nat → Nat → Nat → Nat} (hw : mm_W pr) (g : mm_g) {k : Nat} (hk : pr 2 k) (x1 : Int32) (x2 : Int32)  : Mt l G yX2_rakeUp cX2_rakeUp 5 (some .int) (rmk 3 104) [.ref (ad 2 k 0), .int x1, .int x2] pr ad g (qM pr ad (F_X2_rakeUp g k x1 x2)) 0 0 := by
  refine Mt_of (by decide) (Nat.le_of_ble_eq_true rfl) ?_
  show V l G RX2 cX2_rakeUp 5 (some .int) _ _ 0 0 0 0 0 [(0, .ref (ad 2 k 0)), (1, .int x1), (2, .int x2)] [] pr ad g
  refine V_aload_n dX2_rakeUp_0 0 rfl ?_
  refine V_iload_n dX2_rakeUp_1 1 rfl ?_
  refine V_cV (k_X2_has l G hw g hk x1 ) hy_X2_has hi_X2_has hs_X2_has q_400 rfl rfl hk rfl rfl rfl rfl rfl ⟨by decide, by decide⟩ (Nat.le_of_ble_eq_true rfl) ⟨by decide, by decide⟩ dX2_rakeUp_2 (V_kI ?_)
  refine V_if_ne (tgt := 10) dX2_rakeUp_5 (by decide) (fun c_5 => ?_) (fun c_5 => ?_)
  · refine V_iload_n dX2_rakeUp_10 2 rfl ?_
    refine V_cS (k_X2_sieved l G hw g  x2 ) hy_X2_sieved hz_X2_sieved q_472 rfl rfl rfl rfl ⟨by decide, by decide⟩ (Nat.le_of_ble_eq_true rfl) ⟨by decide, by decide⟩ dX2_rakeUp_11 (V_kI ?_)
    refine V_istore_n (L2 := [(3, .int (F_X2_sieved x2)), (0, .ref (ad 2 k 0)), (1, .int x1), (2, .int x2)]) dX2_rakeUp_14 (by decide) rfl ?_
    refine V_aload_n dX2_rakeUp_15 1 rfl ?_
    refine V_iload_n dX2_rakeUp_16 2 rfl ?_
    refine V_cV (k_X2_lying l G hw g hk x1 ) hy_X2_lying hi_X2_lying hs_X2_lying q_404 rfl rfl hk rfl rfl rfl rfl rfl ⟨by decide, by decide⟩ (Nat.le_of_ble_eq_true rfl) ⟨by decide, by decide⟩ dX2_rakeUp_17 (V_kI ?_)
    refine V_istore (L2 := [(4, .int (F_X2_lying g k x1)), (3, .int (F_X2_sieved x2)), (0, .ref (ad 2 k 0)), (1, .int x1), (2, .int x2)]) dX2_rakeUp_20 (by decide) rfl ?_
    refine V_iload dX2_rakeUp_22 0 rfl ?_
    refine V_iconst (v := 0) dX2_rakeUp_24 (by decide) ?_
    refine V_iconst (v := 2) dX2_rakeUp_25 (by decide) ?_
    refine V_cSN (k_X6_within l G hw g  (F_X2_lying g k x1) 0 2 ) hy_X6_within hz_X6_within nm_X2_63 rfl rfl rfl rfl ⟨by decide, by decide⟩ (Nat.le_of_ble_eq_true rfl) ⟨by decide, by decide⟩ dX2_rakeUp_26 (V_kI ?_)
    refine V_if_eq (tgt := 43) dX2_rakeUp_29 (by decide) (fun c_29 => ?_) (fun c_29 => ?_)
    · refine V_aload_n dX2_rakeUp_43 2 rfl ?_
      refine V_get (i := 8) inlX2 rfl hk rfl (by decide) q_65 rfl dX2_rakeUp_44 ?_
      refine V_iload_n dX2_rakeUp_47 3 rfl ?_
      refine V_dup2 dX2_rakeUp_48 rfl rfl ?_
      refine L_2_3 hk (by first | exact ix_has c_5) dX2_rakeUp_49 ?_
      refine V_iload_n dX2_rakeUp_50 1 rfl ?_
      refine V_isub dX2_rakeUp_51 ?_
      refine S_2_3 hk (by first | exact ix_has c_5) dX2_rakeUp_52 ?_
      refine V_iload_n dX2_rakeUp_53 1 rfl ?_
      exact V_iret dX2_rakeUp_54 rfl (lfM (by simp only [F_X2_rakeUp, if_neg c_5, if_pos c_29]))
    · refine V_aload_n dX2_rakeUp_32 2 rfl ?_
      refine V_get (i := 6) inlX2 rfl hk rfl (by decide) q_63 rfl dX2_rakeUp_33 ?_
      refine V_iload dX2_rakeUp_36 0 rfl ?_
      refine V_dup2 dX2_rakeUp_38 rfl rfl ?_
      refine L_2_1 hk (by first | exact ix_has c_5 | exact ix_w2 c_29) dX2_rakeUp_39 ?_
      refine V_iload_n dX2_rakeUp_40 1 rfl ?_
      refine V_iadd dX2_rakeUp_41 ?_
      refine S_2_1 hk (by first | exact ix_has c_5 | exact ix_w2 c_29) dX2_rakeUp_42 ?_
      refine V_aload_n dX2_rakeUp_43 2 rfl ?_
      refine V_get (i := 8) inlX2 rfl hk rfl (by decide) q_65 rfl dX2_rakeUp_44 ?_
      refine V_iload_n dX2_rakeUp_47 3 rfl ?_
      refine V_dup2 dX2_rakeUp_48 rfl rfl ?_
      refine L_2_3 hk (by first | exact ix_has c_5 | exact ix_w2 c_29) dX2_rakeUp_49 ?_
      refine V_iload_n dX2_rakeUp_50 1 rfl ?_
      refine V_isub dX2_rakeUp_51 ?_
      refine S_2_3 hk (by first | exact ix_has c_5 | exact ix_w2 c_29) dX2_rakeUp_52 ?_
      refine V_iload_n dX2_rakeUp_53 1 rfl ?_
      exact V_iret dX2_rakeUp_54 rfl (lfM (by simp only [F_X2_rakeUp, if_neg c_5, if_neg c_29]))
  · refine V_iconst (v := 0) dX2_rakeUp_8 (by decide) ?_
    exact V_iret dX2_rakeUp_9 rfl (lfM (by simp only [F_X2_rakeUp, if_pos c_5]))
def F_X2_tallyFor_8 (g8 : mm_g) (k : Nat) (x1 : Int32) (K : Int32 → Nat → Int32) : Nat → Int32 → Nat → Int32
  | 0, a, j => K a j
  | n + 1, a, j => (if (g8 2 k 0) ≤ (nI j) then K a j else (if (F_X2_hasVeto g8 k (nI j)) = 0 then (if (F_X2_lying g8 k (nI j)) = x1 then F_X2_tallyFor_8 g8 k x1 K n (a + (F_X2_sieved (F_X2_stockOf g8 k (nI j)))) (j + 1) else F_X2_tallyFor_8 g8 k x1 K n a (j + 1)) else F_X2_tallyFor_8 g8 k x1 K n a (j + 1)))
def F_X2_tallyFor (g : mm_g) (k : Nat) (x1 : Int32) : Int32 := (F_X2_tallyFor_8 g k x1 (fun (a8 : Int32) (j8 : Nat) => a8) ((g 2 k 0).toInt.toNat + 1) (F_X2_countedFor g k x1) 0)
set_option maxRecDepth 100000 in
set_option maxHeartbeats 4000000 in
theorem w_X2_tallyFor_8 (l : Launch) (G : mm_G) {pr : Nat → Nat → Prop} {ad : Nat → Nat → Nat → Nat} (hw : mm_W pr) (g8 : mm_g) (k : Nat) (x1 : Int32)  (hk : pr 2 k) (K : Int32 → Nat → Int32) (hK : ∀ (a : Int32) (j : Nat) (hj : j ≤ (g8 2 k 0).toInt.toNat), V l G RX2 cX2_tallyFor 4 (some .int) (rmk 3 104) (qI pr ad g8 (K a j)) 0 0 0 0 50 [(0, .ref (ad 2 k 0)), (1, .int x1), (2, .int a), (3, .int (nI j))] [] pr ad g8) : ∀ (n : Nat) (a : Int32) (j : Nat) (hj : j ≤ (g8 2 k 0).toInt.toNat) (hm : (g8 2 k 0).toInt.toNat - j < n), V l G RX2 cX2_tallyFor 4 (some .int) (rmk 3 104) (qI pr ad g8 (F_X2_tallyFor_8 g8 k x1 K n a j)) 0 0 0 0 8 [(0, .ref (ad 2 k 0)), (1, .int x1), (2, .int a), (3, .int (nI j))] [] pr ad g8 := by
  intro n
  induction n with
  | zero => intro a j hj hm; exact absurd hm (Nat.not_lt_zero _)
  | succ n ih =>
      intro a j hj hm
      refine V_iload_n dX2_tallyFor_8 3 rfl ?_
      refine V_aload_n dX2_tallyFor_9 0 rfl ?_
      refine V_get (i := 0) inlX2 rfl hk rfl (by decide) q_57 rfl dX2_tallyFor_10 ?_
      refine V_ic_ge (tgt := 50) dX2_tallyFor_13 (by decide) (fun c_13 => ?_) (fun c_13 => ?_)
      · refine V_rp (R2 := K a j) (by simp only [F_X2_tallyFor_8, if_pos c_13]) ?_
        refine V_lp [0, 1, 2, 3] rfl ?_
        exact hK a j (by assumption)
      · refine V_aload_n dX2_tallyFor_16 0 rfl ?_
        refine V_iload_n dX2_tallyFor_17 3 rfl ?_
        refine V_cV (k_X2_hasVeto l G hw g8 hk (nI j) ) hy_X2_hasVeto hi_X2_hasVeto hs_X2_hasVeto q_610 rfl rfl hk rfl rfl rfl rfl rfl ⟨by decide, by decide⟩ (Nat.le_of_ble_eq_true rfl) ⟨by decide, by decide⟩ dX2_tallyFor_18 (V_kI ?_)
        refine V_if_ne (tgt := 44) dX2_tallyFor_21 (by decide) (fun c_21 => ?_) (fun c_21 => ?_)
        · refine V_iinc (v := (nI (j + 1))) (L2 := [(3, .int (nI (j + 1))), (0, .ref (ad 2 k 0)), (1, .int x1), (2, .int a)]) dX2_tallyFor_44 3 rfl (nI_1 _) (by decide) rfl ?_
          refine V_goto (tgt := 8) dX2_tallyFor_47 (by decide) ?_
          refine V_rp (R2 := F_X2_tallyFor_8 g8 k x1 K n a (j + 1)) (by simp only [F_X2_tallyFor_8, if_neg c_13, if_neg c_21]) ?_
          refine V_lp [1, 2, 3, 0] rfl ?_
          exact ih a (j + 1) (by exact (lp_up hj c_13 hm).1) (by exact (lp_up hj c_13 hm).2) 
        · refine V_aload_n dX2_tallyFor_24 0 rfl ?_
          refine V_iload_n dX2_tallyFor_25 3 rfl ?_
          refine V_cV (k_X2_lying l G hw g8 hk (nI j) ) hy_X2_lying hi_X2_lying hs_X2_lying q_404 rfl rfl hk rfl rfl rfl rfl rfl ⟨by decide, by decide⟩ (Nat.le_of_ble_eq_true rfl) ⟨by decide, by decide⟩ dX2_tallyFor_26 (V_kI ?_)
          refine V_iload_n dX2_tallyFor_29 1 rfl ?_
          refine V_ic_ne (tgt := 44) dX2_tallyFor_30 (by decide) (fun c_30 => ?_) (fun c_30 => ?_)
          · refine V_iinc (v := (nI (j + 1))) (L2 := [(3, .int (nI (j + 1))), (0, .ref (ad 2 k 0)), (1, .int x1), (2, .int a)]) dX2_tallyFor_44 3 rfl (nI_1 _) (by decide) rfl ?_
            refine V_goto (tgt := 8) dX2_tallyFor_47 (by decide) ?_
            refine V_rp (R2 := F_X2_tallyFor_8 g8 k x1 K n a (j + 1)) (by simp only [F_X2_tallyFor_8, if_neg c_13, if_pos c_21, if_neg c_30]) ?_
            refine V_lp [1, 2, 3, 0] rfl ?_
            exact ih a (j + 1) (by exact (lp_up hj c_13 hm).1) (by exact (lp_up hj c_13 hm).2) 
          · refine V_iload_n dX2_tallyFor_33 2 rfl ?_
            refine V_aload_n dX2_tallyFor_34 0 rfl ?_
            refine V_iload_n dX2_tallyFor_35 3 rfl ?_
            refine V_cV (k_X2_stockOf l G hw g8 hk (nI j) ) hy_X2_stockOf hi_X2_stockOf hs_X2_stockOf q_425 rfl rfl hk rfl rfl rfl rfl rfl ⟨by decide, by decide⟩ (Nat.le_of_ble_eq_true rfl) ⟨by decide, by decide⟩ dX2_tallyFor_36 (V_kI ?_)
            refine V_cS (k_X2_sieved l G hw g8  (F_X2_stockOf g8 k (nI j)) ) hy_X2_sieved hz_X2_sieved q_472 rfl rfl rfl rfl ⟨by decide, by decide⟩ (Nat.le_of_ble_eq_true rfl) ⟨by decide, by decide⟩ dX2_tallyFor_39 (V_kI ?_)
            refine V_iadd dX2_tallyFor_42 ?_
            refine V_istore_n (L2 := [(2, .int (a + (F_X2_sieved (F_X2_stockOf g8 k (nI j))))), (0, .ref (ad 2 k 0)), (1, .int x1), (3, .int (nI j))]) dX2_tallyFor_43 (by decide) rfl ?_
            refine V_iinc (v := (nI (j + 1))) (L2 := [(3, .int (nI (j + 1))), (2, .int (a + (F_X2_sieved (F_X2_stockOf g8 k (nI j))))), (0, .ref (ad 2 k 0)), (1, .int x1)]) dX2_tallyFor_44 3 rfl (nI_1 _) (by decide) rfl ?_
            refine V_goto (tgt := 8) dX2_tallyFor_47 (by decide) ?_
            refine V_rp (R2 := F_X2_tallyFor_8 g8 k x1 K n (a + (F_X2_sieved (F_X2_stockOf g8 k (nI j)))) (j + 1)) (by simp only [F_X2_tallyFor_8, if_neg c_13, if_pos c_21, if_pos c_30]) ?_
            refine V_lp [2, 3, 1, 0] rfl ?_
            exact ih (a + (F_X2_sieved (F_X2_stockOf g8 k (nI j)))) (j + 1) (by exact (lp_up hj c_13 hm).1) (by exact (lp_up hj c_13 hm).2) 
set_option maxRecDepth 100000 in
set_option maxHeartbeats 4000000 in
theorem k_X2_tallyFor (l : Launch) (G : mm_G) {pr : Nat → Nat → Prop} {ad : Nat → Nat → Nat → Nat} (hw : mm_W pr) (g : mm_g) {k : Nat} (hk : pr 2 k) (x1 : Int32)  : Mt l G yX2_tallyFor cX2_tallyFor 4 (some .int) (rmk 3 104) [.ref (ad 2 k 0), .int x1] pr ad g (qI pr ad g (F_X2_tallyFor g k x1)) 0 0 := by
  refine Mt_of (by decide) (Nat.le_of_ble_eq_true rfl) ?_
  show V l G RX2 cX2_tallyFor 4 (some .int) _ _ 0 0 0 0 0 [(0, .ref (ad 2 k 0)), (1, .int x1)] [] pr ad g
  refine V_aload_n dX2_tallyFor_0 0 rfl ?_
  refine V_iload_n dX2_tallyFor_1 1 rfl ?_
  refine V_cV (k_X2_countedFor l G hw g hk x1 ) hy_X2_countedFor hi_X2_countedFor hs_X2_countedFor q_609 rfl rfl hk rfl rfl rfl rfl rfl ⟨by decide, by decide⟩ (Nat.le_of_ble_eq_true rfl) ⟨by decide, by decide⟩ dX2_tallyFor_2 (V_kI ?_)
  refine V_istore_n (L2 := [(2, .int (F_X2_countedFor g k x1)), (0, .ref (ad 2 k 0)), (1, .int x1)]) dX2_tallyFor_5 (by decide) rfl ?_
  refine V_iconst (v := 0) dX2_tallyFor_6 (by decide) ?_
  refine V_istore_n (L2 := [(3, .int 0), (2, .int (F_X2_countedFor g k x1)), (0, .ref (ad 2 k 0)), (1, .int x1)]) dX2_tallyFor_7 (by decide) rfl ?_
  refine V_rp (R2 := F_X2_tallyFor_8 g k x1 (fun (a8 : Int32) (j8 : Nat) => a8) ((g 2 k 0).toInt.toNat + 1) (F_X2_countedFor g k x1) 0) (by simp only [F_X2_tallyFor]) ?_
  refine V_lp [2, 3, 1, 0] rfl ?_
  refine w_X2_tallyFor_8 l G hw g k x1 hk  _ (fun a8 j8 hj8 => ?_) ((g 2 k 0).toInt.toNat + 1) (F_X2_countedFor g k x1) 0 (by first | exact Nat.zero_le _ | decide) (by omega)
  refine V_iload_n dX2_tallyFor_50 2 rfl ?_
  exact V_iret dX2_tallyFor_51 rfl (lfI (by rfl))
def F_X2_leadOf_8 (g8 : mm_g) (k : Nat) (x1 : Int32) (K : Int32 → Nat → Int32) : Nat → Int32 → Nat → Int32
  | 0, a, j => K a j
  | n + 1, a, j => (if (g8 2 k 0) ≤ (nI j) then K a j else (if (F_X2_hasVeto g8 k (nI j)) = 0 then F_X2_leadOf_8 g8 k x1 K n (a + (F_X2_gainBy g8 k (nI j) x1)) (j + 1) else F_X2_leadOf_8 g8 k x1 K n a (j + 1)))
def F_X2_leadOf (g : mm_g) (k : Nat) (x1 : Int32) : Int32 := (F_X2_leadOf_8 g k x1 (fun (a8 : Int32) (j8 : Nat) => a8) ((g 2 k 0).toInt.toNat + 1) (F_X2_countedLead g k x1) 0)
set_option maxRecDepth 100000 in
set_option maxHeartbeats 4000000 in
theorem w_X2_leadOf_8 (l : Launch) (G : mm_G) {pr : Nat → Nat → Prop} {ad : Nat → Nat → Nat → Nat} (hw : mm_W pr) (g8 : mm_g) (k : Nat) (x1 : Int32)  (hk : pr 2 k) (K : Int32 → Nat → Int32) (hK : ∀ (a : Int32) (j : Nat) (hj : j ≤ (g8 2 k 0).toInt.toNat), V l G RX2 cX2_leadOf 4 (some .int) (rmk 4 128) (qI pr ad g8 (K a j)) 0 0 0 0 39 [(0, .ref (ad 2 k 0)), (1, .int x1), (2, .int a), (3, .int (nI j))] [] pr ad g8) : ∀ (n : Nat) (a : Int32) (j : Nat) (hj : j ≤ (g8 2 k 0).toInt.toNat) (hm : (g8 2 k 0).toInt.toNat - j < n), V l G RX2 cX2_leadOf 4 (some .int) (rmk 4 128) (qI pr ad g8 (F_X2_leadOf_8 g8 k x1 K n a j)) 0 0 0 0 8 [(0, .ref (ad 2 k 0)), (1, .int x1), (2, .int a), (3, .int (nI j))] [] pr ad g8 := by
  intro n
  induction n with
  | zero => intro a j hj hm; exact absurd hm (Nat.not_lt_zero _)
  | succ n ih =>
      intro a j hj hm
      refine V_iload_n dX2_leadOf_8 3 rfl ?_
      refine V_aload_n dX2_leadOf_9 0 rfl ?_
      refine V_get (i := 0) inlX2 rfl hk rfl (by decide) q_57 rfl dX2_leadOf_10 ?_
      refine V_ic_ge (tgt := 39) dX2_leadOf_13 (by decide) (fun c_13 => ?_) (fun c_13 => ?_)
      · refine V_rp (R2 := K a j) (by simp only [F_X2_leadOf_8, if_pos c_13]) ?_
        refine V_lp [0, 1, 2, 3] rfl ?_
        exact hK a j (by assumption)
      · refine V_aload_n dX2_leadOf_16 0 rfl ?_
        refine V_iload_n dX2_leadOf_17 3 rfl ?_
        refine V_cV (k_X2_hasVeto l G hw g8 hk (nI j) ) hy_X2_hasVeto hi_X2_hasVeto hs_X2_hasVeto q_610 rfl rfl hk rfl rfl rfl rfl rfl ⟨by decide, by decide⟩ (Nat.le_of_ble_eq_true rfl) ⟨by decide, by decide⟩ dX2_leadOf_18 (V_kI ?_)
        refine V_if_ne (tgt := 33) dX2_leadOf_21 (by decide) (fun c_21 => ?_) (fun c_21 => ?_)
        · refine V_iinc (v := (nI (j + 1))) (L2 := [(3, .int (nI (j + 1))), (0, .ref (ad 2 k 0)), (1, .int x1), (2, .int a)]) dX2_leadOf_33 3 rfl (nI_1 _) (by decide) rfl ?_
          refine V_goto (tgt := 8) dX2_leadOf_36 (by decide) ?_
          refine V_rp (R2 := F_X2_leadOf_8 g8 k x1 K n a (j + 1)) (by simp only [F_X2_leadOf_8, if_neg c_13, if_neg c_21]) ?_
          refine V_lp [1, 2, 3, 0] rfl ?_
          exact ih a (j + 1) (by exact (lp_up hj c_13 hm).1) (by exact (lp_up hj c_13 hm).2) 
        · refine V_iload_n dX2_leadOf_24 2 rfl ?_
          refine V_aload_n dX2_leadOf_25 0 rfl ?_
          refine V_iload_n dX2_leadOf_26 3 rfl ?_
          refine V_iload_n dX2_leadOf_27 1 rfl ?_
          refine V_cV (k_X2_gainBy l G hw g8 hk (nI j) x1 ) hy_X2_gainBy hi_X2_gainBy hs_X2_gainBy q_659 rfl rfl hk rfl rfl rfl rfl rfl ⟨by decide, by decide⟩ (Nat.le_of_ble_eq_true rfl) ⟨by decide, by decide⟩ dX2_leadOf_28 (V_kI ?_)
          refine V_iadd dX2_leadOf_31 ?_
          refine V_istore_n (L2 := [(2, .int (a + (F_X2_gainBy g8 k (nI j) x1))), (0, .ref (ad 2 k 0)), (1, .int x1), (3, .int (nI j))]) dX2_leadOf_32 (by decide) rfl ?_
          refine V_iinc (v := (nI (j + 1))) (L2 := [(3, .int (nI (j + 1))), (2, .int (a + (F_X2_gainBy g8 k (nI j) x1))), (0, .ref (ad 2 k 0)), (1, .int x1)]) dX2_leadOf_33 3 rfl (nI_1 _) (by decide) rfl ?_
          refine V_goto (tgt := 8) dX2_leadOf_36 (by decide) ?_
          refine V_rp (R2 := F_X2_leadOf_8 g8 k x1 K n (a + (F_X2_gainBy g8 k (nI j) x1)) (j + 1)) (by simp only [F_X2_leadOf_8, if_neg c_13, if_pos c_21]) ?_
          refine V_lp [2, 3, 1, 0] rfl ?_
          exact ih (a + (F_X2_gainBy g8 k (nI j) x1)) (j + 1) (by exact (lp_up hj c_13 hm).1) (by exact (lp_up hj c_13 hm).2) 
set_option maxRecDepth 100000 in
set_option maxHeartbeats 4000000 in
theorem k_X2_leadOf (l : Launch) (G : mm_G) {pr : Nat → Nat → Prop} {ad : Nat → Nat → Nat → Nat} (hw : mm_W pr) (g : mm_g) {k : Nat} (hk : pr 2 k) (x1 : Int32)  : Mt l G yX2_leadOf cX2_leadOf 4 (some .int) (rmk 4 128) [.ref (ad 2 k 0), .int x1] pr ad g (qI pr ad g (F_X2_leadOf g k x1)) 0 0 := by
  refine Mt_of (by decide) (Nat.le_of_ble_eq_true rfl) ?_
  show V l G RX2 cX2_leadOf 4 (some .int) _ _ 0 0 0 0 0 [(0, .ref (ad 2 k 0)), (1, .int x1)] [] pr ad g
  refine V_aload_n dX2_leadOf_0 0 rfl ?_
  refine V_iload_n dX2_leadOf_1 1 rfl ?_
  refine V_cV (k_X2_countedLead l G hw g hk x1 ) hy_X2_countedLead hi_X2_countedLead hs_X2_countedLead q_655 rfl rfl hk rfl rfl rfl rfl rfl ⟨by decide, by decide⟩ (Nat.le_of_ble_eq_true rfl) ⟨by decide, by decide⟩ dX2_leadOf_2 (V_kI ?_)
  refine V_istore_n (L2 := [(2, .int (F_X2_countedLead g k x1)), (0, .ref (ad 2 k 0)), (1, .int x1)]) dX2_leadOf_5 (by decide) rfl ?_
  refine V_iconst (v := 0) dX2_leadOf_6 (by decide) ?_
  refine V_istore_n (L2 := [(3, .int 0), (2, .int (F_X2_countedLead g k x1)), (0, .ref (ad 2 k 0)), (1, .int x1)]) dX2_leadOf_7 (by decide) rfl ?_
  refine V_rp (R2 := F_X2_leadOf_8 g k x1 (fun (a8 : Int32) (j8 : Nat) => a8) ((g 2 k 0).toInt.toNat + 1) (F_X2_countedLead g k x1) 0) (by simp only [F_X2_leadOf]) ?_
  refine V_lp [2, 3, 1, 0] rfl ?_
  refine w_X2_leadOf_8 l G hw g k x1 hk  _ (fun a8 j8 hj8 => ?_) ((g 2 k 0).toInt.toNat + 1) (F_X2_countedLead g k x1) 0 (by first | exact Nat.zero_le _ | decide) (by omega)
  refine V_iload_n dX2_leadOf_39 2 rfl ?_
  exact V_iret dX2_leadOf_40 rfl (lfI (by rfl))
def F_X2_deciding_10 (g10 : mm_g) (k : Nat) (f1 : Int32) (K : Int32 → Nat → Int32) : Nat → Int32 → Nat → Int32
  | 0, a, j => K a j
  | n + 1, a, j => (if (g10 2 k 0) ≤ (nI j) then K a j else (if (F_X2_hasVeto g10 k (nI j)) = 0 then (if (F_X2_leader (f1 - (F_X2_gainBy g10 k (nI j) 0))) = (F_X2_leader f1) then F_X2_deciding_10 g10 k f1 K n a (j + 1) else F_X2_deciding_10 g10 k f1 K n (a ||| ((1 : Int32) <<< ((nI j) &&& 31))) (j + 1)) else (if (F_X2_leader (f1 + (F_X2_gainBy g10 k (nI j) 0))) = (F_X2_leader f1) then F_X2_deciding_10 g10 k f1 K n a (j + 1) else F_X2_deciding_10 g10 k f1 K n (a ||| ((1 : Int32) <<< ((nI j) &&& 31))) (j + 1))))
def F_X2_deciding (g : mm_g) (k : Nat) : Int32 := (F_X2_deciding_10 g k (F_X2_leadOf g k 0) (fun (a10 : Int32) (j10 : Nat) => a10) ((g 2 k 0).toInt.toNat + 1) 0 0)
set_option maxRecDepth 100000 in
set_option maxHeartbeats 4000000 in
theorem w_X2_deciding_10 (l : Launch) (G : mm_G) {pr : Nat → Nat → Prop} {ad : Nat → Nat → Nat → Nat} (hw : mm_W pr) (g10 : mm_g) (k : Nat) (f1 : Int32)  (hk : pr 2 k) (K : Int32 → Nat → Int32) (hK : ∀ (a : Int32) (j : Nat) (hj : j ≤ (g10 2 k 0).toInt.toNat), V l G RX2 cX2_deciding 6 (some .int) (rmk 5 151) (qI pr ad g10 (K a j)) 0 0 0 0 71 [(0, .ref (ad 2 k 0)), (1, .int f1), (2, .int a), (3, .int (nI j))] [] pr ad g10) : ∀ (n : Nat) (a : Int32) (j : Nat) (hj : j ≤ (g10 2 k 0).toInt.toNat) (hm : (g10 2 k 0).toInt.toNat - j < n), V l G RX2 cX2_deciding 6 (some .int) (rmk 5 151) (qI pr ad g10 (F_X2_deciding_10 g10 k f1 K n a j)) 0 0 0 0 10 [(0, .ref (ad 2 k 0)), (1, .int f1), (2, .int a), (3, .int (nI j))] [] pr ad g10 := by
  intro n
  induction n with
  | zero => intro a j hj hm; exact absurd hm (Nat.not_lt_zero _)
  | succ n ih =>
      intro a j hj hm
      refine V_iload_n dX2_deciding_10 3 rfl ?_
      refine V_aload_n dX2_deciding_11 0 rfl ?_
      refine V_get (i := 0) inlX2 rfl hk rfl (by decide) q_57 rfl dX2_deciding_12 ?_
      refine V_ic_ge (tgt := 71) dX2_deciding_15 (by decide) (fun c_15 => ?_) (fun c_15 => ?_)
      · refine V_rp (R2 := K a j) (by simp only [F_X2_deciding_10, if_pos c_15]) ?_
        refine V_lp [0, 1, 2, 3] rfl ?_
        exact hK a j (by assumption)
      · refine V_aload_n dX2_deciding_18 0 rfl ?_
        refine V_iload_n dX2_deciding_19 3 rfl ?_
        refine V_iconst (v := 0) dX2_deciding_20 (by decide) ?_
        refine V_cV (k_X2_gainBy l G hw g10 hk (nI j) 0 ) hy_X2_gainBy hi_X2_gainBy hs_X2_gainBy q_659 rfl rfl hk rfl rfl rfl rfl rfl ⟨by decide, by decide⟩ (Nat.le_of_ble_eq_true rfl) ⟨by decide, by decide⟩ dX2_deciding_21 (V_kI ?_)
        refine V_istore (L2 := [(4, .int (F_X2_gainBy g10 k (nI j) 0)), (0, .ref (ad 2 k 0)), (1, .int f1), (2, .int a), (3, .int (nI j))]) dX2_deciding_24 (by decide) rfl ?_
        refine V_aload_n dX2_deciding_26 1 rfl ?_
        refine V_iload_n dX2_deciding_27 4 rfl ?_
        refine V_cV (k_X2_hasVeto l G hw g10 hk (nI j) ) hy_X2_hasVeto hi_X2_hasVeto hs_X2_hasVeto q_610 rfl rfl hk rfl rfl rfl rfl rfl ⟨by decide, by decide⟩ (Nat.le_of_ble_eq_true rfl) ⟨by decide, by decide⟩ dX2_deciding_28 (V_kI ?_)
        refine V_if_eq (tgt := 41) dX2_deciding_31 (by decide) (fun c_31 => ?_) (fun c_31 => ?_)
        · refine V_iload_n dX2_deciding_41 2 rfl ?_
          refine V_iload dX2_deciding_42 0 rfl ?_
          refine V_isub dX2_deciding_44 ?_
          refine V_istore (L2 := [(5, .int (f1 - (F_X2_gainBy g10 k (nI j) 0))), (4, .int (F_X2_gainBy g10 k (nI j) 0)), (0, .ref (ad 2 k 0)), (1, .int f1), (2, .int a), (3, .int (nI j))]) dX2_deciding_45 (by decide) rfl ?_
          refine V_iload dX2_deciding_47 0 rfl ?_
          refine V_cS (k_X2_leader l G hw g10  (f1 - (F_X2_gainBy g10 k (nI j) 0)) ) hy_X2_leader hz_X2_leader q_780 rfl rfl rfl rfl ⟨by decide, by decide⟩ (Nat.le_of_ble_eq_true rfl) ⟨by decide, by decide⟩ dX2_deciding_49 (V_kI ?_)
          refine V_iload_n dX2_deciding_52 3 rfl ?_
          refine V_cS (k_X2_leader l G hw g10  f1 ) hy_X2_leader hz_X2_leader q_780 rfl rfl rfl rfl ⟨by decide, by decide⟩ (Nat.le_of_ble_eq_true rfl) ⟨by decide, by decide⟩ dX2_deciding_53 (V_kI ?_)
          refine V_ic_eq (tgt := 65) dX2_deciding_56 (by decide) (fun c_56 => ?_) (fun c_56 => ?_)
          · refine V_iinc (v := (nI (j + 1))) (L2 := [(3, .int (nI (j + 1))), (5, .int (f1 - (F_X2_gainBy g10 k (nI j) 0))), (4, .int (F_X2_gainBy g10 k (nI j) 0)), (0, .ref (ad 2 k 0)), (1, .int f1), (2, .int a)]) dX2_deciding_65 5 rfl (nI_1 _) (by decide) rfl ?_
            refine V_goto (tgt := 10) dX2_deciding_68 (by decide) ?_
            refine V_rp (R2 := F_X2_deciding_10 g10 k f1 K n a (j + 1)) (by simp only [F_X2_deciding_10, if_neg c_15, if_pos c_31, if_pos c_56]) ?_
            refine V_lp [3, 4, 5, 0] rfl ?_
            exact ih a (j + 1) (by exact (lp_up hj c_15 hm).1) (by exact (lp_up hj c_15 hm).2) 
          · refine V_iload_n dX2_deciding_59 4 rfl ?_
            refine V_iconst (v := 1) dX2_deciding_60 (by decide) ?_
            refine V_iload_n dX2_deciding_61 5 rfl ?_
            refine V_ishl dX2_deciding_62 ?_
            refine V_ior dX2_deciding_63 ?_
            refine V_istore_n (L2 := [(2, .int (a ||| ((1 : Int32) <<< ((nI j) &&& 31)))), (5, .int (f1 - (F_X2_gainBy g10 k (nI j) 0))), (4, .int (F_X2_gainBy g10 k (nI j) 0)), (0, .ref (ad 2 k 0)), (1, .int f1), (3, .int (nI j))]) dX2_deciding_64 (by decide) rfl ?_
            refine V_iinc (v := (nI (j + 1))) (L2 := [(3, .int (nI (j + 1))), (2, .int (a ||| ((1 : Int32) <<< ((nI j) &&& 31)))), (5, .int (f1 - (F_X2_gainBy g10 k (nI j) 0))), (4, .int (F_X2_gainBy g10 k (nI j) 0)), (0, .ref (ad 2 k 0)), (1, .int f1)]) dX2_deciding_65 5 rfl (nI_1 _) (by decide) rfl ?_
            refine V_goto (tgt := 10) dX2_deciding_68 (by decide) ?_
            refine V_rp (R2 := F_X2_deciding_10 g10 k f1 K n (a ||| ((1 : Int32) <<< ((nI j) &&& 31))) (j + 1)) (by simp only [F_X2_deciding_10, if_neg c_15, if_pos c_31, if_neg c_56]) ?_
            refine V_lp [4, 5, 1, 0] rfl ?_
            exact ih (a ||| ((1 : Int32) <<< ((nI j) &&& 31))) (j + 1) (by exact (lp_up hj c_15 hm).1) (by exact (lp_up hj c_15 hm).2) 
        · refine V_iload_n dX2_deciding_34 2 rfl ?_
          refine V_iload dX2_deciding_35 0 rfl ?_
          refine V_iadd dX2_deciding_37 ?_
          refine V_goto (tgt := 45) dX2_deciding_38 (by decide) ?_
          refine V_istore (L2 := [(5, .int (f1 + (F_X2_gainBy g10 k (nI j) 0))), (4, .int (F_X2_gainBy g10 k (nI j) 0)), (0, .ref (ad 2 k 0)), (1, .int f1), (2, .int a), (3, .int (nI j))]) dX2_deciding_45 (by decide) rfl ?_
          refine V_iload dX2_deciding_47 0 rfl ?_
          refine V_cS (k_X2_leader l G hw g10  (f1 + (F_X2_gainBy g10 k (nI j) 0)) ) hy_X2_leader hz_X2_leader q_780 rfl rfl rfl rfl ⟨by decide, by decide⟩ (Nat.le_of_ble_eq_true rfl) ⟨by decide, by decide⟩ dX2_deciding_49 (V_kI ?_)
          refine V_iload_n dX2_deciding_52 3 rfl ?_
          refine V_cS (k_X2_leader l G hw g10  f1 ) hy_X2_leader hz_X2_leader q_780 rfl rfl rfl rfl ⟨by decide, by decide⟩ (Nat.le_of_ble_eq_true rfl) ⟨by decide, by decide⟩ dX2_deciding_53 (V_kI ?_)
          refine V_ic_eq (tgt := 65) dX2_deciding_56 (by decide) (fun c_56 => ?_) (fun c_56 => ?_)
          · refine V_iinc (v := (nI (j + 1))) (L2 := [(3, .int (nI (j + 1))), (5, .int (f1 + (F_X2_gainBy g10 k (nI j) 0))), (4, .int (F_X2_gainBy g10 k (nI j) 0)), (0, .ref (ad 2 k 0)), (1, .int f1), (2, .int a)]) dX2_deciding_65 5 rfl (nI_1 _) (by decide) rfl ?_
            refine V_goto (tgt := 10) dX2_deciding_68 (by decide) ?_
            refine V_rp (R2 := F_X2_deciding_10 g10 k f1 K n a (j + 1)) (by simp only [F_X2_deciding_10, if_neg c_15, if_neg c_31, if_pos c_56]) ?_
            refine V_lp [3, 4, 5, 0] rfl ?_
            exact ih a (j + 1) (by exact (lp_up hj c_15 hm).1) (by exact (lp_up hj c_15 hm).2) 
          · refine V_iload_n dX2_deciding_59 4 rfl ?_
            refine V_iconst (v := 1) dX2_deciding_60 (by decide) ?_
            refine V_iload_n dX2_deciding_61 5 rfl ?_
            refine V_ishl dX2_deciding_62 ?_
            refine V_ior dX2_deciding_63 ?_
            refine V_istore_n (L2 := [(2, .int (a ||| ((1 : Int32) <<< ((nI j) &&& 31)))), (5, .int (f1 + (F_X2_gainBy g10 k (nI j) 0))), (4, .int (F_X2_gainBy g10 k (nI j) 0)), (0, .ref (ad 2 k 0)), (1, .int f1), (3, .int (nI j))]) dX2_deciding_64 (by decide) rfl ?_
            refine V_iinc (v := (nI (j + 1))) (L2 := [(3, .int (nI (j + 1))), (2, .int (a ||| ((1 : Int32) <<< ((nI j) &&& 31)))), (5, .int (f1 + (F_X2_gainBy g10 k (nI j) 0))), (4, .int (F_X2_gainBy g10 k (nI j) 0)), (0, .ref (ad 2 k 0)), (1, .int f1)]) dX2_deciding_65 5 rfl (nI_1 _) (by decide) rfl ?_
            refine V_goto (tgt := 10) dX2_deciding_68 (by decide) ?_
            refine V_rp (R2 := F_X2_deciding_10 g10 k f1 K n (a ||| ((1 : Int32) <<< ((nI j) &&& 31))) (j + 1)) (by simp only [F_X2_deciding_10, if_neg c_15, if_neg c_31, if_neg c_56]) ?_
            refine V_lp [4, 5, 1, 0] rfl ?_
            exact ih (a ||| ((1 : Int32) <<< ((nI j) &&& 31))) (j + 1) (by exact (lp_up hj c_15 hm).1) (by exact (lp_up hj c_15 hm).2) 
set_option maxRecDepth 100000 in
set_option maxHeartbeats 4000000 in
theorem k_X2_deciding (l : Launch) (G : mm_G) {pr : Nat → Nat → Prop} {ad : Nat → Nat → Nat → Nat} (hw : mm_W pr) (g : mm_g) {k : Nat} (hk : pr 2 k)  : Mt l G yX2_deciding cX2_deciding 6 (some .int) (rmk 5 151) [.ref (ad 2 k 0)] pr ad g (qI pr ad g (F_X2_deciding g k)) 0 0 := by
  refine Mt_of (by decide) (Nat.le_of_ble_eq_true rfl) ?_
  show V l G RX2 cX2_deciding 6 (some .int) _ _ 0 0 0 0 0 [(0, .ref (ad 2 k 0))] [] pr ad g
  refine V_aload_n dX2_deciding_0 0 rfl ?_
  refine V_iconst (v := 0) dX2_deciding_1 (by decide) ?_
  refine V_cV (k_X2_leadOf l G hw g hk 0 ) hy_X2_leadOf hi_X2_leadOf hs_X2_leadOf q_779 rfl rfl hk rfl rfl rfl rfl rfl ⟨by decide, by decide⟩ (Nat.le_of_ble_eq_true rfl) ⟨by decide, by decide⟩ dX2_deciding_2 (V_kI ?_)
  refine V_istore_n (L2 := [(1, .int (F_X2_leadOf g k 0)), (0, .ref (ad 2 k 0))]) dX2_deciding_5 (by decide) rfl ?_
  refine V_iconst (v := 0) dX2_deciding_6 (by decide) ?_
  refine V_istore_n (L2 := [(2, .int 0), (1, .int (F_X2_leadOf g k 0)), (0, .ref (ad 2 k 0))]) dX2_deciding_7 (by decide) rfl ?_
  refine V_iconst (v := 0) dX2_deciding_8 (by decide) ?_
  refine V_istore_n (L2 := [(3, .int 0), (2, .int 0), (1, .int (F_X2_leadOf g k 0)), (0, .ref (ad 2 k 0))]) dX2_deciding_9 (by decide) rfl ?_
  refine V_rp (R2 := F_X2_deciding_10 g k (F_X2_leadOf g k 0) (fun (a10 : Int32) (j10 : Nat) => a10) ((g 2 k 0).toInt.toNat + 1) 0 0) (by simp only [F_X2_deciding]) ?_
  refine V_lp [3, 2, 1, 0] rfl ?_
  refine w_X2_deciding_10 l G hw g k (F_X2_leadOf g k 0) hk  _ (fun a10 j10 hj10 => ?_) ((g 2 k 0).toInt.toNat + 1) 0 0 (by first | exact Nat.zero_le _ | decide) (by omega)
  refine V_iload_n dX2_deciding_71 2 rfl ?_
  exact V_iret dX2_deciding_72 rfl (lfI (by rfl))
