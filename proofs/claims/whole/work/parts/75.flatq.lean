theorem ti_57 : (57 : Int32).toInt = 57 := rfl
theorem vl_1 {c : Fl} {m p : Nat} (h : Ch c m) (hp : p ≤ m) (d : dl c p = 1 ∨ dl c p = 2) : vlF c 101 p 0 = nv c p (dl c p) := by
  have e1 := dl_s h hp
  by_cases z : F_X6_within (c p) 48 57 = 0
  · rw [if_pos z] at e1
    omega
  · have hpm : p ≠ m := fun e => z (by subst e; rw [h.2 p (Nat.le_refl p)]; decide)
    have e2 := dl_s h (show p + 1 ≤ m by omega)
    rw [if_neg z] at e1
    have r := within_iff.mp z
    have t48 : (48 : Int32).toInt = 48 := rfl
    have t99 : (99 : Int32).toInt = 99 := rfl
    have r99 : 10 * 0 + c p - 48 ≤ 99 := by
      rw [ti_57, t48] at r
      rw [Int32.mul_zero, Int32.zero_add, toI_le, Int32.toInt_sub, t48, t99, Int.bmod_eq_of_le_mul_two (by omega) (by omega)]
      omega
    rw [vlF, if_neg z, if_pos (show (0 : Int32) ≤ 99 by decide)]
    by_cases y : F_X6_within (c (p + 1)) 48 57 = 0
    · rw [if_pos y] at e2
      rw [vlF, if_pos y, show dl c p = 1 by omega, Int32.mul_zero, Int32.zero_add]
      rfl
    · have hpm2 : p + 1 ≠ m := fun e => y (by rw [h.2 (p + 1) (by omega)]; decide)
      have e3 := dl_s h (show p + 1 + 1 ≤ m by omega)
      rw [if_neg y] at e2
      by_cases x : F_X6_within (c (p + 1 + 1)) 48 57 = 0
      · rw [vlF, if_neg y, if_pos r99, vlF, if_pos x, show dl c p = 2 by (rw [if_pos x] at e3; omega), Int32.mul_zero, Int32.zero_add]
        rfl
      · rw [if_neg x] at e3
        omega
theorem tk_2 {c : Fl} {m p : Nat} (h : Ch c m) (hp : p ≤ m) : tkT c m p = 2 ↔ ¬ (dl c p = 0 ∨ 2 < dl c p) := by
  have hd0 := dl_m h hp
  unfold tkT
  by_cases e : p = m
  · rw [if_pos e]
    exact ⟨fun z => absurd z (by decide), fun z => by omega⟩
  · rw [if_neg e]
    by_cases d0 : dl c p = 0
    · rw [if_pos d0]
      constructor
      · intro z
        split at z
        · split at z
          · exact absurd z (by decide)
          · split at z <;> exact absurd z (by decide)
        · exact absurd z (by decide)
      · omega
    · rw [if_neg d0]
      by_cases d2 : dl c p ≤ 2
      · rw [if_pos d2]
        exact ⟨fun _ => by omega, fun _ => rfl⟩
      · rw [if_neg d2]
        exact ⟨fun z => absurd z (by decide), fun z => by omega⟩
theorem tk_n {c : Fl} {m p : Nat} (h : Ch c m) (hp : p ≤ m) (z : ¬ (dl c p = 0 ∨ 2 < dl c p)) : tkV c m p = nv c p (dl c p) ∧ tkP c m p = p + dl c p ∧ p + dl c p ≤ m := by
  have hd0 := dl_m h hp
  have e : p ≠ m := by omega
  have d0 : ¬ dl c p = 0 := by omega
  unfold tkV tkP
  rw [if_neg e, if_neg e, if_neg d0, if_neg d0]
  exact ⟨vl_1 h hp (by omega), rfl, by omega⟩
/-- a token of one letter -/
theorem tk_1 {c : Fl} {m p : Nat} (h : Ch c m) (hp : p ≤ m) (z : tkT c m p = 1) : tkV c m p = c p ∧ tkP c m p = p + 1 ∧ p < m ∧ dl c p = 0 := by
  unfold tkT at z
  unfold tkV tkP
  by_cases e : p = m
  · rw [if_pos e] at z
    exact absurd z (by decide)
  · rw [if_neg e] at z
    by_cases d0 : dl c p = 0
    · rw [if_neg e, if_neg e, if_pos d0, if_pos d0]
      exact ⟨rfl, rfl, by omega, d0⟩
    · rw [if_neg d0] at z
      split at z <;> exact absurd z (by decide)
theorem tk_s {c : Fl} {m p : Nat} {x : Int32} (h : Ch c m) (hp : p ≤ m) (hx : ¬ x = -1 ∧ F_X6_within x 48 57 = 0 ∧ (¬ F_X6_within x 97 122 = 0 ∨ x = 44 ∨ x = 59)) (z : c p = x) : tkT c m p = 1 := by
  have e : p ≠ m := fun e => hx.1 (by rw [← z, e]; exact h.2 m (Nat.le_refl m))
  have d0 : dl c p = 0 := by rw [dl_s h hp, z, if_pos hx.2.1]
  unfold tkT
  rw [if_neg e, if_pos d0, z]
  rcases hx.2.2 with q | q | q
  · rw [if_neg q]
  · rw [q]
    decide
  · rw [q]
    decide
def Sgn (x : Int32) : Prop := ¬ x = -1 ∧ F_X6_within x 48 57 = 0 ∧ (¬ F_X6_within x 97 122 = 0 ∨ x = 44 ∨ x = 59)
theorem sgn_108 : Sgn 108 := ⟨by decide, by decide, Or.inl (by decide)⟩
theorem sgn_44 : Sgn 44 := ⟨by decide, by decide, Or.inr (Or.inl rfl)⟩
theorem sgn_59 : Sgn 59 := ⟨by decide, by decide, Or.inr (Or.inr rfl)⟩
section
variable {g : mm_g} {c : Fl} {m p : Nat} {w : Int32} {f : Fl}
theorem TS_5 : TS g c m p w f 7 0 5 = tkT c m p := by unfold TS; rw [Ds_0, hd_5]
theorem TS_6 : TS g c m p w f 7 0 6 = tkV c m p := by unfold TS; rw [Ds_0, hd_6]
theorem TS_b : TS g c m p w f 7 0 7 = nI p := by unfold TS; rw [Ds_0, hd_7]
theorem TS_8 : TS g c m p w f 7 0 8 = w := by unfold TS; rw [Ds_0, hd_8]
theorem TS_7 : TS g c m p w f 7 7 = f := by unfold TS; rw [Ds_7]
theorem TS_w {x : Int32} : wr (TS g c m p w f) 7 0 8 x = TS g c m p x f := by unfold TS; rw [Ds_w, hu_8]
theorem TS_v {j : Nat} {x : Int32} : wr (TS g c m p w f) 7 7 j x = TS g c m p w (upd f j x) := by unfold TS; rw [Ds_v]
theorem TS_n (T : Tr g c m) (h : tkP c m p ≤ m) : F_X7_nextToken (TS g c m p w f) = TS g c m (tkP c m p) w f := by
  conv => lhs; unfold TS
  exact N_tok T h
theorem T_tak {x : Int32} (T : Tr g c m) (hp : p ≤ m) (hx : Sgn x) : F_X7_takes (TS g c m p w f) x = if c p = x then (1, TS g c m (p + 1) w f) else (0, TS g c m p 1 f) := by
  unfold F_X7_takes F_X7_faults
  rw [TS_5, TS_6, TS_w]
  by_cases z : c p = x
  · have t1 := tk_s T.1 hp hx z
    have t2 := tk_1 T.1 hp t1
    rw [if_pos t1, if_pos (t2.1.trans z), if_pos z, TS_n T (by omega), t2.2.1]
  · rw [if_neg z]
    by_cases t1 : tkT c m p = 1
    · have t2 := tk_1 T.1 hp t1
      rw [if_pos t1, if_neg (fun y => z (t2.1.symm.trans y))]
    · rw [if_neg t1]
theorem T_num {lo hi x y : Int32} {a : Nat} (T : Tr g c m) (hp : p ≤ m) (hx : Sgn x) (hy : y.toNatClampNeg = a) : F_X7_takesNumber (TS g c m p w f) lo hi y x = if dl c p = 0 ∨ 2 < dl c p then (0, TS g c m p 1 f) else if F_X6_within (nv c p (dl c p)) lo hi = 0 then (0, TS g c m p 2 f) else if c (p + dl c p) = x then (1, TS g c m (p + dl c p + 1) w (upd f a (nv c p (dl c p)))) else (0, TS g c m (p + dl c p) 1 (upd f a (nv c p (dl c p)))) := by
  unfold F_X7_takesNumber F_X7_faults
  rw [TS_5, TS_6, TS_w, TS_w]
  by_cases z : dl c p = 0 ∨ 2 < dl c p
  · rw [if_pos z, if_neg (fun q => (tk_2 T.1 hp).mp q z)]
  · obtain ⟨n1, n2, n3⟩ := tk_n T.1 hp z
    rw [if_neg z, if_pos ((tk_2 T.1 hp).mpr z), n1, in_within]
    by_cases r : F_X6_within (nv c p (dl c p)) lo hi = 0
    · rw [if_pos r, if_pos r]
    · rw [if_neg r, if_neg r, hy, TS_v, TS_n T (by rw [n2]; exact n3), n2, T_tak T n3 hx]
end
theorem Ch_eq {c : Fl} {m p : Nat} (h : Ch c m) (hp : p ≤ m) (z : ¬ F_X5_kindNamed (c p) = 0) : tkT c m p = 1 ∧ F_X7_kindBy (c p) = F_X5_kindNamed (c p) ∧ (1 ≤ (F_X5_kindNamed (c p)).toInt ∧ (F_X5_kindNamed (c p)).toInt ≤ 5) := by
  have hh : c p = 99 ∨ c p = 107 ∨ c p = 113 ∨ c p = 115 ∨ c p = 119 := by
    by_cases a1 : c p = 99
    · exact Or.inl a1
    · by_cases a2 : c p = 107
      · exact Or.inr (Or.inl a2)
      · by_cases a3 : c p = 113
        · exact Or.inr (Or.inr (Or.inl a3))
        · by_cases a4 : c p = 115
          · exact Or.inr (Or.inr (Or.inr (Or.inl a4)))
          · by_cases a5 : c p = 119
            · exact Or.inr (Or.inr (Or.inr (Or.inr a5)))
            · exact absurd (by unfold F_X5_kindNamed; rw [if_neg a1, if_neg a2, if_neg a3, if_neg a4, if_neg a5]) z
  rcases hh with q | q | q | q | q
  · exact ⟨tk_s h hp (x := 99) ⟨by decide, by decide, Or.inl (by decide)⟩ q, by rw [q]; decide, by rw [q]; decide⟩
  · exact ⟨tk_s h hp (x := 107) ⟨by decide, by decide, Or.inl (by decide)⟩ q, by rw [q]; decide, by rw [q]; decide⟩
  · exact ⟨tk_s h hp (x := 113) ⟨by decide, by decide, Or.inl (by decide)⟩ q, by rw [q]; decide, by rw [q]; decide⟩
  · exact ⟨tk_s h hp (x := 115) ⟨by decide, by decide, Or.inl (by decide)⟩ q, by rw [q]; decide, by rw [q]; decide⟩
  · exact ⟨tk_s h hp (x := 119) ⟨by decide, by decide, Or.inl (by decide)⟩ q, by rw [q]; decide, by rw [q]; decide⟩
theorem kind_0 {x : Int32} (z : F_X5_kindNamed x = 0) : F_X7_kindBy x = 0 := by
  by_cases a1 : x = 99
  · subst a1; exact absurd z (by decide)
  · by_cases a2 : x = 107
    · subst a2; exact absurd z (by decide)
    · by_cases a3 : x = 113
      · subst a3; exact absurd z (by decide)
      · by_cases a4 : x = 115
        · subst a4; exact absurd z (by decide)
        · by_cases a5 : x = 119
          · subst a5; exact absurd z (by decide)
          · unfold F_X7_kindBy
            rw [if_neg a1, if_neg a4, if_neg a2, if_neg a5, if_neg a3]
/-! a bed read -/
def BR (f f7 : Fl) (k : Nat) : Prop := EqF f f7 ∧ Vd f ∧ Ct 0 f ∧ nb f = k
def addF (f : Fl) (k : Nat) (kd v u : Int32) : Fl := upd (upd (upd (upd f (9 + k) kd) (18 + k) v) (27 + k) u) 0 (nI (k + 1))
def addR (f : Fl) (k : Nat) (kd v u : Int32) : Fl := upd (upd (upd (upd f (9 + k) kd) 0 (nI (k + 1))) (18 + k) v) (27 + k) u
theorem add_n {f : Fl} {k : Nat} {kd v u : Int32} (hk : k < 9) : nb (addF f k kd v u) = k + 1 := by
  unfold nb
  rw [show addF f k kd v u 0 = nI (k + 1) from rfl, nI_n (by omega)]
theorem add_BR {f f7 : Fl} {k : Nat} {kd v u : Int32} (B : BR f f7 k) (hk : k < 9) (h1 : 1 ≤ kd.toInt ∧ kd.toInt ≤ 5) (h2 : 0 ≤ v.toInt ∧ v.toInt ≤ 99) (h3 : 0 ≤ u.toInt ∧ u.toInt ≤ 9) : BR (addF f k kd v u) (addR f7 k kd v u) (k + 1) := by
  obtain ⟨e, vd, ct, n⟩ := B
  have lo : ∀ j, 1 ≤ j → j < 9 → addF f k kd v u j = f j := fun j a b => by
    unfold addF upd
    rw [if_neg (by omega), if_neg (by omega), if_neg (by omega), if_neg (by omega)]
  have lr : ∀ j, 1 ≤ j → j < 9 → addR f7 k kd v u j = f7 j := fun j a b => by
    unfold addR upd
    rw [if_neg (by omega), if_neg (by omega), if_neg (by omega), if_neg (by omega)]
  have bd : ∀ b, b < k → addF f k kd v u (9 + b) = f (9 + b) ∧ addF f k kd v u (18 + b) = f (18 + b) ∧ addF f k kd v u (27 + b) = f (27 + b) := fun b hb => by
    unfold addF upd
    refine ⟨?_, ?_, ?_⟩ <;> rw [if_neg (by omega), if_neg (by omega), if_neg (by omega), if_neg (by omega)]
  have br : ∀ b, b < k → addR f7 k kd v u (9 + b) = f7 (9 + b) ∧ addR f7 k kd v u (18 + b) = f7 (18 + b) ∧ addR f7 k kd v u (27 + b) = f7 (27 + b) := fun b hb => by
    unfold addR upd
    refine ⟨?_, ?_, ?_⟩ <;> rw [if_neg (by omega), if_neg (by omega), if_neg (by omega), if_neg (by omega)]
  have bk : addF f k kd v u (9 + k) = kd ∧ addF f k kd v u (18 + k) = v ∧ addF f k kd v u (27 + k) = u := by
    unfold addF upd
    refine ⟨?_, ?_, ?_⟩
    · rw [if_neg (by omega), if_neg (by omega), if_neg (by omega), if_pos rfl]
    · rw [if_neg (by omega), if_neg (by omega), if_pos rfl]
    · rw [if_neg (by omega), if_pos rfl]
  have bl : addR f7 k kd v u (9 + k) = kd ∧ addR f7 k kd v u (18 + k) = v ∧ addR f7 k kd v u (27 + k) = u := by
    unfold addR upd
    refine ⟨?_, ?_, ?_⟩
    · rw [if_neg (by omega), if_neg (by omega), if_neg (by omega), if_pos rfl]
    · rw [if_neg (by omega), if_pos rfl]
    · rw [if_pos rfl]
  have z0 : addF f k kd v u 0 = nI (k + 1) := rfl
  have z7 : addR f7 k kd v u 0 = nI (k + 1) := by
    unfold addR upd
    rw [if_neg (by omega), if_neg (by omega), if_pos rfl]
  refine ⟨⟨fun j hj => ?_, fun b hb => ?_⟩, ⟨?_, ?_, ?_, ?_, fun b hb => ?_⟩, fun i hi => ?_, add_n hk⟩
  · by_cases q : j = 0
    · subst q
      rw [z0, z7]
    · rw [lo j (by omega) hj, lr j (by omega) hj]
      exact e.lo j hj
  · rw [add_n hk] at hb
    by_cases q : b = k
    · subst q
      rw [bk.1, bk.2.1, bk.2.2, bl.1, bl.2.1, bl.2.2]
      exact ⟨rfl, rfl, rfl⟩
    · rw [(bd b (by omega)).1, (bd b (by omega)).2.1, (bd b (by omega)).2.2, (br b (by omega)).1, (br b (by omega)).2.1, (br b (by omega)).2.2]
      exact e.bed b (by omega)
  · rw [z0, nI_toInt (by omega)]
    omega
  · rw [lo 1 (by decide) (by decide)]
    exact vd.ca
  · rw [lo 2 (by decide) (by decide)]
    exact vd.cb
  · rw [lo 3 (by decide) (by decide)]
    exact vd.lot
  · rw [add_n hk] at hb
    by_cases q : b = k
    · subst q
      rw [bk.1, bk.2.1, bk.2.2]
      exact ⟨h1, h2, h3⟩
    · rw [(bd b (by omega)).1, (bd b (by omega)).2.1, (bd b (by omega)).2.2]
      exact vd.bed b (by omega)
  · rw [lo (6 + i) (by omega) (by omega)]
    exact ct i hi
theorem add_C {g : mm_g} {p k : Nat} {w kd v u : Int32} {f : Fl} (h : f 0 = nI k) (hk : k < 9) : F_X2_add (Cs g p w f) 1 kd v u = Cs g p w (addF f k kd v u) := by
  unfold F_X2_add
  simp only [Cs_wf, Cs_f]
  have e1 : upd f (9 + k) kd 0 = nI k := by
    unfold upd
    rw [if_neg (by omega)]
    exact h
  have e2 : upd (upd f (9 + k) kd) (18 + k) v 0 = nI k := by
    unfold upd
    rw [if_neg (by omega), if_neg (by omega)]
    exact h
  have e3 : upd (upd (upd f (9 + k) kd) (18 + k) v) (27 + k) u 0 = nI k := by
    unfold upd
    rw [if_neg (by omega), if_neg (by omega), if_neg (by omega)]
    exact h
  rw [h, if_neg (nI_pos (by omega)), if_pos (show nI k < 9 from nI_lt (b := 9) hk (by decide)), nI_clamp (by omega), e1, nI_clamp (by omega), e2, nI_clamp (by omega), e3, nI_1]
  rfl
