/-! THE MODEL: calls that do -/
theorem MS_g {R : List Nat} {i i' : Nat → Nat → Int32} {l l' : Nat → Nat → Int64} {σ : St} {g' : Nat → Nat} (h : Fx R i i') (hl : l' 24 = l 24) (hR : ([2, 3, 22, 23, 105, 113, 114].all fun x => !R.contains x) = true) (hS : MS i l σ) (hA : MA i' g') : MS i' l' (g', σ.2) := by
  have hn : ∀ x, x ∈ [2, 3, 22, 23, 105, 113, 114] → R.contains x = false := fun x hx => by
    have := List.all_eq_true.mp hR x hx
    simpa using this
  have r1 : ∀ r, r ≠ 0 → r ∈ [2, 3, 22, 23, 105, 113, 114] → i' r = i r := fun r h0 hr => Fx_row h h0 (hn r hr)
  have f1 : ∀ k, 100 + k ∈ [2, 3, 22, 23, 105, 113, 114] → i' 0 k = i 0 k := fun k hk => h 0 k (by rw [if_pos rfl]; exact hn _ hk)
  obtain ⟨a1, a2, a3, a4, a5, a6, a7, a8, a9⟩ := hS
  refine ⟨hA, ?_, ?_, ?_, ?_, ?_, ?_, ?_, ?_⟩
  · rw [r1 2 (by decide) (by decide)]; exact a2
  · rw [r1 3 (by decide) (by decide)]; exact a3
  · rw [f1 5 (by decide)]; exact a4
  · rw [f1 13 (by decide)]; exact a5
  · rw [f1 14 (by decide)]; exact a6
  · rw [r1 22 (by decide) (by decide)]; exact a7
  · rw [r1 23 (by decide) (by decide)]; exact a8
  · rw [hl]; exact a9
def RG : List Nat := 1 :: RQ
def v_go (g : Nat → Nat) (x y : Int32) : Int32 := if sWhy g x y = 0 then nI (g (18 + x.toNatClampNeg)) else -nI 10 - nI (sWhy g x y)
def a_go (σ : St) (x y : Int32) : St := if sWhy σ.1 x y = 0 then (gNote (ug σ.1 (18 + x.toNatClampNeg) y.toNatClampNeg) (gCur σ.1), σ.2) else σ
def v_flood (g : Nat → Nat) (x : Int32) : Int32 := if iB x 10 = true then nI (sBy g x.toNatClampNeg) else -nI 11
def a_flood (σ : St) (x : Int32) : St := if iB x 10 = true then (gNote (gStand σ.1 (sFl σ.1 x.toNatClampNeg (sNow σ.1 4))) (gCur σ.1), σ.2) else σ
def v_strength (g : Nat → Nat) (x y : Int32) : Int32 := if iB x (g 2) = true ∧ iR 0 9 y = true then nI (g (22 + x.toNatClampNeg)) else -nI 11
def a_strength (σ : St) (x y : Int32) : St := if iB x (σ.1 2) = true ∧ iR 0 9 y = true then (gNote (ug σ.1 (22 + x.toNatClampNeg) y.toNatClampNeg) (gCur σ.1), σ.2) else σ
def v_depth (g : Nat → Nat) (x y : Int32) : Int32 := if iS g x = true ∧ iR 0 9 y = true then nI (g (25 + x.toNatClampNeg)) else -nI 11
def a_depth (σ : St) (x y : Int32) : St := if iS σ.1 x = true ∧ iR 0 9 y = true then (gNote (ug σ.1 (25 + x.toNatClampNeg) y.toNatClampNeg) (gCur σ.1), σ.2) else σ
def gBack (g : Nat → Nat) (n : Nat) : Nat → Nat := fun j => if j = 32 then g 32 - n else if 18 ≤ j ∧ j < 32 then g (33 + 14 * (g 32 - n) + (j - 18)) else g j
def v_undo (g : Nat → Nat) (x : Int32) : Int32 := if iR 1 10 x = true ∧ x.toNatClampNeg ≤ g 32 then nI (g 32 - x.toNatClampNeg) else -nI 3
def a_undo (σ : St) (x : Int32) : St := if iR 1 10 x = true ∧ x.toNatClampNeg ≤ σ.1 32 then (gBack σ.1 x.toNatClampNeg, σ.2) else σ
theorem ug_32 {g : Nat → Nat} {k v : Nat} (h : 32 ≠ k) : ug g k v 32 = g 32 := if_neg h
section
variable {i : Nat → Nat → Int32} {l : Nat → Nat → Int64} {g : Nat → Nat}
theorem r_M_go (d : Nat) (x y : Int32) {σ : St} (hS : MS i l σ) (hW : WG σ.1) (h32 : σ.1 32 ≤ 10) : MR (some (.int (v_go σ.1 x y))) (fun i' l' => MS i' l' (a_go σ x y)) (am_cl (d + 8) mM_go [.ref 0, .int x, .int y] (i, l, rM, kM)) := by
  have hW' := hW
  obtain ⟨g, σ⟩ := σ
  obtain ⟨⟨h1', h1⟩, h2, h3, hR, hF, hP, hSt, hD, hL0, hL1, hV⟩ := hW
  have h1 : g 1 ≤ 6 := h1
  have h2 : g 2 ≤ 4 := h2
  have hR : ∀ p, p < 4 → g (10 + p) ≤ 4 := hR
  have hP : ∀ p, p < 4 → g (18 + p) < 8 := hP
  have hSt : ∀ p, p < 4 → g (22 + p) ≤ 9 := hSt
  have hD : ∀ s, s < 6 → g (26 + s) ≤ 9 := hD
  have hA := hS.1
  have hn := sNow_lt g hP 4 (by decide)
  have hf0 : Fx [100] i (am_u2 i 0 0 (nI 0)) := by (repeat (first | exact Fx_refl _ _ | assumption | refine Fx_u2 rfl ?_ | refine Fx_u1 rfl (by decide) ?_ | refine Fx_step (by assumption) rfl ?_ | refine Fx_stepr (by assumption) rfl rfl ?_))
  have hM0 : MA (am_u2 i 0 0 (nI 0)) g := MA_fx hf0 hA rfl
  have hM0' : ∀ k, k < 3222 → am_u2 i 0 0 (nI 0) 1 k = nI (g k) := hM0
  rw [c_M_go, b_M_go_0, v_go, a_go]
  obtain ⟨i1, l1, e1, hl1, hf1⟩ := r_M_whyGo d (l := l) x y hM0 hW'
  subst hl1
  have hM1 : MA i1 g := MA_fx hf1 hM0 rfl
  rw [l_0, e1]
  have hwl : sWhy g x y ≤ 3 := by
    unfold sWhy
    split
    · split
      · decide
      · split <;> decide
    · decide
  by_cases h0 : sWhy g x y = 0
  · have hxy : iB x (g 2) = true ∧ iB y (g 1 + 2) = true := by
      apply Classical.byContradiction
      intro h
      rw [sWhy, if_neg h] at h0
      cases h0
    obtain ⟨p, hp, rfl⟩ := iB_T hxy.1
    obtain ⟨t, ht, rfl⟩ := iB_T hxy.2
    simp (disch := first | assumption | omega) only [b_M_go_0, b_M_go_13, b_M_go_27, b_M_go_41, ↓Bool.cond_decide, ↓q_in, q_le, q_lt, q_eq, q_leT, q_leF, q_ltT, q_ltF, q_eqT, q_eqF, ↓reduceIte, not_true_eq_false, not_false_eq_true, true_and, and_true, and_self, false_and, and_false, Nat.zero_le, am_bd_some, q_app, q_app0, nI_add, pk_sub, pk_mul, q_dec, q_ix, q_m1, q_m1', ↓q_ret, q_bool, q_bool1, q_u2, q_u1, q_shl1, q_shr, q_and7, q_dg, fa_or, fa_and, decide_true, decide_false, Bool.or_false, Bool.or_true, Bool.true_or, Bool.false_or, cond_true, cond_false, ite_not, q_some, q_nn, q_xor, q_xorm, Bool.false_eq_true, decide_eq_true_eq, ne_eq, l_0, l_1, l_7, l_9, l_10, l_11, l_13, l_14, l_18, l_27, l_41, l_3222, h0]
    refine MR_bd (r_M_keeps (d + 6) hM1) ?_
    intro i2 l2 ⟨hl2, hf2, hw2⟩
    subst hl2
    have hM2 : MA i2 g := MA_fx hf2 hM1 rfl
    simp (disch := first | assumption | omega) only [b_M_go_0, b_M_go_13, b_M_go_27, b_M_go_41, ↓Bool.cond_decide, ↓q_in, q_le, q_lt, q_eq, q_leT, q_leF, q_ltT, q_ltF, q_eqT, q_eqF, ↓reduceIte, not_true_eq_false, not_false_eq_true, true_and, and_true, and_self, false_and, and_false, Nat.zero_le, am_bd_some, q_app, q_app0, nI_add, pk_sub, pk_mul, q_dec, q_ix, q_m1, q_m1', ↓q_ret, q_bool, q_bool1, q_u1, q_shl1, q_shr, q_and7, q_dg, fa_or, fa_and, decide_true, decide_false, Bool.or_false, Bool.or_true, Bool.true_or, Bool.false_or, cond_true, cond_false, ite_not, q_some, q_nn, q_xor, q_xorm, Bool.false_eq_true, decide_eq_true_eq, ne_eq, l_0, l_1, l_7, l_9, l_10, l_11, l_13, l_14, l_18, l_27, l_41, l_3222]
    refine MR_bd (r_M_notes (d + 6) (w := gCur g) (MA_u2 (v := t) hM2) (by rw [ug_32 (by omega)]; exact h32) (fun k hk => hw2 k hk)) ?_
    intro i3 l3 ⟨hl3, hf3, hM3⟩
    subst hl3
    have h9 : i3 9 p = nI (g (18 + p)) := by rw [Fx_row hf3 (by decide) rfl]; exact hw2 p (by omega)
    simp (disch := first | assumption | omega) only [b_M_go_0, b_M_go_13, b_M_go_27, b_M_go_41, ↓Bool.cond_decide, ↓q_in, q_le, q_lt, q_eq, q_leT, q_leF, q_ltT, q_ltF, q_eqT, q_eqF, ↓reduceIte, not_true_eq_false, not_false_eq_true, true_and, and_true, and_self, false_and, and_false, Nat.zero_le, am_bd_some, q_app, q_app0, nI_add, pk_sub, pk_mul, q_dec, q_ix, q_m1, q_m1', ↓q_ret, q_bool, q_bool1, q_u2, q_u1, q_shl1, q_shr, q_and7, q_dg, fa_or, fa_and, decide_true, decide_false, Bool.or_false, Bool.or_true, Bool.true_or, Bool.false_or, cond_true, cond_false, ite_not, q_some, q_nn, q_xor, q_xorm, Bool.false_eq_true, decide_eq_true_eq, ne_eq, l_0, l_1, l_7, l_9, l_10, l_11, l_13, l_14, l_18, l_27, l_41, l_3222, h9]
    exact MR_some (MS_g (R := RG) (by (repeat (first | exact Fx_refl _ _ | assumption | refine Fx_u2 rfl ?_ | refine Fx_u1 rfl (by decide) ?_ | refine Fx_step (by assumption) rfl ?_ | refine Fx_stepr (by assumption) rfl rfl ?_))) rfl rfl hS hM3)
  · simp (disch := first | assumption | omega) only [b_M_go_0, b_M_go_13, b_M_go_27, b_M_go_41, ↓Bool.cond_decide, ↓q_in, q_le, q_lt, q_eq, q_leT, q_leF, q_ltT, q_ltF, q_eqT, q_eqF, ↓reduceIte, not_true_eq_false, not_false_eq_true, true_and, and_true, and_self, false_and, and_false, Nat.zero_le, am_bd_some, q_app, q_app0, nI_add, pk_sub, pk_mul, q_dec, q_ix, q_m1, q_m1', ↓q_ret, q_bool, q_bool1, q_u2, q_u1, q_shl1, q_shr, q_and7, q_dg, fa_or, fa_and, decide_true, decide_false, Bool.or_false, Bool.or_true, Bool.true_or, Bool.false_or, cond_true, cond_false, ite_not, q_some, q_nn, q_xor, q_xorm, Bool.false_eq_true, decide_eq_true_eq, ne_eq, l_0, l_1, l_7, l_9, l_10, l_11, l_13, l_14, l_18, l_27, l_41, l_3222]
    exact MR_some (MS_fx (R := RQ) (by (repeat (first | exact Fx_refl _ _ | assumption | refine Fx_u2 rfl ?_ | refine Fx_u1 rfl (by decide) ?_ | refine Fx_step (by assumption) rfl ?_ | refine Fx_stepr (by assumption) rfl rfl ?_))) rfl rfl hS)
theorem r_M_flood (d : Nat) (x : Int32) {σ : St} (hS : MS i l σ) (hW : WG σ.1) (h32 : σ.1 32 ≤ 10) : MR (some (.int (v_flood σ.1 x))) (fun i' l' => MS i' l' (a_flood σ x)) (am_cl (d + 8) mM_flood [.ref 0, .int x] (i, l, rM, kM)) := by
  obtain ⟨g, σ⟩ := σ
  obtain ⟨⟨h1', h1⟩, h2, h3, hR, hF, hP, hSt, hD, hL0, hL1, hV⟩ := hW
  have h1 : g 1 ≤ 6 := h1
  have h2 : g 2 ≤ 4 := h2
  have hR : ∀ p, p < 4 → g (10 + p) ≤ 4 := hR
  have hP : ∀ p, p < 4 → g (18 + p) < 8 := hP
  have hSt : ∀ p, p < 4 → g (22 + p) ≤ 9 := hSt
  have hD : ∀ s, s < 6 → g (26 + s) ≤ 9 := hD
  have hA := hS.1
  have hn := sNow_lt g hP 4 (by decide)
  have hf0 : Fx [100] i (am_u2 i 0 0 (nI 0)) := by (repeat (first | exact Fx_refl _ _ | assumption | refine Fx_u2 rfl ?_ | refine Fx_u1 rfl (by decide) ?_ | refine Fx_step (by assumption) rfl ?_ | refine Fx_stepr (by assumption) rfl rfl ?_))
  have hM0 : MA (am_u2 i 0 0 (nI 0)) g := MA_fx hf0 hA rfl
  have hM0' : ∀ k, k < 3222 → am_u2 i 0 0 (nI 0) 1 k = nI (g k) := hM0
  rw [c_M_flood, b_M_flood_0, v_flood, a_flood]
  by_cases hx : iB x 10 = true
  · simp (disch := first | assumption | omega) only [b_M_flood_0, b_M_flood_10, b_M_flood_20, b_M_flood_25, b_M_flood_32, b_M_flood_36, b_M_flood_39, b_M_flood_43, s_M_isWater', s_M_standNow, ↓Bool.cond_decide, ↓q_in, q_le, q_lt, q_eq, q_leT, q_leF, q_ltT, q_ltF, q_eqT, q_eqF, ↓reduceIte, not_true_eq_false, not_false_eq_true, true_and, and_true, and_self, false_and, and_false, Nat.zero_le, am_bd_some, q_app, q_app0, nI_add, pk_sub, pk_mul, q_dec, q_ix, q_m1, q_m1', ↓q_ret, q_bool, q_bool1, q_u1, q_shl1, q_shr, q_and7, q_dg, fa_or, fa_and, decide_true, decide_false, Bool.or_false, Bool.or_true, Bool.true_or, Bool.false_or, cond_true, cond_false, ite_not, q_some, q_nn, q_xor, q_xorm, Bool.false_eq_true, decide_eq_true_eq, ne_eq, l_0, l_1, l_3, l_4, l_5, l_7, l_8, l_10, l_11, l_20, l_25, l_32, l_36, l_39, l_43, hx, s_M_isWater']
    obtain ⟨w, hw, rfl⟩ := iB_T hx
    refine MR_bd (r_M_keeps (d + 6) hM0) ?_
    intro i2 l2 ⟨hl2, hf2, hw2⟩
    subst hl2
    have hM2 : MA i2 g := MA_fx hf2 hM0 rfl
    simp (disch := first | assumption | omega) only [b_M_flood_0, b_M_flood_10, b_M_flood_20, b_M_flood_25, b_M_flood_32, b_M_flood_36, b_M_flood_39, b_M_flood_43, s_M_isWater, s_M_isWater', s_M_standNow, ↓Bool.cond_decide, ↓q_in, q_le, q_lt, q_eq, q_leT, q_leF, q_ltT, q_ltF, q_eqT, q_eqF, ↓reduceIte, not_true_eq_false, not_false_eq_true, true_and, and_true, and_self, false_and, and_false, Nat.zero_le, am_bd_some, q_app, q_app0, nI_add, pk_sub, pk_mul, q_dec, q_ix, q_m1, q_m1', ↓q_ret, q_bool, q_bool1, q_u2, q_u1, q_shl1, q_shr, q_and7, q_dg, fa_or, fa_and, decide_true, decide_false, Bool.or_false, Bool.or_true, Bool.true_or, Bool.false_or, cond_true, cond_false, ite_not, q_some, q_nn, q_xor, q_xorm, Bool.false_eq_true, decide_eq_true_eq, ne_eq, l_0, l_1, l_3, l_4, l_5, l_7, l_8, l_10, l_11, l_20, l_25, l_32, l_36, l_39, l_43]
    refine MR_bd (r_M_sweptBy d (w := w) (by omega) hM2 h1 h2 hP hSt hL0) ?_
    intro i3 l3 ⟨hl3, hf3⟩
    subst hl3
    have hM3 : MA i3 g := MA_fx hf3 hM2 rfl
    simp (disch := first | assumption | omega) only [b_M_flood_0, b_M_flood_10, b_M_flood_20, b_M_flood_25, b_M_flood_32, b_M_flood_36, b_M_flood_39, b_M_flood_43, s_M_isWater, s_M_isWater', s_M_standNow, ↓Bool.cond_decide, ↓q_in, q_le, q_lt, q_eq, q_leT, q_leF, q_ltT, q_ltF, q_eqT, q_eqF, ↓reduceIte, not_true_eq_false, not_false_eq_true, true_and, and_true, and_self, false_and, and_false, Nat.zero_le, am_bd_some, q_app, q_app0, nI_add, pk_sub, pk_mul, q_dec, q_ix, q_m1, q_m1', ↓q_ret, q_bool, q_bool1, q_u2, q_u1, q_shl1, q_shr, q_and7, q_dg, fa_or, fa_and, decide_true, decide_false, Bool.or_false, Bool.or_true, Bool.true_or, Bool.false_or, cond_true, cond_false, ite_not, q_some, q_nn, q_xor, q_xorm, Bool.false_eq_true, decide_eq_true_eq, ne_eq, l_0, l_1, l_3, l_4, l_5, l_7, l_8, l_10, l_11, l_20, l_25, l_32, l_36, l_39, l_43]
    refine MR_bd (r_M_floodedTo (d + 1) (w := w) hn (by omega) hM3 h1 h2 hSt hL0) ?_
    intro i4 l4 ⟨hl4, hf4, _⟩
    subst hl4
    have hM4 : MA i4 g := MA_fx hf4 hM3 rfl
    simp (disch := first | assumption | omega) only [b_M_flood_0, b_M_flood_10, b_M_flood_20, b_M_flood_25, b_M_flood_32, b_M_flood_36, b_M_flood_39, b_M_flood_43, s_M_isWater, s_M_isWater', s_M_standNow, ↓Bool.cond_decide, ↓q_in, q_le, q_lt, q_eq, q_leT, q_leF, q_ltT, q_ltF, q_eqT, q_eqF, ↓reduceIte, not_true_eq_false, not_false_eq_true, true_and, and_true, and_self, false_and, and_false, Nat.zero_le, am_bd_some, q_app, q_app0, nI_add, pk_sub, pk_mul, q_dec, q_ix, q_m1, q_m1', ↓q_ret, q_bool, q_bool1, q_u2, q_u1, q_shl1, q_shr, q_and7, q_dg, fa_or, fa_and, decide_true, decide_false, Bool.or_false, Bool.or_true, Bool.true_or, Bool.false_or, cond_true, cond_false, ite_not, q_some, q_nn, q_xor, q_xorm, Bool.false_eq_true, decide_eq_true_eq, ne_eq, l_0, l_1, l_3, l_4, l_5, l_7, l_8, l_10, l_11, l_20, l_25, l_32, l_36, l_39, l_43]
    refine MR_bd (r_M_isStand (d + 5) (sFl_lt h2 hn) hM4) ?_
    intro i5 l5 ⟨hl5, hf5, hM5⟩
    subst hl5
    simp (disch := first | assumption | omega) only [b_M_flood_0, b_M_flood_10, b_M_flood_20, b_M_flood_25, b_M_flood_32, b_M_flood_36, b_M_flood_39, b_M_flood_43, s_M_isWater, s_M_isWater', s_M_standNow, ↓Bool.cond_decide, ↓q_in, q_le, q_lt, q_eq, q_leT, q_leF, q_ltT, q_ltF, q_eqT, q_eqF, ↓reduceIte, not_true_eq_false, not_false_eq_true, true_and, and_true, and_self, false_and, and_false, Nat.zero_le, am_bd_some, q_app, q_app0, nI_add, pk_sub, pk_mul, q_dec, q_ix, q_m1, q_m1', ↓q_ret, q_bool, q_bool1, q_u2, q_u1, q_shl1, q_shr, q_and7, q_dg, fa_or, fa_and, decide_true, decide_false, Bool.or_false, Bool.or_true, Bool.true_or, Bool.false_or, cond_true, cond_false, ite_not, q_some, q_nn, q_xor, q_xorm, Bool.false_eq_true, decide_eq_true_eq, ne_eq, l_0, l_1, l_3, l_4, l_5, l_7, l_8, l_10, l_11, l_20, l_25, l_32, l_36, l_39, l_43]
    refine MR_bd (r_M_notes (d + 6) (w := gCur g) hM5 h32 (fun k hk => ?_)) ?_
    · rw [Fx_row hf5 (by decide) rfl, Fx_row hf4 (by decide) rfl, Fx_row hf3 (by decide) rfl]; exact hw2 k hk
    intro i6 l6 ⟨hl6, hf6, hM6⟩
    subst hl6
    simp (disch := first | assumption | omega) only [b_M_flood_0, b_M_flood_10, b_M_flood_20, b_M_flood_25, b_M_flood_32, b_M_flood_36, b_M_flood_39, b_M_flood_43, s_M_isWater, s_M_isWater', s_M_standNow, ↓Bool.cond_decide, ↓q_in, q_le, q_lt, q_eq, q_leT, q_leF, q_ltT, q_ltF, q_eqT, q_eqF, ↓reduceIte, not_true_eq_false, not_false_eq_true, true_and, and_true, and_self, false_and, and_false, Nat.zero_le, am_bd_some, q_app, q_app0, nI_add, pk_sub, pk_mul, q_dec, q_ix, q_m1, q_m1', ↓q_ret, q_bool, q_bool1, q_u2, q_u1, q_shl1, q_shr, q_and7, q_dg, fa_or, fa_and, decide_true, decide_false, Bool.or_false, Bool.or_true, Bool.true_or, Bool.false_or, cond_true, cond_false, ite_not, q_some, q_nn, q_xor, q_xorm, Bool.false_eq_true, decide_eq_true_eq, ne_eq, l_0, l_1, l_3, l_4, l_5, l_7, l_8, l_10, l_11, l_20, l_25, l_32, l_36, l_39, l_43]
    exact MR_some (MS_g (R := RG) (by (repeat (first | exact Fx_refl _ _ | assumption | refine Fx_u2 rfl ?_ | refine Fx_u1 rfl (by decide) ?_ | refine Fx_step (by assumption) rfl ?_ | refine Fx_stepr (by assumption) rfl rfl ?_))) rfl rfl hS hM6)
  · simp (disch := first | assumption | omega) only [b_M_flood_0, b_M_flood_10, b_M_flood_20, b_M_flood_25, b_M_flood_32, b_M_flood_36, b_M_flood_39, b_M_flood_43, s_M_isWater', s_M_standNow, ↓Bool.cond_decide, ↓q_in, q_le, q_lt, q_eq, q_leT, q_leF, q_ltT, q_ltF, q_eqT, q_eqF, ↓reduceIte, not_true_eq_false, not_false_eq_true, true_and, and_true, and_self, false_and, and_false, Nat.zero_le, am_bd_some, q_app, q_app0, nI_add, pk_sub, pk_mul, q_dec, q_ix, q_m1, q_m1', ↓q_ret, q_bool, q_bool1, q_u2, q_u1, q_shl1, q_shr, q_and7, q_dg, fa_or, fa_and, decide_true, decide_false, Bool.or_false, Bool.or_true, Bool.true_or, Bool.false_or, cond_true, cond_false, ite_not, q_some, q_nn, q_xor, q_xorm, Bool.false_eq_true, decide_eq_true_eq, ne_eq, l_0, l_1, l_3, l_4, l_5, l_7, l_8, l_10, l_11, l_20, l_25, l_32, l_36, l_39, l_43, hx, s_M_isWater']
    exact MR_some (MS_fx (R := RQ) (by (repeat (first | exact Fx_refl _ _ | assumption | refine Fx_u2 rfl ?_ | refine Fx_u1 rfl (by decide) ?_ | refine Fx_step (by assumption) rfl ?_ | refine Fx_stepr (by assumption) rfl rfl ?_))) rfl rfl hS)
theorem r_M_strength (d : Nat) (x y : Int32) {σ : St} (hS : MS i l σ) (hW : WG σ.1) (h32 : σ.1 32 ≤ 10) : MR (some (.int (v_strength σ.1 x y))) (fun i' l' => MS i' l' (a_strength σ x y)) (am_cl (d + 3) mM_strength [.ref 0, .int x, .int y] (i, l, rM, kM)) := by
  obtain ⟨g, σ⟩ := σ
  obtain ⟨⟨h1', h1⟩, h2, h3, hR, hF, hP, hSt, hD, hL0, hL1, hV⟩ := hW
  have h1 : g 1 ≤ 6 := h1
  have h2 : g 2 ≤ 4 := h2
  have hR : ∀ p, p < 4 → g (10 + p) ≤ 4 := hR
  have hP : ∀ p, p < 4 → g (18 + p) < 8 := hP
  have hSt : ∀ p, p < 4 → g (22 + p) ≤ 9 := hSt
  have hD : ∀ s, s < 6 → g (26 + s) ≤ 9 := hD
  have hA := hS.1
  have hn := sNow_lt g hP 4 (by decide)
  have hf0 : Fx [100] i (am_u2 i 0 0 (nI 0)) := by (repeat (first | exact Fx_refl _ _ | assumption | refine Fx_u2 rfl ?_ | refine Fx_u1 rfl (by decide) ?_ | refine Fx_step (by assumption) rfl ?_ | refine Fx_stepr (by assumption) rfl rfl ?_))
  have hM0 : MA (am_u2 i 0 0 (nI 0)) g := MA_fx hf0 hA rfl
  have hM0' : ∀ k, k < 3222 → am_u2 i 0 0 (nI 0) 1 k = nI (g k) := hM0
  rw [c_M_strength, b_M_strength_0, v_strength, a_strength]
  by_cases hx : iB x (g 2) = true
  · by_cases hy : iR 0 9 y = true
    · simp (disch := first | assumption | omega) only [b_M_strength_0, b_M_strength_11, b_M_strength_23, b_M_strength_26, b_M_strength_33, b_M_strength_47, s_M_isPerson, s_M_within, ↓Bool.cond_decide, ↓q_in, q_le, q_lt, q_eq, q_leT, q_leF, q_ltT, q_ltF, q_eqT, q_eqF, ↓reduceIte, not_true_eq_false, not_false_eq_true, true_and, and_true, and_self, false_and, and_false, Nat.zero_le, am_bd_some, q_app, q_app0, nI_add, pk_sub, pk_mul, q_dec, q_ix, q_m1, q_m1', ↓q_ret, q_bool, q_bool1, q_u1, q_shl1, q_shr, q_and7, q_dg, fa_or, fa_and, decide_true, decide_false, Bool.or_false, Bool.or_true, Bool.true_or, Bool.false_or, cond_true, cond_false, ite_not, q_some, q_nn, q_xor, q_xorm, Bool.false_eq_true, decide_eq_true_eq, ne_eq, l_0, l_1, l_4, l_6, l_9, l_11, l_14, l_22, l_23, l_26, l_33, l_47, l_3222, hx, hy, iR_e 0 9 (lo := 0) (hi := 9) rfl rfl]
      obtain ⟨p, hp, rfl⟩ := iB_T hx
      obtain ⟨n, _, hn9, rfl⟩ := iR_T hy
      refine MR_bd (r_M_keeps (d + 1) hM0) ?_
      intro i2 l2 ⟨hl2, hf2, hw2⟩
      subst hl2
      have hM2 : MA i2 g := MA_fx hf2 hM0 rfl
      simp (disch := first | assumption | omega) only [b_M_strength_0, b_M_strength_11, b_M_strength_23, b_M_strength_26, b_M_strength_33, b_M_strength_47, s_M_isPerson, s_M_within, ↓Bool.cond_decide, ↓q_in, q_le, q_lt, q_eq, q_leT, q_leF, q_ltT, q_ltF, q_eqT, q_eqF, ↓reduceIte, not_true_eq_false, not_false_eq_true, true_and, and_true, and_self, false_and, and_false, Nat.zero_le, am_bd_some, q_app, q_app0, nI_add, pk_sub, pk_mul, q_dec, q_ix, q_m1, q_m1', ↓q_ret, q_bool, q_bool1, q_u1, q_shl1, q_shr, q_and7, q_dg, fa_or, fa_and, decide_true, decide_false, Bool.or_false, Bool.or_true, Bool.true_or, Bool.false_or, cond_true, cond_false, ite_not, q_some, q_nn, q_xor, q_xorm, Bool.false_eq_true, decide_eq_true_eq, ne_eq, l_0, l_1, l_4, l_6, l_9, l_11, l_14, l_22, l_23, l_26, l_33, l_47, l_3222]
      refine MR_bd (r_M_notes (d + 1) (w := gCur g) (MA_u2 (v := n) hM2) (by rw [ug_32 (by omega)]; exact h32) (fun k hk => hw2 k hk)) ?_
      intro i3 l3 ⟨hl3, hf3, hM3⟩
      subst hl3
      have h9 : i3 9 (4 + p) = nI (g (22 + p)) := by
        rw [Fx_row hf3 (by decide) rfl]
        show i2 9 (4 + p) = _
        rw [hw2 (4 + p) (by omega), show 18 + (4 + p) = 22 + p by omega]
      simp (disch := first | assumption | omega) only [b_M_strength_0, b_M_strength_11, b_M_strength_23, b_M_strength_26, b_M_strength_33, b_M_strength_47, s_M_isPerson, s_M_within, ↓Bool.cond_decide, ↓q_in, q_le, q_lt, q_eq, q_leT, q_leF, q_ltT, q_ltF, q_eqT, q_eqF, ↓reduceIte, not_true_eq_false, not_false_eq_true, true_and, and_true, and_self, false_and, and_false, Nat.zero_le, am_bd_some, q_app, q_app0, nI_add, pk_sub, pk_mul, q_dec, q_ix, q_m1, q_m1', ↓q_ret, q_bool, q_bool1, q_u2, q_u1, q_shl1, q_shr, q_and7, q_dg, fa_or, fa_and, decide_true, decide_false, Bool.or_false, Bool.or_true, Bool.true_or, Bool.false_or, cond_true, cond_false, ite_not, q_some, q_nn, q_xor, q_xorm, Bool.false_eq_true, decide_eq_true_eq, ne_eq, l_0, l_1, l_4, l_6, l_9, l_11, l_14, l_22, l_23, l_26, l_33, l_47, l_3222, h9]
      exact MR_some (MS_g (R := RG) (by (repeat (first | exact Fx_refl _ _ | assumption | refine Fx_u2 rfl ?_ | refine Fx_u1 rfl (by decide) ?_ | refine Fx_step (by assumption) rfl ?_ | refine Fx_stepr (by assumption) rfl rfl ?_))) rfl rfl hS hM3)
    · simp (disch := first | assumption | omega) only [b_M_strength_0, b_M_strength_11, b_M_strength_23, b_M_strength_26, b_M_strength_33, b_M_strength_47, s_M_isPerson, s_M_within, ↓Bool.cond_decide, ↓q_in, q_le, q_lt, q_eq, q_leT, q_leF, q_ltT, q_ltF, q_eqT, q_eqF, ↓reduceIte, not_true_eq_false, not_false_eq_true, true_and, and_true, and_self, false_and, and_false, Nat.zero_le, am_bd_some, q_app, q_app0, nI_add, pk_sub, pk_mul, q_dec, q_ix, q_m1, q_m1', ↓q_ret, q_bool, q_bool1, q_u2, q_u1, q_shl1, q_shr, q_and7, q_dg, fa_or, fa_and, decide_true, decide_false, Bool.or_false, Bool.or_true, Bool.true_or, Bool.false_or, cond_true, cond_false, ite_not, q_some, q_nn, q_xor, q_xorm, Bool.false_eq_true, decide_eq_true_eq, ne_eq, l_0, l_1, l_4, l_6, l_9, l_11, l_14, l_22, l_23, l_26, l_33, l_47, l_3222, hx, hy, iR_e 0 9 (lo := 0) (hi := 9) rfl rfl]
      exact MR_some (MS_fx (R := RQ) (by (repeat (first | exact Fx_refl _ _ | assumption | refine Fx_u2 rfl ?_ | refine Fx_u1 rfl (by decide) ?_ | refine Fx_step (by assumption) rfl ?_ | refine Fx_stepr (by assumption) rfl rfl ?_))) rfl rfl hS)
  · simp (disch := first | assumption | omega) only [b_M_strength_0, b_M_strength_11, b_M_strength_23, b_M_strength_26, b_M_strength_33, b_M_strength_47, s_M_isPerson, s_M_within, ↓Bool.cond_decide, ↓q_in, q_le, q_lt, q_eq, q_leT, q_leF, q_ltT, q_ltF, q_eqT, q_eqF, ↓reduceIte, not_true_eq_false, not_false_eq_true, true_and, and_true, and_self, false_and, and_false, Nat.zero_le, am_bd_some, q_app, q_app0, nI_add, pk_sub, pk_mul, q_dec, q_ix, q_m1, q_m1', ↓q_ret, q_bool, q_bool1, q_u2, q_u1, q_shl1, q_shr, q_and7, q_dg, fa_or, fa_and, decide_true, decide_false, Bool.or_false, Bool.or_true, Bool.true_or, Bool.false_or, cond_true, cond_false, ite_not, q_some, q_nn, q_xor, q_xorm, Bool.false_eq_true, decide_eq_true_eq, ne_eq, l_0, l_1, l_4, l_6, l_9, l_11, l_14, l_22, l_23, l_26, l_33, l_47, l_3222, hx]
    exact MR_some (MS_fx (R := RQ) (by (repeat (first | exact Fx_refl _ _ | assumption | refine Fx_u2 rfl ?_ | refine Fx_u1 rfl (by decide) ?_ | refine Fx_step (by assumption) rfl ?_ | refine Fx_stepr (by assumption) rfl rfl ?_))) rfl rfl hS)
theorem r_M_depth (d : Nat) (x y : Int32) {σ : St} (hS : MS i l σ) (hW : WG σ.1) (h32 : σ.1 32 ≤ 10) : MR (some (.int (v_depth σ.1 x y))) (fun i' l' => MS i' l' (a_depth σ x y)) (am_cl (d + 3) mM_depth [.ref 0, .int x, .int y] (i, l, rM, kM)) := by
  obtain ⟨g, σ⟩ := σ
  obtain ⟨⟨h1', h1⟩, h2, h3, hR, hF, hP, hSt, hD, hL0, hL1, hV⟩ := hW
  have h1 : g 1 ≤ 6 := h1
  have h2 : g 2 ≤ 4 := h2
  have hR : ∀ p, p < 4 → g (10 + p) ≤ 4 := hR
  have hP : ∀ p, p < 4 → g (18 + p) < 8 := hP
  have hSt : ∀ p, p < 4 → g (22 + p) ≤ 9 := hSt
  have hD : ∀ s, s < 6 → g (26 + s) ≤ 9 := hD
  have hA := hS.1
  have hn := sNow_lt g hP 4 (by decide)
  have hf0 : Fx [100] i (am_u2 i 0 0 (nI 0)) := by (repeat (first | exact Fx_refl _ _ | assumption | refine Fx_u2 rfl ?_ | refine Fx_u1 rfl (by decide) ?_ | refine Fx_step (by assumption) rfl ?_ | refine Fx_stepr (by assumption) rfl rfl ?_))
  have hM0 : MA (am_u2 i 0 0 (nI 0)) g := MA_fx hf0 hA rfl
  have hM0' : ∀ k, k < 3222 → am_u2 i 0 0 (nI 0) 1 k = nI (g k) := hM0
  rw [c_M_depth, b_M_depth_0, v_depth, a_depth]
  by_cases hx : iS g x = true
  · by_cases hy : iR 0 9 y = true
    · simp (disch := first | assumption | omega) only [b_M_depth_0, b_M_depth_11, b_M_depth_23, b_M_depth_26, b_M_depth_33, b_M_depth_49, s_M_isSpot'', s_M_within, ↓Bool.cond_decide, ↓q_in, q_le, q_lt, q_eq, q_leT, q_leF, q_ltT, q_ltF, q_eqT, q_eqF, ↓reduceIte, not_true_eq_false, not_false_eq_true, true_and, and_true, and_self, false_and, and_false, Nat.zero_le, am_bd_some, q_app, q_app0, nI_add, pk_sub, pk_mul, q_dec, q_ix, q_m1, q_m1', ↓q_ret, q_bool, q_bool1, q_u1, q_shl1, q_shr, q_and7, q_dg, fa_or, fa_and, decide_true, decide_false, Bool.or_false, Bool.or_true, Bool.true_or, Bool.false_or, cond_true, cond_false, ite_not, q_some, q_nn, q_xor, q_xorm, Bool.false_eq_true, decide_eq_true_eq, ne_eq, l_0, l_1, l_4, l_6, l_8, l_9, l_11, l_13, l_14, l_23, l_26, l_33, l_49, l_3222, s_M_isSpot'', hx, hy, iR_e 0 9 (lo := 0) (hi := 9) rfl rfl]
      obtain ⟨s, hs1, hs2, rfl⟩ := iS_T hx
      obtain ⟨n, _, hn9, rfl⟩ := iR_T hy
      have e26 : 26 + s - 1 = 25 + s := by omega
      have e8 : 8 + s - 1 = 7 + s := by omega
      refine MR_bd (r_M_keeps (d + 1) hM0) ?_
      intro i2 l2 ⟨hl2, hf2, hw2⟩
      subst hl2
      have hM2 : MA i2 g := MA_fx hf2 hM0 rfl
      simp (disch := first | assumption | omega) only [b_M_depth_0, b_M_depth_11, b_M_depth_23, b_M_depth_26, b_M_depth_33, b_M_depth_49, s_M_isSpot, s_M_isSpot'', s_M_within, ↓Bool.cond_decide, ↓q_in, q_le, q_lt, q_eq, q_leT, q_leF, q_ltT, q_ltF, q_eqT, q_eqF, ↓reduceIte, not_true_eq_false, not_false_eq_true, true_and, and_true, and_self, false_and, and_false, Nat.zero_le, am_bd_some, q_app, q_app0, nI_add, pk_sub, pk_mul, q_dec, q_ix, q_m1, q_m1', ↓q_ret, q_bool, q_bool1, q_u1, q_shl1, q_shr, q_and7, q_dg, fa_or, fa_and, decide_true, decide_false, Bool.or_false, Bool.or_true, Bool.true_or, Bool.false_or, cond_true, cond_false, ite_not, q_some, q_nn, q_xor, q_xorm, Bool.false_eq_true, decide_eq_true_eq, ne_eq, l_0, l_1, l_4, l_6, l_8, l_9, l_11, l_13, l_14, l_23, l_26, l_33, l_49, l_3222, e26]
      refine MR_bd (r_M_notes (d + 1) (w := gCur g) (MA_u2 (v := n) hM2) (by rw [ug_32 (by omega)]; exact h32) (fun k hk => hw2 k hk)) ?_
      intro i3 l3 ⟨hl3, hf3, hM3⟩
      subst hl3
      have h9 : i3 9 (7 + s) = nI (g (25 + s)) := by
        rw [Fx_row hf3 (by decide) rfl]
        show i2 9 (7 + s) = _
        rw [hw2 (7 + s) (by omega), show 18 + (7 + s) = 25 + s by omega]
      simp (disch := first | assumption | omega) only [b_M_depth_0, b_M_depth_11, b_M_depth_23, b_M_depth_26, b_M_depth_33, b_M_depth_49, s_M_isSpot, s_M_isSpot'', s_M_within, ↓Bool.cond_decide, ↓q_in, q_le, q_lt, q_eq, q_leT, q_leF, q_ltT, q_ltF, q_eqT, q_eqF, ↓reduceIte, not_true_eq_false, not_false_eq_true, true_and, and_true, and_self, false_and, and_false, Nat.zero_le, am_bd_some, q_app, q_app0, nI_add, pk_sub, pk_mul, q_dec, q_ix, q_m1, q_m1', ↓q_ret, q_bool, q_bool1, q_u2, q_u1, q_shl1, q_shr, q_and7, q_dg, fa_or, fa_and, decide_true, decide_false, Bool.or_false, Bool.or_true, Bool.true_or, Bool.false_or, cond_true, cond_false, ite_not, q_some, q_nn, q_xor, q_xorm, Bool.false_eq_true, decide_eq_true_eq, ne_eq, l_0, l_1, l_4, l_6, l_8, l_9, l_11, l_13, l_14, l_23, l_26, l_33, l_49, l_3222, h9, e8]
      exact MR_some (MS_g (R := RG) (by (repeat (first | exact Fx_refl _ _ | assumption | refine Fx_u2 rfl ?_ | refine Fx_u1 rfl (by decide) ?_ | refine Fx_step (by assumption) rfl ?_ | refine Fx_stepr (by assumption) rfl rfl ?_))) rfl rfl hS hM3)
    · simp (disch := first | assumption | omega) only [b_M_depth_0, b_M_depth_11, b_M_depth_23, b_M_depth_26, b_M_depth_33, b_M_depth_49, s_M_isSpot'', s_M_within, ↓Bool.cond_decide, ↓q_in, q_le, q_lt, q_eq, q_leT, q_leF, q_ltT, q_ltF, q_eqT, q_eqF, ↓reduceIte, not_true_eq_false, not_false_eq_true, true_and, and_true, and_self, false_and, and_false, Nat.zero_le, am_bd_some, q_app, q_app0, nI_add, pk_sub, pk_mul, q_dec, q_ix, q_m1, q_m1', ↓q_ret, q_bool, q_bool1, q_u2, q_u1, q_shl1, q_shr, q_and7, q_dg, fa_or, fa_and, decide_true, decide_false, Bool.or_false, Bool.or_true, Bool.true_or, Bool.false_or, cond_true, cond_false, ite_not, q_some, q_nn, q_xor, q_xorm, Bool.false_eq_true, decide_eq_true_eq, ne_eq, l_0, l_1, l_4, l_6, l_8, l_9, l_11, l_13, l_14, l_23, l_26, l_33, l_49, l_3222, s_M_isSpot'', hx, hy, iR_e 0 9 (lo := 0) (hi := 9) rfl rfl]
      exact MR_some (MS_fx (R := RQ) (by (repeat (first | exact Fx_refl _ _ | assumption | refine Fx_u2 rfl ?_ | refine Fx_u1 rfl (by decide) ?_ | refine Fx_step (by assumption) rfl ?_ | refine Fx_stepr (by assumption) rfl rfl ?_))) rfl rfl hS)
  · simp (disch := first | assumption | omega) only [b_M_depth_0, b_M_depth_11, b_M_depth_23, b_M_depth_26, b_M_depth_33, b_M_depth_49, s_M_isSpot'', s_M_within, ↓Bool.cond_decide, ↓q_in, q_le, q_lt, q_eq, q_leT, q_leF, q_ltT, q_ltF, q_eqT, q_eqF, ↓reduceIte, not_true_eq_false, not_false_eq_true, true_and, and_true, and_self, false_and, and_false, Nat.zero_le, am_bd_some, q_app, q_app0, nI_add, pk_sub, pk_mul, q_dec, q_ix, q_m1, q_m1', ↓q_ret, q_bool, q_bool1, q_u2, q_u1, q_shl1, q_shr, q_and7, q_dg, fa_or, fa_and, decide_true, decide_false, Bool.or_false, Bool.or_true, Bool.true_or, Bool.false_or, cond_true, cond_false, ite_not, q_some, q_nn, q_xor, q_xorm, Bool.false_eq_true, decide_eq_true_eq, ne_eq, l_0, l_1, l_4, l_6, l_8, l_9, l_11, l_13, l_14, l_23, l_26, l_33, l_49, l_3222, s_M_isSpot'', hx]
    exact MR_some (MS_fx (R := RQ) (by (repeat (first | exact Fx_refl _ _ | assumption | refine Fx_u2 rfl ?_ | refine Fx_u1 rfl (by decide) ?_ | refine Fx_step (by assumption) rfl ?_ | refine Fx_stepr (by assumption) rfl rfl ?_))) rfl rfl hS)
theorem r_M_undo (d : Nat) (x : Int32) {σ : St} (hS : MS i l σ) (h32 : σ.1 32 ≤ 10) : MR (some (.int (v_undo σ.1 x))) (fun i' l' => MS i' l' (a_undo σ x)) (am_cl (d + 2) mM_undo [.ref 0, .int x] (i, l, rM, kM)) := by
  obtain ⟨g, σ⟩ := σ
  have h32 : g 32 ≤ 10 := h32
  have hA := hS.1
  have hf0 : Fx [100] i (am_u2 i 0 0 (nI 0)) := by (repeat (first | exact Fx_refl _ _ | assumption | refine Fx_u2 rfl ?_ | refine Fx_u1 rfl (by decide) ?_ | refine Fx_step (by assumption) rfl ?_ | refine Fx_stepr (by assumption) rfl rfl ?_))
  have hM0 : MA (am_u2 i 0 0 (nI 0)) g := MA_fx hf0 hA rfl
  have hg32 := hM0 32 (by decide)
  rw [c_M_undo, b_M_undo_0, v_undo, a_undo]
  by_cases hx : iR 1 10 x = true
  · have hx' := hx
    obtain ⟨n, hn1, hn2, rfl⟩ := iR_T hx'
    by_cases hn : n ≤ g 32
    · simp (disch := first | assumption | omega) only [b_M_undo_0, b_M_undo_14, b_M_undo_28, s_M_within, ↓Bool.cond_decide, ↓q_in, q_le, q_lt, q_eq, q_leT, q_leF, q_ltT, q_ltF, q_eqT, q_eqF, ↓reduceIte, not_true_eq_false, not_false_eq_true, true_and, and_true, and_self, false_and, and_false, Nat.zero_le, am_bd_some, q_app, q_app0, nI_add, pk_sub, pk_mul, q_dec, q_ix, q_m1, q_m1', ↓q_ret, q_bool, q_bool1, q_u1, q_shl1, q_shr, q_and7, q_dg, fa_or, fa_and, decide_true, decide_false, Bool.or_false, Bool.or_true, Bool.true_or, Bool.false_or, cond_true, cond_false, ite_not, q_some, q_nn, q_xor, q_xorm, Bool.false_eq_true, decide_eq_true_eq, ne_eq, l_0, l_1, l_3, l_4, l_10, l_14, l_18, l_22, l_28, l_32, l_33, l_44, l_3222, hx, iR_e 1 10 (lo := 1) (hi := 10) rfl rfl, hg32]
      have hM1 : MA (am_u2 (am_u2 i 0 0 (nI 0)) 1 32 (nI (g 32 - n))) (ug g 32 (g 32 - n)) := MA_u2 hM0
      refine am_loop (fun k ls s => ∃ i' z1, ls = [.val (.ref 0), z1, .val (.int (nI k))] ∧ s = (i', l, rM, kM) ∧ Fx [1, 100] i i' ∧ MA i' (fun j => if j = 32 then g 32 - n else if 18 ≤ j ∧ j < 18 + k then g (33 + 14 * (g 32 - n) + (j - 18)) else g j)) 14 _ (fun k ls s hk hI => ?_) (fun ls s hI => ?_) ⟨_, _, rfl, rfl, by (repeat (first | exact Fx_refl _ _ | assumption | refine Fx_u2 rfl ?_ | refine Fx_u1 rfl (by decide) ?_ | refine Fx_step (by assumption) rfl ?_ | refine Fx_stepr (by assumption) rfl rfl ?_)), fun j hj => ?_⟩
      · obtain ⟨i2, z1, e1, e2, hf, hm⟩ := hI
        subst e1; subst e2
        have h32' := hm 32 (by decide)
        dsimp only at h32'
        rw [if_pos rfl] at h32'
        have hw := hm (33 + 14 * (g 32 - n) + k) (by omega)
        dsimp only at hw
        rw [if_neg (by omega), if_neg (by omega)] at hw
        rw [b_M_undo_44]
        simp (disch := first | assumption | omega) only [b_M_undo_0, b_M_undo_14, b_M_undo_28, s_M_within, ↓Bool.cond_decide, ↓q_in, q_le, q_lt, q_eq, q_leT, q_leF, q_ltT, q_ltF, q_eqT, q_eqF, ↓reduceIte, not_true_eq_false, not_false_eq_true, true_and, and_true, and_self, false_and, and_false, Nat.zero_le, am_bd_some, q_app, q_app0, nI_add, pk_sub, pk_mul, q_dec, q_ix, q_m1, q_m1', ↓q_ret, q_bool, q_bool1, q_u2, q_u1, q_shl1, q_shr, q_and7, q_dg, fa_or, fa_and, decide_true, decide_false, Bool.or_false, Bool.or_true, Bool.true_or, Bool.false_or, cond_true, cond_false, ite_not, q_some, q_nn, q_xor, q_xorm, Bool.false_eq_true, decide_eq_true_eq, ne_eq, l_0, l_1, l_3, l_4, l_10, l_14, l_18, l_22, l_28, l_32, l_33, l_44, l_3222, h32', hw]
        refine Go_in ⟨_, _, rfl, rfl, by (repeat (first | exact Fx_refl _ _ | assumption | refine Fx_u2 rfl ?_ | refine Fx_u1 rfl (by decide) ?_ | refine Fx_step (by assumption) rfl ?_ | refine Fx_stepr (by assumption) rfl rfl ?_)), fun j hj => ?_⟩
        by_cases e : j = 18 + k
        · subst e
          simp only [q_u2, if_true]
          rw [if_neg (by omega), if_pos (by omega), Nat.add_sub_cancel_left]
        · simp only [q_u2, e, if_true, if_false]
          rw [hm j hj]; (try dsimp only)
          by_cases e0 : j = 32
          · rw [if_pos e0, if_pos e0]
          · rw [if_neg e0, if_neg e0]
            by_cases e2 : 18 ≤ j ∧ j < 18 + k
            · rw [if_pos e2, if_pos (by omega)]
            · rw [if_neg e2, if_neg (by omega)]
      · obtain ⟨i2, z1, e1, e2, hf, hm⟩ := hI
        subst e1; subst e2
        have h32' := hm 32 (by decide)
        dsimp only at h32'
        rw [if_pos rfl] at h32'
        rw [b_M_undo_44]
        simp (disch := first | assumption | omega) only [b_M_undo_0, b_M_undo_14, b_M_undo_28, s_M_within, ↓Bool.cond_decide, ↓q_in, q_le, q_lt, q_eq, q_leT, q_leF, q_ltT, q_ltF, q_eqT, q_eqF, ↓reduceIte, not_true_eq_false, not_false_eq_true, true_and, and_true, and_self, false_and, and_false, Nat.zero_le, am_bd_some, q_app, q_app0, nI_add, pk_sub, pk_mul, q_dec, q_ix, q_m1, q_m1', ↓q_ret, q_bool, q_bool1, q_u2, q_u1, q_shl1, q_shr, q_and7, q_dg, fa_or, fa_and, decide_true, decide_false, Bool.or_false, Bool.or_true, Bool.true_or, Bool.false_or, cond_true, cond_false, ite_not, q_some, q_nn, q_xor, q_xorm, Bool.false_eq_true, decide_eq_true_eq, ne_eq, l_0, l_1, l_3, l_4, l_10, l_14, l_18, l_22, l_28, l_32, l_33, l_44, l_3222, h32']
        exact MR_some (MS_g (R := RG) (by (repeat (first | exact Fx_refl _ _ | assumption | refine Fx_u2 rfl ?_ | refine Fx_u1 rfl (by decide) ?_ | refine Fx_step (by assumption) rfl ?_ | refine Fx_stepr (by assumption) rfl rfl ?_))) rfl rfl hS hm)
      · rw [hM1 j hj, ug]
        dsimp only
        by_cases e0 : j = 32
        · rw [if_pos e0, if_pos e0]
        · rw [if_neg e0, if_neg e0, if_neg (by omega)]
    · simp (disch := first | assumption | omega) only [b_M_undo_0, b_M_undo_14, b_M_undo_28, s_M_within, ↓Bool.cond_decide, ↓q_in, q_le, q_lt, q_eq, q_leT, q_leF, q_ltT, q_ltF, q_eqT, q_eqF, ↓reduceIte, not_true_eq_false, not_false_eq_true, true_and, and_true, and_self, false_and, and_false, Nat.zero_le, am_bd_some, q_app, q_app0, nI_add, pk_sub, pk_mul, q_dec, q_ix, q_m1, q_m1', ↓q_ret, q_bool, q_bool1, q_u1, q_shl1, q_shr, q_and7, q_dg, fa_or, fa_and, decide_true, decide_false, Bool.or_false, Bool.or_true, Bool.true_or, Bool.false_or, cond_true, cond_false, ite_not, q_some, q_nn, q_xor, q_xorm, Bool.false_eq_true, decide_eq_true_eq, ne_eq, l_0, l_1, l_3, l_4, l_10, l_14, l_18, l_22, l_28, l_32, l_33, l_44, l_3222, hx, iR_e 1 10 (lo := 1) (hi := 10) rfl rfl, hg32]
      exact MR_some (MS_fx (R := RQ) (by (repeat (first | exact Fx_refl _ _ | assumption | refine Fx_u2 rfl ?_ | refine Fx_u1 rfl (by decide) ?_ | refine Fx_step (by assumption) rfl ?_ | refine Fx_stepr (by assumption) rfl rfl ?_))) rfl rfl hS)
  · simp (disch := first | assumption | omega) only [b_M_undo_0, b_M_undo_14, b_M_undo_28, s_M_within, ↓Bool.cond_decide, ↓q_in, q_le, q_lt, q_eq, q_leT, q_leF, q_ltT, q_ltF, q_eqT, q_eqF, ↓reduceIte, not_true_eq_false, not_false_eq_true, true_and, and_true, and_self, false_and, and_false, Nat.zero_le, am_bd_some, q_app, q_app0, nI_add, pk_sub, pk_mul, q_dec, q_ix, q_m1, q_m1', ↓q_ret, q_bool, q_bool1, q_u2, q_u1, q_shl1, q_shr, q_and7, q_dg, fa_or, fa_and, decide_true, decide_false, Bool.or_false, Bool.or_true, Bool.true_or, Bool.false_or, cond_true, cond_false, ite_not, q_some, q_nn, q_xor, q_xorm, Bool.false_eq_true, decide_eq_true_eq, ne_eq, l_0, l_1, l_3, l_4, l_10, l_14, l_18, l_22, l_28, l_32, l_33, l_44, l_3222, hx, iR_e 1 10 (lo := 1) (hi := 10) rfl rfl]
    exact MR_some (MS_fx (R := RQ) (by (repeat (first | exact Fx_refl _ _ | assumption | refine Fx_u2 rfl ?_ | refine Fx_u1 rfl (by decide) ?_ | refine Fx_step (by assumption) rfl ?_ | refine Fx_stepr (by assumption) rfl rfl ?_))) rfl rfl hS)
end
