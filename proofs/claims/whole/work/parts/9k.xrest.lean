/-! THE CLASS: trays, images, the tape -/
/-- images -/
def IM (ρ : Nat → Nat → Nat) (σ : St) (i : Nat → Nat → Int32) (l : Nat → Nat → Int64) (q : Nat → Nat → Option Nat) (K : List (Nat × Nat)) : Prop := ∀ x, x < 2 → (σ.2.1 x = false → q 48 x = none) ∧ (σ.2.1 x = true → ∃ r m, q 48 x = some r ∧ RV (i, l, rX q, kX K) r (gIm σ.1 x) ∧ gE (ρ r) (gIm σ.1 x) ∧ l 49 x = lN m ∧ RM m (gCur (gIm σ.1 x)))
/-- a byte as a row of bytes keeps it -/
def sb (b : Nat) : Int32 := (nI b).toInt8.toInt32
/-- the tape; the fault -/
def TB (σ : St) (i : Nat → Nat → Int32) : Prop := i 1 1 = nI σ.2.2.2.1 ∧ (∀ k, k < σ.2.2.2.1 → i 2 k = sb (σ.2.2.1 k)) ∧ i 5 3 = nI σ.2.2.2.2.1 ∧ i 5 4 = σ.2.2.2.2.2.1
section
variable {i i' : Nat → Nat → Int32} {l l' : Nat → Nat → Int64} {q q' : Nat → Nat → Option Nat} {K : List (Nat × Nat)} {r m : Nat} {ρ : Nat → Nat → Nat} {σ : St}
theorem y_X_fault (d : Nat) (x : Int32) (hB : TB σ i) : am_cl (d + 1) mX_fault [.ref 0, .int x] (i, l, rX q, kX K) = some (some (.int (v_fault σ x)), (i, l, rX q, kX K)) := by
  obtain ⟨_, _, h3, h4⟩ := hB
  rw [c_X_fault, b_X_fault_0, v_fault, h3, h4]
  by_cases x0 : x = nI 0
  · simp (disch := first | assumption | omega) only [b_X_fault_0, b_X_fault_28, ↓Bool.cond_decide, ↓q_in, q_le, q_lt, q_eq, q_leT, q_leF, q_ltT, q_ltF, q_eqT, q_eqF, ↓reduceIte, not_true_eq_false, not_false_eq_true, true_and, and_true, and_self, false_and, and_false, Nat.zero_le, am_bd_some, q_app, q_app0, nI_add, pk_sub, pk_mul, q_dec, q_ix, q_m1, q_m1', ↓q_ret, q_bool, q_bool1, q_u2, q_u1, q_shl1, q_shr, q_and7, q_dg, fa_or, fa_and, decide_true, decide_false, Bool.or_false, Bool.or_true, Bool.true_or, Bool.false_or, cond_true, cond_false, ite_not, q_some, q_nn, q_xor, q_xorm, Bool.false_eq_true, decide_eq_true_eq, ne_eq, l_0, l_1, l_3, l_4, l_5, l_17, l_28, x0]
  · by_cases x1 : x = nI 1
    · simp (disch := first | assumption | omega) only [b_X_fault_0, b_X_fault_28, ↓Bool.cond_decide, ↓q_in, q_le, q_lt, q_eq, q_leT, q_leF, q_ltT, q_ltF, q_eqT, q_eqF, ↓reduceIte, not_true_eq_false, not_false_eq_true, true_and, and_true, and_self, false_and, and_false, Nat.zero_le, am_bd_some, q_app, q_app0, nI_add, pk_sub, pk_mul, q_dec, q_ix, q_m1, q_m1', ↓q_ret, q_bool, q_bool1, q_u2, q_u1, q_shl1, q_shr, q_and7, q_dg, fa_or, fa_and, decide_true, decide_false, Bool.or_false, Bool.or_true, Bool.true_or, Bool.false_or, cond_true, cond_false, ite_not, q_some, q_nn, q_xor, q_xorm, Bool.false_eq_true, decide_eq_true_eq, ne_eq, l_0, l_1, l_3, l_4, l_5, l_17, l_28, x0, x1]
    · simp (disch := first | assumption | omega) only [b_X_fault_0, b_X_fault_28, ↓Bool.cond_decide, ↓q_in, q_le, q_lt, q_eq, q_leT, q_leF, q_ltT, q_ltF, q_eqT, q_eqF, ↓reduceIte, not_true_eq_false, not_false_eq_true, true_and, and_true, and_self, false_and, and_false, Nat.zero_le, am_bd_some, q_app, q_app0, nI_add, pk_sub, pk_mul, q_dec, q_ix, q_m1, q_m1', ↓q_ret, q_bool, q_bool1, q_u2, q_u1, q_shl1, q_shr, q_and7, q_dg, fa_or, fa_and, decide_true, decide_false, Bool.or_false, Bool.or_true, Bool.true_or, Bool.false_or, cond_true, cond_false, ite_not, q_some, q_nn, q_xor, q_xorm, Bool.false_eq_true, decide_eq_true_eq, ne_eq, l_0, l_1, l_3, l_4, l_5, l_17, l_28, x0, x1]
theorem y_X_count (d : Nat) (x : Int32) (hC : CV ρ r σ.1 m i l q K) (hPH : PH σ.1 i l) (hB : TB σ i) : am_cl (d + 3) mX_count [.ref 0, .int x] (i, l, rX q, kX K) = some (some (.int (v_count σ x)), (i, l, rX q, kX K)) := by
  obtain ⟨b1, _, _, _⟩ := hB
  have p5 := hPH.1
  have hA := y_allStrengths d hC
  obtain ⟨g, σ⟩ := σ
  dsimp only at b1 p5 hA
  have hC : CV ρ r g m i l q K := hC
  obtain ⟨a1, a2, hW, a4, a5, a6⟩ := id hC
  have a1 : rX q 0 2 = some r := a1
  obtain ⟨fP, fS, fL, fE, fF, fB, fU, fV, fK, fW, hk, ra, ra1, ra2, ra3⟩ := CV_f a2 hW
  obtain ⟨fN, fO, fT, fD⟩ := RM_f a6 hW
  have h1 : g 1 ≤ 6 := hW.1.2
  have h2 : g 2 ≤ 4 := hW.2.1
  have hR : ∀ p, p < 4 → g (10 + p) ≤ 4 := hW.2.2.2.1
  have hP : ∀ p, p < 4 → g (18 + p) < 8 := hW.2.2.2.2.2.1
  have hSt : ∀ p, p < 4 → g (22 + p) ≤ 9 := hW.2.2.2.2.2.2.1
  have hn := sNow_lt g hP 4 (by decide)
  have hvs : VS g (sNow g 4) := hW.2.2.2.2.2.2.2.2.2.2
  obtain ⟨_, _, r0, r1, r2, r3, _⟩ := a2
  have r0 : i r 0 = nI (g 1) := r0
  have r1 : i r 1 = nI (g 2) := r1
  have r2 : i r 2 = nI (g 3) := r2
  have r3 : i r 3 = nI (g 0) := r3
  rw [c_X_count, b_X_count_0, v_count]
  dsimp only
  by_cases x0 : x = nI 0
  · subst x0
    simp (disch := first | assumption | omega) only [b_X_count_0, b_X_count_79, b_X_count_82, b_X_count_94, b_X_count_97, b_X_count_102, ↓Bool.cond_decide, ↓q_in, q_le, q_lt, q_eq, q_leT, q_leF, q_ltT, q_ltF, q_eqT, q_eqF, ↓reduceIte, not_true_eq_false, not_false_eq_true, true_and, and_true, and_self, false_and, and_false, Nat.zero_le, am_bd_some, q_app, q_app0, nI_add, pk_sub, pk_mul, q_dec, q_ix, q_m1, q_m1', ↓q_ret, q_bool, q_bool1, q_u2, q_u1, q_shl1, q_shr, q_and7, q_dg, fa_or, fa_and, decide_true, decide_false, Bool.or_false, Bool.or_true, Bool.true_or, Bool.false_or, cond_true, cond_false, ite_not, q_some, q_nn, q_xor, q_xorm, Bool.false_eq_true, decide_eq_true_eq, ne_eq, l_0, l_1, l_2, l_3, l_4, l_5, l_6, l_7, l_8, l_46, l_79, l_82, l_94, l_97, l_102, r0, a1, a5, hk, fP, fS, fL, fE, fF, fB, fU, fV, fK, fW, fN, fO, fT, fD, ra1, ra2, cond_true, Bool.and_true, kd11]
  by_cases x1 : x = nI 1
  · subst x1
    simp (disch := first | assumption | omega) only [b_X_count_0, b_X_count_79, b_X_count_82, b_X_count_94, b_X_count_97, b_X_count_102, ↓Bool.cond_decide, ↓q_in, q_le, q_lt, q_eq, q_leT, q_leF, q_ltT, q_ltF, q_eqT, q_eqF, ↓reduceIte, not_true_eq_false, not_false_eq_true, true_and, and_true, and_self, false_and, and_false, Nat.zero_le, am_bd_some, q_app, q_app0, nI_add, pk_sub, pk_mul, q_dec, q_ix, q_m1, q_m1', ↓q_ret, q_bool, q_bool1, q_u2, q_u1, q_shl1, q_shr, q_and7, q_dg, fa_or, fa_and, decide_true, decide_false, Bool.or_false, Bool.or_true, Bool.true_or, Bool.false_or, cond_true, cond_false, ite_not, q_some, q_nn, q_xor, q_xorm, Bool.false_eq_true, decide_eq_true_eq, ne_eq, l_0, l_1, l_2, l_3, l_4, l_5, l_6, l_7, l_8, l_46, l_79, l_82, l_94, l_97, l_102, r1, a1, a5, hk, fP, fS, fL, fE, fF, fB, fU, fV, fK, fW, fN, fO, fT, fD, ra1, ra2, cond_true, Bool.and_true, kd11]
  by_cases x2 : x = nI 2
  · subst x2
    simp (disch := first | assumption | omega) only [b_X_count_0, b_X_count_79, b_X_count_82, b_X_count_94, b_X_count_97, b_X_count_102, ↓Bool.cond_decide, ↓q_in, q_le, q_lt, q_eq, q_leT, q_leF, q_ltT, q_ltF, q_eqT, q_eqF, ↓reduceIte, not_true_eq_false, not_false_eq_true, true_and, and_true, and_self, false_and, and_false, Nat.zero_le, am_bd_some, q_app, q_app0, nI_add, pk_sub, pk_mul, q_dec, q_ix, q_m1, q_m1', ↓q_ret, q_bool, q_bool1, q_u2, q_u1, q_shl1, q_shr, q_and7, q_dg, fa_or, fa_and, decide_true, decide_false, Bool.or_false, Bool.or_true, Bool.true_or, Bool.false_or, cond_true, cond_false, ite_not, q_some, q_nn, q_xor, q_xorm, Bool.false_eq_true, decide_eq_true_eq, ne_eq, l_0, l_1, l_2, l_3, l_4, l_5, l_6, l_7, l_8, l_46, l_79, l_82, l_94, l_97, l_102, a1, a5, hk, fP, fS, fL, fE, fF, fB, fU, fV, fK, fW, fN, fO, fT, fD, ra1, ra2, cond_true, Bool.and_true, kd11]
  by_cases x3 : x = nI 3
  · subst x3
    simp (disch := first | assumption | omega) only [b_X_count_0, b_X_count_79, b_X_count_82, b_X_count_94, b_X_count_97, b_X_count_102, ↓Bool.cond_decide, ↓q_in, q_le, q_lt, q_eq, q_leT, q_leF, q_ltT, q_ltF, q_eqT, q_eqF, ↓reduceIte, not_true_eq_false, not_false_eq_true, true_and, and_true, and_self, false_and, and_false, Nat.zero_le, am_bd_some, q_app, q_app0, nI_add, pk_sub, pk_mul, q_dec, q_ix, q_m1, q_m1', ↓q_ret, q_bool, q_bool1, q_u2, q_u1, q_shl1, q_shr, q_and7, q_dg, fa_or, fa_and, decide_true, decide_false, Bool.or_false, Bool.or_true, Bool.true_or, Bool.false_or, cond_true, cond_false, ite_not, q_some, q_nn, q_xor, q_xorm, Bool.false_eq_true, decide_eq_true_eq, ne_eq, l_0, l_1, l_2, l_3, l_4, l_5, l_6, l_7, l_8, l_46, l_79, l_82, l_94, l_97, l_102, a1, a5, hk, fP, fS, fL, fE, fF, fB, fU, fV, fK, fW, fN, fO, fT, fD, ra1, ra2, cond_true, Bool.and_true, kd11]
  by_cases x4 : x = nI 4
  · subst x4
    simp (disch := first | assumption | omega) only [b_X_count_0, b_X_count_79, b_X_count_82, b_X_count_94, b_X_count_97, b_X_count_102, ↓Bool.cond_decide, ↓q_in, q_le, q_lt, q_eq, q_leT, q_leF, q_ltT, q_ltF, q_eqT, q_eqF, ↓reduceIte, not_true_eq_false, not_false_eq_true, true_and, and_true, and_self, false_and, and_false, Nat.zero_le, am_bd_some, q_app, q_app0, nI_add, pk_sub, pk_mul, q_dec, q_ix, q_m1, q_m1', ↓q_ret, q_bool, q_bool1, q_u2, q_u1, q_shl1, q_shr, q_and7, q_dg, fa_or, fa_and, decide_true, decide_false, Bool.or_false, Bool.or_true, Bool.true_or, Bool.false_or, cond_true, cond_false, ite_not, q_some, q_nn, q_xor, q_xorm, Bool.false_eq_true, decide_eq_true_eq, ne_eq, l_0, l_1, l_2, l_3, l_4, l_5, l_6, l_7, l_8, l_46, l_79, l_82, l_94, l_97, l_102, hA, a1, a5, hk, fP, fS, fL, fE, fF, fB, fU, fV, fK, fW, fN, fO, fT, fD, ra1, ra2, cond_true, Bool.and_true, kd11]
  by_cases x5 : x = nI 5
  · subst x5
    simp (disch := first | assumption | omega) only [b_X_count_0, b_X_count_79, b_X_count_82, b_X_count_94, b_X_count_97, b_X_count_102, ↓Bool.cond_decide, ↓q_in, q_le, q_lt, q_eq, q_leT, q_leF, q_ltT, q_ltF, q_eqT, q_eqF, ↓reduceIte, not_true_eq_false, not_false_eq_true, true_and, and_true, and_self, false_and, and_false, Nat.zero_le, am_bd_some, q_app, q_app0, nI_add, pk_sub, pk_mul, q_dec, q_ix, q_m1, q_m1', ↓q_ret, q_bool, q_bool1, q_u2, q_u1, q_shl1, q_shr, q_and7, q_dg, fa_or, fa_and, decide_true, decide_false, Bool.or_false, Bool.or_true, Bool.true_or, Bool.false_or, cond_true, cond_false, ite_not, q_some, q_nn, q_xor, q_xorm, Bool.false_eq_true, decide_eq_true_eq, ne_eq, l_0, l_1, l_2, l_3, l_4, l_5, l_6, l_7, l_8, l_46, l_79, l_82, l_94, l_97, l_102, r2, a1, a5, hk, fP, fS, fL, fE, fF, fB, fU, fV, fK, fW, fN, fO, fT, fD, ra1, ra2, cond_true, Bool.and_true, kd11]
  by_cases x6 : x = nI 6
  · subst x6
    simp (disch := first | assumption | omega) only [b_X_count_0, b_X_count_79, b_X_count_82, b_X_count_94, b_X_count_97, b_X_count_102, ↓Bool.cond_decide, ↓q_in, q_le, q_lt, q_eq, q_leT, q_leF, q_ltT, q_ltF, q_eqT, q_eqF, ↓reduceIte, not_true_eq_false, not_false_eq_true, true_and, and_true, and_self, false_and, and_false, Nat.zero_le, am_bd_some, q_app, q_app0, nI_add, pk_sub, pk_mul, q_dec, q_ix, q_m1, q_m1', ↓q_ret, q_bool, q_bool1, q_u2, q_u1, q_shl1, q_shr, q_and7, q_dg, fa_or, fa_and, decide_true, decide_false, Bool.or_false, Bool.or_true, Bool.true_or, Bool.false_or, cond_true, cond_false, ite_not, q_some, q_nn, q_xor, q_xorm, Bool.false_eq_true, decide_eq_true_eq, ne_eq, l_0, l_1, l_2, l_3, l_4, l_5, l_6, l_7, l_8, l_46, l_79, l_82, l_94, l_97, l_102, p5, a1, a5, hk, fP, fS, fL, fE, fF, fB, fU, fV, fK, fW, fN, fO, fT, fD, ra1, ra2, cond_true, Bool.and_true, kd11]
  by_cases x7 : x = nI 7
  · subst x7
    simp (disch := first | assumption | omega) only [b_X_count_0, b_X_count_79, b_X_count_82, b_X_count_94, b_X_count_97, b_X_count_102, ↓Bool.cond_decide, ↓q_in, q_le, q_lt, q_eq, q_leT, q_leF, q_ltT, q_ltF, q_eqT, q_eqF, ↓reduceIte, not_true_eq_false, not_false_eq_true, true_and, and_true, and_self, false_and, and_false, Nat.zero_le, am_bd_some, q_app, q_app0, nI_add, pk_sub, pk_mul, q_dec, q_ix, q_m1, q_m1', ↓q_ret, q_bool, q_bool1, q_u2, q_u1, q_shl1, q_shr, q_and7, q_dg, fa_or, fa_and, decide_true, decide_false, Bool.or_false, Bool.or_true, Bool.true_or, Bool.false_or, cond_true, cond_false, ite_not, q_some, q_nn, q_xor, q_xorm, Bool.false_eq_true, decide_eq_true_eq, ne_eq, l_0, l_1, l_2, l_3, l_4, l_5, l_6, l_7, l_8, l_46, l_79, l_82, l_94, l_97, l_102, b1, a1, a5, hk, fP, fS, fL, fE, fF, fB, fU, fV, fK, fW, fN, fO, fT, fD, ra1, ra2, cond_true, Bool.and_true, kd11]
  by_cases x8 : x = nI 8
  · subst x8
    simp (disch := first | assumption | omega) only [b_X_count_0, b_X_count_79, b_X_count_82, b_X_count_94, b_X_count_97, b_X_count_102, ↓Bool.cond_decide, ↓q_in, q_le, q_lt, q_eq, q_leT, q_leF, q_ltT, q_ltF, q_eqT, q_eqF, ↓reduceIte, not_true_eq_false, not_false_eq_true, true_and, and_true, and_self, false_and, and_false, Nat.zero_le, am_bd_some, q_app, q_app0, nI_add, pk_sub, pk_mul, q_dec, q_ix, q_m1, q_m1', ↓q_ret, q_bool, q_bool1, q_u2, q_u1, q_shl1, q_shr, q_and7, q_dg, fa_or, fa_and, decide_true, decide_false, Bool.or_false, Bool.or_true, Bool.true_or, Bool.false_or, cond_true, cond_false, ite_not, q_some, q_nn, q_xor, q_xorm, Bool.false_eq_true, decide_eq_true_eq, ne_eq, l_0, l_1, l_2, l_3, l_4, l_5, l_6, l_7, l_8, l_46, l_79, l_82, l_94, l_97, l_102, r3, a1, a5, hk, fP, fS, fL, fE, fF, fB, fU, fV, fK, fW, fN, fO, fT, fD, ra1, ra2, cond_true, Bool.and_true, kd11]
  · simp (disch := first | assumption | omega) only [b_X_count_0, b_X_count_79, b_X_count_82, b_X_count_94, b_X_count_97, b_X_count_102, ↓Bool.cond_decide, ↓q_in, q_le, q_lt, q_eq, q_leT, q_leF, q_ltT, q_ltF, q_eqT, q_eqF, ↓reduceIte, not_true_eq_false, not_false_eq_true, true_and, and_true, and_self, false_and, and_false, Nat.zero_le, am_bd_some, q_app, q_app0, nI_add, pk_sub, pk_mul, q_dec, q_ix, q_m1, q_m1', ↓q_ret, q_bool, q_bool1, q_u2, q_u1, q_shl1, q_shr, q_and7, q_dg, fa_or, fa_and, decide_true, decide_false, Bool.or_false, Bool.or_true, Bool.true_or, Bool.false_or, cond_true, cond_false, ite_not, q_some, q_nn, q_xor, q_xorm, Bool.false_eq_true, decide_eq_true_eq, ne_eq, l_0, l_1, l_2, l_3, l_4, l_5, l_6, l_7, l_8, l_46, l_79, l_82, l_94, l_97, l_102, x0, x1, x2, x3, x4, x5, x6, x7, x8, a1, a5, hk, fP, fS, fL, fE, fF, fB, fU, fV, fK, fW, fN, fO, fT, fD, ra1, ra2, cond_true, Bool.and_true, kd11]
theorem y_X_numbers (d : Nat) (x y z : Int32) (hY : TY σ i l) (hWT : WT σ) : ∃ i' l', am_cl (d + 3) mX_numbers [.ref 0, .int x, .int y, .int z] (i, l, rX q, kX K) = some (some (.int (v_numbers x y z)), (i', l', rX q, kX K)) ∧ FG [50, 52, 54, 56] [51, 53, 55, 57] [] i i' l l' q q ∧ TY (a_numbers σ x y z) i' l' := by
  rw [c_X_numbers, b_X_numbers_0, v_numbers]
  unfold a_numbers
  have hxr : iR 0 3 x = iB x 4 := by unfold iR iB; apply decide_eq_decide.mpr; omega
  have hyr := rg_z 0 3 y (by decide) (by decide)
  have hy4 : y < nI 4 ↔ y ≤ nI 3 := by rw [fa_lt, fa_le, nI_toInt (by decide), nI_toInt (by decide)]; omega
  have hzr := rg_z 0 40 z (by decide) (by decide)
  rw [hxr]
  by_cases hx : iB x 4 = true
  · by_cases hy : iR 0 3 y = true
    · obtain ⟨y1, y2⟩ := hyr.mp hy
      have y3 := hy4.mpr y2
      by_cases hz : iR 0 40 z = true
      · obtain ⟨z1, z2⟩ := hzr.mp hz
        rw [if_pos ⟨hx, hy⟩, if_pos hz, if_pos ⟨hx, hy, hz⟩]
        have hx' := hx
        obtain ⟨t, ht, rfl⟩ := iB_T hx'
        have hz' := hz
        obtain ⟨n, _, hn, rfl⟩ := iR_T hz'
        obtain ⟨s, _, hs, rfl⟩ := iR_T hy
        have h47 := tr47 q ht
        have h50 := tr50 q ht
        have hk50 : ∀ i1 l1, Nat.beq (am_kd (i1, l1, rX q, kX K) (50 + 2 * t)) 10 = true := fun _ _ => tk50 ht
        have hfl : ∀ i1, am_cl (d + 1) mJ_fillL [.ref (51 + 2 * t), .long 0] (i1, l, rX q, kX K) = some (none, (i1, am_u1 l (51 + 2 * t) (fun k => if k < 40 then 0 else l (51 + 2 * t) k), rX q, kX K)) := fun i1 => s_J_fillL d 0 (by rcases c4 ht with rfl | rfl | rfl | rfl <;> rfl) (by rcases c4 ht with rfl | rfl | rfl | rfl <;> rfl) (by decide)
        have hbg : am_cl (d + 2) mTray_begin [.ref (50 + 2 * t), .int (nI s), .int (nI n)] (i, l, rX q, kX K) = some (none, (am_u2 (am_u2 i (50 + 2 * t) 1 (nI s)) (50 + 2 * t) 2 (nI n), am_u1 l (51 + 2 * t) (fun k => if k < 40 then 0 else l (51 + 2 * t) k), rX q, kX K)) := by
          rw [c_Tray_begin, b_Tray_begin_0]
          simp (disch := first | assumption | omega) only [b_Tray_begin_0, b_Tray_begin_18, ↓Bool.cond_decide, ↓q_in, q_le, q_lt, q_eq, q_leT, q_leF, q_ltT, q_ltF, q_eqT, q_eqF, ↓reduceIte, not_true_eq_false, not_false_eq_true, true_and, and_true, and_self, false_and, and_false, Nat.zero_le, am_bd_some, q_app, q_app0, nI_add, pk_sub, pk_mul, q_dec, q_ix, q_m1, q_m1', ↓q_ret, q_bool, q_bool1, q_shl1, q_shr, q_and7, q_dg, fa_or, fa_and, decide_true, decide_false, Bool.or_false, Bool.or_true, Bool.true_or, Bool.false_or, cond_true, cond_false, ite_not, q_some, q_nn, q_xor, q_xorm, Bool.false_eq_true, decide_eq_true_eq, ne_eq, l_0, l_1, l_2, l_3, l_10, l_13, l_18, hk50, h50, hfl, cond_true]
        refine ⟨am_u2 (am_u2 i (50 + 2 * t) 1 (nI s)) (50 + 2 * t) 2 (nI n), am_u1 l (51 + 2 * t) (fun k => if k < 40 then 0 else l (51 + 2 * t) k), ?_, ⟨Fr_u2 ?_ (Fr_u2 ?_ (Fr_refl _ _)), fun c hc => ?_, fun _ _ => rfl⟩, ?_⟩
        · simp (disch := first | assumption | omega) only [b_X_numbers_0, b_X_numbers_4, b_X_numbers_16, b_X_numbers_29, b_X_numbers_43, s_X_isTray, ↓Bool.cond_decide, ↓q_in, q_le, q_lt, q_eq, q_leT, q_leF, q_ltT, q_ltF, q_eqT, q_eqF, ↓reduceIte, not_true_eq_false, not_false_eq_true, true_and, and_true, and_self, false_and, and_false, Nat.zero_le, am_bd_some, q_app, q_app0, nI_add, pk_sub, pk_mul, q_dec, q_ix, q_m1, q_m1', ↓q_ret, q_bool, q_bool1, q_shl1, q_shr, q_and7, q_dg, fa_or, fa_and, decide_true, decide_false, Bool.or_false, Bool.or_true, Bool.true_or, Bool.false_or, cond_true, cond_false, ite_not, q_some, q_nn, q_xor, q_xorm, Bool.false_eq_true, decide_eq_true_eq, ne_eq, l_0, l_1, l_2, l_3, l_4, l_10, l_16, l_28, l_29, l_40, l_43, l_47, hx, y1, y3, z1, z2, h47, hk50, hbg, cond_true, Bool.and_true]
        · rcases c4 ht with rfl | rfl | rfl | rfl <;> rfl
        · rcases c4 ht with rfl | rfl | rfl | rfl <;> rfl
        · funext k
          have : c ≠ 51 + 2 * t := fun w => by
            rw [w] at hc
            rcases c4 ht with rfl | rfl | rfl | rfl <;> cases hc
          unfold am_u1
          rw [if_neg this]
        · intro t' ht'
          rw [nI_clamp (show t < 2147483648 by omega), nI_clamp (show n < 2147483648 by omega)]
          dsimp only
          by_cases e : t' = t
          · subst e
            rw [if_pos rfl, if_pos rfl]
            have hs1 : nI s ≠ -nI 1 := by
              intro w
              have := q_m1 (a := s) (by omega)
              rw [this] at w; exact w
            refine ⟨fun w => absurd w hs1, fun _ => ⟨?_, ?_, fun k hk => ?_⟩⟩
            · show am_u2 (am_u2 i (50 + 2 * t') 1 (nI s)) (50 + 2 * t') 2 (nI n) (50 + 2 * t') 1 = _
              simp [am_u2]
            · simp [am_u2]
            · dsimp only
              rw [if_pos (by omega)]
              show am_u1 l (51 + 2 * t') _ (51 + 2 * t') k = _
              unfold am_u1
              rw [if_pos rfl]
              exact if_pos (by omega)
          · rw [if_neg e, if_neg e]
            have hY1 := hY t' ht'
            have e1 : am_u2 (am_u2 i (50 + 2 * t) 1 (nI s)) (50 + 2 * t) 2 (nI n) (50 + 2 * t') = i (50 + 2 * t') := by
              funext k
              simp only [am_u2]
              rw [if_neg (by omega), if_neg (by omega)]
            have e2 : am_u1 l (51 + 2 * t) (fun k => if k < 40 then 0 else l (51 + 2 * t) k) (51 + 2 * t') = l (51 + 2 * t') := by
              funext k
              simp only [am_u1]
              rw [if_neg (by omega)]
            refine ⟨fun w => by rw [e1]; exact hY1.1 w, fun w => ?_⟩
            obtain ⟨w1, w2, w3⟩ := hY1.2 w
            refine ⟨by rw [e1]; exact w1, by rw [e1]; exact w2, fun k hk => ?_⟩
            rw [e2, w3 k hk]
            dsimp only
            have := (hWT t' ht').1
            rw [if_neg (by omega)]
      · rw [if_pos ⟨hx, hy⟩, if_neg hz, if_neg (fun w => hz w.2.2)]
        refine ⟨i, l, ?_, FG_refl _ _ _ _ _ _, hY⟩
        by_cases z1 : z < nI 0
        · simp (disch := first | assumption | omega) only [b_X_numbers_0, b_X_numbers_4, b_X_numbers_16, b_X_numbers_29, b_X_numbers_43, s_X_isTray, ↓Bool.cond_decide, ↓q_in, q_le, q_lt, q_eq, q_leT, q_leF, q_ltT, q_ltF, q_eqT, q_eqF, ↓reduceIte, not_true_eq_false, not_false_eq_true, true_and, and_true, and_self, false_and, and_false, Nat.zero_le, am_bd_some, q_app, q_app0, nI_add, pk_sub, pk_mul, q_dec, q_ix, q_m1, q_m1', ↓q_ret, q_bool, q_bool1, q_u2, q_u1, q_shl1, q_shr, q_and7, q_dg, fa_or, fa_and, decide_true, decide_false, Bool.or_false, Bool.or_true, Bool.true_or, Bool.false_or, cond_true, cond_false, ite_not, q_some, q_nn, q_xor, q_xorm, Bool.false_eq_true, decide_eq_true_eq, ne_eq, l_0, l_1, l_2, l_3, l_4, l_10, l_16, l_28, l_29, l_40, l_43, l_47, hx, y1, y3, z1]
        · have z2 : ¬ z ≤ nI 40 := fun w => hz (hzr.mpr ⟨z1, w⟩)
          simp (disch := first | assumption | omega) only [b_X_numbers_0, b_X_numbers_4, b_X_numbers_16, b_X_numbers_29, b_X_numbers_43, s_X_isTray, ↓Bool.cond_decide, ↓q_in, q_le, q_lt, q_eq, q_leT, q_leF, q_ltT, q_ltF, q_eqT, q_eqF, ↓reduceIte, not_true_eq_false, not_false_eq_true, true_and, and_true, and_self, false_and, and_false, Nat.zero_le, am_bd_some, q_app, q_app0, nI_add, pk_sub, pk_mul, q_dec, q_ix, q_m1, q_m1', ↓q_ret, q_bool, q_bool1, q_u2, q_u1, q_shl1, q_shr, q_and7, q_dg, fa_or, fa_and, decide_true, decide_false, Bool.or_false, Bool.or_true, Bool.true_or, Bool.false_or, cond_true, cond_false, ite_not, q_some, q_nn, q_xor, q_xorm, Bool.false_eq_true, decide_eq_true_eq, ne_eq, l_0, l_1, l_2, l_3, l_4, l_10, l_16, l_28, l_29, l_40, l_43, l_47, hx, y1, y3, z1, z2]
    · rw [if_neg (fun w => hy w.2), if_neg (fun w => hy w.2.1)]
      refine ⟨i, l, ?_, FG_refl _ _ _ _ _ _, hY⟩
      by_cases y1 : y < nI 0
      · simp (disch := first | assumption | omega) only [b_X_numbers_0, b_X_numbers_4, b_X_numbers_16, b_X_numbers_29, b_X_numbers_43, s_X_isTray, ↓Bool.cond_decide, ↓q_in, q_le, q_lt, q_eq, q_leT, q_leF, q_ltT, q_ltF, q_eqT, q_eqF, ↓reduceIte, not_true_eq_false, not_false_eq_true, true_and, and_true, and_self, false_and, and_false, Nat.zero_le, am_bd_some, q_app, q_app0, nI_add, pk_sub, pk_mul, q_dec, q_ix, q_m1, q_m1', ↓q_ret, q_bool, q_bool1, q_u2, q_u1, q_shl1, q_shr, q_and7, q_dg, fa_or, fa_and, decide_true, decide_false, Bool.or_false, Bool.or_true, Bool.true_or, Bool.false_or, cond_true, cond_false, ite_not, q_some, q_nn, q_xor, q_xorm, Bool.false_eq_true, decide_eq_true_eq, ne_eq, l_0, l_1, l_2, l_3, l_4, l_10, l_16, l_28, l_29, l_40, l_43, l_47, hx, y1]
      · have y2 : ¬ y < nI 4 := fun w => hy (hyr.mpr ⟨y1, hy4.mp w⟩)
        simp (disch := first | assumption | omega) only [b_X_numbers_0, b_X_numbers_4, b_X_numbers_16, b_X_numbers_29, b_X_numbers_43, s_X_isTray, ↓Bool.cond_decide, ↓q_in, q_le, q_lt, q_eq, q_leT, q_leF, q_ltT, q_ltF, q_eqT, q_eqF, ↓reduceIte, not_true_eq_false, not_false_eq_true, true_and, and_true, and_self, false_and, and_false, Nat.zero_le, am_bd_some, q_app, q_app0, nI_add, pk_sub, pk_mul, q_dec, q_ix, q_m1, q_m1', ↓q_ret, q_bool, q_bool1, q_u2, q_u1, q_shl1, q_shr, q_and7, q_dg, fa_or, fa_and, decide_true, decide_false, Bool.or_false, Bool.or_true, Bool.true_or, Bool.false_or, cond_true, cond_false, ite_not, q_some, q_nn, q_xor, q_xorm, Bool.false_eq_true, decide_eq_true_eq, ne_eq, l_0, l_1, l_2, l_3, l_4, l_10, l_16, l_28, l_29, l_40, l_43, l_47, hx, y1, y2]
  · rw [if_neg (fun w => hx w.1), if_neg (fun w => hx w.1)]
    refine ⟨i, l, ?_, FG_refl _ _ _ _ _ _, hY⟩
    simp (disch := first | assumption | omega) only [b_X_numbers_0, b_X_numbers_4, b_X_numbers_16, b_X_numbers_29, b_X_numbers_43, s_X_isTray, ↓Bool.cond_decide, ↓q_in, q_le, q_lt, q_eq, q_leT, q_leF, q_ltT, q_ltF, q_eqT, q_eqF, ↓reduceIte, not_true_eq_false, not_false_eq_true, true_and, and_true, and_self, false_and, and_false, Nat.zero_le, am_bd_some, q_app, q_app0, nI_add, pk_sub, pk_mul, q_dec, q_ix, q_m1, q_m1', ↓q_ret, q_bool, q_bool1, q_u2, q_u1, q_shl1, q_shr, q_and7, q_dg, fa_or, fa_and, decide_true, decide_false, Bool.or_false, Bool.or_true, Bool.true_or, Bool.false_or, cond_true, cond_false, ite_not, q_some, q_nn, q_xor, q_xorm, Bool.false_eq_true, decide_eq_true_eq, ne_eq, l_0, l_1, l_2, l_3, l_4, l_10, l_16, l_28, l_29, l_40, l_43, l_47, hx]
theorem s_Tray_put (d : Nat) {t k s n : Nat} (v : Int64) (ht : t < 4) (hs : s < 4) (h1 : i (50 + 2 * t) 1 = nI s) (h2 : i (50 + 2 * t) 2 = nI n) (hk : k < n) (hn : n ≤ 40) : am_cl (d + 1) mTray_put [.ref (50 + 2 * t), .int (nI k), .long v] (i, l, rX q, kX K) = some (none, (i, am_u2 l (51 + 2 * t) k (cutS v (nI s)), rX q, kX K)) := by
  have h50 := tr50 q ht
  have hk50 : Nat.beq (am_kd (i, l, rX q, kX K) (50 + 2 * t)) 10 = true := tk50 ht
  have h51 := fun x => tk51 (i := i) (l := l) (q := rX q) (K := K) ht x
  rw [c_Tray_put, b_Tray_put_0]
  rcases c4 hs with rfl | rfl | rfl | rfl
  · simp (disch := first | assumption | omega) only [b_Tray_put_0, b_Tray_put_18, b_Tray_put_93, ↓Bool.cond_decide, ↓q_in, q_le, q_lt, q_eq, q_leT, q_leF, q_ltT, q_ltF, q_eqT, q_eqF, ↓reduceIte, not_true_eq_false, not_false_eq_true, true_and, and_true, and_self, false_and, and_false, Nat.zero_le, am_bd_some, q_app, q_app0, nI_add, pk_sub, pk_mul, q_dec, q_ix, q_m1, q_m1', ↓q_ret, q_bool, q_bool1, q_u1, q_shl1, q_shr, q_and7, q_dg, fa_or, fa_and, decide_true, decide_false, Bool.or_false, Bool.or_true, Bool.true_or, Bool.false_or, cond_true, cond_false, ite_not, q_some, q_nn, q_xor, q_xorm, Bool.false_eq_true, decide_eq_true_eq, ne_eq, l_0, l_1, l_2, l_3, l_10, l_18, l_40, l_47, l_93, l_101, hk50, h50, h51, h1, h2, cond_true]
    rfl
  · simp (disch := first | assumption | omega) only [b_Tray_put_0, b_Tray_put_18, b_Tray_put_93, ↓Bool.cond_decide, ↓q_in, q_le, q_lt, q_eq, q_leT, q_leF, q_ltT, q_ltF, q_eqT, q_eqF, ↓reduceIte, not_true_eq_false, not_false_eq_true, true_and, and_true, and_self, false_and, and_false, Nat.zero_le, am_bd_some, q_app, q_app0, nI_add, pk_sub, pk_mul, q_dec, q_ix, q_m1, q_m1', ↓q_ret, q_bool, q_bool1, q_u1, q_shl1, q_shr, q_and7, q_dg, fa_or, fa_and, decide_true, decide_false, Bool.or_false, Bool.or_true, Bool.true_or, Bool.false_or, cond_true, cond_false, ite_not, q_some, q_nn, q_xor, q_xorm, Bool.false_eq_true, decide_eq_true_eq, ne_eq, l_0, l_1, l_2, l_3, l_10, l_18, l_40, l_47, l_93, l_101, hk50, h50, h51, h1, h2, cond_true]
    rfl
  · simp (disch := first | assumption | omega) only [b_Tray_put_0, b_Tray_put_18, b_Tray_put_93, ↓Bool.cond_decide, ↓q_in, q_le, q_lt, q_eq, q_leT, q_leF, q_ltT, q_ltF, q_eqT, q_eqF, ↓reduceIte, not_true_eq_false, not_false_eq_true, true_and, and_true, and_self, false_and, and_false, Nat.zero_le, am_bd_some, q_app, q_app0, nI_add, pk_sub, pk_mul, q_dec, q_ix, q_m1, q_m1', ↓q_ret, q_bool, q_bool1, q_u1, q_shl1, q_shr, q_and7, q_dg, fa_or, fa_and, decide_true, decide_false, Bool.or_false, Bool.or_true, Bool.true_or, Bool.false_or, cond_true, cond_false, ite_not, q_some, q_nn, q_xor, q_xorm, Bool.false_eq_true, decide_eq_true_eq, ne_eq, l_0, l_1, l_2, l_3, l_10, l_18, l_40, l_47, l_93, l_101, hk50, h50, h51, h1, h2, cond_true]
    rfl
  · simp (disch := first | assumption | omega) only [b_Tray_put_0, b_Tray_put_18, b_Tray_put_93, ↓Bool.cond_decide, ↓q_in, q_le, q_lt, q_eq, q_leT, q_leF, q_ltT, q_ltF, q_eqT, q_eqF, ↓reduceIte, not_true_eq_false, not_false_eq_true, true_and, and_true, and_self, false_and, and_false, Nat.zero_le, am_bd_some, q_app, q_app0, nI_add, pk_sub, pk_mul, q_dec, q_ix, q_m1, q_m1', ↓q_ret, q_bool, q_bool1, q_u1, q_shl1, q_shr, q_and7, q_dg, fa_or, fa_and, decide_true, decide_false, Bool.or_false, Bool.or_true, Bool.true_or, Bool.false_or, cond_true, cond_false, ite_not, q_some, q_nn, q_xor, q_xorm, Bool.false_eq_true, decide_eq_true_eq, ne_eq, l_0, l_1, l_2, l_3, l_10, l_18, l_40, l_47, l_93, l_101, hk50, h50, h51, h1, h2, cond_true]
    rfl
theorem TY_put {t k : Nat} {v : Int64} {f : Nat → Int64} (hY : TY σ i l) (hWT : WT σ) (ht : t < 4) (hk : k < σ.2.2.2.2.2.2.2.1 t) (hf : ∀ j, f j = if j = 40 * t + k then v else σ.2.2.2.2.2.2.2.2 j) : TY (σ.1, σ.2.1, σ.2.2.1, σ.2.2.2.1, σ.2.2.2.2.1, σ.2.2.2.2.2.1, σ.2.2.2.2.2.2.1, σ.2.2.2.2.2.2.2.1, f) i (am_u2 l (51 + 2 * t) k v) := by
  intro t' ht'
  obtain ⟨y1, y2⟩ := hY t' ht'
  refine ⟨y1, fun w => ?_⟩
  obtain ⟨z1, z2, z3⟩ := y2 w
  have hs1 := (hWT t ht).1
  have hs2 := (hWT t' ht').1
  refine ⟨z1, z2, fun j hj => ?_⟩
  have hj : j < σ.2.2.2.2.2.2.2.1 t' := hj
  have z3 := z3 j hj
  dsimp only at z3 ⊢
  rw [hf]
  unfold am_u2
  by_cases e : t' = t
  · subst e
    rw [if_pos rfl]
    by_cases e2 : j = k
    · rw [if_pos e2, if_pos (by omega)]
    · rw [if_neg e2, if_neg (by omega)]; exact z3
  · rw [if_neg (by omega), if_neg (by omega)]; exact z3
theorem y_X_write (d : Nat) (x y : Int32) (v : Int64) (hY : TY σ i l) (hWT : WT σ) : ∃ l', am_cl (d + 2) mX_write [.ref 0, .int x, .int y, .long v] (i, l, rX q, kX K) = some (some (.long (v_write σ x y v)), (i, l', rX q, kX K)) ∧ FG [] [51, 53, 55, 57] [] i i l l' q q ∧ TY (a_write σ x y v) i l' := by
  rw [c_X_write, b_X_write_0, v_write]
  unfold a_write
  by_cases hx : iB x 4 = true
  · have hx' := hx
    obtain ⟨t, ht, rfl⟩ := iB_T hx'
    have h47 := tr47 q ht
    have hk50 : ∀ i1 l1, Nat.beq (am_kd (i1, l1, rX q, kX K) (50 + 2 * t)) 10 = true := fun _ _ => tk50 ht
    have hmi := s_Tray_isMissing (i := i) (l := l) (q := rX q) (K := K) d ht
    have hm := TY_m hY hWT ht
    have hv : vNo σ (nI t) = if σ.2.2.2.2.2.2.1 t = -nI 1 then -nI 6 else nI 0 := by
      unfold vNo
      rw [if_pos hx, nI_clamp (by omega)]
    by_cases c : σ.2.2.2.2.2.2.1 t = -nI 1
    · rw [if_pos (hm.mpr c)] at hmi
      rw [if_pos c] at hv
      have hv0 : ¬ (-nI 6 = nI 0) := by decide
      rw [hv, if_neg hv0, if_neg (fun z => hv0 z.1)]
      refine ⟨l, ?_, FG_refl _ _ _ _ _ _, hY⟩
      simp (disch := first | assumption | omega) only [b_X_write_0, b_X_write_4, b_X_write_20, b_X_write_44, b_X_write_59, b_X_write_69, s_Tray_at, s_Tray_put, s_X_isTray, ↓Bool.cond_decide, ↓q_in, q_le, q_lt, q_eq, q_leT, q_leF, q_ltT, q_ltF, q_eqT, q_eqF, ↓reduceIte, not_true_eq_false, not_false_eq_true, true_and, and_true, and_self, false_and, and_false, Nat.zero_le, am_bd_some, q_app, q_app0, nI_add, pk_sub, pk_mul, q_dec, q_ix, q_m1, q_m1', ↓q_ret, q_bool, q_bool1, q_u2, q_u1, q_shl1, q_shr, q_and7, q_dg, fa_or, fa_and, decide_true, decide_false, Bool.or_false, Bool.or_true, Bool.true_or, Bool.false_or, cond_true, cond_false, ite_not, q_some, q_nn, q_xor, q_xorm, Bool.false_eq_true, decide_eq_true_eq, ne_eq, l_0, l_1, l_2, l_3, l_4, l_6, l_7, l_10, l_11, l_20, l_27, l_44, l_47, l_59, l_69, hx, h47, hk50, hmi, cond_true, Bool.and_true]
      rfl
    · rw [if_neg (fun z => c (hm.mp z))] at hmi
      rw [if_neg c] at hv
      obtain ⟨hso, hTF⟩ := (hY t ht).2 c
      obtain ⟨hsz, hsr⟩ := hWT t ht
      obtain ⟨s, hs, hse⟩ := hsr.resolve_left c
      rw [hv, if_pos rfl, nI_clamp (show t < 2147483648 by omega)]
      have hn2 := hTF.1
      rw [hse] at hso
      by_cases hy : iB y (σ.2.2.2.2.2.2.2.1 t) = true
      · rw [if_pos hy, if_pos ⟨rfl, hy⟩]
        have hy' := hy
        obtain ⟨k, hk, rfl⟩ := iB_T hy'
        rw [nI_clamp (show k < 2147483648 by omega), hse]
        have hpu := s_Tray_put (i := i) (l := l) (q := q) (K := K) d v ht hs hso hn2 hk hsz
        have hat := s_Tray_at (i := i) (l := am_u2 l (51 + 2 * t) k (cutS v (nI s))) (q := q) (K := K) d (k := k) ht (by omega)
        rw [q_u2s] at hat
        refine ⟨am_u2 l (51 + 2 * t) k (cutS v (nI s)), ?_, ⟨Fr_refl _ _, fun z hz => ?_, fun _ _ => rfl⟩, TY_put hY hWT ht hk (fun _ => rfl)⟩
        · simp (disch := first | assumption | omega) only [b_X_write_0, b_X_write_4, b_X_write_20, b_X_write_44, b_X_write_59, b_X_write_69, s_X_isTray, ↓Bool.cond_decide, ↓q_in, q_le, q_lt, q_eq, q_leT, q_leF, q_ltT, q_ltF, q_eqT, q_eqF, ↓reduceIte, not_true_eq_false, not_false_eq_true, true_and, and_true, and_self, false_and, and_false, Nat.zero_le, am_bd_some, q_app, q_app0, nI_add, pk_sub, pk_mul, q_dec, q_ix, q_m1, q_m1', ↓q_ret, q_bool, q_bool1, q_u1, q_shl1, q_shr, q_and7, q_dg, fa_or, fa_and, decide_true, decide_false, Bool.or_false, Bool.or_true, Bool.true_or, Bool.false_or, cond_true, cond_false, ite_not, q_some, q_nn, q_xor, q_xorm, Bool.false_eq_true, decide_eq_true_eq, ne_eq, l_0, l_1, l_2, l_3, l_4, l_6, l_7, l_10, l_11, l_20, l_27, l_44, l_47, l_59, l_69, hx, h47, hk50, hmi, hn2, hpu, hat, cond_true, Bool.and_true]
        · have : z ≠ 51 + 2 * t := fun w => by
            rw [w] at hz
            rcases c4 ht with rfl | rfl | rfl | rfl <;> cases hz
          funext j
          unfold am_u2
          rw [if_neg this]
      · rw [if_neg hy, if_neg (fun w => hy w.2)]
        refine ⟨l, ?_, FG_refl _ _ _ _ _ _, hY⟩
        have hyc : ¬ (¬ y < nI 0 ∧ y < nI (σ.2.2.2.2.2.2.2.1 t)) := fun w => hy (by
          unfold iB
          rw [decide_eq_true_eq]
          rw [fa_lt, fa_lt, nI_toInt (by decide), nI_toInt (by omega)] at w
          omega)
        by_cases y1 : y < nI 0
        · simp (disch := first | assumption | omega) only [b_X_write_0, b_X_write_4, b_X_write_20, b_X_write_44, b_X_write_59, b_X_write_69, s_Tray_at, s_Tray_put, s_X_isTray, ↓Bool.cond_decide, ↓q_in, q_le, q_lt, q_eq, q_leT, q_leF, q_ltT, q_ltF, q_eqT, q_eqF, ↓reduceIte, not_true_eq_false, not_false_eq_true, true_and, and_true, and_self, false_and, and_false, Nat.zero_le, am_bd_some, q_app, q_app0, nI_add, pk_sub, pk_mul, q_dec, q_ix, q_m1, q_m1', ↓q_ret, q_bool, q_bool1, q_u2, q_u1, q_shl1, q_shr, q_and7, q_dg, fa_or, fa_and, decide_true, decide_false, Bool.or_false, Bool.or_true, Bool.true_or, Bool.false_or, cond_true, cond_false, ite_not, q_some, q_nn, q_xor, q_xorm, Bool.false_eq_true, decide_eq_true_eq, ne_eq, l_0, l_1, l_2, l_3, l_4, l_6, l_7, l_10, l_11, l_20, l_27, l_44, l_47, l_59, l_69, hx, h47, hk50, hmi, hn2, y1, cond_true, Bool.and_true]
        · have y2 : ¬ y < nI (σ.2.2.2.2.2.2.2.1 t) := fun w => hyc ⟨y1, w⟩
          simp (disch := first | assumption | omega) only [b_X_write_0, b_X_write_4, b_X_write_20, b_X_write_44, b_X_write_59, b_X_write_69, s_Tray_at, s_Tray_put, s_X_isTray, ↓Bool.cond_decide, ↓q_in, q_le, q_lt, q_eq, q_leT, q_leF, q_ltT, q_ltF, q_eqT, q_eqF, ↓reduceIte, not_true_eq_false, not_false_eq_true, true_and, and_true, and_self, false_and, and_false, Nat.zero_le, am_bd_some, q_app, q_app0, nI_add, pk_sub, pk_mul, q_dec, q_ix, q_m1, q_m1', ↓q_ret, q_bool, q_bool1, q_u2, q_u1, q_shl1, q_shr, q_and7, q_dg, fa_or, fa_and, decide_true, decide_false, Bool.or_false, Bool.or_true, Bool.true_or, Bool.false_or, cond_true, cond_false, ite_not, q_some, q_nn, q_xor, q_xorm, Bool.false_eq_true, decide_eq_true_eq, ne_eq, l_0, l_1, l_2, l_3, l_4, l_6, l_7, l_10, l_11, l_20, l_27, l_44, l_47, l_59, l_69, hx, h47, hk50, hmi, hn2, y1, y2, cond_true, Bool.and_true]
  · have hv : vNo σ x = -nI 2 := by unfold vNo; rw [if_neg hx]
    have hv0 : ¬ (-nI 2 = nI 0) := by decide
    rw [hv, if_neg hv0, if_neg (fun z => hv0 z.1)]
    refine ⟨l, ?_, FG_refl _ _ _ _ _ _, hY⟩
    simp (disch := first | assumption | omega) only [b_X_write_0, b_X_write_4, b_X_write_20, b_X_write_44, b_X_write_59, b_X_write_69, s_Tray_at, s_Tray_isMissing, s_Tray_put, s_X_isTray, ↓Bool.cond_decide, ↓q_in, q_le, q_lt, q_eq, q_leT, q_leF, q_ltT, q_ltF, q_eqT, q_eqF, ↓reduceIte, not_true_eq_false, not_false_eq_true, true_and, and_true, and_self, false_and, and_false, Nat.zero_le, am_bd_some, q_app, q_app0, nI_add, pk_sub, pk_mul, q_dec, q_ix, q_m1, q_m1', ↓q_ret, q_bool, q_bool1, q_u2, q_u1, q_shl1, q_shr, q_and7, q_dg, fa_or, fa_and, decide_true, decide_false, Bool.or_false, Bool.or_true, Bool.true_or, Bool.false_or, cond_true, cond_false, ite_not, q_some, q_nn, q_xor, q_xorm, Bool.false_eq_true, decide_eq_true_eq, ne_eq, l_0, l_1, l_2, l_3, l_4, l_6, l_7, l_10, l_11, l_20, l_27, l_44, l_47, l_59, l_69, hx]
    rfl
end
/-! images -/
section
variable {i i' : Nat → Nat → Int32} {l l' : Nat → Nat → Int64} {q q' : Nat → Nat → Option Nat} {K : List (Nat × Nat)} {r m : Nat} {g g' : Nat → Nat} {ρ : Nat → Nat → Nat}
theorem gE_of (h : ∀ j, j < 1074 → g' j = g j) : gE g g' := fun j hj _ => h j hj
theorem RV_g (hV : RV (i, l, q, K) r g) (hW : WG g) (h : ∀ j, j < 1074 → g' j = g j) : RV (i, l, q, K) r g' := RV_E hV (gE_of h) hW.2.2.2.2.2.2.2.2.1 hW.2.2.2.2.2.2.2.2.2.1
theorem CV_g (hC : CV ρ r g m i l q K) (hW : WG g') (h : ∀ j, j < 1074 → g' j = g j) : CV ρ r g' m i l q K := by
  obtain ⟨a1, a2, a3, a4, a5, a6⟩ := hC
  exact ⟨a1, RV_g a2 a3 h, hW, gE_tr a4 (gE_of h), a5, RM_cg a6 (fun k hk => h _ (by omega))⟩
theorem PH_g (hP : PH g i l) (h32 : g 32 ≤ 10) (h : ∀ j, j < 1074 → g' j = g j) : PH g' i l := by
  obtain ⟨p1, p2⟩ := hP
  refine ⟨by rw [h 32 (by decide)]; exact p1, fun n hn => ?_⟩
  rw [h 32 (by decide)] at hn
  obtain ⟨m', e, hM⟩ := p2 n hn
  exact ⟨m', e, RM_cg hM (fun k hk => h _ (by omega))⟩
theorem gIm_s (g : Nat → Nat) (x j : Nat) (hj : j < 1074) : gIm (gImage g x) x j = g j := by
  unfold gIm gImage
  rw [if_pos (by omega), Nat.add_sub_cancel_left]
theorem gIm_o (g : Nat → Nat) {x y : Nat} (hxy : x ≠ y) (j : Nat) (hj : j < 1074) : gIm (gImage g x) y j = gIm g y j := by
  unfold gIm gImage
  rw [if_neg (by omega)]
end
section
variable {i i' : Nat → Nat → Int32} {l l' : Nat → Nat → Int64} {q q' : Nat → Nat → Option Nat} {K : List (Nat × Nat)} {r m : Nat} {ρ : Nat → Nat → Nat} {σ : St}
theorem y_X_image (d : Nat) (x : Int32) (hC : CV ρ r σ.1 m i l q K) (hPH : PH σ.1 i l) (hM : IM ρ σ i l q K) (hI : SI σ) : ∃ l' q', am_cl (d + 1) mX_image [.ref 0, .int x] (i, l, rX q, kX K) = some (some (.int (v_image x)), (i, l', rX q', kX K)) ∧ FG [] [49] [48] i i l l' q q' ∧ CV ρ r (a_image σ x).1 m i l' q' K ∧ PH (a_image σ x).1 i l' ∧ IM ρ (a_image σ x) i l' q' K ∧ ∀ k r', q' 48 k = some r' → r' = r ∨ q 48 k = some r' := by
  have hSI := SI_image x hI
  have hxr := rg_z 0 1 x (by decide) (by decide)
  have hx2 : x < nI 2 ↔ x ≤ nI 1 := by rw [fa_lt, fa_le, nI_toInt (by decide), nI_toInt (by decide)]; omega
  rw [c_X_image, b_X_image_0, v_image]
  unfold a_image at hSI ⊢
  by_cases hx : iR 0 1 x = true
  · obtain ⟨x1, x2⟩ := hxr.mp hx
    have x3 := hx2.mpr x2
    rw [if_pos hx] at hSI
    rw [if_pos hx, if_pos hx]
    have hx' := hx
    obtain ⟨t, _, ht, rfl⟩ := iR_T hx'
    rw [nI_clamp (show t < 2147483648 by omega)] at hSI ⊢
    have a1 : rX q 0 2 = some r := hC.1
    have a5 := hC.2.2.2.2.1
    have hk : Nat.beq (am_kd (i, l, rX q, kX K) r) 6 = true := by rw [hC.2.1.2.1]; rfl
    have hu : am_u2 (rX q) 48 t (some r) = rX (am_u2 q 48 t (some r)) := rX_u2 q _ (by
      rcases (show t = 0 ∨ t = 1 by omega) with rfl | rfl <;> rfl)
    have hg : ∀ j, j < 1074 → gImage σ.1 t j = σ.1 j := fun j hj => by unfold gImage; rw [if_neg (by omega)]
    have hff : FG [] [49] [48] i i l (am_u2 l 49 t (lN m)) q (am_u2 q 48 t (some r)) := by
      refine ⟨Fr_refl _ _, fun c hc => ?_, fun c hc => ?_⟩
      · have : c ≠ 49 := fun z => by rw [z] at hc; cases hc
        funext k; unfold am_u2; rw [if_neg this]
      · have : c ≠ 48 := fun z => by rw [z] at hc; cases hc
        funext k; unfold am_u2; rw [if_neg this]
    refine ⟨am_u2 l 49 t (lN m), am_u2 q 48 t (some r), ?_, hff, ?_, PH_g (PH_ff hff rfl rfl hPH) hI.2.1.1 hg, ?_, fun k r' hr => ?_⟩
    · simp (disch := first | assumption | omega) only [b_X_image_0, b_X_image_9, ↓Bool.cond_decide, ↓q_in, q_le, q_lt, q_eq, q_leT, q_leF, q_ltT, q_ltF, q_eqT, q_eqF, ↓reduceIte, not_true_eq_false, not_false_eq_true, true_and, and_true, and_self, false_and, and_false, Nat.zero_le, am_bd_some, q_app, q_app0, nI_add, pk_sub, pk_mul, q_dec, q_ix, q_m1, q_m1', ↓q_ret, q_bool, q_bool1, q_u1, q_shl1, q_shr, q_and7, q_dg, fa_or, fa_and, decide_true, decide_false, Bool.or_false, Bool.or_true, Bool.true_or, Bool.false_or, cond_true, cond_false, ite_not, q_some, q_nn, q_xor, q_xorm, Bool.false_eq_true, decide_eq_true_eq, ne_eq, l_0, l_1, l_2, l_3, l_4, l_6, l_9, l_10, l_23, l_48, l_49, x1, x3, a1, a5, hk, hu, cond_true, Bool.and_true, Bool.true_and, Bool.or_true, Bool.false_and, Bool.false_or]
    · obtain ⟨b1, b2, b3, b4, b5, b6⟩ := hC
      exact CV_g ⟨b1, RV_fg hff rfl rfl b2, b3, b4, b5, b6⟩ hSI.1 hg
    · intro y hy
      by_cases e : y = t
      · subst e
        refine ⟨fun z => ?_, fun _ => ⟨r, m, by simp [am_u2], ?_, gE_tr hC.2.2.2.1 (gE_of (fun j hj => gIm_s σ.1 y j hj)), by simp [am_u2], RM_cg hC.2.2.2.2.2 (fun k hk => gIm_s σ.1 y (18 + k) (by omega))⟩⟩
        · simp at z
        · exact RV_g (RV_fg hff rfl rfl hC.2.1) hC.2.2.1 (fun j hj => gIm_s σ.1 y j hj)
      · have e' : ¬ t = y := fun z => e z.symm
        obtain ⟨m1, m2⟩ := hM y hy
        refine ⟨fun z => ?_, fun z => ?_⟩
        · dsimp only at z
          rw [decide_eq_false e, Bool.false_or] at z
          show am_u2 q 48 t (some r) 48 y = none
          unfold am_u2
          rw [if_pos rfl, if_neg e]
          exact m1 z
        · dsimp only at z
          rw [decide_eq_false e, Bool.false_or] at z
          obtain ⟨r2, mm, c1, c2, c3, c4', c5⟩ := m2 z
          have hWi := hI.2.2.1 y hy z
          refine ⟨r2, mm, ?_, RV_g (RV_fg hff rfl rfl c2) hWi (fun j hj => gIm_o σ.1 e' j hj), gE_tr c3 (gE_of (fun j hj => gIm_o σ.1 e' j hj)), ?_, RM_cg c5 (fun k hk => gIm_o σ.1 e' (18 + k) (by omega))⟩
          · show am_u2 q 48 t (some r) 48 y = some r2
            unfold am_u2
            rw [if_pos rfl, if_neg e]; exact c1
          · show am_u2 l 49 t (lN m) 49 y = lN mm
            unfold am_u2
            rw [if_pos rfl, if_neg e]; exact c4'
    · unfold am_u2 at hr
      rw [if_pos rfl] at hr
      by_cases e : k = t
      · rw [if_pos e] at hr; exact Or.inl (Option.some.inj hr).symm
      · rw [if_neg e] at hr; exact Or.inr hr
  · rw [if_neg hx, if_neg hx]
    refine ⟨l, q, ?_, FG_refl _ _ _ _ _ _, hC, hPH, hM, fun k r' hr => Or.inr hr⟩
    by_cases x1 : x < nI 0
    · simp (disch := first | assumption | omega) only [b_X_image_0, b_X_image_9, ↓Bool.cond_decide, ↓q_in, q_le, q_lt, q_eq, q_leT, q_leF, q_ltT, q_ltF, q_eqT, q_eqF, ↓reduceIte, not_true_eq_false, not_false_eq_true, true_and, and_true, and_self, false_and, and_false, Nat.zero_le, am_bd_some, q_app, q_app0, nI_add, pk_sub, pk_mul, q_dec, q_ix, q_m1, q_m1', ↓q_ret, q_bool, q_bool1, q_u2, q_u1, q_shl1, q_shr, q_and7, q_dg, fa_or, fa_and, decide_true, decide_false, Bool.or_false, Bool.or_true, Bool.true_or, Bool.false_or, cond_true, cond_false, ite_not, q_some, q_nn, q_xor, q_xorm, Bool.false_eq_true, decide_eq_true_eq, ne_eq, l_0, l_1, l_2, l_3, l_4, l_6, l_9, l_10, l_23, l_48, l_49, x1]
    · have x2 : ¬ x < nI 2 := fun w => hx (hxr.mpr ⟨x1, hx2.mp w⟩)
      simp (disch := first | assumption | omega) only [b_X_image_0, b_X_image_9, ↓Bool.cond_decide, ↓q_in, q_le, q_lt, q_eq, q_leT, q_leF, q_ltT, q_ltF, q_eqT, q_eqF, ↓reduceIte, not_true_eq_false, not_false_eq_true, true_and, and_true, and_self, false_and, and_false, Nat.zero_le, am_bd_some, q_app, q_app0, nI_add, pk_sub, pk_mul, q_dec, q_ix, q_m1, q_m1', ↓q_ret, q_bool, q_bool1, q_u2, q_u1, q_shl1, q_shr, q_and7, q_dg, fa_or, fa_and, decide_true, decide_false, Bool.or_false, Bool.or_true, Bool.true_or, Bool.false_or, cond_true, cond_false, ite_not, q_some, q_nn, q_xor, q_xorm, Bool.false_eq_true, decide_eq_true_eq, ne_eq, l_0, l_1, l_2, l_3, l_4, l_6, l_9, l_10, l_23, l_48, l_49, x1, x2]
theorem y_X_restore (d : Nat) (x : Int32) (hC : CV ρ r σ.1 m i l q K) (hPH : PH σ.1 i l) (hM : IM ρ σ i l q K) (hI : SI σ) : ∃ i' l' q' r' m', am_cl (d + 1) mX_restore [.ref 0, .int x] (i, l, rX q, kX K) = some (some (.int (v_restore σ x)), (i', l', rX q', kX K)) ∧ FG [0] [0] [0] i i' l l' q q' ∧ CV ρ r' (a_restore σ x).1 m' i' l' q' K ∧ PH (a_restore σ x).1 i' l' ∧ IM ρ (a_restore σ x) i' l' q' K ∧ (r' = r ∨ ∃ k, k < 2 ∧ q 48 k = some r') := by
  have hSI := SI_restore x hI
  have hxr := rg_z 0 1 x (by decide) (by decide)
  have hx2 : x < nI 2 ↔ x ≤ nI 1 := by rw [fa_lt, fa_le, nI_toInt (by decide), nI_toInt (by decide)]; omega
  rw [c_X_restore, b_X_restore_0, v_restore]
  unfold a_restore at hSI ⊢
  by_cases hx : iR 0 1 x = true
  · obtain ⟨x1, x2⟩ := hxr.mp hx
    have x3 := hx2.mpr x2
    rw [if_pos hx]
    have hx' := hx
    obtain ⟨t, _, ht, rfl⟩ := iR_T hx'
    rw [nI_clamp (show t < 2147483648 by omega)] at hSI ⊢
    have h48 : rX q 48 t = q 48 t := rfl
    obtain ⟨m1, m2⟩ := hM t (by omega)
    cases hb : σ.2.1 t with
    | false =>
      have hn : rX q 48 t = none := m1 hb
      rw [if_neg (by decide), if_neg (fun z => by cases z.2)]
      refine ⟨i, l, q, r, m, ?_, FG_refl _ _ _ _ _ _, hC, hPH, hM, Or.inl rfl⟩
      simp (disch := first | assumption | omega) only [b_X_restore_0, b_X_restore_9, ↓Bool.cond_decide, ↓q_in, q_le, q_lt, q_eq, q_leT, q_leF, q_ltT, q_ltF, q_eqT, q_eqF, ↓reduceIte, not_true_eq_false, not_false_eq_true, true_and, and_true, and_self, false_and, and_false, Nat.zero_le, am_bd_some, q_app, q_app0, nI_add, pk_sub, pk_mul, q_dec, q_ix, q_m1, q_m1', ↓q_ret, q_bool, q_bool1, q_u2, q_u1, q_shl1, q_shr, q_and7, q_dg, fa_or, fa_and, decide_true, decide_false, Bool.or_false, Bool.or_true, Bool.true_or, Bool.false_or, cond_true, cond_false, ite_not, q_some, q_nn, q_xor, q_xorm, Bool.false_eq_true, decide_eq_true_eq, ne_eq, l_0, l_1, l_2, l_3, l_4, l_5, l_9, l_33, l_48, l_49, x1, x3, hn]
    | true =>
      rw [hb, if_pos ⟨hx, rfl⟩] at hSI
      rw [if_pos rfl, if_pos ⟨hx, rfl⟩]
      obtain ⟨r2, mm, c1, c2, c3, c4', c5⟩ := m2 hb
      have hs : rX q 48 t = some r2 := c1
      have hu : am_u2 (rX q) 0 2 (some r2) = rX (am_u2 q 0 2 (some r2)) := rX_u2 q _ rfl
      have hff : FG [0] [0] [0] i (am_u2 i 0 5 (nI 0)) l (am_u2 l 0 3 (lN mm)) q (am_u2 q 0 2 (some r2)) := by
        refine ⟨Fr_u2 rfl (Fr_refl _ _), fun c hc => ?_, fun c hc => ?_⟩
        · have : c ≠ 0 := fun z => by rw [z] at hc; cases hc
          funext k; unfold am_u2; rw [if_neg this]
        · have : c ≠ 0 := fun z => by rw [z] at hc; cases hc
          funext k; unfold am_u2; rw [if_neg this]
      have hg : ∀ j, j < 1074 → j ≠ 32 → gRest σ.1 t j = gIm σ.1 t j := fun j hj h32 => by unfold gRest gIm; rw [if_neg h32, if_pos hj]
      have hge : gE (gIm σ.1 t) (gRest σ.1 t) := fun j hj hk => hg j hj (by omega)
      have hWi := hI.2.2.1 t (by omega) hb
      refine ⟨am_u2 i 0 5 (nI 0), am_u2 l 0 3 (lN mm), am_u2 q 0 2 (some r2), r2, mm, ?_, hff, ⟨rfl, ?_, hSI.1, gE_tr c3 hge, rfl, RM_cg c5 (fun k hk => hg (18 + k) (by omega) (by omega))⟩, ⟨rfl, fun n hn => absurd hn (by unfold gRest; simp)⟩, ?_, Or.inr ⟨t, by omega, c1⟩⟩
      · simp (disch := first | assumption | omega) only [b_X_restore_0, b_X_restore_9, ↓Bool.cond_decide, ↓q_in, q_le, q_lt, q_eq, q_leT, q_leF, q_ltT, q_ltF, q_eqT, q_eqF, ↓reduceIte, not_true_eq_false, not_false_eq_true, true_and, and_true, and_self, false_and, and_false, Nat.zero_le, am_bd_some, q_app, q_app0, nI_add, pk_sub, pk_mul, q_dec, q_ix, q_m1, q_m1', ↓q_ret, q_bool, q_bool1, q_u1, q_shl1, q_shr, q_and7, q_dg, fa_or, fa_and, decide_true, decide_false, Bool.or_false, Bool.or_true, Bool.true_or, Bool.false_or, cond_true, cond_false, ite_not, q_some, q_nn, q_xor, q_xorm, Bool.false_eq_true, decide_eq_true_eq, ne_eq, l_0, l_1, l_2, l_3, l_4, l_5, l_9, l_33, l_48, l_49, x1, x3, hs, c4', hu]
      · exact RV_E (RV_fg hff rfl rfl c2) hge hWi.2.2.2.2.2.2.2.2.1 hWi.2.2.2.2.2.2.2.2.2.1
      · intro y hy
        have e : ∀ j, j < 1074 → gIm (gRest σ.1 t) y j = gIm σ.1 y j := fun j hj => by unfold gIm gRest; rw [if_neg (by omega), if_neg (by omega)]
        obtain ⟨n1, n2⟩ := hM y hy
        refine ⟨n1, fun z => ?_⟩
        obtain ⟨r3, m3, d1, d2, d3, d4, d5⟩ := n2 z
        exact ⟨r3, m3, d1, RV_g (RV_fg hff rfl rfl d2) (hI.2.2.1 y hy z) e, gE_tr d3 (gE_of e), d4, RM_cg d5 (fun k hk => e _ (by omega))⟩
  · rw [if_neg hx, if_neg (fun z => hx z.1)]
    refine ⟨i, l, q, r, m, ?_, FG_refl _ _ _ _ _ _, hC, hPH, hM, Or.inl rfl⟩
    by_cases x1 : x < nI 0
    · simp (disch := first | assumption | omega) only [b_X_restore_0, b_X_restore_9, ↓Bool.cond_decide, ↓q_in, q_le, q_lt, q_eq, q_leT, q_leF, q_ltT, q_ltF, q_eqT, q_eqF, ↓reduceIte, not_true_eq_false, not_false_eq_true, true_and, and_true, and_self, false_and, and_false, Nat.zero_le, am_bd_some, q_app, q_app0, nI_add, pk_sub, pk_mul, q_dec, q_ix, q_m1, q_m1', ↓q_ret, q_bool, q_bool1, q_u2, q_u1, q_shl1, q_shr, q_and7, q_dg, fa_or, fa_and, decide_true, decide_false, Bool.or_false, Bool.or_true, Bool.true_or, Bool.false_or, cond_true, cond_false, ite_not, q_some, q_nn, q_xor, q_xorm, Bool.false_eq_true, decide_eq_true_eq, ne_eq, l_0, l_1, l_2, l_3, l_4, l_5, l_9, l_33, l_48, l_49, x1]
    · have x2 : ¬ x < nI 2 := fun w => hx (hxr.mpr ⟨x1, hx2.mp w⟩)
      simp (disch := first | assumption | omega) only [b_X_restore_0, b_X_restore_9, ↓Bool.cond_decide, ↓q_in, q_le, q_lt, q_eq, q_leT, q_leF, q_ltT, q_ltF, q_eqT, q_eqF, ↓reduceIte, not_true_eq_false, not_false_eq_true, true_and, and_true, and_self, false_and, and_false, Nat.zero_le, am_bd_some, q_app, q_app0, nI_add, pk_sub, pk_mul, q_dec, q_ix, q_m1, q_m1', ↓q_ret, q_bool, q_bool1, q_u2, q_u1, q_shl1, q_shr, q_and7, q_dg, fa_or, fa_and, decide_true, decide_false, Bool.or_false, Bool.or_true, Bool.true_or, Bool.false_or, cond_true, cond_false, ite_not, q_some, q_nn, q_xor, q_xorm, Bool.false_eq_true, decide_eq_true_eq, ne_eq, l_0, l_1, l_2, l_3, l_4, l_5, l_9, l_33, l_48, l_49, x1, x2]
end
/-! the tape is fed -/
section
variable {i i' : Nat → Nat → Int32} {l : Nat → Nat → Int64} {q : Nat → Nat → Option Nat} {K : List (Nat × Nat)} {σ : St}
theorem ju_and (x : Int32) {s : Nat} (hs : s ≤ 24) : ju x (nI s) &&& 255 = nI (x.toBitVec.toNat / 2 ^ s % 256) := by
  have e0 : (255 : Int32).toBitVec.toNat = 2 ^ 8 - 1 := rfl
  rw [pk_and _ 8 e0]
  have e1 : (Int32.toUInt32 (nI s) &&& Int32.toUInt32 31) = UInt32.ofNat s := by
    have : ∀ s, s < 25 → (Int32.toUInt32 (nI s) &&& Int32.toUInt32 31) = UInt32.ofNat s := by decide
    exact this s (by omega)
  have e2 : (ju x (nI s)).toBitVec = x.toBitVec >>> s := by
    unfold ju
    rw [e1]
    show x.toBitVec >>> ((BitVec.ofNat 32 s) % 32).toNat = _
    have : ((BitVec.ofNat 32 s) % 32#32).toNat = s := by
      have : ∀ s, s < 25 → ((BitVec.ofNat 32 s) % 32#32).toNat = s := by decide
      exact this s (by omega)
    rw [show ((BitVec.ofNat 32 s) % 32).toNat = s from this]
  rw [e2, BitVec.toNat_ushiftRight, Nat.shiftRight_eq_div_pow]
theorem nar_sb (x : Int32) {s : Nat} (hs : s ≤ 24) : am_nar 102 (ju x (nI s)).toInt8.toInt32 = sb (x.toBitVec.toNat / 2 ^ s % 256) := by
  show (ju x (nI s)).toInt8.toInt32.toInt8.toInt32 = _
  rw [Int8.toInt8_toInt32]
  unfold sb
  rw [← fa_byte_low, ju_and x hs]
/-- four bytes more -/
theorem y_take (d : Nat) (x : Int32) {n : Nat} (h1 : i 1 1 = nI n) (hn : n + 4 ≤ 900) : ∃ i', am_cl (d + 1) mTape_take [.ref 1, .int x] (i, l, rX q, kX K) = some (none, (i', l, rX q, kX K)) ∧ Fr [1, 2] i i' ∧ i' 1 1 = nI (n + 4) ∧ (∀ k, k < n → i' 2 k = i 2 k) ∧ ∀ j, j < 4 → i' 2 (n + j) = sb (x.toBitVec.toNat / 2 ^ (24 - 8 * j) % 256) := by
  have step : ∀ (i1 : Nat → Nat → Int32) (j : Nat), j < 4 → i1 1 1 = nI (n + j) → am_Ex d mTape_take 3 [.val (.ref 1), .val (.int x), .val (.int (nI (24 - 8 * j)))] [] (i1, l, rX q, kX K) = am_Ex d mTape_take 3 [.val (.ref 1), .val (.int x), .val (.int (nI (24 - 8 * j) + (-8)))] [] (am_u2 (am_u2 i1 2 (n + j) (sb (x.toBitVec.toNat / 2 ^ (24 - 8 * j) % 256))) 1 1 (nI (n + j + 1)), l, rX q, kX K) := by
    intro i1 j hj e
    have hnar := nar_sb x (s := 24 - 8 * j) (by omega)
    unfold ju at hnar
    rw [b_Tape_take_3, e]
    have c1 : ¬ nI (24 - 8 * j) < (0 : Int32) := by
      show ¬ nI (24 - 8 * j) < nI 0
      rw [q_lt (by omega) (by omega)]; omega
    have c2 : ¬ (900 : Int32) ≤ nI (n + j) := by
      show ¬ nI 900 ≤ nI (n + j)
      rw [q_le (by omega) (by omega)]; omega
    have c3 : am_in (nI (n + j)) 900 = true := by
      unfold am_in
      rw [nI_clamp (by omega), decide_eq_true (show (0 : Int32) ≤ nI (n + j) from by
        show nI 0 ≤ nI (n + j)
        rw [q_le (by omega) (by omega)]; omega), decide_eq_true (by omega)]; rfl
    rw [decide_eq_false c1, cond_false, decide_eq_false c2, cond_false, c3, cond_true, b_Tape_take_40, b_Tape_take_43, nI_clamp (by omega), hnar, show nI (n + j) + (1 : Int32) = nI (n + j + 1) from nI_add _ 1]
  rw [c_Tape_take, b_Tape_take_0]
  have s0 := step i 0 (by omega) h1
  rw [show ((24 : Int32)) = nI (24 - 8 * 0) from rfl, s0, show nI (24 - 8 * 0) + (-8 : Int32) = nI (24 - 8 * 1) from rfl]
  rw [step _ 1 (by omega) rfl, show nI (24 - 8 * 1) + (-8 : Int32) = nI (24 - 8 * 2) from rfl]
  rw [step _ 2 (by omega) rfl, show nI (24 - 8 * 2) + (-8 : Int32) = nI (24 - 8 * 3) from rfl]
  rw [step _ 3 (by omega) rfl, show nI (24 - 8 * 3) + (-8 : Int32) = -nI 8 from rfl]
  rw [b_Tape_take_3, show decide (-nI 8 < (0 : Int32)) = true from rfl, cond_true]
  refine ⟨_, rfl, Fr_u2 rfl (Fr_u2 rfl (Fr_u2 rfl (Fr_u2 rfl (Fr_u2 rfl (Fr_u2 rfl (Fr_u2 rfl (Fr_u2 rfl (Fr_refl _ _)))))))), rfl, fun k hk => ?_, fun j hj => ?_⟩
  · have h0 : ¬ k = n := by omega
    have h1 : ¬ k = n + 1 := by omega
    have h2 : ¬ k = n + 2 := by omega
    have h3 : ¬ k = n + 3 := by omega
    simp [am_u2, h0, h1, h2, h3]
  · rcases c4 hj with rfl | rfl | rfl | rfl <;> simp [am_u2]
theorem y_X_feed (d : Nat) (a b c e f : Int32) (hB : TB σ i) (h900 : σ.2.2.2.1 ≤ 900) : ∃ i', am_cl (d + 2) mX_feed [.ref 0, .int a, .int b, .int c, .int e, .int f] (i, l, rX q, kX K) = some (some (.int (v_feed σ)), (i', l, rX q, kX K)) ∧ Fr [1, 2] i i' ∧ TB (a_feed σ a b c e f) i' := by
  obtain ⟨b1, b2, b3, b4⟩ := id hB
  rw [c_X_feed, b_X_feed_0, v_feed, b1]
  unfold a_feed
  have e20 : nI σ.2.2.2.1 + (20 : Int32) = nI (σ.2.2.2.1 + 20) := nI_add _ 20
  rw [e20]
  by_cases h : σ.2.2.2.1 + 20 ≤ 900
  · rw [if_pos h, if_pos h]
    obtain ⟨n, hn⟩ : ∃ n, σ.2.2.2.1 = n := ⟨_, rfl⟩
    rw [hn] at b1 b2 h ⊢
    obtain ⟨i1, e1, f1, g1, k1, m1⟩ := y_take (i := i) (l := l) (q := q) (K := K) d a b1 (by omega)
    obtain ⟨i2, e2, f2, g2, k2, m2⟩ := y_take (i := i1) (l := l) (q := q) (K := K) d b g1 (by omega)
    obtain ⟨i3, e3, f3, g3, k3, m3⟩ := y_take (i := i2) (l := l) (q := q) (K := K) d c g2 (by omega)
    obtain ⟨i4, e4, f4, g4, k4, m4⟩ := y_take (i := i3) (l := l) (q := q) (K := K) d e g3 (by omega)
    obtain ⟨i5, e5, f5, g5, k5, m5⟩ := y_take (i := i4) (l := l) (q := q) (K := K) d f g4 (by omega)
    have hfr : Fr [1, 2] i i5 := Fr_step f5 rfl (Fr_step f4 rfl (Fr_step f3 rfl (Fr_step f2 rfl f1)))
    rw [decide_eq_true (show nI (n + 20) ≤ (900 : Int32) from by
      show nI (n + 20) ≤ nI 900
      rw [q_le (by omega) (by omega)]; exact h), cond_true, e1, am_bd_some, q_app0, b_X_feed_27, e2, am_bd_some, q_app0, b_X_feed_35, e3, am_bd_some, q_app0, b_X_feed_43, e4, am_bd_some, q_app0, b_X_feed_52, e5, am_bd_some, q_app0, b_X_feed_61, g5]
    refine ⟨i5, rfl, hfr, g5, fun k hk => ?_, by rw [hfr 5 rfl]; exact b3, by rw [hfr 5 rfl]; exact b4⟩
    dsimp only at hk ⊢
    by_cases c0 : n ≤ k ∧ k < n + 20
    · rw [if_pos c0]
      obtain ⟨j, hj, rfl⟩ : ∃ j, j < 20 ∧ k = n + j := ⟨k - n, by omega, by omega⟩
      rw [Nat.add_sub_cancel_left]
      unfold fB fW
      have hm4 : j % 4 < 4 := Nat.mod_lt _ (by decide)
      by_cases j0 : j < 4
      · rw [if_pos j0, k5 _ (by omega), k4 _ (by omega), k3 _ (by omega), k2 _ (by omega), m1 j j0, show j % 4 = j by omega]
      · rw [if_neg j0]
        by_cases j1 : j < 8
        · have e := m2 (j % 4) hm4
          rw [if_pos j1, k5 _ (by omega), k4 _ (by omega), k3 _ (by omega), ← e]
          congr 1; omega
        · rw [if_neg j1]
          by_cases j2 : j < 12
          · have e := m3 (j % 4) hm4
            rw [if_pos j2, k5 _ (by omega), k4 _ (by omega), ← e]
            congr 1; omega
          · rw [if_neg j2]
            by_cases j3 : j < 16
            · have e := m4 (j % 4) hm4
              rw [if_pos j3, k5 _ (by omega), ← e]
              congr 1; omega
            · have e := m5 (j % 4) hm4
              rw [if_neg j3, ← e]
              congr 1; omega
    · rw [if_neg c0, k5 _ (by omega), k4 _ (by omega), k3 _ (by omega), k2 _ (by omega), k1 _ (by omega), b2 k (by omega)]
  · rw [if_neg h, if_neg h]
    refine ⟨i, ?_, Fr_refl _ _, hB⟩
    rw [decide_eq_false (show ¬ nI (σ.2.2.2.1 + 20) ≤ (900 : Int32) from by
      show ¬ nI (σ.2.2.2.1 + 20) ≤ nI 900
      rw [q_le (by omega) (by omega)]; exact h), cond_false]
    rfl
end
