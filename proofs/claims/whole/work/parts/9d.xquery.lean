/-! THE CLASS: calls that ask by the ford alone -/
def YR (ρ : Nat → Nat → Nat) (K : List (Nat × Nat)) (i : Nat → Nat → Int32) (l : Nat → Nat → Int64) (q : Nat → Nat → Option Nat) (v : Option Value) (o : Option aR) : Prop := ∃ i' l' q', o = some (v, (i', l', rX q', kX K)) ∧ FG RF [11] [11] i i' l l' q q' ∧ XF ρ i' l' q' K
theorem kd11 (i : Nat → Nat → Int32) (l : Nat → Nat → Int64) (q : Nat → Nat → Option Nat) (K : List (Nat × Nat)) : Nat.beq (am_kd (i, l, q, kX K) 11) 2 = true := rfl
theorem sEn8 (g : Nat → Nat) (a p r : Nat) : sEn g a p r 8 = sGo g a p r := rfl
section
variable {i i' : Nat → Nat → Int32} {l l' : Nat → Nat → Int64} {q q' : Nat → Nat → Option Nat} {K : List (Nat × Nat)} {r m : Nat} {g : Nat → Nat} {ρ : Nat → Nat → Nat}
theorem YR_some {v : Option Value} (h : FG RF [11] [11] i i' l l' q q') (hF : XF ρ i' l' q' K) : YR ρ K i l q v (some (v, (i', l', rX q', kX K))) := ⟨i', l', q', rfl, h, hF⟩
theorem YR_0 {v : Option Value} (hF : XF ρ i l q K) : YR ρ K i l q v (some (v, (i, l, rX q, kX K))) := ⟨i, l, q, rfl, FG_refl _ _ _ _ _ _, hF⟩
theorem y_X_person (d : Nat) (x y : Int32) (hC : CV ρ r g m i l q K) (hF : XF ρ i l q K) : YR ρ K i l q (some (.int (v_person g x y))) (am_cl (d + 6) mX_person [.ref 0, .int x, .int y] (i, l, rX q, kX K)) := by
  obtain ⟨a1, a2, hW, a4, a5, a6⟩ := id hC
  have a1 : rX q 0 2 = some r := a1
  obtain ⟨fP, fS, fL, fE, fF, fB, fU, fV, fK, fW, hk, ra, ra1, ra2, ra3⟩ := CV_f a2 hW
  obtain ⟨fN, fO, fT, fD⟩ := RM_f a6 hW
  have h1 : g 1 ≤ 6 := hW.1.2
  have h2 : g 2 ≤ 4 := hW.2.1
  have hR : ∀ p, p < 4 → g (10 + p) ≤ 4 := hW.2.2.2.1
  have hP : ∀ p, p < 4 → g (18 + p) < 8 := hW.2.2.2.2.2.1
  have hSt : ∀ p, p < 4 → g (22 + p) ≤ 9 := hW.2.2.2.2.2.2.1
  have hn := sNow_lt g hP 4 (by decide)
  have hvs : VS g (sNow g 4) := hW.2.2.2.2.2.2.2.2.2.2
  rw [c_X_person, b_X_person_0, v_person]
  by_cases hx : iB x (g 2) = true
  · have hx' := hx
    obtain ⟨p, hp, rfl⟩ := iB_T hx'
    have hp4 : p < 4 := by omega
    have e5 := ra3 p hp4
    by_cases y0 : y = nI 0
    · subst y0
      simp (disch := first | assumption | omega) only [b_X_person_0, b_X_person_8, b_X_person_56, b_X_person_75, b_X_person_94, b_X_person_101, b_X_person_116, ↓Bool.cond_decide, ↓q_in, q_le, q_lt, q_eq, q_leT, q_leF, q_ltT, q_ltF, q_eqT, q_eqF, ↓reduceIte, not_true_eq_false, not_false_eq_true, true_and, and_true, and_self, false_and, and_false, Nat.zero_le, am_bd_some, q_app, q_app0, nI_add, pk_sub, pk_mul, q_dec, q_ix, q_m1, q_m1', ↓q_ret, q_bool, q_bool1, q_u2, q_u1, q_shl1, q_shr, q_and7, q_dg, fa_or, fa_and, decide_true, decide_false, Bool.or_false, Bool.or_true, Bool.true_or, Bool.false_or, cond_true, cond_false, ite_not, q_some, q_nn, q_xor, q_xorm, Bool.false_eq_true, decide_eq_true_eq, ne_eq, l_0, l_1, l_2, l_3, l_4, l_5, l_6, l_8, l_13, l_39, l_56, l_75, l_94, l_100, l_101, l_116, hx, a1, a5, hk, fP, fS, fL, fE, fF, fB, fU, fV, fK, fW, fN, fO, fT, fD, ra1, ra2, cond_true, Bool.and_true, kd11]
      exact YR_0 hF
    by_cases y1 : y = nI 1
    · subst y1
      simp (disch := first | assumption | omega) only [b_X_person_0, b_X_person_8, b_X_person_56, b_X_person_75, b_X_person_94, b_X_person_101, b_X_person_116, ↓Bool.cond_decide, ↓q_in, q_le, q_lt, q_eq, q_leT, q_leF, q_ltT, q_ltF, q_eqT, q_eqF, ↓reduceIte, not_true_eq_false, not_false_eq_true, true_and, and_true, and_self, false_and, and_false, Nat.zero_le, am_bd_some, q_app, q_app0, nI_add, pk_sub, pk_mul, q_dec, q_ix, q_m1, q_m1', ↓q_ret, q_bool, q_bool1, q_u2, q_u1, q_shl1, q_shr, q_and7, q_dg, fa_or, fa_and, decide_true, decide_false, Bool.or_false, Bool.or_true, Bool.true_or, Bool.false_or, cond_true, cond_false, ite_not, q_some, q_nn, q_xor, q_xorm, Bool.false_eq_true, decide_eq_true_eq, ne_eq, l_0, l_1, l_2, l_3, l_4, l_5, l_6, l_8, l_13, l_39, l_56, l_75, l_94, l_100, l_101, l_116, hx, e5, a1, a5, hk, fP, fS, fL, fE, fF, fB, fU, fV, fK, fW, fN, fO, fT, fD, ra1, ra2, cond_true, Bool.and_true, kd11]
      exact YR_0 hF
    by_cases y2 : y = nI 2
    · subst y2
      simp (disch := first | assumption | omega) only [b_X_person_0, b_X_person_8, b_X_person_56, b_X_person_75, b_X_person_94, b_X_person_101, b_X_person_116, ↓Bool.cond_decide, ↓q_in, q_le, q_lt, q_eq, q_leT, q_leF, q_ltT, q_ltF, q_eqT, q_eqF, ↓reduceIte, not_true_eq_false, not_false_eq_true, true_and, and_true, and_self, false_and, and_false, Nat.zero_le, am_bd_some, q_app, q_app0, nI_add, pk_sub, pk_mul, q_dec, q_ix, q_m1, q_m1', ↓q_ret, q_bool, q_bool1, q_u2, q_u1, q_shl1, q_shr, q_and7, q_dg, fa_or, fa_and, decide_true, decide_false, Bool.or_false, Bool.or_true, Bool.true_or, Bool.false_or, cond_true, cond_false, ite_not, q_some, q_nn, q_xor, q_xorm, Bool.false_eq_true, decide_eq_true_eq, ne_eq, l_0, l_1, l_2, l_3, l_4, l_5, l_6, l_8, l_13, l_39, l_56, l_75, l_94, l_100, l_101, l_116, hx, a1, a5, hk, fP, fS, fL, fE, fF, fB, fU, fV, fK, fW, fN, fO, fT, fD, ra1, ra2, cond_true, Bool.and_true, kd11]
      exact YR_0 hF
    by_cases y3 : y = nI 3
    · subst y3
      obtain ⟨_, _, _, _, _, _, _, ⟨x6, x61, x62, x63, x64, x65⟩, _⟩ := a2
      have x61 : rX q r 6 = some x6 := x61
      have x66 : ∀ y, (Nat.beq (am_kd (i, l, rX q, kX K) x6) 100 && am_in y (am_ln (i, l, rX q, kX K) x6)) = am_in y 4 := fun y => by rw [x62, x63]; rfl
      have x67 : i x6 p = nI (g (14 + p)) := x65 p hp4
      simp (disch := first | assumption | omega) only [b_X_person_0, b_X_person_8, b_X_person_56, b_X_person_75, b_X_person_94, b_X_person_101, b_X_person_116, ↓Bool.cond_decide, ↓q_in, q_le, q_lt, q_eq, q_leT, q_leF, q_ltT, q_ltF, q_eqT, q_eqF, ↓reduceIte, not_true_eq_false, not_false_eq_true, true_and, and_true, and_self, false_and, and_false, Nat.zero_le, am_bd_some, q_app, q_app0, nI_add, pk_sub, pk_mul, q_dec, q_ix, q_m1, q_m1', ↓q_ret, q_bool, q_bool1, q_u2, q_u1, q_shl1, q_shr, q_and7, q_dg, fa_or, fa_and, decide_true, decide_false, Bool.or_false, Bool.or_true, Bool.true_or, Bool.false_or, cond_true, cond_false, ite_not, q_some, q_nn, q_xor, q_xorm, Bool.false_eq_true, decide_eq_true_eq, ne_eq, l_0, l_1, l_2, l_3, l_4, l_5, l_6, l_8, l_13, l_39, l_56, l_75, l_94, l_100, l_101, l_116, hx, x61, x66, x67, a1, a5, hk, fP, fS, fL, fE, fF, fB, fU, fV, fK, fW, fN, fO, fT, fD, ra1, ra2, cond_true, Bool.and_true, kd11]
      exact YR_0 hF
    by_cases y4 : y = nI 4
    · subst y4
      have hR4 := hR p hp4
      obtain ⟨i1, l1, q1, e1, hf1, hA1⟩ := y_fordAt (d + 2) hC hF (gE_refl g) a6
      simp (disch := first | assumption | omega) only [b_X_person_0, b_X_person_8, b_X_person_56, b_X_person_75, b_X_person_94, b_X_person_116, ↓Bool.cond_decide, ↓q_in, q_le, q_lt, q_eq, q_leT, q_leF, q_ltT, q_ltF, q_eqT, q_eqF, ↓reduceIte, not_true_eq_false, not_false_eq_true, true_and, and_true, and_self, false_and, and_false, Nat.zero_le, am_bd_some, q_app, q_app0, nI_add, pk_sub, pk_mul, q_dec, q_ix, q_m1, q_m1', ↓q_ret, q_bool, q_bool1, q_u2, q_u1, q_shl1, q_shr, q_and7, q_dg, fa_or, fa_and, decide_true, decide_false, Bool.or_false, Bool.or_true, Bool.true_or, Bool.false_or, cond_true, cond_false, ite_not, q_some, q_nn, q_xor, q_xorm, Bool.false_eq_true, decide_eq_true_eq, ne_eq, l_0, l_1, l_2, l_3, l_4, l_5, l_6, l_8, l_13, l_39, l_56, l_75, l_94, l_100, l_101, l_116, hx, e1, a1, a5, hk, fP, fS, fL, fE, fF, fB, fU, fV, fK, fW, fN, fO, fT, fD, ra1, ra2, cond_true, Bool.and_true, kd11]
      obtain ⟨a1, a2, _, a4, a5, _⟩ := CV_ff hf1 hC
      have a1 : rX q1 0 2 = some r := a1
      obtain ⟨fP, fS, fL, fE, fF, fB, fU, fV, fK, fW, hk, ra, ra1, ra2, ra3⟩ := CV_f a2 hW
      have e5 := ra3 p hp4
      obtain ⟨i2, e2, hf2, hA2⟩ := y_spread (d + 1) a2 hW hA1 hp hn (show g (10 + p) ≤ 9 by omega) (show 8 ≤ 8 by decide) hvs
      rw [sEn8] at e2
      simp (disch := first | assumption | omega) only [b_X_person_0, b_X_person_8, b_X_person_56, b_X_person_75, b_X_person_94, b_X_person_101, b_X_person_116, ↓Bool.cond_decide, ↓q_in, q_le, q_lt, q_eq, q_leT, q_leF, q_ltT, q_ltF, q_eqT, q_eqF, ↓reduceIte, not_true_eq_false, not_false_eq_true, true_and, and_true, and_self, false_and, and_false, Nat.zero_le, am_bd_some, q_app, q_app0, nI_add, pk_sub, pk_mul, q_dec, q_ix, q_m1, q_m1', ↓q_ret, q_bool, q_bool1, q_u2, q_u1, q_shl1, q_shr, q_and7, q_dg, fa_or, fa_and, decide_true, decide_false, Bool.or_false, Bool.or_true, Bool.true_or, Bool.false_or, cond_true, cond_false, ite_not, q_some, q_nn, q_xor, q_xorm, Bool.false_eq_true, decide_eq_true_eq, ne_eq, l_0, l_1, l_2, l_3, l_4, l_5, l_6, l_8, l_13, l_39, l_56, l_75, l_94, l_100, l_101, l_116, e5, e2, a1, a5, hk, fP, fS, fL, fE, fF, fB, fU, fV, fK, fW, fN, fO, fT, fD, ra1, ra2, cond_true, Bool.and_true, kd11]
      exact YR_some (FG_i hf1 hf2 rfl) (XF_of (CV_ff (FG_i hf1 hf2 rfl) hC) hA2 (gE_refl g) hW)
    simp (disch := first | assumption | omega) only [b_X_person_0, b_X_person_8, b_X_person_56, b_X_person_75, b_X_person_94, b_X_person_101, b_X_person_116, ↓Bool.cond_decide, ↓q_in, q_le, q_lt, q_eq, q_leT, q_leF, q_ltT, q_ltF, q_eqT, q_eqF, ↓reduceIte, not_true_eq_false, not_false_eq_true, true_and, and_true, and_self, false_and, and_false, Nat.zero_le, am_bd_some, q_app, q_app0, nI_add, pk_sub, pk_mul, q_dec, q_ix, q_m1, q_m1', ↓q_ret, q_bool, q_bool1, q_u2, q_u1, q_shl1, q_shr, q_and7, q_dg, fa_or, fa_and, decide_true, decide_false, Bool.or_false, Bool.or_true, Bool.true_or, Bool.false_or, cond_true, cond_false, ite_not, q_some, q_nn, q_xor, q_xorm, Bool.false_eq_true, decide_eq_true_eq, ne_eq, l_0, l_1, l_2, l_3, l_4, l_5, l_6, l_8, l_13, l_39, l_56, l_75, l_94, l_100, l_101, l_116, hx, y0, y1, y2, y3, y4, a1, a5, hk, fP, fS, fL, fE, fF, fB, fU, fV, fK, fW, fN, fO, fT, fD, ra1, ra2, cond_true, Bool.and_true, kd11]
    exact YR_0 hF
  · simp (disch := first | assumption | omega) only [b_X_person_0, b_X_person_8, b_X_person_56, b_X_person_75, b_X_person_94, b_X_person_101, b_X_person_116, ↓Bool.cond_decide, ↓q_in, q_le, q_lt, q_eq, q_leT, q_leF, q_ltT, q_ltF, q_eqT, q_eqF, ↓reduceIte, not_true_eq_false, not_false_eq_true, true_and, and_true, and_self, false_and, and_false, Nat.zero_le, am_bd_some, q_app, q_app0, nI_add, pk_sub, pk_mul, q_dec, q_ix, q_m1, q_m1', ↓q_ret, q_bool, q_bool1, q_u2, q_u1, q_shl1, q_shr, q_and7, q_dg, fa_or, fa_and, decide_true, decide_false, Bool.or_false, Bool.or_true, Bool.true_or, Bool.false_or, cond_true, cond_false, ite_not, q_some, q_nn, q_xor, q_xorm, Bool.false_eq_true, decide_eq_true_eq, ne_eq, l_0, l_1, l_2, l_3, l_4, l_5, l_6, l_8, l_13, l_39, l_56, l_75, l_94, l_100, l_101, l_116, hx, a1, a5, hk, fP, fS, fL, fE, fF, fB, fU, fV, fK, fW, fN, fO, fT, fD, ra1, ra2, cond_true, Bool.and_true, kd11]
    exact YR_0 hF
theorem y_X_spot (d : Nat) (x y : Int32) (hC : CV ρ r g m i l q K) (hF : XF ρ i l q K) : YR ρ K i l q (some (.int (v_spot g x y))) (am_cl (d + 4) mX_spot [.ref 0, .int x, .int y] (i, l, rX q, kX K)) := by
  obtain ⟨a1, a2, hW, a4, a5, a6⟩ := id hC
  have a1 : rX q 0 2 = some r := a1
  obtain ⟨fP, fS, fL, fE, fF, fB, fU, fV, fK, fW, hk, ra, ra1, ra2, ra3⟩ := CV_f a2 hW
  obtain ⟨fN, fO, fT, fD⟩ := RM_f a6 hW
  have h1 : g 1 ≤ 6 := hW.1.2
  have h2 : g 2 ≤ 4 := hW.2.1
  have hR : ∀ p, p < 4 → g (10 + p) ≤ 4 := hW.2.2.2.1
  have hP : ∀ p, p < 4 → g (18 + p) < 8 := hW.2.2.2.2.2.1
  have hSt : ∀ p, p < 4 → g (22 + p) ≤ 9 := hW.2.2.2.2.2.2.1
  have hn := sNow_lt g hP 4 (by decide)
  have hvs : VS g (sNow g 4) := hW.2.2.2.2.2.2.2.2.2.2
  rw [c_X_spot, b_X_spot_0, v_spot]
  have hy01 : iR 0 1 y = true ↔ (y = nI 0 ∨ y = nI 1) := by
    constructor
    · intro h
      obtain ⟨t, h1, h2, rfl⟩ := iR_T h
      rcases (show t = 0 ∨ t = 1 by omega) with rfl | rfl
      · exact Or.inl rfl
      · exact Or.inr rfl
    · rintro (rfl | rfl) <;> decide
  by_cases hx : iS g x = true
  · have hx' := hx
    obtain ⟨p, hp1, hp2, rfl⟩ := iS_T hx'
    have hs : sSpot g p = true := by rw [← iS_nI (g := g) (p := p) (by omega)]; exact hx
    by_cases y0 : y = nI 0
    · have hy := hy01.mpr (Or.inl y0)
      subst y0
      simp (disch := first | assumption | omega) only [b_X_spot_0, b_X_spot_8, b_X_spot_26, b_X_spot_43, b_X_spot_47, b_X_spot_52, ↓Bool.cond_decide, ↓q_in, q_le, q_lt, q_eq, q_leT, q_leF, q_ltT, q_ltF, q_eqT, q_eqF, ↓reduceIte, not_true_eq_false, not_false_eq_true, true_and, and_true, and_self, false_and, and_false, Nat.zero_le, am_bd_some, q_app, q_app0, nI_add, pk_sub, pk_mul, q_dec, q_ix, q_m1, q_m1', ↓q_ret, q_bool, q_bool1, q_u2, q_u1, q_shl1, q_shr, q_and7, q_dg, fa_or, fa_and, decide_true, decide_false, Bool.or_false, Bool.or_true, Bool.true_or, Bool.false_or, cond_true, cond_false, ite_not, q_some, q_nn, q_xor, q_xorm, Bool.false_eq_true, decide_eq_true_eq, ne_eq, l_0, l_1, l_2, l_3, l_4, l_6, l_8, l_24, l_26, l_43, l_47, l_52, hx, hy, a1, a5, hk, fP, fS, fL, fE, fF, fB, fU, fV, fK, fW, fN, fO, fT, fD, ra1, ra2, cond_true, Bool.and_true, kd11]
      exact YR_0 hF
    by_cases y1 : y = nI 1
    · have hy := hy01.mpr (Or.inr y1)
      subst y1
      simp (disch := first | assumption | omega) only [b_X_spot_0, b_X_spot_8, b_X_spot_26, b_X_spot_43, b_X_spot_47, b_X_spot_52, ↓Bool.cond_decide, ↓q_in, q_le, q_lt, q_eq, q_leT, q_leF, q_ltT, q_ltF, q_eqT, q_eqF, ↓reduceIte, not_true_eq_false, not_false_eq_true, true_and, and_true, and_self, false_and, and_false, Nat.zero_le, am_bd_some, q_app, q_app0, nI_add, pk_sub, pk_mul, q_dec, q_ix, q_m1, q_m1', ↓q_ret, q_bool, q_bool1, q_u2, q_u1, q_shl1, q_shr, q_and7, q_dg, fa_or, fa_and, decide_true, decide_false, Bool.or_false, Bool.or_true, Bool.true_or, Bool.false_or, cond_true, cond_false, ite_not, q_some, q_nn, q_xor, q_xorm, Bool.false_eq_true, decide_eq_true_eq, ne_eq, l_0, l_1, l_2, l_3, l_4, l_6, l_8, l_24, l_26, l_43, l_47, l_52, hx, hy, hs, a1, a5, hk, fP, fS, fL, fE, fF, fB, fU, fV, fK, fW, fN, fO, fT, fD, ra1, ra2, cond_true, Bool.and_true, kd11]
      exact YR_0 hF
    have hy : ¬ iR 0 1 y = true := fun z => by
      rcases hy01.mp z with h | h
      · exact y0 h
      · exact y1 h
    simp (disch := first | assumption | omega) only [b_X_spot_0, b_X_spot_8, b_X_spot_26, b_X_spot_43, b_X_spot_47, b_X_spot_52, ↓Bool.cond_decide, ↓q_in, q_le, q_lt, q_eq, q_leT, q_leF, q_ltT, q_ltF, q_eqT, q_eqF, ↓reduceIte, not_true_eq_false, not_false_eq_true, true_and, and_true, and_self, false_and, and_false, Nat.zero_le, am_bd_some, q_app, q_app0, nI_add, pk_sub, pk_mul, q_dec, q_ix, q_m1, q_m1', ↓q_ret, q_bool, q_bool1, q_u2, q_u1, q_shl1, q_shr, q_and7, q_dg, fa_or, fa_and, decide_true, decide_false, Bool.or_false, Bool.or_true, Bool.true_or, Bool.false_or, cond_true, cond_false, ite_not, q_some, q_nn, q_xor, q_xorm, Bool.false_eq_true, decide_eq_true_eq, ne_eq, l_0, l_1, l_2, l_3, l_4, l_6, l_8, l_24, l_26, l_43, l_47, l_52, hx, hy, y0, y1, a1, a5, hk, fP, fS, fL, fE, fF, fB, fU, fV, fK, fW, fN, fO, fT, fD, ra1, ra2, cond_true, Bool.and_true, kd11]
    exact YR_0 hF
  · simp (disch := first | assumption | omega) only [b_X_spot_0, b_X_spot_8, b_X_spot_26, b_X_spot_43, b_X_spot_47, b_X_spot_52, ↓Bool.cond_decide, ↓q_in, q_le, q_lt, q_eq, q_leT, q_leF, q_ltT, q_ltF, q_eqT, q_eqF, ↓reduceIte, not_true_eq_false, not_false_eq_true, true_and, and_true, and_self, false_and, and_false, Nat.zero_le, am_bd_some, q_app, q_app0, nI_add, pk_sub, pk_mul, q_dec, q_ix, q_m1, q_m1', ↓q_ret, q_bool, q_bool1, q_u2, q_u1, q_shl1, q_shr, q_and7, q_dg, fa_or, fa_and, decide_true, decide_false, Bool.or_false, Bool.or_true, Bool.true_or, Bool.false_or, cond_true, cond_false, ite_not, q_some, q_nn, q_xor, q_xorm, Bool.false_eq_true, decide_eq_true_eq, ne_eq, l_0, l_1, l_2, l_3, l_4, l_6, l_8, l_24, l_26, l_43, l_47, l_52, hx, a1, a5, hk, fP, fS, fL, fE, fF, fB, fU, fV, fK, fW, fN, fO, fT, fD, ra1, ra2, cond_true, Bool.and_true, kd11]
    exact YR_0 hF
theorem rg_z (a b : Nat) (z : Int32) (ha : a < 1000) (hb : b < 1000) : iR a b z = true ↔ (¬ z < nI a ∧ z ≤ nI b) := by
  unfold iR
  rw [decide_eq_true_eq, fa_lt, fa_le, nI_toInt (by omega), nI_toInt (by omega)]
  omega
theorem y_X_trusts (d : Nat) (x y z : Int32) (hC : CV ρ r g m i l q K) (hF : XF ρ i l q K) : YR ρ K i l q (some (.int (v_trusts g x y z))) (am_cl (d + 4) mX_trusts [.ref 0, .int x, .int y, .int z] (i, l, rX q, kX K)) := by
  obtain ⟨a1, a2, hW, a4, a5, a6⟩ := id hC
  have a1 : rX q 0 2 = some r := a1
  obtain ⟨fP, fS, fL, fE, fF, fB, fU, fV, fK, fW, hk, ra, ra1, ra2, ra3⟩ := CV_f a2 hW
  obtain ⟨fN, fO, fT, fD⟩ := RM_f a6 hW
  have h1 : g 1 ≤ 6 := hW.1.2
  have h2 : g 2 ≤ 4 := hW.2.1
  have hR : ∀ p, p < 4 → g (10 + p) ≤ 4 := hW.2.2.2.1
  have hP : ∀ p, p < 4 → g (18 + p) < 8 := hW.2.2.2.2.2.1
  have hSt : ∀ p, p < 4 → g (22 + p) ≤ 9 := hW.2.2.2.2.2.2.1
  have hn := sNow_lt g hP 4 (by decide)
  have hvs : VS g (sNow g 4) := hW.2.2.2.2.2.2.2.2.2.2
  rw [c_X_trusts, b_X_trusts_0, v_trusts]
  by_cases hx : iB x (g 2) = true
  · by_cases hy : iB y (g 2) = true
    · by_cases hxy : x = y
      · subst hxy
        simp (disch := first | assumption | omega) only [b_X_trusts_0, b_X_trusts_8, b_X_trusts_19, b_X_trusts_27, b_X_trusts_40, b_X_trusts_51, b_X_trusts_57, b_X_trusts_65, ↓Bool.cond_decide, ↓q_in, q_le, q_lt, q_eq, q_leT, q_leF, q_ltT, q_ltF, q_eqT, q_eqF, ↓reduceIte, not_true_eq_false, not_false_eq_true, true_and, and_true, and_self, false_and, and_false, Nat.zero_le, am_bd_some, q_app, q_app0, nI_add, pk_sub, pk_mul, q_dec, q_ix, q_m1, q_m1', ↓q_ret, q_bool, q_bool1, q_u2, q_u1, q_shl1, q_shr, q_and7, q_dg, fa_or, fa_and, decide_true, decide_false, Bool.or_false, Bool.or_true, Bool.true_or, Bool.false_or, cond_true, cond_false, ite_not, q_some, q_nn, q_xor, q_xorm, Bool.false_eq_true, decide_eq_true_eq, ne_eq, l_0, l_1, l_2, l_3, l_4, l_6, l_8, l_10, l_19, l_20, l_27, l_40, l_51, l_57, l_65, hx, a1, a5, hk, fP, fS, fL, fE, fF, fB, fU, fV, fK, fW, fN, fO, fT, fD, ra1, ra2, cond_true, Bool.and_true, kd11]
        exact YR_0 hF
      · by_cases hz : iR 1 4 z = true
        · obtain ⟨i1, l1, q1, e1, hf1, hA1⟩ := y_fordAt d hC hF (gE_refl g) a6
          obtain ⟨z1, z2⟩ := (rg_z 1 4 z (by decide) (by decide)).mp hz
          simp (disch := first | assumption | omega) only [b_X_trusts_0, b_X_trusts_8, b_X_trusts_19, b_X_trusts_27, b_X_trusts_40, b_X_trusts_57, b_X_trusts_65, ↓Bool.cond_decide, ↓q_in, q_le, q_lt, q_eq, q_leT, q_leF, q_ltT, q_ltF, q_eqT, q_eqF, ↓reduceIte, not_true_eq_false, not_false_eq_true, true_and, and_true, and_self, false_and, and_false, Nat.zero_le, am_bd_some, q_app, q_app0, nI_add, pk_sub, pk_mul, q_dec, q_ix, q_m1, q_m1', ↓q_ret, q_bool, q_bool1, q_u2, q_u1, q_shl1, q_shr, q_and7, q_dg, fa_or, fa_and, decide_true, decide_false, Bool.or_false, Bool.or_true, Bool.true_or, Bool.false_or, cond_true, cond_false, ite_not, q_some, q_nn, q_xor, q_xorm, Bool.false_eq_true, decide_eq_true_eq, ne_eq, l_0, l_1, l_2, l_3, l_4, l_6, l_8, l_10, l_19, l_20, l_27, l_40, l_51, l_57, l_65, hx, hy, hxy, hz, z1, z2, e1, a1, a5, hk, fP, fS, fL, fE, fF, fB, fU, fV, fK, fW, fN, fO, fT, fD, ra1, ra2, cond_true, Bool.and_true, kd11]
          obtain ⟨p, hp, rfl⟩ := iB_T hx
          obtain ⟨o, ho, rfl⟩ := iB_T hy
          obtain ⟨n, hn1, hn2, rfl⟩ := iR_T hz
          obtain ⟨a1, a2, _, a4, a5, _⟩ := CV_ff hf1 hC
          have a1 : rX q1 0 2 = some r := a1
          obtain ⟨fP, fS, fL, fE, fF, fB, fU, fV, fK, fW, hk, ra, ra1, ra2, ra3⟩ := CV_f a2 hW
          obtain ⟨i2, e2, hf2, hA2⟩ := y_trusting (d + 1) (p := p) (o := o) (gap := n) a2 hW hA1 (by omega) (by omega) (by omega)
          have done : ∀ v, YR ρ K i l q v (some (v, (i2, l1, rX q1, kX K))) := fun v => YR_some (FG_i hf1 hf2 rfl) (XF_of (CV_ff (FG_i hf1 hf2 rfl) hC) hA2 (gE_refl g) hW)
          rw [b_X_trusts_51]
          cases ht : sTrust g p o n with
          | true =>
            rw [ht] at e2
            simp (disch := first | assumption | omega) only [b_X_trusts_0, b_X_trusts_8, b_X_trusts_19, b_X_trusts_27, b_X_trusts_40, b_X_trusts_51, b_X_trusts_57, b_X_trusts_65, ↓Bool.cond_decide, ↓q_in, q_le, q_lt, q_eq, q_leT, q_leF, q_ltT, q_ltF, q_eqT, q_eqF, ↓reduceIte, not_true_eq_false, not_false_eq_true, true_and, and_true, and_self, false_and, and_false, Nat.zero_le, am_bd_some, q_app, q_app0, nI_add, pk_sub, pk_mul, q_dec, q_ix, q_m1, q_m1', ↓q_ret, q_bool, q_bool1, q_u2, q_u1, q_shl1, q_shr, q_and7, q_dg, fa_or, fa_and, decide_true, decide_false, Bool.or_false, Bool.or_true, Bool.true_or, Bool.false_or, cond_true, cond_false, ite_not, q_some, q_nn, q_xor, q_xorm, Bool.false_eq_true, decide_eq_true_eq, ne_eq, l_0, l_1, l_2, l_3, l_4, l_6, l_8, l_10, l_19, l_20, l_27, l_40, l_51, l_57, l_65, e2, ht, a1, a5, hk, fP, fS, fL, fE, fF, fB, fU, fV, fK, fW, fN, fO, fT, fD, ra1, ra2, cond_true, Bool.and_true, kd11]
            exact done _
          | false =>
            rw [ht] at e2
            simp (disch := first | assumption | omega) only [b_X_trusts_0, b_X_trusts_8, b_X_trusts_19, b_X_trusts_27, b_X_trusts_40, b_X_trusts_51, b_X_trusts_57, b_X_trusts_65, ↓Bool.cond_decide, ↓q_in, q_le, q_lt, q_eq, q_leT, q_leF, q_ltT, q_ltF, q_eqT, q_eqF, ↓reduceIte, not_true_eq_false, not_false_eq_true, true_and, and_true, and_self, false_and, and_false, Nat.zero_le, am_bd_some, q_app, q_app0, nI_add, pk_sub, pk_mul, q_dec, q_ix, q_m1, q_m1', ↓q_ret, q_bool, q_bool1, q_u2, q_u1, q_shl1, q_shr, q_and7, q_dg, fa_or, fa_and, decide_true, decide_false, Bool.or_false, Bool.or_true, Bool.true_or, Bool.false_or, cond_true, cond_false, ite_not, q_some, q_nn, q_xor, q_xorm, Bool.false_eq_true, decide_eq_true_eq, ne_eq, l_0, l_1, l_2, l_3, l_4, l_6, l_8, l_10, l_19, l_20, l_27, l_40, l_51, l_57, l_65, e2, ht, a1, a5, hk, fP, fS, fL, fE, fF, fB, fU, fV, fK, fW, fN, fO, fT, fD, ra1, ra2, cond_true, Bool.and_true, kd11]
            exact done _
        · by_cases z1 : z < nI 1
          · simp (disch := first | assumption | omega) only [b_X_trusts_0, b_X_trusts_8, b_X_trusts_19, b_X_trusts_27, b_X_trusts_40, b_X_trusts_51, b_X_trusts_57, b_X_trusts_65, ↓Bool.cond_decide, ↓q_in, q_le, q_lt, q_eq, q_leT, q_leF, q_ltT, q_ltF, q_eqT, q_eqF, ↓reduceIte, not_true_eq_false, not_false_eq_true, true_and, and_true, and_self, false_and, and_false, Nat.zero_le, am_bd_some, q_app, q_app0, nI_add, pk_sub, pk_mul, q_dec, q_ix, q_m1, q_m1', ↓q_ret, q_bool, q_bool1, q_u2, q_u1, q_shl1, q_shr, q_and7, q_dg, fa_or, fa_and, decide_true, decide_false, Bool.or_false, Bool.or_true, Bool.true_or, Bool.false_or, cond_true, cond_false, ite_not, q_some, q_nn, q_xor, q_xorm, Bool.false_eq_true, decide_eq_true_eq, ne_eq, l_0, l_1, l_2, l_3, l_4, l_6, l_8, l_10, l_19, l_20, l_27, l_40, l_51, l_57, l_65, hx, hy, hxy, hz, z1, a1, a5, hk, fP, fS, fL, fE, fF, fB, fU, fV, fK, fW, fN, fO, fT, fD, ra1, ra2, cond_true, Bool.and_true, kd11]
            exact YR_0 hF
          · have z2 : ¬ z ≤ nI 4 := fun z2 => hz ((rg_z 1 4 z (by decide) (by decide)).mpr ⟨z1, z2⟩)
            simp (disch := first | assumption | omega) only [b_X_trusts_0, b_X_trusts_8, b_X_trusts_19, b_X_trusts_27, b_X_trusts_40, b_X_trusts_51, b_X_trusts_57, b_X_trusts_65, ↓Bool.cond_decide, ↓q_in, q_le, q_lt, q_eq, q_leT, q_leF, q_ltT, q_ltF, q_eqT, q_eqF, ↓reduceIte, not_true_eq_false, not_false_eq_true, true_and, and_true, and_self, false_and, and_false, Nat.zero_le, am_bd_some, q_app, q_app0, nI_add, pk_sub, pk_mul, q_dec, q_ix, q_m1, q_m1', ↓q_ret, q_bool, q_bool1, q_u2, q_u1, q_shl1, q_shr, q_and7, q_dg, fa_or, fa_and, decide_true, decide_false, Bool.or_false, Bool.or_true, Bool.true_or, Bool.false_or, cond_true, cond_false, ite_not, q_some, q_nn, q_xor, q_xorm, Bool.false_eq_true, decide_eq_true_eq, ne_eq, l_0, l_1, l_2, l_3, l_4, l_6, l_8, l_10, l_19, l_20, l_27, l_40, l_51, l_57, l_65, hx, hy, hxy, hz, z1, z2, a1, a5, hk, fP, fS, fL, fE, fF, fB, fU, fV, fK, fW, fN, fO, fT, fD, ra1, ra2, cond_true, Bool.and_true, kd11]
            exact YR_0 hF
    · simp (disch := first | assumption | omega) only [b_X_trusts_0, b_X_trusts_8, b_X_trusts_19, b_X_trusts_27, b_X_trusts_40, b_X_trusts_51, b_X_trusts_57, b_X_trusts_65, ↓Bool.cond_decide, ↓q_in, q_le, q_lt, q_eq, q_leT, q_leF, q_ltT, q_ltF, q_eqT, q_eqF, ↓reduceIte, not_true_eq_false, not_false_eq_true, true_and, and_true, and_self, false_and, and_false, Nat.zero_le, am_bd_some, q_app, q_app0, nI_add, pk_sub, pk_mul, q_dec, q_ix, q_m1, q_m1', ↓q_ret, q_bool, q_bool1, q_u2, q_u1, q_shl1, q_shr, q_and7, q_dg, fa_or, fa_and, decide_true, decide_false, Bool.or_false, Bool.or_true, Bool.true_or, Bool.false_or, cond_true, cond_false, ite_not, q_some, q_nn, q_xor, q_xorm, Bool.false_eq_true, decide_eq_true_eq, ne_eq, l_0, l_1, l_2, l_3, l_4, l_6, l_8, l_10, l_19, l_20, l_27, l_40, l_51, l_57, l_65, hx, hy, a1, a5, hk, fP, fS, fL, fE, fF, fB, fU, fV, fK, fW, fN, fO, fT, fD, ra1, ra2, cond_true, Bool.and_true, kd11]
      exact YR_0 hF
  · simp (disch := first | assumption | omega) only [b_X_trusts_0, b_X_trusts_8, b_X_trusts_19, b_X_trusts_27, b_X_trusts_40, b_X_trusts_51, b_X_trusts_57, b_X_trusts_65, ↓Bool.cond_decide, ↓q_in, q_le, q_lt, q_eq, q_leT, q_leF, q_ltT, q_ltF, q_eqT, q_eqF, ↓reduceIte, not_true_eq_false, not_false_eq_true, true_and, and_true, and_self, false_and, and_false, Nat.zero_le, am_bd_some, q_app, q_app0, nI_add, pk_sub, pk_mul, q_dec, q_ix, q_m1, q_m1', ↓q_ret, q_bool, q_bool1, q_u2, q_u1, q_shl1, q_shr, q_and7, q_dg, fa_or, fa_and, decide_true, decide_false, Bool.or_false, Bool.or_true, Bool.true_or, Bool.false_or, cond_true, cond_false, ite_not, q_some, q_nn, q_xor, q_xorm, Bool.false_eq_true, decide_eq_true_eq, ne_eq, l_0, l_1, l_2, l_3, l_4, l_6, l_8, l_10, l_19, l_20, l_27, l_40, l_51, l_57, l_65, hx, a1, a5, hk, fP, fS, fL, fE, fF, fB, fU, fV, fK, fW, fN, fO, fT, fD, ra1, ra2, cond_true, Bool.and_true, kd11]
    exact YR_0 hF
theorem iR10 (x : Int32) : iR 0 9 x = iB x 10 := by
  unfold iR iB
  apply decide_eq_decide.mpr
  omega
theorem y_holdsWith (d : Nat) {p s w : Nat} (hC : CV ρ r g m i l q K) (hF : XF ρ i l q K) (hp : p < g 2) (hs : s < 1000) (hw : w < 1000) (hsp : sSpot g (g (18 + p)) = true) : YR ρ K i l q (some (.int (if sHold g (sNow g 4) p s w = true then nI 1 else nI 0))) (am_cl (d + 4) mX_holdsWith [.ref 0, .int (nI p), .int (nI s), .int (nI w)] (i, l, rX q, kX K)) := by
  obtain ⟨a1, a2, hW, a4, a5, a6⟩ := id hC
  have a1 : rX q 0 2 = some r := a1
  obtain ⟨fP, fS, fL, fE, fF, fB, fU, fV, fK, fW, hk, ra, ra1, ra2, ra3⟩ := CV_f a2 hW
  obtain ⟨fN, fO, fT, fD⟩ := RM_f a6 hW
  have h1 : g 1 ≤ 6 := hW.1.2
  have h2 : g 2 ≤ 4 := hW.2.1
  have hR : ∀ p, p < 4 → g (10 + p) ≤ 4 := hW.2.2.2.1
  have hP : ∀ p, p < 4 → g (18 + p) < 8 := hW.2.2.2.2.2.1
  have hSt : ∀ p, p < 4 → g (22 + p) ≤ 9 := hW.2.2.2.2.2.2.1
  have hn := sNow_lt g hP 4 (by decide)
  have hvs : VS g (sNow g 4) := hW.2.2.2.2.2.2.2.2.2.2
  have hp4 : p < 4 := by omega
  have hx := of_decide_eq_true (show decide (1 ≤ g (18 + p) ∧ g (18 + p) ≤ g 1) = true from hsp)
  have hd := dg_sNow hP p hp4
  have hbe := fun s => s_Ford_besideOf (d + 2) (a := sNow g 4) (x := g (18 + p)) (g := g) hx.1 (by omega) s
  have hv1 := hvs.1
  obtain ⟨i1, l1, q1, e1, hf1, hA1⟩ := y_fordAt d hC hF (gE_refl g) a6
  rw [c_X_holdsWith, b_X_holdsWith_0]
  simp (disch := first | assumption | omega) only [b_X_holdsWith_0, b_X_holdsWith_7, b_X_holdsWith_17, b_X_holdsWith_28, b_X_holdsWith_33, b_X_holdsWith_53, ↓Bool.cond_decide, ↓q_in, q_le, q_lt, q_eq, q_leT, q_leF, q_ltT, q_ltF, q_eqT, q_eqF, ↓reduceIte, not_true_eq_false, not_false_eq_true, true_and, and_true, and_self, false_and, and_false, Nat.zero_le, am_bd_some, q_app, q_app0, nI_add, pk_sub, pk_mul, q_dec, q_ix, q_m1, q_m1', ↓q_ret, q_bool, q_bool1, q_u2, q_u1, q_shl1, q_shr, q_and7, q_dg, fa_or, fa_and, decide_true, decide_false, Bool.or_false, Bool.or_true, Bool.true_or, Bool.false_or, cond_true, cond_false, ite_not, q_some, q_nn, q_xor, q_xorm, Bool.false_eq_true, decide_eq_true_eq, ne_eq, l_0, l_1, l_2, l_3, l_4, l_5, l_6, l_7, l_8, l_9, l_17, l_28, l_33, l_43, l_53, hbe, e1, a1, a5, hk, fP, fS, fL, fE, fF, fB, fU, fV, fK, fW, fN, fO, fT, fD, ra1, ra2, cond_true, Bool.and_true, kd11]
  obtain ⟨a1, a2, _, a4, a5, _⟩ := CV_ff hf1 hC
  have a1 : rX q1 0 2 = some r := a1
  obtain ⟨fP, fS, fL, fE, fF, fB, fU, fV, fK, fW, hk, ra, ra1, ra2, ra3⟩ := CV_f a2 hW
  obtain ⟨i2, e2, hf2, hA2⟩ := y_wouldHold (d + 1) (p := p) (str := s) (x := g (18 + p)) (b := sBes g (sNow g 4) (g (18 + p))) (w := w) a2 hW hA1 hx.1 (by omega) hs hw
  have eh : sHold g (sNow g 4) p s w = sWould g p s (g (18 + p)) (sBes g (sNow g 4) (g (18 + p))) w := by
    unfold sHold
    rw [hd]
  rw [eh, b_X_holdsWith_43]
  have done : ∀ v, YR ρ K i l q v (some (v, (i2, l1, rX q1, kX K))) := fun v => YR_some (FG_i hf1 hf2 rfl) (XF_of (CV_ff (FG_i hf1 hf2 rfl) hC) hA2 (gE_refl g) hW)
  cases ht : sWould g p s (g (18 + p)) (sBes g (sNow g 4) (g (18 + p))) w with
  | true =>
    rw [ht] at e2
    simp (disch := first | assumption | omega) only [b_X_holdsWith_0, b_X_holdsWith_7, b_X_holdsWith_17, b_X_holdsWith_28, b_X_holdsWith_33, b_X_holdsWith_43, b_X_holdsWith_53, s_Ford_besideOf, ↓Bool.cond_decide, ↓q_in, q_le, q_lt, q_eq, q_leT, q_leF, q_ltT, q_ltF, q_eqT, q_eqF, ↓reduceIte, not_true_eq_false, not_false_eq_true, true_and, and_true, and_self, false_and, and_false, Nat.zero_le, am_bd_some, q_app, q_app0, nI_add, pk_sub, pk_mul, q_dec, q_ix, q_m1, q_m1', ↓q_ret, q_bool, q_bool1, q_u2, q_u1, q_shl1, q_shr, q_and7, q_dg, fa_or, fa_and, decide_true, decide_false, Bool.or_false, Bool.or_true, Bool.true_or, Bool.false_or, cond_true, cond_false, ite_not, q_some, q_nn, q_xor, q_xorm, Bool.false_eq_true, decide_eq_true_eq, ne_eq, l_0, l_1, l_2, l_3, l_4, l_5, l_6, l_7, l_8, l_9, l_17, l_28, l_33, l_43, l_53, e2, a1, a5, hk, fP, fS, fL, fE, fF, fB, fU, fV, fK, fW, fN, fO, fT, fD, ra1, ra2, cond_true, Bool.and_true, kd11]
    exact done _
  | false =>
    rw [ht] at e2
    simp (disch := first | assumption | omega) only [b_X_holdsWith_0, b_X_holdsWith_7, b_X_holdsWith_17, b_X_holdsWith_28, b_X_holdsWith_33, b_X_holdsWith_43, b_X_holdsWith_53, s_Ford_besideOf, ↓Bool.cond_decide, ↓q_in, q_le, q_lt, q_eq, q_leT, q_leF, q_ltT, q_ltF, q_eqT, q_eqF, ↓reduceIte, not_true_eq_false, not_false_eq_true, true_and, and_true, and_self, false_and, and_false, Nat.zero_le, am_bd_some, q_app, q_app0, nI_add, pk_sub, pk_mul, q_dec, q_ix, q_m1, q_m1', ↓q_ret, q_bool, q_bool1, q_u2, q_u1, q_shl1, q_shr, q_and7, q_dg, fa_or, fa_and, decide_true, decide_false, Bool.or_false, Bool.or_true, Bool.true_or, Bool.false_or, cond_true, cond_false, ite_not, q_some, q_nn, q_xor, q_xorm, Bool.false_eq_true, decide_eq_true_eq, ne_eq, l_0, l_1, l_2, l_3, l_4, l_5, l_6, l_7, l_8, l_9, l_17, l_28, l_33, l_43, l_53, e2, a1, a5, hk, fP, fS, fL, fE, fF, fB, fU, fV, fK, fW, fN, fO, fT, fD, ra1, ra2, cond_true, Bool.and_true, kd11]
    exact done _
theorem y_X_holds (d : Nat) (x y : Int32) (hC : CV ρ r g m i l q K) (hF : XF ρ i l q K) : YR ρ K i l q (some (.int (v_holds g x y))) (am_cl (d + 5) mX_holds [.ref 0, .int x, .int y] (i, l, rX q, kX K)) := by
  obtain ⟨a1, a2, hW, a4, a5, a6⟩ := id hC
  have a1 : rX q 0 2 = some r := a1
  obtain ⟨fP, fS, fL, fE, fF, fB, fU, fV, fK, fW, hk, ra, ra1, ra2, ra3⟩ := CV_f a2 hW
  obtain ⟨fN, fO, fT, fD⟩ := RM_f a6 hW
  have h1 : g 1 ≤ 6 := hW.1.2
  have h2 : g 2 ≤ 4 := hW.2.1
  have hR : ∀ p, p < 4 → g (10 + p) ≤ 4 := hW.2.2.2.1
  have hP : ∀ p, p < 4 → g (18 + p) < 8 := hW.2.2.2.2.2.1
  have hSt : ∀ p, p < 4 → g (22 + p) ≤ 9 := hW.2.2.2.2.2.2.1
  have hn := sNow_lt g hP 4 (by decide)
  have hvs : VS g (sNow g 4) := hW.2.2.2.2.2.2.2.2.2.2
  have hI := iR10 y
  rw [c_X_holds, b_X_holds_0, v_holds]
  by_cases hx : iB x (g 2) = true
  · by_cases hy : iB y 10 = true
    · have hx' := hx
      obtain ⟨p, hp, rfl⟩ := iB_T hx'
      have hp4 : p < 4 := by omega
      have hpp := hP p hp4
      have hiS := iS_nI (g := g) (p := g (18 + p)) (by omega)
      have hy' := hy
      obtain ⟨w, hw, rfl⟩ := iB_T hy'
      cases hsp : sSpot g (g (18 + p)) with
      | true =>
        obtain ⟨i1, l1, q1, e1, hf1, hF1⟩ := y_holdsWith d (p := p) (s := g (22 + p)) (w := w) hC hF hp (by have := hSt p hp4; omega) (by omega) hsp
        cases ht : sHold g (sNow g 4) p (g (22 + p)) w with
        | true =>
          rw [ht] at e1
          simp (disch := first | assumption | omega) only [b_X_holds_0, b_X_holds_8, b_X_holds_18, b_X_holds_36, b_X_holds_39, b_X_holds_55, b_X_holds_59, b_X_holds_67, s_X_isDigit, ↓Bool.cond_decide, ↓q_in, q_le, q_lt, q_eq, q_leT, q_leF, q_ltT, q_ltF, q_eqT, q_eqF, ↓reduceIte, not_true_eq_false, not_false_eq_true, true_and, and_true, and_self, false_and, and_false, Nat.zero_le, am_bd_some, q_app, q_app0, nI_add, pk_sub, pk_mul, q_dec, q_ix, q_m1, q_m1', ↓q_ret, q_bool, q_bool1, q_u2, q_u1, q_shl1, q_shr, q_and7, q_dg, fa_or, fa_and, decide_true, decide_false, Bool.or_false, Bool.or_true, Bool.true_or, Bool.false_or, cond_true, cond_false, ite_not, q_some, q_nn, q_xor, q_xorm, Bool.false_eq_true, decide_eq_true_eq, ne_eq, l_0, l_1, l_2, l_3, l_4, l_5, l_6, l_7, l_8, l_11, l_15, l_18, l_36, l_39, l_55, l_59, l_67, hx, hy, hI, hiS, hsp, e1, ht, a1, a5, hk, fP, fS, fL, fE, fF, fB, fU, fV, fK, fW, fN, fO, fT, fD, ra1, ra2, cond_true, Bool.and_true, kd11]
          exact YR_some hf1 hF1
        | false =>
          rw [ht] at e1
          simp (disch := first | assumption | omega) only [b_X_holds_0, b_X_holds_8, b_X_holds_18, b_X_holds_36, b_X_holds_39, b_X_holds_55, b_X_holds_59, b_X_holds_67, s_X_isDigit, ↓Bool.cond_decide, ↓q_in, q_le, q_lt, q_eq, q_leT, q_leF, q_ltT, q_ltF, q_eqT, q_eqF, ↓reduceIte, not_true_eq_false, not_false_eq_true, true_and, and_true, and_self, false_and, and_false, Nat.zero_le, am_bd_some, q_app, q_app0, nI_add, pk_sub, pk_mul, q_dec, q_ix, q_m1, q_m1', ↓q_ret, q_bool, q_bool1, q_u2, q_u1, q_shl1, q_shr, q_and7, q_dg, fa_or, fa_and, decide_true, decide_false, Bool.or_false, Bool.or_true, Bool.true_or, Bool.false_or, cond_true, cond_false, ite_not, q_some, q_nn, q_xor, q_xorm, Bool.false_eq_true, decide_eq_true_eq, ne_eq, l_0, l_1, l_2, l_3, l_4, l_5, l_6, l_7, l_8, l_11, l_15, l_18, l_36, l_39, l_55, l_59, l_67, hx, hy, hI, hiS, hsp, e1, ht, a1, a5, hk, fP, fS, fL, fE, fF, fB, fU, fV, fK, fW, fN, fO, fT, fD, ra1, ra2, cond_true, Bool.and_true, kd11]
          exact YR_some hf1 hF1
      | false =>
        simp (disch := first | assumption | omega) only [b_X_holds_0, b_X_holds_8, b_X_holds_18, b_X_holds_36, b_X_holds_39, b_X_holds_55, b_X_holds_59, b_X_holds_67, s_X_isDigit, ↓Bool.cond_decide, ↓q_in, q_le, q_lt, q_eq, q_leT, q_leF, q_ltT, q_ltF, q_eqT, q_eqF, ↓reduceIte, not_true_eq_false, not_false_eq_true, true_and, and_true, and_self, false_and, and_false, Nat.zero_le, am_bd_some, q_app, q_app0, nI_add, pk_sub, pk_mul, q_dec, q_ix, q_m1, q_m1', ↓q_ret, q_bool, q_bool1, q_u2, q_u1, q_shl1, q_shr, q_and7, q_dg, fa_or, fa_and, decide_true, decide_false, Bool.or_false, Bool.or_true, Bool.true_or, Bool.false_or, cond_true, cond_false, ite_not, q_some, q_nn, q_xor, q_xorm, Bool.false_eq_true, decide_eq_true_eq, ne_eq, l_0, l_1, l_2, l_3, l_4, l_5, l_6, l_7, l_8, l_11, l_15, l_18, l_36, l_39, l_55, l_59, l_67, hx, hy, hI, hiS, hsp, a1, a5, hk, fP, fS, fL, fE, fF, fB, fU, fV, fK, fW, fN, fO, fT, fD, ra1, ra2, cond_true, Bool.and_true, kd11]
        exact YR_0 hF
    · simp (disch := first | assumption | omega) only [b_X_holds_0, b_X_holds_8, b_X_holds_18, b_X_holds_36, b_X_holds_39, b_X_holds_55, b_X_holds_59, b_X_holds_67, s_X_isDigit, ↓Bool.cond_decide, ↓q_in, q_le, q_lt, q_eq, q_leT, q_leF, q_ltT, q_ltF, q_eqT, q_eqF, ↓reduceIte, not_true_eq_false, not_false_eq_true, true_and, and_true, and_self, false_and, and_false, Nat.zero_le, am_bd_some, q_app, q_app0, nI_add, pk_sub, pk_mul, q_dec, q_ix, q_m1, q_m1', ↓q_ret, q_bool, q_bool1, q_u2, q_u1, q_shl1, q_shr, q_and7, q_dg, fa_or, fa_and, decide_true, decide_false, Bool.or_false, Bool.or_true, Bool.true_or, Bool.false_or, cond_true, cond_false, ite_not, q_some, q_nn, q_xor, q_xorm, Bool.false_eq_true, decide_eq_true_eq, ne_eq, l_0, l_1, l_2, l_3, l_4, l_5, l_6, l_7, l_8, l_11, l_15, l_18, l_36, l_39, l_55, l_59, l_67, hx, hy, hI, a1, a5, hk, fP, fS, fL, fE, fF, fB, fU, fV, fK, fW, fN, fO, fT, fD, ra1, ra2, cond_true, Bool.and_true, kd11]
      exact YR_0 hF
  · simp (disch := first | assumption | omega) only [b_X_holds_0, b_X_holds_8, b_X_holds_18, b_X_holds_36, b_X_holds_39, b_X_holds_55, b_X_holds_59, b_X_holds_67, s_X_isDigit, ↓Bool.cond_decide, ↓q_in, q_le, q_lt, q_eq, q_leT, q_leF, q_ltT, q_ltF, q_eqT, q_eqF, ↓reduceIte, not_true_eq_false, not_false_eq_true, true_and, and_true, and_self, false_and, and_false, Nat.zero_le, am_bd_some, q_app, q_app0, nI_add, pk_sub, pk_mul, q_dec, q_ix, q_m1, q_m1', ↓q_ret, q_bool, q_bool1, q_u2, q_u1, q_shl1, q_shr, q_and7, q_dg, fa_or, fa_and, decide_true, decide_false, Bool.or_false, Bool.or_true, Bool.true_or, Bool.false_or, cond_true, cond_false, ite_not, q_some, q_nn, q_xor, q_xorm, Bool.false_eq_true, decide_eq_true_eq, ne_eq, l_0, l_1, l_2, l_3, l_4, l_5, l_6, l_7, l_8, l_11, l_15, l_18, l_36, l_39, l_55, l_59, l_67, hx, a1, a5, hk, fP, fS, fL, fE, fF, fB, fU, fV, fK, fW, fN, fO, fT, fD, ra1, ra2, cond_true, Bool.and_true, kd11]
    exact YR_0 hF
end
