/-! THE MODEL: units and truths are read -/
section
variable {B : Nat → Nat} {N : Nat}
theorem ct_readUnit {law dp r K : Nat} {sU sT : PS → PS} (hdr : dp + r = 6) (hoU : r ≠ 0 → OkF B N sU) (hoT : r ≠ 0 → OkF B N sT) (hU : r ≠ 0 → ∀ d, Ct B N law mM_readUnit [.ref 0, .int (nI (dp + 1))] (d + K + 3) sU) (hTr : r ≠ 0 → ∀ d, Ct B N law mM_readTruth [.ref 0, .int (nI (dp + 1))] (d + K + 3) sT) (hS : ∀ d, Ct B N law mM_readSum [.ref 0, .int (nI dp)] (d + K + 3) (sumL B N law r)) (d : Nat) : Ct B N law mM_readUnit [.ref 0, .int (nI dp)] (d + K + 4) (unS B N law r sU sT) := by
  intro i l s hR hT h15 hC
  have hN := hT.1
  have i19 := s_M_is (i := i) (l := l) (d + K + 2) (k := 19) (by decide) hR
  have i37 := s_M_is (i := i) (l := l) (d + K + 2) (k := 37) (by decide) hR
  refine MR_q ?_
  intro Q hQ
  rw [show d + K + 4 = d + K + 3 + 1 from rfl, c_M_readUnit, b_M_readUnit_0]
  unfold unS at hQ
  cases hb : isS B N 19 s with
  | true =>
    rw [hb, if_pos rfl] at hQ
    obtain ⟨h0, hkk⟩ := isS_w hb
    have hk24 : kj B N s.2.2.1 ≠ 24 := by rw [hkk]; decide
    obtain ⟨i2, l2, e2, hl2, hf2, hR2⟩ := r_M_goesIn (i := i) (l := l) (d + K) hdr hT hR h0
    subst hl2
    by_cases g0 : (giS B N r s).1 = 0
    · rw [if_pos g0] at hQ
      rw [if_pos g0] at e2
      obtain ⟨g1, g2, g3⟩ := gi_0 g0
      rw [g3] at hQ hR2
      have hC2 := Pg_cb (Pg_nx hC hk24) hC
      obtain ⟨p1, p2⟩ := Pg_ncd (c := 3006) (hoU g1) hC hk24
      obtain ⟨i3, l3, e3, hl3, hf3, hR3⟩ := hU g1 d i2 l2 (nxS s) hR2 (TP_fx hf2 hT rfl rfl) (by rw [hf2 0 15 rfl]; exact h15) hC2
      subst hl3
      obtain ⟨i4, l4, e4, hl4, hf4, hR4⟩ := r_M_codes (i := i3) (l := l3) (d + K + 2) (c := 3006) hR3 (fun z => by have := p2 z; omega)
      subst hl4
      simp (disch := first | assumption | omega) only [b_M_readUnit_0, b_M_readUnit_6, b_M_readUnit_14, b_M_readUnit_25, b_M_readUnit_32, b_M_readUnit_39, b_M_readUnit_47, b_M_readUnit_58, b_M_readUnit_64, b_M_readUnit_72, b_M_readUnit_78, b_M_readUnit_84, b_M_readUnit_99, b_M_readUnit_111, b_M_readUnit_118, b_M_readUnit_127, b_M_readUnit_136, b_M_readUnit_139, b_M_readUnit_143, b_M_readUnit_151, b_M_readUnit_156, b_M_readUnit_161, ↓Bool.cond_decide, ↓q_in, q_le, q_lt, q_eq, q_leT, q_leF, q_ltT, q_ltF, q_eqT, q_eqF, ↓reduceIte, not_true_eq_false, not_false_eq_true, true_and, and_true, and_self, false_and, and_false, Nat.zero_le, am_bd_some, q_app, q_app0, nI_add, pk_sub, pk_mul, q_dec, q_ix, q_m1, q_m1', ↓q_ret, q_bool, q_bool1, q_u2, q_u1, q_shl1, q_shr, q_and7, q_dg, fa_or, fa_and, decide_true, decide_false, Bool.or_false, Bool.or_true, Bool.true_or, Bool.false_or, cond_true, cond_false, ite_not, q_some, q_nn, q_xor, q_xorm, Bool.false_eq_true, decide_eq_true_eq, ne_eq, l_0, l_1, l_2, l_3, l_4, l_5, l_6, l_7, l_8, l_9, l_14, l_19, l_25, l_32, l_37, l_38, l_39, l_40, l_41, l_47, l_58, l_64, l_72, l_78, l_84, l_99, l_111, l_118, l_127, l_136, l_139, l_143, l_151, l_156, l_161, l_3003, l_3004, l_3005, l_3006, i19, hb, e2, e3, e4]
      exact MR_some (hQ _ _ ⟨rfl, by (repeat (first | exact Fx_refl _ _ | assumption | refine Fx_u2 rfl ?_ | refine Fx_u1 rfl (by decide) ?_ | refine Fx_step (by assumption) rfl ?_ | refine Fx_stepr (by assumption) rfl rfl ?_)), hR4⟩)
    · rw [if_neg g0] at hQ
      rw [if_neg g0] at e2
      simp (disch := first | assumption | omega) only [b_M_readUnit_0, b_M_readUnit_6, b_M_readUnit_14, b_M_readUnit_25, b_M_readUnit_32, b_M_readUnit_39, b_M_readUnit_47, b_M_readUnit_58, b_M_readUnit_64, b_M_readUnit_72, b_M_readUnit_78, b_M_readUnit_84, b_M_readUnit_99, b_M_readUnit_111, b_M_readUnit_118, b_M_readUnit_127, b_M_readUnit_136, b_M_readUnit_139, b_M_readUnit_143, b_M_readUnit_151, b_M_readUnit_156, b_M_readUnit_161, ↓Bool.cond_decide, ↓q_in, q_le, q_lt, q_eq, q_leT, q_leF, q_ltT, q_ltF, q_eqT, q_eqF, ↓reduceIte, not_true_eq_false, not_false_eq_true, true_and, and_true, and_self, false_and, and_false, Nat.zero_le, am_bd_some, q_app, q_app0, nI_add, pk_sub, pk_mul, q_dec, q_ix, q_m1, q_m1', ↓q_ret, q_bool, q_bool1, q_u2, q_u1, q_shl1, q_shr, q_and7, q_dg, fa_or, fa_and, decide_true, decide_false, Bool.or_false, Bool.or_true, Bool.true_or, Bool.false_or, cond_true, cond_false, ite_not, q_some, q_nn, q_xor, q_xorm, Bool.false_eq_true, decide_eq_true_eq, ne_eq, l_0, l_1, l_2, l_3, l_4, l_5, l_6, l_7, l_8, l_9, l_14, l_19, l_25, l_32, l_37, l_38, l_39, l_40, l_41, l_47, l_58, l_64, l_72, l_78, l_84, l_99, l_111, l_118, l_127, l_136, l_139, l_143, l_151, l_156, l_161, l_3003, l_3004, l_3005, l_3006, i19, hb, e2]
      exact MR_some (hQ _ _ ⟨rfl, by (repeat (first | exact Fx_refl _ _ | assumption | refine Fx_u2 rfl ?_ | refine Fx_u1 rfl (by decide) ?_ | refine Fx_step (by assumption) rfl ?_ | refine Fx_stepr (by assumption) rfl rfl ?_)), hR2⟩)
  | false =>
    rw [hb, if_neg (by decide)] at hQ
    cases hb37 : isS B N 37 s with
    | true =>
      rw [hb37, if_pos rfl] at hQ
      obtain ⟨h0, hkk⟩ := isS_w hb37
      have hk24 : kj B N s.2.2.1 ≠ 24 := by rw [hkk]; decide
      obtain ⟨i2, l2, e2, hl2, hf2, hR2⟩ := r_M_goesIn (i := i) (l := l) (d + K) hdr hT hR h0
      subst hl2
      by_cases g0 : (giS B N r s).1 = 0
      · rw [if_pos g0] at hQ
        rw [if_pos g0] at e2
        obtain ⟨g1, g2, g3⟩ := gi_0 g0
        rw [g3] at hQ hR2
        have hC2 := Pg_cb (Pg_nx hC hk24) hC
        obtain ⟨i3, l3, e3, hl3, hf3, hR3⟩ := hTr g1 d i2 l2 (nxS s) hR2 (TP_fx hf2 hT rfl rfl) (by rw [hf2 0 15 rfl]; exact h15) hC2
        subst hl3
        have hT3 : TP i3 B N := TP_fx hf3 (TP_fx hf2 hT rfl rfl) rfl rfl
        obtain ⟨i4, l4, e4, hl4, hf4, hR4⟩ := r_M_eats (i := i3) (l := l3) (d + K) (k := 38) (by decide) hT3 hR3
        subst hl4
        cases hb38 : isS B N 38 (sT (nxS s)) with
        | true =>
          rw [hb38, if_pos rfl] at hQ
          have et : etS B N 38 (sT (nxS s)) = nxS (sT (nxS s)) := by unfold etS; rw [if_pos hb38]
          rw [et] at hR4
          rw [hb38] at e4
          simp (disch := first | assumption | omega) only [b_M_readUnit_0, b_M_readUnit_6, b_M_readUnit_14, b_M_readUnit_25, b_M_readUnit_32, b_M_readUnit_39, b_M_readUnit_47, b_M_readUnit_58, b_M_readUnit_64, b_M_readUnit_72, b_M_readUnit_78, b_M_readUnit_84, b_M_readUnit_99, b_M_readUnit_111, b_M_readUnit_118, b_M_readUnit_127, b_M_readUnit_136, b_M_readUnit_139, b_M_readUnit_143, b_M_readUnit_151, b_M_readUnit_156, b_M_readUnit_161, ↓Bool.cond_decide, ↓q_in, q_le, q_lt, q_eq, q_leT, q_leF, q_ltT, q_ltF, q_eqT, q_eqF, ↓reduceIte, not_true_eq_false, not_false_eq_true, true_and, and_true, and_self, false_and, and_false, Nat.zero_le, am_bd_some, q_app, q_app0, nI_add, pk_sub, pk_mul, q_dec, q_ix, q_m1, q_m1', ↓q_ret, q_bool, q_bool1, q_u2, q_u1, q_shl1, q_shr, q_and7, q_dg, fa_or, fa_and, decide_true, decide_false, Bool.or_false, Bool.or_true, Bool.true_or, Bool.false_or, cond_true, cond_false, ite_not, q_some, q_nn, q_xor, q_xorm, Bool.false_eq_true, decide_eq_true_eq, ne_eq, l_0, l_1, l_2, l_3, l_4, l_5, l_6, l_7, l_8, l_9, l_14, l_19, l_25, l_32, l_37, l_38, l_39, l_40, l_41, l_47, l_58, l_64, l_72, l_78, l_84, l_99, l_111, l_118, l_127, l_136, l_139, l_143, l_151, l_156, l_161, l_3003, l_3004, l_3005, l_3006, i19, i37, hb, hb37, e2, e3, e4]
          exact MR_some (hQ _ _ ⟨rfl, by (repeat (first | exact Fx_refl _ _ | assumption | refine Fx_u2 rfl ?_ | refine Fx_u1 rfl (by decide) ?_ | refine Fx_step (by assumption) rfl ?_ | refine Fx_stepr (by assumption) rfl rfl ?_)), hR4⟩)
        | false =>
          rw [hb38, if_neg (by decide)] at hQ
          have et : etS B N 38 (sT (nxS s)) = sT (nxS s) := by unfold etS; rw [if_neg (by rw [hb38]; decide)]
          rw [et] at hR4
          rw [hb38] at e4
          obtain ⟨i5, l5, e5, hl5, hf5, hR5⟩ := r_M_fails (i := i4) (l := l4) (d + K + 2) (k := 2) (by decide) (by decide) hN hR4
          subst hl5
          simp (disch := first | assumption | omega) only [b_M_readUnit_0, b_M_readUnit_6, b_M_readUnit_14, b_M_readUnit_25, b_M_readUnit_32, b_M_readUnit_39, b_M_readUnit_47, b_M_readUnit_58, b_M_readUnit_64, b_M_readUnit_72, b_M_readUnit_78, b_M_readUnit_84, b_M_readUnit_99, b_M_readUnit_111, b_M_readUnit_118, b_M_readUnit_127, b_M_readUnit_136, b_M_readUnit_139, b_M_readUnit_143, b_M_readUnit_151, b_M_readUnit_156, b_M_readUnit_161, ↓Bool.cond_decide, ↓q_in, q_le, q_lt, q_eq, q_leT, q_leF, q_ltT, q_ltF, q_eqT, q_eqF, ↓reduceIte, not_true_eq_false, not_false_eq_true, true_and, and_true, and_self, false_and, and_false, Nat.zero_le, am_bd_some, q_app, q_app0, nI_add, pk_sub, pk_mul, q_dec, q_ix, q_m1, q_m1', ↓q_ret, q_bool, q_bool1, q_u2, q_u1, q_shl1, q_shr, q_and7, q_dg, fa_or, fa_and, decide_true, decide_false, Bool.or_false, Bool.or_true, Bool.true_or, Bool.false_or, cond_true, cond_false, ite_not, q_some, q_nn, q_xor, q_xorm, Bool.false_eq_true, decide_eq_true_eq, ne_eq, l_0, l_1, l_2, l_3, l_4, l_5, l_6, l_7, l_8, l_9, l_14, l_19, l_25, l_32, l_37, l_38, l_39, l_40, l_41, l_47, l_58, l_64, l_72, l_78, l_84, l_99, l_111, l_118, l_127, l_136, l_139, l_143, l_151, l_156, l_161, l_3003, l_3004, l_3005, l_3006, i19, i37, hb, hb37, e2, e3, e4, e5]
          exact MR_some (hQ _ _ ⟨rfl, by (repeat (first | exact Fx_refl _ _ | assumption | refine Fx_u2 rfl ?_ | refine Fx_u1 rfl (by decide) ?_ | refine Fx_step (by assumption) rfl ?_ | refine Fx_stepr (by assumption) rfl rfl ?_)), hR5⟩)
      · rw [if_neg g0] at hQ
        rw [if_neg g0] at e2
        simp (disch := first | assumption | omega) only [b_M_readUnit_0, b_M_readUnit_6, b_M_readUnit_14, b_M_readUnit_25, b_M_readUnit_32, b_M_readUnit_39, b_M_readUnit_47, b_M_readUnit_58, b_M_readUnit_64, b_M_readUnit_72, b_M_readUnit_78, b_M_readUnit_84, b_M_readUnit_99, b_M_readUnit_111, b_M_readUnit_118, b_M_readUnit_127, b_M_readUnit_136, b_M_readUnit_139, b_M_readUnit_143, b_M_readUnit_151, b_M_readUnit_156, b_M_readUnit_161, ↓Bool.cond_decide, ↓q_in, q_le, q_lt, q_eq, q_leT, q_leF, q_ltT, q_ltF, q_eqT, q_eqF, ↓reduceIte, not_true_eq_false, not_false_eq_true, true_and, and_true, and_self, false_and, and_false, Nat.zero_le, am_bd_some, q_app, q_app0, nI_add, pk_sub, pk_mul, q_dec, q_ix, q_m1, q_m1', ↓q_ret, q_bool, q_bool1, q_u2, q_u1, q_shl1, q_shr, q_and7, q_dg, fa_or, fa_and, decide_true, decide_false, Bool.or_false, Bool.or_true, Bool.true_or, Bool.false_or, cond_true, cond_false, ite_not, q_some, q_nn, q_xor, q_xorm, Bool.false_eq_true, decide_eq_true_eq, ne_eq, l_0, l_1, l_2, l_3, l_4, l_5, l_6, l_7, l_8, l_9, l_14, l_19, l_25, l_32, l_37, l_38, l_39, l_40, l_41, l_47, l_58, l_64, l_72, l_78, l_84, l_99, l_111, l_118, l_127, l_136, l_139, l_143, l_151, l_156, l_161, l_3003, l_3004, l_3005, l_3006, i19, i37, hb, hb37, e2]
        exact MR_some (hQ _ _ ⟨rfl, by (repeat (first | exact Fx_refl _ _ | assumption | refine Fx_u2 rfl ?_ | refine Fx_u1 rfl (by decide) ?_ | refine Fx_step (by assumption) rfl ?_ | refine Fx_stepr (by assumption) rfl rfl ?_)), hR2⟩)
    | false =>
      rw [hb37, if_neg (by decide)] at hQ
      have h1 := ok_sumL (law := law) r s hC
      have c1 := Pg_cb h1 hC
      obtain ⟨i2, l2, e2, hl2, hf2, hR2⟩ := hS d i l s hR hT h15 hC
      subst hl2
      have hT2 : TP i2 B N := TP_fx hf2 hT rfl rfl
      have h152 : i2 0 15 = nI law := by rw [hf2 0 15 rfl]; exact h15
      have i39 := s_M_is (i := i2) (l := l2) (d + K + 2) (k := 39) (by decide) hR2
      have i40 := s_M_is (i := i2) (l := l2) (d + K + 2) (k := 40) (by decide) hR2
      have i41 := s_M_is (i := i2) (l := l2) (d + K + 2) (k := 41) (by decide) hR2
      -- behind the sign
      have fin : ∀ c i3 (z2 : Slot), Fx [106, 107, 109, 110, 111, 112] i2 i3 → RP B N i3 (cmS B N (sumL B N law r s)) → CB B N (cmS B N (sumL B N law r s)) → ((sumL B N law r (cmS B N (sumL B N law r s))).1 = 0 → (sumL B N law r (cmS B N (sumL B N law r s))).2.2.2 173 < 900) → c = ccS B N (sumL B N law r s) → MR none Q (am_Ex (d + K + 3) mM_readUnit 151 [.val (.ref 0), .val (.int (nI dp)), .val (.int (nI c))] [] (i3, l2, rM, kM)) := by
        intro c i3 z2 hf3 hR3 hC3 hcc hc
        obtain ⟨i4, l4, e4, hl4, hf4, hR4⟩ := hS d i3 l2 _ hR3 (TP_fx hf3 hT2 rfl rfl) (by rw [hf3 0 15 rfl]; exact h152) hC3
        subst hl4
        obtain ⟨i5, l5, e5, hl5, hf5, hR5⟩ := r_M_codes (i := i4) (l := l4) (d + K + 2) (c := c) hR4 hcc
        subst hl5
        rw [hc] at hR5
        rw [b_M_readUnit_151]
        simp (disch := first | assumption | omega) only [b_M_readUnit_0, b_M_readUnit_6, b_M_readUnit_14, b_M_readUnit_25, b_M_readUnit_32, b_M_readUnit_39, b_M_readUnit_47, b_M_readUnit_58, b_M_readUnit_64, b_M_readUnit_72, b_M_readUnit_78, b_M_readUnit_84, b_M_readUnit_99, b_M_readUnit_111, b_M_readUnit_118, b_M_readUnit_127, b_M_readUnit_136, b_M_readUnit_139, b_M_readUnit_143, b_M_readUnit_151, b_M_readUnit_156, b_M_readUnit_161, s_M_is, ↓Bool.cond_decide, ↓q_in, q_le, q_lt, q_eq, q_leT, q_leF, q_ltT, q_ltF, q_eqT, q_eqF, ↓reduceIte, not_true_eq_false, not_false_eq_true, true_and, and_true, and_self, false_and, and_false, Nat.zero_le, am_bd_some, q_app, q_app0, nI_add, pk_sub, pk_mul, q_dec, q_ix, q_m1, q_m1', ↓q_ret, q_bool, q_bool1, q_u2, q_u1, q_shl1, q_shr, q_and7, q_dg, fa_or, fa_and, decide_true, decide_false, Bool.or_false, Bool.or_true, Bool.true_or, Bool.false_or, cond_true, cond_false, ite_not, q_some, q_nn, q_xor, q_xorm, Bool.false_eq_true, decide_eq_true_eq, ne_eq, l_0, l_1, l_2, l_3, l_4, l_5, l_6, l_7, l_8, l_9, l_14, l_19, l_25, l_32, l_37, l_38, l_39, l_40, l_41, l_47, l_58, l_64, l_72, l_78, l_84, l_99, l_111, l_118, l_127, l_136, l_139, l_143, l_151, l_156, l_161, l_3003, l_3004, l_3005, l_3006, e4, e5]
        exact MR_some (hQ _ _ ⟨rfl, by (repeat (first | exact Fx_refl _ _ | assumption | refine Fx_u2 rfl ?_ | refine Fx_u1 rfl (by decide) ?_ | refine Fx_step (by assumption) rfl ?_ | refine Fx_stepr (by assumption) rfl rfl ?_)), hR5⟩)
      have sgn : isS B N 39 (sumL B N law r s) = true ∨ isS B N 40 (sumL B N law r s) = true ∨ isS B N 41 (sumL B N law r s) = true → ∃ i3, am_cl (d + K + 3) mM_next [.ref 0] (i2, l2, rM, kM) = some (none, (i3, l2, rM, kM)) ∧ Fx [106, 107, 109, 110, 111, 112] i2 i3 ∧ RP B N i3 (cmS B N (sumL B N law r s)) ∧ CB B N (cmS B N (sumL B N law r s)) ∧ ((sumL B N law r (cmS B N (sumL B N law r s))).1 = 0 → (sumL B N law r (cmS B N (sumL B N law r s))).2.2.2 173 < 900) := by
        intro hor
        have h0 : (sumL B N law r s).1 = 0 := by rcases hor with q | q | q <;> exact (isS_w q).1
        have hk24 : kj B N (sumL B N law r s).2.2.1 ≠ 24 := by rcases hor with q | q | q <;> rw [(isS_w q).2] <;> decide
        have ec : cmS B N (sumL B N law r s) = nxS (sumL B N law r s) := by unfold cmS; rw [if_pos hor]
        obtain ⟨i3, l3, e3, hl3, hf3, hR3⟩ := r_M_nx (i := i2) (l := l2) (d + K + 1) hT2 hR2 h0
        subst hl3
        have p2 := (Pg_ncd (c := 0) (ok_sumL (B := B) (N := N) (law := law) r) c1 hk24).2
        rw [ec]
        exact ⟨i3, e3, by (repeat (first | exact Fx_refl _ _ | assumption | refine Fx_u2 rfl ?_ | refine Fx_u1 rfl (by decide) ?_ | refine Fx_step (by assumption) rfl ?_ | refine Fx_stepr (by assumption) rfl rfl ?_)), hR3, Pg_cb (Pg_nx c1 hk24) c1, fun z => by have := p2 z; omega⟩
      cases hb39 : isS B N 39 (sumL B N law r s) with
      | true =>
        have hcc : ccS B N (sumL B N law r s) = 3003 := by unfold ccS; rw [if_pos hb39]
        obtain ⟨i3, e3, hf3, hR3, hC3, hc3⟩ := sgn (Or.inl hb39)
        rw [hb39] at i39
        simp (disch := first | assumption | omega) only [b_M_readUnit_0, b_M_readUnit_6, b_M_readUnit_14, b_M_readUnit_25, b_M_readUnit_32, b_M_readUnit_39, b_M_readUnit_47, b_M_readUnit_58, b_M_readUnit_64, b_M_readUnit_72, b_M_readUnit_78, b_M_readUnit_84, b_M_readUnit_99, b_M_readUnit_111, b_M_readUnit_118, b_M_readUnit_127, b_M_readUnit_136, b_M_readUnit_139, b_M_readUnit_143, b_M_readUnit_156, b_M_readUnit_161, ↓Bool.cond_decide, ↓q_in, q_le, q_lt, q_eq, q_leT, q_leF, q_ltT, q_ltF, q_eqT, q_eqF, ↓reduceIte, not_true_eq_false, not_false_eq_true, true_and, and_true, and_self, false_and, and_false, Nat.zero_le, am_bd_some, q_app, q_app0, nI_add, pk_sub, pk_mul, q_dec, q_ix, q_m1, q_m1', ↓q_ret, q_bool, q_bool1, q_u2, q_u1, q_shl1, q_shr, q_and7, q_dg, fa_or, fa_and, decide_true, decide_false, Bool.or_false, Bool.or_true, Bool.true_or, Bool.false_or, cond_true, cond_false, ite_not, q_some, q_nn, q_xor, q_xorm, Bool.false_eq_true, decide_eq_true_eq, ne_eq, l_0, l_1, l_2, l_3, l_4, l_5, l_6, l_7, l_8, l_9, l_14, l_19, l_25, l_32, l_37, l_38, l_39, l_40, l_41, l_47, l_58, l_64, l_72, l_78, l_84, l_99, l_111, l_118, l_127, l_136, l_139, l_143, l_151, l_156, l_161, l_3003, l_3004, l_3005, l_3006, i19, i37, i39, hb, hb37, e2, e3]
        exact fin 3003 i3 .unset hf3 hR3 hC3 hc3 hcc.symm
      | false =>
        rw [hb39] at i39
        cases hb40 : isS B N 40 (sumL B N law r s) with
        | true =>
          have hcc : ccS B N (sumL B N law r s) = 3004 := by unfold ccS; rw [if_neg (by rw [hb39]; decide), if_pos hb40]
          obtain ⟨i3, e3, hf3, hR3, hC3, hc3⟩ := sgn (Or.inr (Or.inl hb40))
          rw [hb40] at i40
          simp (disch := first | assumption | omega) only [b_M_readUnit_0, b_M_readUnit_6, b_M_readUnit_14, b_M_readUnit_25, b_M_readUnit_32, b_M_readUnit_39, b_M_readUnit_47, b_M_readUnit_58, b_M_readUnit_64, b_M_readUnit_72, b_M_readUnit_78, b_M_readUnit_84, b_M_readUnit_99, b_M_readUnit_111, b_M_readUnit_118, b_M_readUnit_127, b_M_readUnit_136, b_M_readUnit_139, b_M_readUnit_143, b_M_readUnit_156, b_M_readUnit_161, ↓Bool.cond_decide, ↓q_in, q_le, q_lt, q_eq, q_leT, q_leF, q_ltT, q_ltF, q_eqT, q_eqF, ↓reduceIte, not_true_eq_false, not_false_eq_true, true_and, and_true, and_self, false_and, and_false, Nat.zero_le, am_bd_some, q_app, q_app0, nI_add, pk_sub, pk_mul, q_dec, q_ix, q_m1, q_m1', ↓q_ret, q_bool, q_bool1, q_u2, q_u1, q_shl1, q_shr, q_and7, q_dg, fa_or, fa_and, decide_true, decide_false, Bool.or_false, Bool.or_true, Bool.true_or, Bool.false_or, cond_true, cond_false, ite_not, q_some, q_nn, q_xor, q_xorm, Bool.false_eq_true, decide_eq_true_eq, ne_eq, l_0, l_1, l_2, l_3, l_4, l_5, l_6, l_7, l_8, l_9, l_14, l_19, l_25, l_32, l_37, l_38, l_39, l_40, l_41, l_47, l_58, l_64, l_72, l_78, l_84, l_99, l_111, l_118, l_127, l_136, l_139, l_143, l_151, l_156, l_161, l_3003, l_3004, l_3005, l_3006, i19, i37, i39, i40, hb, hb37, e2, e3]
          exact fin 3004 i3 .unset hf3 hR3 hC3 hc3 hcc.symm
        | false =>
          have hcc : ccS B N (sumL B N law r s) = 3005 := by unfold ccS; rw [if_neg (by rw [hb39]; decide), if_neg (by rw [hb40]; decide)]
          rw [hb40] at i40
          cases hb41 : isS B N 41 (sumL B N law r s) with
          | true =>
            obtain ⟨i3, e3, hf3, hR3, hC3, hc3⟩ := sgn (Or.inr (Or.inr hb41))
            rw [hb41] at i41
            simp (disch := first | assumption | omega) only [b_M_readUnit_0, b_M_readUnit_6, b_M_readUnit_14, b_M_readUnit_25, b_M_readUnit_32, b_M_readUnit_39, b_M_readUnit_47, b_M_readUnit_58, b_M_readUnit_64, b_M_readUnit_72, b_M_readUnit_78, b_M_readUnit_84, b_M_readUnit_99, b_M_readUnit_111, b_M_readUnit_118, b_M_readUnit_127, b_M_readUnit_136, b_M_readUnit_139, b_M_readUnit_143, b_M_readUnit_156, b_M_readUnit_161, ↓Bool.cond_decide, ↓q_in, q_le, q_lt, q_eq, q_leT, q_leF, q_ltT, q_ltF, q_eqT, q_eqF, ↓reduceIte, not_true_eq_false, not_false_eq_true, true_and, and_true, and_self, false_and, and_false, Nat.zero_le, am_bd_some, q_app, q_app0, nI_add, pk_sub, pk_mul, q_dec, q_ix, q_m1, q_m1', ↓q_ret, q_bool, q_bool1, q_u2, q_u1, q_shl1, q_shr, q_and7, q_dg, fa_or, fa_and, decide_true, decide_false, Bool.or_false, Bool.or_true, Bool.true_or, Bool.false_or, cond_true, cond_false, ite_not, q_some, q_nn, q_xor, q_xorm, Bool.false_eq_true, decide_eq_true_eq, ne_eq, l_0, l_1, l_2, l_3, l_4, l_5, l_6, l_7, l_8, l_9, l_14, l_19, l_25, l_32, l_37, l_38, l_39, l_40, l_41, l_47, l_58, l_64, l_72, l_78, l_84, l_99, l_111, l_118, l_127, l_136, l_139, l_143, l_151, l_156, l_161, l_3003, l_3004, l_3005, l_3006, i19, i37, i39, i40, i41, hb, hb37, e2, e3]
            exact fin 3005 i3 .unset hf3 hR3 hC3 hc3 hcc.symm
          | false =>
            rw [hb41] at i41
            have ec : cmS B N (sumL B N law r s) = flS B N 2 (sumL B N law r s) := by
              unfold cmS
              rw [if_neg]
              rintro (q | q | q)
              · rw [hb39] at q; cases q
              · rw [hb40] at q; cases q
              · rw [hb41] at q; cases q
            obtain ⟨i3, l3, e3, hl3, hf3, hR3⟩ := r_M_fails (i := i2) (l := l2) (d + K + 2) (k := 2) (by decide) (by decide) hN hR2
            subst hl3
            have hw := flS_w (B := B) (N := N) (k := 2) (s := sumL B N law r s) (by decide)
            have hCf : CB B N (flS B N 2 (sumL B N law r s)) := fun z => absurd z hw
            simp (disch := first | assumption | omega) only [b_M_readUnit_0, b_M_readUnit_6, b_M_readUnit_14, b_M_readUnit_25, b_M_readUnit_32, b_M_readUnit_39, b_M_readUnit_47, b_M_readUnit_58, b_M_readUnit_64, b_M_readUnit_72, b_M_readUnit_78, b_M_readUnit_84, b_M_readUnit_99, b_M_readUnit_111, b_M_readUnit_118, b_M_readUnit_127, b_M_readUnit_136, b_M_readUnit_139, b_M_readUnit_143, b_M_readUnit_156, b_M_readUnit_161, ↓Bool.cond_decide, ↓q_in, q_le, q_lt, q_eq, q_leT, q_leF, q_ltT, q_ltF, q_eqT, q_eqF, ↓reduceIte, not_true_eq_false, not_false_eq_true, true_and, and_true, and_self, false_and, and_false, Nat.zero_le, am_bd_some, q_app, q_app0, nI_add, pk_sub, pk_mul, q_dec, q_ix, q_m1, q_m1', ↓q_ret, q_bool, q_bool1, q_u2, q_u1, q_shl1, q_shr, q_and7, q_dg, fa_or, fa_and, decide_true, decide_false, Bool.or_false, Bool.or_true, Bool.true_or, Bool.false_or, cond_true, cond_false, ite_not, q_some, q_nn, q_xor, q_xorm, Bool.false_eq_true, decide_eq_true_eq, ne_eq, l_0, l_1, l_2, l_3, l_4, l_5, l_6, l_7, l_8, l_9, l_14, l_19, l_25, l_32, l_37, l_38, l_39, l_40, l_41, l_47, l_58, l_64, l_72, l_78, l_84, l_99, l_111, l_118, l_127, l_136, l_139, l_143, l_151, l_156, l_161, l_3003, l_3004, l_3005, l_3006, i19, i37, i39, i40, i41, hb, hb37, e2, e3]
            refine fin 3005 i3 .unset (by (repeat (first | exact Fx_refl _ _ | assumption | refine Fx_u2 rfl ?_ | refine Fx_u1 rfl (by decide) ?_ | refine Fx_step (by assumption) rfl ?_ | refine Fx_stepr (by assumption) rfl rfl ?_))) (by rw [ec]; exact hR3) (by rw [ec]; exact hCf) (fun z => ?_) hcc.symm
            rw [ec] at z
            exact absurd (ok_sumL (law := law) r _ hCf z).1 hw
theorem ct_untL {law : Nat} (hl : law < 2) : ∀ (r dp : Nat), dp + r = 6 → ∀ d, Ct B N law mM_readUnit [.ref 0, .int (nI dp)] (d + 3 * r + 7) (untL B N law r)
  | 0, dp, h, d => ct_readUnit (K := 3) h (fun z => absurd rfl z) (fun z => absurd rfl z) (fun z => absurd rfl z) (fun z => absurd rfl z) (fun d => ct_sumL hl 0 dp h d) d
  | r + 1, dp, h, d => by
    have ih := ct_untL hl r (dp + 1) (by omega)
    have hU : ∀ d, Ct B N law mM_readUnit [.ref 0, .int (nI (dp + 1))] (d + (3 * r + 6) + 3) (untL B N law r) := fun d => by
      have := ih (d + 2)
      rw [show d + 2 + 3 * r + 7 = d + (3 * r + 6) + 3 by omega] at this
      exact this
    have hT : ∀ d, Ct B N law mM_readTruth [.ref 0, .int (nI (dp + 1))] (d + (3 * r + 6) + 3) (trS B N (boS B N (untL B N law r))) := fun d => by
      have h1 := ct_readTruth (B := B) (N := N) (law := law) (dp := dp + 1) (K := 3 * r + 5) (by omega) (ok_boL (law := law) (r := r)) (fun d => ct_readBoth (K := 3 * r + 4) (by omega) (ok_untL r) (fun d => ih d) d) d
      exact h1
    have hS : ∀ d, Ct B N law mM_readSum [.ref 0, .int (nI dp)] (d + (3 * r + 6) + 3) (sumL B N law (r + 1)) := fun d => ct_sumL hl (r + 1) dp h d
    exact ct_readUnit (K := 3 * r + 6) h (fun _ => ok_untL r) (fun _ => ok_truL) (fun _ => hU) (fun _ => hT) hS d
theorem ct_truL {law : Nat} (hl : law < 2) (d : Nat) : Ct B N law mM_readTruth [.ref 0, .int (nI 0)] (d + 27) (truL B N law 6) := by
  have h1 := ct_readTruth (B := B) (N := N) (law := law) (dp := 0) (K := 23) (by omega) (ok_boL (law := law) (r := 6)) (fun d => ct_readBoth (K := 22) (by omega) (ok_untL 6) (fun d => ct_untL hl 6 0 rfl d) d) d
  exact h1
end
