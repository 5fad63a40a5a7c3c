/-! THE MODEL: terms, sums, units, truths are read -/
section
variable {B : Nat → Nat} {N : Nat}
theorem ct_readTerm {law dp K : Nat} {F : PS → PS} (hdp : dp < 7) (hok : OkF B N F) (hF : ∀ d, Ct B N law mM_readAtom [.ref 0, .int (nI dp)] (d + K + 3) F) (d : Nat) : Ct B N law mM_readTerm [.ref 0, .int (nI dp)] (d + K + 4) (fun s => lpS B N 34 3002 F 1000 (F s)) := by
  intro i l s hR hT h15 hC
  have hN := hT.1
  have key : ∀ n s1 i1, RP B N i1 s1 → CB B N s1 → Fx [4, 106, 107, 109, 110, 111, 112] i i1 → (s1.1 = 0 → N < s1.2.2.1 + n) → MR none (fun i' l' => l' = l ∧ Fx [4, 106, 107, 109, 110, 111, 112] i i' ∧ RP B N i' (lpS B N 34 3002 F n s1)) (am_Ex (d + K + 3) mM_readTerm 5 [.val (.ref 0), .val (.int (nI dp))] [] (i1, l, rM, kM)) := by
    intro n
    induction n with
    | zero =>
      intro s1 i1 hR1 hC1 hf1 hn
      have h0 : s1.1 ≠ 0 := fun z => by
        have a1 := hn z
        have a2 := (hC1 z).2
        have a3 := pj_le B N s1.2.2.1
        omega
      have hb : isS B N 34 s1 = false := decide_eq_false (fun z => h0 z.1)
      have hT1 : TP i1 B N := TP_fx hf1 hT rfl rfl
      obtain ⟨i2, l2, e2, hl2, hf2, hR2⟩ := r_M_eats (i := i1) (l := l) (d + K) (k := 34) (by decide) hT1 hR1
      subst hl2
      have et : etS B N 34 s1 = s1 := by unfold etS; rw [if_neg (by rw [hb]; decide)]
      rw [et] at hR2
      refine MR_q ?_
      intro Q hQ
      rw [b_M_readTerm_5]
      simp (disch := first | assumption | omega) only [b_M_readTerm_0, b_M_readTerm_11, b_M_readTerm_19, b_M_readTerm_26, ↓Bool.cond_decide, ↓q_in, q_le, q_lt, q_eq, q_leT, q_leF, q_ltT, q_ltF, q_eqT, q_eqF, ↓reduceIte, not_true_eq_false, not_false_eq_true, true_and, and_true, and_self, false_and, and_false, Nat.zero_le, am_bd_some, q_app, q_app0, nI_add, pk_sub, pk_mul, q_dec, q_ix, q_m1, q_m1', ↓q_ret, q_bool, q_bool1, q_u2, q_u1, q_shl1, q_shr, q_and7, q_dg, fa_or, fa_and, decide_true, decide_false, Bool.or_false, Bool.or_true, Bool.true_or, Bool.false_or, cond_true, cond_false, ite_not, q_some, q_nn, q_xor, q_xorm, Bool.false_eq_true, decide_eq_true_eq, ne_eq, l_0, l_1, l_4, l_5, l_7, l_11, l_19, l_26, l_34, l_3002, e2, hb]
      exact MR_some (hQ _ _ ⟨rfl, by (repeat (first | exact Fx_refl _ _ | assumption | refine Fx_u2 rfl ?_ | refine Fx_u1 rfl (by decide) ?_ | refine Fx_step (by assumption) rfl ?_ | refine Fx_stepr (by assumption) rfl rfl ?_)), hR2⟩)
    | succ n ih =>
      intro s1 i1 hR1 hC1 hf1 hn
      have hT1 : TP i1 B N := TP_fx hf1 hT rfl rfl
      obtain ⟨i2, l2, e2, hl2, hf2, hR2⟩ := r_M_eats (i := i1) (l := l) (d + K) (k := 34) (by decide) hT1 hR1
      subst hl2
      refine MR_q ?_
      intro Q hQ
      rw [b_M_readTerm_5]
      rw [lpS] at hQ
      cases hb : isS B N 34 s1 with
      | false =>
        have et : etS B N 34 s1 = s1 := by unfold etS; rw [if_neg (by rw [hb]; decide)]
        rw [et] at hR2
        rw [hb, if_neg (by decide)] at hQ
        simp (disch := first | assumption | omega) only [b_M_readTerm_0, b_M_readTerm_11, b_M_readTerm_19, b_M_readTerm_26, ↓Bool.cond_decide, ↓q_in, q_le, q_lt, q_eq, q_leT, q_leF, q_ltT, q_ltF, q_eqT, q_eqF, ↓reduceIte, not_true_eq_false, not_false_eq_true, true_and, and_true, and_self, false_and, and_false, Nat.zero_le, am_bd_some, q_app, q_app0, nI_add, pk_sub, pk_mul, q_dec, q_ix, q_m1, q_m1', ↓q_ret, q_bool, q_bool1, q_u2, q_u1, q_shl1, q_shr, q_and7, q_dg, fa_or, fa_and, decide_true, decide_false, Bool.or_false, Bool.or_true, Bool.true_or, Bool.false_or, cond_true, cond_false, ite_not, q_some, q_nn, q_xor, q_xorm, Bool.false_eq_true, decide_eq_true_eq, ne_eq, l_0, l_1, l_4, l_5, l_7, l_11, l_19, l_26, l_34, l_3002, e2, hb]
        exact MR_some (hQ _ _ ⟨rfl, by (repeat (first | exact Fx_refl _ _ | assumption | refine Fx_u2 rfl ?_ | refine Fx_u1 rfl (by decide) ?_ | refine Fx_step (by assumption) rfl ?_ | refine Fx_stepr (by assumption) rfl rfl ?_)), hR2⟩)
      | true =>
        have et : etS B N 34 s1 = nxS s1 := by unfold etS; rw [if_pos hb]
        rw [et] at hR2
        rw [hb, if_pos rfl] at hQ
        obtain ⟨h0, hkk⟩ := isS_w hb
        have hk24 : kj B N s1.2.2.1 ≠ 24 := by rw [hkk]; decide
        have hC2 := Pg_cb (Pg_nx hC1 hk24) hC1
        have hT2 : TP i2 B N := TP_fx hf2 hT1 rfl rfl
        obtain ⟨p1, p2⟩ := Pg_ncd (c := 3002) hok hC1 hk24
        obtain ⟨i3, l3, e3, hl3, hf3, hR3⟩ := hF d i2 l2 (nxS s1) hR2 hT2 (by rw [hf2 0 15 rfl, hf1 0 15 rfl]; exact h15) hC2
        subst hl3
        obtain ⟨i4, l4, e4, hl4, hf4, hR4⟩ := r_M_codes (i := i3) (l := l3) (d + K + 2) (c := 3002) hR3 (fun z => by have := p2 z; omega)
        subst hl4
        simp (disch := first | assumption | omega) only [b_M_readTerm_0, b_M_readTerm_11, b_M_readTerm_19, b_M_readTerm_26, ↓Bool.cond_decide, ↓q_in, q_le, q_lt, q_eq, q_leT, q_leF, q_ltT, q_ltF, q_eqT, q_eqF, ↓reduceIte, not_true_eq_false, not_false_eq_true, true_and, and_true, and_self, false_and, and_false, Nat.zero_le, am_bd_some, q_app, q_app0, nI_add, pk_sub, pk_mul, q_dec, q_ix, q_m1, q_m1', ↓q_ret, q_bool, q_bool1, q_u2, q_u1, q_shl1, q_shr, q_and7, q_dg, fa_or, fa_and, decide_true, decide_false, Bool.or_false, Bool.or_true, Bool.true_or, Bool.false_or, cond_true, cond_false, ite_not, q_some, q_nn, q_xor, q_xorm, Bool.false_eq_true, decide_eq_true_eq, ne_eq, l_0, l_1, l_4, l_5, l_7, l_11, l_19, l_26, l_34, l_3002, e2, hb, e3, e4]
        refine MR_mono (ih _ i4 hR4 (Pg_cb p1 hC1) (by (repeat (first | exact Fx_refl _ _ | assumption | refine Fx_u2 rfl ?_ | refine Fx_u1 rfl (by decide) ?_ | refine Fx_step (by assumption) rfl ?_ | refine Fx_stepr (by assumption) rfl rfl ?_))) (fun z => ?_)) (fun i' l' q => hQ i' l' q)
        have a1 := hn h0
        have a2 := (p1 z).2.1
        omega
  refine MR_q ?_
  intro Q hQ
  obtain ⟨i2, l2, e2, hl2, hf2, hR2⟩ := hF d i l s hR hT h15 hC
  subst hl2
  rw [show d + K + 4 = d + K + 3 + 1 from rfl, c_M_readTerm, b_M_readTerm_0]
  simp (disch := first | assumption | omega) only [b_M_readTerm_0, b_M_readTerm_11, b_M_readTerm_19, b_M_readTerm_26, ↓Bool.cond_decide, ↓q_in, q_le, q_lt, q_eq, q_leT, q_leF, q_ltT, q_ltF, q_eqT, q_eqF, ↓reduceIte, not_true_eq_false, not_false_eq_true, true_and, and_true, and_self, false_and, and_false, Nat.zero_le, am_bd_some, q_app, q_app0, nI_add, pk_sub, pk_mul, q_dec, q_ix, q_m1, q_m1', ↓q_ret, q_bool, q_bool1, q_u2, q_u1, q_shl1, q_shr, q_and7, q_dg, fa_or, fa_and, decide_true, decide_false, Bool.or_false, Bool.or_true, Bool.true_or, Bool.false_or, cond_true, cond_false, ite_not, q_some, q_nn, q_xor, q_xorm, Bool.false_eq_true, decide_eq_true_eq, ne_eq, l_0, l_1, l_4, l_5, l_7, l_11, l_19, l_26, l_34, l_3002, e2]
  exact MR_mono (key 1000 (F s) i2 hR2 (Pg_cb (hok s hC) hC) hf2 (fun _ => by omega)) (fun i' l' q => hQ i' l' q)
theorem ct_readBoth {law dp K : Nat} {F : PS → PS} (hdp : dp < 7) (hok : OkF B N F) (hF : ∀ d, Ct B N law mM_readUnit [.ref 0, .int (nI dp)] (d + K + 3) F) (d : Nat) : Ct B N law mM_readBoth [.ref 0, .int (nI dp)] (d + K + 4) (fun s => lpS B N 17 3007 F 1000 (F s)) := by
  intro i l s hR hT h15 hC
  have hN := hT.1
  have key : ∀ n s1 i1, RP B N i1 s1 → CB B N s1 → Fx [4, 106, 107, 109, 110, 111, 112] i i1 → (s1.1 = 0 → N < s1.2.2.1 + n) → MR none (fun i' l' => l' = l ∧ Fx [4, 106, 107, 109, 110, 111, 112] i i' ∧ RP B N i' (lpS B N 17 3007 F n s1)) (am_Ex (d + K + 3) mM_readBoth 5 [.val (.ref 0), .val (.int (nI dp))] [] (i1, l, rM, kM)) := by
    intro n
    induction n with
    | zero =>
      intro s1 i1 hR1 hC1 hf1 hn
      have h0 : s1.1 ≠ 0 := fun z => by
        have a1 := hn z
        have a2 := (hC1 z).2
        have a3 := pj_le B N s1.2.2.1
        omega
      have hb : isS B N 17 s1 = false := decide_eq_false (fun z => h0 z.1)
      have hT1 : TP i1 B N := TP_fx hf1 hT rfl rfl
      obtain ⟨i2, l2, e2, hl2, hf2, hR2⟩ := r_M_eats (i := i1) (l := l) (d + K) (k := 17) (by decide) hT1 hR1
      subst hl2
      have et : etS B N 17 s1 = s1 := by unfold etS; rw [if_neg (by rw [hb]; decide)]
      rw [et] at hR2
      refine MR_q ?_
      intro Q hQ
      rw [b_M_readBoth_5]
      simp (disch := first | assumption | omega) only [b_M_readBoth_0, b_M_readBoth_11, b_M_readBoth_19, b_M_readBoth_26, ↓Bool.cond_decide, ↓q_in, q_le, q_lt, q_eq, q_leT, q_leF, q_ltT, q_ltF, q_eqT, q_eqF, ↓reduceIte, not_true_eq_false, not_false_eq_true, true_and, and_true, and_self, false_and, and_false, Nat.zero_le, am_bd_some, q_app, q_app0, nI_add, pk_sub, pk_mul, q_dec, q_ix, q_m1, q_m1', ↓q_ret, q_bool, q_bool1, q_u2, q_u1, q_shl1, q_shr, q_and7, q_dg, fa_or, fa_and, decide_true, decide_false, Bool.or_false, Bool.or_true, Bool.true_or, Bool.false_or, cond_true, cond_false, ite_not, q_some, q_nn, q_xor, q_xorm, Bool.false_eq_true, decide_eq_true_eq, ne_eq, l_0, l_1, l_4, l_5, l_7, l_11, l_17, l_19, l_26, l_3007, e2, hb]
      exact MR_some (hQ _ _ ⟨rfl, by (repeat (first | exact Fx_refl _ _ | assumption | refine Fx_u2 rfl ?_ | refine Fx_u1 rfl (by decide) ?_ | refine Fx_step (by assumption) rfl ?_ | refine Fx_stepr (by assumption) rfl rfl ?_)), hR2⟩)
    | succ n ih =>
      intro s1 i1 hR1 hC1 hf1 hn
      have hT1 : TP i1 B N := TP_fx hf1 hT rfl rfl
      obtain ⟨i2, l2, e2, hl2, hf2, hR2⟩ := r_M_eats (i := i1) (l := l) (d + K) (k := 17) (by decide) hT1 hR1
      subst hl2
      refine MR_q ?_
      intro Q hQ
      rw [b_M_readBoth_5]
      rw [lpS] at hQ
      cases hb : isS B N 17 s1 with
      | false =>
        have et : etS B N 17 s1 = s1 := by unfold etS; rw [if_neg (by rw [hb]; decide)]
        rw [et] at hR2
        rw [hb, if_neg (by decide)] at hQ
        simp (disch := first | assumption | omega) only [b_M_readBoth_0, b_M_readBoth_11, b_M_readBoth_19, b_M_readBoth_26, ↓Bool.cond_decide, ↓q_in, q_le, q_lt, q_eq, q_leT, q_leF, q_ltT, q_ltF, q_eqT, q_eqF, ↓reduceIte, not_true_eq_false, not_false_eq_true, true_and, and_true, and_self, false_and, and_false, Nat.zero_le, am_bd_some, q_app, q_app0, nI_add, pk_sub, pk_mul, q_dec, q_ix, q_m1, q_m1', ↓q_ret, q_bool, q_bool1, q_u2, q_u1, q_shl1, q_shr, q_and7, q_dg, fa_or, fa_and, decide_true, decide_false, Bool.or_false, Bool.or_true, Bool.true_or, Bool.false_or, cond_true, cond_false, ite_not, q_some, q_nn, q_xor, q_xorm, Bool.false_eq_true, decide_eq_true_eq, ne_eq, l_0, l_1, l_4, l_5, l_7, l_11, l_17, l_19, l_26, l_3007, e2, hb]
        exact MR_some (hQ _ _ ⟨rfl, by (repeat (first | exact Fx_refl _ _ | assumption | refine Fx_u2 rfl ?_ | refine Fx_u1 rfl (by decide) ?_ | refine Fx_step (by assumption) rfl ?_ | refine Fx_stepr (by assumption) rfl rfl ?_)), hR2⟩)
      | true =>
        have et : etS B N 17 s1 = nxS s1 := by unfold etS; rw [if_pos hb]
        rw [et] at hR2
        rw [hb, if_pos rfl] at hQ
        obtain ⟨h0, hkk⟩ := isS_w hb
        have hk24 : kj B N s1.2.2.1 ≠ 24 := by rw [hkk]; decide
        have hC2 := Pg_cb (Pg_nx hC1 hk24) hC1
        have hT2 : TP i2 B N := TP_fx hf2 hT1 rfl rfl
        obtain ⟨p1, p2⟩ := Pg_ncd (c := 3007) hok hC1 hk24
        obtain ⟨i3, l3, e3, hl3, hf3, hR3⟩ := hF d i2 l2 (nxS s1) hR2 hT2 (by rw [hf2 0 15 rfl, hf1 0 15 rfl]; exact h15) hC2
        subst hl3
        obtain ⟨i4, l4, e4, hl4, hf4, hR4⟩ := r_M_codes (i := i3) (l := l3) (d + K + 2) (c := 3007) hR3 (fun z => by have := p2 z; omega)
        subst hl4
        simp (disch := first | assumption | omega) only [b_M_readBoth_0, b_M_readBoth_11, b_M_readBoth_19, b_M_readBoth_26, ↓Bool.cond_decide, ↓q_in, q_le, q_lt, q_eq, q_leT, q_leF, q_ltT, q_ltF, q_eqT, q_eqF, ↓reduceIte, not_true_eq_false, not_false_eq_true, true_and, and_true, and_self, false_and, and_false, Nat.zero_le, am_bd_some, q_app, q_app0, nI_add, pk_sub, pk_mul, q_dec, q_ix, q_m1, q_m1', ↓q_ret, q_bool, q_bool1, q_u2, q_u1, q_shl1, q_shr, q_and7, q_dg, fa_or, fa_and, decide_true, decide_false, Bool.or_false, Bool.or_true, Bool.true_or, Bool.false_or, cond_true, cond_false, ite_not, q_some, q_nn, q_xor, q_xorm, Bool.false_eq_true, decide_eq_true_eq, ne_eq, l_0, l_1, l_4, l_5, l_7, l_11, l_17, l_19, l_26, l_3007, e2, hb, e3, e4]
        refine MR_mono (ih _ i4 hR4 (Pg_cb p1 hC1) (by (repeat (first | exact Fx_refl _ _ | assumption | refine Fx_u2 rfl ?_ | refine Fx_u1 rfl (by decide) ?_ | refine Fx_step (by assumption) rfl ?_ | refine Fx_stepr (by assumption) rfl rfl ?_))) (fun z => ?_)) (fun i' l' q => hQ i' l' q)
        have a1 := hn h0
        have a2 := (p1 z).2.1
        omega
  refine MR_q ?_
  intro Q hQ
  obtain ⟨i2, l2, e2, hl2, hf2, hR2⟩ := hF d i l s hR hT h15 hC
  subst hl2
  rw [show d + K + 4 = d + K + 3 + 1 from rfl, c_M_readBoth, b_M_readBoth_0]
  simp (disch := first | assumption | omega) only [b_M_readBoth_0, b_M_readBoth_11, b_M_readBoth_19, b_M_readBoth_26, ↓Bool.cond_decide, ↓q_in, q_le, q_lt, q_eq, q_leT, q_leF, q_ltT, q_ltF, q_eqT, q_eqF, ↓reduceIte, not_true_eq_false, not_false_eq_true, true_and, and_true, and_self, false_and, and_false, Nat.zero_le, am_bd_some, q_app, q_app0, nI_add, pk_sub, pk_mul, q_dec, q_ix, q_m1, q_m1', ↓q_ret, q_bool, q_bool1, q_u2, q_u1, q_shl1, q_shr, q_and7, q_dg, fa_or, fa_and, decide_true, decide_false, Bool.or_false, Bool.or_true, Bool.true_or, Bool.false_or, cond_true, cond_false, ite_not, q_some, q_nn, q_xor, q_xorm, Bool.false_eq_true, decide_eq_true_eq, ne_eq, l_0, l_1, l_4, l_5, l_7, l_11, l_17, l_19, l_26, l_3007, e2]
  exact MR_mono (key 1000 (F s) i2 hR2 (Pg_cb (hok s hC) hC) hf2 (fun _ => by omega)) (fun i' l' q => hQ i' l' q)
theorem ct_readTruth {law dp K : Nat} {F : PS → PS} (hdp : dp < 7) (hok : OkF B N F) (hF : ∀ d, Ct B N law mM_readBoth [.ref 0, .int (nI dp)] (d + K + 3) F) (d : Nat) : Ct B N law mM_readTruth [.ref 0, .int (nI dp)] (d + K + 4) (fun s => lpS B N 18 3008 F 1000 (F s)) := by
  intro i l s hR hT h15 hC
  have hN := hT.1
  have key : ∀ n s1 i1, RP B N i1 s1 → CB B N s1 → Fx [4, 106, 107, 109, 110, 111, 112] i i1 → (s1.1 = 0 → N < s1.2.2.1 + n) → MR none (fun i' l' => l' = l ∧ Fx [4, 106, 107, 109, 110, 111, 112] i i' ∧ RP B N i' (lpS B N 18 3008 F n s1)) (am_Ex (d + K + 3) mM_readTruth 5 [.val (.ref 0), .val (.int (nI dp))] [] (i1, l, rM, kM)) := by
    intro n
    induction n with
    | zero =>
      intro s1 i1 hR1 hC1 hf1 hn
      have h0 : s1.1 ≠ 0 := fun z => by
        have a1 := hn z
        have a2 := (hC1 z).2
        have a3 := pj_le B N s1.2.2.1
        omega
      have hb : isS B N 18 s1 = false := decide_eq_false (fun z => h0 z.1)
      have hT1 : TP i1 B N := TP_fx hf1 hT rfl rfl
      obtain ⟨i2, l2, e2, hl2, hf2, hR2⟩ := r_M_eats (i := i1) (l := l) (d + K) (k := 18) (by decide) hT1 hR1
      subst hl2
      have et : etS B N 18 s1 = s1 := by unfold etS; rw [if_neg (by rw [hb]; decide)]
      rw [et] at hR2
      refine MR_q ?_
      intro Q hQ
      rw [b_M_readTruth_5]
      simp (disch := first | assumption | omega) only [b_M_readTruth_0, b_M_readTruth_11, b_M_readTruth_19, b_M_readTruth_26, ↓Bool.cond_decide, ↓q_in, q_le, q_lt, q_eq, q_leT, q_leF, q_ltT, q_ltF, q_eqT, q_eqF, ↓reduceIte, not_true_eq_false, not_false_eq_true, true_and, and_true, and_self, false_and, and_false, Nat.zero_le, am_bd_some, q_app, q_app0, nI_add, pk_sub, pk_mul, q_dec, q_ix, q_m1, q_m1', ↓q_ret, q_bool, q_bool1, q_u2, q_u1, q_shl1, q_shr, q_and7, q_dg, fa_or, fa_and, decide_true, decide_false, Bool.or_false, Bool.or_true, Bool.true_or, Bool.false_or, cond_true, cond_false, ite_not, q_some, q_nn, q_xor, q_xorm, Bool.false_eq_true, decide_eq_true_eq, ne_eq, l_0, l_1, l_4, l_5, l_7, l_11, l_18, l_19, l_26, l_3008, e2, hb]
      exact MR_some (hQ _ _ ⟨rfl, by (repeat (first | exact Fx_refl _ _ | assumption | refine Fx_u2 rfl ?_ | refine Fx_u1 rfl (by decide) ?_ | refine Fx_step (by assumption) rfl ?_ | refine Fx_stepr (by assumption) rfl rfl ?_)), hR2⟩)
    | succ n ih =>
      intro s1 i1 hR1 hC1 hf1 hn
      have hT1 : TP i1 B N := TP_fx hf1 hT rfl rfl
      obtain ⟨i2, l2, e2, hl2, hf2, hR2⟩ := r_M_eats (i := i1) (l := l) (d + K) (k := 18) (by decide) hT1 hR1
      subst hl2
      refine MR_q ?_
      intro Q hQ
      rw [b_M_readTruth_5]
      rw [lpS] at hQ
      cases hb : isS B N 18 s1 with
      | false =>
        have et : etS B N 18 s1 = s1 := by unfold etS; rw [if_neg (by rw [hb]; decide)]
        rw [et] at hR2
        rw [hb, if_neg (by decide)] at hQ
        simp (disch := first | assumption | omega) only [b_M_readTruth_0, b_M_readTruth_11, b_M_readTruth_19, b_M_readTruth_26, ↓Bool.cond_decide, ↓q_in, q_le, q_lt, q_eq, q_leT, q_leF, q_ltT, q_ltF, q_eqT, q_eqF, ↓reduceIte, not_true_eq_false, not_false_eq_true, true_and, and_true, and_self, false_and, and_false, Nat.zero_le, am_bd_some, q_app, q_app0, nI_add, pk_sub, pk_mul, q_dec, q_ix, q_m1, q_m1', ↓q_ret, q_bool, q_bool1, q_u2, q_u1, q_shl1, q_shr, q_and7, q_dg, fa_or, fa_and, decide_true, decide_false, Bool.or_false, Bool.or_true, Bool.true_or, Bool.false_or, cond_true, cond_false, ite_not, q_some, q_nn, q_xor, q_xorm, Bool.false_eq_true, decide_eq_true_eq, ne_eq, l_0, l_1, l_4, l_5, l_7, l_11, l_18, l_19, l_26, l_3008, e2, hb]
        exact MR_some (hQ _ _ ⟨rfl, by (repeat (first | exact Fx_refl _ _ | assumption | refine Fx_u2 rfl ?_ | refine Fx_u1 rfl (by decide) ?_ | refine Fx_step (by assumption) rfl ?_ | refine Fx_stepr (by assumption) rfl rfl ?_)), hR2⟩)
      | true =>
        have et : etS B N 18 s1 = nxS s1 := by unfold etS; rw [if_pos hb]
        rw [et] at hR2
        rw [hb, if_pos rfl] at hQ
        obtain ⟨h0, hkk⟩ := isS_w hb
        have hk24 : kj B N s1.2.2.1 ≠ 24 := by rw [hkk]; decide
        have hC2 := Pg_cb (Pg_nx hC1 hk24) hC1
        have hT2 : TP i2 B N := TP_fx hf2 hT1 rfl rfl
        obtain ⟨p1, p2⟩ := Pg_ncd (c := 3008) hok hC1 hk24
        obtain ⟨i3, l3, e3, hl3, hf3, hR3⟩ := hF d i2 l2 (nxS s1) hR2 hT2 (by rw [hf2 0 15 rfl, hf1 0 15 rfl]; exact h15) hC2
        subst hl3
        obtain ⟨i4, l4, e4, hl4, hf4, hR4⟩ := r_M_codes (i := i3) (l := l3) (d + K + 2) (c := 3008) hR3 (fun z => by have := p2 z; omega)
        subst hl4
        simp (disch := first | assumption | omega) only [b_M_readTruth_0, b_M_readTruth_11, b_M_readTruth_19, b_M_readTruth_26, ↓Bool.cond_decide, ↓q_in, q_le, q_lt, q_eq, q_leT, q_leF, q_ltT, q_ltF, q_eqT, q_eqF, ↓reduceIte, not_true_eq_false, not_false_eq_true, true_and, and_true, and_self, false_and, and_false, Nat.zero_le, am_bd_some, q_app, q_app0, nI_add, pk_sub, pk_mul, q_dec, q_ix, q_m1, q_m1', ↓q_ret, q_bool, q_bool1, q_u2, q_u1, q_shl1, q_shr, q_and7, q_dg, fa_or, fa_and, decide_true, decide_false, Bool.or_false, Bool.or_true, Bool.true_or, Bool.false_or, cond_true, cond_false, ite_not, q_some, q_nn, q_xor, q_xorm, Bool.false_eq_true, decide_eq_true_eq, ne_eq, l_0, l_1, l_4, l_5, l_7, l_11, l_18, l_19, l_26, l_3008, e2, hb, e3, e4]
        refine MR_mono (ih _ i4 hR4 (Pg_cb p1 hC1) (by (repeat (first | exact Fx_refl _ _ | assumption | refine Fx_u2 rfl ?_ | refine Fx_u1 rfl (by decide) ?_ | refine Fx_step (by assumption) rfl ?_ | refine Fx_stepr (by assumption) rfl rfl ?_))) (fun z => ?_)) (fun i' l' q => hQ i' l' q)
        have a1 := hn h0
        have a2 := (p1 z).2.1
        omega
  refine MR_q ?_
  intro Q hQ
  obtain ⟨i2, l2, e2, hl2, hf2, hR2⟩ := hF d i l s hR hT h15 hC
  subst hl2
  rw [show d + K + 4 = d + K + 3 + 1 from rfl, c_M_readTruth, b_M_readTruth_0]
  simp (disch := first | assumption | omega) only [b_M_readTruth_0, b_M_readTruth_11, b_M_readTruth_19, b_M_readTruth_26, ↓Bool.cond_decide, ↓q_in, q_le, q_lt, q_eq, q_leT, q_leF, q_ltT, q_ltF, q_eqT, q_eqF, ↓reduceIte, not_true_eq_false, not_false_eq_true, true_and, and_true, and_self, false_and, and_false, Nat.zero_le, am_bd_some, q_app, q_app0, nI_add, pk_sub, pk_mul, q_dec, q_ix, q_m1, q_m1', ↓q_ret, q_bool, q_bool1, q_u2, q_u1, q_shl1, q_shr, q_and7, q_dg, fa_or, fa_and, decide_true, decide_false, Bool.or_false, Bool.or_true, Bool.true_or, Bool.false_or, cond_true, cond_false, ite_not, q_some, q_nn, q_xor, q_xorm, Bool.false_eq_true, decide_eq_true_eq, ne_eq, l_0, l_1, l_4, l_5, l_7, l_11, l_18, l_19, l_26, l_3008, e2]
  exact MR_mono (key 1000 (F s) i2 hR2 (Pg_cb (hok s hC) hC) hf2 (fun _ => by omega)) (fun i' l' q => hQ i' l' q)
theorem ct_readSum {law dp K : Nat} {F : PS → PS} (hdp : dp < 7) (hok : OkF B N F) (hF : ∀ d, Ct B N law mM_readTerm [.ref 0, .int (nI dp)] (d + K + 3) F) (d : Nat) : Ct B N law mM_readSum [.ref 0, .int (nI dp)] (d + K + 4) (smS B N F) := by
  intro i l s hR hT h15 hC
  have hN := hT.1
  have key : ∀ n s1 i1 z2, RP B N i1 s1 → CB B N s1 → Fx [4, 106, 107, 109, 110, 111, 112] i i1 → (s1.1 = 0 → N < s1.2.2.1 + n) → MR none (fun i' l' => l' = l ∧ Fx [4, 106, 107, 109, 110, 111, 112] i i' ∧ RP B N i' (plS B N F n s1)) (am_Ex (d + K + 3) mM_readSum 5 [.val (.ref 0), .val (.int (nI dp)), z2] [] (i1, l, rM, kM)) := by
    intro n
    induction n with
    | zero =>
      intro s1 i1 z2 hR1 hC1 hf1 hn
      have h0 : s1.1 ≠ 0 := fun z => by
        have a1 := hn z
        have a2 := (hC1 z).2
        have a3 := pj_le B N s1.2.2.1
        omega
      have hb1 : isS B N 32 s1 = false := decide_eq_false (fun z => h0 z.1)
      have hb2 : isS B N 33 s1 = false := decide_eq_false (fun z => h0 z.1)
      have i1' := s_M_is (i := i1) (l := l) (d + K + 2) (k := 32) (by decide) hR1
      have i2' := s_M_is (i := i1) (l := l) (d + K + 2) (k := 33) (by decide) hR1
      refine MR_q ?_
      intro Q hQ
      rw [b_M_readSum_5]
      simp (disch := first | assumption | omega) only [b_M_readSum_0, b_M_readSum_11, b_M_readSum_20, b_M_readSum_23, b_M_readSum_41, b_M_readSum_46, b_M_readSum_51, b_M_readSum_56, ↓Bool.cond_decide, ↓q_in, q_le, q_lt, q_eq, q_leT, q_leF, q_ltT, q_ltF, q_eqT, q_eqF, ↓reduceIte, not_true_eq_false, not_false_eq_true, true_and, and_true, and_self, false_and, and_false, Nat.zero_le, am_bd_some, q_app, q_app0, nI_add, pk_sub, pk_mul, q_dec, q_ix, q_m1, q_m1', ↓q_ret, q_bool, q_bool1, q_u2, q_u1, q_shl1, q_shr, q_and7, q_dg, fa_or, fa_and, decide_true, decide_false, Bool.or_false, Bool.or_true, Bool.true_or, Bool.false_or, cond_true, cond_false, ite_not, q_some, q_nn, q_xor, q_xorm, Bool.false_eq_true, decide_eq_true_eq, ne_eq, l_0, l_1, l_4, l_5, l_7, l_9, l_11, l_20, l_23, l_32, l_33, l_41, l_46, l_51, l_56, l_3000, l_3001, i1', i2', hb1, hb2]
      exact MR_some (hQ _ _ ⟨rfl, hf1, hR1⟩)
    | succ n ih =>
      intro s1 i1 z2 hR1 hC1 hf1 hn
      have hT1 : TP i1 B N := TP_fx hf1 hT rfl rfl
      have i1' := s_M_is (i := i1) (l := l) (d + K + 2) (k := 32) (by decide) hR1
      have i2' := s_M_is (i := i1) (l := l) (d + K + 2) (k := 33) (by decide) hR1
      refine MR_q ?_
      intro Q hQ
      rw [b_M_readSum_5]
      rw [plS] at hQ
      have body : ∀ c, isS B N 32 s1 = true ∨ isS B N 33 s1 = true → (∀ i' l', (l' = l ∧ Fx [4, 106, 107, 109, 110, 111, 112] i i' ∧ RP B N i' (plS B N F n (cdS c (F (nxS s1))))) → Q i' l') → ∀ z2, MR none Q (am_Ex (d + K + 3) mM_readSum 41 [.val (.ref 0), .val (.int (nI dp)), z2] [.int (nI c)] (i1, l, rM, kM)) := by
        intro c hor hQ z2
        have h0 : s1.1 = 0 := hor.elim (fun q => (isS_w q).1) (fun q => (isS_w q).1)
        have hk24 : kj B N s1.2.2.1 ≠ 24 := by rcases hor with q | q <;> rw [(isS_w q).2] <;> decide
        obtain ⟨i2, l2, e2, hl2, hf2, hR2⟩ := r_M_nx (i := i1) (l := l) (d + K + 1) hT1 hR1 h0
        subst hl2
        have hC2 := Pg_cb (Pg_nx hC1 hk24) hC1
        have hT2 : TP i2 B N := TP_fx hf2 hT1 rfl rfl
        obtain ⟨p1, p2⟩ := Pg_ncd (c := c) hok hC1 hk24
        obtain ⟨i3, l3, e3, hl3, hf3, hR3⟩ := hF d i2 l2 (nxS s1) hR2 hT2 (by rw [hf2 0 15 rfl, hf1 0 15 rfl]; exact h15) hC2
        subst hl3
        obtain ⟨i4, l4, e4, hl4, hf4, hR4⟩ := r_M_codes (i := i3) (l := l3) (d + K + 2) (c := c) hR3 (fun z => by have := p2 z; omega)
        subst hl4
        rw [b_M_readSum_41]
        simp (disch := first | assumption | omega) only [b_M_readSum_0, b_M_readSum_11, b_M_readSum_20, b_M_readSum_23, b_M_readSum_41, b_M_readSum_46, b_M_readSum_51, b_M_readSum_56, s_M_is, ↓Bool.cond_decide, ↓q_in, q_le, q_lt, q_eq, q_leT, q_leF, q_ltT, q_ltF, q_eqT, q_eqF, ↓reduceIte, not_true_eq_false, not_false_eq_true, true_and, and_true, and_self, false_and, and_false, Nat.zero_le, am_bd_some, q_app, q_app0, nI_add, pk_sub, pk_mul, q_dec, q_ix, q_m1, q_m1', ↓q_ret, q_bool, q_bool1, q_u2, q_u1, q_shl1, q_shr, q_and7, q_dg, fa_or, fa_and, decide_true, decide_false, Bool.or_false, Bool.or_true, Bool.true_or, Bool.false_or, cond_true, cond_false, ite_not, q_some, q_nn, q_xor, q_xorm, Bool.false_eq_true, decide_eq_true_eq, ne_eq, l_0, l_1, l_4, l_5, l_7, l_9, l_11, l_20, l_23, l_32, l_33, l_41, l_46, l_51, l_56, l_3000, l_3001, e2, e3, e4]
        refine MR_mono (ih _ i4 _ hR4 (Pg_cb p1 hC1) (by (repeat (first | exact Fx_refl _ _ | assumption | refine Fx_u2 rfl ?_ | refine Fx_u1 rfl (by decide) ?_ | refine Fx_step (by assumption) rfl ?_ | refine Fx_stepr (by assumption) rfl rfl ?_))) (fun z => ?_)) (fun i' l' q => hQ i' l' q)
        have a1 := hn h0
        have a2 := (p1 z).2.1
        omega
      cases hb1 : isS B N 32 s1 with
      | true =>
        rw [hb1, if_pos rfl] at hQ
        obtain ⟨h0, hkk⟩ := isS_w hb1
        have h9 := (hR1.2.2.2 h0).2.2.1
        rw [hkk] at h9
        simp (disch := first | assumption | omega) only [b_M_readSum_0, b_M_readSum_11, b_M_readSum_20, b_M_readSum_23, b_M_readSum_46, b_M_readSum_51, b_M_readSum_56, ↓Bool.cond_decide, ↓q_in, q_le, q_lt, q_eq, q_leT, q_leF, q_ltT, q_ltF, q_eqT, q_eqF, ↓reduceIte, not_true_eq_false, not_false_eq_true, true_and, and_true, and_self, false_and, and_false, Nat.zero_le, am_bd_some, q_app, q_app0, nI_add, pk_sub, pk_mul, q_dec, q_ix, q_m1, q_m1', ↓q_ret, q_bool, q_bool1, q_u2, q_u1, q_shl1, q_shr, q_and7, q_dg, fa_or, fa_and, decide_true, decide_false, Bool.or_false, Bool.or_true, Bool.true_or, Bool.false_or, cond_true, cond_false, ite_not, q_some, q_nn, q_xor, q_xorm, Bool.false_eq_true, decide_eq_true_eq, ne_eq, l_0, l_1, l_4, l_5, l_7, l_9, l_11, l_20, l_23, l_32, l_33, l_41, l_46, l_51, l_56, l_3000, l_3001, i1', i2', hb1, h9]
        exact body 3000 (Or.inl hb1) hQ _
      | false =>
        rw [hb1, if_neg (by decide)] at hQ
        cases hb2 : isS B N 33 s1 with
        | true =>
          rw [hb2, if_pos rfl] at hQ
          obtain ⟨h0, hkk⟩ := isS_w hb2
          have h9 := (hR1.2.2.2 h0).2.2.1
          rw [hkk] at h9
          simp (disch := first | assumption | omega) only [b_M_readSum_0, b_M_readSum_11, b_M_readSum_20, b_M_readSum_23, b_M_readSum_46, b_M_readSum_51, b_M_readSum_56, ↓Bool.cond_decide, ↓q_in, q_le, q_lt, q_eq, q_leT, q_leF, q_ltT, q_ltF, q_eqT, q_eqF, ↓reduceIte, not_true_eq_false, not_false_eq_true, true_and, and_true, and_self, false_and, and_false, Nat.zero_le, am_bd_some, q_app, q_app0, nI_add, pk_sub, pk_mul, q_dec, q_ix, q_m1, q_m1', ↓q_ret, q_bool, q_bool1, q_u2, q_u1, q_shl1, q_shr, q_and7, q_dg, fa_or, fa_and, decide_true, decide_false, Bool.or_false, Bool.or_true, Bool.true_or, Bool.false_or, cond_true, cond_false, ite_not, q_some, q_nn, q_xor, q_xorm, Bool.false_eq_true, decide_eq_true_eq, ne_eq, l_0, l_1, l_4, l_5, l_7, l_9, l_11, l_20, l_23, l_32, l_33, l_41, l_46, l_51, l_56, l_3000, l_3001, i1', i2', hb1, hb2, h9]
          exact body 3001 (Or.inr hb2) hQ _
        | false =>
          rw [hb2, if_neg (by decide)] at hQ
          simp (disch := first | assumption | omega) only [b_M_readSum_0, b_M_readSum_11, b_M_readSum_20, b_M_readSum_23, b_M_readSum_46, b_M_readSum_51, b_M_readSum_56, ↓Bool.cond_decide, ↓q_in, q_le, q_lt, q_eq, q_leT, q_leF, q_ltT, q_ltF, q_eqT, q_eqF, ↓reduceIte, not_true_eq_false, not_false_eq_true, true_and, and_true, and_self, false_and, and_false, Nat.zero_le, am_bd_some, q_app, q_app0, nI_add, pk_sub, pk_mul, q_dec, q_ix, q_m1, q_m1', ↓q_ret, q_bool, q_bool1, q_u2, q_u1, q_shl1, q_shr, q_and7, q_dg, fa_or, fa_and, decide_true, decide_false, Bool.or_false, Bool.or_true, Bool.true_or, Bool.false_or, cond_true, cond_false, ite_not, q_some, q_nn, q_xor, q_xorm, Bool.false_eq_true, decide_eq_true_eq, ne_eq, l_0, l_1, l_4, l_5, l_7, l_9, l_11, l_20, l_23, l_32, l_33, l_41, l_46, l_51, l_56, l_3000, l_3001, i1', i2', hb1, hb2]
          exact MR_some (hQ _ _ ⟨rfl, hf1, hR1⟩)
  refine MR_q ?_
  intro Q hQ
  obtain ⟨i2, l2, e2, hl2, hf2, hR2⟩ := hF d i l s hR hT h15 hC
  subst hl2
  rw [show d + K + 4 = d + K + 3 + 1 from rfl, c_M_readSum, b_M_readSum_0]
  simp (disch := first | assumption | omega) only [b_M_readSum_0, b_M_readSum_11, b_M_readSum_20, b_M_readSum_23, b_M_readSum_41, b_M_readSum_46, b_M_readSum_51, b_M_readSum_56, s_M_is, ↓Bool.cond_decide, ↓q_in, q_le, q_lt, q_eq, q_leT, q_leF, q_ltT, q_ltF, q_eqT, q_eqF, ↓reduceIte, not_true_eq_false, not_false_eq_true, true_and, and_true, and_self, false_and, and_false, Nat.zero_le, am_bd_some, q_app, q_app0, nI_add, pk_sub, pk_mul, q_dec, q_ix, q_m1, q_m1', ↓q_ret, q_bool, q_bool1, q_u2, q_u1, q_shl1, q_shr, q_and7, q_dg, fa_or, fa_and, decide_true, decide_false, Bool.or_false, Bool.or_true, Bool.true_or, Bool.false_or, cond_true, cond_false, ite_not, q_some, q_nn, q_xor, q_xorm, Bool.false_eq_true, decide_eq_true_eq, ne_eq, l_0, l_1, l_4, l_5, l_7, l_9, l_11, l_20, l_23, l_32, l_33, l_41, l_46, l_51, l_56, l_3000, l_3001, e2]
  exact MR_mono (key 1000 (F s) i2 _ hR2 (Pg_cb (hok s hC) hC) hf2 (fun _ => by omega)) (fun i' l' q => hQ i' l' q)
theorem ct_readAtom {law dp r K : Nat} {sub : PS → PS} (hl : law < 2) (hdr : dp + r = 6) (hok : r ≠ 0 → OkF B N sub) (hF : r ≠ 0 → ∀ d, Ct B N law mM_readSum [.ref 0, .int (nI (dp + 1))] (d + K + 3) sub) (d : Nat) : Ct B N law mM_readAtom [.ref 0, .int (nI dp)] (d + K + 4) (atS B N law r sub) := by
  intro i l s hR hT h15 hC
  have hN := hT.1
  have h11 := hR.1
  have i23 := s_M_is (i := i) (l := l) (d + K + 2) (k := 23) (by decide) hR
  have i35 := s_M_is (i := i) (l := l) (d + K + 2) (k := 35) (by decide) hR
  refine MR_q ?_
  intro Q hQ
  rw [show d + K + 4 = d + K + 3 + 1 from rfl, c_M_readAtom, b_M_readAtom_0]
  unfold atS at hQ
  have emit : ∀ c, s.1 = 0 → kj B N s.2.2.1 ≠ 24 → ∃ i3, (∃ i2, am_cl (d + K + 3) mM_codes [.ref 0, .int (nI c)] (i, l, rM, kM) = some (none, (i2, l, rM, kM)) ∧ am_cl (d + K + 3) mM_next [.ref 0] (i2, l, rM, kM) = some (none, (i3, l, rM, kM))) ∧ Fx [4, 106, 107, 109, 110, 111, 112] i i3 ∧ RP B N i3 (nxS (cdS c s)) := by
    intro c h0 hk
    have hjn := (nx_pj hC h0 hk).2
    have hcc := (hC h0).1
    obtain ⟨i2, l2, e2, hl2, hf2, hR2⟩ := r_M_codes (i := i) (l := l) (d + K + 2) (c := c) hR (fun _ => by omega)
    subst hl2
    obtain ⟨i3, l3, e3, hl3, hf3, hR3⟩ := r_M_nx (i := i2) (l := l2) (d + K + 1) (TP_fx hf2 hT rfl rfl) hR2 (by rw [cdS_w]; exact h0)
    subst hl3
    exact ⟨i3, ⟨i2, e2, e3⟩, by (repeat (first | exact Fx_refl _ _ | assumption | refine Fx_u2 rfl ?_ | refine Fx_u1 rfl (by decide) ?_ | refine Fx_step (by assumption) rfl ?_ | refine Fx_stepr (by assumption) rfl rfl ?_)), hR3⟩
  cases hb : isS B N 23 s with
  | true =>
    rw [hb, if_pos rfl] at hQ
    obtain ⟨h0, hkk⟩ := isS_w hb
    have h10 := (hR.2.2.2 h0).2.2.2.1 hkk
    obtain ⟨i3, ⟨i2, e2, e3⟩, hf3, hR3⟩ := emit (uj B N s.2.2.1) h0 (by rw [hkk]; decide)
    simp (disch := first | assumption | omega) only [b_M_readAtom_0, b_M_readAtom_6, b_M_readAtom_17, b_M_readAtom_21, b_M_readAtom_39, b_M_readAtom_55, b_M_readAtom_59, b_M_readAtom_63, b_M_readAtom_66, b_M_readAtom_72, b_M_readAtom_80, b_M_readAtom_91, b_M_readAtom_97, b_M_readAtom_105, b_M_readAtom_113, s_M_wordOf, ↓Bool.cond_decide, ↓q_in, q_le, q_lt, q_eq, q_leT, q_leF, q_ltT, q_ltF, q_eqT, q_eqF, ↓reduceIte, not_true_eq_false, not_false_eq_true, true_and, and_true, and_self, false_and, and_false, Nat.zero_le, am_bd_some, q_app, q_app0, nI_add, pk_sub, pk_mul, q_dec, q_ix, q_m1, q_m1', ↓q_ret, q_bool, q_bool1, q_u2, q_u1, q_shl1, q_shr, q_and7, q_dg, fa_or, fa_and, decide_true, decide_false, Bool.or_false, Bool.or_true, Bool.true_or, Bool.false_or, cond_true, cond_false, ite_not, q_some, q_nn, q_xor, q_xorm, Bool.false_eq_true, decide_eq_true_eq, ne_eq, l_0, l_1, l_2, l_3, l_4, l_5, l_6, l_7, l_9, l_10, l_11, l_15, l_17, l_21, l_23, l_35, l_36, l_39, l_55, l_59, l_63, l_66, l_72, l_80, l_91, l_97, l_105, l_113, l_1000, i23, hb, h10, e2, e3]
    exact MR_some (hQ _ _ ⟨rfl, hf3, hR3⟩)
  | false =>
    rw [hb, if_neg (by decide)] at hQ
    by_cases h0 : s.1 = 0
    · obtain ⟨q6, q7, q9, q10, q4⟩ := hR.2.2.2 h0
      have hkl := kj_lt B N s.2.2.1
      have hwo := s_M_wordOf (i := i) (l := l) (d + K + 2) (law := law) (k := kj B N s.2.2.1) (by omega) hl h15
      cases hw : wdO law (kj B N s.2.2.1) with
      | some w =>
        have hwl : w < 10 := by
          unfold wdO at hw
          repeat' split at hw
          all_goals first | (cases hw; decide) | cases hw
        rw [hw, if_pos ⟨h0, rfl⟩] at hQ
        rw [hw] at hwo
        obtain ⟨i3, ⟨i2, e2, e3⟩, hf3, hR3⟩ := emit (1000 + w) h0 (fun z => by rw [z, wdO_24] at hw; cases hw)
        simp (disch := first | assumption | omega) only [b_M_readAtom_0, b_M_readAtom_6, b_M_readAtom_17, b_M_readAtom_21, b_M_readAtom_39, b_M_readAtom_55, b_M_readAtom_59, b_M_readAtom_63, b_M_readAtom_66, b_M_readAtom_72, b_M_readAtom_80, b_M_readAtom_91, b_M_readAtom_97, b_M_readAtom_105, b_M_readAtom_113, ↓Bool.cond_decide, ↓q_in, q_le, q_lt, q_eq, q_leT, q_leF, q_ltT, q_ltF, q_eqT, q_eqF, ↓reduceIte, not_true_eq_false, not_false_eq_true, true_and, and_true, and_self, false_and, and_false, Nat.zero_le, am_bd_some, q_app, q_app0, nI_add, pk_sub, pk_mul, q_dec, q_ix, q_m1, q_m1', ↓q_ret, q_bool, q_bool1, q_u2, q_u1, q_shl1, q_shr, q_and7, q_dg, fa_or, fa_and, decide_true, decide_false, Bool.or_false, Bool.or_true, Bool.true_or, Bool.false_or, cond_true, cond_false, ite_not, q_some, q_nn, q_xor, q_xorm, Bool.false_eq_true, decide_eq_true_eq, ne_eq, l_0, l_1, l_2, l_3, l_4, l_5, l_6, l_7, l_9, l_10, l_11, l_15, l_17, l_21, l_23, l_35, l_36, l_39, l_55, l_59, l_63, l_66, l_72, l_80, l_91, l_97, l_105, l_113, l_1000, i23, hb, h11, h0, q9, hwo, q_vW1, e2, e3]
        exact MR_some (hQ _ _ ⟨rfl, hf3, hR3⟩)
      | none =>
        rw [hw, if_neg (fun z => by cases z.2)] at hQ
        rw [hw] at hwo
        cases hb35 : isS B N 35 s with
        | true =>
          rw [hb35, if_pos rfl] at hQ
          obtain ⟨_, hkk⟩ := isS_w hb35
          have hk24 : kj B N s.2.2.1 ≠ 24 := by rw [hkk]; decide
          obtain ⟨i2, l2, e2, hl2, hf2, hR2⟩ := r_M_goesIn (i := i) (l := l) (d + K) hdr hT hR h0
          subst hl2
          by_cases g0 : (giS B N r s).1 = 0
          · rw [if_pos g0] at hQ
            rw [if_pos g0] at e2
            obtain ⟨g1, g2, g3⟩ := gi_0 g0
            rw [g3] at hQ hR2
            have hC2 := Pg_cb (Pg_nx hC hk24) hC
            have hT2 : TP i2 B N := TP_fx hf2 hT rfl rfl
            obtain ⟨i3, l3, e3, hl3, hf3, hR3⟩ := hF g1 d i2 l2 (nxS s) hR2 hT2 (by rw [hf2 0 15 rfl]; exact h15) hC2
            subst hl3
            have hT3 : TP i3 B N := TP_fx hf3 hT2 rfl rfl
            obtain ⟨i4, l4, e4, hl4, hf4, hR4⟩ := r_M_eats (i := i3) (l := l3) (d + K) (k := 36) (by decide) hT3 hR3
            subst hl4
            cases hb36 : isS B N 36 (sub (nxS s)) with
            | true =>
              rw [hb36, if_pos rfl] at hQ
              have et : etS B N 36 (sub (nxS s)) = nxS (sub (nxS s)) := by unfold etS; rw [if_pos hb36]
              rw [et] at hR4
              rw [hb36] at e4
              simp (disch := first | assumption | omega) only [b_M_readAtom_0, b_M_readAtom_6, b_M_readAtom_17, b_M_readAtom_21, b_M_readAtom_39, b_M_readAtom_55, b_M_readAtom_59, b_M_readAtom_63, b_M_readAtom_66, b_M_readAtom_72, b_M_readAtom_80, b_M_readAtom_91, b_M_readAtom_97, b_M_readAtom_105, b_M_readAtom_113, ↓Bool.cond_decide, ↓q_in, q_le, q_lt, q_eq, q_leT, q_leF, q_ltT, q_ltF, q_eqT, q_eqF, ↓reduceIte, not_true_eq_false, not_false_eq_true, true_and, and_true, and_self, false_and, and_false, Nat.zero_le, am_bd_some, q_app, q_app0, nI_add, pk_sub, pk_mul, q_dec, q_ix, q_m1, q_m1', ↓q_ret, q_bool, q_bool1, q_u2, q_u1, q_shl1, q_shr, q_and7, q_dg, fa_or, fa_and, decide_true, decide_false, Bool.or_false, Bool.or_true, Bool.true_or, Bool.false_or, cond_true, cond_false, ite_not, q_some, q_nn, q_xor, q_xorm, Bool.false_eq_true, decide_eq_true_eq, ne_eq, l_0, l_1, l_2, l_3, l_4, l_5, l_6, l_7, l_9, l_10, l_11, l_15, l_17, l_21, l_23, l_35, l_36, l_39, l_55, l_59, l_63, l_66, l_72, l_80, l_91, l_97, l_105, l_113, l_1000, i23, i35, hb, hb35, h11, h0, q9, hwo, q_vW0, e2, e3, e4]
              exact MR_some (hQ _ _ ⟨rfl, by (repeat (first | exact Fx_refl _ _ | assumption | refine Fx_u2 rfl ?_ | refine Fx_u1 rfl (by decide) ?_ | refine Fx_step (by assumption) rfl ?_ | refine Fx_stepr (by assumption) rfl rfl ?_)), hR4⟩)
            | false =>
              rw [hb36, if_neg (by decide)] at hQ
              have et : etS B N 36 (sub (nxS s)) = sub (nxS s) := by unfold etS; rw [if_neg (by rw [hb36]; decide)]
              rw [et] at hR4
              rw [hb36] at e4
              obtain ⟨i5, l5, e5, hl5, hf5, hR5⟩ := r_M_fails (i := i4) (l := l4) (d + K + 2) (k := 2) (by decide) (by decide) hN hR4
              subst hl5
              simp (disch := first | assumption | omega) only [b_M_readAtom_0, b_M_readAtom_6, b_M_readAtom_17, b_M_readAtom_21, b_M_readAtom_39, b_M_readAtom_55, b_M_readAtom_59, b_M_readAtom_63, b_M_readAtom_66, b_M_readAtom_72, b_M_readAtom_80, b_M_readAtom_91, b_M_readAtom_97, b_M_readAtom_105, b_M_readAtom_113, ↓Bool.cond_decide, ↓q_in, q_le, q_lt, q_eq, q_leT, q_leF, q_ltT, q_ltF, q_eqT, q_eqF, ↓reduceIte, not_true_eq_false, not_false_eq_true, true_and, and_true, and_self, false_and, and_false, Nat.zero_le, am_bd_some, q_app, q_app0, nI_add, pk_sub, pk_mul, q_dec, q_ix, q_m1, q_m1', ↓q_ret, q_bool, q_bool1, q_u2, q_u1, q_shl1, q_shr, q_and7, q_dg, fa_or, fa_and, decide_true, decide_false, Bool.or_false, Bool.or_true, Bool.true_or, Bool.false_or, cond_true, cond_false, ite_not, q_some, q_nn, q_xor, q_xorm, Bool.false_eq_true, decide_eq_true_eq, ne_eq, l_0, l_1, l_2, l_3, l_4, l_5, l_6, l_7, l_9, l_10, l_11, l_15, l_17, l_21, l_23, l_35, l_36, l_39, l_55, l_59, l_63, l_66, l_72, l_80, l_91, l_97, l_105, l_113, l_1000, i23, i35, hb, hb35, h11, h0, q9, hwo, q_vW0, e2, e3, e4, e5]
              exact MR_some (hQ _ _ ⟨rfl, by (repeat (first | exact Fx_refl _ _ | assumption | refine Fx_u2 rfl ?_ | refine Fx_u1 rfl (by decide) ?_ | refine Fx_step (by assumption) rfl ?_ | refine Fx_stepr (by assumption) rfl rfl ?_)), hR5⟩)
          · rw [if_neg g0] at hQ
            rw [if_neg g0] at e2
            simp (disch := first | assumption | omega) only [b_M_readAtom_0, b_M_readAtom_6, b_M_readAtom_17, b_M_readAtom_21, b_M_readAtom_39, b_M_readAtom_55, b_M_readAtom_59, b_M_readAtom_63, b_M_readAtom_66, b_M_readAtom_72, b_M_readAtom_80, b_M_readAtom_91, b_M_readAtom_97, b_M_readAtom_105, b_M_readAtom_113, ↓Bool.cond_decide, ↓q_in, q_le, q_lt, q_eq, q_leT, q_leF, q_ltT, q_ltF, q_eqT, q_eqF, ↓reduceIte, not_true_eq_false, not_false_eq_true, true_and, and_true, and_self, false_and, and_false, Nat.zero_le, am_bd_some, q_app, q_app0, nI_add, pk_sub, pk_mul, q_dec, q_ix, q_m1, q_m1', ↓q_ret, q_bool, q_bool1, q_u2, q_u1, q_shl1, q_shr, q_and7, q_dg, fa_or, fa_and, decide_true, decide_false, Bool.or_false, Bool.or_true, Bool.true_or, Bool.false_or, cond_true, cond_false, ite_not, q_some, q_nn, q_xor, q_xorm, Bool.false_eq_true, decide_eq_true_eq, ne_eq, l_0, l_1, l_2, l_3, l_4, l_5, l_6, l_7, l_9, l_10, l_11, l_15, l_17, l_21, l_23, l_35, l_36, l_39, l_55, l_59, l_63, l_66, l_72, l_80, l_91, l_97, l_105, l_113, l_1000, i23, i35, hb, hb35, h11, h0, q9, hwo, q_vW0, e2]
            exact MR_some (hQ _ _ ⟨rfl, by (repeat (first | exact Fx_refl _ _ | assumption | refine Fx_u2 rfl ?_ | refine Fx_u1 rfl (by decide) ?_ | refine Fx_step (by assumption) rfl ?_ | refine Fx_stepr (by assumption) rfl rfl ?_)), hR2⟩)
        | false =>
          rw [hb35, if_neg (by decide)] at hQ
          obtain ⟨i5, l5, e5, hl5, hf5, hR5⟩ := r_M_fails (i := i) (l := l) (d + K + 2) (k := 2) (by decide) (by decide) hN hR
          subst hl5
          simp (disch := first | assumption | omega) only [b_M_readAtom_0, b_M_readAtom_6, b_M_readAtom_17, b_M_readAtom_21, b_M_readAtom_39, b_M_readAtom_55, b_M_readAtom_59, b_M_readAtom_63, b_M_readAtom_66, b_M_readAtom_72, b_M_readAtom_80, b_M_readAtom_91, b_M_readAtom_97, b_M_readAtom_105, b_M_readAtom_113, ↓Bool.cond_decide, ↓q_in, q_le, q_lt, q_eq, q_leT, q_leF, q_ltT, q_ltF, q_eqT, q_eqF, ↓reduceIte, not_true_eq_false, not_false_eq_true, true_and, and_true, and_self, false_and, and_false, Nat.zero_le, am_bd_some, q_app, q_app0, nI_add, pk_sub, pk_mul, q_dec, q_ix, q_m1, q_m1', ↓q_ret, q_bool, q_bool1, q_u2, q_u1, q_shl1, q_shr, q_and7, q_dg, fa_or, fa_and, decide_true, decide_false, Bool.or_false, Bool.or_true, Bool.true_or, Bool.false_or, cond_true, cond_false, ite_not, q_some, q_nn, q_xor, q_xorm, Bool.false_eq_true, decide_eq_true_eq, ne_eq, l_0, l_1, l_2, l_3, l_4, l_5, l_6, l_7, l_9, l_10, l_11, l_15, l_17, l_21, l_23, l_35, l_36, l_39, l_55, l_59, l_63, l_66, l_72, l_80, l_91, l_97, l_105, l_113, l_1000, i23, i35, hb, hb35, h11, h0, q9, hwo, q_vW0, e5]
          exact MR_some (hQ _ _ ⟨rfl, by (repeat (first | exact Fx_refl _ _ | assumption | refine Fx_u2 rfl ?_ | refine Fx_u1 rfl (by decide) ?_ | refine Fx_step (by assumption) rfl ?_ | refine Fx_stepr (by assumption) rfl rfl ?_)), hR5⟩)
    · have hb35 : isS B N 35 s = false := decide_eq_false (fun z => h0 z.1)
      have h4 := hR.2.1
      rw [if_neg (fun z => h0 z.1), hb35, if_neg (by decide)] at hQ
      obtain ⟨i5, l5, e5, hl5, hf5, hR5⟩ := r_M_fails (i := i) (l := l) (d + K + 2) (k := 2) (by decide) (by decide) hN hR
      subst hl5
      simp (disch := first | assumption | omega) only [b_M_readAtom_0, b_M_readAtom_6, b_M_readAtom_17, b_M_readAtom_21, b_M_readAtom_39, b_M_readAtom_55, b_M_readAtom_59, b_M_readAtom_63, b_M_readAtom_66, b_M_readAtom_72, b_M_readAtom_80, b_M_readAtom_91, b_M_readAtom_97, b_M_readAtom_105, b_M_readAtom_113, s_M_wordOf, ↓Bool.cond_decide, ↓q_in, q_le, q_lt, q_eq, q_leT, q_leF, q_ltT, q_ltF, q_eqT, q_eqF, ↓reduceIte, not_true_eq_false, not_false_eq_true, true_and, and_true, and_self, false_and, and_false, Nat.zero_le, am_bd_some, q_app, q_app0, nI_add, pk_sub, pk_mul, q_dec, q_ix, q_m1, q_m1', ↓q_ret, q_bool, q_bool1, q_u2, q_u1, q_shl1, q_shr, q_and7, q_dg, fa_or, fa_and, decide_true, decide_false, Bool.or_false, Bool.or_true, Bool.true_or, Bool.false_or, cond_true, cond_false, ite_not, q_some, q_nn, q_xor, q_xorm, Bool.false_eq_true, decide_eq_true_eq, ne_eq, l_0, l_1, l_2, l_3, l_4, l_5, l_6, l_7, l_9, l_10, l_11, l_15, l_17, l_21, l_23, l_35, l_36, l_39, l_55, l_59, l_63, l_66, l_72, l_80, l_91, l_97, l_105, l_113, l_1000, i23, i35, hb, hb35, h11, h0, e5]
      exact MR_some (hQ _ _ ⟨rfl, by (repeat (first | exact Fx_refl _ _ | assumption | refine Fx_u2 rfl ?_ | refine Fx_u1 rfl (by decide) ?_ | refine Fx_step (by assumption) rfl ?_ | refine Fx_stepr (by assumption) rfl rfl ?_)), hR5⟩)
/-- sums, at each level -/
theorem ct_sumL {law : Nat} (hl : law < 2) : ∀ (r dp : Nat), dp + r = 6 → ∀ d, Ct B N law mM_readSum [.ref 0, .int (nI dp)] (d + 3 * r + 6) (sumL B N law r)
  | 0, dp, h, d => ct_readSum (K := 2) (by omega) (ok_lp (ok_at (fun z => absurd rfl z)) (by decide)) (fun d => ct_readTerm (K := 1) (by omega) (ok_at (fun z => absurd rfl z)) (fun d => ct_readAtom (K := 0) hl h (fun z => absurd rfl z) (fun z => absurd rfl z) d) d) d
  | r + 1, dp, h, d => by
    have ih := ct_sumL hl r (dp + 1) (by omega)
    have h1 := ct_readSum (B := B) (N := N) (law := law) (dp := dp) (K := 3 * r + 5) (by omega) (ok_lp (k := 34) (c := 3002) (n := 1000) (ok_at (law := law) (r := r + 1) (fun _ => ok_sumL (B := B) (N := N) (law := law) r)) (by decide)) (fun d => ct_readTerm (K := 3 * r + 4) (by omega) (ok_at (fun _ => ok_sumL r)) (fun d => ct_readAtom (K := 3 * r + 3) hl h (fun _ => ok_sumL r) (fun _ d => ih d) d) d) d
    exact h1
end
