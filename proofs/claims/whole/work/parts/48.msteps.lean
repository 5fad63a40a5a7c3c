/-! THE MODEL: trust laid -/
def tv (g : Nat → Nat) (p q gap : Nat) : Int32 := if p ≠ q ∧ sTrust g p q gap = true then nI 1 else nI 0
def TRn (g : Nat → Nat) (N : Nat) (i : Nat → Nat → Int32) : Prop := ∀ p q gap, p < g 2 → q < g 2 → 1 ≤ gap → gap < 8 → 32 * p + 8 * q + gap < N → i 8 (32 * p + 8 * q + gap) = tv g p q gap
def TR (g : Nat → Nat) (i : Nat → Nat → Int32) : Prop := ∀ p q gap, p < g 2 → q < g 2 → 1 ≤ gap → gap < 8 → i 8 (32 * p + 8 * q + gap) = tv g p q gap
section
variable {i : Nat → Nat → Int32} {l : Nat → Nat → Int64} {g : Nat → Nat}
theorem r_M_laysTrust (d : Nat) (hA : MA i g) (h2 : g 2 ≤ 4) (hL : LW g 1) : MR none (fun i' l' => l' = l ∧ Fr [5, 6, 8] i i' ∧ TR g i') (am_cl (d + 4) mM_laysTrust [.ref 0] (i, l, rM, kM)) := by
  rw [c_M_laysTrust, b_M_laysTrust_0]
  refine am_loop (fun p ls s => ∃ i' z2 z3, ls = [.val (.ref 0), .val (.int (nI p)), z2, z3] ∧ s = (i', l, rM, kM) ∧ Fr [5, 6, 8] i i' ∧ TRn g (32 * p + 1) i') (g 2) _ (fun p ls s hp hI => ?_) (fun ls s hI => ?_) ⟨i, _, _, rfl, rfl, Fr_refl _ _, fun p q gap _ _ h1 _ h2 => by omega⟩
  · obtain ⟨i1, z2, z3, e1, e2, hf1, ht1⟩ := hI
    subst e1; subst e2
    have hA1 : ∀ k, k < 3222 → i1 1 k = nI (g k) := MA_fr hf1 hA rfl
    rw [b_M_laysTrust_2]
    simp (disch := first | assumption | omega) only [b_M_laysTrust_0, b_M_laysTrust_59, b_M_laysTrust_66, b_M_laysTrust_67, ↓Bool.cond_decide, ↓q_in, q_le, q_lt, q_eq, q_leT, q_leF, q_ltT, q_ltF, q_eqT, q_eqF, ↓reduceIte, not_true_eq_false, not_false_eq_true, true_and, and_true, and_self, false_and, and_false, Nat.zero_le, am_bd_some, q_app, q_app0, nI_add, pk_sub, pk_mul, q_dec, q_ix, q_m1, q_m1', ↓q_ret, q_bool, q_bool1, q_u2, q_u1, q_shl1, q_shr, q_and7, q_dg, fa_or, fa_and, decide_true, decide_false, Bool.or_false, Bool.or_true, Bool.true_or, Bool.false_or, cond_true, cond_false, ite_not, q_some, q_nn, q_xor, q_xorm, Bool.false_eq_true, decide_eq_true_eq, ne_eq, l_0, l_1, l_2, l_4, l_5, l_6, l_7, l_8, l_12, l_14, l_26, l_28, l_32, l_59, l_66, l_67, l_103, l_128, hA1]
    refine am_loop (fun q ls s => ∃ i' z3, ls = [.val (.ref 0), .val (.int (nI p)), .val (.int (nI q)), z3] ∧ s = (i', l, rM, kM) ∧ Fr [5, 6, 8] i i' ∧ TRn g (32 * p + 8 * q + 1) i') (g 2) _ (fun q ls s hq hI => ?_) (fun ls s hI => ?_) ⟨i1, _, rfl, rfl, hf1, ht1⟩
    · obtain ⟨i2, z3, e1, e2, hf2, ht2⟩ := hI
      subst e1; subst e2
      have hA2 : ∀ k, k < 3222 → i2 1 k = nI (g k) := MA_fr hf2 hA rfl
      rw [b_M_laysTrust_14]
      simp (disch := first | assumption | omega) only [b_M_laysTrust_0, b_M_laysTrust_59, b_M_laysTrust_66, b_M_laysTrust_67, ↓Bool.cond_decide, ↓q_in, q_le, q_lt, q_eq, q_leT, q_leF, q_ltT, q_ltF, q_eqT, q_eqF, ↓reduceIte, not_true_eq_false, not_false_eq_true, true_and, and_true, and_self, false_and, and_false, Nat.zero_le, am_bd_some, q_app, q_app0, nI_add, pk_sub, pk_mul, q_dec, q_ix, q_m1, q_m1', ↓q_ret, q_bool, q_bool1, q_u2, q_u1, q_shl1, q_shr, q_and7, q_dg, fa_or, fa_and, decide_true, decide_false, Bool.or_false, Bool.or_true, Bool.true_or, Bool.false_or, cond_true, cond_false, ite_not, q_some, q_nn, q_xor, q_xorm, Bool.false_eq_true, decide_eq_true_eq, ne_eq, l_0, l_1, l_2, l_4, l_5, l_6, l_7, l_8, l_12, l_14, l_26, l_28, l_32, l_59, l_66, l_67, l_103, l_128, hA2]
      refine am_loop (fun k ls s => ∃ i', ls = [.val (.ref 0), .val (.int (nI p)), .val (.int (nI q)), .val (.int (nI (k + 1)))] ∧ s = (i', l, rM, kM) ∧ Fr [5, 6, 8] i i' ∧ TRn g (32 * p + 8 * q + (k + 1)) i') 7 _ (fun k ls s hk hI => ?_) (fun ls s hI => ?_) ⟨i2, rfl, rfl, hf2, ht2⟩
      · obtain ⟨i3, e1, e2, hf3, ht3⟩ := hI
        subst e1; subst e2
        have hA3 : MA i3 g := MA_fr hf3 hA rfl
        have put : ∀ (i4 : Nat → Nat → Int32) (v : Int32), Fr [5, 6] i3 i4 → v = tv g p q (k + 1) → Go (d + 3) mM_laysTrust 26 (fun ls s => ∃ i', ls = [.val (.ref 0), .val (.int (nI p)), .val (.int (nI q)), .val (.int (nI (k + 1 + 1)))] ∧ s = (i', l, rM, kM) ∧ Fr [5, 6, 8] i i' ∧ TRn g (32 * p + 8 * q + (k + 1 + 1)) i') (am_Ex (d + 3) mM_laysTrust 26 [.val (.ref 0), .val (.int (nI p)), .val (.int (nI q)), .val (.int (nI (k + 1 + 1)))] [] (am_u2 i4 8 (32 * p + 8 * q + (k + 1)) v, l, rM, kM)) := by
          intro i4 v hf4 hv
          refine Go_in ⟨_, rfl, rfl, by (repeat (first | exact Fr_refl _ _ | assumption | refine Fr_u2 rfl ?_ | refine Fr_u1 rfl ?_ | refine Fr_step (by assumption) rfl ?_)), ?_⟩
          intro p' q' g' a1 a2 a3 a4 a5
          by_cases hc : 32 * p' + 8 * q' + g' = 32 * p + 8 * q + (k + 1)
          · have e1 : p' = p := by omega
            have e2 : q' = q := by omega
            have e3 : g' = k + 1 := by omega
            subst e1; subst e2; subst e3
            simp only [q_u2, if_true, hv]
          · simp only [q_u2, hc, if_true, if_false]
            rw [hf4 8 rfl]
            exact ht3 p' q' g' a1 a2 a3 a4 (by omega)
        rw [b_M_laysTrust_26]
        by_cases hpq : p = q
        · simp (disch := first | assumption | omega) only [b_M_laysTrust_0, b_M_laysTrust_59, b_M_laysTrust_66, b_M_laysTrust_67, ↓Bool.cond_decide, ↓q_in, q_le, q_lt, q_eq, q_leT, q_leF, q_ltT, q_ltF, q_eqT, q_eqF, ↓reduceIte, not_true_eq_false, not_false_eq_true, true_and, and_true, and_self, false_and, and_false, Nat.zero_le, am_bd_some, q_app, q_app0, nI_add, pk_sub, pk_mul, q_dec, q_ix, q_m1, q_m1', ↓q_ret, q_bool, q_bool1, q_u2, q_u1, q_shl1, q_shr, q_and7, q_dg, fa_or, fa_and, decide_true, decide_false, Bool.or_false, Bool.or_true, Bool.true_or, Bool.false_or, cond_true, cond_false, ite_not, q_some, q_nn, q_xor, q_xorm, Bool.false_eq_true, decide_eq_true_eq, ne_eq, l_0, l_1, l_2, l_4, l_5, l_6, l_7, l_8, l_12, l_14, l_26, l_28, l_32, l_59, l_66, l_67, l_103, l_128, q_nar0]
          exact put i3 _ (Fr_refl _ _) (by rw [tv, if_neg (fun z => z.1 hpq)])
        · simp (disch := first | assumption | omega) only [b_M_laysTrust_0, b_M_laysTrust_59, b_M_laysTrust_66, b_M_laysTrust_67, ↓Bool.cond_decide, ↓q_in, q_le, q_lt, q_eq, q_leT, q_leF, q_ltT, q_ltF, q_eqT, q_eqF, ↓reduceIte, not_true_eq_false, not_false_eq_true, true_and, and_true, and_self, false_and, and_false, Nat.zero_le, am_bd_some, q_app, q_app0, nI_add, pk_sub, pk_mul, q_dec, q_ix, q_m1, q_m1', ↓q_ret, q_bool, q_bool1, q_u2, q_u1, q_shl1, q_shr, q_and7, q_dg, fa_or, fa_and, decide_true, decide_false, Bool.or_false, Bool.or_true, Bool.true_or, Bool.false_or, cond_true, cond_false, ite_not, q_some, q_nn, q_xor, q_xorm, Bool.false_eq_true, decide_eq_true_eq, ne_eq, l_0, l_1, l_2, l_4, l_5, l_6, l_7, l_8, l_12, l_14, l_26, l_28, l_32, l_59, l_66, l_67, l_103, l_128]
          obtain ⟨i4, l4, e4, hl4, hf4⟩ := r_M_trustsFor d (l := l) (p := p) (q := q) (gap := k + 1) (by omega) (by omega) hA3 hL
          subst hl4
          rw [e4]
          by_cases ht : sTrust g p q (k + 1) = true
          · simp (disch := first | assumption | omega) only [b_M_laysTrust_0, b_M_laysTrust_59, b_M_laysTrust_66, b_M_laysTrust_67, ↓Bool.cond_decide, ↓q_in, q_le, q_lt, q_eq, q_leT, q_leF, q_ltT, q_ltF, q_eqT, q_eqF, ↓reduceIte, not_true_eq_false, not_false_eq_true, true_and, and_true, and_self, false_and, and_false, Nat.zero_le, am_bd_some, q_app, q_app0, nI_add, pk_sub, pk_mul, q_dec, q_ix, q_m1, q_m1', ↓q_ret, q_bool, q_bool1, q_u2, q_u1, q_shl1, q_shr, q_and7, q_dg, fa_or, fa_and, decide_true, decide_false, Bool.or_false, Bool.or_true, Bool.true_or, Bool.false_or, cond_true, cond_false, ite_not, q_some, q_nn, q_xor, q_xorm, Bool.false_eq_true, decide_eq_true_eq, ne_eq, l_0, l_1, l_2, l_4, l_5, l_6, l_7, l_8, l_12, l_14, l_26, l_28, l_32, l_59, l_66, l_67, l_103, l_128, ht, q_nar1]
            exact put i4 _ hf4 (by rw [tv, if_pos ⟨hpq, ht⟩])
          · simp (disch := first | assumption | omega) only [b_M_laysTrust_0, b_M_laysTrust_59, b_M_laysTrust_66, b_M_laysTrust_67, ↓Bool.cond_decide, ↓q_in, q_le, q_lt, q_eq, q_leT, q_leF, q_ltT, q_ltF, q_eqT, q_eqF, ↓reduceIte, not_true_eq_false, not_false_eq_true, true_and, and_true, and_self, false_and, and_false, Nat.zero_le, am_bd_some, q_app, q_app0, nI_add, pk_sub, pk_mul, q_dec, q_ix, q_m1, q_m1', ↓q_ret, q_bool, q_bool1, q_u2, q_u1, q_shl1, q_shr, q_and7, q_dg, fa_or, fa_and, decide_true, decide_false, Bool.or_false, Bool.or_true, Bool.true_or, Bool.false_or, cond_true, cond_false, ite_not, q_some, q_nn, q_xor, q_xorm, Bool.false_eq_true, decide_eq_true_eq, ne_eq, l_0, l_1, l_2, l_4, l_5, l_6, l_7, l_8, l_12, l_14, l_26, l_28, l_32, l_59, l_66, l_67, l_103, l_128, ht, q_nar0]
            exact put i4 _ hf4 (by rw [tv, if_neg (fun z => ht z.2)])
      · obtain ⟨i3, e1, e2, hf3, ht3⟩ := hI
        subst e1; subst e2
        rw [b_M_laysTrust_26]
        simp (disch := first | assumption | omega) only [b_M_laysTrust_0, b_M_laysTrust_59, b_M_laysTrust_66, b_M_laysTrust_67, ↓Bool.cond_decide, ↓q_in, q_le, q_lt, q_eq, q_leT, q_leF, q_ltT, q_ltF, q_eqT, q_eqF, ↓reduceIte, not_true_eq_false, not_false_eq_true, true_and, and_true, and_self, false_and, and_false, Nat.zero_le, am_bd_some, q_app, q_app0, nI_add, pk_sub, pk_mul, q_dec, q_ix, q_m1, q_m1', ↓q_ret, q_bool, q_bool1, q_u2, q_u1, q_shl1, q_shr, q_and7, q_dg, fa_or, fa_and, decide_true, decide_false, Bool.or_false, Bool.or_true, Bool.true_or, Bool.false_or, cond_true, cond_false, ite_not, q_some, q_nn, q_xor, q_xorm, Bool.false_eq_true, decide_eq_true_eq, ne_eq, l_0, l_1, l_2, l_4, l_5, l_6, l_7, l_8, l_12, l_14, l_26, l_28, l_32, l_59, l_66, l_67, l_103, l_128]
        refine Go_in ⟨_, _, rfl, rfl, hf3, fun p' q' g' a1 a2 a3 a4 a5 => ht3 p' q' g' a1 a2 a3 a4 (by omega)⟩
    · obtain ⟨i2, z3, e1, e2, hf2, ht2⟩ := hI
      subst e1; subst e2
      have hA2 : ∀ k, k < 3222 → i2 1 k = nI (g k) := MA_fr hf2 hA rfl
      rw [b_M_laysTrust_14]
      simp (disch := first | assumption | omega) only [b_M_laysTrust_0, b_M_laysTrust_59, b_M_laysTrust_66, b_M_laysTrust_67, ↓Bool.cond_decide, ↓q_in, q_le, q_lt, q_eq, q_leT, q_leF, q_ltT, q_ltF, q_eqT, q_eqF, ↓reduceIte, not_true_eq_false, not_false_eq_true, true_and, and_true, and_self, false_and, and_false, Nat.zero_le, am_bd_some, q_app, q_app0, nI_add, pk_sub, pk_mul, q_dec, q_ix, q_m1, q_m1', ↓q_ret, q_bool, q_bool1, q_u2, q_u1, q_shl1, q_shr, q_and7, q_dg, fa_or, fa_and, decide_true, decide_false, Bool.or_false, Bool.or_true, Bool.true_or, Bool.false_or, cond_true, cond_false, ite_not, q_some, q_nn, q_xor, q_xorm, Bool.false_eq_true, decide_eq_true_eq, ne_eq, l_0, l_1, l_2, l_4, l_5, l_6, l_7, l_8, l_12, l_14, l_26, l_28, l_32, l_59, l_66, l_67, l_103, l_128, hA2]
      refine Go_in ⟨_, _, _, rfl, rfl, hf2, fun p' q' g' a1 a2 a3 a4 a5 => ht2 p' q' g' a1 a2 a3 a4 (by omega)⟩
  · obtain ⟨i1, z2, z3, e1, e2, hf1, ht1⟩ := hI
    subst e1; subst e2
    have hA1 : ∀ k, k < 3222 → i1 1 k = nI (g k) := MA_fr hf1 hA rfl
    rw [b_M_laysTrust_2]
    simp (disch := first | assumption | omega) only [b_M_laysTrust_0, b_M_laysTrust_59, b_M_laysTrust_66, b_M_laysTrust_67, ↓Bool.cond_decide, ↓q_in, q_le, q_lt, q_eq, q_leT, q_leF, q_ltT, q_ltF, q_eqT, q_eqF, ↓reduceIte, not_true_eq_false, not_false_eq_true, true_and, and_true, and_self, false_and, and_false, Nat.zero_le, am_bd_some, q_app, q_app0, nI_add, pk_sub, pk_mul, q_dec, q_ix, q_m1, q_m1', ↓q_ret, q_bool, q_bool1, q_u2, q_u1, q_shl1, q_shr, q_and7, q_dg, fa_or, fa_and, decide_true, decide_false, Bool.or_false, Bool.or_true, Bool.true_or, Bool.false_or, cond_true, cond_false, ite_not, q_some, q_nn, q_xor, q_xorm, Bool.false_eq_true, decide_eq_true_eq, ne_eq, l_0, l_1, l_2, l_4, l_5, l_6, l_7, l_8, l_12, l_14, l_26, l_28, l_32, l_59, l_66, l_67, l_103, l_128, hA1]
    exact MR_some ⟨rfl, hf1, fun p' q' g' a1 a2 a3 a4 => ht1 p' q' g' a1 a2 a3 a4 (by omega)⟩
/-- whether a step may land on a place and go on from there -/
def sOn (g : Nat → Nat) (a p x gap : Nat) : Bool := match sSpot g x, sWho g a x with
  | false, _ => true
  | true, none => false
  | true, some q => decide (q ≠ p ∧ sTrust g p q gap = true)
theorem s_M_goesOn (d : Nat) {a p x gap : Nat} (ha : a < 4096) (hp : p < g 2) (hx : x < 8) (hg1 : 1 ≤ gap) (hg2 : gap < 8) (hA : MA i g) (h1 : g 1 ≤ 6) (h2 : g 2 ≤ 4) (hT : TR g i) : am_cl (d + 4) mM_goesOn [.ref 0, .int (nI a), .int (nI p), .int (nI x), .int (nI gap)] (i, l, rM, kM) = some (some (.int (if sOn g a p x gap then nI 1 else nI 0)), (i, l, rM, kM)) := by
  rw [c_M_goesOn, b_M_goesOn_0]
  cases hs : sSpot g x with
  | false =>
    have e : sOn g a p x gap = true := by rw [sOn, hs]
    simp (disch := first | assumption | omega) only [b_M_goesOn_0, b_M_goesOn_6, b_M_goesOn_17, b_M_goesOn_56, b_M_goesOn_57, s_M_isSpot, s_M_whoIn, ↓Bool.cond_decide, ↓q_in, q_le, q_lt, q_eq, q_leT, q_leF, q_ltT, q_ltF, q_eqT, q_eqF, ↓reduceIte, not_true_eq_false, not_false_eq_true, true_and, and_true, and_self, false_and, and_false, Nat.zero_le, am_bd_some, q_app, q_app0, nI_add, pk_sub, pk_mul, q_dec, q_ix, q_m1, q_m1', ↓q_ret, q_bool, q_bool1, q_u2, q_u1, q_shl1, q_shr, q_and7, q_dg, fa_or, fa_and, decide_true, decide_false, Bool.or_false, Bool.or_true, Bool.true_or, Bool.false_or, cond_true, cond_false, ite_not, q_some, q_nn, q_xor, q_xorm, Bool.false_eq_true, decide_eq_true_eq, ne_eq, l_0, l_1, l_3, l_4, l_6, l_8, l_9, l_17, l_28, l_32, l_56, l_57, l_128, hs, e]
  | true =>
    cases hw : sWho g a x with
    | none =>
      have e : sOn g a p x gap = false := by rw [sOn, hs, hw]
      simp (disch := first | assumption | omega) only [b_M_goesOn_0, b_M_goesOn_6, b_M_goesOn_17, b_M_goesOn_56, b_M_goesOn_57, s_M_isSpot, s_M_whoIn, ↓Bool.cond_decide, ↓q_in, q_le, q_lt, q_eq, q_leT, q_leF, q_ltT, q_ltF, q_eqT, q_eqF, ↓reduceIte, not_true_eq_false, not_false_eq_true, true_and, and_true, and_self, false_and, and_false, Nat.zero_le, am_bd_some, q_app, q_app0, nI_add, pk_sub, pk_mul, q_dec, q_ix, q_m1, q_m1', ↓q_ret, q_bool, q_bool1, q_u2, q_u1, q_shl1, q_shr, q_and7, q_dg, fa_or, fa_and, decide_true, decide_false, Bool.or_false, Bool.or_true, Bool.true_or, Bool.false_or, cond_true, cond_false, ite_not, q_some, q_nn, q_xor, q_xorm, Bool.false_eq_true, decide_eq_true_eq, ne_eq, l_0, l_1, l_3, l_4, l_6, l_8, l_9, l_17, l_28, l_32, l_56, l_57, l_128, hs, e, hw, q_vW0, q_vW1]
    | some q =>
      have hq := sWho_some hw
      have ht := hT p q gap hp hq.1 hg1 hg2
      have e : sOn g a p x gap = decide (q ≠ p ∧ sTrust g p q gap = true) := by rw [sOn, hs, hw]
      by_cases hqp : q = p
      · simp (disch := first | assumption | omega) only [b_M_goesOn_0, b_M_goesOn_6, b_M_goesOn_17, b_M_goesOn_56, b_M_goesOn_57, s_M_isSpot, s_M_whoIn, ↓Bool.cond_decide, ↓q_in, q_le, q_lt, q_eq, q_leT, q_leF, q_ltT, q_ltF, q_eqT, q_eqF, ↓reduceIte, not_true_eq_false, not_false_eq_true, true_and, and_true, and_self, false_and, and_false, Nat.zero_le, am_bd_some, q_app, q_app0, nI_add, pk_sub, pk_mul, q_dec, q_ix, q_m1, q_m1', ↓q_ret, q_bool, q_bool1, q_u2, q_u1, q_shl1, q_shr, q_and7, q_dg, fa_or, fa_and, decide_true, decide_false, Bool.or_false, Bool.or_true, Bool.true_or, Bool.false_or, cond_true, cond_false, ite_not, q_some, q_nn, q_xor, q_xorm, Bool.false_eq_true, decide_eq_true_eq, ne_eq, l_0, l_1, l_3, l_4, l_6, l_8, l_9, l_17, l_28, l_32, l_56, l_57, l_128, hs, e, hw, q_vW0, q_vW1]
      · have e2 : (p ≠ q ∧ sTrust g p q gap = true) = (sTrust g p q gap = true) := by simp only [ne_eq, Ne.symm hqp, not_false_eq_true, true_and]
        have e3 : (q ≠ p ∧ sTrust g p q gap = true) = (sTrust g p q gap = true) := by simp only [ne_eq, hqp, not_false_eq_true, true_and]
        by_cases h : sTrust g p q gap = true
        · simp (disch := first | assumption | omega) only [b_M_goesOn_0, b_M_goesOn_6, b_M_goesOn_17, b_M_goesOn_56, b_M_goesOn_57, s_M_isSpot, s_M_whoIn, ↓Bool.cond_decide, ↓q_in, q_le, q_lt, q_eq, q_leT, q_leF, q_ltT, q_ltF, q_eqT, q_eqF, ↓reduceIte, not_true_eq_false, not_false_eq_true, true_and, and_true, and_self, false_and, and_false, Nat.zero_le, am_bd_some, q_app, q_app0, nI_add, pk_sub, pk_mul, q_dec, q_ix, q_m1, q_m1', ↓q_ret, q_bool, q_bool1, q_u2, q_u1, q_shl1, q_shr, q_and7, q_dg, fa_or, fa_and, decide_true, decide_false, Bool.or_false, Bool.or_true, Bool.true_or, Bool.false_or, cond_true, cond_false, ite_not, q_some, q_nn, q_xor, q_xorm, Bool.false_eq_true, decide_eq_true_eq, ne_eq, l_0, l_1, l_3, l_4, l_6, l_8, l_9, l_17, l_28, l_32, l_56, l_57, l_128, hs, e, hw, q_vW0, q_vW1, ht, tv, e2, e3, h]
        · simp (disch := first | assumption | omega) only [b_M_goesOn_0, b_M_goesOn_6, b_M_goesOn_17, b_M_goesOn_56, b_M_goesOn_57, s_M_isSpot, s_M_whoIn, ↓Bool.cond_decide, ↓q_in, q_le, q_lt, q_eq, q_leT, q_leF, q_ltT, q_ltF, q_eqT, q_eqF, ↓reduceIte, not_true_eq_false, not_false_eq_true, true_and, and_true, and_self, false_and, and_false, Nat.zero_le, am_bd_some, q_app, q_app0, nI_add, pk_sub, pk_mul, q_dec, q_ix, q_m1, q_m1', ↓q_ret, q_bool, q_bool1, q_u2, q_u1, q_shl1, q_shr, q_and7, q_dg, fa_or, fa_and, decide_true, decide_false, Bool.or_false, Bool.or_true, Bool.true_or, Bool.false_or, cond_true, cond_false, ite_not, q_some, q_nn, q_xor, q_xorm, Bool.false_eq_true, decide_eq_true_eq, ne_eq, l_0, l_1, l_3, l_4, l_6, l_8, l_9, l_17, l_28, l_32, l_56, l_57, l_128, hs, e, hw, q_vW0, q_vW1, ht, tv, e2, e3, h]
end
