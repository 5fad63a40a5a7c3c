/-! THE MODEL: calls that ask, with a search -/
theorem am_find {d y pc : Nat} (I : Nat → List Slot → aM → Prop) (f : Nat → Bool) (R : Option Nat → Option aR → Prop) : ∀ (n k : Nat), (∀ j ls s, k ≤ j → j < k + n → I j ls s → (f j = true → R (some j) (am_Ex d y pc ls [] s)) ∧ (f j = false → Go d y pc (I (j + 1)) (am_Ex d y pc ls [] s))) → (∀ ls s, I (k + n) ls s → R none (am_Ex d y pc ls [] s)) → ∀ ls s, I k ls s → R (ff f n k) (am_Ex d y pc ls [] s)
  | 0, k, _, h2, ls, s, h => h2 ls s h
  | n + 1, k, h1, h2, ls, s, h => by
    rw [ff]
    have hs := h1 k ls s (Nat.le_refl _) (by omega) h
    cases hf : f k with
    | true => rw [if_pos rfl]; exact hs.1 hf
    | false =>
      rw [if_neg (by decide)]
      obtain ⟨ls', s', e, h'⟩ := hs.2 hf
      rw [e]
      exact am_find I f R n (k + 1) (fun j ls s a b => h1 j ls s (by omega) (by omega)) (fun ls s q => h2 ls s (by rw [show k + (n + 1) = k + 1 + n by omega]; exact q)) ls' s' h'
theorem am_findD {d y pc : Nat} (I : Nat → List Slot → aM → Prop) (f : Nat → Bool) (R : Option Nat → Option aR → Prop) : ∀ (n : Nat), (∀ j ls s, j < n → I (j + 1) ls s → (f j = true → R (some j) (am_Ex d y pc ls [] s)) ∧ (f j = false → Go d y pc (I j) (am_Ex d y pc ls [] s))) → (∀ ls s, I 0 ls s → R none (am_Ex d y pc ls [] s)) → ∀ ls s, I n ls s → R (fd f n) (am_Ex d y pc ls [] s)
  | 0, _, h2, ls, s, h => h2 ls s h
  | n + 1, h1, h2, ls, s, h => by
    rw [fd]
    have hs := h1 n ls s (by omega) h
    cases hf : f n with
    | true => rw [if_pos rfl]; exact hs.1 hf
    | false =>
      rw [if_neg (by decide)]
      obtain ⟨ls', s', e, h'⟩ := hs.2 hf
      rw [e]
      exact am_findD I f R n (fun j ls s a => h1 j ls s (by omega)) h2 ls' s' h'
section
variable {i : Nat → Nat → Int32} {l : Nat → Nat → Int64} {g : Nat → Nat}
theorem r_M_least (d : Nat) (x : Int32) {σ : St} (hS : MS i l σ) (hW : WG σ.1) : MR (some (.int (v_least σ.1 x))) (fun i' l' => MS i' l' (σ)) (am_cl (d + 8) mM_least [.ref 0, .int x] (i, l, rM, kM)) := by
  obtain ⟨g, σ⟩ := σ
  obtain ⟨⟨h1', h1⟩, h2, h3, hR, hF, hP, hSt, hD, hL0, hL1, hV⟩ := hW
  have h1 : g 1 ≤ 6 := h1
  have h2 : g 2 ≤ 4 := h2
  have hR : ∀ p, p < 4 → g (10 + p) ≤ 4 := hR
  have hP : ∀ p, p < 4 → g (18 + p) < 8 := hP
  have hSt : ∀ p, p < 4 → g (22 + p) ≤ 9 := hSt
  have hD : ∀ s, s < 6 → g (26 + s) ≤ 9 := hD
  have hA := hS.1
  have hn := sNow_lt g hP 4 (by decide)
  have hf0 : Fx [100] i (am_u2 i 0 0 (nI 0)) := by (repeat (first | exact Fx_refl _ _ | assumption | refine Fx_u2 rfl ?_ | refine Fx_u1 rfl (by decide) ?_ | refine Fx_step (by assumption) rfl ?_ | refine Fx_stepr (by assumption) rfl rfl ?_))
  have hM0 : MA (am_u2 i 0 0 (nI 0)) g := MA_fx hf0 hA rfl
  have hM0' : ∀ k, k < 3222 → am_u2 i 0 0 (nI 0) 1 k = nI (g k) := hM0
  rw [c_M_least, b_M_least_0, v_least]
  by_cases hx : iB x (g 2) = true
  · have hx' := hx
    obtain ⟨p, hp, rfl⟩ := iB_T hx'
    have hpp := hP p (by omega)
    cases hsp : sSpot g (g (18 + p)) with
    | true =>
      simp (disch := first | assumption | omega) only [b_M_least_0, b_M_least_11, b_M_least_22, b_M_least_41, b_M_least_46, s_M_isIn, s_M_isPerson, s_M_isUp, ↓Bool.cond_decide, ↓q_in, q_le, q_lt, q_eq, q_leT, q_leF, q_ltT, q_ltF, q_eqT, q_eqF, ↓reduceIte, not_true_eq_false, not_false_eq_true, true_and, and_true, and_self, false_and, and_false, Nat.zero_le, am_bd_some, q_app, q_app0, nI_add, pk_sub, pk_mul, q_dec, q_ix, q_m1, q_m1', ↓q_ret, q_bool, q_bool1, q_u1, q_shl1, q_shr, q_and7, q_dg, fa_or, fa_and, decide_true, decide_false, Bool.or_false, Bool.or_true, Bool.true_or, Bool.false_or, cond_true, cond_false, ite_not, q_some, q_nn, q_xor, q_xorm, Bool.false_eq_true, decide_eq_true_eq, ne_eq, l_0, l_1, l_2, l_5, l_8, l_9, l_10, l_11, l_22, l_30, l_41, l_46, hx, hsp]
      refine am_find (fun k ls s => ∃ i', ls = [.val (.ref 0), .val (.int (nI p)), .val (.int (nI k))] ∧ s = (i', l, rM, kM) ∧ Fx [5, 6, 100, 120] i i') (fun w => (sBy g w).testBit p) (fun o r => MR (some (.int (vW o))) (fun i' l' => MS i' l' (g, σ)) r) 10 0 (fun k ls s _ hk hI => ?_) (fun ls s hI => ?_) _ _ ⟨_, rfl, rfl, by (repeat (first | exact Fx_refl _ _ | assumption | refine Fx_u2 rfl ?_ | refine Fx_u1 rfl (by decide) ?_ | refine Fx_step (by assumption) rfl ?_ | refine Fx_stepr (by assumption) rfl rfl ?_))⟩
      · obtain ⟨i1, e1, e2, hf1⟩ := hI
        subst e1; subst e2
        have hM1 : MA i1 g := MA_fx hf1 hA rfl
        obtain ⟨i2, l2, e2, hl2, hf2⟩ := r_M_sweptBy d (l := l) (w := k) (by omega) hM1 h1 h2 hP hSt hL0
        subst hl2
        have hbl := sBy_lt (g := g) (w := k) h2
        refine ⟨fun hb => ?_, fun hb => ?_⟩
        · rw [b_M_least_30]
          simp (disch := first | assumption | omega) only [b_M_least_0, b_M_least_11, b_M_least_22, b_M_least_41, b_M_least_46, s_M_isIn, s_M_isPerson, s_M_isUp, ↓Bool.cond_decide, ↓q_in, q_le, q_lt, q_eq, q_leT, q_leF, q_ltT, q_ltF, q_eqT, q_eqF, ↓reduceIte, not_true_eq_false, not_false_eq_true, true_and, and_true, and_self, false_and, and_false, Nat.zero_le, am_bd_some, q_app, q_app0, nI_add, pk_sub, pk_mul, q_dec, q_ix, q_m1, q_m1', ↓q_ret, q_bool, q_bool1, q_u2, q_u1, q_shl1, q_shr, q_and7, q_dg, fa_or, fa_and, decide_true, decide_false, Bool.or_false, Bool.or_true, Bool.true_or, Bool.false_or, cond_true, cond_false, ite_not, q_some, q_nn, q_xor, q_xorm, Bool.false_eq_true, decide_eq_true_eq, ne_eq, l_0, l_1, l_2, l_5, l_8, l_9, l_10, l_11, l_22, l_30, l_41, l_46, e2, hb]
          exact MR_some (MS_fx (R := RQ) (by (repeat (first | exact Fx_refl _ _ | assumption | refine Fx_u2 rfl ?_ | refine Fx_u1 rfl (by decide) ?_ | refine Fx_step (by assumption) rfl ?_ | refine Fx_stepr (by assumption) rfl rfl ?_))) rfl rfl hS)
        · rw [b_M_least_30]
          simp (disch := first | assumption | omega) only [b_M_least_0, b_M_least_11, b_M_least_22, b_M_least_41, b_M_least_46, s_M_isIn, s_M_isPerson, s_M_isUp, ↓Bool.cond_decide, ↓q_in, q_le, q_lt, q_eq, q_leT, q_leF, q_ltT, q_ltF, q_eqT, q_eqF, ↓reduceIte, not_true_eq_false, not_false_eq_true, true_and, and_true, and_self, false_and, and_false, Nat.zero_le, am_bd_some, q_app, q_app0, nI_add, pk_sub, pk_mul, q_dec, q_ix, q_m1, q_m1', ↓q_ret, q_bool, q_bool1, q_u2, q_u1, q_shl1, q_shr, q_and7, q_dg, fa_or, fa_and, decide_true, decide_false, Bool.or_false, Bool.or_true, Bool.true_or, Bool.false_or, cond_true, cond_false, ite_not, q_some, q_nn, q_xor, q_xorm, Bool.false_eq_true, decide_eq_true_eq, ne_eq, l_0, l_1, l_2, l_5, l_8, l_9, l_10, l_11, l_22, l_30, l_41, l_46, e2, hb]
          exact Go_in ⟨i2, rfl, rfl, by (repeat (first | exact Fx_refl _ _ | assumption | refine Fx_u2 rfl ?_ | refine Fx_u1 rfl (by decide) ?_ | refine Fx_step (by assumption) rfl ?_ | refine Fx_stepr (by assumption) rfl rfl ?_))⟩
      · obtain ⟨i1, e1, e2, hf1⟩ := hI
        subst e1; subst e2
        rw [b_M_least_30]
        simp (disch := first | assumption | omega) only [b_M_least_0, b_M_least_11, b_M_least_22, b_M_least_41, b_M_least_46, s_M_isIn, s_M_isPerson, s_M_isUp, ↓Bool.cond_decide, ↓q_in, q_le, q_lt, q_eq, q_leT, q_leF, q_ltT, q_ltF, q_eqT, q_eqF, ↓reduceIte, not_true_eq_false, not_false_eq_true, true_and, and_true, and_self, false_and, and_false, Nat.zero_le, am_bd_some, q_app, q_app0, nI_add, pk_sub, pk_mul, q_dec, q_ix, q_m1, q_m1', ↓q_ret, q_bool, q_bool1, q_u2, q_u1, q_shl1, q_shr, q_and7, q_dg, fa_or, fa_and, decide_true, decide_false, Bool.or_false, Bool.or_true, Bool.true_or, Bool.false_or, cond_true, cond_false, ite_not, q_some, q_nn, q_xor, q_xorm, Bool.false_eq_true, decide_eq_true_eq, ne_eq, l_0, l_1, l_2, l_5, l_8, l_9, l_10, l_11, l_22, l_30, l_41, l_46]
        exact MR_some (MS_fx (R := RQ) (by (repeat (first | exact Fx_refl _ _ | assumption | refine Fx_u2 rfl ?_ | refine Fx_u1 rfl (by decide) ?_ | refine Fx_step (by assumption) rfl ?_ | refine Fx_stepr (by assumption) rfl rfl ?_))) rfl rfl hS)
    | false =>
      simp (disch := first | assumption | omega) only [b_M_least_0, b_M_least_11, b_M_least_22, b_M_least_41, b_M_least_46, s_M_isIn, s_M_isPerson, s_M_isUp, ↓Bool.cond_decide, ↓q_in, q_le, q_lt, q_eq, q_leT, q_leF, q_ltT, q_ltF, q_eqT, q_eqF, ↓reduceIte, not_true_eq_false, not_false_eq_true, true_and, and_true, and_self, false_and, and_false, Nat.zero_le, am_bd_some, q_app, q_app0, nI_add, pk_sub, pk_mul, q_dec, q_ix, q_m1, q_m1', ↓q_ret, q_bool, q_bool1, q_u1, q_shl1, q_shr, q_and7, q_dg, fa_or, fa_and, decide_true, decide_false, Bool.or_false, Bool.or_true, Bool.true_or, Bool.false_or, cond_true, cond_false, ite_not, q_some, q_nn, q_xor, q_xorm, Bool.false_eq_true, decide_eq_true_eq, ne_eq, l_0, l_1, l_2, l_5, l_8, l_9, l_10, l_11, l_22, l_30, l_41, l_46, hx, hsp]
      exact MR_some (MS_fx (R := RQ) (by (repeat (first | exact Fx_refl _ _ | assumption | refine Fx_u2 rfl ?_ | refine Fx_u1 rfl (by decide) ?_ | refine Fx_step (by assumption) rfl ?_ | refine Fx_stepr (by assumption) rfl rfl ?_))) rfl rfl hS)
  · simp (disch := first | assumption | omega) only [b_M_least_0, b_M_least_11, b_M_least_22, b_M_least_41, b_M_least_46, s_M_isIn, s_M_isPerson, s_M_isUp, ↓Bool.cond_decide, ↓q_in, q_le, q_lt, q_eq, q_leT, q_leF, q_ltT, q_ltF, q_eqT, q_eqF, ↓reduceIte, not_true_eq_false, not_false_eq_true, true_and, and_true, and_self, false_and, and_false, Nat.zero_le, am_bd_some, q_app, q_app0, nI_add, pk_sub, pk_mul, q_dec, q_ix, q_m1, q_m1', ↓q_ret, q_bool, q_bool1, q_u2, q_u1, q_shl1, q_shr, q_and7, q_dg, fa_or, fa_and, decide_true, decide_false, Bool.or_false, Bool.or_true, Bool.true_or, Bool.false_or, cond_true, cond_false, ite_not, q_some, q_nn, q_xor, q_xorm, Bool.false_eq_true, decide_eq_true_eq, ne_eq, l_0, l_1, l_2, l_5, l_8, l_9, l_10, l_11, l_22, l_30, l_41, l_46, hx]
    exact MR_some (MS_fx (R := RQ) (by (repeat (first | exact Fx_refl _ _ | assumption | refine Fx_u2 rfl ?_ | refine Fx_u1 rfl (by decide) ?_ | refine Fx_step (by assumption) rfl ?_ | refine Fx_stepr (by assumption) rfl rfl ?_))) rfl rfl hS)
theorem r_M_calm (d : Nat) {σ : St} (hS : MS i l σ) (hW : WG σ.1) : MR (some (.int (v_calm σ.1))) (fun i' l' => MS i' l' (σ)) (am_cl (d + 8) mM_calm [.ref 0] (i, l, rM, kM)) := by
  obtain ⟨g, σ⟩ := σ
  obtain ⟨⟨h1', h1⟩, h2, h3, hR, hF, hP, hSt, hD, hL0, hL1, hV⟩ := hW
  have h1 : g 1 ≤ 6 := h1
  have h2 : g 2 ≤ 4 := h2
  have hR : ∀ p, p < 4 → g (10 + p) ≤ 4 := hR
  have hP : ∀ p, p < 4 → g (18 + p) < 8 := hP
  have hSt : ∀ p, p < 4 → g (22 + p) ≤ 9 := hSt
  have hD : ∀ s, s < 6 → g (26 + s) ≤ 9 := hD
  have hA := hS.1
  have hn := sNow_lt g hP 4 (by decide)
  have hf0 : Fx [100] i (am_u2 i 0 0 (nI 0)) := by (repeat (first | exact Fx_refl _ _ | assumption | refine Fx_u2 rfl ?_ | refine Fx_u1 rfl (by decide) ?_ | refine Fx_step (by assumption) rfl ?_ | refine Fx_stepr (by assumption) rfl rfl ?_))
  have hM0 : MA (am_u2 i 0 0 (nI 0)) g := MA_fx hf0 hA rfl
  have hM0' : ∀ k, k < 3222 → am_u2 i 0 0 (nI 0) 1 k = nI (g k) := hM0
  rw [c_M_calm, b_M_calm_0, v_calm]
  refine am_findD (fun k ls s => ∃ i', ls = [.val (.ref 0), .val (.int (if k = 0 then -nI 1 else nI (k - 1)))] ∧ s = (i', l, rM, kM) ∧ Fx [5, 6, 100, 120] i i') (fun w => decide (sBy g w = 0)) (fun o r => MR (some (.int (vW o))) (fun i' l' => MS i' l' (g, σ)) r) 10 (fun k ls s hk hI => ?_) (fun ls s hI => ?_) _ _ ⟨_, rfl, rfl, by (repeat (first | exact Fx_refl _ _ | assumption | refine Fx_u2 rfl ?_ | refine Fx_u1 rfl (by decide) ?_ | refine Fx_step (by assumption) rfl ?_ | refine Fx_stepr (by assumption) rfl rfl ?_))⟩
  · obtain ⟨i1, e1, e2, hf1⟩ := hI
    subst e1; subst e2
    rw [if_neg (by omega), Nat.add_sub_cancel]
    have hM1 : MA i1 g := MA_fx hf1 hA rfl
    obtain ⟨i2, l2, e2, hl2, hf2⟩ := r_M_sweptBy d (l := l) (w := k) (by omega) hM1 h1 h2 hP hSt hL0
    subst hl2
    have hbl := sBy_lt (g := g) (w := k) h2
    refine ⟨fun hb => ?_, fun hb => ?_⟩
    · have hb := of_decide_eq_true hb
      rw [b_M_calm_8]
      simp (disch := first | assumption | omega) only [b_M_calm_0, b_M_calm_17, ↓Bool.cond_decide, ↓q_in, q_le, q_lt, q_eq, q_leT, q_leF, q_ltT, q_ltF, q_eqT, q_eqF, ↓reduceIte, not_true_eq_false, not_false_eq_true, true_and, and_true, and_self, false_and, and_false, Nat.zero_le, am_bd_some, q_app, q_app0, nI_add, pk_sub, pk_mul, q_dec, q_ix, q_m1, q_m1', ↓q_ret, q_bool, q_bool1, q_u2, q_u1, q_shl1, q_shr, q_and7, q_dg, fa_or, fa_and, decide_true, decide_false, Bool.or_false, Bool.or_true, Bool.true_or, Bool.false_or, cond_true, cond_false, ite_not, q_some, q_nn, q_xor, q_xorm, Bool.false_eq_true, decide_eq_true_eq, ne_eq, l_0, l_1, l_4, l_7, l_8, l_9, l_17, l_25, e2, hb]
      exact MR_some (MS_fx (R := RQ) (by (repeat (first | exact Fx_refl _ _ | assumption | refine Fx_u2 rfl ?_ | refine Fx_u1 rfl (by decide) ?_ | refine Fx_step (by assumption) rfl ?_ | refine Fx_stepr (by assumption) rfl rfl ?_))) rfl rfl hS)
    · have hb := of_decide_eq_false hb
      rw [b_M_calm_8]
      simp (disch := first | assumption | omega) only [b_M_calm_0, b_M_calm_17, b_M_calm_25, ↓Bool.cond_decide, ↓q_in, q_le, q_lt, q_eq, q_leT, q_leF, q_ltT, q_ltF, q_eqT, q_eqF, ↓reduceIte, not_true_eq_false, not_false_eq_true, true_and, and_true, and_self, false_and, and_false, Nat.zero_le, am_bd_some, q_app, q_app0, nI_add, pk_sub, pk_mul, q_dec, q_ix, q_m1, q_m1', ↓q_ret, q_bool, q_bool1, q_u2, q_u1, q_shl1, q_shr, q_and7, q_dg, fa_or, fa_and, decide_true, decide_false, Bool.or_false, Bool.or_true, Bool.true_or, Bool.false_or, cond_true, cond_false, ite_not, q_some, q_nn, q_xor, q_xorm, Bool.false_eq_true, decide_eq_true_eq, ne_eq, l_0, l_1, l_4, l_7, l_8, l_9, l_17, l_25, e2]
      refine Go_in ⟨i2, ?_, rfl, by (repeat (first | exact Fx_refl _ _ | assumption | refine Fx_u2 rfl ?_ | refine Fx_u1 rfl (by decide) ?_ | refine Fx_step (by assumption) rfl ?_ | refine Fx_stepr (by assumption) rfl rfl ?_))⟩
      by_cases hk0 : k = 0
      · subst hk0; rfl
      · rw [if_neg hk0, q_dec (by omega)]
  · obtain ⟨i1, e1, e2, hf1⟩ := hI
    subst e1; subst e2
    rw [b_M_calm_8]
    have e : (-nI 1 < nI 0) = True := eq_true (by decide)
    simp (disch := first | assumption | omega) only [b_M_calm_0, b_M_calm_17, b_M_calm_25, ↓Bool.cond_decide, ↓q_in, q_le, q_lt, q_eq, q_leT, q_leF, q_ltT, q_ltF, q_eqT, q_eqF, ↓reduceIte, not_true_eq_false, not_false_eq_true, true_and, and_true, and_self, false_and, and_false, Nat.zero_le, am_bd_some, q_app, q_app0, nI_add, pk_sub, pk_mul, q_dec, q_ix, q_m1, q_m1', ↓q_ret, q_bool, q_bool1, q_u2, q_u1, q_shl1, q_shr, q_and7, q_dg, fa_or, fa_and, decide_true, decide_false, Bool.or_false, Bool.or_true, Bool.true_or, Bool.false_or, cond_true, cond_false, ite_not, q_some, q_nn, q_xor, q_xorm, Bool.false_eq_true, decide_eq_true_eq, ne_eq, l_0, l_1, l_4, l_7, l_8, l_9, l_17, l_25, e]
    exact MR_some (MS_fx (R := RQ) (by (repeat (first | exact Fx_refl _ _ | assumption | refine Fx_u2 rfl ?_ | refine Fx_u1 rfl (by decide) ?_ | refine Fx_step (by assumption) rfl ?_ | refine Fx_stepr (by assumption) rfl rfl ?_))) rfl rfl hS)
theorem r_M_stride (d : Nat) (x : Int32) {σ : St} (hS : MS i l σ) (hW : WG σ.1) : MR (some (.int (v_stride σ.1 x))) (fun i' l' => MS i' l' (σ)) (am_cl (d + 7) mM_stride [.ref 0, .int x] (i, l, rM, kM)) := by
  obtain ⟨g, σ⟩ := σ
  obtain ⟨⟨h1', h1⟩, h2, h3, hR, hF, hP, hSt, hD, hL0, hL1, hV⟩ := hW
  have h1 : g 1 ≤ 6 := h1
  have h2 : g 2 ≤ 4 := h2
  have hR : ∀ p, p < 4 → g (10 + p) ≤ 4 := hR
  have hP : ∀ p, p < 4 → g (18 + p) < 8 := hP
  have hSt : ∀ p, p < 4 → g (22 + p) ≤ 9 := hSt
  have hD : ∀ s, s < 6 → g (26 + s) ≤ 9 := hD
  have hA := hS.1
  have hn := sNow_lt g hP 4 (by decide)
  have hf0 : Fx [100] i (am_u2 i 0 0 (nI 0)) := by (repeat (first | exact Fx_refl _ _ | assumption | refine Fx_u2 rfl ?_ | refine Fx_u1 rfl (by decide) ?_ | refine Fx_step (by assumption) rfl ?_ | refine Fx_stepr (by assumption) rfl rfl ?_))
  have hM0 : MA (am_u2 i 0 0 (nI 0)) g := MA_fx hf0 hA rfl
  have hM0' : ∀ k, k < 3222 → am_u2 i 0 0 (nI 0) 1 k = nI (g k) := hM0
  rw [c_M_stride, b_M_stride_0, v_stride]
  by_cases hx : iB x (g 2) = true
  · have hx' := hx
    obtain ⟨p, hp, rfl⟩ := iB_T hx'
    obtain ⟨i1, l1, e1, hl1, hf1, hT1⟩ := r_M_laysTrust (d + 2) (l := l) hM0 h2 hL1
    subst hl1
    have hM1 : MA i1 g := MA_fr hf1 hM0 rfl
    simp (disch := first | assumption | omega) only [b_M_stride_0, b_M_stride_11, b_M_stride_21, b_M_stride_34, b_M_stride_39, b_M_stride_51, s_M_isIn, s_M_isPerson, s_M_standNow, ↓Bool.cond_decide, ↓q_in, q_le, q_lt, q_eq, q_leT, q_leF, q_ltT, q_ltF, q_eqT, q_eqF, ↓reduceIte, not_true_eq_false, not_false_eq_true, true_and, and_true, and_self, false_and, and_false, Nat.zero_le, am_bd_some, q_app, q_app0, nI_add, pk_sub, pk_mul, q_dec, q_ix, q_m1, q_m1', ↓q_ret, q_bool, q_bool1, q_u1, q_shl1, q_shr, q_and7, q_dg, fa_or, fa_and, decide_true, decide_false, Bool.or_false, Bool.or_true, Bool.true_or, Bool.false_or, cond_true, cond_false, ite_not, q_some, q_nn, q_xor, q_xorm, Bool.false_eq_true, decide_eq_true_eq, ne_eq, l_0, l_1, l_2, l_5, l_7, l_8, l_9, l_10, l_11, l_21, l_23, l_34, l_39, l_51, hx, e1]
    refine am_find (fun k ls s => ∃ i', ls = [.val (.ref 0), .val (.int (nI p)), .val (.int (nI k))] ∧ s = (i', l1, rM, kM) ∧ Fx [7] i1 i') (fun r => (sGo g (sNow g 4) p r).testBit (g 1 + 1)) (fun o r => MR (some (.int (vW o))) (fun i' l' => MS i' l' (g, σ)) r) 9 1 (fun k ls s _ hk hI => ?_) (fun ls s hI => ?_) _ _ ⟨_, rfl, rfl, by (repeat (first | exact Fx_refl _ _ | assumption | refine Fx_u2 rfl ?_ | refine Fx_u1 rfl (by decide) ?_ | refine Fx_step (by assumption) rfl ?_ | refine Fx_stepr (by assumption) rfl rfl ?_))⟩
    · obtain ⟨i2, e1, e2, hf2⟩ := hI
      subst e1; subst e2
      have hA2 : ∀ k, k < 3222 → i2 1 k = nI (g k) := MA_fx hf2 hM1 rfl
      have hM2 : MA i2 g := hA2
      have hT2 : TR g i2 := TR_fx hf2 hT1 rfl
      obtain ⟨i3, l3, e3, hl3, hf3, _⟩ := r_M_goings d (l := l1) (r := k) hn hp (by omega) hM2 h1 h2 hT2
      subst hl3
      have hA3 : ∀ k, k < 3222 → i3 1 k = nI (g k) := MA_fx hf3 hM2 rfl
      have hgl := sGo_lt (g := g) (a := sNow g 4) (p := p) (r := k) h1
      refine ⟨fun hb => ?_, fun hb => ?_⟩
      · rw [b_M_stride_23]
        simp (disch := first | assumption | omega) only [b_M_stride_0, b_M_stride_11, b_M_stride_21, b_M_stride_34, b_M_stride_39, b_M_stride_51, s_M_isIn, s_M_isPerson, s_M_standNow, ↓Bool.cond_decide, ↓q_in, q_le, q_lt, q_eq, q_leT, q_leF, q_ltT, q_ltF, q_eqT, q_eqF, ↓reduceIte, not_true_eq_false, not_false_eq_true, true_and, and_true, and_self, false_and, and_false, Nat.zero_le, am_bd_some, q_app, q_app0, nI_add, pk_sub, pk_mul, q_dec, q_ix, q_m1, q_m1', ↓q_ret, q_bool, q_bool1, q_u2, q_u1, q_shl1, q_shr, q_and7, q_dg, fa_or, fa_and, decide_true, decide_false, Bool.or_false, Bool.or_true, Bool.true_or, Bool.false_or, cond_true, cond_false, ite_not, q_some, q_nn, q_xor, q_xorm, Bool.false_eq_true, decide_eq_true_eq, ne_eq, l_0, l_1, l_2, l_5, l_7, l_8, l_9, l_10, l_11, l_21, l_23, l_34, l_39, l_51, e3, hb, hA3]
        exact MR_some (MS_fx (R := RQ) (by (repeat (first | exact Fx_refl _ _ | assumption | refine Fx_u2 rfl ?_ | refine Fx_u1 rfl (by decide) ?_ | refine Fx_step (by assumption) rfl ?_ | refine Fx_stepr (by assumption) rfl rfl ?_))) rfl rfl hS)
      · rw [b_M_stride_23]
        simp (disch := first | assumption | omega) only [b_M_stride_0, b_M_stride_11, b_M_stride_21, b_M_stride_34, b_M_stride_39, b_M_stride_51, s_M_isIn, s_M_isPerson, s_M_standNow, ↓Bool.cond_decide, ↓q_in, q_le, q_lt, q_eq, q_leT, q_leF, q_ltT, q_ltF, q_eqT, q_eqF, ↓reduceIte, not_true_eq_false, not_false_eq_true, true_and, and_true, and_self, false_and, and_false, Nat.zero_le, am_bd_some, q_app, q_app0, nI_add, pk_sub, pk_mul, q_dec, q_ix, q_m1, q_m1', ↓q_ret, q_bool, q_bool1, q_u2, q_u1, q_shl1, q_shr, q_and7, q_dg, fa_or, fa_and, decide_true, decide_false, Bool.or_false, Bool.or_true, Bool.true_or, Bool.false_or, cond_true, cond_false, ite_not, q_some, q_nn, q_xor, q_xorm, Bool.false_eq_true, decide_eq_true_eq, ne_eq, l_0, l_1, l_2, l_5, l_7, l_8, l_9, l_10, l_11, l_21, l_23, l_34, l_39, l_51, e3, hb, hA3]
        exact Go_in ⟨i3, rfl, rfl, by (repeat (first | exact Fx_refl _ _ | assumption | refine Fx_u2 rfl ?_ | refine Fx_u1 rfl (by decide) ?_ | refine Fx_step (by assumption) rfl ?_ | refine Fx_stepr (by assumption) rfl rfl ?_))⟩
    · obtain ⟨i2, e1, e2, hf2⟩ := hI
      subst e1; subst e2
      rw [b_M_stride_23]
      simp (disch := first | assumption | omega) only [b_M_stride_0, b_M_stride_11, b_M_stride_21, b_M_stride_34, b_M_stride_39, b_M_stride_51, s_M_isIn, s_M_isPerson, s_M_standNow, ↓Bool.cond_decide, ↓q_in, q_le, q_lt, q_eq, q_leT, q_leF, q_ltT, q_ltF, q_eqT, q_eqF, ↓reduceIte, not_true_eq_false, not_false_eq_true, true_and, and_true, and_self, false_and, and_false, Nat.zero_le, am_bd_some, q_app, q_app0, nI_add, pk_sub, pk_mul, q_dec, q_ix, q_m1, q_m1', ↓q_ret, q_bool, q_bool1, q_u2, q_u1, q_shl1, q_shr, q_and7, q_dg, fa_or, fa_and, decide_true, decide_false, Bool.or_false, Bool.or_true, Bool.true_or, Bool.false_or, cond_true, cond_false, ite_not, q_some, q_nn, q_xor, q_xorm, Bool.false_eq_true, decide_eq_true_eq, ne_eq, l_0, l_1, l_2, l_5, l_7, l_8, l_9, l_10, l_11, l_21, l_23, l_34, l_39, l_51]
      exact MR_some (MS_fx (R := RQ) (by (repeat (first | exact Fx_refl _ _ | assumption | refine Fx_u2 rfl ?_ | refine Fx_u1 rfl (by decide) ?_ | refine Fx_step (by assumption) rfl ?_ | refine Fx_stepr (by assumption) rfl rfl ?_))) rfl rfl hS)
  · simp (disch := first | assumption | omega) only [b_M_stride_0, b_M_stride_11, b_M_stride_21, b_M_stride_34, b_M_stride_39, b_M_stride_51, s_M_isIn, s_M_isPerson, s_M_standNow, ↓Bool.cond_decide, ↓q_in, q_le, q_lt, q_eq, q_leT, q_leF, q_ltT, q_ltF, q_eqT, q_eqF, ↓reduceIte, not_true_eq_false, not_false_eq_true, true_and, and_true, and_self, false_and, and_false, Nat.zero_le, am_bd_some, q_app, q_app0, nI_add, pk_sub, pk_mul, q_dec, q_ix, q_m1, q_m1', ↓q_ret, q_bool, q_bool1, q_u2, q_u1, q_shl1, q_shr, q_and7, q_dg, fa_or, fa_and, decide_true, decide_false, Bool.or_false, Bool.or_true, Bool.true_or, Bool.false_or, cond_true, cond_false, ite_not, q_some, q_nn, q_xor, q_xorm, Bool.false_eq_true, decide_eq_true_eq, ne_eq, l_0, l_1, l_2, l_5, l_7, l_8, l_9, l_10, l_11, l_21, l_23, l_34, l_39, l_51, hx]
    exact MR_some (MS_fx (R := RQ) (by (repeat (first | exact Fx_refl _ _ | assumption | refine Fx_u2 rfl ?_ | refine Fx_u1 rfl (by decide) ?_ | refine Fx_step (by assumption) rfl ?_ | refine Fx_stepr (by assumption) rfl rfl ?_))) rfl rfl hS)
theorem sSum_le {f : Nat → Nat} {b : Nat} : ∀ n, (∀ k, k < n → f k ≤ b) → sSum f n ≤ n * b
  | 0, _ => by simp [sSum]
  | n + 1, h => by
    have := sSum_le n (fun k hk => h k (by omega))
    have := h n (by omega)
    rw [sSum, Nat.succ_mul]
    omega
theorem s_M_strengthsAll (d : Nat) (hA : MA i g) (h2 : g 2 ≤ 4) : am_cl (d + 1) mM_strengthsAll [.ref 0] (i, l, rM, kM) = some (some (.int (nI (sSum (fun p => g (22 + p)) (g 2)))), (i, l, rM, kM)) := by
  have hA' : ∀ k, k < 3222 → i 1 k = nI (g k) := hA
  rw [c_M_strengthsAll, b_M_strengthsAll_0]
  refine (am_for (fun k => [.val (.ref 0), .val (.int (nI (sSum (fun p => g (22 + p)) k))), .val (.int (nI k))]) (fun _ => (i, l, rM, kM)) (g 2) (fun k hk => ?_)).trans ?_
  · rw [b_M_strengthsAll_4]
    simp (disch := first | assumption | omega) only [b_M_strengthsAll_0, ↓Bool.cond_decide, ↓q_in, q_le, q_lt, q_eq, q_leT, q_leF, q_ltT, q_ltF, q_eqT, q_eqF, ↓reduceIte, not_true_eq_false, not_false_eq_true, true_and, and_true, and_self, false_and, and_false, Nat.zero_le, am_bd_some, q_app, q_app0, nI_add, pk_sub, pk_mul, q_dec, q_ix, q_m1, q_m1', ↓q_ret, q_bool, q_bool1, q_u2, q_u1, q_shl1, q_shr, q_and7, q_dg, fa_or, fa_and, decide_true, decide_false, Bool.or_false, Bool.or_true, Bool.true_or, Bool.false_or, cond_true, cond_false, ite_not, q_some, q_nn, q_xor, q_xorm, Bool.false_eq_true, decide_eq_true_eq, ne_eq, l_0, l_1, l_2, l_4, l_7, l_22, l_3222, hA', sSum]
  · rw [b_M_strengthsAll_4]
    simp (disch := first | assumption | omega) only [b_M_strengthsAll_0, ↓Bool.cond_decide, ↓q_in, q_le, q_lt, q_eq, q_leT, q_leF, q_ltT, q_ltF, q_eqT, q_eqF, ↓reduceIte, not_true_eq_false, not_false_eq_true, true_and, and_true, and_self, false_and, and_false, Nat.zero_le, am_bd_some, q_app, q_app0, nI_add, pk_sub, pk_mul, q_dec, q_ix, q_m1, q_m1', ↓q_ret, q_bool, q_bool1, q_u2, q_u1, q_shl1, q_shr, q_and7, q_dg, fa_or, fa_and, decide_true, decide_false, Bool.or_false, Bool.or_true, Bool.true_or, Bool.false_or, cond_true, cond_false, ite_not, q_some, q_nn, q_xor, q_xorm, Bool.false_eq_true, decide_eq_true_eq, ne_eq, l_0, l_1, l_2, l_4, l_7, l_22, l_3222, hA']
theorem r_M_count (d : Nat) (x : Int32) {σ : St} (hS : MS i l σ) (hW : WG σ.1) : MR (some (.int (v_count σ x))) (fun i' l' => MS i' l' (σ)) (am_cl (d + 4) mM_count [.ref 0, .int x] (i, l, rM, kM)) := by
  obtain ⟨g, σ⟩ := σ
  obtain ⟨⟨h1', h1⟩, h2, h3, hR, hF, hP, hSt, hD, hL0, hL1, hV⟩ := hW
  have h1 : g 1 ≤ 6 := h1
  have h2 : g 2 ≤ 4 := h2
  have hR : ∀ p, p < 4 → g (10 + p) ≤ 4 := hR
  have hP : ∀ p, p < 4 → g (18 + p) < 8 := hP
  have hSt : ∀ p, p < 4 → g (22 + p) ≤ 9 := hSt
  have hD : ∀ s, s < 6 → g (26 + s) ≤ 9 := hD
  have hA := hS.1
  have hn := sNow_lt g hP 4 (by decide)
  have hf0 : Fx [100] i (am_u2 i 0 0 (nI 0)) := by (repeat (first | exact Fx_refl _ _ | assumption | refine Fx_u2 rfl ?_ | refine Fx_u1 rfl (by decide) ?_ | refine Fx_step (by assumption) rfl ?_ | refine Fx_stepr (by assumption) rfl rfl ?_))
  have hM0 : MA (am_u2 i 0 0 (nI 0)) g := MA_fx hf0 hA rfl
  have hM0' : ∀ k, k < 3222 → am_u2 i 0 0 (nI 0) 1 k = nI (g k) := hM0
  have h5 := hS.2.2.2.1
  have hA' : ∀ k, k < 3222 → i 1 k = nI (g k) := hA
  rw [c_M_count, b_M_count_0, v_count]
  by_cases y0 : x = nI 0
  · simp (disch := first | assumption | omega) only [b_M_count_0, b_M_count_75, b_M_count_78, b_M_count_84, b_M_count_87, b_M_count_92, s_M_over, s_M_standNow, s_M_standing, s_M_strengthsAll, ↓Bool.cond_decide, ↓q_in, q_le, q_lt, q_eq, q_leT, q_leF, q_ltT, q_ltF, q_eqT, q_eqF, ↓reduceIte, not_true_eq_false, not_false_eq_true, true_and, and_true, and_self, false_and, and_false, Nat.zero_le, am_bd_some, q_app, q_app0, nI_add, pk_sub, pk_mul, q_dec, q_ix, q_m1, q_m1', ↓q_ret, q_bool, q_bool1, q_u1, q_shl1, q_shr, q_and7, q_dg, fa_or, fa_and, decide_true, decide_false, Bool.or_false, Bool.or_true, Bool.true_or, Bool.false_or, cond_true, cond_false, ite_not, q_some, q_nn, q_xor, q_xorm, Bool.false_eq_true, decide_eq_true_eq, ne_eq, l_0, l_1, l_2, l_3, l_4, l_5, l_6, l_7, l_8, l_32, l_45, l_75, l_78, l_84, l_87, l_92, y0, hA']
    exact MR_some (MS_fx (R := RQ) (by (repeat (first | exact Fx_refl _ _ | assumption | refine Fx_u2 rfl ?_ | refine Fx_u1 rfl (by decide) ?_ | refine Fx_step (by assumption) rfl ?_ | refine Fx_stepr (by assumption) rfl rfl ?_))) rfl rfl hS)
  by_cases y1 : x = nI 1
  · simp (disch := first | assumption | omega) only [b_M_count_0, b_M_count_75, b_M_count_78, b_M_count_84, b_M_count_87, b_M_count_92, s_M_over, s_M_standNow, s_M_standing, s_M_strengthsAll, ↓Bool.cond_decide, ↓q_in, q_le, q_lt, q_eq, q_leT, q_leF, q_ltT, q_ltF, q_eqT, q_eqF, ↓reduceIte, not_true_eq_false, not_false_eq_true, true_and, and_true, and_self, false_and, and_false, Nat.zero_le, am_bd_some, q_app, q_app0, nI_add, pk_sub, pk_mul, q_dec, q_ix, q_m1, q_m1', ↓q_ret, q_bool, q_bool1, q_u1, q_shl1, q_shr, q_and7, q_dg, fa_or, fa_and, decide_true, decide_false, Bool.or_false, Bool.or_true, Bool.true_or, Bool.false_or, cond_true, cond_false, ite_not, q_some, q_nn, q_xor, q_xorm, Bool.false_eq_true, decide_eq_true_eq, ne_eq, l_0, l_1, l_2, l_3, l_4, l_5, l_6, l_7, l_8, l_32, l_45, l_75, l_78, l_84, l_87, l_92, y0, y1, hA']
    exact MR_some (MS_fx (R := RQ) (by (repeat (first | exact Fx_refl _ _ | assumption | refine Fx_u2 rfl ?_ | refine Fx_u1 rfl (by decide) ?_ | refine Fx_step (by assumption) rfl ?_ | refine Fx_stepr (by assumption) rfl rfl ?_))) rfl rfl hS)
  by_cases y2 : x = nI 2
  · simp (disch := first | assumption | omega) only [b_M_count_0, b_M_count_75, b_M_count_78, b_M_count_84, b_M_count_87, b_M_count_92, s_M_over, s_M_standNow, s_M_standing, s_M_strengthsAll, ↓Bool.cond_decide, ↓q_in, q_le, q_lt, q_eq, q_leT, q_leF, q_ltT, q_ltF, q_eqT, q_eqF, ↓reduceIte, not_true_eq_false, not_false_eq_true, true_and, and_true, and_self, false_and, and_false, Nat.zero_le, am_bd_some, q_app, q_app0, nI_add, pk_sub, pk_mul, q_dec, q_ix, q_m1, q_m1', ↓q_ret, q_bool, q_bool1, q_u1, q_shl1, q_shr, q_and7, q_dg, fa_or, fa_and, decide_true, decide_false, Bool.or_false, Bool.or_true, Bool.true_or, Bool.false_or, cond_true, cond_false, ite_not, q_some, q_nn, q_xor, q_xorm, Bool.false_eq_true, decide_eq_true_eq, ne_eq, l_0, l_1, l_2, l_3, l_4, l_5, l_6, l_7, l_8, l_32, l_45, l_75, l_78, l_84, l_87, l_92, y0, y1, y2, hA']
    exact MR_some (MS_fx (R := RQ) (by (repeat (first | exact Fx_refl _ _ | assumption | refine Fx_u2 rfl ?_ | refine Fx_u1 rfl (by decide) ?_ | refine Fx_step (by assumption) rfl ?_ | refine Fx_stepr (by assumption) rfl rfl ?_))) rfl rfl hS)
  by_cases y3 : x = nI 3
  · simp (disch := first | assumption | omega) only [b_M_count_0, b_M_count_75, b_M_count_78, b_M_count_84, b_M_count_87, b_M_count_92, s_M_over, s_M_standNow, s_M_standing, s_M_strengthsAll, ↓Bool.cond_decide, ↓q_in, q_le, q_lt, q_eq, q_leT, q_leF, q_ltT, q_ltF, q_eqT, q_eqF, ↓reduceIte, not_true_eq_false, not_false_eq_true, true_and, and_true, and_self, false_and, and_false, Nat.zero_le, am_bd_some, q_app, q_app0, nI_add, pk_sub, pk_mul, q_dec, q_ix, q_m1, q_m1', ↓q_ret, q_bool, q_bool1, q_u1, q_shl1, q_shr, q_and7, q_dg, fa_or, fa_and, decide_true, decide_false, Bool.or_false, Bool.or_true, Bool.true_or, Bool.false_or, cond_true, cond_false, ite_not, q_some, q_nn, q_xor, q_xorm, Bool.false_eq_true, decide_eq_true_eq, ne_eq, l_0, l_1, l_2, l_3, l_4, l_5, l_6, l_7, l_8, l_32, l_45, l_75, l_78, l_84, l_87, l_92, y0, y1, y2, y3, hA']
    exact MR_some (MS_fx (R := RQ) (by (repeat (first | exact Fx_refl _ _ | assumption | refine Fx_u2 rfl ?_ | refine Fx_u1 rfl (by decide) ?_ | refine Fx_step (by assumption) rfl ?_ | refine Fx_stepr (by assumption) rfl rfl ?_))) rfl rfl hS)
  by_cases y4 : x = nI 4
  · simp (disch := first | assumption | omega) only [b_M_count_0, b_M_count_75, b_M_count_78, b_M_count_84, b_M_count_87, b_M_count_92, s_M_over, s_M_standNow, s_M_standing, s_M_strengthsAll, ↓Bool.cond_decide, ↓q_in, q_le, q_lt, q_eq, q_leT, q_leF, q_ltT, q_ltF, q_eqT, q_eqF, ↓reduceIte, not_true_eq_false, not_false_eq_true, true_and, and_true, and_self, false_and, and_false, Nat.zero_le, am_bd_some, q_app, q_app0, nI_add, pk_sub, pk_mul, q_dec, q_ix, q_m1, q_m1', ↓q_ret, q_bool, q_bool1, q_u1, q_shl1, q_shr, q_and7, q_dg, fa_or, fa_and, decide_true, decide_false, Bool.or_false, Bool.or_true, Bool.true_or, Bool.false_or, cond_true, cond_false, ite_not, q_some, q_nn, q_xor, q_xorm, Bool.false_eq_true, decide_eq_true_eq, ne_eq, l_0, l_1, l_2, l_3, l_4, l_5, l_6, l_7, l_8, l_32, l_45, l_75, l_78, l_84, l_87, l_92, y0, y1, y2, y3, y4, hA']
    exact MR_some (MS_fx (R := RQ) (by (repeat (first | exact Fx_refl _ _ | assumption | refine Fx_u2 rfl ?_ | refine Fx_u1 rfl (by decide) ?_ | refine Fx_step (by assumption) rfl ?_ | refine Fx_stepr (by assumption) rfl rfl ?_))) rfl rfl hS)
  by_cases y5 : x = nI 5
  · simp (disch := first | assumption | omega) only [b_M_count_0, b_M_count_75, b_M_count_78, b_M_count_84, b_M_count_87, b_M_count_92, s_M_over, s_M_standNow, s_M_standing, s_M_strengthsAll, ↓Bool.cond_decide, ↓q_in, q_le, q_lt, q_eq, q_leT, q_leF, q_ltT, q_ltF, q_eqT, q_eqF, ↓reduceIte, not_true_eq_false, not_false_eq_true, true_and, and_true, and_self, false_and, and_false, Nat.zero_le, am_bd_some, q_app, q_app0, nI_add, pk_sub, pk_mul, q_dec, q_ix, q_m1, q_m1', ↓q_ret, q_bool, q_bool1, q_u1, q_shl1, q_shr, q_and7, q_dg, fa_or, fa_and, decide_true, decide_false, Bool.or_false, Bool.or_true, Bool.true_or, Bool.false_or, cond_true, cond_false, ite_not, q_some, q_nn, q_xor, q_xorm, Bool.false_eq_true, decide_eq_true_eq, ne_eq, l_0, l_1, l_2, l_3, l_4, l_5, l_6, l_7, l_8, l_32, l_45, l_75, l_78, l_84, l_87, l_92, y0, y1, y2, y3, y4, y5, hA']
    exact MR_some (MS_fx (R := RQ) (by (repeat (first | exact Fx_refl _ _ | assumption | refine Fx_u2 rfl ?_ | refine Fx_u1 rfl (by decide) ?_ | refine Fx_step (by assumption) rfl ?_ | refine Fx_stepr (by assumption) rfl rfl ?_))) rfl rfl hS)
  by_cases y6 : x = nI 6
  · simp (disch := first | assumption | omega) only [b_M_count_0, b_M_count_75, b_M_count_78, b_M_count_84, b_M_count_87, b_M_count_92, s_M_over, s_M_standNow, s_M_standing, s_M_strengthsAll, ↓Bool.cond_decide, ↓q_in, q_le, q_lt, q_eq, q_leT, q_leF, q_ltT, q_ltF, q_eqT, q_eqF, ↓reduceIte, not_true_eq_false, not_false_eq_true, true_and, and_true, and_self, false_and, and_false, Nat.zero_le, am_bd_some, q_app, q_app0, nI_add, pk_sub, pk_mul, q_dec, q_ix, q_m1, q_m1', ↓q_ret, q_bool, q_bool1, q_u1, q_shl1, q_shr, q_and7, q_dg, fa_or, fa_and, decide_true, decide_false, Bool.or_false, Bool.or_true, Bool.true_or, Bool.false_or, cond_true, cond_false, ite_not, q_some, q_nn, q_xor, q_xorm, Bool.false_eq_true, decide_eq_true_eq, ne_eq, l_0, l_1, l_2, l_3, l_4, l_5, l_6, l_7, l_8, l_32, l_45, l_75, l_78, l_84, l_87, l_92, y0, y1, y2, y3, y4, y5, y6, hA']
    exact MR_some (MS_fx (R := RQ) (by (repeat (first | exact Fx_refl _ _ | assumption | refine Fx_u2 rfl ?_ | refine Fx_u1 rfl (by decide) ?_ | refine Fx_step (by assumption) rfl ?_ | refine Fx_stepr (by assumption) rfl rfl ?_))) rfl rfl hS)
  by_cases y7 : x = nI 7
  · simp (disch := first | assumption | omega) only [b_M_count_0, b_M_count_75, b_M_count_78, b_M_count_84, b_M_count_87, b_M_count_92, s_M_over, s_M_standNow, s_M_standing, s_M_strengthsAll, ↓Bool.cond_decide, ↓q_in, q_le, q_lt, q_eq, q_leT, q_leF, q_ltT, q_ltF, q_eqT, q_eqF, ↓reduceIte, not_true_eq_false, not_false_eq_true, true_and, and_true, and_self, false_and, and_false, Nat.zero_le, am_bd_some, q_app, q_app0, nI_add, pk_sub, pk_mul, q_dec, q_ix, q_m1, q_m1', ↓q_ret, q_bool, q_bool1, q_u1, q_shl1, q_shr, q_and7, q_dg, fa_or, fa_and, decide_true, decide_false, Bool.or_false, Bool.or_true, Bool.true_or, Bool.false_or, cond_true, cond_false, ite_not, q_some, q_nn, q_xor, q_xorm, Bool.false_eq_true, decide_eq_true_eq, ne_eq, l_0, l_1, l_2, l_3, l_4, l_5, l_6, l_7, l_8, l_32, l_45, l_75, l_78, l_84, l_87, l_92, y0, y1, y2, y3, y4, y5, y6, y7, h5]
    exact MR_some (MS_fx (R := RQ) (by (repeat (first | exact Fx_refl _ _ | assumption | refine Fx_u2 rfl ?_ | refine Fx_u1 rfl (by decide) ?_ | refine Fx_step (by assumption) rfl ?_ | refine Fx_stepr (by assumption) rfl rfl ?_))) rfl rfl hS)
  by_cases y8 : x = nI 8
  · simp (disch := first | assumption | omega) only [b_M_count_0, b_M_count_75, b_M_count_78, b_M_count_84, b_M_count_87, b_M_count_92, s_M_over, s_M_standNow, s_M_standing, s_M_strengthsAll, ↓Bool.cond_decide, ↓q_in, q_le, q_lt, q_eq, q_leT, q_leF, q_ltT, q_ltF, q_eqT, q_eqF, ↓reduceIte, not_true_eq_false, not_false_eq_true, true_and, and_true, and_self, false_and, and_false, Nat.zero_le, am_bd_some, q_app, q_app0, nI_add, pk_sub, pk_mul, q_dec, q_ix, q_m1, q_m1', ↓q_ret, q_bool, q_bool1, q_u1, q_shl1, q_shr, q_and7, q_dg, fa_or, fa_and, decide_true, decide_false, Bool.or_false, Bool.or_true, Bool.true_or, Bool.false_or, cond_true, cond_false, ite_not, q_some, q_nn, q_xor, q_xorm, Bool.false_eq_true, decide_eq_true_eq, ne_eq, l_0, l_1, l_2, l_3, l_4, l_5, l_6, l_7, l_8, l_32, l_45, l_75, l_78, l_84, l_87, l_92, y0, y1, y2, y3, y4, y5, y6, y7, y8, hA']
    exact MR_some (MS_fx (R := RQ) (by (repeat (first | exact Fx_refl _ _ | assumption | refine Fx_u2 rfl ?_ | refine Fx_u1 rfl (by decide) ?_ | refine Fx_step (by assumption) rfl ?_ | refine Fx_stepr (by assumption) rfl rfl ?_))) rfl rfl hS)
  · simp (disch := first | assumption | omega) only [b_M_count_0, b_M_count_75, b_M_count_78, b_M_count_84, b_M_count_87, b_M_count_92, s_M_over, s_M_standNow, s_M_standing, s_M_strengthsAll, ↓Bool.cond_decide, ↓q_in, q_le, q_lt, q_eq, q_leT, q_leF, q_ltT, q_ltF, q_eqT, q_eqF, ↓reduceIte, not_true_eq_false, not_false_eq_true, true_and, and_true, and_self, false_and, and_false, Nat.zero_le, am_bd_some, q_app, q_app0, nI_add, pk_sub, pk_mul, q_dec, q_ix, q_m1, q_m1', ↓q_ret, q_bool, q_bool1, q_u1, q_shl1, q_shr, q_and7, q_dg, fa_or, fa_and, decide_true, decide_false, Bool.or_false, Bool.or_true, Bool.true_or, Bool.false_or, cond_true, cond_false, ite_not, q_some, q_nn, q_xor, q_xorm, Bool.false_eq_true, decide_eq_true_eq, ne_eq, l_0, l_1, l_2, l_3, l_4, l_5, l_6, l_7, l_8, l_32, l_45, l_75, l_78, l_84, l_87, l_92, y0, y1, y2, y3, y4, y5, y6, y7, y8]
    exact MR_some (MS_fx (R := RQ) (by (repeat (first | exact Fx_refl _ _ | assumption | refine Fx_u2 rfl ?_ | refine Fx_u1 rfl (by decide) ?_ | refine Fx_step (by assumption) rfl ?_ | refine Fx_stepr (by assumption) rfl rfl ?_))) rfl rfl hS)
end
