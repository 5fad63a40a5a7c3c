/-! THE MODEL: where all can be; ways into trays -/
noncomputable def lsN (σ : St) (t z : Nat) : Nat := if dst σ.1 (evb σ.1) z (sNow σ.1 4) < σ.2.2.2.2.2.2.2.1 t then dst σ.1 (evb σ.1) z (sNow σ.1 4) else σ.2.2.2.2.2.2.2.1 t
noncomputable def v_lists (σ : St) (x y : Int32) : Int32 := if vNo σ x = nI 0 then (if iB y (2 ^ σ.1 2) = true then (if dst σ.1 (evb σ.1) y.toNatClampNeg (sNow σ.1 4) = FARN then -nI 5 else nI (lsN σ x.toNatClampNeg y.toNatClampNeg)) else -nI 3) else vNo σ x
noncomputable def a_lists (σ : St) (x y : Int32) : St := if vNo σ x = nI 0 ∧ iB y (2 ^ σ.1 2) = true ∧ dst σ.1 (evb σ.1) y.toNatClampNeg (sNow σ.1 4) ≠ FARN then (σ.1, σ.2.1, σ.2.2.1, σ.2.2.2.1, σ.2.2.2.2.1, σ.2.2.2.2.2.1, σ.2.2.2.2.2.2.1, σ.2.2.2.2.2.2.2.1, (fun k => if 40 * x.toNatClampNeg ≤ k ∧ k < 40 * x.toNatClampNeg + lsN σ x.toNatClampNeg y.toNatClampNeg then Int32.toInt64 (gAt σ.1 (evb σ.1) y.toNatClampNeg (sNow σ.1 4) (k - 40 * x.toNatClampNeg)) else σ.2.2.2.2.2.2.2.2 k)) else σ
section
variable {i : Nat → Nat → Int32} {l : Nat → Nat → Int64} {g : Nat → Nat}
/-- stands laid for everybody, as calls begin -/
theorem r_M_stds (d : Nat) {m : Nat} (hm : m < 65536) (hA : MA i g) (hW : WG g) : ∃ L i', stds g m false (sNow g 4) = L ∧ L.length ≤ 4096 ∧ (∀ s, s ∈ L → s < 4096) ∧ am_cl (d + 7) mM_laysStands [.ref 0, .int (nI m), .int (nI 0)] (i, l, rM, kM) = some (none, (i', l, rM, kM)) ∧ Fx [5, 6, 7, 8, 10, 11, 13, 120, 128] i i' ∧ QI i' L ∧ GOk g m i' L L.length ∧ TR g i' := by
  have hst := r_M_laysStands (i := i) (l := l) d (m := m) (t := false) hm hA hW
  obtain ⟨⟨h1', h1⟩, h2, h3, hR, hF', hP, hSt, hD', hL0, hL1, hV⟩ := hW
  have hn := sNow_lt g hP 4 (by decide)
  have e0 : (if false = true then nI 1 else nI 0) = nI 0 := rfl
  rw [e0] at hst
  obtain ⟨i1, l1, e1, hl1, hf1, hQ1, hG1, hT1⟩ := hst
  subst hl1
  exact ⟨_, i1, rfl, stds_len h2 hn, fun s hs => stds_lt h2 hn hs, e1, hf1, hQ1, hG1, hT1⟩
theorem getD_at {L : List Nat} {k : Nat} (hk : k < L.length) : L[k]? = some (L.getD k 0) := by rw [List.getD_eq_getElem?_getD, List.getElem?_eq_getElem hk]; rfl
theorem r_M_most (d : Nat) {σ : St} (hS : MS i l σ) (hW : WG σ.1) : MR (some (.int (v_most σ.1))) (fun i' l' => MS i' l' (σ)) (am_cl (d + 8) mM_most [.ref 0] (i, l, rM, kM)) := by
  have hW' := hW
  obtain ⟨g, σ⟩ := σ
  obtain ⟨⟨h1', h1⟩, h2, h3, hR, hF, hP, hSt, hD, hL0, hL1, hV⟩ := hW
  have h1 : g 1 ≤ 6 := h1
  have h2 : g 2 ≤ 4 := h2
  have hR : ∀ p, p < 4 → g (10 + p) ≤ 4 := hR
  have hP : ∀ p, p < 4 → g (18 + p) < 8 := hP
  have hSt : ∀ p, p < 4 → g (22 + p) ≤ 9 := hSt
  have hD : ∀ s, s < 6 → g (26 + s) ≤ 9 := hD
  have hA := hS.1
  have hn := sNow_lt g hP 4 (by decide)
  have hf0 : Fx [100] i (am_u2 i 0 0 (nI 0)) := by (repeat (first | exact Fx_refl _ _ | assumption | refine Fx_u2 rfl ?_ | refine Fx_u1 rfl (by decide) ?_ | refine Fx_step (by assumption) rfl ?_ | refine Fx_stepr (by assumption) rfl rfl ?_))
  have hM0 : MA (am_u2 i 0 0 (nI 0)) g := MA_fx hf0 hA rfl
  have hM0' : ∀ k, k < 3222 → am_u2 i 0 0 (nI 0) 1 k = nI (g k) := hM0
  have hev := evb_lt h2
  obtain ⟨L, i1, hL, hlen, hlt, e1, hf1, hQ1, hG1, hT1⟩ := r_M_stds (l := l) d (m := evb g) (by omega) hM0 hW'
  have hM1 : MA i1 g := MA_fx hf1 hM0 rfl
  have h28 := hQ1.2.2
  have hvm : v_most g = nI (mst g (stds g (evb g) false (sNow g 4)) (stds g (evb g) false (sNow g 4)).length) := rfl
  rw [hL] at hvm
  rw [c_M_most, b_M_most_0]
  show MR (some (.int (v_most g))) _ _
  rw [hvm]
  simp (disch := first | assumption | omega) only [b_M_most_0, b_M_most_10, b_M_most_14, b_M_most_36, b_M_most_39, b_M_most_53, b_M_most_56, b_M_most_60, s_M_bitsOf, s_M_everybody', s_M_over, ↓Bool.cond_decide, ↓q_in, q_le, q_lt, q_eq, q_leT, q_leF, q_ltT, q_ltF, q_eqT, q_eqF, ↓reduceIte, not_true_eq_false, not_false_eq_true, true_and, and_true, and_self, false_and, and_false, Nat.zero_le, am_bd_some, q_app, q_app0, nI_add, pk_sub, pk_mul, q_dec, q_ix, q_m1, q_m1', ↓q_ret, q_bool, q_bool1, q_u1, q_shl1, q_shr, q_and7, q_dg, fa_or, fa_and, decide_true, decide_false, Bool.or_false, Bool.or_true, Bool.true_or, Bool.false_or, cond_true, cond_false, ite_not, q_some, q_nn, q_xor, q_xorm, Bool.false_eq_true, decide_eq_true_eq, ne_eq, l_0, l_1, l_3, l_4, l_6, l_7, l_8, l_10, l_12, l_14, l_18, l_28, l_36, l_39, l_53, l_56, l_60, l_4096, s_M_everybody', e1]
  refine am_loop (fun k ls st => ls = [.val (.ref 0), .val (.int (nI (mst g L k))), .val (.int (nI k))] ∧ st = (i1, l, rM, kM)) L.length _ (fun k ls st hk hI => ?_) (fun ls st hI => ?_) ⟨rfl, rfl⟩
  · obtain ⟨e1, e2⟩ := hI
    subst e1; subst e2
    have hs := getD_at hk
    have h10 := hQ1.1 k _ hs
    have hs4 := hlt _ (List.mem_of_getElem? hs)
    have hml := mst_le g L k
    have hbl := bc_le (sOver g (L.getD k 0)) 10
    have hov := sOver_lt (g := g) (a := L.getD k 0) h2
    rw [b_M_most_18]
    by_cases hq : mst g L k < bc (sOver g (L.getD k 0)) 10
    · have eM : mst g L (k + 1) = bc (sOver g (L.getD k 0)) 10 := by rw [mst, if_pos hq]
      simp (disch := first | assumption | omega) only [b_M_most_0, b_M_most_10, b_M_most_14, b_M_most_36, b_M_most_39, b_M_most_53, b_M_most_56, b_M_most_60, s_M_bitsOf, s_M_everybody, s_M_everybody', s_M_over, ↓Bool.cond_decide, ↓q_in, q_le, q_lt, q_eq, q_leT, q_leF, q_ltT, q_ltF, q_eqT, q_eqF, ↓reduceIte, not_true_eq_false, not_false_eq_true, true_and, and_true, and_self, false_and, and_false, Nat.zero_le, am_bd_some, q_app, q_app0, nI_add, pk_sub, pk_mul, q_dec, q_ix, q_m1, q_m1', ↓q_ret, q_bool, q_bool1, q_u2, q_u1, q_shl1, q_shr, q_and7, q_dg, fa_or, fa_and, decide_true, decide_false, Bool.or_false, Bool.or_true, Bool.true_or, Bool.false_or, cond_true, cond_false, ite_not, q_some, q_nn, q_xor, q_xorm, Bool.false_eq_true, decide_eq_true_eq, ne_eq, l_0, l_1, l_3, l_4, l_6, l_7, l_8, l_10, l_12, l_14, l_18, l_28, l_36, l_39, l_53, l_56, l_60, l_4096, h28, h10]
      exact Go_in ⟨by rw [eM], rfl⟩
    · have eM : mst g L (k + 1) = mst g L k := by rw [mst, if_neg hq]
      simp (disch := first | assumption | omega) only [b_M_most_0, b_M_most_10, b_M_most_14, b_M_most_36, b_M_most_39, b_M_most_53, b_M_most_56, b_M_most_60, s_M_bitsOf, s_M_everybody, s_M_everybody', s_M_over, ↓Bool.cond_decide, ↓q_in, q_le, q_lt, q_eq, q_leT, q_leF, q_ltT, q_ltF, q_eqT, q_eqF, ↓reduceIte, not_true_eq_false, not_false_eq_true, true_and, and_true, and_self, false_and, and_false, Nat.zero_le, am_bd_some, q_app, q_app0, nI_add, pk_sub, pk_mul, q_dec, q_ix, q_m1, q_m1', ↓q_ret, q_bool, q_bool1, q_u2, q_u1, q_shl1, q_shr, q_and7, q_dg, fa_or, fa_and, decide_true, decide_false, Bool.or_false, Bool.or_true, Bool.true_or, Bool.false_or, cond_true, cond_false, ite_not, q_some, q_nn, q_xor, q_xorm, Bool.false_eq_true, decide_eq_true_eq, ne_eq, l_0, l_1, l_3, l_4, l_6, l_7, l_8, l_10, l_12, l_14, l_18, l_28, l_36, l_39, l_53, l_56, l_60, l_4096, h28, h10]
      exact Go_in ⟨by rw [eM], rfl⟩
  · obtain ⟨e1, e2⟩ := hI
    subst e1; subst e2
    rw [b_M_most_18]
    simp (disch := first | assumption | omega) only [b_M_most_0, b_M_most_10, b_M_most_14, b_M_most_36, b_M_most_39, b_M_most_53, b_M_most_56, b_M_most_60, s_M_bitsOf, s_M_everybody, s_M_everybody', s_M_over, ↓Bool.cond_decide, ↓q_in, q_le, q_lt, q_eq, q_leT, q_leF, q_ltT, q_ltF, q_eqT, q_eqF, ↓reduceIte, not_true_eq_false, not_false_eq_true, true_and, and_true, and_self, false_and, and_false, Nat.zero_le, am_bd_some, q_app, q_app0, nI_add, pk_sub, pk_mul, q_dec, q_ix, q_m1, q_m1', ↓q_ret, q_bool, q_bool1, q_u2, q_u1, q_shl1, q_shr, q_and7, q_dg, fa_or, fa_and, decide_true, decide_false, Bool.or_false, Bool.or_true, Bool.true_or, Bool.false_or, cond_true, cond_false, ite_not, q_some, q_nn, q_xor, q_xorm, Bool.false_eq_true, decide_eq_true_eq, ne_eq, l_0, l_1, l_3, l_4, l_6, l_7, l_8, l_10, l_12, l_14, l_18, l_28, l_36, l_39, l_53, l_56, l_60, l_4096, h28]
    exact MR_some (MS_fx (R := RQ) (by (repeat (first | exact Fx_refl _ _ | assumption | refine Fx_u2 rfl ?_ | refine Fx_u1 rfl (by decide) ?_ | refine Fx_step (by assumption) rfl ?_ | refine Fx_stepr (by assumption) rfl rfl ?_))) rfl rfl hS)
theorem r_M_reach (d : Nat) (x : Int32) {σ : St} (hS : MS i l σ) (hW : WG σ.1) : MR (some (.int (v_reach σ.1 x))) (fun i' l' => MS i' l' (σ)) (am_cl (d + 8) mM_reach [.ref 0, .int x] (i, l, rM, kM)) := by
  have hW' := hW
  obtain ⟨g, σ⟩ := σ
  obtain ⟨⟨h1', h1⟩, h2, h3, hR, hF, hP, hSt, hD, hL0, hL1, hV⟩ := hW
  have h1 : g 1 ≤ 6 := h1
  have h2 : g 2 ≤ 4 := h2
  have hR : ∀ p, p < 4 → g (10 + p) ≤ 4 := hR
  have hP : ∀ p, p < 4 → g (18 + p) < 8 := hP
  have hSt : ∀ p, p < 4 → g (22 + p) ≤ 9 := hSt
  have hD : ∀ s, s < 6 → g (26 + s) ≤ 9 := hD
  have hA := hS.1
  have hn := sNow_lt g hP 4 (by decide)
  have hf0 : Fx [100] i (am_u2 i 0 0 (nI 0)) := by (repeat (first | exact Fx_refl _ _ | assumption | refine Fx_u2 rfl ?_ | refine Fx_u1 rfl (by decide) ?_ | refine Fx_step (by assumption) rfl ?_ | refine Fx_stepr (by assumption) rfl rfl ?_))
  have hM0 : MA (am_u2 i 0 0 (nI 0)) g := MA_fx hf0 hA rfl
  have hM0' : ∀ k, k < 3222 → am_u2 i 0 0 (nI 0) 1 k = nI (g k) := hM0
  have hev := evb_lt h2
  have hvm : v_reach g x = if iB x (g 2) = true then nI (rcL x.toNatClampNeg (stds g (evb g) false (sNow g 4)) (stds g (evb g) false (sNow g 4)).length) else -nI 2 := rfl
  obtain ⟨L, i1, hL, hlen, hlt, e1, hf1, hQ1, hG1, hT1⟩ := r_M_stds (l := l) d (m := evb g) (by omega) hM0 hW'
  have hM1 : MA i1 g := MA_fx hf1 hM0 rfl
  have h28 := hQ1.2.2
  rw [hL] at hvm
  rw [c_M_reach, b_M_reach_0]
  show MR (some (.int (v_reach g x))) _ _
  rw [hvm]
  by_cases hx : iB x (g 2) = true
  · simp (disch := first | assumption | omega) only [b_M_reach_0, b_M_reach_11, b_M_reach_22, b_M_reach_26, b_M_reach_50, s_M_everybody', s_M_isPerson, s_M_placeIn, ↓Bool.cond_decide, ↓q_in, q_le, q_lt, q_eq, q_leT, q_leF, q_ltT, q_ltF, q_eqT, q_eqF, ↓reduceIte, not_true_eq_false, not_false_eq_true, true_and, and_true, and_self, false_and, and_false, Nat.zero_le, am_bd_some, q_app, q_app0, nI_add, pk_sub, pk_mul, q_dec, q_ix, q_m1, q_m1', ↓q_ret, q_bool, q_bool1, q_u1, q_shl1, q_shr, q_and7, q_dg, fa_or, fa_and, decide_true, decide_false, Bool.or_false, Bool.or_true, Bool.true_or, Bool.false_or, cond_true, cond_false, ite_not, q_some, q_nn, q_xor, q_xorm, Bool.false_eq_true, decide_eq_true_eq, ne_eq, l_0, l_1, l_2, l_4, l_7, l_8, l_9, l_10, l_11, l_16, l_22, l_26, l_28, l_30, l_31, l_50, l_4096, hx, s_M_everybody', e1]
    obtain ⟨p, hp, rfl⟩ := iB_T hx
    rw [q_ix (by omega)]
    refine am_loop (fun k ls st => ls = [.val (.ref 0), .val (.int (nI p)), .val (.int (nI (rcL p L k))), .val (.int (nI k))] ∧ st = (i1, l, rM, kM)) L.length _ (fun k ls st hk hI => ?_) (fun ls st hI => ?_) ⟨rfl, rfl⟩
    · obtain ⟨e1, e2⟩ := hI
      subst e1; subst e2
      have hs := getD_at hk
      have h10 := hQ1.1 k _ hs
      have hs4 := hlt _ (List.mem_of_getElem? hs)
      have hdl := dg_lt (L.getD k 0) p
      rw [b_M_reach_30]
      simp (disch := first | assumption | omega) only [b_M_reach_0, b_M_reach_11, b_M_reach_22, b_M_reach_26, b_M_reach_50, s_M_everybody, s_M_everybody', s_M_isPerson, s_M_placeIn, ↓Bool.cond_decide, ↓q_in, q_le, q_lt, q_eq, q_leT, q_leF, q_ltT, q_ltF, q_eqT, q_eqF, ↓reduceIte, not_true_eq_false, not_false_eq_true, true_and, and_true, and_self, false_and, and_false, Nat.zero_le, am_bd_some, q_app, q_app0, nI_add, pk_sub, pk_mul, q_dec, q_ix, q_m1, q_m1', ↓q_ret, q_bool, q_bool1, q_u2, q_u1, q_shl1, q_shr, q_and7, q_dg, fa_or, fa_and, decide_true, decide_false, Bool.or_false, Bool.or_true, Bool.true_or, Bool.false_or, cond_true, cond_false, ite_not, q_some, q_nn, q_xor, q_xorm, Bool.false_eq_true, decide_eq_true_eq, ne_eq, l_0, l_1, l_2, l_4, l_7, l_8, l_9, l_10, l_11, l_16, l_22, l_26, l_28, l_30, l_31, l_50, l_4096, h28, h10]
      exact Go_in ⟨rfl, rfl⟩
    · obtain ⟨e1, e2⟩ := hI
      subst e1; subst e2
      rw [b_M_reach_30]
      simp (disch := first | assumption | omega) only [b_M_reach_0, b_M_reach_11, b_M_reach_22, b_M_reach_26, b_M_reach_50, s_M_everybody, s_M_everybody', s_M_isPerson, s_M_placeIn, ↓Bool.cond_decide, ↓q_in, q_le, q_lt, q_eq, q_leT, q_leF, q_ltT, q_ltF, q_eqT, q_eqF, ↓reduceIte, not_true_eq_false, not_false_eq_true, true_and, and_true, and_self, false_and, and_false, Nat.zero_le, am_bd_some, q_app, q_app0, nI_add, pk_sub, pk_mul, q_dec, q_ix, q_m1, q_m1', ↓q_ret, q_bool, q_bool1, q_u2, q_u1, q_shl1, q_shr, q_and7, q_dg, fa_or, fa_and, decide_true, decide_false, Bool.or_false, Bool.or_true, Bool.true_or, Bool.false_or, cond_true, cond_false, ite_not, q_some, q_nn, q_xor, q_xorm, Bool.false_eq_true, decide_eq_true_eq, ne_eq, l_0, l_1, l_2, l_4, l_7, l_8, l_9, l_10, l_11, l_16, l_22, l_26, l_28, l_30, l_31, l_50, l_4096, h28]
      exact MR_some (MS_fx (R := RQ) (by (repeat (first | exact Fx_refl _ _ | assumption | refine Fx_u2 rfl ?_ | refine Fx_u1 rfl (by decide) ?_ | refine Fx_step (by assumption) rfl ?_ | refine Fx_stepr (by assumption) rfl rfl ?_))) rfl rfl hS)
  · simp (disch := first | assumption | omega) only [b_M_reach_0, b_M_reach_11, b_M_reach_22, b_M_reach_26, b_M_reach_50, s_M_everybody, s_M_everybody', s_M_isPerson, s_M_placeIn, ↓Bool.cond_decide, ↓q_in, q_le, q_lt, q_eq, q_leT, q_leF, q_ltT, q_ltF, q_eqT, q_eqF, ↓reduceIte, not_true_eq_false, not_false_eq_true, true_and, and_true, and_self, false_and, and_false, Nat.zero_le, am_bd_some, q_app, q_app0, nI_add, pk_sub, pk_mul, q_dec, q_ix, q_m1, q_m1', ↓q_ret, q_bool, q_bool1, q_u2, q_u1, q_shl1, q_shr, q_and7, q_dg, fa_or, fa_and, decide_true, decide_false, Bool.or_false, Bool.or_true, Bool.true_or, Bool.false_or, cond_true, cond_false, ite_not, q_some, q_nn, q_xor, q_xorm, Bool.false_eq_true, decide_eq_true_eq, ne_eq, l_0, l_1, l_2, l_4, l_7, l_8, l_9, l_10, l_11, l_16, l_22, l_26, l_28, l_30, l_31, l_50, l_4096, hx]
    exact MR_some (MS_fx (R := RQ) (by (repeat (first | exact Fx_refl _ _ | assumption | refine Fx_u2 rfl ?_ | refine Fx_u1 rfl (by decide) ?_ | refine Fx_step (by assumption) rfl ?_ | refine Fx_stepr (by assumption) rfl rfl ?_))) rfl rfl hS)
theorem r_M_stands (d : Nat) {σ : St} (hS : MS i l σ) (hW : WG σ.1) : MR (some (.int (v_stands σ.1))) (fun i' l' => MS i' l' (σ)) (am_cl (d + 8) mM_stands [.ref 0] (i, l, rM, kM)) := by
  have hW' := hW
  obtain ⟨g, σ⟩ := σ
  obtain ⟨⟨h1', h1⟩, h2, h3, hR, hF, hP, hSt, hD, hL0, hL1, hV⟩ := hW
  have h1 : g 1 ≤ 6 := h1
  have h2 : g 2 ≤ 4 := h2
  have hR : ∀ p, p < 4 → g (10 + p) ≤ 4 := hR
  have hP : ∀ p, p < 4 → g (18 + p) < 8 := hP
  have hSt : ∀ p, p < 4 → g (22 + p) ≤ 9 := hSt
  have hD : ∀ s, s < 6 → g (26 + s) ≤ 9 := hD
  have hA := hS.1
  have hn := sNow_lt g hP 4 (by decide)
  have hf0 : Fx [100] i (am_u2 i 0 0 (nI 0)) := by (repeat (first | exact Fx_refl _ _ | assumption | refine Fx_u2 rfl ?_ | refine Fx_u1 rfl (by decide) ?_ | refine Fx_step (by assumption) rfl ?_ | refine Fx_stepr (by assumption) rfl rfl ?_))
  have hM0 : MA (am_u2 i 0 0 (nI 0)) g := MA_fx hf0 hA rfl
  have hM0' : ∀ k, k < 3222 → am_u2 i 0 0 (nI 0) 1 k = nI (g k) := hM0
  have hev := evb_lt h2
  have hvm : v_stands g = nI (stds g (evb g) false (sNow g 4)).length := rfl
  obtain ⟨L, i1, hL, hlen, hlt, e1, hf1, hQ1, hG1, hT1⟩ := r_M_stds (l := l) d (m := evb g) (by omega) hM0 hW'
  have h28 := hQ1.2.2
  rw [hL] at hvm
  rw [c_M_stands, b_M_stands_0]
  show MR (some (.int (v_stands g))) _ _
  rw [hvm]
  simp (disch := first | assumption | omega) only [b_M_stands_0, b_M_stands_10, b_M_stands_14, s_M_everybody', ↓Bool.cond_decide, ↓q_in, q_le, q_lt, q_eq, q_leT, q_leF, q_ltT, q_ltF, q_eqT, q_eqF, ↓reduceIte, not_true_eq_false, not_false_eq_true, true_and, and_true, and_self, false_and, and_false, Nat.zero_le, am_bd_some, q_app, q_app0, nI_add, pk_sub, pk_mul, q_dec, q_ix, q_m1, q_m1', ↓q_ret, q_bool, q_bool1, q_u1, q_shl1, q_shr, q_and7, q_dg, fa_or, fa_and, decide_true, decide_false, Bool.or_false, Bool.or_true, Bool.true_or, Bool.false_or, cond_true, cond_false, ite_not, q_some, q_nn, q_xor, q_xorm, Bool.false_eq_true, decide_eq_true_eq, ne_eq, l_0, l_1, l_4, l_5, l_8, l_10, l_14, l_28, s_M_everybody', e1, h28]
  exact MR_some (MS_fx (R := RQ) (by (repeat (first | exact Fx_refl _ _ | assumption | refine Fx_u2 rfl ?_ | refine Fx_u1 rfl (by decide) ?_ | refine Fx_step (by assumption) rfl ?_ | refine Fx_stepr (by assumption) rfl rfl ?_))) rfl rfl hS)
theorem r_M_lists (d : Nat) (x y : Int32) {σ : St} (hS : MS i l σ) (hW : WG σ.1) (hT : WT σ) : MR (some (.int (v_lists σ x y))) (fun i' l' => MS i' l' (a_lists σ x y)) (am_cl (d + 9) mM_lists [.ref 0, .int x, .int y] (i, l, rM, kM)) := by
  have hW' := hW
  obtain ⟨g, σ⟩ := σ
  obtain ⟨⟨h1', h1⟩, h2, h3, hR, hF, hP, hSt, hD, hL0, hL1, hV⟩ := hW
  have h1 : g 1 ≤ 6 := h1
  have h2 : g 2 ≤ 4 := h2
  have hR : ∀ p, p < 4 → g (10 + p) ≤ 4 := hR
  have hP : ∀ p, p < 4 → g (18 + p) < 8 := hP
  have hSt : ∀ p, p < 4 → g (22 + p) ≤ 9 := hSt
  have hD : ∀ s, s < 6 → g (26 + s) ≤ 9 := hD
  have hA := hS.1
  have hn := sNow_lt g hP 4 (by decide)
  have hf0 : Fx [100] i (am_u2 i 0 0 (nI 0)) := by (repeat (first | exact Fx_refl _ _ | assumption | refine Fx_u2 rfl ?_ | refine Fx_u1 rfl (by decide) ?_ | refine Fx_step (by assumption) rfl ?_ | refine Fx_stepr (by assumption) rfl rfl ?_))
  have hM0 : MA (am_u2 i 0 0 (nI 0)) g := MA_fx hf0 hA rfl
  have hM0' : ∀ k, k < 3222 → am_u2 i 0 0 (nI 0) 1 k = nI (g k) := hM0
  have hF : FARN = 268435456 := rfl
  have hev := evb_lt h2
  have hno := s_M_noTray (i := am_u2 i 0 0 (nI 0)) (l := l) (d + 6) x (σ := (g, σ)) (fun t ht => hS.2.2.2.2.2.2.1 t ht)
  rw [c_M_lists, b_M_lists_0, v_lists, a_lists]
  by_cases h0 : vNo (g, σ) x = nI 0
  · by_cases hy : iB y (2 ^ g 2) = true
    · simp (disch := first | assumption | omega) only [b_M_lists_0, b_M_lists_10, b_M_lists_22, b_M_lists_34, b_M_lists_37, b_M_lists_71, b_M_lists_100, s_M_everybody', s_M_goingAt, s_M_isSet, ↓Bool.cond_decide, ↓q_in, q_le, q_lt, q_eq, q_leT, q_leF, q_ltT, q_ltF, q_eqT, q_eqF, ↓reduceIte, not_true_eq_false, not_false_eq_true, true_and, and_true, and_self, false_and, and_false, Nat.zero_le, am_bd_some, q_app, q_app0, nI_add, pk_sub, pk_mul, q_dec, q_ix, q_m1, q_m1', ↓q_ret, q_bool, q_bool1, q_u1, q_shl1, q_shr, q_and7, q_dg, fa_or, fa_and, decide_true, decide_false, Bool.or_false, Bool.or_true, Bool.true_or, Bool.false_or, cond_true, cond_false, ite_not, q_some, q_nn, q_xor, q_xorm, Bool.false_eq_true, decide_eq_true_eq, ne_eq, l_0, l_1, l_3, l_4, l_5, l_6, l_7, l_8, l_9, l_10, l_17, l_22, l_23, l_24, l_34, l_37, l_40, l_71, l_76, l_100, l_160, l_268435456, hno, h0, hy, s_M_everybody']
      obtain ⟨hx, _⟩ := vNo_0 h0
      obtain ⟨t, ht, rfl⟩ := iB_T hx
      obtain ⟨z, hz, rfl⟩ := iB_T hy
      have hp2 := p2_le h2
      have hdl := dst_le g (evb g) z (sNow g 4)
      rw [q_ix (show z < 2 ^ 31 by omega), q_ix (show t < 2 ^ 31 by omega)]
      refine MR_bd (r_M_laysFar d (m := evb g) (z := z) (by omega) (by omega) hM0 hW') ?_
      intro i2 l2 ⟨hl2, hf2, hG2, h122⟩
      subst hl2
      have hM2 : MA i2 g := MA_fx hf2 hM0 rfl
      have h23 : i2 23 t = nI ((g, σ).2.2.2.2.2.2.2.1 t) := by rw [Fx_row hf2 (by decide) rfl]; exact hS.2.2.2.2.2.2.2.1 t ht
      have hk := (hT t ht).1
      by_cases hf : dst g (evb g) z (sNow g 4) = FARN
      · have hf' : dst g (evb g) z (sNow g 4) = 268435456 := hf
        simp (disch := first | assumption | omega) only [b_M_lists_0, b_M_lists_10, b_M_lists_22, b_M_lists_34, b_M_lists_37, b_M_lists_71, b_M_lists_100, s_M_everybody, s_M_everybody', s_M_goingAt, s_M_isSet, s_M_noTray, ↓Bool.cond_decide, ↓q_in, q_le, q_lt, q_eq, q_leT, q_leF, q_ltT, q_ltF, q_eqT, q_eqF, ↓reduceIte, not_true_eq_false, not_false_eq_true, true_and, and_true, and_self, false_and, and_false, Nat.zero_le, am_bd_some, q_app, q_app0, nI_add, pk_sub, pk_mul, q_dec, q_ix, q_m1, q_m1', ↓q_ret, q_bool, q_bool1, q_u2, q_u1, q_shl1, q_shr, q_and7, q_dg, fa_or, fa_and, decide_true, decide_false, Bool.or_false, Bool.or_true, Bool.true_or, Bool.false_or, cond_true, cond_false, ite_not, q_some, q_nn, q_xor, q_xorm, Bool.false_eq_true, decide_eq_true_eq, ne_eq, l_0, l_1, l_3, l_4, l_5, l_6, l_7, l_8, l_9, l_10, l_17, l_22, l_23, l_24, l_34, l_37, l_40, l_71, l_76, l_100, l_160, l_268435456, hf', hF, ne_eq, not_true_eq_false, and_false]
        exact MR_some (MS_fx (R := RQ) (by (repeat (first | exact Fx_refl _ _ | assumption | refine Fx_u2 rfl ?_ | refine Fx_u1 rfl (by decide) ?_ | refine Fx_step (by assumption) rfl ?_ | refine Fx_stepr (by assumption) rfl rfl ?_))) rfl rfl hS)
      · have hf' : dst g (evb g) z (sNow g 4) ≠ 268435456 := hf
        have hlsn : lsN (g, σ) t z ≤ 40 := by unfold lsN; split <;> omega
        have body : ∀ z2 z3 z4 z5 z6, MR (some (.int (nI (lsN (g, σ) t z)))) (fun i' l' => MS i' l' (g, σ.1, σ.2.1, σ.2.2.1, σ.2.2.2.1, σ.2.2.2.2.1, σ.2.2.2.2.2.1, σ.2.2.2.2.2.2.1, (fun k => if 40 * t ≤ k ∧ k < 40 * t + lsN (g, σ) t z then Int32.toInt64 (gAt g (evb g) z (sNow g 4) (k - 40 * t)) else σ.2.2.2.2.2.2.2 k))) (am_Ex (d + 8) mM_lists 71 [.val (.ref 0), .val (.int (nI t)), z2, z3, z4, z5, z6] [.int (nI (lsN (g, σ) t z))] (i2, l2, rM, kM)) := by
          intro z2 z3 z4 z5 z6
          rw [b_M_lists_71]
          refine am_loop (fun k ls st => ∃ l', ls = [.val (.ref 0), .val (.int (nI t)), z2, z3, am_k1 z4, .val (.int (nI (lsN (g, σ) t z))), .val (.int (nI k))] ∧ st = (i2, l', rM, kM) ∧ ∀ j, j < 160 → l' 24 j = if 40 * t ≤ j ∧ j < 40 * t + k then Int32.toInt64 (gAt g (evb g) z (sNow g 4) (j - 40 * t)) else l2 24 j) (lsN (g, σ) t z) _ (fun k ls st hk2 hI => ?_) (fun ls st hI => ?_) ⟨l2, rfl, rfl, fun j hj => by rw [if_neg (by omega)]⟩
          · obtain ⟨l3, e1, e2, hm⟩ := hI
            subst e1; subst e2
            have hga := s_M_goingAt (i := i2) (l := l3) (d + 5) (m := evb g) (z := z) (n := k) (by omega) hM2 h1 hP (fun s hs => stds_lt h2 hn hs) (stds_start h2 hn) (fun s hs => (stds_step h2 hn hs).1) hG2 h122
            rw [b_M_lists_76]
            simp (disch := first | assumption | omega) only [b_M_lists_0, b_M_lists_10, b_M_lists_22, b_M_lists_34, b_M_lists_37, b_M_lists_71, b_M_lists_100, s_M_everybody, s_M_everybody', s_M_isSet, s_M_noTray, ↓Bool.cond_decide, ↓q_in, q_le, q_lt, q_eq, q_leT, q_leF, q_ltT, q_ltF, q_eqT, q_eqF, ↓reduceIte, not_true_eq_false, not_false_eq_true, true_and, and_true, and_self, false_and, and_false, Nat.zero_le, am_bd_some, q_app, q_app0, nI_add, pk_sub, pk_mul, q_dec, q_ix, q_m1, q_m1', ↓q_ret, q_bool, q_bool1, q_u1, q_shl1, q_shr, q_and7, q_dg, fa_or, fa_and, decide_true, decide_false, Bool.or_false, Bool.or_true, Bool.true_or, Bool.false_or, cond_true, cond_false, ite_not, q_some, q_nn, q_xor, q_xorm, Bool.false_eq_true, decide_eq_true_eq, ne_eq, l_0, l_1, l_3, l_4, l_5, l_6, l_7, l_8, l_9, l_10, l_17, l_22, l_23, l_24, l_34, l_37, l_40, l_71, l_76, l_100, l_160, l_268435456, hga]
            refine Go_in ⟨_, rfl, rfl, fun j hj => ?_⟩
            show (if j = 40 * t + k then _ else l3 24 j) = _
            by_cases e : j = 40 * t + k
            · rw [if_pos e, if_pos (by omega), show j - 40 * t = k by omega]
            · rw [if_neg e, hm j hj]
              by_cases e2 : 40 * t ≤ j ∧ j < 40 * t + k
              · rw [if_pos e2, if_pos (by omega)]
              · rw [if_neg e2, if_neg (by omega)]
          · obtain ⟨l3, e1, e2, hm⟩ := hI
            subst e1; subst e2
            have hMS2 : MS i2 l2 (g, σ) := MS_fx (R := RQ) (by (repeat (first | exact Fx_refl _ _ | assumption | refine Fx_u2 rfl ?_ | refine Fx_u1 rfl (by decide) ?_ | refine Fx_step (by assumption) rfl ?_ | refine Fx_stepr (by assumption) rfl rfl ?_))) rfl rfl hS
            rw [b_M_lists_76]
            simp (disch := first | assumption | omega) only [b_M_lists_0, b_M_lists_10, b_M_lists_22, b_M_lists_34, b_M_lists_37, b_M_lists_71, b_M_lists_100, s_M_everybody, s_M_everybody', s_M_goingAt, s_M_isSet, s_M_noTray, ↓Bool.cond_decide, ↓q_in, q_le, q_lt, q_eq, q_leT, q_leF, q_ltT, q_ltF, q_eqT, q_eqF, ↓reduceIte, not_true_eq_false, not_false_eq_true, true_and, and_true, and_self, false_and, and_false, Nat.zero_le, am_bd_some, q_app, q_app0, nI_add, pk_sub, pk_mul, q_dec, q_ix, q_m1, q_m1', ↓q_ret, q_bool, q_bool1, q_u2, q_u1, q_shl1, q_shr, q_and7, q_dg, fa_or, fa_and, decide_true, decide_false, Bool.or_false, Bool.or_true, Bool.true_or, Bool.false_or, cond_true, cond_false, ite_not, q_some, q_nn, q_xor, q_xorm, Bool.false_eq_true, decide_eq_true_eq, ne_eq, l_0, l_1, l_3, l_4, l_5, l_6, l_7, l_8, l_9, l_10, l_17, l_22, l_23, l_24, l_34, l_37, l_40, l_71, l_76, l_100, l_160, l_268435456]
            refine MR_some ⟨hMS2.1, hMS2.2.1, hMS2.2.2.1, hMS2.2.2.2.1, hMS2.2.2.2.2.1, hMS2.2.2.2.2.2.1, hMS2.2.2.2.2.2.2.1, hMS2.2.2.2.2.2.2.2.1, fun j hj => ?_⟩
            rw [hm j hj]
            dsimp only
            by_cases e2 : 40 * t ≤ j ∧ j < 40 * t + lsN (g, σ) t z
            · rw [if_pos e2, if_pos e2]
            · rw [if_neg e2, if_neg e2]; exact hMS2.2.2.2.2.2.2.2.2 j hj
        have hls : (if dst g (evb g) z (sNow g 4) < (g, σ).2.2.2.2.2.2.2.1 t then dst g (evb g) z (sNow g 4) else (g, σ).2.2.2.2.2.2.2.1 t) = lsN (g, σ) t z := rfl
        obtain ⟨hi, tp, nt, fk, fp, rs, rm, nb⟩ := σ
        have h23 : i2 23 t = nI (rm t) := h23
        have hk : rm t ≤ 40 := hk
        have hls : (if dst g (evb g) z (sNow g 4) < rm t then dst g (evb g) z (sNow g 4) else rm t) = lsN (g, hi, tp, nt, fk, fp, rs, rm, nb) t z := hls
        by_cases hq : dst g (evb g) z (sNow g 4) < rm t
        · rw [if_pos hq] at hls
          rw [← hls] at body
          simp (disch := first | assumption | omega) only [b_M_lists_0, b_M_lists_10, b_M_lists_22, b_M_lists_34, b_M_lists_37, b_M_lists_100, s_M_everybody, s_M_everybody', s_M_goingAt, s_M_isSet, s_M_noTray, ↓Bool.cond_decide, ↓q_in, q_le, q_lt, q_eq, q_leT, q_leF, q_ltT, q_ltF, q_eqT, q_eqF, ↓reduceIte, not_true_eq_false, not_false_eq_true, true_and, and_true, and_self, false_and, and_false, Nat.zero_le, am_bd_some, q_app, q_app0, nI_add, pk_sub, pk_mul, q_dec, q_ix, q_m1, q_m1', ↓q_ret, q_bool, q_bool1, q_u2, q_u1, q_shl1, q_shr, q_and7, q_dg, fa_or, fa_and, decide_true, decide_false, Bool.or_false, Bool.or_true, Bool.true_or, Bool.false_or, cond_true, cond_false, ite_not, q_some, q_nn, q_xor, q_xorm, Bool.false_eq_true, decide_eq_true_eq, ne_eq, l_0, l_1, l_3, l_4, l_5, l_6, l_7, l_8, l_9, l_10, l_17, l_22, l_23, l_24, l_34, l_37, l_40, l_71, l_76, l_100, l_160, l_268435456, hf', h23, hF, ← hls]
          exact body _ _ _ _ _
        · rw [if_neg hq] at hls
          rw [← hls] at body
          simp (disch := first | assumption | omega) only [b_M_lists_0, b_M_lists_10, b_M_lists_22, b_M_lists_34, b_M_lists_37, b_M_lists_100, s_M_everybody, s_M_everybody', s_M_goingAt, s_M_isSet, s_M_noTray, ↓Bool.cond_decide, ↓q_in, q_le, q_lt, q_eq, q_leT, q_leF, q_ltT, q_ltF, q_eqT, q_eqF, ↓reduceIte, not_true_eq_false, not_false_eq_true, true_and, and_true, and_self, false_and, and_false, Nat.zero_le, am_bd_some, q_app, q_app0, nI_add, pk_sub, pk_mul, q_dec, q_ix, q_m1, q_m1', ↓q_ret, q_bool, q_bool1, q_u2, q_u1, q_shl1, q_shr, q_and7, q_dg, fa_or, fa_and, decide_true, decide_false, Bool.or_false, Bool.or_true, Bool.true_or, Bool.false_or, cond_true, cond_false, ite_not, q_some, q_nn, q_xor, q_xorm, Bool.false_eq_true, decide_eq_true_eq, ne_eq, l_0, l_1, l_3, l_4, l_5, l_6, l_7, l_8, l_9, l_10, l_17, l_22, l_23, l_24, l_34, l_37, l_40, l_71, l_76, l_100, l_160, l_268435456, hf', h23, hF, ← hls]
          exact body _ _ _ _ _
    · simp (disch := first | assumption | omega) only [b_M_lists_0, b_M_lists_10, b_M_lists_22, b_M_lists_34, b_M_lists_37, b_M_lists_71, b_M_lists_100, s_M_everybody, s_M_everybody', s_M_goingAt, s_M_isSet, ↓Bool.cond_decide, ↓q_in, q_le, q_lt, q_eq, q_leT, q_leF, q_ltT, q_ltF, q_eqT, q_eqF, ↓reduceIte, not_true_eq_false, not_false_eq_true, true_and, and_true, and_self, false_and, and_false, Nat.zero_le, am_bd_some, q_app, q_app0, nI_add, pk_sub, pk_mul, q_dec, q_ix, q_m1, q_m1', ↓q_ret, q_bool, q_bool1, q_u1, q_shl1, q_shr, q_and7, q_dg, fa_or, fa_and, decide_true, decide_false, Bool.or_false, Bool.or_true, Bool.true_or, Bool.false_or, cond_true, cond_false, ite_not, q_some, q_nn, q_xor, q_xorm, Bool.false_eq_true, decide_eq_true_eq, ne_eq, l_0, l_1, l_3, l_4, l_5, l_6, l_7, l_8, l_9, l_10, l_17, l_22, l_23, l_24, l_34, l_37, l_40, l_71, l_76, l_100, l_160, l_268435456, hno, h0, hy]
      exact MR_some (MS_fx (R := RQ) (by (repeat (first | exact Fx_refl _ _ | assumption | refine Fx_u2 rfl ?_ | refine Fx_u1 rfl (by decide) ?_ | refine Fx_step (by assumption) rfl ?_ | refine Fx_stepr (by assumption) rfl rfl ?_))) rfl rfl hS)
  · simp (disch := first | assumption | omega) only [b_M_lists_0, b_M_lists_10, b_M_lists_22, b_M_lists_34, b_M_lists_37, b_M_lists_71, b_M_lists_100, s_M_everybody, s_M_everybody', s_M_goingAt, s_M_isSet, ↓Bool.cond_decide, ↓q_in, q_le, q_lt, q_eq, q_leT, q_leF, q_ltT, q_ltF, q_eqT, q_eqF, ↓reduceIte, not_true_eq_false, not_false_eq_true, true_and, and_true, and_self, false_and, and_false, Nat.zero_le, am_bd_some, q_app, q_app0, nI_add, pk_sub, pk_mul, q_dec, q_ix, q_m1, q_m1', ↓q_ret, q_bool, q_bool1, q_u1, q_shl1, q_shr, q_and7, q_dg, fa_or, fa_and, decide_true, decide_false, Bool.or_false, Bool.or_true, Bool.true_or, Bool.false_or, cond_true, cond_false, ite_not, q_some, q_nn, q_xor, q_xorm, Bool.false_eq_true, decide_eq_true_eq, ne_eq, l_0, l_1, l_3, l_4, l_5, l_6, l_7, l_8, l_9, l_10, l_17, l_22, l_23, l_24, l_34, l_37, l_40, l_71, l_76, l_100, l_160, l_268435456, hno, h0]
    exact MR_some (MS_fx (R := RQ) (by (repeat (first | exact Fx_refl _ _ | assumption | refine Fx_u2 rfl ?_ | refine Fx_u1 rfl (by decide) ?_ | refine Fx_step (by assumption) rfl ?_ | refine Fx_stepr (by assumption) rfl rfl ?_))) rfl rfl hS)
end
