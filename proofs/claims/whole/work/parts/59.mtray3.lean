/-! THE MODEL: trays, images -/
section
variable {i : Nat → Nat → Int32} {l : Nat → Nat → Int64} {g : Nat → Nat}
theorem s_M_cut (d : Nat) (v : Int64) (x : Int32) (s : aM) : am_cl (d + 1) mM_cut [.long v, .int x] s = some (some (.long (cutS v x)), s) := by
  obtain ⟨i, l, q, K⟩ := s
  rw [c_M_cut, b_M_cut_0, cutS]
  by_cases h0 : x = nI 0
  · simp (disch := first | assumption | omega) only [b_M_cut_0, b_M_cut_35, ↓Bool.cond_decide, ↓q_in, q_le, q_lt, q_eq, q_leT, q_leF, q_ltT, q_ltF, q_eqT, q_eqF, ↓reduceIte, not_true_eq_false, not_false_eq_true, true_and, and_true, and_self, false_and, and_false, Nat.zero_le, am_bd_some, q_app, q_app0, nI_add, pk_sub, pk_mul, q_dec, q_ix, q_m1, q_m1', ↓q_ret, q_bool, q_bool1, q_u2, q_u1, q_shl1, q_shr, q_and7, q_dg, fa_or, fa_and, decide_true, decide_false, Bool.or_false, Bool.or_true, Bool.true_or, Bool.false_or, cond_true, cond_false, ite_not, q_some, q_nn, q_xor, q_xorm, Bool.false_eq_true, decide_eq_true_eq, ne_eq, l_0, l_1, l_2, l_3, l_26, l_35, h0]
  by_cases h1 : x = nI 1
  · simp (disch := first | assumption | omega) only [b_M_cut_0, b_M_cut_35, ↓Bool.cond_decide, ↓q_in, q_le, q_lt, q_eq, q_leT, q_leF, q_ltT, q_ltF, q_eqT, q_eqF, ↓reduceIte, not_true_eq_false, not_false_eq_true, true_and, and_true, and_self, false_and, and_false, Nat.zero_le, am_bd_some, q_app, q_app0, nI_add, pk_sub, pk_mul, q_dec, q_ix, q_m1, q_m1', ↓q_ret, q_bool, q_bool1, q_u2, q_u1, q_shl1, q_shr, q_and7, q_dg, fa_or, fa_and, decide_true, decide_false, Bool.or_false, Bool.or_true, Bool.true_or, Bool.false_or, cond_true, cond_false, ite_not, q_some, q_nn, q_xor, q_xorm, Bool.false_eq_true, decide_eq_true_eq, ne_eq, l_0, l_1, l_2, l_3, l_26, l_35, h0, h1]
  by_cases h2 : x = nI 2
  · simp (disch := first | assumption | omega) only [b_M_cut_0, b_M_cut_35, ↓Bool.cond_decide, ↓q_in, q_le, q_lt, q_eq, q_leT, q_leF, q_ltT, q_ltF, q_eqT, q_eqF, ↓reduceIte, not_true_eq_false, not_false_eq_true, true_and, and_true, and_self, false_and, and_false, Nat.zero_le, am_bd_some, q_app, q_app0, nI_add, pk_sub, pk_mul, q_dec, q_ix, q_m1, q_m1', ↓q_ret, q_bool, q_bool1, q_u2, q_u1, q_shl1, q_shr, q_and7, q_dg, fa_or, fa_and, decide_true, decide_false, Bool.or_false, Bool.or_true, Bool.true_or, Bool.false_or, cond_true, cond_false, ite_not, q_some, q_nn, q_xor, q_xorm, Bool.false_eq_true, decide_eq_true_eq, ne_eq, l_0, l_1, l_2, l_3, l_26, l_35, h0, h1, h2]
  · simp (disch := first | assumption | omega) only [b_M_cut_0, b_M_cut_35, ↓Bool.cond_decide, ↓q_in, q_le, q_lt, q_eq, q_leT, q_leF, q_ltT, q_ltF, q_eqT, q_eqF, ↓reduceIte, not_true_eq_false, not_false_eq_true, true_and, and_true, and_self, false_and, and_false, Nat.zero_le, am_bd_some, q_app, q_app0, nI_add, pk_sub, pk_mul, q_dec, q_ix, q_m1, q_m1', ↓q_ret, q_bool, q_bool1, q_u2, q_u1, q_shl1, q_shr, q_and7, q_dg, fa_or, fa_and, decide_true, decide_false, Bool.or_false, Bool.or_true, Bool.true_or, Bool.false_or, cond_true, cond_false, ite_not, q_some, q_nn, q_xor, q_xorm, Bool.false_eq_true, decide_eq_true_eq, ne_eq, l_0, l_1, l_2, l_3, l_26, l_35, h0, h1, h2]
theorem q_u2s {α : Type} (f : Nat → Nat → α) (a k : Nat) (v : α) : am_u2 f a k v a k = v := by simp [am_u2]
theorem r_M_numbers (d : Nat) (x y z : Int32) {σ : St} (hS : MS i l σ) : MR (some (.int (v_numbers x y z))) (fun i' l' => MS i' l' (a_numbers σ x y z)) (am_cl (d + 2) mM_numbers [.ref 0, .int x, .int y, .int z] (i, l, rM, kM)) := by
  have ex := iR_e 0 3 (lo := 0) (hi := 3) rfl rfl x
  have ey := iR_e 0 3 (lo := 0) (hi := 3) rfl rfl y
  have ez := iR_e 0 40 (lo := 0) (hi := 40) rfl rfl z
  rw [c_M_numbers, b_M_numbers_0, v_numbers, a_numbers]
  by_cases hx : iR 0 3 x = true
  · by_cases hy : iR 0 3 y = true
    · by_cases hz : iR 0 40 z = true
      · have hx' := hx
        have hz' := hz
        obtain ⟨t, _, ht, rfl⟩ := iR_T hx'
        obtain ⟨n, _, hn, rfl⟩ := iR_T hz'
        simp (disch := first | assumption | omega) only [b_M_numbers_0, b_M_numbers_14, b_M_numbers_26, b_M_numbers_29, b_M_numbers_41, s_M_within, ↓Bool.cond_decide, ↓q_in, q_le, q_lt, q_eq, q_leT, q_leF, q_ltT, q_ltF, q_eqT, q_eqF, ↓reduceIte, not_true_eq_false, not_false_eq_true, true_and, and_true, and_self, false_and, and_false, Nat.zero_le, am_bd_some, q_app, q_app0, nI_add, pk_sub, pk_mul, q_dec, q_ix, q_m1, q_m1', ↓q_ret, q_bool, q_bool1, q_u1, q_shl1, q_shr, q_and7, q_dg, fa_or, fa_and, decide_true, decide_false, Bool.or_false, Bool.or_true, Bool.true_or, Bool.false_or, cond_true, cond_false, ite_not, q_some, q_nn, q_xor, q_xorm, Bool.false_eq_true, decide_eq_true_eq, ne_eq, l_0, l_1, l_2, l_3, l_4, l_9, l_10, l_14, l_18, l_19, l_22, l_23, l_24, l_26, l_29, l_40, l_41, l_64, l_160, ex, ey, ez, hx, hy, hz]
        refine am_loop (fun k ls s => ∃ z2 l', ls = [.val (.ref 0), .val (.int (nI t)), z2, .val (.int (nI n)), .val (.int (nI k))] ∧ s = (am_u2 (am_u2 (am_u2 i 0 0 (nI 0)) 22 t y) 23 t (nI n), l', rM, kM) ∧ ∀ j, j < 160 → l' 24 j = if 40 * t ≤ j ∧ j < 40 * t + k then 0 else l 24 j) n _ (fun k ls s hk hI => ?_) (fun ls s hI => ?_) ⟨_, l, rfl, rfl, fun j hj => by rw [if_neg (by omega)]⟩
        · obtain ⟨z2, l1, e1, e2, hm⟩ := hI
          subst e1; subst e2
          rw [b_M_numbers_64]
          simp (disch := first | assumption | omega) only [b_M_numbers_0, b_M_numbers_14, b_M_numbers_26, b_M_numbers_29, b_M_numbers_41, s_M_within, ↓Bool.cond_decide, ↓q_in, q_le, q_lt, q_eq, q_leT, q_leF, q_ltT, q_ltF, q_eqT, q_eqF, ↓reduceIte, not_true_eq_false, not_false_eq_true, true_and, and_true, and_self, false_and, and_false, Nat.zero_le, am_bd_some, q_app, q_app0, nI_add, pk_sub, pk_mul, q_dec, q_ix, q_m1, q_m1', ↓q_ret, q_bool, q_bool1, q_u1, q_shl1, q_shr, q_and7, q_dg, fa_or, fa_and, decide_true, decide_false, Bool.or_false, Bool.or_true, Bool.true_or, Bool.false_or, cond_true, cond_false, ite_not, q_some, q_nn, q_xor, q_xorm, Bool.false_eq_true, decide_eq_true_eq, ne_eq, l_0, l_1, l_2, l_3, l_4, l_9, l_10, l_14, l_18, l_19, l_22, l_23, l_24, l_26, l_29, l_40, l_41, l_64, l_160]
          refine Go_in ⟨_, _, rfl, rfl, fun j hj => ?_⟩
          show (if j = 40 * t + k then (0 : Int64) else l1 24 j) = _
          by_cases e : j = 40 * t + k
          · rw [if_pos e, if_pos (by omega)]
          · rw [if_neg e, hm j hj]
            by_cases e2 : 40 * t ≤ j ∧ j < 40 * t + k
            · rw [if_pos e2, if_pos (by omega)]
            · rw [if_neg e2, if_neg (by omega)]
        · obtain ⟨z2, l1, e1, e2, hm⟩ := hI
          subst e1; subst e2
          rw [b_M_numbers_64]
          simp (disch := first | assumption | omega) only [b_M_numbers_0, b_M_numbers_14, b_M_numbers_26, b_M_numbers_29, b_M_numbers_41, s_M_within, ↓Bool.cond_decide, ↓q_in, q_le, q_lt, q_eq, q_leT, q_leF, q_ltT, q_ltF, q_eqT, q_eqF, ↓reduceIte, not_true_eq_false, not_false_eq_true, true_and, and_true, and_self, false_and, and_false, Nat.zero_le, am_bd_some, q_app, q_app0, nI_add, pk_sub, pk_mul, q_dec, q_ix, q_m1, q_m1', ↓q_ret, q_bool, q_bool1, q_u1, q_shl1, q_shr, q_and7, q_dg, fa_or, fa_and, decide_true, decide_false, Bool.or_false, Bool.or_true, Bool.true_or, Bool.false_or, cond_true, cond_false, ite_not, q_some, q_nn, q_xor, q_xorm, Bool.false_eq_true, decide_eq_true_eq, ne_eq, l_0, l_1, l_2, l_3, l_4, l_9, l_10, l_14, l_18, l_19, l_22, l_23, l_24, l_26, l_29, l_40, l_41, l_64, l_160]
          refine MR_some ⟨hS.1, hS.2.1, hS.2.2.1, hS.2.2.2.1, hS.2.2.2.2.1, hS.2.2.2.2.2.1, fun s hs => ?_, fun s hs => ?_, fun j hj => ?_⟩
          · show (if s = t then y else i 22 s) = if s = t then y else _
            rw [hS.2.2.2.2.2.2.1 s hs]
          · show (if s = t then nI n else i 23 s) = nI (if s = t then n else _)
            rw [hS.2.2.2.2.2.2.2.1 s hs]
            by_cases e : s = t
            · rw [if_pos e, if_pos e]
            · rw [if_neg e, if_neg e]
          · rw [hm j hj]
            dsimp only
            rw [hS.2.2.2.2.2.2.2.2 j hj]
      · simp (disch := first | assumption | omega) only [b_M_numbers_0, b_M_numbers_14, b_M_numbers_26, b_M_numbers_29, b_M_numbers_41, s_M_within, ↓Bool.cond_decide, ↓q_in, q_le, q_lt, q_eq, q_leT, q_leF, q_ltT, q_ltF, q_eqT, q_eqF, ↓reduceIte, not_true_eq_false, not_false_eq_true, true_and, and_true, and_self, false_and, and_false, Nat.zero_le, am_bd_some, q_app, q_app0, nI_add, pk_sub, pk_mul, q_dec, q_ix, q_m1, q_m1', ↓q_ret, q_bool, q_bool1, q_u2, q_u1, q_shl1, q_shr, q_and7, q_dg, fa_or, fa_and, decide_true, decide_false, Bool.or_false, Bool.or_true, Bool.true_or, Bool.false_or, cond_true, cond_false, ite_not, q_some, q_nn, q_xor, q_xorm, Bool.false_eq_true, decide_eq_true_eq, ne_eq, l_0, l_1, l_2, l_3, l_4, l_9, l_10, l_14, l_18, l_19, l_22, l_23, l_24, l_26, l_29, l_40, l_41, l_64, l_160, ex, ey, ez, hx, hy, hz]
        exact MR_some (MS_fx (R := RQ) (by (repeat (first | exact Fx_refl _ _ | assumption | refine Fx_u2 rfl ?_ | refine Fx_u1 rfl (by decide) ?_ | refine Fx_step (by assumption) rfl ?_ | refine Fx_stepr (by assumption) rfl rfl ?_))) rfl rfl hS)
    · simp (disch := first | assumption | omega) only [b_M_numbers_0, b_M_numbers_14, b_M_numbers_26, b_M_numbers_29, b_M_numbers_41, s_M_within, ↓Bool.cond_decide, ↓q_in, q_le, q_lt, q_eq, q_leT, q_leF, q_ltT, q_ltF, q_eqT, q_eqF, ↓reduceIte, not_true_eq_false, not_false_eq_true, true_and, and_true, and_self, false_and, and_false, Nat.zero_le, am_bd_some, q_app, q_app0, nI_add, pk_sub, pk_mul, q_dec, q_ix, q_m1, q_m1', ↓q_ret, q_bool, q_bool1, q_u2, q_u1, q_shl1, q_shr, q_and7, q_dg, fa_or, fa_and, decide_true, decide_false, Bool.or_false, Bool.or_true, Bool.true_or, Bool.false_or, cond_true, cond_false, ite_not, q_some, q_nn, q_xor, q_xorm, Bool.false_eq_true, decide_eq_true_eq, ne_eq, l_0, l_1, l_2, l_3, l_4, l_9, l_10, l_14, l_18, l_19, l_22, l_23, l_24, l_26, l_29, l_40, l_41, l_64, l_160, ex, ey, hx, hy]
      exact MR_some (MS_fx (R := RQ) (by (repeat (first | exact Fx_refl _ _ | assumption | refine Fx_u2 rfl ?_ | refine Fx_u1 rfl (by decide) ?_ | refine Fx_step (by assumption) rfl ?_ | refine Fx_stepr (by assumption) rfl rfl ?_))) rfl rfl hS)
  · simp (disch := first | assumption | omega) only [b_M_numbers_0, b_M_numbers_14, b_M_numbers_26, b_M_numbers_29, b_M_numbers_41, s_M_within, ↓Bool.cond_decide, ↓q_in, q_le, q_lt, q_eq, q_leT, q_leF, q_ltT, q_ltF, q_eqT, q_eqF, ↓reduceIte, not_true_eq_false, not_false_eq_true, true_and, and_true, and_self, false_and, and_false, Nat.zero_le, am_bd_some, q_app, q_app0, nI_add, pk_sub, pk_mul, q_dec, q_ix, q_m1, q_m1', ↓q_ret, q_bool, q_bool1, q_u2, q_u1, q_shl1, q_shr, q_and7, q_dg, fa_or, fa_and, decide_true, decide_false, Bool.or_false, Bool.or_true, Bool.true_or, Bool.false_or, cond_true, cond_false, ite_not, q_some, q_nn, q_xor, q_xorm, Bool.false_eq_true, decide_eq_true_eq, ne_eq, l_0, l_1, l_2, l_3, l_4, l_9, l_10, l_14, l_18, l_19, l_22, l_23, l_24, l_26, l_29, l_40, l_41, l_64, l_160, ex, hx]
    exact MR_some (MS_fx (R := RQ) (by (repeat (first | exact Fx_refl _ _ | assumption | refine Fx_u2 rfl ?_ | refine Fx_u1 rfl (by decide) ?_ | refine Fx_step (by assumption) rfl ?_ | refine Fx_stepr (by assumption) rfl rfl ?_))) rfl rfl hS)
theorem r_M_write (d : Nat) (x y : Int32) (v : Int64) {σ : St} (hS : MS i l σ) (hT : WT σ) : MR (some (.long (v_write σ x y v))) (fun i' l' => MS i' l' (a_write σ x y v)) (am_cl (d + 3) mM_write [.ref 0, .int x, .int y, .long v] (i, l, rM, kM)) := by
  have hno := s_M_noTray (i := am_u2 i 0 0 (nI 0)) (l := l) d x (σ := σ) (fun t ht => hS.2.2.2.2.2.2.1 t ht)
  have hf0 : Fx [100] i (am_u2 i 0 0 (nI 0)) := by (repeat (first | exact Fx_refl _ _ | assumption | refine Fx_u2 rfl ?_ | refine Fx_u1 rfl (by decide) ?_ | refine Fx_step (by assumption) rfl ?_ | refine Fx_stepr (by assumption) rfl rfl ?_))
  rw [c_M_write, b_M_write_0, v_write, a_write]
  by_cases h0 : vNo σ x = nI 0
  · obtain ⟨hx, _⟩ := vNo_0 h0
    obtain ⟨t, ht, rfl⟩ := iB_T hx
    have h23 : am_u2 i 0 0 (nI 0) 23 t = nI (σ.2.2.2.2.2.2.2.1 t) := hS.2.2.2.2.2.2.2.1 t ht
    have h22 : am_u2 i 0 0 (nI 0) 22 t = σ.2.2.2.2.2.2.1 t := hS.2.2.2.2.2.2.1 t ht
    have hk := (hT t ht).1
    have ew : ((0 : Int64) ≤ Int32.toInt64 y ∧ Int32.toInt64 y ≤ Int32.toInt64 (nI (σ.2.2.2.2.2.2.2.1 t) - nI 1)) = (iB y (σ.2.2.2.2.2.2.2.1 t) = true) := propext (by
      rw [k_w64 _ 0 ((σ.2.2.2.2.2.2.2.1 t : Int) - 1) _ _ rfl (by rw [Int32.toInt_toInt64]; exact pk_sub_toInt (b := 1) (by omega) (by decide)), Int32.toInt_toInt64]
      simp only [iB, decide_eq_true_eq]
      omega)
    by_cases hy : iB y (σ.2.2.2.2.2.2.2.1 t) = true
    · have hy' := hy
      obtain ⟨k, hk2, rfl⟩ := iB_T hy'
      simp (disch := first | assumption | omega) only [b_M_write_0, b_M_write_10, b_M_write_36, b_M_write_63, s_M_cut, s_M_within, ↓Bool.cond_decide, ↓q_in, q_le, q_lt, q_eq, q_leT, q_leF, q_ltT, q_ltF, q_eqT, q_eqF, ↓reduceIte, not_true_eq_false, not_false_eq_true, true_and, and_true, and_self, false_and, and_false, Nat.zero_le, am_bd_some, q_app, q_app0, nI_add, pk_mul, q_dec, q_ix, q_m1, q_m1', ↓q_ret, q_bool, q_bool1, q_u1, q_shl1, q_shr, q_and7, q_dg, fa_or, fa_and, decide_true, decide_false, Bool.or_false, Bool.or_true, Bool.true_or, Bool.false_or, cond_true, cond_false, ite_not, q_some, q_nn, q_xor, q_xorm, Bool.false_eq_true, decide_eq_true_eq, ne_eq, l_0, l_1, l_4, l_7, l_8, l_10, l_12, l_18, l_19, l_22, l_23, l_24, l_36, l_40, l_63, l_160, hno, h0, h23, h22, ew, hy, q_u2s]
      refine MR_some ⟨hS.1, hS.2.1, hS.2.2.1, hS.2.2.2.1, hS.2.2.2.2.1, hS.2.2.2.2.2.1, hS.2.2.2.2.2.2.1, hS.2.2.2.2.2.2.2.1, fun j hj => ?_⟩
      show (if j = 40 * t + k then _ else l 24 j) = if j = 40 * t + k then _ else _
      rw [hS.2.2.2.2.2.2.2.2 j hj]
    · simp (disch := first | assumption | omega) only [b_M_write_0, b_M_write_10, b_M_write_36, b_M_write_63, s_M_cut, s_M_within, ↓Bool.cond_decide, ↓q_in, q_le, q_lt, q_eq, q_leT, q_leF, q_ltT, q_ltF, q_eqT, q_eqF, ↓reduceIte, not_true_eq_false, not_false_eq_true, true_and, and_true, and_self, false_and, and_false, Nat.zero_le, am_bd_some, q_app, q_app0, nI_add, pk_mul, q_dec, q_ix, q_m1, q_m1', ↓q_ret, q_bool, q_bool1, q_u1, q_shl1, q_shr, q_and7, q_dg, fa_or, fa_and, decide_true, decide_false, Bool.or_false, Bool.or_true, Bool.true_or, Bool.false_or, cond_true, cond_false, ite_not, q_some, q_nn, q_xor, q_xorm, Bool.false_eq_true, decide_eq_true_eq, ne_eq, l_0, l_1, l_4, l_7, l_8, l_10, l_12, l_18, l_19, l_22, l_23, l_24, l_36, l_40, l_63, l_160, hno, h0, h23, h22, ew, hy]
      exact MR_some (MS_fx (R := RQ) (by (repeat (first | exact Fx_refl _ _ | assumption | refine Fx_u2 rfl ?_ | refine Fx_u1 rfl (by decide) ?_ | refine Fx_step (by assumption) rfl ?_ | refine Fx_stepr (by assumption) rfl rfl ?_))) rfl rfl hS)
  · simp (disch := first | assumption | omega) only [b_M_write_0, b_M_write_10, b_M_write_36, b_M_write_63, s_M_cut, s_M_within, ↓Bool.cond_decide, ↓q_in, q_le, q_lt, q_eq, q_leT, q_leF, q_ltT, q_ltF, q_eqT, q_eqF, ↓reduceIte, not_true_eq_false, not_false_eq_true, true_and, and_true, and_self, false_and, and_false, Nat.zero_le, am_bd_some, q_app, q_app0, nI_add, pk_sub, pk_mul, q_dec, q_ix, q_m1, q_m1', ↓q_ret, q_bool, q_bool1, q_u1, q_shl1, q_shr, q_and7, q_dg, fa_or, fa_and, decide_true, decide_false, Bool.or_false, Bool.or_true, Bool.true_or, Bool.false_or, cond_true, cond_false, ite_not, q_some, q_nn, q_xor, q_xorm, Bool.false_eq_true, decide_eq_true_eq, ne_eq, l_0, l_1, l_4, l_7, l_8, l_10, l_12, l_18, l_19, l_22, l_23, l_24, l_36, l_40, l_63, l_160, hno, h0]
    exact MR_some (MS_fx (R := RQ) (by (repeat (first | exact Fx_refl _ _ | assumption | refine Fx_u2 rfl ?_ | refine Fx_u1 rfl (by decide) ?_ | refine Fx_step (by assumption) rfl ?_ | refine Fx_stepr (by assumption) rfl rfl ?_))) rfl rfl hS)
theorem r_M_image (d : Nat) (x : Int32) {σ : St} (hS : MS i l σ) : MR (some (.int (v_image x))) (fun i' l' => MS i' l' (a_image σ x)) (am_cl (d + 2) mM_image [.ref 0, .int x] (i, l, rM, kM)) := by
  obtain ⟨g, hi, σ⟩ := σ
  have e := iR_e 0 1 (lo := 0) (hi := 1) rfl rfl x
  rw [c_M_image, b_M_image_0, v_image, a_image]
  by_cases hx : iR 0 1 x = true
  · have hx' := hx
    obtain ⟨t, _, ht, rfl⟩ := iR_T hx'
    simp (disch := first | assumption | omega) only [b_M_image_0, b_M_image_12, s_M_within, ↓Bool.cond_decide, ↓q_in, q_le, q_lt, q_eq, q_leT, q_leF, q_ltT, q_ltF, q_eqT, q_eqF, ↓reduceIte, not_true_eq_false, not_false_eq_true, true_and, and_true, and_self, false_and, and_false, Nat.zero_le, am_bd_some, q_app, q_app0, nI_add, pk_sub, pk_mul, q_dec, q_ix, q_m1, q_m1', ↓q_ret, q_bool, q_bool1, q_u1, q_shl1, q_shr, q_and7, q_dg, fa_or, fa_and, decide_true, decide_false, Bool.or_false, Bool.or_true, Bool.true_or, Bool.false_or, cond_true, cond_false, ite_not, q_some, q_nn, q_xor, q_xorm, Bool.false_eq_true, decide_eq_true_eq, ne_eq, l_0, l_1, l_2, l_8, l_10, l_12, l_20, l_29, l_103, l_1074, l_3222, e, hx]
    refine am_loop (fun k ls s => ∃ i', ls = [.val (.ref 0), .val (.int (nI t)), .val (.int (nI k))] ∧ s = (i', l, rM, kM) ∧ Fx [1, 100] i i' ∧ MA i' (fun j => if 1074 * (t + 1) ≤ j ∧ j < 1074 * (t + 1) + k then g (j - 1074 * (t + 1)) else g j)) 1074 _ (fun k ls s hk hI => ?_) (fun ls s hI => ?_) ⟨_, rfl, rfl, by (repeat (first | exact Fx_refl _ _ | assumption | refine Fx_u2 rfl ?_ | refine Fx_u1 rfl (by decide) ?_ | refine Fx_step (by assumption) rfl ?_ | refine Fx_stepr (by assumption) rfl rfl ?_)), fun j hj => by dsimp only; rw [if_neg (by omega)]; exact hS.1 j hj⟩
    · obtain ⟨i1, e1, e2, hf, hm⟩ := hI
      subst e1; subst e2
      have hk1 := hm k (by omega)
      dsimp only at hk1
      rw [if_neg (by omega)] at hk1
      rw [b_M_image_20]
      simp (disch := first | assumption | omega) only [b_M_image_0, b_M_image_12, s_M_within, ↓Bool.cond_decide, ↓q_in, q_le, q_lt, q_eq, q_leT, q_leF, q_ltT, q_ltF, q_eqT, q_eqF, ↓reduceIte, not_true_eq_false, not_false_eq_true, true_and, and_true, and_self, false_and, and_false, Nat.zero_le, am_bd_some, q_app, q_app0, nI_add, pk_sub, pk_mul, q_dec, q_ix, q_m1, q_m1', ↓q_ret, q_bool, q_bool1, q_u2, q_u1, q_shl1, q_shr, q_and7, q_dg, fa_or, fa_and, decide_true, decide_false, Bool.or_false, Bool.or_true, Bool.true_or, Bool.false_or, cond_true, cond_false, ite_not, q_some, q_nn, q_xor, q_xorm, Bool.false_eq_true, decide_eq_true_eq, ne_eq, l_0, l_1, l_2, l_8, l_10, l_12, l_20, l_29, l_103, l_1074, l_3222, hk1]
      refine Go_in ⟨_, rfl, rfl, by (repeat (first | exact Fx_refl _ _ | assumption | refine Fx_u2 rfl ?_ | refine Fx_u1 rfl (by decide) ?_ | refine Fx_step (by assumption) rfl ?_ | refine Fx_stepr (by assumption) rfl rfl ?_)), fun j hj => ?_⟩
      by_cases ej : j = 1074 * (t + 1) + k
      · subst ej
        simp only [q_u2, if_true]
        rw [if_pos (by omega), Nat.add_sub_cancel_left]
      · simp only [q_u2, ej, if_true, if_false]
        rw [hm j hj]; dsimp only
        by_cases e2 : 1074 * (t + 1) ≤ j ∧ j < 1074 * (t + 1) + k
        · rw [if_pos e2, if_pos (by omega)]
        · rw [if_neg e2, if_neg (by omega)]
    · obtain ⟨i1, e1, e2, hf, hm⟩ := hI
      subst e1; subst e2
      rw [b_M_image_20]
      simp (disch := first | assumption | omega) only [b_M_image_0, b_M_image_12, s_M_within, ↓Bool.cond_decide, ↓q_in, q_le, q_lt, q_eq, q_leT, q_leF, q_ltT, q_ltF, q_eqT, q_eqF, ↓reduceIte, not_true_eq_false, not_false_eq_true, true_and, and_true, and_self, false_and, and_false, Nat.zero_le, am_bd_some, q_app, q_app0, nI_add, pk_sub, pk_mul, q_dec, q_ix, q_m1, q_m1', ↓q_ret, q_bool, q_bool1, q_u1, q_shl1, q_shr, q_and7, q_dg, fa_or, fa_and, decide_true, decide_false, Bool.or_false, Bool.or_true, Bool.true_or, Bool.false_or, cond_true, cond_false, ite_not, q_some, q_nn, q_xor, q_xorm, Bool.false_eq_true, decide_eq_true_eq, ne_eq, l_0, l_1, l_2, l_8, l_10, l_12, l_20, l_29, l_103, l_1074, l_3222, q_nar1]
      refine MR_some ⟨hm, fun k hk => ?_, ?_, ?_, ?_, ?_, ?_, ?_, hS.2.2.2.2.2.2.2.2⟩
      · show (if k = t then nI 1 else i1 2 k) = if (decide (k = t) || hi k) = true then nI 1 else nI 0
        rw [Fx_row hf (by decide) rfl, hS.2.1 k hk]
        by_cases ek : k = t
        · rw [if_pos ek, decide_eq_true ek]; rfl
        · rw [if_neg ek, decide_eq_false ek, Bool.false_or]
      · show ∀ k, k < 900 → _ → i1 3 k = _
        rw [Fx_row hf (by decide) rfl]; exact hS.2.2.1
      · show i1 0 5 = _
        rw [hf 0 5 rfl]; exact hS.2.2.2.1
      · show i1 0 13 = _
        rw [hf 0 13 rfl]; exact hS.2.2.2.2.1
      · show i1 0 14 = _
        rw [hf 0 14 rfl]; exact hS.2.2.2.2.2.1
      · show ∀ t, t < 4 → i1 22 t = _
        rw [Fx_row hf (by decide) rfl]; exact hS.2.2.2.2.2.2.1
      · show ∀ t, t < 4 → i1 23 t = _
        rw [Fx_row hf (by decide) rfl]; exact hS.2.2.2.2.2.2.2.1
  · simp (disch := first | assumption | omega) only [b_M_image_0, b_M_image_12, s_M_within, ↓Bool.cond_decide, ↓q_in, q_le, q_lt, q_eq, q_leT, q_leF, q_ltT, q_ltF, q_eqT, q_eqF, ↓reduceIte, not_true_eq_false, not_false_eq_true, true_and, and_true, and_self, false_and, and_false, Nat.zero_le, am_bd_some, q_app, q_app0, nI_add, pk_sub, pk_mul, q_dec, q_ix, q_m1, q_m1', ↓q_ret, q_bool, q_bool1, q_u2, q_u1, q_shl1, q_shr, q_and7, q_dg, fa_or, fa_and, decide_true, decide_false, Bool.or_false, Bool.or_true, Bool.true_or, Bool.false_or, cond_true, cond_false, ite_not, q_some, q_nn, q_xor, q_xorm, Bool.false_eq_true, decide_eq_true_eq, ne_eq, l_0, l_1, l_2, l_8, l_10, l_12, l_20, l_29, l_103, l_1074, l_3222, e, hx]
    exact MR_some (MS_fx (R := RQ) (by (repeat (first | exact Fx_refl _ _ | assumption | refine Fx_u2 rfl ?_ | refine Fx_u1 rfl (by decide) ?_ | refine Fx_step (by assumption) rfl ?_ | refine Fx_stepr (by assumption) rfl rfl ?_))) rfl rfl hS)
theorem r_M_restore (d : Nat) (x : Int32) {σ : St} (hS : MS i l σ) : MR (some (.int (v_restore σ x))) (fun i' l' => MS i' l' (a_restore σ x)) (am_cl (d + 2) mM_restore [.ref 0, .int x] (i, l, rM, kM)) := by
  obtain ⟨g, hi, σ⟩ := σ
  have e := iR_e 0 1 (lo := 0) (hi := 1) rfl rfl x
  rw [c_M_restore, b_M_restore_0, v_restore, a_restore]
  by_cases hx : iR 0 1 x = true
  · have hx' := hx
    obtain ⟨t, _, ht, rfl⟩ := iR_T hx'
    have h2 : am_u2 i 0 0 (nI 0) 2 t = if hi t = true then nI 1 else nI 0 := hS.2.1 t (by omega)
    by_cases hh : hi t = true
    · simp (disch := first | assumption | omega) only [b_M_restore_0, b_M_restore_12, s_M_within, ↓Bool.cond_decide, ↓q_in, q_le, q_lt, q_eq, q_leT, q_leF, q_ltT, q_ltF, q_eqT, q_eqF, ↓reduceIte, not_true_eq_false, not_false_eq_true, true_and, and_true, and_self, false_and, and_false, Nat.zero_le, am_bd_some, q_app, q_app0, nI_add, pk_sub, pk_mul, q_dec, q_ix, q_m1, q_m1', ↓q_ret, q_bool, q_bool1, q_u1, q_shl1, q_shr, q_and7, q_dg, fa_or, fa_and, decide_true, decide_false, Bool.or_false, Bool.or_true, Bool.true_or, Bool.false_or, cond_true, cond_false, ite_not, q_some, q_nn, q_xor, q_xorm, Bool.false_eq_true, decide_eq_true_eq, ne_eq, l_0, l_1, l_2, l_5, l_10, l_12, l_15, l_29, l_32, l_1074, l_3222, e, hx, h2, hh]
      refine am_loop (fun k ls s => ∃ i', ls = [.val (.ref 0), .val (.int (nI t)), .val (.int (nI k))] ∧ s = (i', l, rM, kM) ∧ Fx [1, 100] i i' ∧ MA i' (fun j => if j < k then g (1074 * (t + 1) + j) else g j)) 1074 _ (fun k ls s hk hI => ?_) (fun ls s hI => ?_) ⟨_, rfl, rfl, by (repeat (first | exact Fx_refl _ _ | assumption | refine Fx_u2 rfl ?_ | refine Fx_u1 rfl (by decide) ?_ | refine Fx_step (by assumption) rfl ?_ | refine Fx_stepr (by assumption) rfl rfl ?_)), fun j hj => by dsimp only; rw [if_neg (by omega)]; exact hS.1 j hj⟩
      · obtain ⟨i1, e1, e2, hf, hm⟩ := hI
        subst e1; subst e2
        have hk1 := hm (1074 * (t + 1) + k) (by omega)
        dsimp only at hk1
        rw [if_neg (by omega)] at hk1
        rw [b_M_restore_32]
        simp (disch := first | assumption | omega) only [b_M_restore_0, b_M_restore_12, s_M_within, ↓Bool.cond_decide, ↓q_in, q_le, q_lt, q_eq, q_leT, q_leF, q_ltT, q_ltF, q_eqT, q_eqF, ↓reduceIte, not_true_eq_false, not_false_eq_true, true_and, and_true, and_self, false_and, and_false, Nat.zero_le, am_bd_some, q_app, q_app0, nI_add, pk_sub, pk_mul, q_dec, q_ix, q_m1, q_m1', ↓q_ret, q_bool, q_bool1, q_u2, q_u1, q_shl1, q_shr, q_and7, q_dg, fa_or, fa_and, decide_true, decide_false, Bool.or_false, Bool.or_true, Bool.true_or, Bool.false_or, cond_true, cond_false, ite_not, q_some, q_nn, q_xor, q_xorm, Bool.false_eq_true, decide_eq_true_eq, ne_eq, l_0, l_1, l_2, l_5, l_10, l_12, l_15, l_29, l_32, l_1074, l_3222, hk1]
        refine Go_in ⟨_, rfl, rfl, by (repeat (first | exact Fx_refl _ _ | assumption | refine Fx_u2 rfl ?_ | refine Fx_u1 rfl (by decide) ?_ | refine Fx_step (by assumption) rfl ?_ | refine Fx_stepr (by assumption) rfl rfl ?_)), fun j hj => ?_⟩
        by_cases ej : j = k
        · subst ej
          simp only [q_u2, if_true]
          rw [if_pos (by omega)]
        · simp only [q_u2, ej, if_true, if_false]
          rw [hm j hj]; dsimp only
          by_cases e2 : j < k
          · rw [if_pos e2, if_pos (by omega)]
          · rw [if_neg e2, if_neg (by omega)]
      · obtain ⟨i1, e1, e2, hf, hm⟩ := hI
        subst e1; subst e2
        rw [b_M_restore_32]
        simp (disch := first | assumption | omega) only [b_M_restore_0, b_M_restore_12, s_M_within, ↓Bool.cond_decide, ↓q_in, q_le, q_lt, q_eq, q_leT, q_leF, q_ltT, q_ltF, q_eqT, q_eqF, ↓reduceIte, not_true_eq_false, not_false_eq_true, true_and, and_true, and_self, false_and, and_false, Nat.zero_le, am_bd_some, q_app, q_app0, nI_add, pk_sub, pk_mul, q_dec, q_ix, q_m1, q_m1', ↓q_ret, q_bool, q_bool1, q_u1, q_shl1, q_shr, q_and7, q_dg, fa_or, fa_and, decide_true, decide_false, Bool.or_false, Bool.or_true, Bool.true_or, Bool.false_or, cond_true, cond_false, ite_not, q_some, q_nn, q_xor, q_xorm, Bool.false_eq_true, decide_eq_true_eq, ne_eq, l_0, l_1, l_2, l_5, l_10, l_12, l_15, l_29, l_32, l_1074, l_3222]
        refine MR_some (MS_g (R := RG) (σ := (g, hi, σ)) (by (repeat (first | exact Fx_refl _ _ | assumption | refine Fx_u2 rfl ?_ | refine Fx_u1 rfl (by decide) ?_ | refine Fx_step (by assumption) rfl ?_ | refine Fx_stepr (by assumption) rfl rfl ?_))) rfl rfl hS (fun j hj => ?_))
        show (if j = 32 then nI 0 else i1 1 j) = nI (if j = 32 then 0 else _)
        by_cases ej : j = 32
        · rw [if_pos ej, if_pos ej]
        · rw [if_neg ej, if_neg ej, hm j hj]
    · simp (disch := first | assumption | omega) only [b_M_restore_0, b_M_restore_12, s_M_within, ↓Bool.cond_decide, ↓q_in, q_le, q_lt, q_eq, q_leT, q_leF, q_ltT, q_ltF, q_eqT, q_eqF, ↓reduceIte, not_true_eq_false, not_false_eq_true, true_and, and_true, and_self, false_and, and_false, Nat.zero_le, am_bd_some, q_app, q_app0, nI_add, pk_sub, pk_mul, q_dec, q_ix, q_m1, q_m1', ↓q_ret, q_bool, q_bool1, q_u1, q_shl1, q_shr, q_and7, q_dg, fa_or, fa_and, decide_true, decide_false, Bool.or_false, Bool.or_true, Bool.true_or, Bool.false_or, cond_true, cond_false, ite_not, q_some, q_nn, q_xor, q_xorm, Bool.false_eq_true, decide_eq_true_eq, ne_eq, l_0, l_1, l_2, l_5, l_10, l_12, l_15, l_29, l_32, l_1074, l_3222, e, hx, h2, hh]
      exact MR_some (MS_fx (R := RQ) (by (repeat (first | exact Fx_refl _ _ | assumption | refine Fx_u2 rfl ?_ | refine Fx_u1 rfl (by decide) ?_ | refine Fx_step (by assumption) rfl ?_ | refine Fx_stepr (by assumption) rfl rfl ?_))) rfl rfl hS)
  · simp (disch := first | assumption | omega) only [b_M_restore_0, b_M_restore_12, s_M_within, ↓Bool.cond_decide, ↓q_in, q_le, q_lt, q_eq, q_leT, q_leF, q_ltT, q_ltF, q_eqT, q_eqF, ↓reduceIte, not_true_eq_false, not_false_eq_true, true_and, and_true, and_self, false_and, and_false, Nat.zero_le, am_bd_some, q_app, q_app0, nI_add, pk_sub, pk_mul, q_dec, q_ix, q_m1, q_m1', ↓q_ret, q_bool, q_bool1, q_u2, q_u1, q_shl1, q_shr, q_and7, q_dg, fa_or, fa_and, decide_true, decide_false, Bool.or_false, Bool.or_true, Bool.true_or, Bool.false_or, cond_true, cond_false, ite_not, q_some, q_nn, q_xor, q_xorm, Bool.false_eq_true, decide_eq_true_eq, ne_eq, l_0, l_1, l_2, l_5, l_10, l_12, l_15, l_29, l_32, l_1074, l_3222, e, hx]
    exact MR_some (MS_fx (R := RQ) (by (repeat (first | exact Fx_refl _ _ | assumption | refine Fx_u2 rfl ?_ | refine Fx_u1 rfl (by decide) ?_ | refine Fx_step (by assumption) rfl ?_ | refine Fx_stepr (by assumption) rfl rfl ?_))) rfl rfl hS)
end
