/-! THE MODEL: forcing -/
noncomputable def v_forces (g : Nat → Nat) (x : Int32) : Int32 := if iB x (g 2) = true then (if fc g (evb g) x.toNatClampNeg (sNow g 4) = FARN then -nI 1 else nI (fc g (evb g) x.toNatClampNeg (sNow g 4))) else -nI 2
noncomputable def bstF (g : Nat → Nat) (w : Nat) : Option Nat := ff (fun j => avl g (evb g) (sNow g 4) j && decide (rf g (evb g) w (tgt (sNow g 4) j) = fc g (evb g) w (sNow g 4) - 1)) (8 * g 2) 0
noncomputable def v_best (g : Nat → Nat) (x : Int32) : Int32 := if iB x (g 2) = true then (if fc g (evb g) x.toNatClampNeg (sNow g 4) = FARN ∨ fc g (evb g) x.toNatClampNeg (sNow g 4) = 0 then -nI 1 else (match bstF g x.toNatClampNeg with | some j => nI (deed j) | none => nI 99)) else -nI 2
theorem fc_le (g : Nat → Nat) (m w s : Nat) : fc g m w s ≤ FARN := lst_le _
theorem rf_le (g : Nat → Nat) (m w s : Nat) : rf g m w s ≤ FARN := lst_le _
theorem ug_id {D : Nat → Nat} {s v : Nat} (h : v = D s) : ug D s v = D := by
  funext x
  unfold ug
  split
  · rename_i e; rw [e, h]
  · rfl
theorem mn_le (a b : Nat) : mn a b ≤ b := by unfold mn; split <;> omega
section
variable {i : Nat → Nat → Int32} {l : Nat → Nat → Int64} {g : Nat → Nat}
theorem s_M_leastTurn (d : Nat) {m s : Nat} {E : Nat → Nat} (hs : s < 4096) (hA : MA i g) (h1 : g 1 ≤ 6) (h2 : g 2 ≤ 4) (hG : ∀ p, p < 4 → i 11 (4 * s + p) = nI (gBit g m s p)) (hE : ∀ s, E s ≤ FARN) (h20s : i 20 s = nI (E s)) (h20 : ∀ j, j < 32 → avl g m s j = true → i 20 (tgt s j) = nI (E (tgt s j))) : am_cl (d + 2) mM_leastTurn [.ref 0, .int (nI s)] (i, l, rM, kM) = some (some (.int (nI (th g m E s))), (i, l, rM, kM)) := by
  have hF : FARN = 268435456 := rfl
  have hA' : ∀ k, k < 3222 → i 1 k = nI (g k) := hA
  rw [c_M_leastTurn, b_M_leastTurn_0]
  simp (disch := first | assumption | omega) only [b_M_leastTurn_0, b_M_leastTurn_45, b_M_leastTurn_59, b_M_leastTurn_75, b_M_leastTurn_77, b_M_leastTurn_103, s_M_isIn, s_M_withPlace, ↓Bool.cond_decide, ↓q_in, q_le, q_lt, q_eq, q_leT, q_leF, q_ltT, q_ltF, q_eqT, q_eqF, ↓reduceIte, not_true_eq_false, not_false_eq_true, true_and, and_true, and_self, false_and, and_false, Nat.zero_le, am_bd_some, q_app, q_app0, nI_add, pk_sub, pk_mul, q_dec, q_ix, q_m1, q_m1', ↓q_ret, q_bool, q_bool1, q_u2, q_u1, q_shl1, q_shr, q_and7, q_dg, fa_or, fa_and, decide_true, decide_false, Bool.or_false, Bool.or_true, Bool.true_or, Bool.false_or, cond_true, cond_false, ite_not, q_some, q_nn, q_xor, q_xorm, Bool.false_eq_true, decide_eq_true_eq, ne_eq, l_0, l_1, l_2, l_3, l_4, l_5, l_8, l_9, l_10, l_11, l_12, l_19, l_20, l_21, l_22, l_45, l_59, l_75, l_77, l_103, l_4096, l_16384, l_268435456, h20s]
  refine am_loop (fun p ls st => ∃ z4, ls = [.val (.ref 0), .val (.int (nI s)), .val (.int (nI (LT g m E s (8 * p)))), .val (.int (nI p)), z4] ∧ st = (i, l, rM, kM)) (g 2) (fun o => o = some (some (.int (nI (th g m E s))), (i, l, rM, kM))) (fun p ls st hp hI => ?_) (fun ls st hI => ?_) ⟨_, rfl, rfl⟩
  · obtain ⟨z4, e1, e2⟩ := hI
    subst e1; subst e2
    have hgb := gBit_lt (m := m) (s := s) (p := p) h1
    have h11 := hG p (by omega)
    rw [b_M_leastTurn_9]
    simp (disch := first | assumption | omega) only [b_M_leastTurn_0, b_M_leastTurn_45, b_M_leastTurn_59, b_M_leastTurn_75, b_M_leastTurn_77, b_M_leastTurn_103, s_M_isIn, s_M_withPlace, ↓Bool.cond_decide, ↓q_in, q_le, q_lt, q_eq, q_leT, q_leF, q_ltT, q_ltF, q_eqT, q_eqF, ↓reduceIte, not_true_eq_false, not_false_eq_true, true_and, and_true, and_self, false_and, and_false, Nat.zero_le, am_bd_some, q_app, q_app0, nI_add, pk_sub, pk_mul, q_dec, q_ix, q_m1, q_m1', ↓q_ret, q_bool, q_bool1, q_u2, q_u1, q_shl1, q_shr, q_and7, q_dg, fa_or, fa_and, decide_true, decide_false, Bool.or_false, Bool.or_true, Bool.true_or, Bool.false_or, cond_true, cond_false, ite_not, q_some, q_nn, q_xor, q_xorm, Bool.false_eq_true, decide_eq_true_eq, ne_eq, l_0, l_1, l_2, l_3, l_4, l_5, l_8, l_9, l_10, l_11, l_12, l_19, l_20, l_21, l_22, l_45, l_59, l_75, l_77, l_103, l_4096, l_16384, l_268435456, hA']
    refine am_loop (fun q ls st => ls = [.val (.ref 0), .val (.int (nI s)), .val (.int (nI (LT g m E s (8 * p + q)))), .val (.int (nI p)), .val (.int (nI q))] ∧ st = (i, l, rM, kM)) 8 _ (fun q ls st hq hI => ?_) (fun ls st hI => ?_) ⟨rfl, rfl⟩
    · obtain ⟨e1, e2⟩ := hI
      subst e1; subst e2
      have hwl := wp_lt (p := p) (x := q) hs (by omega) hq
      have hav := avl_pq (g := g) (m := m) (s := s) (p := p) hq
      have hta := tgt_pq (s := s) (p := p) hq
      have hLl := LT_le g m E s (8 * p + q)
      have hEs := hE s
      have hEt := hE (wp s p q)
      have eL : LT g m E s (8 * p + (q + 1)) = if avl g m s (8 * p + q) = true ∧ E (tgt s (8 * p + q)) < LT g m E s (8 * p + q) then E (tgt s (8 * p + q)) else LT g m E s (8 * p + q) := rfl
      rw [hav, hta] at eL
      rw [b_M_leastTurn_22]
      cases hb : (gBit g m s p).testBit q with
      | false =>
        rw [hb, if_neg (fun z => by cases z.1)] at eL
        simp (disch := first | assumption | omega) only [b_M_leastTurn_0, b_M_leastTurn_45, b_M_leastTurn_59, b_M_leastTurn_75, b_M_leastTurn_77, b_M_leastTurn_103, s_M_isIn, s_M_withPlace, ↓Bool.cond_decide, ↓q_in, q_le, q_lt, q_eq, q_leT, q_leF, q_ltT, q_ltF, q_eqT, q_eqF, ↓reduceIte, not_true_eq_false, not_false_eq_true, true_and, and_true, and_self, false_and, and_false, Nat.zero_le, am_bd_some, q_app, q_app0, nI_add, pk_sub, pk_mul, q_dec, q_ix, q_m1, q_m1', ↓q_ret, q_bool, q_bool1, q_u2, q_u1, q_shl1, q_shr, q_and7, q_dg, fa_or, fa_and, decide_true, decide_false, Bool.or_false, Bool.or_true, Bool.true_or, Bool.false_or, cond_true, cond_false, ite_not, q_some, q_nn, q_xor, q_xorm, Bool.false_eq_true, decide_eq_true_eq, ne_eq, l_0, l_1, l_2, l_3, l_4, l_5, l_8, l_9, l_10, l_11, l_12, l_19, l_20, l_21, l_22, l_45, l_59, l_75, l_77, l_103, l_4096, l_16384, l_268435456, h11, hb]
        exact Go_in ⟨by rw [eL], rfl⟩
      | true =>
        have h20t := h20 (8 * p + q) (by omega) (by rw [hav]; exact hb)
        rw [hta] at h20t
        by_cases hq2 : E (wp s p q) < LT g m E s (8 * p + q)
        · rw [hb, if_pos ⟨rfl, hq2⟩] at eL
          simp (disch := first | assumption | omega) only [b_M_leastTurn_0, b_M_leastTurn_45, b_M_leastTurn_59, b_M_leastTurn_75, b_M_leastTurn_77, b_M_leastTurn_103, s_M_isIn, s_M_withPlace, ↓Bool.cond_decide, ↓q_in, q_le, q_lt, q_eq, q_leT, q_leF, q_ltT, q_ltF, q_eqT, q_eqF, ↓reduceIte, not_true_eq_false, not_false_eq_true, true_and, and_true, and_self, false_and, and_false, Nat.zero_le, am_bd_some, q_app, q_app0, nI_add, pk_sub, pk_mul, q_dec, q_ix, q_m1, q_m1', ↓q_ret, q_bool, q_bool1, q_u2, q_u1, q_shl1, q_shr, q_and7, q_dg, fa_or, fa_and, decide_true, decide_false, Bool.or_false, Bool.or_true, Bool.true_or, Bool.false_or, cond_true, cond_false, ite_not, q_some, q_nn, q_xor, q_xorm, Bool.false_eq_true, decide_eq_true_eq, ne_eq, l_0, l_1, l_2, l_3, l_4, l_5, l_8, l_9, l_10, l_11, l_12, l_19, l_20, l_21, l_22, l_45, l_59, l_75, l_77, l_103, l_4096, l_16384, l_268435456, h11, hb, h20t]
          exact Go_in ⟨by rw [eL], rfl⟩
        · rw [hb, if_neg (fun z => hq2 z.2)] at eL
          simp (disch := first | assumption | omega) only [b_M_leastTurn_0, b_M_leastTurn_45, b_M_leastTurn_59, b_M_leastTurn_75, b_M_leastTurn_77, b_M_leastTurn_103, s_M_isIn, s_M_withPlace, ↓Bool.cond_decide, ↓q_in, q_le, q_lt, q_eq, q_leT, q_leF, q_ltT, q_ltF, q_eqT, q_eqF, ↓reduceIte, not_true_eq_false, not_false_eq_true, true_and, and_true, and_self, false_and, and_false, Nat.zero_le, am_bd_some, q_app, q_app0, nI_add, pk_sub, pk_mul, q_dec, q_ix, q_m1, q_m1', ↓q_ret, q_bool, q_bool1, q_u2, q_u1, q_shl1, q_shr, q_and7, q_dg, fa_or, fa_and, decide_true, decide_false, Bool.or_false, Bool.or_true, Bool.true_or, Bool.false_or, cond_true, cond_false, ite_not, q_some, q_nn, q_xor, q_xorm, Bool.false_eq_true, decide_eq_true_eq, ne_eq, l_0, l_1, l_2, l_3, l_4, l_5, l_8, l_9, l_10, l_11, l_12, l_19, l_20, l_21, l_22, l_45, l_59, l_75, l_77, l_103, l_4096, l_16384, l_268435456, h11, hb, h20t]
          exact Go_in ⟨by rw [eL], rfl⟩
    · obtain ⟨e1, e2⟩ := hI
      subst e1; subst e2
      rw [b_M_leastTurn_22]
      simp (disch := first | assumption | omega) only [b_M_leastTurn_0, b_M_leastTurn_45, b_M_leastTurn_59, b_M_leastTurn_75, b_M_leastTurn_77, b_M_leastTurn_103, s_M_isIn, s_M_withPlace, ↓Bool.cond_decide, ↓q_in, q_le, q_lt, q_eq, q_leT, q_leF, q_ltT, q_ltF, q_eqT, q_eqF, ↓reduceIte, not_true_eq_false, not_false_eq_true, true_and, and_true, and_self, false_and, and_false, Nat.zero_le, am_bd_some, q_app, q_app0, nI_add, pk_sub, pk_mul, q_dec, q_ix, q_m1, q_m1', ↓q_ret, q_bool, q_bool1, q_u2, q_u1, q_shl1, q_shr, q_and7, q_dg, fa_or, fa_and, decide_true, decide_false, Bool.or_false, Bool.or_true, Bool.true_or, Bool.false_or, cond_true, cond_false, ite_not, q_some, q_nn, q_xor, q_xorm, Bool.false_eq_true, decide_eq_true_eq, ne_eq, l_0, l_1, l_2, l_3, l_4, l_5, l_8, l_9, l_10, l_11, l_12, l_19, l_20, l_21, l_22, l_45, l_59, l_75, l_77, l_103, l_4096, l_16384, l_268435456]
      exact Go_in ⟨_, rfl, rfl⟩
  · obtain ⟨z4, e1, e2⟩ := hI
    subst e1; subst e2
    have hLl := LT_le g m E s (8 * g 2)
    have hEs := hE s
    rw [b_M_leastTurn_9]
    unfold th
    by_cases hf : LT g m E s (8 * g 2) = FARN
    · have hf' : LT g m E s (8 * g 2) = 268435456 := hf
      simp (disch := first | assumption | omega) only [b_M_leastTurn_0, b_M_leastTurn_45, b_M_leastTurn_59, b_M_leastTurn_75, b_M_leastTurn_77, b_M_leastTurn_103, s_M_isIn, s_M_withPlace, ↓Bool.cond_decide, ↓q_in, q_le, q_lt, q_eq, q_leT, q_leF, q_ltT, q_ltF, q_eqT, q_eqF, ↓reduceIte, not_true_eq_false, not_false_eq_true, true_and, and_true, and_self, false_and, and_false, Nat.zero_le, am_bd_some, q_app, q_app0, nI_add, pk_sub, pk_mul, q_dec, q_ix, q_m1, q_m1', ↓q_ret, q_bool, q_bool1, q_u2, q_u1, q_shl1, q_shr, q_and7, q_dg, fa_or, fa_and, decide_true, decide_false, Bool.or_false, Bool.or_true, Bool.true_or, Bool.false_or, cond_true, cond_false, ite_not, q_some, q_nn, q_xor, q_xorm, Bool.false_eq_true, decide_eq_true_eq, ne_eq, l_0, l_1, l_2, l_3, l_4, l_5, l_8, l_9, l_10, l_11, l_12, l_19, l_20, l_21, l_22, l_45, l_59, l_75, l_77, l_103, l_4096, l_16384, l_268435456, hA', hf', hF]
    · have hf' : LT g m E s (8 * g 2) ≠ 268435456 := hf
      simp (disch := first | assumption | omega) only [b_M_leastTurn_0, b_M_leastTurn_45, b_M_leastTurn_59, b_M_leastTurn_75, b_M_leastTurn_77, b_M_leastTurn_103, s_M_isIn, s_M_withPlace, ↓Bool.cond_decide, ↓q_in, q_le, q_lt, q_eq, q_leT, q_leF, q_ltT, q_ltF, q_eqT, q_eqF, ↓reduceIte, not_true_eq_false, not_false_eq_true, true_and, and_true, and_self, false_and, and_false, Nat.zero_le, am_bd_some, q_app, q_app0, nI_add, pk_sub, pk_mul, q_dec, q_ix, q_m1, q_m1', ↓q_ret, q_bool, q_bool1, q_u2, q_u1, q_shl1, q_shr, q_and7, q_dg, fa_or, fa_and, decide_true, decide_false, Bool.or_false, Bool.or_true, Bool.true_or, Bool.false_or, cond_true, cond_false, ite_not, q_some, q_nn, q_xor, q_xorm, Bool.false_eq_true, decide_eq_true_eq, ne_eq, l_0, l_1, l_2, l_3, l_4, l_5, l_8, l_9, l_10, l_11, l_12, l_19, l_20, l_21, l_22, l_45, l_59, l_75, l_77, l_103, l_4096, l_16384, l_268435456, hA', hf', hF]
theorem r_M_laysForced (d : Nat) {w : Nat} (hw : w < g 2) (hA : MA i g) (hW : WG g) : MR (some (.int (nI (fc g (evb g) w (sNow g 4))))) (fun i' l' => l' = l ∧ Fx [5, 6, 7, 8, 10, 11, 12, 13, 20, 21, 120, 128] i i' ∧ GOk g (evb g) i' (stds g (evb g) true (sNow g 4)) (stds g (evb g) true (sNow g 4)).length ∧ F20 i' (stds g (evb g) true (sNow g 4)) (rf g (evb g) w)) (am_cl (d + 8) mM_laysForced [.ref 0, .int (nI w)] (i, l, rM, kM)) := by
  have hF : FARN = 268435456 := rfl
  have hev : evb g < 16 := evb_lt hW.2.1
  have hst := r_M_laysStands (i := i) (l := l) d (m := evb g) (t := true) (by omega) hA hW
  obtain ⟨⟨h1', h1⟩, h2, h3, hR, hF', hP, hSt, hD', hL0, hL1, hV⟩ := hW
  have hn := sNow_lt g hP 4 (by decide)
  have e0 : (if true = true then nI 1 else nI 0) = nI 1 := rfl
  rw [e0] at hst
  have hlen := stds_len (m := evb g) (t := true) h2 hn
  have hlt : ∀ s, s ∈ stds g (evb g) true (sNow g 4) → s < 4096 := fun s hs => stds_lt h2 hn hs
  have hstart : sNow g 4 ∈ stds g (evb g) true (sNow g 4) := stds_start h2 hn
  have hcl : ∀ s, s ∈ stds g (evb g) true (sNow g 4) → ∀ j, j < 32 → avl g (evb g) s j = true → tgt s j ∈ stds g (evb g) true (sNow g 4) := fun s hs => (stds_step h2 hn hs).1
  have hfl : ∀ s, s ∈ stds g (evb g) true (sNow g 4) → sFl g (g 3) s ∈ stds g (evb g) true (sNow g 4) := fun s hs => (stds_step h2 hn hs).2 rfl
  obtain ⟨L, hL⟩ : ∃ L, stds g (evb g) true (sNow g 4) = L := ⟨_, rfl⟩
  rw [hL] at hst hlen hlt hstart hcl hfl ⊢
  rw [c_M_laysForced, b_M_laysForced_0]
  simp (disch := first | assumption | omega) only [b_M_laysForced_0, b_M_laysForced_5, b_M_laysForced_9, b_M_laysForced_42, b_M_laysForced_53, b_M_laysForced_58, b_M_laysForced_67, b_M_laysForced_118, b_M_laysForced_123, b_M_laysForced_135, b_M_laysForced_181, b_M_laysForced_208, b_M_laysForced_213, b_M_laysForced_245, b_M_laysForced_276, b_M_laysForced_277, b_M_laysForced_294, s_M_everybody', s_M_isIn, s_M_leastTurn, s_M_over, s_M_standNow, ↓Bool.cond_decide, ↓q_in, q_le, q_lt, q_eq, q_leT, q_leF, q_ltT, q_ltF, q_eqT, q_eqF, ↓reduceIte, not_true_eq_false, not_false_eq_true, true_and, and_true, and_self, false_and, and_false, Nat.zero_le, am_bd_some, q_app, q_app0, nI_add, pk_sub, pk_mul, q_dec, q_ix, q_m1, q_m1', ↓q_ret, q_bool, q_bool1, q_u2, q_u1, q_shl1, q_shr, q_and7, q_dg, fa_or, fa_and, decide_true, decide_false, Bool.or_false, Bool.or_true, Bool.true_or, Bool.false_or, cond_true, cond_false, ite_not, q_some, q_nn, q_xor, q_xorm, Bool.false_eq_true, decide_eq_true_eq, ne_eq, l_0, l_1, l_3, l_4, l_5, l_8, l_9, l_10, l_11, l_12, l_13, l_14, l_16, l_20, l_21, l_24, l_28, l_29, l_42, l_53, l_58, l_67, l_88, l_96, l_118, l_123, l_135, l_181, l_208, l_213, l_245, l_276, l_277, l_294, l_4096, l_268435456, s_M_everybody']
  refine MR_bd hst ?_
  intro i1 l1 ⟨hl1, hf1, hQ1, hG1, hT1⟩
  subst hl1
  have hM1 : MA i1 g := MA_fx hf1 hA rfl
  simp (disch := first | assumption | omega) only [b_M_laysForced_0, b_M_laysForced_5, b_M_laysForced_9, b_M_laysForced_42, b_M_laysForced_53, b_M_laysForced_58, b_M_laysForced_67, b_M_laysForced_118, b_M_laysForced_123, b_M_laysForced_135, b_M_laysForced_181, b_M_laysForced_208, b_M_laysForced_213, b_M_laysForced_245, b_M_laysForced_276, b_M_laysForced_277, b_M_laysForced_294, s_M_everybody, s_M_everybody', s_M_isIn, s_M_leastTurn, s_M_over, s_M_standNow, ↓Bool.cond_decide, ↓q_in, q_le, q_lt, q_eq, q_leT, q_leF, q_ltT, q_ltF, q_eqT, q_eqF, ↓reduceIte, not_true_eq_false, not_false_eq_true, true_and, and_true, and_self, false_and, and_false, Nat.zero_le, am_bd_some, q_app, q_app0, nI_add, pk_sub, pk_mul, q_dec, q_ix, q_m1, q_m1', ↓q_ret, q_bool, q_bool1, q_u2, q_u1, q_shl1, q_shr, q_and7, q_dg, fa_or, fa_and, decide_true, decide_false, Bool.or_false, Bool.or_true, Bool.true_or, Bool.false_or, cond_true, cond_false, ite_not, q_some, q_nn, q_xor, q_xorm, Bool.false_eq_true, decide_eq_true_eq, ne_eq, l_0, l_1, l_3, l_4, l_5, l_8, l_9, l_10, l_11, l_12, l_13, l_14, l_16, l_20, l_21, l_24, l_28, l_29, l_42, l_53, l_58, l_67, l_88, l_96, l_118, l_123, l_135, l_181, l_208, l_213, l_245, l_276, l_277, l_294, l_4096, l_268435456]
  refine am_loop (fun k ls st => ∃ i' z3 z4 z5 z6, ls = [.val (.ref 0), .val (.int (nI w)), .val (.int (nI k)), z3, z4, z5, z6] ∧ st = (i', l1, rM, kM) ∧ Fx [5, 6, 12, 20, 21, 120] i1 i' ∧ ∀ j s, j < k → L[j]? = some s → i' 12 s = nI (if (sOver g s).testBit w = true then 0 else FARN) ∧ i' 20 s = nI (if (sOver g s).testBit w = true then 0 else FARN) ∧ i' 21 s = nI (sFl g (g 3) s)) L.length _ (fun k ls st hk hI => ?_) (fun ls st hI => ?_) ⟨i1, _, _, _, _, rfl, rfl, Fx_refl _ _, fun j s hj => by omega⟩
  · obtain ⟨i2, z3, z4, z5, z6, e1, e2, hf2, hh⟩ := hI
    subst e1; subst e2
    have hQ2 : QI i2 L := QI_fx hf2 hQ1 rfl rfl rfl
    have hM2 : MA i2 g := MA_fx hf2 hM1 rfl
    have hs := getD_at hk
    have h10 := hQ2.1 k _ hs
    have h28 := hQ2.2.2
    have hs4 := hlt _ (List.mem_of_getElem? hs)
    have hg3 := hM2 3 (by decide)
    obtain ⟨i3, l3, e3, hl3, hf3, _⟩ := r_M_floodedTo (i := i2) (l := l1) (d + 1) (w := g 3) hs4 (by omega) hM2 h1 h2 hSt hL0
    subst hl3
    have hM3 : MA i3 g := MA_fx hf3 hM2 rfl
    have hM4 : MA (am_u2 i3 21 (L.getD k 0) (nI (sFl g (g 3) (L.getD k 0)))) g := hM3
    have hov := sOver_lt (g := g) (a := L.getD k 0) h2
    have fin : ∀ v, v = (if (sOver g (L.getD k 0)).testBit w = true then 0 else FARN) → ∀ z3 z4 z5 z6, Go (d + 7) mM_laysForced 11 (fun ls st => ∃ i' z3 z4 z5 z6, ls = [.val (.ref 0), .val (.int (nI w)), .val (.int (nI (k + 1))), z3, z4, z5, z6] ∧ st = (i', l3, rM, kM) ∧ Fx [5, 6, 12, 20, 21, 120] i1 i' ∧ ∀ j s, j < k + 1 → L[j]? = some s → i' 12 s = nI (if (sOver g s).testBit w = true then 0 else FARN) ∧ i' 20 s = nI (if (sOver g s).testBit w = true then 0 else FARN) ∧ i' 21 s = nI (sFl g (g 3) s)) (am_Ex (d + 7) mM_laysForced 11 [.val (.ref 0), .val (.int (nI w)), .val (.int (nI (k + 1))), z3, z4, z5, z6] [] (am_u2 (am_u2 (am_u2 i3 21 (L.getD k 0) (nI (sFl g (g 3) (L.getD k 0)))) 12 (L.getD k 0) (nI v)) 20 (L.getD k 0) (nI v), l3, rM, kM)) := by
      intro v hv z3 z4 z5 z6
      refine Go_in ⟨_, _, _, _, _, rfl, rfl, by (repeat (first | exact Fx_refl _ _ | assumption | refine Fx_u2 rfl ?_ | refine Fx_u1 rfl (by decide) ?_ | refine Fx_step (by assumption) rfl ?_ | refine Fx_stepr (by assumption) rfl rfl ?_)), fun j s hj hjs => ?_⟩
      show (if s = L.getD k 0 then nI v else i3 12 s) = _ ∧ (if s = L.getD k 0 then nI v else i3 20 s) = _ ∧ (if s = L.getD k 0 then nI (sFl g (g 3) (L.getD k 0)) else i3 21 s) = _
      by_cases e : s = L.getD k 0
      · rw [if_pos e, if_pos e, if_pos e, hv, e]
        exact ⟨rfl, rfl, rfl⟩
      · rw [if_neg e, if_neg e, if_neg e, Fx_row hf3 (by decide) rfl, Fx_row hf3 (by decide) rfl, Fx_row hf3 (by decide) rfl]
        refine hh j s ?_ hjs
        by_cases ej : j = k
        · subst ej; rw [hs] at hjs; cases hjs; exact absurd rfl e
        · omega
    rw [b_M_laysForced_11]
    cases ho : (sOver g (L.getD k 0)).testBit w with
    | true =>
      simp (disch := first | assumption | omega) only [b_M_laysForced_0, b_M_laysForced_5, b_M_laysForced_9, b_M_laysForced_42, b_M_laysForced_53, b_M_laysForced_58, b_M_laysForced_67, b_M_laysForced_118, b_M_laysForced_123, b_M_laysForced_135, b_M_laysForced_181, b_M_laysForced_208, b_M_laysForced_213, b_M_laysForced_245, b_M_laysForced_276, b_M_laysForced_277, b_M_laysForced_294, s_M_everybody, s_M_everybody', s_M_isIn, s_M_leastTurn, s_M_over, s_M_standNow, ↓Bool.cond_decide, ↓q_in, q_le, q_lt, q_eq, q_leT, q_leF, q_ltT, q_ltF, q_eqT, q_eqF, ↓reduceIte, not_true_eq_false, not_false_eq_true, true_and, and_true, and_self, false_and, and_false, Nat.zero_le, am_bd_some, q_app, q_app0, nI_add, pk_sub, pk_mul, q_dec, q_ix, q_m1, q_m1', ↓q_ret, q_bool, q_bool1, q_u1, q_shl1, q_shr, q_and7, q_dg, fa_or, fa_and, decide_true, decide_false, Bool.or_false, Bool.or_true, Bool.true_or, Bool.false_or, cond_true, cond_false, ite_not, q_some, q_nn, q_xor, q_xorm, Bool.false_eq_true, decide_eq_true_eq, ne_eq, l_0, l_1, l_3, l_4, l_5, l_8, l_9, l_10, l_11, l_12, l_13, l_14, l_16, l_20, l_21, l_24, l_28, l_29, l_42, l_53, l_58, l_67, l_88, l_96, l_118, l_123, l_135, l_181, l_208, l_213, l_245, l_276, l_277, l_294, l_4096, l_268435456, h10, h28, hg3, e3, ho, q_u2s]
      exact fin 0 (by rw [ho]; rfl) _ _ _ _
    | false =>
      simp (disch := first | assumption | omega) only [b_M_laysForced_0, b_M_laysForced_5, b_M_laysForced_9, b_M_laysForced_42, b_M_laysForced_53, b_M_laysForced_58, b_M_laysForced_67, b_M_laysForced_118, b_M_laysForced_123, b_M_laysForced_135, b_M_laysForced_181, b_M_laysForced_208, b_M_laysForced_213, b_M_laysForced_245, b_M_laysForced_276, b_M_laysForced_277, b_M_laysForced_294, s_M_everybody, s_M_everybody', s_M_isIn, s_M_leastTurn, s_M_over, s_M_standNow, ↓Bool.cond_decide, ↓q_in, q_le, q_lt, q_eq, q_leT, q_leF, q_ltT, q_ltF, q_eqT, q_eqF, ↓reduceIte, not_true_eq_false, not_false_eq_true, true_and, and_true, and_self, false_and, and_false, Nat.zero_le, am_bd_some, q_app, q_app0, nI_add, pk_sub, pk_mul, q_dec, q_ix, q_m1, q_m1', ↓q_ret, q_bool, q_bool1, q_u1, q_shl1, q_shr, q_and7, q_dg, fa_or, fa_and, decide_true, decide_false, Bool.or_false, Bool.or_true, Bool.true_or, Bool.false_or, cond_true, cond_false, ite_not, q_some, q_nn, q_xor, q_xorm, Bool.false_eq_true, decide_eq_true_eq, ne_eq, l_0, l_1, l_3, l_4, l_5, l_8, l_9, l_10, l_11, l_12, l_13, l_14, l_16, l_20, l_21, l_24, l_28, l_29, l_42, l_53, l_58, l_67, l_88, l_96, l_118, l_123, l_135, l_181, l_208, l_213, l_245, l_276, l_277, l_294, l_4096, l_268435456, h10, h28, hg3, e3, ho, q_u2s]
      exact fin FARN (by rw [ho]; rfl) _ _ _ _
  obtain ⟨i2, z3, z4, z5, z6, e1, e2, hf2, hh⟩ := hI
  subst e1; subst e2
  have h28 : i2 0 28 = nI L.length := by rw [hf2 0 28 rfl]; exact hQ1.2.2
  have h21 : ∀ s, s ∈ L → i2 21 s = nI (sFl g (g 3) s) := fun s hs => by
    obtain ⟨k, hk, e⟩ := List.getElem_of_mem hs
    exact (hh k s hk (by rw [List.getElem?_eq_getElem hk, e])).2.2
  have key : ∀ B D E i3 z3 z4 z5 z6, sSum (fun k => D (L.getD k 0) + E (L.getD k 0)) L.length < B → Fx [12, 20] i2 i3 → F12 i3 L D → F20 i3 L E → FE g (evb g) w L D E → MR (some (.int (nI (fc g (evb g) w (sNow g 4))))) (fun i' l' => l' = l1 ∧ Fx [5, 6, 7, 8, 10, 11, 12, 13, 20, 21, 120, 128] i i' ∧ GOk g (evb g) i' L L.length ∧ F20 i' L (rf g (evb g) w)) (am_Ex (d + 7) mM_laysForced 88 [.val (.ref 0), .val (.int (nI w)), .val (.int (nI 1)), z3, z4, z5, z6] [] (i3, l1, rM, kM)) := by
    intro B
    induction B with
    | zero =>
      intro D E i3 z3 z4 z5 z6 hB
      omega
    | succ B ih =>
      intro D E i3 z3 z4 z5 z6 hB hf3 h12 h20 hFE
      rw [b_M_laysForced_88]
      simp (disch := first | assumption | omega) only [b_M_laysForced_0, b_M_laysForced_5, b_M_laysForced_9, b_M_laysForced_42, b_M_laysForced_53, b_M_laysForced_58, b_M_laysForced_67, b_M_laysForced_118, b_M_laysForced_123, b_M_laysForced_135, b_M_laysForced_181, b_M_laysForced_208, b_M_laysForced_213, b_M_laysForced_245, b_M_laysForced_276, b_M_laysForced_277, b_M_laysForced_294, s_M_everybody, s_M_everybody', s_M_isIn, s_M_leastTurn, s_M_over, s_M_standNow, ↓Bool.cond_decide, ↓q_in, q_le, q_lt, q_eq, q_leT, q_leF, q_ltT, q_ltF, q_eqT, q_eqF, ↓reduceIte, not_true_eq_false, not_false_eq_true, true_and, and_true, and_self, false_and, and_false, Nat.zero_le, am_bd_some, q_app, q_app0, nI_add, pk_sub, pk_mul, q_dec, q_ix, q_m1, q_m1', ↓q_ret, q_bool, q_bool1, q_u2, q_u1, q_shl1, q_shr, q_and7, q_dg, fa_or, fa_and, decide_true, decide_false, Bool.or_false, Bool.or_true, Bool.true_or, Bool.false_or, cond_true, cond_false, ite_not, q_some, q_nn, q_xor, q_xorm, Bool.false_eq_true, decide_eq_true_eq, ne_eq, l_0, l_1, l_3, l_4, l_5, l_8, l_9, l_10, l_11, l_12, l_13, l_14, l_16, l_20, l_21, l_24, l_28, l_29, l_42, l_53, l_58, l_67, l_88, l_96, l_118, l_123, l_135, l_181, l_208, l_213, l_245, l_276, l_277, l_294, l_4096, l_268435456]
      refine am_loop (fun k ls st => ∃ i' D' E' mo z4 z5 z6, ls = [.val (.ref 0), .val (.int (nI w)), .val (.int (if mo = true then nI 1 else nI 0)), .val (.int (nI k)), z4, z5, z6] ∧ st = (i', l1, rM, kM) ∧ Fx [12, 20] i2 i' ∧ F12 i' L D' ∧ F20 i' L E' ∧ FE g (evb g) w L D' E' ∧ (mo = false → D' = D ∧ E' = E ∧ ∀ j s, j < k → L[j]? = some s → (sOver g s).testBit w = false → D s ≤ th g (evb g) E s ∧ E s ≤ mx (D (sFl g (g 3) s)) (D s)) ∧ sSum (fun k => D' (L.getD k 0) + E' (L.getD k 0)) L.length ≤ sSum (fun k => D (L.getD k 0) + E (L.getD k 0)) L.length ∧ (mo = true → sSum (fun k => D' (L.getD k 0) + E' (L.getD k 0)) L.length < sSum (fun k => D (L.getD k 0) + E (L.getD k 0)) L.length)) L.length _ (fun k ls st hk hI => ?_) (fun ls st hI => ?_) ⟨i3, D, E, false, _, _, _, rfl, rfl, hf3, h12, h20, hFE, fun _ => ⟨rfl, rfl, fun j s hj => by omega⟩, Nat.le_refl _, fun z => by cases z⟩
      · obtain ⟨i4, D4, E4, mo, z4, z5, z6, e1, e2, hf4, h124, h204, hFE4, hm0, hsl, hm1⟩ := hI
        subst e1; subst e2
        have hs := getD_at hk
        have hsL := List.mem_of_getElem? hs
        have hs4 := hlt _ hsL
        have hf5 : Fx [5, 6, 12, 20, 21, 120] i1 i4 := by (repeat (first | exact Fx_refl _ _ | assumption | refine Fx_u2 rfl ?_ | refine Fx_u1 rfl (by decide) ?_ | refine Fx_step (by assumption) rfl ?_ | refine Fx_stepr (by assumption) rfl rfl ?_))
        have hQ4 : QI i4 L := QI_fx hf5 hQ1 rfl rfl rfl
        have hM4 : MA i4 g := MA_fx hf5 hM1 rfl
        have hG4 : GOk g (evb g) i4 L L.length := GOk_fx hf5 hG1 rfl
        have h10 := hQ4.1 k _ hs
        have h28' := hQ4.2.2
        have hov := sOver_lt (g := g) (a := L.getD k 0) h2
        have h12s := h124 _ hsL
        have h20s := h204 _ hsL
        have h21s : i4 21 (L.getD k 0) = nI (sFl g (g 3) (L.getD k 0)) := by rw [Fx_row hf4 (by decide) rfl]; exact h21 _ hsL
        have h12f := h124 _ (hfl _ hsL)
        have hsf4 := hlt _ (hfl _ hsL)
        have hb1 := hFE4.1 (L.getD k 0)
        have hb2 := hFE4.1 (sFl g (g 3) (L.getD k 0))
        have hthl := th_le (g := g) (m := evb g) (fun s => (hFE4.1 s).2) (L.getD k 0)
        have hlt2 := s_M_leastTurn (i := i4) (l := l1) (d + 5) (m := evb g) (s := L.getD k 0) (E := E4) hs4 hM4 h1 h2 (hG4 k _ hk hs) (fun s => (hFE4.1 s).2) h20s (fun j hj ha => h204 _ (hcl _ hsL j hj ha))
        rw [b_M_laysForced_96]
        cases ho : (sOver g (L.getD k 0)).testBit w with
        | true =>
          simp (disch := first | assumption | omega) only [b_M_laysForced_0, b_M_laysForced_5, b_M_laysForced_9, b_M_laysForced_42, b_M_laysForced_53, b_M_laysForced_58, b_M_laysForced_67, b_M_laysForced_118, b_M_laysForced_123, b_M_laysForced_135, b_M_laysForced_181, b_M_laysForced_208, b_M_laysForced_213, b_M_laysForced_245, b_M_laysForced_276, b_M_laysForced_277, b_M_laysForced_294, s_M_everybody, s_M_everybody', s_M_isIn, s_M_leastTurn, s_M_over, s_M_standNow, ↓Bool.cond_decide, ↓q_in, q_le, q_lt, q_eq, q_leT, q_leF, q_ltT, q_ltF, q_eqT, q_eqF, ↓reduceIte, not_true_eq_false, not_false_eq_true, true_and, and_true, and_self, false_and, and_false, Nat.zero_le, am_bd_some, q_app, q_app0, nI_add, pk_sub, pk_mul, q_dec, q_ix, q_m1, q_m1', ↓q_ret, q_bool, q_bool1, q_u2, q_u1, q_shl1, q_shr, q_and7, q_dg, fa_or, fa_and, decide_true, decide_false, Bool.or_false, Bool.or_true, Bool.true_or, Bool.false_or, cond_true, cond_false, ite_not, q_some, q_nn, q_xor, q_xorm, Bool.false_eq_true, decide_eq_true_eq, ne_eq, l_0, l_1, l_3, l_4, l_5, l_8, l_9, l_10, l_11, l_12, l_13, l_14, l_16, l_20, l_21, l_24, l_28, l_29, l_42, l_53, l_58, l_67, l_88, l_96, l_118, l_123, l_135, l_181, l_208, l_213, l_245, l_276, l_277, l_294, l_4096, l_268435456, h10, h28', ho]
          refine Go_in ⟨i4, D4, E4, mo, _, _, _, rfl, rfl, hf4, h124, h204, hFE4, fun hz => ?_, hsl, hm1⟩
          obtain ⟨a1, a2, a3⟩ := hm0 hz
          refine ⟨a1, a2, fun j s hj hjs hos => ?_⟩
          by_cases ej : j = k
          · subst ej; rw [hs] at hjs; cases hjs; rw [ho] at hos; cases hos
          · exact a3 j s (by omega) hjs hos
        | false =>
          have hFE5 := FE_upd h2 hFE4 hsL (hcl _ hsL) (hfl _ hsL)
          generalize hsv : L.getD k 0 = s at *
          have hterm : ∀ x, x < L.length → ug D4 s (mn (th g (evb g) E4 s) (D4 s)) (L.getD x 0) + ug E4 s (mn (mx (D4 (sFl g (g 3) s)) (D4 s)) (E4 s)) (L.getD x 0) ≤ D4 (L.getD x 0) + E4 (L.getD x 0) := fun x _ => by
            have m1 := mn_le (th g (evb g) E4 s) (D4 s)
            have m2 := mn_le (mx (D4 (sFl g (g 3) s)) (D4 s)) (E4 s)
            unfold ug
            by_cases e : L.getD x 0 = s
            · rw [if_pos e, if_pos e, e]; omega
            · rw [if_neg e, if_neg e]; exact Nat.le_refl _
          have fin : ∀ mo', ((mo' = if mo = true ∨ th g (evb g) E4 s < D4 s ∨ mx (D4 (sFl g (g 3) s)) (D4 s) < E4 s then true else false)) → ∀ z4 z5 z6, Go (d + 7) mM_laysForced 96 (fun ls st => ∃ i' D' E' mo z4 z5 z6, ls = [.val (.ref 0), .val (.int (nI w)), .val (.int (if mo = true then nI 1 else nI 0)), .val (.int (nI (k + 1))), z4, z5, z6] ∧ st = (i', l1, rM, kM) ∧ Fx [12, 20] i2 i' ∧ F12 i' L D' ∧ F20 i' L E' ∧ FE g (evb g) w L D' E' ∧ (mo = false → D' = D ∧ E' = E ∧ ∀ j s, j < k + 1 → L[j]? = some s → (sOver g s).testBit w = false → D s ≤ th g (evb g) E s ∧ E s ≤ mx (D (sFl g (g 3) s)) (D s)) ∧ sSum (fun k => D' (L.getD k 0) + E' (L.getD k 0)) L.length ≤ sSum (fun k => D (L.getD k 0) + E (L.getD k 0)) L.length ∧ (mo = true → sSum (fun k => D' (L.getD k 0) + E' (L.getD k 0)) L.length < sSum (fun k => D (L.getD k 0) + E (L.getD k 0)) L.length)) (am_Ex (d + 7) mM_laysForced 96 [.val (.ref 0), .val (.int (nI w)), .val (.int (if mo' = true then nI 1 else nI 0)), .val (.int (nI (k + 1))), z4, z5, z6] [] (am_u2 (am_u2 i4 12 s (nI (mn (th g (evb g) E4 s) (D4 s)))) 20 s (nI (mn (mx (D4 (sFl g (g 3) s)) (D4 s)) (E4 s))), l1, rM, kM)) := by
            intro mo' hmo z4 z5 z6
            have hsum := sSum_le2 L.length hterm
            refine Go_in ⟨_, _, _, mo', _, _, _, rfl, rfl, by (repeat (first | exact Fx_refl _ _ | assumption | refine Fx_u2 rfl ?_ | refine Fx_u1 rfl (by decide) ?_ | refine Fx_step (by assumption) rfl ?_ | refine Fx_stepr (by assumption) rfl rfl ?_)), (F12_u2 h124 : F12 (am_u2 i4 12 s (nI (mn (th g (evb g) E4 s) (D4 s)))) L _), F20_u2 (i := am_u2 i4 12 s (nI (mn (th g (evb g) E4 s) (D4 s)))) h204, hFE5, fun hz => ?_, by omega, fun hz => ?_⟩
            · rw [hz] at hmo
              have hno : ¬ (mo = true ∨ th g (evb g) E4 s < D4 s ∨ mx (D4 (sFl g (g 3) s)) (D4 s) < E4 s) := fun z => by rw [if_pos z] at hmo; cases hmo
              have hmf : mo = false := by cases hmm : mo with | false => rfl | true => exact absurd (Or.inl hmm) hno
              have hD : mn (th g (evb g) E4 s) (D4 s) = D4 s := by unfold mn; rw [if_neg (fun z => hno (Or.inr (Or.inl z)))]
              have hE : mn (mx (D4 (sFl g (g 3) s)) (D4 s)) (E4 s) = E4 s := by unfold mn; rw [if_neg (fun z => hno (Or.inr (Or.inr z)))]
              have hD2 : ug D4 s (mn (th g (evb g) E4 s) (D4 s)) = D4 := ug_id hD
              have hE2 : ug E4 s (mn (mx (D4 (sFl g (g 3) s)) (D4 s)) (E4 s)) = E4 := ug_id hE
              obtain ⟨a1, a2, a3⟩ := hm0 hmf
              rw [hD2, hE2]
              refine ⟨a1, a2, fun j s' hj hjs hos => ?_⟩
              by_cases ej : j = k
              · subst ej
                rw [hs] at hjs
                cases hjs
                rw [← a1, ← a2]
                exact ⟨Nat.le_of_not_lt (fun z => hno (Or.inr (Or.inl z))), Nat.le_of_not_lt (fun z => hno (Or.inr (Or.inr z)))⟩
              · exact a3 j s' (by omega) hjs hos
            · by_cases hst : th g (evb g) E4 s < D4 s ∨ mx (D4 (sFl g (g 3) s)) (D4 s) < E4 s
              · have hstr : ug D4 s (mn (th g (evb g) E4 s) (D4 s)) (L.getD k 0) + ug E4 s (mn (mx (D4 (sFl g (g 3) s)) (D4 s)) (E4 s)) (L.getD k 0) < D4 (L.getD k 0) + E4 (L.getD k 0) := by
                  rw [hsv]
                  unfold ug
                  rw [if_pos rfl, if_pos rfl]
                  have m1 := mn_le (th g (evb g) E4 s) (D4 s)
                  have m2 := mn_le (mx (D4 (sFl g (g 3) s)) (D4 s)) (E4 s)
                  rcases hst with hst | hst
                  · have : mn (th g (evb g) E4 s) (D4 s) < D4 s := by unfold mn; rw [if_pos hst]; exact hst
                    omega
                  · have : mn (mx (D4 (sFl g (g 3) s)) (D4 s)) (E4 s) < E4 s := by unfold mn; rw [if_pos hst]; exact hst
                    omega
                have := sSum_lt2 L.length hterm hk hstr
                omega
              · have hmt : mo = true := by
                  cases hmm : mo with
                  | true => rfl
                  | false =>
                    rw [hmm, if_neg (fun z => z.elim (fun q => by cases q) hst), hz] at hmo
                    cases hmo
                have := hm1 hmt
                omega
          have eor1 : (if mo = true then nI 1 else nI 0) ||| nI 1 = nI 1 := by cases mo <;> decide
          have eor0 : (if mo = true then nI 1 else nI 0) ||| nI 0 = if mo = true then nI 1 else nI 0 := by cases mo <;> decide
          by_cases q1 : D4 s < D4 (sFl g (g 3) s)
          · have eM : mx (D4 (sFl g (g 3) s)) (D4 s) = D4 (sFl g (g 3) s) := if_pos q1
            rw [eM] at fin
            by_cases q2 : th g (evb g) E4 s < D4 s
            · by_cases q3 : D4 (sFl g (g 3) s) < E4 s
              · have eA : mn (th g (evb g) E4 s) (D4 s) = th g (evb g) E4 s := if_pos q2
                have eB : mn (D4 (sFl g (g 3) s)) (E4 s) = D4 (sFl g (g 3) s) := if_pos q3
                have f := fin true (by rw [if_pos (Or.inr (Or.inl q2))])
                rw [eA, eB] at f
                simp (disch := first | assumption | omega) only [b_M_laysForced_0, b_M_laysForced_5, b_M_laysForced_9, b_M_laysForced_42, b_M_laysForced_53, b_M_laysForced_58, b_M_laysForced_67, b_M_laysForced_118, b_M_laysForced_123, b_M_laysForced_135, b_M_laysForced_181, b_M_laysForced_208, b_M_laysForced_213, b_M_laysForced_245, b_M_laysForced_276, b_M_laysForced_277, b_M_laysForced_294, s_M_everybody, s_M_everybody', s_M_isIn, s_M_over, s_M_standNow, ↓Bool.cond_decide, ↓q_in, q_le, q_lt, q_eq, q_leT, q_leF, q_ltT, q_ltF, q_eqT, q_eqF, ↓reduceIte, not_true_eq_false, not_false_eq_true, true_and, and_true, and_self, false_and, and_false, Nat.zero_le, am_bd_some, q_app, q_app0, nI_add, pk_sub, pk_mul, q_dec, q_ix, q_m1, q_m1', ↓q_ret, q_bool, q_bool1, q_u1, q_shl1, q_shr, q_and7, q_dg, fa_and, decide_true, decide_false, Bool.or_false, Bool.or_true, Bool.true_or, Bool.false_or, cond_true, cond_false, ite_not, q_some, q_nn, q_xor, q_xorm, Bool.false_eq_true, decide_eq_true_eq, ne_eq, l_0, l_1, l_3, l_4, l_5, l_8, l_9, l_10, l_11, l_12, l_13, l_14, l_16, l_20, l_21, l_24, l_28, l_29, l_42, l_53, l_58, l_67, l_88, l_96, l_118, l_123, l_135, l_181, l_208, l_213, l_245, l_276, l_277, l_294, l_4096, l_268435456, h10, h28', ho, hlt2, h21s, h12f, h12s, h20s, eor1, eor0]
                exact f _ _ _
              · have eA : mn (th g (evb g) E4 s) (D4 s) = th g (evb g) E4 s := if_pos q2
                have eB : mn (D4 (sFl g (g 3) s)) (E4 s) = E4 s := if_neg q3
                have f := fin true (by rw [if_pos (Or.inr (Or.inl q2))])
                rw [eA, eB] at f
                simp (disch := first | assumption | omega) only [b_M_laysForced_0, b_M_laysForced_5, b_M_laysForced_9, b_M_laysForced_42, b_M_laysForced_53, b_M_laysForced_58, b_M_laysForced_67, b_M_laysForced_118, b_M_laysForced_123, b_M_laysForced_135, b_M_laysForced_181, b_M_laysForced_208, b_M_laysForced_213, b_M_laysForced_245, b_M_laysForced_276, b_M_laysForced_277, b_M_laysForced_294, s_M_everybody, s_M_everybody', s_M_isIn, s_M_over, s_M_standNow, ↓Bool.cond_decide, ↓q_in, q_le, q_lt, q_eq, q_leT, q_leF, q_ltT, q_ltF, q_eqT, q_eqF, ↓reduceIte, not_true_eq_false, not_false_eq_true, true_and, and_true, and_self, false_and, and_false, Nat.zero_le, am_bd_some, q_app, q_app0, nI_add, pk_sub, pk_mul, q_dec, q_ix, q_m1, q_m1', ↓q_ret, q_bool, q_bool1, q_u1, q_shl1, q_shr, q_and7, q_dg, fa_and, decide_true, decide_false, Bool.or_false, Bool.or_true, Bool.true_or, Bool.false_or, cond_true, cond_false, ite_not, q_some, q_nn, q_xor, q_xorm, Bool.false_eq_true, decide_eq_true_eq, ne_eq, l_0, l_1, l_3, l_4, l_5, l_8, l_9, l_10, l_11, l_12, l_13, l_14, l_16, l_20, l_21, l_24, l_28, l_29, l_42, l_53, l_58, l_67, l_88, l_96, l_118, l_123, l_135, l_181, l_208, l_213, l_245, l_276, l_277, l_294, l_4096, l_268435456, h10, h28', ho, hlt2, h21s, h12f, h12s, h20s, eor1, eor0]
                exact f _ _ _
            · by_cases q3 : D4 (sFl g (g 3) s) < E4 s
              · have eA : mn (th g (evb g) E4 s) (D4 s) = D4 s := if_neg q2
                have eB : mn (D4 (sFl g (g 3) s)) (E4 s) = D4 (sFl g (g 3) s) := if_pos q3
                have f := fin true (by rw [if_pos (Or.inr (Or.inr q3))])
                rw [eA, eB] at f
                simp (disch := first | assumption | omega) only [b_M_laysForced_0, b_M_laysForced_5, b_M_laysForced_9, b_M_laysForced_42, b_M_laysForced_53, b_M_laysForced_58, b_M_laysForced_67, b_M_laysForced_118, b_M_laysForced_123, b_M_laysForced_135, b_M_laysForced_181, b_M_laysForced_208, b_M_laysForced_213, b_M_laysForced_245, b_M_laysForced_276, b_M_laysForced_277, b_M_laysForced_294, s_M_everybody, s_M_everybody', s_M_isIn, s_M_over, s_M_standNow, ↓Bool.cond_decide, ↓q_in, q_le, q_lt, q_eq, q_leT, q_leF, q_ltT, q_ltF, q_eqT, q_eqF, ↓reduceIte, not_true_eq_false, not_false_eq_true, true_and, and_true, and_self, false_and, and_false, Nat.zero_le, am_bd_some, q_app, q_app0, nI_add, pk_sub, pk_mul, q_dec, q_ix, q_m1, q_m1', ↓q_ret, q_bool, q_bool1, q_u1, q_shl1, q_shr, q_and7, q_dg, fa_and, decide_true, decide_false, Bool.or_false, Bool.or_true, Bool.true_or, Bool.false_or, cond_true, cond_false, ite_not, q_some, q_nn, q_xor, q_xorm, Bool.false_eq_true, decide_eq_true_eq, ne_eq, l_0, l_1, l_3, l_4, l_5, l_8, l_9, l_10, l_11, l_12, l_13, l_14, l_16, l_20, l_21, l_24, l_28, l_29, l_42, l_53, l_58, l_67, l_88, l_96, l_118, l_123, l_135, l_181, l_208, l_213, l_245, l_276, l_277, l_294, l_4096, l_268435456, h10, h28', ho, hlt2, h21s, h12f, h12s, h20s, eor1, eor0]
                exact f _ _ _
              · have eA : mn (th g (evb g) E4 s) (D4 s) = D4 s := if_neg q2
                have eB : mn (D4 (sFl g (g 3) s)) (E4 s) = E4 s := if_neg q3
                have f := fin mo (by cases mo with | true => rw [if_pos (Or.inl rfl)] | false => rw [if_neg (fun z => z.elim (fun q => by cases q) (fun q => q.elim q2 q3))])
                rw [eA, eB] at f
                simp (disch := first | assumption | omega) only [b_M_laysForced_0, b_M_laysForced_5, b_M_laysForced_9, b_M_laysForced_42, b_M_laysForced_53, b_M_laysForced_58, b_M_laysForced_67, b_M_laysForced_118, b_M_laysForced_123, b_M_laysForced_135, b_M_laysForced_181, b_M_laysForced_208, b_M_laysForced_213, b_M_laysForced_245, b_M_laysForced_276, b_M_laysForced_277, b_M_laysForced_294, s_M_everybody, s_M_everybody', s_M_isIn, s_M_over, s_M_standNow, ↓Bool.cond_decide, ↓q_in, q_le, q_lt, q_eq, q_leT, q_leF, q_ltT, q_ltF, q_eqT, q_eqF, ↓reduceIte, not_true_eq_false, not_false_eq_true, true_and, and_true, and_self, false_and, and_false, Nat.zero_le, am_bd_some, q_app, q_app0, nI_add, pk_sub, pk_mul, q_dec, q_ix, q_m1, q_m1', ↓q_ret, q_bool, q_bool1, q_u1, q_shl1, q_shr, q_and7, q_dg, fa_and, decide_true, decide_false, Bool.or_false, Bool.or_true, Bool.true_or, Bool.false_or, cond_true, cond_false, ite_not, q_some, q_nn, q_xor, q_xorm, Bool.false_eq_true, decide_eq_true_eq, ne_eq, l_0, l_1, l_3, l_4, l_5, l_8, l_9, l_10, l_11, l_12, l_13, l_14, l_16, l_20, l_21, l_24, l_28, l_29, l_42, l_53, l_58, l_67, l_88, l_96, l_118, l_123, l_135, l_181, l_208, l_213, l_245, l_276, l_277, l_294, l_4096, l_268435456, h10, h28', ho, hlt2, h21s, h12f, h12s, h20s, eor1, eor0]
                exact f _ _ _
          · have eM : mx (D4 (sFl g (g 3) s)) (D4 s) = D4 s := if_neg q1
            rw [eM] at fin
            by_cases q2 : th g (evb g) E4 s < D4 s
            · by_cases q3 : D4 s < E4 s
              · have eA : mn (th g (evb g) E4 s) (D4 s) = th g (evb g) E4 s := if_pos q2
                have eB : mn (D4 s) (E4 s) = D4 s := if_pos q3
                have f := fin true (by rw [if_pos (Or.inr (Or.inl q2))])
                rw [eA, eB] at f
                simp (disch := first | assumption | omega) only [b_M_laysForced_0, b_M_laysForced_5, b_M_laysForced_9, b_M_laysForced_42, b_M_laysForced_53, b_M_laysForced_58, b_M_laysForced_67, b_M_laysForced_118, b_M_laysForced_123, b_M_laysForced_135, b_M_laysForced_181, b_M_laysForced_208, b_M_laysForced_213, b_M_laysForced_245, b_M_laysForced_276, b_M_laysForced_277, b_M_laysForced_294, s_M_everybody, s_M_everybody', s_M_isIn, s_M_over, s_M_standNow, ↓Bool.cond_decide, ↓q_in, q_le, q_lt, q_eq, q_leT, q_leF, q_ltT, q_ltF, q_eqT, q_eqF, ↓reduceIte, not_true_eq_false, not_false_eq_true, true_and, and_true, and_self, false_and, and_false, Nat.zero_le, am_bd_some, q_app, q_app0, nI_add, pk_sub, pk_mul, q_dec, q_ix, q_m1, q_m1', ↓q_ret, q_bool, q_bool1, q_u1, q_shl1, q_shr, q_and7, q_dg, fa_and, decide_true, decide_false, Bool.or_false, Bool.or_true, Bool.true_or, Bool.false_or, cond_true, cond_false, ite_not, q_some, q_nn, q_xor, q_xorm, Bool.false_eq_true, decide_eq_true_eq, ne_eq, l_0, l_1, l_3, l_4, l_5, l_8, l_9, l_10, l_11, l_12, l_13, l_14, l_16, l_20, l_21, l_24, l_28, l_29, l_42, l_53, l_58, l_67, l_88, l_96, l_118, l_123, l_135, l_181, l_208, l_213, l_245, l_276, l_277, l_294, l_4096, l_268435456, h10, h28', ho, hlt2, h21s, h12f, h12s, h20s, eor1, eor0]
                exact f _ _ _
              · have eA : mn (th g (evb g) E4 s) (D4 s) = th g (evb g) E4 s := if_pos q2
                have eB : mn (D4 s) (E4 s) = E4 s := if_neg q3
                have f := fin true (by rw [if_pos (Or.inr (Or.inl q2))])
                rw [eA, eB] at f
                simp (disch := first | assumption | omega) only [b_M_laysForced_0, b_M_laysForced_5, b_M_laysForced_9, b_M_laysForced_42, b_M_laysForced_53, b_M_laysForced_58, b_M_laysForced_67, b_M_laysForced_118, b_M_laysForced_123, b_M_laysForced_135, b_M_laysForced_181, b_M_laysForced_208, b_M_laysForced_213, b_M_laysForced_245, b_M_laysForced_276, b_M_laysForced_277, b_M_laysForced_294, s_M_everybody, s_M_everybody', s_M_isIn, s_M_over, s_M_standNow, ↓Bool.cond_decide, ↓q_in, q_le, q_lt, q_eq, q_leT, q_leF, q_ltT, q_ltF, q_eqT, q_eqF, ↓reduceIte, not_true_eq_false, not_false_eq_true, true_and, and_true, and_self, false_and, and_false, Nat.zero_le, am_bd_some, q_app, q_app0, nI_add, pk_sub, pk_mul, q_dec, q_ix, q_m1, q_m1', ↓q_ret, q_bool, q_bool1, q_u1, q_shl1, q_shr, q_and7, q_dg, fa_and, decide_true, decide_false, Bool.or_false, Bool.or_true, Bool.true_or, Bool.false_or, cond_true, cond_false, ite_not, q_some, q_nn, q_xor, q_xorm, Bool.false_eq_true, decide_eq_true_eq, ne_eq, l_0, l_1, l_3, l_4, l_5, l_8, l_9, l_10, l_11, l_12, l_13, l_14, l_16, l_20, l_21, l_24, l_28, l_29, l_42, l_53, l_58, l_67, l_88, l_96, l_118, l_123, l_135, l_181, l_208, l_213, l_245, l_276, l_277, l_294, l_4096, l_268435456, h10, h28', ho, hlt2, h21s, h12f, h12s, h20s, eor1, eor0]
                exact f _ _ _
            · by_cases q3 : D4 s < E4 s
              · have eA : mn (th g (evb g) E4 s) (D4 s) = D4 s := if_neg q2
                have eB : mn (D4 s) (E4 s) = D4 s := if_pos q3
                have f := fin true (by rw [if_pos (Or.inr (Or.inr q3))])
                rw [eA, eB] at f
                simp (disch := first | assumption | omega) only [b_M_laysForced_0, b_M_laysForced_5, b_M_laysForced_9, b_M_laysForced_42, b_M_laysForced_53, b_M_laysForced_58, b_M_laysForced_67, b_M_laysForced_118, b_M_laysForced_123, b_M_laysForced_135, b_M_laysForced_181, b_M_laysForced_208, b_M_laysForced_213, b_M_laysForced_245, b_M_laysForced_276, b_M_laysForced_277, b_M_laysForced_294, s_M_everybody, s_M_everybody', s_M_isIn, s_M_over, s_M_standNow, ↓Bool.cond_decide, ↓q_in, q_le, q_lt, q_eq, q_leT, q_leF, q_ltT, q_ltF, q_eqT, q_eqF, ↓reduceIte, not_true_eq_false, not_false_eq_true, true_and, and_true, and_self, false_and, and_false, Nat.zero_le, am_bd_some, q_app, q_app0, nI_add, pk_sub, pk_mul, q_dec, q_ix, q_m1, q_m1', ↓q_ret, q_bool, q_bool1, q_u1, q_shl1, q_shr, q_and7, q_dg, fa_and, decide_true, decide_false, Bool.or_false, Bool.or_true, Bool.true_or, Bool.false_or, cond_true, cond_false, ite_not, q_some, q_nn, q_xor, q_xorm, Bool.false_eq_true, decide_eq_true_eq, ne_eq, l_0, l_1, l_3, l_4, l_5, l_8, l_9, l_10, l_11, l_12, l_13, l_14, l_16, l_20, l_21, l_24, l_28, l_29, l_42, l_53, l_58, l_67, l_88, l_96, l_118, l_123, l_135, l_181, l_208, l_213, l_245, l_276, l_277, l_294, l_4096, l_268435456, h10, h28', ho, hlt2, h21s, h12f, h12s, h20s, eor1, eor0]
                exact f _ _ _
              · have eA : mn (th g (evb g) E4 s) (D4 s) = D4 s := if_neg q2
                have eB : mn (D4 s) (E4 s) = E4 s := if_neg q3
                have f := fin mo (by cases mo with | true => rw [if_pos (Or.inl rfl)] | false => rw [if_neg (fun z => z.elim (fun q => by cases q) (fun q => q.elim q2 q3))])
                rw [eA, eB] at f
                simp (disch := first | assumption | omega) only [b_M_laysForced_0, b_M_laysForced_5, b_M_laysForced_9, b_M_laysForced_42, b_M_laysForced_53, b_M_laysForced_58, b_M_laysForced_67, b_M_laysForced_118, b_M_laysForced_123, b_M_laysForced_135, b_M_laysForced_181, b_M_laysForced_208, b_M_laysForced_213, b_M_laysForced_245, b_M_laysForced_276, b_M_laysForced_277, b_M_laysForced_294, s_M_everybody, s_M_everybody', s_M_isIn, s_M_over, s_M_standNow, ↓Bool.cond_decide, ↓q_in, q_le, q_lt, q_eq, q_leT, q_leF, q_ltT, q_ltF, q_eqT, q_eqF, ↓reduceIte, not_true_eq_false, not_false_eq_true, true_and, and_true, and_self, false_and, and_false, Nat.zero_le, am_bd_some, q_app, q_app0, nI_add, pk_sub, pk_mul, q_dec, q_ix, q_m1, q_m1', ↓q_ret, q_bool, q_bool1, q_u1, q_shl1, q_shr, q_and7, q_dg, fa_and, decide_true, decide_false, Bool.or_false, Bool.or_true, Bool.true_or, Bool.false_or, cond_true, cond_false, ite_not, q_some, q_nn, q_xor, q_xorm, Bool.false_eq_true, decide_eq_true_eq, ne_eq, l_0, l_1, l_3, l_4, l_5, l_8, l_9, l_10, l_11, l_12, l_13, l_14, l_16, l_20, l_21, l_24, l_28, l_29, l_42, l_53, l_58, l_67, l_88, l_96, l_118, l_123, l_135, l_181, l_208, l_213, l_245, l_276, l_277, l_294, l_4096, l_268435456, h10, h28', ho, hlt2, h21s, h12f, h12s, h20s, eor1, eor0]
                exact f _ _ _
      · obtain ⟨i4, D4, E4, mo, z4, z5, z6, e1, e2, hf4, h124, h204, hFE4, hm0, hsl, hm1⟩ := hI
        subst e1; subst e2
        have h28' : i4 0 28 = nI L.length := by rw [hf4 0 28 rfl]; exact h28
        rw [b_M_laysForced_96]
        simp (disch := first | assumption | omega) only [b_M_laysForced_0, b_M_laysForced_5, b_M_laysForced_9, b_M_laysForced_42, b_M_laysForced_53, b_M_laysForced_58, b_M_laysForced_67, b_M_laysForced_118, b_M_laysForced_123, b_M_laysForced_135, b_M_laysForced_181, b_M_laysForced_208, b_M_laysForced_213, b_M_laysForced_245, b_M_laysForced_276, b_M_laysForced_277, b_M_laysForced_294, s_M_everybody, s_M_everybody', s_M_isIn, s_M_leastTurn, s_M_over, s_M_standNow, ↓Bool.cond_decide, ↓q_in, q_le, q_lt, q_eq, q_leT, q_leF, q_ltT, q_ltF, q_eqT, q_eqF, ↓reduceIte, not_true_eq_false, not_false_eq_true, true_and, and_true, and_self, false_and, and_false, Nat.zero_le, am_bd_some, q_app, q_app0, nI_add, pk_sub, pk_mul, q_dec, q_ix, q_m1, q_m1', ↓q_ret, q_bool, q_bool1, q_u2, q_u1, q_shl1, q_shr, q_and7, q_dg, fa_or, fa_and, decide_true, decide_false, Bool.or_false, Bool.or_true, Bool.true_or, Bool.false_or, cond_true, cond_false, ite_not, q_some, q_nn, q_xor, q_xorm, Bool.false_eq_true, decide_eq_true_eq, ne_eq, l_0, l_1, l_3, l_4, l_5, l_8, l_9, l_10, l_11, l_12, l_13, l_14, l_16, l_20, l_21, l_24, l_28, l_29, l_42, l_53, l_58, l_67, l_88, l_96, l_118, l_123, l_135, l_181, l_208, l_213, l_245, l_276, l_277, l_294, l_4096, l_268435456, h28']
        cases mo with
        | true => exact ih D4 E4 i4 _ _ _ _ (by have := hm1 rfl; omega) hf4 h124 h204 hFE4
        | false =>
          obtain ⟨eD, eE, hall⟩ := hm0 rfl
          rw [eD] at h124 hFE4
          rw [eE] at h204 hFE4
          have hfix := FE_fix h2 hlt hFE4 hcl hfl (fun s hs ho => by
            obtain ⟨k, hk, e⟩ := List.getElem_of_mem hs
            exact hall k s hk (by rw [List.getElem?_eq_getElem hk, e]) ho)
          have h12a := h124 _ hstart
          rw [(hfix _ hstart).1] at h12a
          have hM4 : MA i4 g := MA_fx (R := [5, 6, 12, 20, 21, 120]) (i := i1) (by (repeat (first | exact Fx_refl _ _ | assumption | refine Fx_u2 rfl ?_ | refine Fx_u1 rfl (by decide) ?_ | refine Fx_step (by assumption) rfl ?_ | refine Fx_stepr (by assumption) rfl rfl ?_))) hM1 rfl
          have e0 : (if false = true then nI 1 else nI 0) = nI 0 := rfl
          rw [e0, b_M_laysForced_88]
          simp (disch := first | assumption | omega) only [b_M_laysForced_0, b_M_laysForced_5, b_M_laysForced_9, b_M_laysForced_42, b_M_laysForced_53, b_M_laysForced_58, b_M_laysForced_67, b_M_laysForced_118, b_M_laysForced_123, b_M_laysForced_135, b_M_laysForced_181, b_M_laysForced_208, b_M_laysForced_213, b_M_laysForced_245, b_M_laysForced_276, b_M_laysForced_277, b_M_laysForced_294, s_M_everybody, s_M_everybody', s_M_isIn, s_M_leastTurn, s_M_over, s_M_standNow, ↓Bool.cond_decide, ↓q_in, q_le, q_lt, q_eq, q_leT, q_leF, q_ltT, q_ltF, q_eqT, q_eqF, ↓reduceIte, not_true_eq_false, not_false_eq_true, true_and, and_true, and_self, false_and, and_false, Nat.zero_le, am_bd_some, q_app, q_app0, nI_add, pk_sub, pk_mul, q_dec, q_ix, q_m1, q_m1', ↓q_ret, q_bool, q_bool1, q_u2, q_u1, q_shl1, q_shr, q_and7, q_dg, fa_or, fa_and, decide_true, decide_false, Bool.or_false, Bool.or_true, Bool.true_or, Bool.false_or, cond_true, cond_false, ite_not, q_some, q_nn, q_xor, q_xorm, Bool.false_eq_true, decide_eq_true_eq, ne_eq, l_0, l_1, l_3, l_4, l_5, l_8, l_9, l_10, l_11, l_12, l_13, l_14, l_16, l_20, l_21, l_24, l_28, l_29, l_42, l_53, l_58, l_67, l_88, l_96, l_118, l_123, l_135, l_181, l_208, l_213, l_245, l_276, l_277, l_294, l_4096, l_268435456, h12a]
          exact MR_some ⟨rfl, by (repeat (first | exact Fx_refl _ _ | assumption | refine Fx_u2 rfl ?_ | refine Fx_u1 rfl (by decide) ?_ | refine Fx_step (by assumption) rfl ?_ | refine Fx_stepr (by assumption) rfl rfl ?_)), GOk_fx (R := [5, 6, 12, 20, 21, 120]) (i := i1) (by (repeat (first | exact Fx_refl _ _ | assumption | refine Fx_u2 rfl ?_ | refine Fx_u1 rfl (by decide) ?_ | refine Fx_step (by assumption) rfl ?_ | refine Fx_stepr (by assumption) rfl rfl ?_))) hG1 rfl, fun s hs => by rw [← (hfix s hs).2]; exact h204 s hs⟩
  rw [b_M_laysForced_11]
  simp (disch := first | assumption | omega) only [b_M_laysForced_0, b_M_laysForced_5, b_M_laysForced_9, b_M_laysForced_42, b_M_laysForced_53, b_M_laysForced_58, b_M_laysForced_67, b_M_laysForced_118, b_M_laysForced_123, b_M_laysForced_135, b_M_laysForced_181, b_M_laysForced_208, b_M_laysForced_213, b_M_laysForced_245, b_M_laysForced_276, b_M_laysForced_277, b_M_laysForced_294, s_M_everybody, s_M_everybody', s_M_isIn, s_M_leastTurn, s_M_over, s_M_standNow, ↓Bool.cond_decide, ↓q_in, q_le, q_lt, q_eq, q_leT, q_leF, q_ltT, q_ltF, q_eqT, q_eqF, ↓reduceIte, not_true_eq_false, not_false_eq_true, true_and, and_true, and_self, false_and, and_false, Nat.zero_le, am_bd_some, q_app, q_app0, nI_add, pk_sub, pk_mul, q_dec, q_ix, q_m1, q_m1', ↓q_ret, q_bool, q_bool1, q_u2, q_u1, q_shl1, q_shr, q_and7, q_dg, fa_or, fa_and, decide_true, decide_false, Bool.or_false, Bool.or_true, Bool.true_or, Bool.false_or, cond_true, cond_false, ite_not, q_some, q_nn, q_xor, q_xorm, Bool.false_eq_true, decide_eq_true_eq, ne_eq, l_0, l_1, l_3, l_4, l_5, l_8, l_9, l_10, l_11, l_12, l_13, l_14, l_16, l_20, l_21, l_24, l_28, l_29, l_42, l_53, l_58, l_67, l_88, l_96, l_118, l_123, l_135, l_181, l_208, l_213, l_245, l_276, l_277, l_294, l_4096, l_268435456, h28]
  refine key _ (fun s => if (sOver g s).testBit w = true then 0 else FARN) (fun s => if (sOver g s).testBit w = true then 0 else FARN) i2 _ _ _ _ (Nat.lt_succ_self _) (Fx_refl _ _) (fun s hs => ?_) (fun s hs => ?_) ⟨fun s => ?_, fun s hs ho => ?_, fun s hs hl => ?_, fun s hs hl => ?_⟩
  · obtain ⟨k, hk, e⟩ := List.getElem_of_mem hs
    exact (hh k s hk (by rw [List.getElem?_eq_getElem hk, e])).1
  · obtain ⟨k, hk, e⟩ := List.getElem_of_mem hs
    exact (hh k s hk (by rw [List.getElem?_eq_getElem hk, e])).2.1
  · dsimp only; split <;> omega
  · dsimp only; rw [if_pos ho]; exact ⟨rfl, rfl⟩
  · dsimp only at hl ⊢
    by_cases ho : (sOver g s).testBit w = true
    · rw [if_pos ho]; exact ho
    · rw [if_neg ho] at hl; exact absurd hl (Nat.lt_irrefl _)
  · dsimp only at hl ⊢
    by_cases ho : (sOver g s).testBit w = true
    · rw [if_pos ho]; exact ⟨ho, over_fl h2 (hlt s hs) ho⟩
    · rw [if_neg ho] at hl; exact absurd hl (Nat.lt_irrefl _)
theorem r_M_forces (d : Nat) (x : Int32) {σ : St} (hS : MS i l σ) (hW : WG σ.1) : MR (some (.int (v_forces σ.1 x))) (fun i' l' => MS i' l' (σ)) (am_cl (d + 9) mM_forces [.ref 0, .int x] (i, l, rM, kM)) := by
  have hW' := hW
  obtain ⟨g, σ⟩ := σ
  obtain ⟨⟨h1', h1⟩, h2, h3, hR, hF, hP, hSt, hD, hL0, hL1, hV⟩ := hW
  have h1 : g 1 ≤ 6 := h1
  have h2 : g 2 ≤ 4 := h2
  have hR : ∀ p, p < 4 → g (10 + p) ≤ 4 := hR
  have hP : ∀ p, p < 4 → g (18 + p) < 8 := hP
  have hSt : ∀ p, p < 4 → g (22 + p) ≤ 9 := hSt
  have hD : ∀ s, s < 6 → g (26 + s) ≤ 9 := hD
  have hA := hS.1
  have hn := sNow_lt g hP 4 (by decide)
  have hf0 : Fx [100] i (am_u2 i 0 0 (nI 0)) := by (repeat (first | exact Fx_refl _ _ | assumption | refine Fx_u2 rfl ?_ | refine Fx_u1 rfl (by decide) ?_ | refine Fx_step (by assumption) rfl ?_ | refine Fx_stepr (by assumption) rfl rfl ?_))
  have hM0 : MA (am_u2 i 0 0 (nI 0)) g := MA_fx hf0 hA rfl
  have hM0' : ∀ k, k < 3222 → am_u2 i 0 0 (nI 0) 1 k = nI (g k) := hM0
  rw [c_M_forces, b_M_forces_0, v_forces]
  by_cases hx : iB x (g 2) = true
  · simp (disch := first | assumption | omega) only [b_M_forces_0, b_M_forces_11, b_M_forces_19, b_M_forces_22, b_M_forces_27, s_M_isPerson, s_M_toldFar, ↓Bool.cond_decide, ↓q_in, q_le, q_lt, q_eq, q_leT, q_leF, q_ltT, q_ltF, q_eqT, q_eqF, ↓reduceIte, not_true_eq_false, not_false_eq_true, true_and, and_true, and_self, false_and, and_false, Nat.zero_le, am_bd_some, q_app, q_app0, nI_add, pk_sub, pk_mul, q_dec, q_ix, q_m1, q_m1', ↓q_ret, q_bool, q_bool1, q_u1, q_shl1, q_shr, q_and7, q_dg, fa_or, fa_and, decide_true, decide_false, Bool.or_false, Bool.or_true, Bool.true_or, Bool.false_or, cond_true, cond_false, ite_not, q_some, q_nn, q_xor, q_xorm, Bool.false_eq_true, decide_eq_true_eq, ne_eq, l_0, l_1, l_2, l_3, l_4, l_8, l_9, l_11, l_19, l_22, l_27, hx]
    obtain ⟨w, hw, rfl⟩ := iB_T hx
    have hF : FARN = 268435456 := rfl
    have hdl := fc_le g (evb g) w (sNow g 4)
    refine MR_bd (r_M_laysForced d hw hM0 hW') ?_
    intro i2 l2 ⟨hl2, hf2, _, _⟩
    subst hl2
    simp (disch := first | assumption | omega) only [b_M_forces_0, b_M_forces_11, b_M_forces_19, b_M_forces_22, b_M_forces_27, s_M_isPerson, s_M_toldFar, ↓Bool.cond_decide, ↓q_in, q_le, q_lt, q_eq, q_leT, q_leF, q_ltT, q_ltF, q_eqT, q_eqF, ↓reduceIte, not_true_eq_false, not_false_eq_true, true_and, and_true, and_self, false_and, and_false, Nat.zero_le, am_bd_some, q_app, q_app0, nI_add, pk_sub, pk_mul, q_dec, q_ix, q_m1, q_m1', ↓q_ret, q_bool, q_bool1, q_u2, q_u1, q_shl1, q_shr, q_and7, q_dg, fa_or, fa_and, decide_true, decide_false, Bool.or_false, Bool.or_true, Bool.true_or, Bool.false_or, cond_true, cond_false, ite_not, q_some, q_nn, q_xor, q_xorm, Bool.false_eq_true, decide_eq_true_eq, ne_eq, l_0, l_1, l_2, l_3, l_4, l_8, l_9, l_11, l_19, l_22, l_27]
    exact MR_some (MS_fx (R := RQ) (by (repeat (first | exact Fx_refl _ _ | assumption | refine Fx_u2 rfl ?_ | refine Fx_u1 rfl (by decide) ?_ | refine Fx_step (by assumption) rfl ?_ | refine Fx_stepr (by assumption) rfl rfl ?_))) rfl rfl hS)
  · simp (disch := first | assumption | omega) only [b_M_forces_0, b_M_forces_11, b_M_forces_19, b_M_forces_22, b_M_forces_27, s_M_isPerson, s_M_toldFar, ↓Bool.cond_decide, ↓q_in, q_le, q_lt, q_eq, q_leT, q_leF, q_ltT, q_ltF, q_eqT, q_eqF, ↓reduceIte, not_true_eq_false, not_false_eq_true, true_and, and_true, and_self, false_and, and_false, Nat.zero_le, am_bd_some, q_app, q_app0, nI_add, pk_sub, pk_mul, q_dec, q_ix, q_m1, q_m1', ↓q_ret, q_bool, q_bool1, q_u2, q_u1, q_shl1, q_shr, q_and7, q_dg, fa_or, fa_and, decide_true, decide_false, Bool.or_false, Bool.or_true, Bool.true_or, Bool.false_or, cond_true, cond_false, ite_not, q_some, q_nn, q_xor, q_xorm, Bool.false_eq_true, decide_eq_true_eq, ne_eq, l_0, l_1, l_2, l_3, l_4, l_8, l_9, l_11, l_19, l_22, l_27, hx]
    exact MR_some (MS_fx (R := RQ) (by (repeat (first | exact Fx_refl _ _ | assumption | refine Fx_u2 rfl ?_ | refine Fx_u1 rfl (by decide) ?_ | refine Fx_step (by assumption) rfl ?_ | refine Fx_stepr (by assumption) rfl rfl ?_))) rfl rfl hS)
theorem r_M_best (d : Nat) (x : Int32) {σ : St} (hS : MS i l σ) (hW : WG σ.1) : MR (some (.int (v_best σ.1 x))) (fun i' l' => MS i' l' (σ)) (am_cl (d + 9) mM_best [.ref 0, .int x] (i, l, rM, kM)) := by
  have hW' := hW
  obtain ⟨g, σ⟩ := σ
  obtain ⟨⟨h1', h1⟩, h2, h3, hR, hF, hP, hSt, hD, hL0, hL1, hV⟩ := hW
  have h1 : g 1 ≤ 6 := h1
  have h2 : g 2 ≤ 4 := h2
  have hR : ∀ p, p < 4 → g (10 + p) ≤ 4 := hR
  have hP : ∀ p, p < 4 → g (18 + p) < 8 := hP
  have hSt : ∀ p, p < 4 → g (22 + p) ≤ 9 := hSt
  have hD : ∀ s, s < 6 → g (26 + s) ≤ 9 := hD
  have hA := hS.1
  have hn := sNow_lt g hP 4 (by decide)
  have hf0 : Fx [100] i (am_u2 i 0 0 (nI 0)) := by (repeat (first | exact Fx_refl _ _ | assumption | refine Fx_u2 rfl ?_ | refine Fx_u1 rfl (by decide) ?_ | refine Fx_step (by assumption) rfl ?_ | refine Fx_stepr (by assumption) rfl rfl ?_))
  have hM0 : MA (am_u2 i 0 0 (nI 0)) g := MA_fx hf0 hA rfl
  have hM0' : ∀ k, k < 3222 → am_u2 i 0 0 (nI 0) 1 k = nI (g k) := hM0
  rw [c_M_best, b_M_best_0, v_best]
  by_cases hx : iB x (g 2) = true
  · simp (disch := first | assumption | omega) only [b_M_best_0, b_M_best_11, b_M_best_22, b_M_best_33, b_M_best_39, b_M_best_80, b_M_best_101, b_M_best_123, s_M_isIn, s_M_isPerson, s_M_standNow, s_M_withPlace, ↓Bool.cond_decide, ↓q_in, q_le, q_lt, q_eq, q_leT, q_leF, q_ltT, q_ltF, q_eqT, q_eqF, ↓reduceIte, not_true_eq_false, not_false_eq_true, true_and, and_true, and_self, false_and, and_false, Nat.zero_le, am_bd_some, q_app, q_app0, nI_add, pk_sub, pk_mul, q_dec, q_ix, q_m1, q_m1', ↓q_ret, q_bool, q_bool1, q_u1, q_shl1, q_shr, q_and7, q_dg, fa_or, fa_and, decide_true, decide_false, Bool.or_false, Bool.or_true, Bool.true_or, Bool.false_or, cond_true, cond_false, ite_not, q_some, q_nn, q_xor, q_xorm, Bool.false_eq_true, decide_eq_true_eq, ne_eq, l_0, l_1, l_2, l_4, l_5, l_6, l_8, l_9, l_10, l_11, l_12, l_14, l_18, l_20, l_22, l_27, l_33, l_39, l_43, l_80, l_99, l_101, l_123, l_4096, l_16384, l_268435456, hx]
    obtain ⟨w, hw, rfl⟩ := iB_T hx
    have hF : FARN = 268435456 := rfl
    have hdl := fc_le g (evb g) w (sNow g 4)
    rw [q_ix (show w < 2 ^ 31 by omega)]
    have hstart : sNow g 4 ∈ stds g (evb g) true (sNow g 4) := stds_start h2 hn
    have hcl : ∀ s, s ∈ stds g (evb g) true (sNow g 4) → ∀ j, j < 32 → avl g (evb g) s j = true → tgt s j ∈ stds g (evb g) true (sNow g 4) := fun s hs => (stds_step h2 hn hs).1
    refine MR_bd (r_M_laysForced d hw hM0 hW') ?_
    intro i2 l2 ⟨hl2, hf2, hG2, h202⟩
    subst hl2
    have hA2 : ∀ k, k < 3222 → i2 1 k = nI (g k) := MA_fx hf2 hM0 rfl
    have hM2 : MA i2 g := hA2
    by_cases q1 : fc g (evb g) w (sNow g 4) = FARN
    · have q1' : fc g (evb g) w (sNow g 4) = 268435456 := q1
      simp (disch := first | assumption | omega) only [b_M_best_0, b_M_best_11, b_M_best_22, b_M_best_33, b_M_best_39, b_M_best_80, b_M_best_101, b_M_best_123, s_M_isIn, s_M_isPerson, s_M_standNow, s_M_withPlace, ↓Bool.cond_decide, ↓q_in, q_le, q_lt, q_eq, q_leT, q_leF, q_ltT, q_ltF, q_eqT, q_eqF, ↓reduceIte, not_true_eq_false, not_false_eq_true, true_and, and_true, and_self, false_and, and_false, Nat.zero_le, am_bd_some, q_app, q_app0, nI_add, pk_sub, pk_mul, q_dec, q_ix, q_m1, q_m1', ↓q_ret, q_bool, q_bool1, q_u2, q_u1, q_shl1, q_shr, q_and7, q_dg, fa_or, fa_and, decide_true, decide_false, Bool.or_false, Bool.or_true, Bool.true_or, Bool.false_or, cond_true, cond_false, ite_not, q_some, q_nn, q_xor, q_xorm, Bool.false_eq_true, decide_eq_true_eq, ne_eq, l_0, l_1, l_2, l_4, l_5, l_6, l_8, l_9, l_10, l_11, l_12, l_14, l_18, l_20, l_22, l_27, l_33, l_39, l_43, l_80, l_99, l_101, l_123, l_4096, l_16384, l_268435456, q1', hF, true_or]
      exact MR_some (MS_fx (R := RQ) (by (repeat (first | exact Fx_refl _ _ | assumption | refine Fx_u2 rfl ?_ | refine Fx_u1 rfl (by decide) ?_ | refine Fx_step (by assumption) rfl ?_ | refine Fx_stepr (by assumption) rfl rfl ?_))) rfl rfl hS)
    · by_cases q2 : fc g (evb g) w (sNow g 4) = 0
      · simp (disch := first | assumption | omega) only [b_M_best_0, b_M_best_11, b_M_best_22, b_M_best_33, b_M_best_39, b_M_best_80, b_M_best_101, b_M_best_123, s_M_isIn, s_M_isPerson, s_M_standNow, s_M_withPlace, ↓Bool.cond_decide, ↓q_in, q_le, q_lt, q_eq, q_leT, q_leF, q_ltT, q_ltF, q_eqT, q_eqF, ↓reduceIte, not_true_eq_false, not_false_eq_true, true_and, and_true, and_self, false_and, and_false, Nat.zero_le, am_bd_some, q_app, q_app0, nI_add, pk_sub, pk_mul, q_dec, q_ix, q_m1, q_m1', ↓q_ret, q_bool, q_bool1, q_u2, q_u1, q_shl1, q_shr, q_and7, q_dg, fa_or, fa_and, decide_true, decide_false, Bool.or_false, Bool.or_true, Bool.true_or, Bool.false_or, cond_true, cond_false, ite_not, q_some, q_nn, q_xor, q_xorm, Bool.false_eq_true, decide_eq_true_eq, ne_eq, l_0, l_1, l_2, l_4, l_5, l_6, l_8, l_9, l_10, l_11, l_12, l_14, l_18, l_20, l_22, l_27, l_33, l_39, l_43, l_80, l_99, l_101, l_123, l_4096, l_16384, l_268435456, q2, or_true]
        exact MR_some (MS_fx (R := RQ) (by (repeat (first | exact Fx_refl _ _ | assumption | refine Fx_u2 rfl ?_ | refine Fx_u1 rfl (by decide) ?_ | refine Fx_step (by assumption) rfl ?_ | refine Fx_stepr (by assumption) rfl rfl ?_))) rfl rfl hS)
      · have q1' : fc g (evb g) w (sNow g 4) ≠ 268435456 := q1
        simp (disch := first | assumption | omega) only [b_M_best_0, b_M_best_11, b_M_best_22, b_M_best_33, b_M_best_39, b_M_best_80, b_M_best_101, b_M_best_123, s_M_isIn, s_M_isPerson, s_M_standNow, s_M_withPlace, ↓Bool.cond_decide, ↓q_in, q_le, q_lt, q_eq, q_leT, q_leF, q_ltT, q_ltF, q_eqT, q_eqF, ↓reduceIte, not_true_eq_false, not_false_eq_true, true_and, and_true, and_self, false_and, and_false, Nat.zero_le, am_bd_some, q_app, q_app0, nI_add, pk_sub, pk_mul, q_dec, q_ix, q_m1, q_m1', ↓q_ret, q_bool, q_bool1, q_u2, q_u1, q_shl1, q_shr, q_and7, q_dg, fa_or, fa_and, decide_true, decide_false, Bool.or_false, Bool.or_true, Bool.true_or, Bool.false_or, cond_true, cond_false, ite_not, q_some, q_nn, q_xor, q_xorm, Bool.false_eq_true, decide_eq_true_eq, ne_eq, l_0, l_1, l_2, l_4, l_5, l_6, l_8, l_9, l_10, l_11, l_12, l_14, l_18, l_20, l_22, l_27, l_33, l_39, l_43, l_80, l_99, l_101, l_123, l_4096, l_16384, l_268435456, q1, q2, hF, or_self]
        obtain ⟨kk, hk1, hk2⟩ := List.getElem_of_mem hstart
        have hG := hG2 kk _ hk1 (by rw [List.getElem?_eq_getElem hk1, hk2])
        refine am_find (fun j ls st => ∃ z1, ls = [.val (.ref 0), z1, .val (.int (nI (fc g (evb g) w (sNow g 4)))), .val (.int (nI (sNow g 4))), .val (.int (nI j))] ∧ st = (i2, l2, rM, kM)) (fun j => avl g (evb g) (sNow g 4) j && decide (rf g (evb g) w (tgt (sNow g 4) j) = fc g (evb g) w (sNow g 4) - 1)) (fun o r => MR (some (.int (match o with | some j => nI (deed j) | none => nI 99))) (fun i' l' => MS i' l' (g, σ)) r) (8 * g 2) 0 (fun j ls st _ hj hI => ?_) (fun ls st hI => ?_) _ _ ⟨_, rfl, rfl⟩
        · obtain ⟨z1, e1, e2⟩ := hI
          subst e1; subst e2
          have h11 := hG (j / 8) (by omega)
          have hgb := gBit_lt (m := evb g) (s := sNow g 4) (p := j / 8) h1
          have hav : avl g (evb g) (sNow g 4) j = (gBit g (evb g) (sNow g 4) (j / 8)).testBit (j % 8) := rfl
          have hta : tgt (sNow g 4) j = wp (sNow g 4) (j / 8) (j % 8) := rfl
          have hwl := wp_lt (p := j / 8) (x := j % 8) hn (by omega) (by omega)
          have hrl := rf_le g (evb g) w (wp (sNow g 4) (j / 8) (j % 8))
          have h20 : avl g (evb g) (sNow g 4) j = true → i2 20 (wp (sNow g 4) (j / 8) (j % 8)) = nI (rf g (evb g) w (wp (sNow g 4) (j / 8) (j % 8))) := fun ha => h202 _ (hcl _ hstart j (by omega) ha)
          rw [hav] at h20 ⊢
          rw [hta]
          cases hb : (gBit g (evb g) (sNow g 4) (j / 8)).testBit (j % 8) with
          | false =>
            refine ⟨fun z => (by cases z), fun _ => ?_⟩
            rw [b_M_best_43]
            simp (disch := first | assumption | omega) only [b_M_best_0, b_M_best_11, b_M_best_22, b_M_best_33, b_M_best_39, b_M_best_80, b_M_best_101, b_M_best_123, s_M_isIn, s_M_isPerson, s_M_standNow, s_M_withPlace, ↓Bool.cond_decide, ↓q_in, q_le, q_lt, q_eq, q_leT, q_leF, q_ltT, q_ltF, q_eqT, q_eqF, ↓reduceIte, not_true_eq_false, not_false_eq_true, true_and, and_true, and_self, false_and, and_false, Nat.zero_le, am_bd_some, q_app, q_app0, nI_add, pk_sub, pk_mul, q_dec, q_ix, q_m1, q_m1', ↓q_ret, q_bool, q_bool1, q_u2, q_u1, q_shl1, q_shr, q_and7, q_dg, fa_or, fa_and, decide_true, decide_false, Bool.or_false, Bool.or_true, Bool.true_or, Bool.false_or, cond_true, cond_false, ite_not, q_some, q_nn, q_xor, q_xorm, Bool.false_eq_true, decide_eq_true_eq, ne_eq, l_0, l_1, l_2, l_4, l_5, l_6, l_8, l_9, l_10, l_11, l_12, l_14, l_18, l_20, l_22, l_27, l_33, l_39, l_43, l_80, l_99, l_101, l_123, l_4096, l_16384, l_268435456, hA2, pk_div, q_remL, q_remN, h11, hb]
            exact Go_in ⟨_, rfl, rfl⟩
          | true =>
            have h20' := h20 hb
            refine ⟨fun z => ?_, fun z => ?_⟩
            · rw [Bool.true_and] at z
              have z := of_decide_eq_true z
              rw [b_M_best_43]
              simp (disch := first | assumption | omega) only [b_M_best_0, b_M_best_11, b_M_best_22, b_M_best_33, b_M_best_39, b_M_best_80, b_M_best_101, b_M_best_123, s_M_isIn, s_M_isPerson, s_M_standNow, s_M_withPlace, ↓Bool.cond_decide, ↓q_in, q_le, q_lt, q_eq, q_leT, q_leF, q_ltT, q_ltF, q_eqT, q_eqF, ↓reduceIte, not_true_eq_false, not_false_eq_true, true_and, and_true, and_self, false_and, and_false, Nat.zero_le, am_bd_some, q_app, q_app0, nI_add, pk_sub, pk_mul, q_dec, q_ix, q_m1, q_m1', ↓q_ret, q_bool, q_bool1, q_u2, q_u1, q_shl1, q_shr, q_and7, q_dg, fa_or, fa_and, decide_true, decide_false, Bool.or_false, Bool.or_true, Bool.true_or, Bool.false_or, cond_true, cond_false, ite_not, q_some, q_nn, q_xor, q_xorm, Bool.false_eq_true, decide_eq_true_eq, ne_eq, l_0, l_1, l_2, l_4, l_5, l_6, l_8, l_9, l_10, l_11, l_12, l_14, l_18, l_20, l_22, l_27, l_33, l_39, l_43, l_80, l_99, l_101, l_123, l_4096, l_16384, l_268435456, hA2, pk_div, q_remL, q_remN, h11, hb, h20', z]
              exact MR_some (MS_fx (R := RQ) (by (repeat (first | exact Fx_refl _ _ | assumption | refine Fx_u2 rfl ?_ | refine Fx_u1 rfl (by decide) ?_ | refine Fx_step (by assumption) rfl ?_ | refine Fx_stepr (by assumption) rfl rfl ?_))) rfl rfl hS)
            · rw [Bool.true_and] at z
              have z := of_decide_eq_false z
              rw [b_M_best_43]
              simp (disch := first | assumption | omega) only [b_M_best_0, b_M_best_11, b_M_best_22, b_M_best_33, b_M_best_39, b_M_best_80, b_M_best_101, b_M_best_123, s_M_isIn, s_M_isPerson, s_M_standNow, s_M_withPlace, ↓Bool.cond_decide, ↓q_in, q_le, q_lt, q_eq, q_leT, q_leF, q_ltT, q_ltF, q_eqT, q_eqF, ↓reduceIte, not_true_eq_false, not_false_eq_true, true_and, and_true, and_self, false_and, and_false, Nat.zero_le, am_bd_some, q_app, q_app0, nI_add, pk_sub, pk_mul, q_dec, q_ix, q_m1, q_m1', ↓q_ret, q_bool, q_bool1, q_u2, q_u1, q_shl1, q_shr, q_and7, q_dg, fa_or, fa_and, decide_true, decide_false, Bool.or_false, Bool.or_true, Bool.true_or, Bool.false_or, cond_true, cond_false, ite_not, q_some, q_nn, q_xor, q_xorm, Bool.false_eq_true, decide_eq_true_eq, ne_eq, l_0, l_1, l_2, l_4, l_5, l_6, l_8, l_9, l_10, l_11, l_12, l_14, l_18, l_20, l_22, l_27, l_33, l_39, l_43, l_80, l_99, l_101, l_123, l_4096, l_16384, l_268435456, hA2, pk_div, q_remL, q_remN, h11, hb, h20', z]
              exact Go_in ⟨_, rfl, rfl⟩
        · obtain ⟨z1, e1, e2⟩ := hI
          subst e1; subst e2
          rw [b_M_best_43]
          simp (disch := first | assumption | omega) only [b_M_best_0, b_M_best_11, b_M_best_22, b_M_best_33, b_M_best_39, b_M_best_80, b_M_best_101, b_M_best_123, s_M_isIn, s_M_isPerson, s_M_standNow, s_M_withPlace, ↓Bool.cond_decide, ↓q_in, q_le, q_lt, q_eq, q_leT, q_leF, q_ltT, q_ltF, q_eqT, q_eqF, ↓reduceIte, not_true_eq_false, not_false_eq_true, true_and, and_true, and_self, false_and, and_false, Nat.zero_le, am_bd_some, q_app, q_app0, nI_add, pk_sub, pk_mul, q_dec, q_ix, q_m1, q_m1', ↓q_ret, q_bool, q_bool1, q_u2, q_u1, q_shl1, q_shr, q_and7, q_dg, fa_or, fa_and, decide_true, decide_false, Bool.or_false, Bool.or_true, Bool.true_or, Bool.false_or, cond_true, cond_false, ite_not, q_some, q_nn, q_xor, q_xorm, Bool.false_eq_true, decide_eq_true_eq, ne_eq, l_0, l_1, l_2, l_4, l_5, l_6, l_8, l_9, l_10, l_11, l_12, l_14, l_18, l_20, l_22, l_27, l_33, l_39, l_43, l_80, l_99, l_101, l_123, l_4096, l_16384, l_268435456, hA2]
          exact MR_some (MS_fx (R := RQ) (by (repeat (first | exact Fx_refl _ _ | assumption | refine Fx_u2 rfl ?_ | refine Fx_u1 rfl (by decide) ?_ | refine Fx_step (by assumption) rfl ?_ | refine Fx_stepr (by assumption) rfl rfl ?_))) rfl rfl hS)
  · simp (disch := first | assumption | omega) only [b_M_best_0, b_M_best_11, b_M_best_22, b_M_best_33, b_M_best_39, b_M_best_80, b_M_best_101, b_M_best_123, s_M_isIn, s_M_isPerson, s_M_standNow, s_M_withPlace, ↓Bool.cond_decide, ↓q_in, q_le, q_lt, q_eq, q_leT, q_leF, q_ltT, q_ltF, q_eqT, q_eqF, ↓reduceIte, not_true_eq_false, not_false_eq_true, true_and, and_true, and_self, false_and, and_false, Nat.zero_le, am_bd_some, q_app, q_app0, nI_add, pk_sub, pk_mul, q_dec, q_ix, q_m1, q_m1', ↓q_ret, q_bool, q_bool1, q_u2, q_u1, q_shl1, q_shr, q_and7, q_dg, fa_or, fa_and, decide_true, decide_false, Bool.or_false, Bool.or_true, Bool.true_or, Bool.false_or, cond_true, cond_false, ite_not, q_some, q_nn, q_xor, q_xorm, Bool.false_eq_true, decide_eq_true_eq, ne_eq, l_0, l_1, l_2, l_4, l_5, l_6, l_8, l_9, l_10, l_11, l_12, l_14, l_18, l_20, l_22, l_27, l_33, l_39, l_43, l_80, l_99, l_101, l_123, l_4096, l_16384, l_268435456, hx]
    exact MR_some (MS_fx (R := RQ) (by (repeat (first | exact Fx_refl _ _ | assumption | refine Fx_u2 rfl ?_ | refine Fx_u1 rfl (by decide) ?_ | refine Fx_step (by assumption) rfl ?_ | refine Fx_stepr (by assumption) rfl rfl ?_))) rfl rfl hS)
end
