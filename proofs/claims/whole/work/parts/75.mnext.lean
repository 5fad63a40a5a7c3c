/-! THE MODEL: the next token -/
theorem nm_lt {B : Nat → Nat} {a : Nat} (hB : ∀ k, B k < 256) : ∀ j, j ≤ 3 → (∀ k, k < j → isD B (a + k) = true) → nm B a j < 10 ^ j
  | 0, _, _ => by rw [nm]; decide
  | j + 1, hj, h => by
    have ih := nm_lt hB j (by omega) (fun k hk => h k (by omega))
    have hd := of_decide_eq_true (h j (by omega))
    rw [nm, Nat.pow_succ]
    omega
section
variable {i : Nat → Nat → Int32} {l : Nat → Nat → Int64} {B : Nat → Nat} {N : Nat}
theorem r_M_next (d : Nat) {b0 : Nat} (hb0 : b0 ≤ N) (hT : TP i B N) (h7 : i 0 7 = nI b0) : MR none (fun i' l' => l' = l ∧ Fx [106, 107, 109, 110] i i' ∧ i' 0 6 = nI (sk B N b0) ∧ i' 0 7 = nI (te B N (sk B N b0)) ∧ i' 0 9 = nI (knd B N (sk B N b0)) ∧ (knd B N (sk B N b0) = 23 → i' 0 10 = nI (num B (sk B N b0) (te B N (sk B N b0))))) (am_cl (d + 2) mM_next [.ref 0] (i, l, rM, kM)) := by
  have hN := hT.1
  have hB := hT.2.2.2
  obtain ⟨k1, k2, k3, k4⟩ := k_t3
  obtain ⟨a1, a2, a3, a4⟩ := rn_is (P := isBl B) hb0
  have hXff := rn_ff (P := isBl B) hb0
  have hsk : sk B N b0 = rn (isBl B) N b0 := rfl
  rw [← hsk] at a1 a2 a3 a4 hXff
  generalize sk B N b0 = X at a1 a2 a3 a4 hXff
  refine MR_q ?_
  intro Q hQ
  rw [c_M_next, b_M_next_0, h7]
  -- behind the blanks
  have main : ∀ i1, Fx [106] i i1 → i1 0 6 = nI X → ∀ z1, MR none Q (am_Ex (d + 1) mM_next 29 [.val (.ref 0), z1] [.int (seeV B N X)] (i1, l, rM, kM)) := by
    intro i1 hf1 h61 z1
    have hT1 : TP i1 B N := TP_fx hf1 hT rfl rfl
    have h81 := hT1.2.1
    have hbx := hB X
    rw [b_M_next_29]
    by_cases hXN : X < N
    · have hsv : seeV B N X = nI (B X) := if_pos hXN
      have hnb := of_decide_eq_false (a4 hXN)
      have h32 : (B X = 32) = False := eq_false (fun z => hnb (Or.inr z))
      have hT2 : TP (am_u2 i1 0 7 (nI X)) B N := hT1
      have h62 : am_u2 i1 0 7 (nI X) 0 6 = nI X := h61
      rw [hsv]
      simp (disch := first | assumption | omega) only [b_M_next_0, b_M_next_16, b_M_next_29, b_M_next_34, b_M_next_83, b_M_next_86, b_M_next_97, b_M_next_100, b_M_next_121, b_M_next_135, b_M_next_138, b_M_next_154, b_M_next_157, b_M_next_189, b_M_next_196, b_M_next_230, b_M_next_257, b_M_next_260, b_M_next_271, b_M_next_274, b_M_next_277, b_M_next_288, b_M_next_294, s_M_isDigit, s_M_isSmall, s_M_keyAt, s_M_see, ↓Bool.cond_decide, ↓q_in, q_le, q_lt, q_eq, q_leT, q_leF, q_ltT, q_ltF, q_eqT, q_eqF, ↓reduceIte, not_true_eq_false, not_false_eq_true, true_and, and_true, and_self, false_and, and_false, Nat.zero_le, am_bd_some, q_app, q_app0, nI_add, pk_sub, pk_mul, q_dec, q_ix, q_m1, q_m1', ↓q_ret, q_bool, q_bool1, q_u1, q_shl1, q_shr, q_and7, q_dg, fa_or, fa_and, decide_true, decide_false, Bool.or_false, Bool.or_true, Bool.true_or, Bool.false_or, cond_true, cond_false, ite_not, q_some, q_nn, q_xor, q_xorm, Bool.false_eq_true, decide_eq_true_eq, ne_eq, l_0, l_1, l_3, l_5, l_6, l_7, l_8, l_9, l_10, l_14, l_16, l_19, l_23, l_24, l_25, l_29, l_30, l_32, l_33, l_34, l_48, l_83, l_86, l_89, l_97, l_100, l_121, l_135, l_138, l_146, l_154, l_157, l_189, l_196, l_230, l_254, l_257, l_260, l_271, l_274, l_277, l_288, l_294, l_1000003, h32, h61, h81]
      by_cases hl : isL B X = true
      · -- a word
        obtain ⟨c1, c2, c3, c4⟩ := rn_is (P := isL B) (show X ≤ N by omega)
        have hff := rn_ff (P := isL B) (show X ≤ N by omega)
        have hte : te B N X = rn (isL B) N X := by unfold te; rw [if_neg (by omega), if_pos hl]
        rw [← hte] at c1 c2 c3 c4 hff
        simp (disch := first | assumption | omega) only [b_M_next_0, b_M_next_16, b_M_next_29, b_M_next_34, b_M_next_83, b_M_next_86, b_M_next_97, b_M_next_100, b_M_next_121, b_M_next_135, b_M_next_138, b_M_next_154, b_M_next_157, b_M_next_189, b_M_next_196, b_M_next_230, b_M_next_257, b_M_next_260, b_M_next_271, b_M_next_274, b_M_next_277, b_M_next_288, b_M_next_294, s_M_isDigit, s_M_isSmall, s_M_keyAt, s_M_see, ↓Bool.cond_decide, ↓q_in, q_le, q_lt, q_eq, q_leT, q_leF, q_ltT, q_ltF, q_eqT, q_eqF, ↓reduceIte, not_true_eq_false, not_false_eq_true, true_and, and_true, and_self, false_and, and_false, Nat.zero_le, am_bd_some, q_app, q_app0, nI_add, pk_sub, pk_mul, q_dec, q_ix, q_m1, q_m1', ↓q_ret, q_bool, q_bool1, q_u1, q_shl1, q_shr, q_and7, q_dg, fa_or, fa_and, decide_true, decide_false, Bool.or_false, Bool.or_true, Bool.true_or, Bool.false_or, cond_true, cond_false, ite_not, q_some, q_nn, q_xor, q_xorm, Bool.false_eq_true, decide_eq_true_eq, ne_eq, l_0, l_1, l_3, l_5, l_6, l_7, l_8, l_9, l_10, l_14, l_16, l_19, l_23, l_24, l_25, l_29, l_30, l_32, l_33, l_34, l_48, l_83, l_86, l_89, l_97, l_100, l_121, l_135, l_138, l_146, l_154, l_157, l_189, l_196, l_230, l_254, l_257, l_260, l_271, l_274, l_277, l_288, l_294, l_1000003, hXN, hl]
        refine am_find (d := d + 1) (y := mM_next) (pc := 89) (fun y ls st => ∃ i', ls = [.val (.ref 0), z1] ∧ st = (i', l, rM, kM) ∧ Fx [106, 107] i i' ∧ i' 0 6 = nI X ∧ i' 0 7 = nI y) _ (fun o r => o = some (te B N X) → MR none Q r) (N + 1 - X) X (fun y ls st hy1 hy2 hI => ?_) (fun ls st hI => fun z => by cases z) _ _ ⟨_, rfl, rfl, by (repeat (first | exact Fx_refl _ _ | assumption | refine Fx_u2 rfl ?_ | refine Fx_u1 rfl (by decide) ?_ | refine Fx_step (by assumption) rfl ?_ | refine Fx_stepr (by assumption) rfl rfl ?_)), h61, rfl⟩ hff
        obtain ⟨i2, e1, e2, hf2, h62', h72⟩ := hI
        subst e1; subst e2
        have hT3 : TP i2 B N := TP_fx hf2 hT rfl rfl
        refine ⟨fun hf => fun hyX => ?_, fun hf => ?_⟩
        · have hyX := Option.some.inj hyX
          have hns : (y < N ∧ isL B y = true) = False := eq_false (fun z => by
            rw [decide_eq_true z.1, z.2] at hf; cases hf)
          subst hyX
          have hkey := s_M_keyAt (i := i2) (l := l) d c1 c2 hT3 h62' h72
          have hkn : knd B N X = key B X (te B N X) := by unfold knd; rw [if_neg (by omega), if_pos hl]
          rw [b_M_next_89]
          simp (disch := first | assumption | omega) only [b_M_next_0, b_M_next_16, b_M_next_29, b_M_next_34, b_M_next_83, b_M_next_86, b_M_next_97, b_M_next_100, b_M_next_121, b_M_next_135, b_M_next_138, b_M_next_154, b_M_next_157, b_M_next_189, b_M_next_196, b_M_next_230, b_M_next_257, b_M_next_260, b_M_next_271, b_M_next_274, b_M_next_277, b_M_next_288, b_M_next_294, s_M_isDigit, s_M_isSmall, s_M_see, ↓Bool.cond_decide, ↓q_in, q_le, q_lt, q_eq, q_leT, q_leF, q_ltT, q_ltF, q_eqT, q_eqF, ↓reduceIte, not_true_eq_false, not_false_eq_true, true_and, and_true, and_self, false_and, and_false, Nat.zero_le, am_bd_some, q_app, q_app0, nI_add, pk_sub, pk_mul, q_dec, q_ix, q_m1, q_m1', ↓q_ret, q_bool, q_bool1, q_u1, q_shl1, q_shr, q_and7, q_dg, fa_or, fa_and, decide_true, decide_false, Bool.or_false, Bool.or_true, Bool.true_or, Bool.false_or, cond_true, cond_false, ite_not, q_some, q_nn, q_xor, q_xorm, Bool.false_eq_true, decide_eq_true_eq, ne_eq, l_0, l_1, l_3, l_5, l_6, l_7, l_8, l_9, l_10, l_14, l_16, l_19, l_23, l_24, l_25, l_29, l_30, l_32, l_33, l_34, l_48, l_83, l_86, l_89, l_97, l_100, l_121, l_135, l_138, l_146, l_154, l_157, l_189, l_196, l_230, l_254, l_257, l_260, l_271, l_274, l_277, l_288, l_294, l_1000003, h72, hns, hkey]
          refine MR_some (hQ _ _ ⟨rfl, by (repeat (first | exact Fx_refl _ _ | assumption | refine Fx_u2 rfl ?_ | refine Fx_u1 rfl (by decide) ?_ | refine Fx_step (by assumption) rfl ?_ | refine Fx_stepr (by assumption) rfl rfl ?_)), h62', h72, by rw [hkn]; rfl, fun z => ?_⟩)
          exfalso
          rw [hkn] at z
          unfold key at z
          cases hk : ff (mtc B X (te B N X)) 20 0 with
          | none => rw [hk] at z; cases z
          | some q =>
            rw [hk] at z
            have := (ff_some hk).2.1
            have z : q = 23 := z
            omega
        · rw [Bool.not_eq_false', Bool.and_eq_true] at hf
          have hyN := of_decide_eq_true hf.1
          rw [b_M_next_89]
          simp (disch := first | assumption | omega) only [b_M_next_0, b_M_next_16, b_M_next_29, b_M_next_34, b_M_next_83, b_M_next_86, b_M_next_97, b_M_next_100, b_M_next_121, b_M_next_135, b_M_next_138, b_M_next_154, b_M_next_157, b_M_next_189, b_M_next_196, b_M_next_230, b_M_next_257, b_M_next_260, b_M_next_271, b_M_next_274, b_M_next_277, b_M_next_288, b_M_next_294, s_M_isDigit, s_M_isSmall, s_M_keyAt, s_M_see, ↓Bool.cond_decide, ↓q_in, q_le, q_lt, q_eq, q_leT, q_leF, q_ltT, q_ltF, q_eqT, q_eqF, ↓reduceIte, not_true_eq_false, not_false_eq_true, true_and, and_true, and_self, false_and, and_false, Nat.zero_le, am_bd_some, q_app, q_app0, nI_add, pk_sub, pk_mul, q_dec, q_ix, q_m1, q_m1', ↓q_ret, q_bool, q_bool1, q_u1, q_shl1, q_shr, q_and7, q_dg, fa_or, fa_and, decide_true, decide_false, Bool.or_false, Bool.or_true, Bool.true_or, Bool.false_or, cond_true, cond_false, ite_not, q_some, q_nn, q_xor, q_xorm, Bool.false_eq_true, decide_eq_true_eq, ne_eq, l_0, l_1, l_3, l_5, l_6, l_7, l_8, l_9, l_10, l_14, l_16, l_19, l_23, l_24, l_25, l_29, l_30, l_32, l_33, l_34, l_48, l_83, l_86, l_89, l_97, l_100, l_121, l_135, l_138, l_146, l_154, l_157, l_189, l_196, l_230, l_254, l_257, l_260, l_271, l_274, l_277, l_288, l_294, l_1000003, h72, hyN, hf.2]
          exact Go_in ⟨_, rfl, rfl, by (repeat (first | exact Fx_refl _ _ | assumption | refine Fx_u2 rfl ?_ | refine Fx_u1 rfl (by decide) ?_ | refine Fx_step (by assumption) rfl ?_ | refine Fx_stepr (by assumption) rfl rfl ?_)), h62', rfl⟩
      · by_cases hdg : isD B X = true
        · -- a number
          obtain ⟨c1, c2, c3, c4⟩ := rn_is (P := isD B) (show X ≤ N by omega)
          have hff := rn_ff (P := isD B) (show X ≤ N by omega)
          have hte : te B N X = rn (isD B) N X := by unfold te; rw [if_neg (by omega), if_neg hl, if_pos hdg]
          rw [← hte] at c1 c2 c3 c4 hff
          simp (disch := first | assumption | omega) only [b_M_next_0, b_M_next_16, b_M_next_29, b_M_next_34, b_M_next_83, b_M_next_86, b_M_next_97, b_M_next_100, b_M_next_121, b_M_next_135, b_M_next_138, b_M_next_154, b_M_next_157, b_M_next_189, b_M_next_196, b_M_next_230, b_M_next_257, b_M_next_260, b_M_next_271, b_M_next_274, b_M_next_277, b_M_next_288, b_M_next_294, s_M_isDigit, s_M_isSmall, s_M_keyAt, s_M_see, ↓Bool.cond_decide, ↓q_in, q_le, q_lt, q_eq, q_leT, q_leF, q_ltT, q_ltF, q_eqT, q_eqF, ↓reduceIte, not_true_eq_false, not_false_eq_true, true_and, and_true, and_self, false_and, and_false, Nat.zero_le, am_bd_some, q_app, q_app0, nI_add, pk_sub, pk_mul, q_dec, q_ix, q_m1, q_m1', ↓q_ret, q_bool, q_bool1, q_u1, q_shl1, q_shr, q_and7, q_dg, fa_or, fa_and, decide_true, decide_false, Bool.or_false, Bool.or_true, Bool.true_or, Bool.false_or, cond_true, cond_false, ite_not, q_some, q_nn, q_xor, q_xorm, Bool.false_eq_true, decide_eq_true_eq, ne_eq, l_0, l_1, l_3, l_5, l_6, l_7, l_8, l_9, l_10, l_14, l_16, l_19, l_23, l_24, l_25, l_29, l_30, l_32, l_33, l_34, l_48, l_83, l_86, l_89, l_97, l_100, l_121, l_135, l_138, l_146, l_154, l_157, l_189, l_196, l_230, l_254, l_257, l_260, l_271, l_274, l_277, l_288, l_294, l_1000003, hXN, hl, hdg, h62]
          refine am_find (d := d + 1) (y := mM_next) (pc := 146) (fun y ls st => ∃ i', ls = [.val (.ref 0), z1] ∧ st = (i', l, rM, kM) ∧ Fx [106, 107, 110] i i' ∧ i' 0 6 = nI X ∧ i' 0 7 = nI y ∧ i' 0 10 = nI (nm B X (mn 3 (y - X))) ∧ ∀ k, X ≤ k → k < y → isD B k = true) _ (fun o r => o = some (te B N X) → MR none Q r) (N + 1 - X) X (fun y ls st hy1 hy2 hI => ?_) (fun ls st hI => fun z => by cases z) _ _ ⟨_, rfl, rfl, by (repeat (first | exact Fx_refl _ _ | assumption | refine Fx_u2 rfl ?_ | refine Fx_u1 rfl (by decide) ?_ | refine Fx_step (by assumption) rfl ?_ | refine Fx_stepr (by assumption) rfl rfl ?_)), h61, rfl, by rw [Nat.sub_self]; rfl, fun k q1 q2 => by omega⟩ hff
          obtain ⟨i2, e1, e2, hf2, h62', h72, h102, hall⟩ := hI
          subst e1; subst e2
          have hT3 : TP i2 B N := TP_fx hf2 hT rfl rfl
          have hmn : mn 3 (y - X) ≤ 3 := by unfold mn; split <;> omega
          have hmn2 : mn 3 (y - X) ≤ y - X := mn_le _ _
          have hnml := nm_lt (a := X) hB (mn 3 (y - X)) hmn (fun k hk => hall (X + k) (by omega) (by omega))
          have hp : 10 ^ mn 3 (y - X) ≤ 1000 := Nat.le_trans (Nat.pow_le_pow_right (by decide) hmn) (by decide)
          refine ⟨fun hf => fun hyX => ?_, fun hf => ?_⟩
          · have hyX := Option.some.inj hyX
            have hns : (y < N ∧ isD B y = true) = False := eq_false (fun z => by
              rw [decide_eq_true z.1, z.2] at hf; cases hf)
            subst hyX
            rw [b_M_next_146]
            by_cases h3 : 3 < te B N X - X
            · have hkn : knd B N X = 25 := by unfold knd; rw [if_neg (by omega), if_neg hl, if_pos hdg, if_pos h3]
              simp (disch := first | assumption | omega) only [b_M_next_0, b_M_next_16, b_M_next_29, b_M_next_34, b_M_next_83, b_M_next_86, b_M_next_97, b_M_next_100, b_M_next_121, b_M_next_135, b_M_next_138, b_M_next_154, b_M_next_157, b_M_next_189, b_M_next_196, b_M_next_230, b_M_next_257, b_M_next_260, b_M_next_271, b_M_next_274, b_M_next_277, b_M_next_288, b_M_next_294, s_M_isDigit, s_M_isSmall, s_M_keyAt, s_M_see, ↓Bool.cond_decide, ↓q_in, q_le, q_lt, q_eq, q_leT, q_leF, q_ltT, q_ltF, q_eqT, q_eqF, ↓reduceIte, not_true_eq_false, not_false_eq_true, true_and, and_true, and_self, false_and, and_false, Nat.zero_le, am_bd_some, q_app, q_app0, nI_add, pk_sub, pk_mul, q_dec, q_ix, q_m1, q_m1', ↓q_ret, q_bool, q_bool1, q_u1, q_shl1, q_shr, q_and7, q_dg, fa_or, fa_and, decide_true, decide_false, Bool.or_false, Bool.or_true, Bool.true_or, Bool.false_or, cond_true, cond_false, ite_not, q_some, q_nn, q_xor, q_xorm, Bool.false_eq_true, decide_eq_true_eq, ne_eq, l_0, l_1, l_3, l_5, l_6, l_7, l_8, l_9, l_10, l_14, l_16, l_19, l_23, l_24, l_25, l_29, l_30, l_32, l_33, l_34, l_48, l_83, l_86, l_89, l_97, l_100, l_121, l_135, l_138, l_146, l_154, l_157, l_189, l_196, l_230, l_254, l_257, l_260, l_271, l_274, l_277, l_288, l_294, l_1000003, h72, h62', hns]
              exact MR_some (hQ _ _ ⟨rfl, by (repeat (first | exact Fx_refl _ _ | assumption | refine Fx_u2 rfl ?_ | refine Fx_u1 rfl (by decide) ?_ | refine Fx_step (by assumption) rfl ?_ | refine Fx_stepr (by assumption) rfl rfl ?_)), h62', h72, by rw [hkn]; rfl, fun z => by rw [hkn] at z; cases z⟩)
            · have hkn : knd B N X = 23 := by unfold knd; rw [if_neg (by omega), if_neg hl, if_pos hdg, if_neg h3]
              simp (disch := first | assumption | omega) only [b_M_next_0, b_M_next_16, b_M_next_29, b_M_next_34, b_M_next_83, b_M_next_86, b_M_next_97, b_M_next_100, b_M_next_121, b_M_next_135, b_M_next_138, b_M_next_154, b_M_next_157, b_M_next_189, b_M_next_196, b_M_next_230, b_M_next_257, b_M_next_260, b_M_next_271, b_M_next_274, b_M_next_277, b_M_next_288, b_M_next_294, s_M_isDigit, s_M_isSmall, s_M_keyAt, s_M_see, ↓Bool.cond_decide, ↓q_in, q_le, q_lt, q_eq, q_leT, q_leF, q_ltT, q_ltF, q_eqT, q_eqF, ↓reduceIte, not_true_eq_false, not_false_eq_true, true_and, and_true, and_self, false_and, and_false, Nat.zero_le, am_bd_some, q_app, q_app0, nI_add, pk_sub, pk_mul, q_dec, q_ix, q_m1, q_m1', ↓q_ret, q_bool, q_bool1, q_u1, q_shl1, q_shr, q_and7, q_dg, fa_or, fa_and, decide_true, decide_false, Bool.or_false, Bool.or_true, Bool.true_or, Bool.false_or, cond_true, cond_false, ite_not, q_some, q_nn, q_xor, q_xorm, Bool.false_eq_true, decide_eq_true_eq, ne_eq, l_0, l_1, l_3, l_5, l_6, l_7, l_8, l_9, l_10, l_14, l_16, l_19, l_23, l_24, l_25, l_29, l_30, l_32, l_33, l_34, l_48, l_83, l_86, l_89, l_97, l_100, l_121, l_135, l_138, l_146, l_154, l_157, l_189, l_196, l_230, l_254, l_257, l_260, l_271, l_274, l_277, l_288, l_294, l_1000003, h72, h62', hns]
              exact MR_some (hQ _ _ ⟨rfl, by (repeat (first | exact Fx_refl _ _ | assumption | refine Fx_u2 rfl ?_ | refine Fx_u1 rfl (by decide) ?_ | refine Fx_step (by assumption) rfl ?_ | refine Fx_stepr (by assumption) rfl rfl ?_)), h62', h72, by rw [hkn]; rfl, fun z => h102⟩)
          · rw [Bool.not_eq_false', Bool.and_eq_true] at hf
            have hyN := of_decide_eq_true hf.1
            have hdy := of_decide_eq_true hf.2
            have hsy : seeV B N y = nI (B y) := if_pos hyN
            rw [b_M_next_146]
            have hall' : ∀ k, X ≤ k → k < y + 1 → isD B k = true := fun k q1 q2 => by
              by_cases e : k = y
              · subst e; exact hf.2
              · exact hall k q1 (by omega)
            by_cases h3 : 3 ≤ y - X
            · simp (disch := first | assumption | omega) only [b_M_next_0, b_M_next_16, b_M_next_29, b_M_next_34, b_M_next_83, b_M_next_86, b_M_next_97, b_M_next_100, b_M_next_121, b_M_next_135, b_M_next_138, b_M_next_154, b_M_next_157, b_M_next_189, b_M_next_196, b_M_next_230, b_M_next_257, b_M_next_260, b_M_next_271, b_M_next_274, b_M_next_277, b_M_next_288, b_M_next_294, s_M_isDigit, s_M_isSmall, s_M_keyAt, s_M_see, ↓Bool.cond_decide, ↓q_in, q_le, q_lt, q_eq, q_leT, q_leF, q_ltT, q_ltF, q_eqT, q_eqF, ↓reduceIte, not_true_eq_false, not_false_eq_true, true_and, and_true, and_self, false_and, and_false, Nat.zero_le, am_bd_some, q_app, q_app0, nI_add, pk_sub, pk_mul, q_dec, q_ix, q_m1, q_m1', ↓q_ret, q_bool, q_bool1, q_u1, q_shl1, q_shr, q_and7, q_dg, fa_or, fa_and, decide_true, decide_false, Bool.or_false, Bool.or_true, Bool.true_or, Bool.false_or, cond_true, cond_false, ite_not, q_some, q_nn, q_xor, q_xorm, Bool.false_eq_true, decide_eq_true_eq, ne_eq, l_0, l_1, l_3, l_5, l_6, l_7, l_8, l_9, l_10, l_14, l_16, l_19, l_23, l_24, l_25, l_29, l_30, l_32, l_33, l_34, l_48, l_83, l_86, l_89, l_97, l_100, l_121, l_135, l_138, l_146, l_154, l_157, l_189, l_196, l_230, l_254, l_257, l_260, l_271, l_274, l_277, l_288, l_294, l_1000003, h72, h62', hyN, hf.2]
              refine Go_in ⟨_, rfl, rfl, by (repeat (first | exact Fx_refl _ _ | assumption | refine Fx_u2 rfl ?_ | refine Fx_u1 rfl (by decide) ?_ | refine Fx_step (by assumption) rfl ?_ | refine Fx_stepr (by assumption) rfl rfl ?_)), h62', rfl, ?_, hall'⟩
              show i2 0 10 = _
              rw [h102]
              have e1 : mn 3 (y - X) = 3 := by unfold mn; split <;> omega
              have e2 : mn 3 (y + 1 - X) = 3 := by unfold mn; split <;> omega
              rw [e1, e2]
            · have e1 : mn 3 (y - X) = y - X := by unfold mn; split <;> omega
              have e2 : mn 3 (y + 1 - X) = y - X + 1 := by unfold mn; split <;> omega
              rw [e1] at h102 hnml hp
              have exy : X + (y - X) = y := by omega
              have esum : 10 * nm B X (y - X) + B y - 48 = nm B X (y - X + 1) := by
                rw [nm, exy]; omega
              simp (disch := first | assumption | omega) only [b_M_next_0, b_M_next_16, b_M_next_29, b_M_next_34, b_M_next_83, b_M_next_86, b_M_next_97, b_M_next_100, b_M_next_121, b_M_next_135, b_M_next_138, b_M_next_154, b_M_next_157, b_M_next_196, b_M_next_230, b_M_next_257, b_M_next_260, b_M_next_271, b_M_next_274, b_M_next_277, b_M_next_288, b_M_next_294, s_M_isDigit, s_M_isSmall, s_M_keyAt, s_M_see, ↓Bool.cond_decide, ↓q_in, q_le, q_lt, q_eq, q_leT, q_leF, q_ltT, q_ltF, q_eqT, q_eqF, ↓reduceIte, not_true_eq_false, not_false_eq_true, true_and, and_true, and_self, false_and, and_false, Nat.zero_le, am_bd_some, q_app, q_app0, nI_add, pk_sub, pk_mul, q_dec, q_ix, q_m1, q_m1', ↓q_ret, q_bool, q_bool1, q_u1, q_shl1, q_shr, q_and7, q_dg, fa_or, fa_and, decide_true, decide_false, Bool.or_false, Bool.or_true, Bool.true_or, Bool.false_or, cond_true, cond_false, ite_not, q_some, q_nn, q_xor, q_xorm, Bool.false_eq_true, decide_eq_true_eq, ne_eq, l_0, l_1, l_3, l_5, l_6, l_7, l_8, l_9, l_10, l_14, l_16, l_19, l_23, l_24, l_25, l_29, l_30, l_32, l_33, l_34, l_48, l_83, l_86, l_89, l_97, l_100, l_121, l_135, l_138, l_146, l_154, l_157, l_189, l_196, l_230, l_254, l_257, l_260, l_271, l_274, l_277, l_288, l_294, l_1000003, h72, h62', hyN, hf.2, h102]
              have h72n : ∀ v, am_u2 i2 0 10 v 0 7 = nI y := fun v => h72
              rw [hsy]
              simp (disch := first | assumption | omega) only [b_M_next_0, b_M_next_16, b_M_next_29, b_M_next_34, b_M_next_83, b_M_next_86, b_M_next_97, b_M_next_100, b_M_next_121, b_M_next_135, b_M_next_138, b_M_next_154, b_M_next_157, b_M_next_189, b_M_next_196, b_M_next_230, b_M_next_257, b_M_next_260, b_M_next_271, b_M_next_274, b_M_next_277, b_M_next_288, b_M_next_294, s_M_isDigit, s_M_isSmall, s_M_keyAt, s_M_see, ↓Bool.cond_decide, ↓q_in, q_le, q_lt, q_eq, q_leT, q_leF, q_ltT, q_ltF, q_eqT, q_eqF, ↓reduceIte, not_true_eq_false, not_false_eq_true, true_and, and_true, and_self, false_and, and_false, Nat.zero_le, am_bd_some, q_app, q_app0, nI_add, pk_sub, pk_mul, q_dec, q_ix, q_m1, q_m1', ↓q_ret, q_bool, q_bool1, q_u1, q_shl1, q_shr, q_and7, q_dg, fa_or, fa_and, decide_true, decide_false, Bool.or_false, Bool.or_true, Bool.true_or, Bool.false_or, cond_true, cond_false, ite_not, q_some, q_nn, q_xor, q_xorm, Bool.false_eq_true, decide_eq_true_eq, ne_eq, l_0, l_1, l_3, l_5, l_6, l_7, l_8, l_9, l_10, l_14, l_16, l_19, l_23, l_24, l_25, l_29, l_30, l_32, l_33, l_34, l_48, l_83, l_86, l_89, l_97, l_100, l_121, l_135, l_138, l_146, l_154, l_157, l_189, l_196, l_230, l_254, l_257, l_260, l_271, l_274, l_277, l_288, l_294, l_1000003, h72, h72n, esum, q_u2s]
              exact Go_in ⟨_, rfl, rfl, by (repeat (first | exact Fx_refl _ _ | assumption | refine Fx_u2 rfl ?_ | refine Fx_u1 rfl (by decide) ?_ | refine Fx_step (by assumption) rfl ?_ | refine Fx_stepr (by assumption) rfl rfl ?_)), h62', rfl, by rw [e2]; rfl, hall'⟩
        · -- a sign
          have hte : te B N X = X + 1 := by unfold te; rw [if_neg (by omega), if_neg hl, if_neg hdg]
          have hkn : knd B N X = sgK (B X) 12 := by unfold knd; rw [if_neg (by omega), if_neg hl, if_neg hdg]
          simp (disch := first | assumption | omega) only [b_M_next_0, b_M_next_16, b_M_next_29, b_M_next_34, b_M_next_83, b_M_next_86, b_M_next_97, b_M_next_100, b_M_next_121, b_M_next_135, b_M_next_138, b_M_next_154, b_M_next_157, b_M_next_189, b_M_next_196, b_M_next_230, b_M_next_257, b_M_next_260, b_M_next_271, b_M_next_274, b_M_next_277, b_M_next_288, b_M_next_294, s_M_isDigit, s_M_isSmall, s_M_keyAt, s_M_see, ↓Bool.cond_decide, ↓q_in, q_le, q_lt, q_eq, q_leT, q_leF, q_ltT, q_ltF, q_eqT, q_eqF, ↓reduceIte, not_true_eq_false, not_false_eq_true, true_and, and_true, and_self, false_and, and_false, Nat.zero_le, am_bd_some, q_app, q_app0, nI_add, pk_sub, pk_mul, q_dec, q_ix, q_m1, q_m1', ↓q_ret, q_bool, q_bool1, q_u1, q_shl1, q_shr, q_and7, q_dg, fa_or, fa_and, decide_true, decide_false, Bool.or_false, Bool.or_true, Bool.true_or, Bool.false_or, cond_true, cond_false, ite_not, q_some, q_nn, q_xor, q_xorm, Bool.false_eq_true, decide_eq_true_eq, ne_eq, l_0, l_1, l_3, l_5, l_6, l_7, l_8, l_9, l_10, l_14, l_16, l_19, l_23, l_24, l_25, l_29, l_30, l_32, l_33, l_34, l_48, l_83, l_86, l_89, l_97, l_100, l_121, l_135, l_138, l_146, l_154, l_157, l_189, l_196, l_230, l_254, l_257, l_260, l_271, l_274, l_277, l_288, l_294, l_1000003, hXN, hl, hdg, h62, q_u2s]
          refine am_loop (fun k ls st => ∃ i', ls = [.val (.ref 0), .val (.int (nI k))] ∧ st = (i', l, rM, kM) ∧ Fx [106, 107, 109] i i' ∧ i' 0 6 = nI X ∧ i' 0 7 = nI (X + 1) ∧ i' 0 9 = nI (sgK (B X) k)) 12 _ (fun k ls st hk hI => ?_) (fun ls st hI => ?_) ⟨_, rfl, rfl, by (repeat (first | exact Fx_refl _ _ | assumption | refine Fx_u2 rfl ?_ | refine Fx_u1 rfl (by decide) ?_ | refine Fx_step (by assumption) rfl ?_ | refine Fx_stepr (by assumption) rfl rfl ?_)), h61, rfl, rfl⟩
          · obtain ⟨i2, e1, e2, hf2, h62', h72, h92⟩ := hI
            subst e1; subst e2
            have hT3 : TP i2 B N := TP_fx hf2 hT rfl rfl
            have hof : Int32.ofNat 12 = nI 12 := rfl
            rw [b_M_next_254, b_M_next_257, k4, hof]
            by_cases he : nI (B X) = am_ch 3 k
            · have es : sgK (B X) (k + 1) = 30 + k := by rw [sgK, if_pos he]
              simp (disch := first | assumption | omega) only [b_M_next_0, b_M_next_16, b_M_next_29, b_M_next_34, b_M_next_83, b_M_next_86, b_M_next_97, b_M_next_100, b_M_next_121, b_M_next_135, b_M_next_138, b_M_next_154, b_M_next_157, b_M_next_189, b_M_next_196, b_M_next_230, b_M_next_257, b_M_next_260, b_M_next_271, b_M_next_274, b_M_next_277, b_M_next_288, b_M_next_294, s_M_isDigit, s_M_isSmall, s_M_keyAt, s_M_see, ↓Bool.cond_decide, ↓q_in, q_le, q_lt, q_eq, q_leT, q_leF, q_ltT, q_ltF, q_eqT, q_eqF, ↓reduceIte, not_true_eq_false, not_false_eq_true, true_and, and_true, and_self, false_and, and_false, Nat.zero_le, am_bd_some, q_app, q_app0, nI_add, pk_sub, pk_mul, q_dec, q_ix, q_m1, q_m1', ↓q_ret, q_bool, q_bool1, q_u1, q_shl1, q_shr, q_and7, q_dg, fa_or, fa_and, decide_true, decide_false, Bool.or_false, Bool.or_true, Bool.true_or, Bool.false_or, cond_true, cond_false, ite_not, q_some, q_nn, q_xor, q_xorm, Bool.false_eq_true, decide_eq_true_eq, ne_eq, l_0, l_1, l_3, l_5, l_6, l_7, l_8, l_9, l_10, l_14, l_16, l_19, l_23, l_24, l_25, l_29, l_30, l_32, l_33, l_34, l_48, l_83, l_86, l_89, l_97, l_100, l_121, l_135, l_138, l_146, l_154, l_157, l_189, l_196, l_230, l_254, l_257, l_260, l_271, l_274, l_277, l_288, l_294, l_1000003, h62', hsv, k4, he]
              exact Go_in ⟨_, rfl, rfl, by (repeat (first | exact Fx_refl _ _ | assumption | refine Fx_u2 rfl ?_ | refine Fx_u1 rfl (by decide) ?_ | refine Fx_step (by assumption) rfl ?_ | refine Fx_stepr (by assumption) rfl rfl ?_)), h62', h72, by rw [es]; rfl⟩
            · have es : sgK (B X) (k + 1) = sgK (B X) k := by rw [sgK, if_neg he]
              simp (disch := first | assumption | omega) only [b_M_next_0, b_M_next_16, b_M_next_29, b_M_next_34, b_M_next_83, b_M_next_86, b_M_next_97, b_M_next_100, b_M_next_121, b_M_next_135, b_M_next_138, b_M_next_154, b_M_next_157, b_M_next_189, b_M_next_196, b_M_next_230, b_M_next_257, b_M_next_260, b_M_next_271, b_M_next_274, b_M_next_277, b_M_next_288, b_M_next_294, s_M_isDigit, s_M_isSmall, s_M_keyAt, s_M_see, ↓Bool.cond_decide, ↓q_in, q_le, q_lt, q_eq, q_leT, q_leF, q_ltT, q_ltF, q_eqT, q_eqF, ↓reduceIte, not_true_eq_false, not_false_eq_true, true_and, and_true, and_self, false_and, and_false, Nat.zero_le, am_bd_some, q_app, q_app0, nI_add, pk_sub, pk_mul, q_dec, q_ix, q_m1, q_m1', ↓q_ret, q_bool, q_bool1, q_u1, q_shl1, q_shr, q_and7, q_dg, fa_or, fa_and, decide_true, decide_false, Bool.or_false, Bool.or_true, Bool.true_or, Bool.false_or, cond_true, cond_false, ite_not, q_some, q_nn, q_xor, q_xorm, Bool.false_eq_true, decide_eq_true_eq, ne_eq, l_0, l_1, l_3, l_5, l_6, l_7, l_8, l_9, l_10, l_14, l_16, l_19, l_23, l_24, l_25, l_29, l_30, l_32, l_33, l_34, l_48, l_83, l_86, l_89, l_97, l_100, l_121, l_135, l_138, l_146, l_154, l_157, l_189, l_196, l_230, l_254, l_257, l_260, l_271, l_274, l_277, l_288, l_294, l_1000003, h62', hsv, k4, he]
              exact Go_in ⟨_, rfl, rfl, hf2, h62', h72, by rw [es]; exact h92⟩
          · obtain ⟨i2, e1, e2, hf2, h62', h72, h92⟩ := hI
            subst e1; subst e2
            have hof : Int32.ofNat 12 = nI 12 := rfl
            rw [b_M_next_254, b_M_next_257, k4, hof]
            simp (disch := first | assumption | omega) only [b_M_next_0, b_M_next_16, b_M_next_29, b_M_next_34, b_M_next_83, b_M_next_86, b_M_next_97, b_M_next_100, b_M_next_121, b_M_next_135, b_M_next_138, b_M_next_154, b_M_next_157, b_M_next_189, b_M_next_196, b_M_next_230, b_M_next_257, b_M_next_260, b_M_next_271, b_M_next_274, b_M_next_277, b_M_next_288, b_M_next_294, s_M_isDigit, s_M_isSmall, s_M_keyAt, s_M_see, ↓Bool.cond_decide, ↓q_in, q_le, q_lt, q_eq, q_leT, q_leF, q_ltT, q_ltF, q_eqT, q_eqF, ↓reduceIte, not_true_eq_false, not_false_eq_true, true_and, and_true, and_self, false_and, and_false, Nat.zero_le, am_bd_some, q_app, q_app0, nI_add, pk_sub, pk_mul, q_dec, q_ix, q_m1, q_m1', ↓q_ret, q_bool, q_bool1, q_u1, q_shl1, q_shr, q_and7, q_dg, fa_or, fa_and, decide_true, decide_false, Bool.or_false, Bool.or_true, Bool.true_or, Bool.false_or, cond_true, cond_false, ite_not, q_some, q_nn, q_xor, q_xorm, Bool.false_eq_true, decide_eq_true_eq, ne_eq, l_0, l_1, l_3, l_5, l_6, l_7, l_8, l_9, l_10, l_14, l_16, l_19, l_23, l_24, l_25, l_29, l_30, l_32, l_33, l_34, l_48, l_83, l_86, l_89, l_97, l_100, l_121, l_135, l_138, l_146, l_154, l_157, l_189, l_196, l_230, l_254, l_257, l_260, l_271, l_274, l_277, l_288, l_294, l_1000003]
            refine MR_some (hQ _ _ ⟨rfl, by (repeat (first | exact Fx_refl _ _ | assumption | refine Fx_u2 rfl ?_ | refine Fx_u1 rfl (by decide) ?_ | refine Fx_step (by assumption) rfl ?_ | refine Fx_stepr (by assumption) rfl rfl ?_)), h62', by rw [hte]; exact h72, by rw [hkn]; exact h92, fun z => ?_⟩)
            exfalso
            rw [hkn] at z
            have hge : ∀ k, sgK (B X) k = 25 ∨ 30 ≤ sgK (B X) k := by
              intro k
              induction k with
              | zero => exact Or.inl rfl
              | succ k ih => rw [sgK]; split <;> omega
            have := hge 12
            omega
    · have hsv : seeV B N X = -nI 1 := if_neg hXN
      have hX : X = N := by omega
      have hte : te B N X = X := by unfold te; rw [if_pos (by omega)]
      have hkn : knd B N X = 24 := by unfold knd; rw [if_pos (by omega)]
      have hm32 : (-nI 1 = nI 32) = False := eq_false (by decide)
      rw [hsv]
      simp (disch := first | assumption | omega) only [b_M_next_0, b_M_next_16, b_M_next_29, b_M_next_34, b_M_next_83, b_M_next_86, b_M_next_97, b_M_next_100, b_M_next_121, b_M_next_135, b_M_next_138, b_M_next_154, b_M_next_157, b_M_next_189, b_M_next_196, b_M_next_230, b_M_next_257, b_M_next_260, b_M_next_271, b_M_next_274, b_M_next_277, b_M_next_288, b_M_next_294, s_M_isDigit, s_M_isSmall, s_M_keyAt, s_M_see, ↓Bool.cond_decide, ↓q_in, q_le, q_lt, q_eq, q_leT, q_leF, q_ltT, q_ltF, q_eqT, q_eqF, ↓reduceIte, not_true_eq_false, not_false_eq_true, true_and, and_true, and_self, false_and, and_false, Nat.zero_le, am_bd_some, q_app, q_app0, nI_add, pk_sub, pk_mul, q_dec, q_ix, q_m1, q_m1', ↓q_ret, q_bool, q_bool1, q_u1, q_shl1, q_shr, q_and7, q_dg, fa_or, fa_and, decide_true, decide_false, Bool.or_false, Bool.or_true, Bool.true_or, Bool.false_or, cond_true, cond_false, ite_not, q_some, q_nn, q_xor, q_xorm, Bool.false_eq_true, decide_eq_true_eq, ne_eq, l_0, l_1, l_3, l_5, l_6, l_7, l_8, l_9, l_10, l_14, l_16, l_19, l_23, l_24, l_25, l_29, l_30, l_32, l_33, l_34, l_48, l_83, l_86, l_89, l_97, l_100, l_121, l_135, l_138, l_146, l_154, l_157, l_189, l_196, l_230, l_254, l_257, l_260, l_271, l_274, l_277, l_288, l_294, l_1000003, hm32, h61, h81]
      exact MR_some (hQ _ _ ⟨rfl, by (repeat (first | exact Fx_refl _ _ | assumption | refine Fx_u2 rfl ?_ | refine Fx_u1 rfl (by decide) ?_ | refine Fx_step (by assumption) rfl ?_ | refine Fx_stepr (by assumption) rfl rfl ?_)), h61, by rw [hte]; rfl, by rw [hkn]; rfl, fun z => by rw [hkn] at z; cases z⟩)
  refine am_find (d := d + 1) (y := mM_next) (pc := 8) (fun x ls st => ∃ i' z1, ls = [.val (.ref 0), z1] ∧ st = (i', l, rM, kM) ∧ Fx [106] i i' ∧ i' 0 6 = nI x) _ (fun o r => o = some X → MR none Q r) (N + 1 - b0) b0 (fun x ls st hx1 hx2 hI => ?_) (fun ls st hI => fun z => by cases z) _ _ ⟨_, _, rfl, rfl, by (repeat (first | exact Fx_refl _ _ | assumption | refine Fx_u2 rfl ?_ | refine Fx_u1 rfl (by decide) ?_ | refine Fx_step (by assumption) rfl ?_ | refine Fx_stepr (by assumption) rfl rfl ?_)), rfl⟩ hXff
  obtain ⟨i1, z1, e1, e2, hf1, h61⟩ := hI
  subst e1; subst e2
  have hT1 : TP i1 B N := TP_fx hf1 hT rfl rfl
  have hbx := hB x
  refine ⟨fun hf => fun hxX => ?_, fun hf => ?_⟩
  · have hxX := Option.some.inj hxX
    subst hxX
    have hm := main i1 hf1 h61 z1
    have h10 : (seeV B N x = nI 10) = False := eq_false (fun z => by
      unfold seeV at z
      by_cases hxN : x < N
      · rw [if_pos hxN, nI_eq (by omega) (by omega)] at z
        have := of_decide_eq_false (a4 hxN)
        exact this (Or.inl z)
      · rw [if_neg hxN] at z; exact absurd z (by decide))
    rw [b_M_next_8]
    simp (disch := first | assumption | omega) only [b_M_next_0, b_M_next_16, b_M_next_34, b_M_next_83, b_M_next_86, b_M_next_97, b_M_next_100, b_M_next_121, b_M_next_135, b_M_next_138, b_M_next_154, b_M_next_157, b_M_next_189, b_M_next_196, b_M_next_230, b_M_next_257, b_M_next_260, b_M_next_271, b_M_next_274, b_M_next_277, b_M_next_288, b_M_next_294, s_M_isDigit, s_M_isSmall, s_M_keyAt, s_M_see, ↓Bool.cond_decide, ↓q_in, q_le, q_lt, q_eq, q_leT, q_leF, q_ltT, q_ltF, q_eqT, q_eqF, ↓reduceIte, not_true_eq_false, not_false_eq_true, true_and, and_true, and_self, false_and, and_false, Nat.zero_le, am_bd_some, q_app, q_app0, nI_add, pk_sub, pk_mul, q_dec, q_ix, q_m1, q_m1', ↓q_ret, q_bool, q_bool1, q_u2, q_u1, q_shl1, q_shr, q_and7, q_dg, fa_or, fa_and, decide_true, decide_false, Bool.or_false, Bool.or_true, Bool.true_or, Bool.false_or, cond_true, cond_false, ite_not, q_some, q_nn, q_xor, q_xorm, Bool.false_eq_true, decide_eq_true_eq, ne_eq, l_0, l_1, l_3, l_5, l_6, l_7, l_8, l_9, l_10, l_14, l_16, l_19, l_23, l_24, l_25, l_29, l_30, l_32, l_33, l_34, l_48, l_83, l_86, l_89, l_97, l_100, l_121, l_135, l_138, l_146, l_154, l_157, l_189, l_196, l_230, l_254, l_257, l_260, l_271, l_274, l_277, l_288, l_294, l_1000003, h61, h10]
    exact hm
  · rw [Bool.not_eq_false', Bool.and_eq_true] at hf
    have hxN := of_decide_eq_true hf.1
    have hbl := of_decide_eq_true hf.2
    have hsv : seeV B N x = nI (B x) := if_pos hxN
    rw [b_M_next_8]
    by_cases c1 : B x = 10
    · simp (disch := first | assumption | omega) only [b_M_next_0, b_M_next_16, b_M_next_29, b_M_next_34, b_M_next_83, b_M_next_86, b_M_next_97, b_M_next_100, b_M_next_121, b_M_next_135, b_M_next_138, b_M_next_154, b_M_next_157, b_M_next_189, b_M_next_196, b_M_next_230, b_M_next_257, b_M_next_260, b_M_next_271, b_M_next_274, b_M_next_277, b_M_next_288, b_M_next_294, s_M_isDigit, s_M_isSmall, s_M_keyAt, s_M_see, ↓Bool.cond_decide, ↓q_in, q_le, q_lt, q_eq, q_leT, q_leF, q_ltT, q_ltF, q_eqT, q_eqF, ↓reduceIte, not_true_eq_false, not_false_eq_true, true_and, and_true, and_self, false_and, and_false, Nat.zero_le, am_bd_some, q_app, q_app0, nI_add, pk_sub, pk_mul, q_dec, q_ix, q_m1, q_m1', ↓q_ret, q_bool, q_bool1, q_u1, q_shl1, q_shr, q_and7, q_dg, fa_or, fa_and, decide_true, decide_false, Bool.or_false, Bool.or_true, Bool.true_or, Bool.false_or, cond_true, cond_false, ite_not, q_some, q_nn, q_xor, q_xorm, Bool.false_eq_true, decide_eq_true_eq, ne_eq, l_0, l_1, l_3, l_5, l_6, l_7, l_8, l_9, l_10, l_14, l_16, l_19, l_23, l_24, l_25, l_29, l_30, l_32, l_33, l_34, l_48, l_83, l_86, l_89, l_97, l_100, l_121, l_135, l_138, l_146, l_154, l_157, l_189, l_196, l_230, l_254, l_257, l_260, l_271, l_274, l_277, l_288, l_294, l_1000003, h61, hsv, c1]
      exact Go_in ⟨_, _, rfl, rfl, by (repeat (first | exact Fx_refl _ _ | assumption | refine Fx_u2 rfl ?_ | refine Fx_u1 rfl (by decide) ?_ | refine Fx_step (by assumption) rfl ?_ | refine Fx_stepr (by assumption) rfl rfl ?_)), rfl⟩
    · have c2 : B x = 32 := by omega
      simp (disch := first | assumption | omega) only [b_M_next_0, b_M_next_16, b_M_next_29, b_M_next_34, b_M_next_83, b_M_next_86, b_M_next_97, b_M_next_100, b_M_next_121, b_M_next_135, b_M_next_138, b_M_next_154, b_M_next_157, b_M_next_189, b_M_next_196, b_M_next_230, b_M_next_257, b_M_next_260, b_M_next_271, b_M_next_274, b_M_next_277, b_M_next_288, b_M_next_294, s_M_isDigit, s_M_isSmall, s_M_keyAt, s_M_see, ↓Bool.cond_decide, ↓q_in, q_le, q_lt, q_eq, q_leT, q_leF, q_ltT, q_ltF, q_eqT, q_eqF, ↓reduceIte, not_true_eq_false, not_false_eq_true, true_and, and_true, and_self, false_and, and_false, Nat.zero_le, am_bd_some, q_app, q_app0, nI_add, pk_sub, pk_mul, q_dec, q_ix, q_m1, q_m1', ↓q_ret, q_bool, q_bool1, q_u1, q_shl1, q_shr, q_and7, q_dg, fa_or, fa_and, decide_true, decide_false, Bool.or_false, Bool.or_true, Bool.true_or, Bool.false_or, cond_true, cond_false, ite_not, q_some, q_nn, q_xor, q_xorm, Bool.false_eq_true, decide_eq_true_eq, ne_eq, l_0, l_1, l_3, l_5, l_6, l_7, l_8, l_9, l_10, l_14, l_16, l_19, l_23, l_24, l_25, l_29, l_30, l_32, l_33, l_34, l_48, l_83, l_86, l_89, l_97, l_100, l_121, l_135, l_138, l_146, l_154, l_157, l_189, l_196, l_230, l_254, l_257, l_260, l_271, l_274, l_277, l_288, l_294, l_1000003, h61, hsv, c2]
      exact Go_in ⟨_, _, rfl, rfl, by (repeat (first | exact Fx_refl _ _ | assumption | refine Fx_u2 rfl ?_ | refine Fx_u1 rfl (by decide) ?_ | refine Fx_step (by assumption) rfl ?_ | refine Fx_stepr (by assumption) rfl rfl ?_)), rfl⟩
end
