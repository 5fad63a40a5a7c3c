/-! THE CLASS: laws -/
def tc (c : Nat) : Int32 := if c < 1000 then nI c else if c < 3000 then -nI 1 - nI (c - 1000) else if c = 3000 then nI 1043 else if c = 3001 then nI 1045 else if c = 3002 then nI 1042 else if c = 3003 then nI 1061 else if c = 3004 then nI 1060 else if c = 3005 then nI 1062 else if c = 3006 then nI 1147 else if c = 3007 then nI 1146 else nI 1145
def clx (y : Int64) : Int32 := Int64.toInt32 (if (if y < 1000000 then y else 1000000) < (-1000000) then (-1000000) else (if y < 1000000 then y else 1000000))
theorem clx_c (y : Int64) : clx y = clamp y := by
  unfold clx clamp
  have h1 : (1000000 : Int64).toInt = 1000000 := rfl
  have h2 : (-1000000 : Int64).toInt = -1000000 := rfl
  by_cases c1 : 1000000 < y
  · rw [if_pos c1]
    have n1 : ¬ y < 1000000 := fun z => by rw [fa_lt64] at c1 z; omega
    rw [if_neg n1]; rfl
  · rw [if_neg c1]
    by_cases c3 : y < 1000000
    · rw [if_pos c3]
    · rw [if_neg c3]
      have e : y = 1000000 := by rw [fa_eq64]; rw [fa_lt64] at c1 c3; omega
      rw [e]
theorem cl1 : clamp 1 = nI 1 := by decide
theorem cl0 : clamp 0 = nI 0 := by decide
section
variable {i : Nat → Nat → Int32} {l : Nat → Nat → Int64} {q : Nat → Nat → Option Nat} {K : List (Nat × Nat)} {r : Nat}
theorem s_Law_tell (d : Nat) {w : Nat} (hw : w < 10) (v : Int32) : am_cl (d + 1) mLaw_tell [.ref 12, .int (nI (128 + w)), .int v] (i, l, rX q, kX K) = some (none, (am_u2 i 14 w v, l, rX q, kX K)) := by
  rw [c_Law_tell, b_Law_tell_0]
  simp (disch := first | assumption | omega) only [b_Law_tell_0, b_Law_tell_31, ↓Bool.cond_decide, ↓q_in, q_le, q_lt, q_eq, q_leT, q_leF, q_ltT, q_ltF, q_eqT, q_eqF, ↓reduceIte, not_true_eq_false, not_false_eq_true, true_and, and_true, and_self, false_and, and_false, Nat.zero_le, am_bd_some, q_app, q_app0, nI_add, pk_sub, pk_mul, q_dec, q_ix, q_m1, q_m1', ↓q_ret, q_bool, q_bool1, q_u1, q_shl1, q_shr, q_and7, q_dg, fa_or, fa_and, decide_true, decide_false, Bool.or_false, Bool.or_true, Bool.true_or, Bool.false_or, cond_true, cond_false, ite_not, q_some, q_nn, q_xor, q_xorm, Bool.false_eq_true, decide_eq_true_eq, ne_eq, l_0, l_1, l_3, l_10, l_12, l_14, l_20, l_31, l_128, Nat.add_sub_cancel_left]
theorem x_313 (d : Nat) {t : Nat} (ht : t + 1 < 64) (k : Nat) (y : Int64) (z4 z6 z7 z8 : Slot) : am_Ex d mLaw_isTrue 313 [.val (.ref 12), .val (.ref r), .val (.int (nI (t + 1))), .val (.int (nI k)), z4, .val (.long y), z6, z7, z8] [] (i, l, rX q, kX K) = am_Ex d mLaw_isTrue 336 [.val (.ref 12), .val (.ref r), .val (.int (nI (t + 1))), .val (.int (nI k)), z4, .val (.long y), z6, z7, z8] [] (am_u2 i 13 t (clamp y), l, rX q, kX K) := by
  rw [b_Law_isTrue_313, show nI (t + 1) - (1 : Int32) = nI t from x_dec t, nI_clamp (by omega)]
  have h0 : (0 : Int32) ≤ nI t := by
    rw [fa_le, nI_toInt (by omega)]
    show (0 : Int) ≤ _
    omega
  have hin : am_in (nI t) 64 = true := by
    unfold am_in
    rw [nI_clamp (by omega), decide_eq_true h0, decide_eq_true (by omega)]; rfl
  rw [hin, cond_true]
  have := clx_c y
  unfold clx at this
  rw [this]
theorem x_118 (d : Nat) {t c : Nat} (ht : t + 1 < 64) (hc : (3000 ≤ c ∧ c ≤ 3005) ∨ (3007 ≤ c ∧ c ≤ 3008)) (hb : 3007 ≤ c → (i 13 t = nI 0 ∨ i 13 t = nI 1) ∧ (i 13 (t + 1) = nI 0 ∨ i 13 (t + 1) = nI 1)) (k : Nat) (z5 z6 z7 z8 : Slot) : ∃ z4' z5' z6' z7' z8', am_Ex d mLaw_isTrue 118 [.val (.ref 12), .val (.ref r), .val (.int (nI (t + 1))), .val (.int (nI k)), .val (.int (tc c)), z5, z6, z7, z8] [] (i, l, rX q, kX K) = am_Ex d mLaw_isTrue 336 [.val (.ref 12), .val (.ref r), .val (.int (nI (t + 1))), .val (.int (nI k)), z4', z5', z6', z7', z8'] [] (am_u2 i 13 t (bt c (i 13 t) (i 13 (t + 1))), l, rX q, kX K) := by
  rw [b_Law_isTrue_118]
  rcases (show c = 3000 ∨ c = 3001 ∨ c = 3002 ∨ c = 3003 ∨ c = 3004 ∨ c = 3005 ∨ c = 3007 ∨ c = 3008 by omega) with rfl | rfl | rfl | rfl | rfl | rfl | rfl | rfl
  · have e : tc 3000 = nI 1043 := rfl
    rw [e]
    simp (disch := first | assumption | omega) only [b_Law_isTrue_0, b_Law_isTrue_41, b_Law_isTrue_67, b_Law_isTrue_68, b_Law_isTrue_118, b_Law_isTrue_255, b_Law_isTrue_273, b_Law_isTrue_291, b_Law_isTrue_359, b_Law_isTrue_360, ↓Bool.cond_decide, ↓q_in, q_le, q_lt, q_eq, q_leT, q_leF, q_ltT, q_ltF, q_eqT, q_eqF, ↓reduceIte, not_true_eq_false, not_false_eq_true, true_and, and_true, and_self, false_and, and_false, Nat.zero_le, am_bd_some, q_app, q_app0, nI_add, pk_sub, pk_mul, q_dec, q_ix, q_m1, q_m1', ↓q_ret, q_bool, q_bool1, q_u1, q_shl1, q_shr, q_and7, q_dg, fa_or, fa_and, decide_true, decide_false, Bool.or_false, Bool.or_true, Bool.true_or, Bool.false_or, cond_true, cond_false, ite_not, q_some, q_nn, q_xor, q_xorm, Bool.false_eq_true, decide_eq_true_eq, ne_eq, l_0, l_1, l_2, l_3, l_4, l_5, l_6, l_7, l_10, l_12, l_13, l_14, l_15, l_18, l_41, l_42, l_43, l_45, l_60, l_61, l_62, l_64, l_67, l_68, l_76, l_100, l_105, l_118, l_146, l_255, l_273, l_291, l_313, l_336, l_359, l_360, l_1000, l_1147, l_1000000, x_313, x_dec]
    exact ⟨_, _, _, _, _, rfl⟩
  · have e : tc 3001 = nI 1045 := rfl
    rw [e]
    simp (disch := first | assumption | omega) only [b_Law_isTrue_0, b_Law_isTrue_41, b_Law_isTrue_67, b_Law_isTrue_68, b_Law_isTrue_118, b_Law_isTrue_255, b_Law_isTrue_273, b_Law_isTrue_291, b_Law_isTrue_359, b_Law_isTrue_360, ↓Bool.cond_decide, ↓q_in, q_le, q_lt, q_eq, q_leT, q_leF, q_ltT, q_ltF, q_eqT, q_eqF, ↓reduceIte, not_true_eq_false, not_false_eq_true, true_and, and_true, and_self, false_and, and_false, Nat.zero_le, am_bd_some, q_app, q_app0, nI_add, pk_sub, pk_mul, q_dec, q_ix, q_m1, q_m1', ↓q_ret, q_bool, q_bool1, q_u1, q_shl1, q_shr, q_and7, q_dg, fa_or, fa_and, decide_true, decide_false, Bool.or_false, Bool.or_true, Bool.true_or, Bool.false_or, cond_true, cond_false, ite_not, q_some, q_nn, q_xor, q_xorm, Bool.false_eq_true, decide_eq_true_eq, ne_eq, l_0, l_1, l_2, l_3, l_4, l_5, l_6, l_7, l_10, l_12, l_13, l_14, l_15, l_18, l_41, l_42, l_43, l_45, l_60, l_61, l_62, l_64, l_67, l_68, l_76, l_100, l_105, l_118, l_146, l_255, l_273, l_291, l_313, l_336, l_359, l_360, l_1000, l_1147, l_1000000, x_313, x_dec]
    exact ⟨_, _, _, _, _, rfl⟩
  · have e : tc 3002 = nI 1042 := rfl
    rw [e]
    simp (disch := first | assumption | omega) only [b_Law_isTrue_0, b_Law_isTrue_41, b_Law_isTrue_67, b_Law_isTrue_68, b_Law_isTrue_118, b_Law_isTrue_255, b_Law_isTrue_273, b_Law_isTrue_291, b_Law_isTrue_359, b_Law_isTrue_360, ↓Bool.cond_decide, ↓q_in, q_le, q_lt, q_eq, q_leT, q_leF, q_ltT, q_ltF, q_eqT, q_eqF, ↓reduceIte, not_true_eq_false, not_false_eq_true, true_and, and_true, and_self, false_and, and_false, Nat.zero_le, am_bd_some, q_app, q_app0, nI_add, pk_sub, pk_mul, q_dec, q_ix, q_m1, q_m1', ↓q_ret, q_bool, q_bool1, q_u1, q_shl1, q_shr, q_and7, q_dg, fa_or, fa_and, decide_true, decide_false, Bool.or_false, Bool.or_true, Bool.true_or, Bool.false_or, cond_true, cond_false, ite_not, q_some, q_nn, q_xor, q_xorm, Bool.false_eq_true, decide_eq_true_eq, ne_eq, l_0, l_1, l_2, l_3, l_4, l_5, l_6, l_7, l_10, l_12, l_13, l_14, l_15, l_18, l_41, l_42, l_43, l_45, l_60, l_61, l_62, l_64, l_67, l_68, l_76, l_100, l_105, l_118, l_146, l_255, l_273, l_291, l_313, l_336, l_359, l_360, l_1000, l_1147, l_1000000, x_313, x_dec]
    exact ⟨_, _, _, _, _, rfl⟩
  · have e : tc 3003 = nI 1061 := rfl
    rw [e]
    have eb : bt 3003 (i 13 t) (i 13 (t + 1)) = if i 13 t = i 13 (t + 1) then nI 1 else nI 0 := rfl
    rw [eb]
    by_cases h : i 13 t = i 13 (t + 1)
    · simp (disch := first | assumption | omega) only [b_Law_isTrue_0, b_Law_isTrue_41, b_Law_isTrue_67, b_Law_isTrue_68, b_Law_isTrue_118, b_Law_isTrue_255, b_Law_isTrue_273, b_Law_isTrue_291, b_Law_isTrue_359, b_Law_isTrue_360, ↓Bool.cond_decide, ↓q_in, q_le, q_lt, q_eq, q_leT, q_leF, q_ltT, q_ltF, q_eqT, q_eqF, ↓reduceIte, not_true_eq_false, not_false_eq_true, true_and, and_true, and_self, false_and, and_false, Nat.zero_le, am_bd_some, q_app, q_app0, nI_add, pk_sub, pk_mul, q_dec, q_ix, q_m1, q_m1', ↓q_ret, q_bool, q_bool1, q_u1, q_shl1, q_shr, q_and7, q_dg, fa_or, fa_and, decide_true, decide_false, Bool.or_false, Bool.or_true, Bool.true_or, Bool.false_or, cond_true, cond_false, ite_not, q_some, q_nn, q_xor, q_xorm, Bool.false_eq_true, decide_eq_true_eq, ne_eq, l_0, l_1, l_2, l_3, l_4, l_5, l_6, l_7, l_10, l_12, l_13, l_14, l_15, l_18, l_41, l_42, l_43, l_45, l_60, l_61, l_62, l_64, l_67, l_68, l_76, l_100, l_105, l_118, l_146, l_255, l_273, l_291, l_313, l_336, l_359, l_360, l_1000, l_1147, l_1000000, x_313, x_dec, q_ceq, fa_wide_eq, Nat.add_sub_cancel, h, cl1, cl0]
      exact ⟨_, _, _, _, _, rfl⟩
    · simp (disch := first | assumption | omega) only [b_Law_isTrue_0, b_Law_isTrue_41, b_Law_isTrue_67, b_Law_isTrue_68, b_Law_isTrue_118, b_Law_isTrue_255, b_Law_isTrue_273, b_Law_isTrue_291, b_Law_isTrue_359, b_Law_isTrue_360, ↓Bool.cond_decide, ↓q_in, q_le, q_lt, q_eq, q_leT, q_leF, q_ltT, q_ltF, q_eqT, q_eqF, ↓reduceIte, not_true_eq_false, not_false_eq_true, true_and, and_true, and_self, false_and, and_false, Nat.zero_le, am_bd_some, q_app, q_app0, nI_add, pk_sub, pk_mul, q_dec, q_ix, q_m1, q_m1', ↓q_ret, q_bool, q_bool1, q_u1, q_shl1, q_shr, q_and7, q_dg, fa_or, fa_and, decide_true, decide_false, Bool.or_false, Bool.or_true, Bool.true_or, Bool.false_or, cond_true, cond_false, ite_not, q_some, q_nn, q_xor, q_xorm, Bool.false_eq_true, decide_eq_true_eq, ne_eq, l_0, l_1, l_2, l_3, l_4, l_5, l_6, l_7, l_10, l_12, l_13, l_14, l_15, l_18, l_41, l_42, l_43, l_45, l_60, l_61, l_62, l_64, l_67, l_68, l_76, l_100, l_105, l_118, l_146, l_255, l_273, l_291, l_313, l_336, l_359, l_360, l_1000, l_1147, l_1000000, x_313, x_dec, q_ceq, fa_wide_eq, Nat.add_sub_cancel, h, cl1, cl0]
      exact ⟨_, _, _, _, _, rfl⟩
  · have e : tc 3004 = nI 1060 := rfl
    rw [e]
    have eb : bt 3004 (i 13 t) (i 13 (t + 1)) = if i 13 t < i 13 (t + 1) then nI 1 else nI 0 := rfl
    rw [eb]
    by_cases h : i 13 t < i 13 (t + 1)
    · simp (disch := first | assumption | omega) only [b_Law_isTrue_0, b_Law_isTrue_41, b_Law_isTrue_67, b_Law_isTrue_68, b_Law_isTrue_118, b_Law_isTrue_255, b_Law_isTrue_273, b_Law_isTrue_291, b_Law_isTrue_359, b_Law_isTrue_360, ↓Bool.cond_decide, ↓q_in, q_le, q_lt, q_eq, q_leT, q_leF, q_ltT, q_ltF, q_eqT, q_eqF, ↓reduceIte, not_true_eq_false, not_false_eq_true, true_and, and_true, and_self, false_and, and_false, Nat.zero_le, am_bd_some, q_app, q_app0, nI_add, pk_sub, pk_mul, q_dec, q_ix, q_m1, q_m1', ↓q_ret, q_bool, q_bool1, q_u1, q_shl1, q_shr, q_and7, q_dg, fa_or, fa_and, decide_true, decide_false, Bool.or_false, Bool.or_true, Bool.true_or, Bool.false_or, cond_true, cond_false, ite_not, q_some, q_nn, q_xor, q_xorm, Bool.false_eq_true, decide_eq_true_eq, ne_eq, l_0, l_1, l_2, l_3, l_4, l_5, l_6, l_7, l_10, l_12, l_13, l_14, l_15, l_18, l_41, l_42, l_43, l_45, l_60, l_61, l_62, l_64, l_67, l_68, l_76, l_100, l_105, l_118, l_146, l_255, l_273, l_291, l_313, l_336, l_359, l_360, l_1000, l_1147, l_1000000, x_313, x_dec, q_cge, fa_wide_lt, Nat.add_sub_cancel, h, cl1, cl0]
      exact ⟨_, _, _, _, _, rfl⟩
    · simp (disch := first | assumption | omega) only [b_Law_isTrue_0, b_Law_isTrue_41, b_Law_isTrue_67, b_Law_isTrue_68, b_Law_isTrue_118, b_Law_isTrue_255, b_Law_isTrue_273, b_Law_isTrue_291, b_Law_isTrue_359, b_Law_isTrue_360, ↓Bool.cond_decide, ↓q_in, q_le, q_lt, q_eq, q_leT, q_leF, q_ltT, q_ltF, q_eqT, q_eqF, ↓reduceIte, not_true_eq_false, not_false_eq_true, true_and, and_true, and_self, false_and, and_false, Nat.zero_le, am_bd_some, q_app, q_app0, nI_add, pk_sub, pk_mul, q_dec, q_ix, q_m1, q_m1', ↓q_ret, q_bool, q_bool1, q_u1, q_shl1, q_shr, q_and7, q_dg, fa_or, fa_and, decide_true, decide_false, Bool.or_false, Bool.or_true, Bool.true_or, Bool.false_or, cond_true, cond_false, ite_not, q_some, q_nn, q_xor, q_xorm, Bool.false_eq_true, decide_eq_true_eq, ne_eq, l_0, l_1, l_2, l_3, l_4, l_5, l_6, l_7, l_10, l_12, l_13, l_14, l_15, l_18, l_41, l_42, l_43, l_45, l_60, l_61, l_62, l_64, l_67, l_68, l_76, l_100, l_105, l_118, l_146, l_255, l_273, l_291, l_313, l_336, l_359, l_360, l_1000, l_1147, l_1000000, x_313, x_dec, q_cge, fa_wide_lt, Nat.add_sub_cancel, h, cl1, cl0]
      exact ⟨_, _, _, _, _, rfl⟩
  · have e : tc 3005 = nI 1062 := rfl
    rw [e]
    have eb : bt 3005 (i 13 t) (i 13 (t + 1)) = if i 13 (t + 1) < i 13 t then nI 1 else nI 0 := rfl
    rw [eb]
    by_cases h : i 13 (t + 1) < i 13 t
    · simp (disch := first | assumption | omega) only [b_Law_isTrue_0, b_Law_isTrue_41, b_Law_isTrue_67, b_Law_isTrue_68, b_Law_isTrue_118, b_Law_isTrue_255, b_Law_isTrue_273, b_Law_isTrue_291, b_Law_isTrue_359, b_Law_isTrue_360, ↓Bool.cond_decide, ↓q_in, q_le, q_lt, q_eq, q_leT, q_leF, q_ltT, q_ltF, q_eqT, q_eqF, ↓reduceIte, not_true_eq_false, not_false_eq_true, true_and, and_true, and_self, false_and, and_false, Nat.zero_le, am_bd_some, q_app, q_app0, nI_add, pk_sub, pk_mul, q_dec, q_ix, q_m1, q_m1', ↓q_ret, q_bool, q_bool1, q_u1, q_shl1, q_shr, q_and7, q_dg, fa_or, fa_and, decide_true, decide_false, Bool.or_false, Bool.or_true, Bool.true_or, Bool.false_or, cond_true, cond_false, ite_not, q_some, q_nn, q_xor, q_xorm, Bool.false_eq_true, decide_eq_true_eq, ne_eq, l_0, l_1, l_2, l_3, l_4, l_5, l_6, l_7, l_10, l_12, l_13, l_14, l_15, l_18, l_41, l_42, l_43, l_45, l_60, l_61, l_62, l_64, l_67, l_68, l_76, l_100, l_105, l_118, l_146, l_255, l_273, l_291, l_313, l_336, l_359, l_360, l_1000, l_1147, l_1000000, x_313, x_dec, q_cle, fa_wide_lt, Nat.add_sub_cancel, h, cl1, cl0]
      exact ⟨_, _, _, _, _, rfl⟩
    · simp (disch := first | assumption | omega) only [b_Law_isTrue_0, b_Law_isTrue_41, b_Law_isTrue_67, b_Law_isTrue_68, b_Law_isTrue_118, b_Law_isTrue_255, b_Law_isTrue_273, b_Law_isTrue_291, b_Law_isTrue_359, b_Law_isTrue_360, ↓Bool.cond_decide, ↓q_in, q_le, q_lt, q_eq, q_leT, q_leF, q_ltT, q_ltF, q_eqT, q_eqF, ↓reduceIte, not_true_eq_false, not_false_eq_true, true_and, and_true, and_self, false_and, and_false, Nat.zero_le, am_bd_some, q_app, q_app0, nI_add, pk_sub, pk_mul, q_dec, q_ix, q_m1, q_m1', ↓q_ret, q_bool, q_bool1, q_u1, q_shl1, q_shr, q_and7, q_dg, fa_or, fa_and, decide_true, decide_false, Bool.or_false, Bool.or_true, Bool.true_or, Bool.false_or, cond_true, cond_false, ite_not, q_some, q_nn, q_xor, q_xorm, Bool.false_eq_true, decide_eq_true_eq, ne_eq, l_0, l_1, l_2, l_3, l_4, l_5, l_6, l_7, l_10, l_12, l_13, l_14, l_15, l_18, l_41, l_42, l_43, l_45, l_60, l_61, l_62, l_64, l_67, l_68, l_76, l_100, l_105, l_118, l_146, l_255, l_273, l_291, l_313, l_336, l_359, l_360, l_1000, l_1147, l_1000000, x_313, x_dec, q_cle, fa_wide_lt, Nat.add_sub_cancel, h, cl1, cl0]
      exact ⟨_, _, _, _, _, rfl⟩
  · have e : tc 3007 = nI 1146 := rfl
    rw [e]
    have eb : bt 3007 (i 13 t) (i 13 (t + 1)) = clamp (Int32.toInt64 (i 13 t) &&& Int32.toInt64 (i 13 (t + 1))) := by
      obtain ⟨ha, hb⟩ := hb (by decide)
      show i 13 t &&& i 13 (t + 1) = _
      rcases ha with ha | ha <;> rcases hb with hb | hb <;> rw [ha, hb] <;> decide
    rw [eb]
    simp (disch := first | assumption | omega) only [b_Law_isTrue_0, b_Law_isTrue_41, b_Law_isTrue_67, b_Law_isTrue_68, b_Law_isTrue_118, b_Law_isTrue_255, b_Law_isTrue_273, b_Law_isTrue_291, b_Law_isTrue_359, b_Law_isTrue_360, ↓Bool.cond_decide, ↓q_in, q_le, q_lt, q_eq, q_leT, q_leF, q_ltT, q_ltF, q_eqT, q_eqF, ↓reduceIte, not_true_eq_false, not_false_eq_true, true_and, and_true, and_self, false_and, and_false, Nat.zero_le, am_bd_some, q_app, q_app0, nI_add, pk_sub, pk_mul, q_dec, q_ix, q_m1, q_m1', ↓q_ret, q_bool, q_bool1, q_u1, q_shl1, q_shr, q_and7, q_dg, fa_or, fa_and, decide_true, decide_false, Bool.or_false, Bool.or_true, Bool.true_or, Bool.false_or, cond_true, cond_false, ite_not, q_some, q_nn, q_xor, q_xorm, Bool.false_eq_true, decide_eq_true_eq, ne_eq, l_0, l_1, l_2, l_3, l_4, l_5, l_6, l_7, l_10, l_12, l_13, l_14, l_15, l_18, l_41, l_42, l_43, l_45, l_60, l_61, l_62, l_64, l_67, l_68, l_76, l_100, l_105, l_118, l_146, l_255, l_273, l_291, l_313, l_336, l_359, l_360, l_1000, l_1147, l_1000000, x_313, x_dec]
    exact ⟨_, _, _, _, _, rfl⟩
  · have e : tc 3008 = nI 1145 := rfl
    rw [e]
    have eb : bt 3008 (i 13 t) (i 13 (t + 1)) = clamp (Int32.toInt64 (i 13 t) ||| Int32.toInt64 (i 13 (t + 1))) := by
      obtain ⟨ha, hb⟩ := hb (by decide)
      show i 13 t ||| i 13 (t + 1) = _
      rcases ha with ha | ha <;> rcases hb with hb | hb <;> rw [ha, hb] <;> decide
    rw [eb]
    simp (disch := first | assumption | omega) only [b_Law_isTrue_0, b_Law_isTrue_41, b_Law_isTrue_67, b_Law_isTrue_68, b_Law_isTrue_118, b_Law_isTrue_255, b_Law_isTrue_273, b_Law_isTrue_291, b_Law_isTrue_359, b_Law_isTrue_360, ↓Bool.cond_decide, ↓q_in, q_le, q_lt, q_eq, q_leT, q_leF, q_ltT, q_ltF, q_eqT, q_eqF, ↓reduceIte, not_true_eq_false, not_false_eq_true, true_and, and_true, and_self, false_and, and_false, Nat.zero_le, am_bd_some, q_app, q_app0, nI_add, pk_sub, pk_mul, q_dec, q_ix, q_m1, q_m1', ↓q_ret, q_bool, q_bool1, q_u1, q_shl1, q_shr, q_and7, q_dg, fa_or, fa_and, decide_true, decide_false, Bool.or_false, Bool.or_true, Bool.true_or, Bool.false_or, cond_true, cond_false, ite_not, q_some, q_nn, q_xor, q_xorm, Bool.false_eq_true, decide_eq_true_eq, ne_eq, l_0, l_1, l_2, l_3, l_4, l_5, l_6, l_7, l_10, l_12, l_13, l_14, l_15, l_18, l_41, l_42, l_43, l_45, l_60, l_61, l_62, l_64, l_67, l_68, l_76, l_100, l_105, l_118, l_146, l_255, l_273, l_291, l_313, l_336, l_359, l_360, l_1000, l_1147, l_1000000, x_313, x_dec]
    exact ⟨_, _, _, _, _, rfl⟩
theorem x_n10 : ∀ a, a < 1000 → ¬ nI 10 ≤ -nI 1 - nI a := by decide +kernel
theorem x_w10 : ∀ w, w < 10 → ¬ nI 1000 ≤ -nI 1 - nI w ∧ -nI 1 - (-nI 1 - nI w) = nI w ∧ -nI 1 - nI w < nI 0 := by decide +kernel
theorem tc_word {c : Nat} (h1 : ¬ c < 1000) (h2 : c < 3000) : tc c = -nI 1 - nI (c - 1000) := by unfold tc; rw [if_neg h1, if_pos h2]
theorem tc_num {c : Nat} (h1 : c < 1000) : tc c = nI c := by unfold tc; rw [if_pos h1]
theorem tc_op {c : Nat} (h1 : 3000 ≤ c) (h2 : c ≤ 3008) : ∃ m, 1042 ≤ m ∧ m < 1200 ∧ tc c = nI m ∧ (m = 1147 ↔ c = 3006) := by
  rcases (show c = 3000 ∨ c = 3001 ∨ c = 3002 ∨ c = 3003 ∨ c = 3004 ∨ c = 3005 ∨ c = 3006 ∨ c = 3007 ∨ c = 3008 by omega) with rfl | rfl | rfl | rfl | rfl | rfl | rfl | rfl | rfl
  · exact ⟨1043, by decide, by decide, rfl, by decide⟩
  · exact ⟨1045, by decide, by decide, rfl, by decide⟩
  · exact ⟨1042, by decide, by decide, rfl, by decide⟩
  · exact ⟨1061, by decide, by decide, rfl, by decide⟩
  · exact ⟨1060, by decide, by decide, rfl, by decide⟩
  · exact ⟨1062, by decide, by decide, rfl, by decide⟩
  · exact ⟨1147, by decide, by decide, rfl, by decide⟩
  · exact ⟨1146, by decide, by decide, rfl, by decide⟩
  · exact ⟨1145, by decide, by decide, rfl, by decide⟩
theorem s_Law_isTrue (d : Nat) {n : Nat} {c : Nat → Nat} {T : Nat → List Bool} (hr : r ≠ 13) (hk : Nat.beq (am_kd (i, l, rX q, kX K) r) 100 = true) (hln : am_ln (i, l, rX q, kX K) r = n) (hn : n ≤ 900) (hc : ∀ k, k < n → i r k = tc (c k)) (h0 : T 0 = []) (hT : ∀ k, k < n → T1 (c k) (T k) (T (k + 1))) (h1 : T n = [true]) : ∃ f, am_cl (d + 1) mLaw_isTrue [.ref 12, .ref r] (i, l, rX q, kX K) = some (some (.int (if evk (i 14) c n = [nI 1] then nI 1 else nI 0)), (am_u1 i 13 f, l, rX q, kX K)) := by
  have hk' : am_kd (i, l, rX q, kX K) r = 100 := Nat.eq_of_beq_eq_true hk
  have k1 : ∀ i', am_kd (i', l, rX q, kX K) r = 100 := fun _ => hk'
  have k2 : ∀ i', am_ln (i', l, rX q, kX K) r = n := fun _ => hln
  have k3 : ∀ i', Int32.ofNat (am_ln (i', l, rX q, kX K) r) = nI n := fun i' => by rw [k2 i']; rfl
  have k4 : ∀ i', (Nat.ble 100 (am_kd (i', l, rX q, kX K) r) && Nat.ble (am_kd (i', l, rX q, kX K) r) 105) = true := fun i' => by rw [k1 i']; rfl
  have k5 : ∀ i' x, (Nat.beq (am_kd (i', l, rX q, kX K) r) 100 && am_in x (am_ln (i', l, rX q, kX K) r)) = am_in x n := fun i' x => by rw [k1 i', k2 i']; rfl
  clear k1 k2
  rw [c_Law_isTrue, b_Law_isTrue_0]
  have loop := am_forR (d := d) (y := mLaw_isTrue) (pc := 4) (fun k ls s => ∃ f z4 z5 z6 z7 z8, ls = [.val (.ref 12), .val (.ref r), .val (.int (nI (evk (i 14) c k).length)), .val (.int (nI k)), z4, z5, z6, z7, z8] ∧ s = (am_u1 i 13 f, l, rX q, kX K) ∧ Mt f (evk (i 14) c k)) n (fun k ls s hk2 hI => by
    obtain ⟨f, z4, z5, z6, z7, z8, e1, e2, hM⟩ := hI
    subst e1; subst e2
    have ho := okT_k (w := i 14) h0 hT k (by omega)
    have hl1 := T_len h0 hT k (by omega)
    have hle := okT_len ho
    have hck := hc k hk2
    have hrow : am_u1 i 13 f r k = tc (c k) := by unfold am_u1; rw [if_neg hr]; exact hck
    rw [b_Law_isTrue_4]
    rcases hT k hk2 with ⟨h1, h2, h3⟩ | ⟨h1, ts, h2, h3⟩ | ⟨h1, h2, ts, h3, h4⟩ | ⟨h1, h2, ts, h3, h4⟩ | ⟨h1, h2, ts, h3, h4⟩
    · by_cases hcc : c k < 1000
      · have e : evk (i 14) c (k + 1) = nI (c k) :: evk (i 14) c k := by rw [evk, ev1_num hcc]
        rw [tc_num hcc] at hck
        have c10 := x_n10 (c k) hcc
        simp (disch := first | assumption | omega) only [b_Law_isTrue_0, b_Law_isTrue_41, b_Law_isTrue_67, b_Law_isTrue_68, b_Law_isTrue_255, b_Law_isTrue_273, b_Law_isTrue_291, b_Law_isTrue_313, b_Law_isTrue_336, b_Law_isTrue_359, b_Law_isTrue_360, ↓Bool.cond_decide, ↓q_in, q_le, q_lt, q_eq, q_leT, q_leF, q_ltT, q_ltF, q_eqT, q_eqF, ↓reduceIte, not_true_eq_false, not_false_eq_true, true_and, and_true, and_self, false_and, and_false, Nat.zero_le, am_bd_some, q_app, q_app0, nI_add, pk_sub, pk_mul, q_dec, q_ix, q_m1, q_m1', ↓q_ret, q_bool, q_bool1, q_u2, q_u1, q_shl1, q_shr, q_and7, q_dg, fa_or, fa_and, decide_true, decide_false, Bool.or_false, Bool.or_true, Bool.true_or, Bool.false_or, cond_true, cond_false, ite_not, q_some, q_nn, q_xor, q_xorm, Bool.false_eq_true, decide_eq_true_eq, ne_eq, l_0, l_1, l_2, l_3, l_4, l_5, l_6, l_7, l_10, l_12, l_13, l_14, l_15, l_18, l_41, l_42, l_43, l_45, l_60, l_61, l_62, l_64, l_67, l_68, l_76, l_100, l_105, l_118, l_146, l_255, l_273, l_291, l_313, l_336, l_359, l_360, l_1000, l_1147, l_1000000, k3, k4, k5, cond_true, hck, c10, q_u21]
        exact ⟨_, _, rfl, _, _, _, _, _, _, by rw [e]; rfl, rfl, by rw [e]; exact ⟨if_pos rfl, Mt_upd (Nat.le_refl _) hM⟩⟩
      · have e : evk (i 14) c (k + 1) = i 14 (c k - 1000) :: evk (i 14) c k := by rw [evk, ev1_word hcc (by omega)]
        rw [tc_word hcc (by omega)] at hck
        obtain ⟨w1, w2, w3⟩ := x_w10 (c k - 1000) (by omega)
        simp (disch := first | assumption | omega) only [b_Law_isTrue_0, b_Law_isTrue_41, b_Law_isTrue_67, b_Law_isTrue_68, b_Law_isTrue_255, b_Law_isTrue_273, b_Law_isTrue_291, b_Law_isTrue_313, b_Law_isTrue_336, b_Law_isTrue_359, b_Law_isTrue_360, ↓Bool.cond_decide, ↓q_in, q_le, q_lt, q_eq, q_leT, q_leF, q_ltT, q_ltF, q_eqT, q_eqF, ↓reduceIte, not_true_eq_false, not_false_eq_true, true_and, and_true, and_self, false_and, and_false, Nat.zero_le, am_bd_some, q_app, q_app0, nI_add, pk_sub, pk_mul, q_dec, q_ix, q_m1, q_m1', ↓q_ret, q_bool, q_bool1, q_u2, q_u1, q_shl1, q_shr, q_and7, q_dg, fa_or, fa_and, decide_true, decide_false, Bool.or_false, Bool.or_true, Bool.true_or, Bool.false_or, cond_true, cond_false, ite_not, q_some, q_nn, q_xor, q_xorm, Bool.false_eq_true, decide_eq_true_eq, ne_eq, l_0, l_1, l_2, l_3, l_4, l_5, l_6, l_7, l_10, l_12, l_13, l_14, l_15, l_18, l_41, l_42, l_43, l_45, l_60, l_61, l_62, l_64, l_67, l_68, l_76, l_100, l_105, l_118, l_146, l_255, l_273, l_291, l_313, l_336, l_359, l_360, l_1000, l_1147, l_1000000, k3, k4, k5, cond_true, hck, w1, w2, w3, q_u21]
        exact ⟨_, _, rfl, _, _, _, _, _, _, by rw [e]; rfl, rfl, by rw [e]; exact ⟨if_pos rfl, Mt_upd (Nat.le_refl _) hM⟩⟩
    · rw [h2] at ho
      obtain ⟨b, st, hs, _⟩ := okT_cons ho
      have e : evk (i 14) c (k + 1) = (nI 1 - b) :: st := by rw [evk, h1, hs, ev1_not]
      rw [hs] at hle hM
      rw [List.length_cons] at hle
      have hb := hM.1
      rw [h1, show tc 3006 = nI 1147 from rfl] at hck
      rw [hs, List.length_cons]
      simp (disch := first | assumption | omega) only [b_Law_isTrue_0, b_Law_isTrue_41, b_Law_isTrue_67, b_Law_isTrue_68, b_Law_isTrue_255, b_Law_isTrue_273, b_Law_isTrue_291, b_Law_isTrue_313, b_Law_isTrue_336, b_Law_isTrue_359, b_Law_isTrue_360, ↓Bool.cond_decide, ↓q_in, q_le, q_lt, q_eq, q_leT, q_leF, q_ltT, q_ltF, q_eqT, q_eqF, ↓reduceIte, not_true_eq_false, not_false_eq_true, true_and, and_true, and_self, false_and, and_false, Nat.zero_le, am_bd_some, q_app, q_app0, nI_add, pk_sub, pk_mul, q_dec, q_ix, q_m1, q_m1', ↓q_ret, q_bool, q_bool1, q_u2, q_u1, q_shl1, q_shr, q_and7, q_dg, fa_or, fa_and, decide_true, decide_false, Bool.or_false, Bool.or_true, Bool.true_or, Bool.false_or, cond_true, cond_false, ite_not, q_some, q_nn, q_xor, q_xorm, Bool.false_eq_true, decide_eq_true_eq, ne_eq, l_0, l_1, l_2, l_3, l_4, l_5, l_6, l_7, l_10, l_12, l_13, l_14, l_15, l_18, l_41, l_42, l_43, l_45, l_60, l_61, l_62, l_64, l_67, l_68, l_76, l_100, l_105, l_118, l_146, l_255, l_273, l_291, l_313, l_336, l_359, l_360, l_1000, l_1147, l_1000000, k3, k4, k5, cond_true, hck, q_u21, Nat.add_sub_cancel, hb]
      exact ⟨_, _, rfl, _, _, _, _, _, _, by rw [e]; rfl, rfl, by rw [e]; exact ⟨if_pos rfl, Mt_upd (Nat.le_refl _) hM.2⟩⟩
    all_goals
      rw [h3] at ho
      obtain ⟨b, st, hs, ho2⟩ := okT_cons ho
      obtain ⟨a, st, rfl, ho3⟩ := okT_cons ho2
      have e : evk (i 14) c (k + 1) = bt (c k) a b :: st := by rw [evk, hs, ev1_bin (by omega) (by omega)]
      rw [hs] at hle hM ho
      simp only [List.length_cons] at hle
      have hb := hM.1
      have ha := hM.2.1
      rw [List.length_cons] at hb
      obtain ⟨m, m1, m2, m3, m4⟩ := tc_op (c := c k) (by omega) (by omega)
      have m5 : m ≠ 1147 := fun z => by have := m4.mp z; omega
      have hck0 := hck
      rw [m3] at hck
      have e2 : st.length + 1 + 1 - 1 = st.length + 1 := rfl
      rw [hs, List.length_cons, List.length_cons]
      simp (disch := first | assumption | omega) only [b_Law_isTrue_0, b_Law_isTrue_41, b_Law_isTrue_67, b_Law_isTrue_68, b_Law_isTrue_255, b_Law_isTrue_273, b_Law_isTrue_291, b_Law_isTrue_313, b_Law_isTrue_336, b_Law_isTrue_359, b_Law_isTrue_360, ↓Bool.cond_decide, ↓q_in, q_le, q_lt, q_eq, q_leT, q_leF, q_ltT, q_ltF, q_eqT, q_eqF, ↓reduceIte, not_true_eq_false, not_false_eq_true, true_and, and_true, and_self, false_and, and_false, Nat.zero_le, am_bd_some, q_app, q_app0, nI_add, pk_sub, pk_mul, q_dec, q_ix, q_m1, q_m1', ↓q_ret, q_bool, q_bool1, q_u2, q_u1, q_shl1, q_shr, q_and7, q_dg, fa_or, fa_and, decide_true, decide_false, Bool.or_false, Bool.or_true, Bool.true_or, Bool.false_or, cond_true, cond_false, ite_not, q_some, q_nn, q_xor, q_xorm, Bool.false_eq_true, decide_eq_true_eq, ne_eq, l_0, l_1, l_2, l_3, l_4, l_5, l_6, l_7, l_10, l_12, l_13, l_14, l_15, l_18, l_41, l_42, l_43, l_45, l_60, l_61, l_62, l_64, l_67, l_68, l_76, l_100, l_105, l_118, l_146, l_255, l_273, l_291, l_313, l_336, l_359, l_360, l_1000, l_1147, l_1000000, k3, k4, k5, cond_true, hck, q_u21, e2, m5]
      rw [← m3]
      obtain ⟨y4, y5, y6, y7, y8, hy⟩ := x_118 (i := am_u1 i 13 f) (l := l) (q := q) (K := K) (r := r) d (t := st.length) (c := c k) (by omega) (by omega) (fun h7 => by
        first
          | (exfalso; omega)
          | (refine ⟨?_, ?_⟩
             · show f st.length = nI 0 ∨ f st.length = nI 1
               rw [ha]; exact (ho.2.1 rfl)
             · show f (st.length + 1) = nI 0 ∨ f (st.length + 1) = nI 1
               rw [hb]; exact (ho.1 rfl))) k z5 z6 z7 z8
      rw [hy, b_Law_isTrue_336, show nI k + (1 : Int32) = nI (k + 1) from nI_add k 1, show am_u1 i 13 f 13 st.length = a from ha, show am_u1 i 13 f 13 (st.length + 1) = b from hb, q_u21]
      exact ⟨_, _, rfl, _, _, _, _, _, _, by rw [e]; rfl, rfl, by rw [e]; exact ⟨if_pos rfl, Mt_upd (Nat.le_refl _) hM.2.2⟩⟩) [.val (.ref 12), .val (.ref r), .val (.int 0), .val (.int 0), .unset, .unset, .unset, .unset, .unset] (i, l, rX q, kX K) ⟨i 13, .unset, .unset, .unset, .unset, .unset, rfl, by rw [q_u11], trivial⟩
  obtain ⟨ls, s, e, f, z4, z5, z6, z7, z8, e1, e2, hM⟩ := loop
  subst e1; subst e2
  refine ⟨f, ?_⟩
  rw [show (am_Ex d mLaw_isTrue 4 [.val (.ref 12), .val (.ref r), .val (.int 0), .val (.int 0), .unset, .unset, .unset, .unset, .unset] [] (i, l, rX q, kX K)) = _ from e]
  have ho := okT_k (w := i 14) h0 hT n (Nat.le_refl _)
  rw [h1] at ho
  obtain ⟨b, st, hs, ho2⟩ := okT_cons ho
  have hst : st = [] := by cases st with | nil => rfl | cons _ _ => exact ho2.elim
  subst hst
  rw [hs] at hM ho ⊢
  have hb : f 0 = b := hM.1
  have hb' : am_u1 i 13 f 13 0 = b := hb
  rw [b_Law_isTrue_4]
  rcases ho.1 rfl with z | z
  · subst z
    simp (disch := first | assumption | omega) only [b_Law_isTrue_0, b_Law_isTrue_41, b_Law_isTrue_67, b_Law_isTrue_68, b_Law_isTrue_255, b_Law_isTrue_273, b_Law_isTrue_291, b_Law_isTrue_313, b_Law_isTrue_336, b_Law_isTrue_359, b_Law_isTrue_360, ↓Bool.cond_decide, ↓q_in, q_le, q_lt, q_eq, q_leT, q_leF, q_ltT, q_ltF, q_eqT, q_eqF, ↓reduceIte, not_true_eq_false, not_false_eq_true, true_and, and_true, and_self, false_and, and_false, Nat.zero_le, am_bd_some, q_app, q_app0, nI_add, pk_sub, pk_mul, q_dec, q_ix, q_m1, q_m1', ↓q_ret, q_bool, q_bool1, q_u2, q_u1, q_shl1, q_shr, q_and7, q_dg, fa_or, fa_and, decide_true, decide_false, Bool.or_false, Bool.or_true, Bool.true_or, Bool.false_or, cond_true, cond_false, ite_not, q_some, q_nn, q_xor, q_xorm, Bool.false_eq_true, decide_eq_true_eq, ne_eq, l_0, l_1, l_2, l_3, l_4, l_5, l_6, l_7, l_10, l_12, l_13, l_14, l_15, l_18, l_41, l_42, l_43, l_45, l_60, l_61, l_62, l_64, l_67, l_68, l_76, l_100, l_105, l_118, l_146, l_255, l_273, l_291, l_313, l_336, l_359, l_360, l_1000, l_1147, l_1000000, k3, k4, cond_true, hb', List.length_cons, List.length_nil, List.cons.injEq]
    rw [hb]; rfl
  · subst z
    simp (disch := first | assumption | omega) only [b_Law_isTrue_0, b_Law_isTrue_41, b_Law_isTrue_67, b_Law_isTrue_68, b_Law_isTrue_255, b_Law_isTrue_273, b_Law_isTrue_291, b_Law_isTrue_313, b_Law_isTrue_336, b_Law_isTrue_359, b_Law_isTrue_360, ↓Bool.cond_decide, ↓q_in, q_le, q_lt, q_eq, q_leT, q_leF, q_ltT, q_ltF, q_eqT, q_eqF, ↓reduceIte, not_true_eq_false, not_false_eq_true, true_and, and_true, and_self, false_and, and_false, Nat.zero_le, am_bd_some, q_app, q_app0, nI_add, pk_sub, pk_mul, q_dec, q_ix, q_m1, q_m1', ↓q_ret, q_bool, q_bool1, q_u2, q_u1, q_shl1, q_shr, q_and7, q_dg, fa_or, fa_and, decide_true, decide_false, Bool.or_false, Bool.or_true, Bool.true_or, Bool.false_or, cond_true, cond_false, ite_not, q_some, q_nn, q_xor, q_xorm, Bool.false_eq_true, decide_eq_true_eq, ne_eq, l_0, l_1, l_2, l_3, l_4, l_5, l_6, l_7, l_10, l_12, l_13, l_14, l_15, l_18, l_41, l_42, l_43, l_45, l_60, l_61, l_62, l_64, l_67, l_68, l_76, l_100, l_105, l_118, l_146, l_255, l_273, l_291, l_313, l_336, l_359, l_360, l_1000, l_1147, l_1000000, k3, k4, cond_true, hb', List.length_cons, List.length_nil, List.cons.injEq]
    rw [hb]; rfl
end
