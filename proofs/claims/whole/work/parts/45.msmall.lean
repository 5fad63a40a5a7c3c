/-! THE MODEL: small methods -/
/-- how many of the first n bits are set -/
def bc (m : Nat) : Nat → Nat
  | 0 => 0
  | n + 1 => bc m n + m / 2 ^ n % 2
theorem bc_le (m : Nat) : ∀ n, bc m n ≤ n
  | 0 => Nat.le_refl _
  | n + 1 => by have := bc_le m n; rw [bc]; omega
def sNow (g : Nat → Nat) : Nat → Nat
  | 0 => 0
  | n + 1 => sNow g n ||| g (18 + n) * 2 ^ (3 * n)
theorem q_shl {a p : Nat} (hp : p < 32) (h : a * 2 ^ p < 4294967296) : nI a <<< nI (p &&& 31) = nI (a * 2 ^ p) := (congrArg (nI a <<< ·) (fa_and p 31)).symm.trans (pk_shlN _ p (k_sh31 p hp) h)
theorem q_mul8 {a p : Nat} (ha : a < 8) (hp : p < 4) : a * 2 ^ (3 * p) < 4096 := by
  have h : 2 ^ (3 * p) ≤ 2 ^ 9 := Nat.pow_le_pow_right (by decide) (by omega)
  calc a * 2 ^ (3 * p) ≤ 7 * 2 ^ 9 := Nat.mul_le_mul (by omega) h
    _ < 4096 := by decide
theorem sNow_lt (g : Nat → Nat) (h : ∀ p, p < 4 → g (18 + p) < 8) : ∀ n, n ≤ 4 → sNow g n < 4096
  | 0, _ => by rw [sNow]; decide
  | n + 1, hn => by
    rw [sNow]
    exact Nat.or_lt_two_pow (n := 12) (sNow_lt g h n (by omega)) (q_mul8 (h n (by omega)) (by omega))
section
variable {i : Nat → Nat → Int32} {l : Nat → Nat → Int64} {g : Nat → Nat}
theorem s_M_everybody (d : Nat) (hA : MA i g) (h2 : g 2 ≤ 4) : am_cl (d + 1) mM_everybody [.ref 0] (i, l, rM, kM) = some (some (.int (nI (2 ^ g 2 - 1))), (i, l, rM, kM)) := by
  have hp := Nat.two_pow_pos (g 2)
  rw [c_M_everybody, b_M_everybody_0]
  simp (disch := first | assumption | omega) only [b_M_everybody_0, ↓Bool.cond_decide, ↓q_in, q_le, q_lt, q_eq, q_leT, q_leF, q_ltT, q_ltF, q_eqT, q_eqF, ↓reduceIte, not_true_eq_false, not_false_eq_true, true_and, and_true, and_self, false_and, and_false, Nat.zero_le, am_bd_some, q_app, q_app0, nI_add, pk_sub, pk_mul, q_dec, q_ix, q_m1, q_m1', ↓q_ret, q_bool, q_bool1, q_u2, q_u1, q_shl1, q_shr, q_and7, q_dg, fa_or, fa_and, decide_true, decide_false, Bool.or_false, Bool.or_true, Bool.true_or, Bool.false_or, cond_true, cond_false, ite_not, q_some, q_nn, q_xor, q_xorm, Bool.false_eq_true, decide_eq_true_eq, ne_eq, l_0, l_1, l_2, l_11, l_31, hA 2]
theorem s_M_isOver (d : Nat) {a m : Nat} (ha : a < 4096) (hm : m < 2147483648) (hA : MA i g) (h1 : g 1 ≤ 6) (h2 : g 2 ≤ 4) : am_cl (d + 3) mM_isOver [.ref 0, .int (nI a), .int (nI m)] (i, l, rM, kM) = some (some (.int (if sOver g a &&& m = m then nI 1 else nI 0)), (i, l, rM, kM)) := by
  have hp : sOver g a &&& m ≤ m := Nat.and_le_right
  rw [c_M_isOver, b_M_isOver_0]
  simp (disch := first | assumption | omega) only [b_M_isOver_0, b_M_isOver_5, b_M_isOver_16, s_M_over, ↓Bool.cond_decide, ↓q_in, q_le, q_lt, q_eq, q_leT, q_leF, q_ltT, q_ltF, q_eqT, q_eqF, ↓reduceIte, not_true_eq_false, not_false_eq_true, true_and, and_true, and_self, false_and, and_false, Nat.zero_le, am_bd_some, q_app, q_app0, nI_add, pk_sub, pk_mul, q_dec, q_ix, q_m1, q_m1', ↓q_ret, q_bool, q_bool1, q_u2, q_u1, q_shl1, q_shr, q_and7, q_dg, fa_or, fa_and, decide_true, decide_false, Bool.or_false, Bool.or_true, Bool.true_or, Bool.false_or, cond_true, cond_false, ite_not, q_some, q_nn, q_xor, q_xorm, Bool.false_eq_true, decide_eq_true_eq, ne_eq, l_0, l_1, l_3, l_5, l_11, l_16]
theorem s_M_bitsOf (d : Nat) {m : Nat} (hm : m < 2147483648) (s : aM) : am_cl (d + 1) mM_bitsOf [.int (nI m)] s = some (some (.int (nI (bc m 10))), s) := by
  obtain ⟨i, l, q, K⟩ := s
  rw [c_M_bitsOf, b_M_bitsOf_0]
  refine (am_for (fun k => [.val (.int (nI m)), .val (.int (nI (bc m k))), .val (.int (nI k))]) (fun _ => (i, l, q, K)) 10 (fun k hk => ?_)).trans ?_
  · rw [b_M_bitsOf_4]
    simp (disch := first | assumption | omega) only [b_M_bitsOf_0, ↓Bool.cond_decide, ↓q_in, q_le, q_lt, q_eq, q_leT, q_leF, q_ltT, q_ltF, q_eqT, q_eqF, ↓reduceIte, not_true_eq_false, not_false_eq_true, true_and, and_true, and_self, false_and, and_false, Nat.zero_le, am_bd_some, q_app, q_app0, nI_add, pk_sub, pk_mul, q_dec, q_ix, q_m1, q_m1', ↓q_ret, q_bool, q_bool1, q_u2, q_u1, q_shl1, q_shr, q_and7, q_dg, fa_or, fa_and, decide_true, decide_false, Bool.or_false, Bool.or_true, Bool.true_or, Bool.false_or, cond_true, cond_false, ite_not, q_some, q_nn, q_xor, q_xorm, Bool.false_eq_true, decide_eq_true_eq, ne_eq, l_0, l_1, l_4, l_7, l_10, l_18, l_31, q_bit, bc]
  · rw [b_M_bitsOf_4]
    simp (disch := first | assumption | omega) only [b_M_bitsOf_0, ↓Bool.cond_decide, ↓q_in, q_le, q_lt, q_eq, q_leT, q_leF, q_ltT, q_ltF, q_eqT, q_eqF, ↓reduceIte, not_true_eq_false, not_false_eq_true, true_and, and_true, and_self, false_and, and_false, Nat.zero_le, am_bd_some, q_app, q_app0, nI_add, pk_sub, pk_mul, q_dec, q_ix, q_m1, q_m1', ↓q_ret, q_bool, q_bool1, q_u2, q_u1, q_shl1, q_shr, q_and7, q_dg, fa_or, fa_and, decide_true, decide_false, Bool.or_false, Bool.or_true, Bool.true_or, Bool.false_or, cond_true, cond_false, ite_not, q_some, q_nn, q_xor, q_xorm, Bool.false_eq_true, decide_eq_true_eq, ne_eq, l_0, l_1, l_4, l_7, l_10, l_18, l_31]
theorem s_M_isUp (d : Nat) {p : Nat} (hp : p < 4) (hg : g (18 + p) < 8) (hA : MA i g) (h1 : g 1 ≤ 6) : am_cl (d + 3) mM_isUp [.ref 0, .int (nI p)] (i, l, rM, kM) = some (some (.int (if sSpot g (g (18 + p)) then nI 1 else nI 0)), (i, l, rM, kM)) := by
  have hA' : ∀ k, k < 3222 → i 1 k = nI (g k) := hA
  rw [c_M_isUp, b_M_isUp_0]
  simp (disch := first | assumption | omega) only [b_M_isUp_0, b_M_isUp_14, s_M_isSpot, ↓Bool.cond_decide, ↓q_in, q_le, q_lt, q_eq, q_leT, q_leF, q_ltT, q_ltF, q_eqT, q_eqF, ↓reduceIte, not_true_eq_false, not_false_eq_true, true_and, and_true, and_self, false_and, and_false, Nat.zero_le, am_bd_some, q_app, q_app0, nI_add, pk_sub, pk_mul, q_dec, q_ix, q_m1, q_m1', ↓q_ret, q_bool, q_bool1, q_u2, q_u1, q_shl1, q_shr, q_and7, q_dg, fa_or, fa_and, decide_true, decide_false, Bool.or_false, Bool.or_true, Bool.true_or, Bool.false_or, cond_true, cond_false, ite_not, q_some, q_nn, q_xor, q_xorm, Bool.false_eq_true, decide_eq_true_eq, ne_eq, l_0, l_1, l_3, l_11, l_14, l_18, l_3222, hA', s_M_isSpot]
theorem s_M_isWater (d : Nat) (y : Int64) (s : aM) : am_cl (d + 2) mM_isWater [.long y] s = some (some (.int (if 0 ≤ y.toInt ∧ y.toInt ≤ 9 then nI 1 else nI 0)), s) := by
  obtain ⟨i, l, q, K⟩ := s
  rw [c_M_isWater, b_M_isWater_0]
  have e : (0 : Int64) ≤ y ∧ y ≤ 9 ↔ 0 ≤ y.toInt ∧ y.toInt ≤ 9 := k_w64 y _ _ _ _ rfl rfl
  simp (disch := first | assumption | omega) only [b_M_isWater_0, b_M_isWater_8, s_M_within, ↓Bool.cond_decide, ↓q_in, q_le, q_lt, q_eq, q_leT, q_leF, q_ltT, q_ltF, q_eqT, q_eqF, ↓reduceIte, not_true_eq_false, not_false_eq_true, true_and, and_true, and_self, false_and, and_false, Nat.zero_le, am_bd_some, q_app, q_app0, nI_add, pk_sub, pk_mul, q_dec, q_ix, q_m1, q_m1', ↓q_ret, q_bool, q_bool1, q_u2, q_u1, q_shl1, q_shr, q_and7, q_dg, fa_or, fa_and, decide_true, decide_false, Bool.or_false, Bool.or_true, Bool.true_or, Bool.false_or, cond_true, cond_false, ite_not, q_some, q_nn, q_xor, q_xorm, Bool.false_eq_true, decide_eq_true_eq, ne_eq, l_0, l_1, l_3, l_6, l_8, l_9, e]
theorem s_M_standNow (d : Nat) (hA : MA i g) (hP : ∀ p, p < 4 → g (18 + p) < 8) : am_cl (d + 1) mM_standNow [.ref 0] (i, l, rM, kM) = some (some (.int (nI (sNow g 4))), (i, l, rM, kM)) := by
  have hA' : ∀ k, k < 3222 → i 1 k = nI (g k) := hA
  rw [c_M_standNow, b_M_standNow_0]
  refine (am_for (fun k => [.val (.ref 0), .val (.int (nI (sNow g k))), .val (.int (nI k))]) (fun _ => (i, l, rM, kM)) 4 (fun k hk => ?_)).trans ?_
  · have h8 := q_mul8 (hP k hk) hk
    rw [b_M_standNow_4]
    simp (disch := first | assumption | omega) only [b_M_standNow_0, ↓Bool.cond_decide, ↓q_in, q_le, q_lt, q_eq, q_leT, q_leF, q_ltT, q_ltF, q_eqT, q_eqF, ↓reduceIte, not_true_eq_false, not_false_eq_true, true_and, and_true, and_self, false_and, and_false, Nat.zero_le, am_bd_some, q_app, q_app0, nI_add, pk_sub, pk_mul, q_dec, q_ix, q_m1, q_m1', ↓q_ret, q_bool, q_bool1, q_u2, q_u1, q_shl1, q_shr, q_and7, q_dg, fa_or, fa_and, decide_true, decide_false, Bool.or_false, Bool.or_true, Bool.true_or, Bool.false_or, cond_true, cond_false, ite_not, q_some, q_nn, q_xor, q_xorm, Bool.false_eq_true, decide_eq_true_eq, ne_eq, l_0, l_1, l_3, l_4, l_7, l_18, l_23, l_31, l_3222, hA', q_shl, sNow]
  · rw [b_M_standNow_4]
    simp (disch := first | assumption | omega) only [b_M_standNow_0, ↓Bool.cond_decide, ↓q_in, q_le, q_lt, q_eq, q_leT, q_leF, q_ltT, q_ltF, q_eqT, q_eqF, ↓reduceIte, not_true_eq_false, not_false_eq_true, true_and, and_true, and_self, false_and, and_false, Nat.zero_le, am_bd_some, q_app, q_app0, nI_add, pk_sub, pk_mul, q_dec, q_ix, q_m1, q_m1', ↓q_ret, q_bool, q_bool1, q_u2, q_u1, q_shl1, q_shr, q_and7, q_dg, fa_or, fa_and, decide_true, decide_false, Bool.or_false, Bool.or_true, Bool.true_or, Bool.false_or, cond_true, cond_false, ite_not, q_some, q_nn, q_xor, q_xorm, Bool.false_eq_true, decide_eq_true_eq, ne_eq, l_0, l_1, l_3, l_4, l_7, l_18, l_23, l_31, l_3222]
theorem s_M_gapOf (d : Nat) {a b : Nat} (ha : a < 100) (hb : b < 100) (s : aM) : am_cl (d + 1) mM_gapOf [.int (nI a), .int (nI b)] s = some (some (.int (nI (if a < b then b - a else a - b))), s) := by
  obtain ⟨i, l, q, K⟩ := s
  rw [c_M_gapOf, b_M_gapOf_0]
  by_cases h : a < b
  · simp (disch := first | assumption | omega) only [b_M_gapOf_0, b_M_gapOf_14, ↓Bool.cond_decide, ↓q_in, q_le, q_lt, q_eq, q_leT, q_leF, q_ltT, q_ltF, q_eqT, q_eqF, ↓reduceIte, not_true_eq_false, not_false_eq_true, true_and, and_true, and_self, false_and, and_false, Nat.zero_le, am_bd_some, q_app, q_app0, nI_add, pk_sub, pk_mul, q_dec, q_ix, q_m1, q_m1', ↓q_ret, q_bool, q_bool1, q_u2, q_u1, q_shl1, q_shr, q_and7, q_dg, fa_or, fa_and, decide_true, decide_false, Bool.or_false, Bool.or_true, Bool.true_or, Bool.false_or, cond_true, cond_false, ite_not, q_some, q_nn, q_xor, q_xorm, Bool.false_eq_true, decide_eq_true_eq, ne_eq, l_0, l_1, l_3, l_13, l_14]
  · simp (disch := first | assumption | omega) only [b_M_gapOf_0, b_M_gapOf_14, ↓Bool.cond_decide, ↓q_in, q_le, q_lt, q_eq, q_leT, q_leF, q_ltT, q_ltF, q_eqT, q_eqF, ↓reduceIte, not_true_eq_false, not_false_eq_true, true_and, and_true, and_self, false_and, and_false, Nat.zero_le, am_bd_some, q_app, q_app0, nI_add, pk_sub, pk_mul, q_dec, q_ix, q_m1, q_m1', ↓q_ret, q_bool, q_bool1, q_u2, q_u1, q_shl1, q_shr, q_and7, q_dg, fa_or, fa_and, decide_true, decide_false, Bool.or_false, Bool.or_true, Bool.true_or, Bool.false_or, cond_true, cond_false, ite_not, q_some, q_nn, q_xor, q_xorm, Bool.false_eq_true, decide_eq_true_eq, ne_eq, l_0, l_1, l_3, l_13, l_14]
end
