/-! THE CLASS: a moment's parts; the river's small questions -/
def fld (m s k : Nat) : Nat := m / 2 ^ s % 2 ^ k
theorem fld_bit (m s k j : Nat) : (fld m s k).testBit j = (decide (j < k) && m.testBit (j + s)) := by
  unfold fld
  rw [Nat.testBit_mod_two_pow, Nat.testBit_div_two_pow]
theorem fld_own {m s k v : Nat} (hv : v < 2 ^ k) : fld (wb m s k v) s k = v := by
  apply Nat.eq_of_testBit_eq
  intro j
  rw [fld_bit, wb_bit hv]
  by_cases c : j < k
  · rw [decide_eq_true c, Bool.true_and, if_pos (by omega), Nat.add_sub_cancel]
  · rw [decide_eq_false c, Bool.false_and]
    symm
    apply Nat.testBit_lt_two_pow
    have h6 : 2 ^ k ≤ 2 ^ j := Nat.pow_le_pow_right (by decide) (by omega)
    omega
theorem fld_off {m s k v s' k' : Nat} (hv : v < 2 ^ k) (h : s' + k' ≤ s ∨ s + k ≤ s') : fld (wb m s k v) s' k' = fld m s' k' := by
  apply Nat.eq_of_testBit_eq
  intro j
  rw [fld_bit, fld_bit, wb_bit hv]
  by_cases c : j < k'
  · rw [if_neg (by omega)]
  · rw [decide_eq_false c, Bool.false_and, Bool.false_and]
theorem wb_lt {m s k v n : Nat} (hv : v < 2 ^ k) (hm : m < 2 ^ n) (hn : s + k ≤ n) : wb m s k v < 2 ^ n := by
  apply Nat.lt_pow_two_of_testBit
  intro j hj
  rw [wb_bit hv, if_neg (by omega)]
  apply Nat.testBit_lt_two_pow
  have h6 : 2 ^ n ≤ 2 ^ j := Nat.pow_le_pow_right (by decide) (by omega)
  omega
theorem dg_fld (m p : Nat) : dg m p = fld m (3 * p) 3 := (q_dg m p).symm
theorem stm_fld (m p : Nat) : stm m p = fld m (12 + 4 * p) 4 := rfl
theorem dpm_fld (m t : Nat) : dpm m t = fld m (28 + 4 * t) 4 := rfl
/-- a moment holds places, strengths, depths -/
def RM (m : Nat) (w : Nat → Nat) : Prop := m < 4503599627370496 ∧ (∀ p, p < 4 → dg m p = w p) ∧ (∀ p, p < 4 → stm m p = w (4 + p)) ∧ ∀ t, t < 6 → dpm m t = w (8 + t)
theorem RM_cg {m : Nat} {w w' : Nat → Nat} (h : RM m w) (e : ∀ k, k < 14 → w' k = w k) : RM m w' := ⟨h.1, fun p hp => by rw [e p (by omega)]; exact h.2.1 p hp, fun p hp => by rw [e _ (by omega)]; exact h.2.2.1 p hp, fun t ht => by rw [e _ (by omega)]; exact h.2.2.2 t ht⟩
theorem RM_place {m p v : Nat} {w : Nat → Nat} (h : RM m w) (hp : p < 4) (hv : v < 8) : RM (wb m (3 * p) 3 v) (ug w p v) := by
  obtain ⟨h0, h1, h2, h3⟩ := h
  refine ⟨wb_lt (n := 52) hv h0 (by omega), fun q hq => ?_, fun q hq => ?_, fun t ht => ?_⟩
  · unfold ug
    rw [dg_fld]
    by_cases e : q = p
    · rw [if_pos e, e]; exact fld_own hv
    · rw [if_neg e, fld_off hv (by omega), ← dg_fld]; exact h1 q hq
  · unfold ug
    rw [if_neg (by omega), stm_fld, fld_off hv (by omega)]; exact h2 q hq
  · unfold ug
    rw [if_neg (by omega), dpm_fld, fld_off hv (by omega)]; exact h3 t ht
theorem RM_strength {m p v : Nat} {w : Nat → Nat} (h : RM m w) (hp : p < 4) (hv : v < 16) : RM (wb m (12 + 4 * p) 4 v) (ug w (4 + p) v) := by
  obtain ⟨h0, h1, h2, h3⟩ := h
  refine ⟨wb_lt (n := 52) hv h0 (by omega), fun q hq => ?_, fun q hq => ?_, fun t ht => ?_⟩
  · unfold ug
    rw [if_neg (by omega), dg_fld, fld_off hv (by omega), ← dg_fld]; exact h1 q hq
  · unfold ug
    rw [stm_fld]
    by_cases e : q = p
    · rw [if_pos (by omega), e]; exact fld_own hv
    · rw [if_neg (by omega), fld_off hv (by omega)]; exact h2 q hq
  · unfold ug
    rw [if_neg (by omega), dpm_fld, fld_off hv (by omega)]; exact h3 t ht
theorem RM_depth {m t v : Nat} {w : Nat → Nat} (h : RM m w) (ht : t < 6) (hv : v < 16) : RM (wb m (28 + 4 * t) 4 v) (ug w (8 + t) v) := by
  obtain ⟨h0, h1, h2, h3⟩ := h
  refine ⟨wb_lt (n := 52) hv h0 (by omega), fun q hq => ?_, fun q hq => ?_, fun u hu => ?_⟩
  · unfold ug
    rw [if_neg (by omega), dg_fld, fld_off hv (by omega), ← dg_fld]; exact h1 q hq
  · unfold ug
    rw [if_neg (by omega), stm_fld, fld_off hv (by omega)]; exact h2 q hq
  · unfold ug
    rw [dpm_fld]
    by_cases e : u = t
    · rw [if_pos (by omega), e]; exact fld_own hv
    · rw [if_neg (by omega), fld_off hv (by omega)]; exact h3 u hu
/-- places alone: what the model calls a stand -/
theorem RM_now {m : Nat} {g : Nat → Nat} (h : RM m (gCur g)) (hP : ∀ p, p < 4 → g (18 + p) < 8) : m % 4096 = sNow g 4 := by
  apply dg_ext (Nat.mod_lt _ (by decide)) (sNow_lt g hP 4 (by decide))
  intro p hp
  rw [dg_sNow hP p hp, dg_fld]
  have e : fld (m % 4096) (3 * p) 3 = fld m (3 * p) 3 := by
    apply Nat.eq_of_testBit_eq
    intro j
    rw [fld_bit, fld_bit, show (4096 : Nat) = 2 ^ 12 from rfl, Nat.testBit_mod_two_pow]
    by_cases c : j < 3
    · rw [decide_eq_true (show j + 3 * p < 12 by omega), Bool.true_and]
    · rw [decide_eq_false c, Bool.false_and, Bool.false_and]
  rw [e, ← dg_fld]
  exact h.2.1 p hp
section
variable {i : Nat → Nat → Int32} {l : Nat → Nat → Int64} {q : Nat → Nat → Option Nat} {K : List (Nat × Nat)} {r : Nat}
theorem s_X_isDigit (d : Nat) (x : Int32) (s : aM) : am_cl (d + 1) mX_isDigit [.int x] s = some (some (.int (if iR 0 9 x = true then nI 1 else nI 0)), s) := by
  obtain ⟨i, l, q, K⟩ := s
  rw [c_X_isDigit, b_X_isDigit_0]
  by_cases hx : iR 0 9 x = true
  · obtain ⟨p, _, hp, rfl⟩ := iR_T hx
    simp (disch := first | assumption | omega) only [b_X_isDigit_0, b_X_isDigit_14, b_X_isDigit_15, ↓Bool.cond_decide, ↓q_in, q_le, q_lt, q_eq, q_leT, q_leF, q_ltT, q_ltF, q_eqT, q_eqF, ↓reduceIte, not_true_eq_false, not_false_eq_true, true_and, and_true, and_self, false_and, and_false, Nat.zero_le, am_bd_some, q_app, q_app0, nI_add, pk_sub, pk_mul, q_dec, q_ix, q_m1, q_m1', ↓q_ret, q_bool, q_bool1, q_u2, q_u1, q_shl1, q_shr, q_and7, q_dg, fa_or, fa_and, decide_true, decide_false, Bool.or_false, Bool.or_true, Bool.true_or, Bool.false_or, cond_true, cond_false, ite_not, q_some, q_nn, q_xor, q_xorm, Bool.false_eq_true, decide_eq_true_eq, ne_eq, l_0, l_1, l_3, l_4, l_9, l_11, l_14, l_15, hx]
  · by_cases c1 : x < nI 0
    · simp (disch := first | assumption | omega) only [b_X_isDigit_0, b_X_isDigit_14, b_X_isDigit_15, ↓Bool.cond_decide, ↓q_in, q_le, q_lt, q_eq, q_leT, q_leF, q_ltT, q_ltF, q_eqT, q_eqF, ↓reduceIte, not_true_eq_false, not_false_eq_true, true_and, and_true, and_self, false_and, and_false, Nat.zero_le, am_bd_some, q_app, q_app0, nI_add, pk_sub, pk_mul, q_dec, q_ix, q_m1, q_m1', ↓q_ret, q_bool, q_bool1, q_u2, q_u1, q_shl1, q_shr, q_and7, q_dg, fa_or, fa_and, decide_true, decide_false, Bool.or_false, Bool.or_true, Bool.true_or, Bool.false_or, cond_true, cond_false, ite_not, q_some, q_nn, q_xor, q_xorm, Bool.false_eq_true, decide_eq_true_eq, ne_eq, l_0, l_1, l_3, l_4, l_9, l_11, l_14, l_15, hx, c1]
    · have c2 : nI 9 < x := by
        unfold iR at hx
        rw [decide_eq_true_eq] at hx
        rw [fa_lt, nI_toInt (by decide)] at c1 ⊢
        omega
      simp (disch := first | assumption | omega) only [b_X_isDigit_0, b_X_isDigit_14, b_X_isDigit_15, ↓Bool.cond_decide, ↓q_in, q_le, q_lt, q_eq, q_leT, q_leF, q_ltT, q_ltF, q_eqT, q_eqF, ↓reduceIte, not_true_eq_false, not_false_eq_true, true_and, and_true, and_self, false_and, and_false, Nat.zero_le, am_bd_some, q_app, q_app0, nI_add, pk_sub, pk_mul, q_dec, q_ix, q_m1, q_m1', ↓q_ret, q_bool, q_bool1, q_u2, q_u1, q_shl1, q_shr, q_and7, q_dg, fa_or, fa_and, decide_true, decide_false, Bool.or_false, Bool.or_true, Bool.true_or, Bool.false_or, cond_true, cond_false, ite_not, q_some, q_nn, q_xor, q_xorm, Bool.false_eq_true, decide_eq_true_eq, ne_eq, l_0, l_1, l_3, l_4, l_9, l_11, l_14, l_15, hx, c1, c2]
theorem s_X_isTray (d : Nat) (x : Int32) (s : aM) : am_cl (d + 1) mX_isTray [.int x] s = some (some (.int (if iB x 4 = true then nI 1 else nI 0)), s) := by
  obtain ⟨i, l, q, K⟩ := s
  rw [c_X_isTray, b_X_isTray_0]
  by_cases hx : iB x 4 = true
  · obtain ⟨p, hp, rfl⟩ := iB_T hx
    simp (disch := first | assumption | omega) only [b_X_isTray_0, b_X_isTray_13, b_X_isTray_14, ↓Bool.cond_decide, ↓q_in, q_le, q_lt, q_eq, q_leT, q_leF, q_ltT, q_ltF, q_eqT, q_eqF, ↓reduceIte, not_true_eq_false, not_false_eq_true, true_and, and_true, and_self, false_and, and_false, Nat.zero_le, am_bd_some, q_app, q_app0, nI_add, pk_sub, pk_mul, q_dec, q_ix, q_m1, q_m1', ↓q_ret, q_bool, q_bool1, q_u2, q_u1, q_shl1, q_shr, q_and7, q_dg, fa_or, fa_and, decide_true, decide_false, Bool.or_false, Bool.or_true, Bool.true_or, Bool.false_or, cond_true, cond_false, ite_not, q_some, q_nn, q_xor, q_xorm, Bool.false_eq_true, decide_eq_true_eq, ne_eq, l_0, l_1, l_3, l_4, l_11, l_13, l_14, hx]
  · by_cases c1 : x < nI 0
    · simp (disch := first | assumption | omega) only [b_X_isTray_0, b_X_isTray_13, b_X_isTray_14, ↓Bool.cond_decide, ↓q_in, q_le, q_lt, q_eq, q_leT, q_leF, q_ltT, q_ltF, q_eqT, q_eqF, ↓reduceIte, not_true_eq_false, not_false_eq_true, true_and, and_true, and_self, false_and, and_false, Nat.zero_le, am_bd_some, q_app, q_app0, nI_add, pk_sub, pk_mul, q_dec, q_ix, q_m1, q_m1', ↓q_ret, q_bool, q_bool1, q_u2, q_u1, q_shl1, q_shr, q_and7, q_dg, fa_or, fa_and, decide_true, decide_false, Bool.or_false, Bool.or_true, Bool.true_or, Bool.false_or, cond_true, cond_false, ite_not, q_some, q_nn, q_xor, q_xorm, Bool.false_eq_true, decide_eq_true_eq, ne_eq, l_0, l_1, l_3, l_4, l_11, l_13, l_14, hx, c1]
    · have c2 : nI 4 ≤ x := by
        unfold iB at hx
        rw [decide_eq_true_eq] at hx
        rw [fa_lt, nI_toInt (by decide)] at c1
        rw [fa_le, nI_toInt (by decide)]
        omega
      simp (disch := first | assumption | omega) only [b_X_isTray_0, b_X_isTray_13, b_X_isTray_14, ↓Bool.cond_decide, ↓q_in, q_le, q_lt, q_eq, q_leT, q_leF, q_ltT, q_ltF, q_eqT, q_eqF, ↓reduceIte, not_true_eq_false, not_false_eq_true, true_and, and_true, and_self, false_and, and_false, Nat.zero_le, am_bd_some, q_app, q_app0, nI_add, pk_sub, pk_mul, q_dec, q_ix, q_m1, q_m1', ↓q_ret, q_bool, q_bool1, q_u2, q_u1, q_shl1, q_shr, q_and7, q_dg, fa_or, fa_and, decide_true, decide_false, Bool.or_false, Bool.or_true, Bool.true_or, Bool.false_or, cond_true, cond_false, ite_not, q_some, q_nn, q_xor, q_xorm, Bool.false_eq_true, decide_eq_true_eq, ne_eq, l_0, l_1, l_3, l_4, l_11, l_13, l_14, hx, c1, c2]
theorem s_River_isPerson (d : Nat) (x : Int32) {P : Nat} (hk : Nat.beq (am_kd (i, l, q, K) r) 6 = true) (h1 : i r 1 = nI P) (hP : P < 100) : am_cl (d + 1) mRiver_isPerson [.ref r, .int x] (i, l, q, K) = some (some (.int (if iB x P = true then nI 1 else nI 0)), (i, l, q, K)) := by
  rw [c_River_isPerson, b_River_isPerson_0]
  by_cases hx : iB x P = true
  · obtain ⟨p, hp, rfl⟩ := iB_T hx
    simp (disch := first | assumption | omega) only [b_River_isPerson_0, b_River_isPerson_16, b_River_isPerson_17, ↓Bool.cond_decide, ↓q_in, q_le, q_lt, q_eq, q_leT, q_leF, q_ltT, q_ltF, q_eqT, q_eqF, ↓reduceIte, not_true_eq_false, not_false_eq_true, true_and, and_true, and_self, false_and, and_false, Nat.zero_le, am_bd_some, q_app, q_app0, nI_add, pk_sub, pk_mul, q_dec, q_ix, q_m1, q_m1', ↓q_ret, q_bool, q_bool1, q_u2, q_u1, q_shl1, q_shr, q_and7, q_dg, fa_or, fa_and, decide_true, decide_false, Bool.or_false, Bool.or_true, Bool.true_or, Bool.false_or, cond_true, cond_false, ite_not, q_some, q_nn, q_xor, q_xorm, Bool.false_eq_true, decide_eq_true_eq, ne_eq, l_0, l_1, l_3, l_4, l_6, l_12, l_16, l_17, hx, hk, h1, cond_true]
  · by_cases c1 : x < nI 0
    · simp (disch := first | assumption | omega) only [b_River_isPerson_0, b_River_isPerson_16, b_River_isPerson_17, ↓Bool.cond_decide, ↓q_in, q_le, q_lt, q_eq, q_leT, q_leF, q_ltT, q_ltF, q_eqT, q_eqF, ↓reduceIte, not_true_eq_false, not_false_eq_true, true_and, and_true, and_self, false_and, and_false, Nat.zero_le, am_bd_some, q_app, q_app0, nI_add, pk_sub, pk_mul, q_dec, q_ix, q_m1, q_m1', ↓q_ret, q_bool, q_bool1, q_u2, q_u1, q_shl1, q_shr, q_and7, q_dg, fa_or, fa_and, decide_true, decide_false, Bool.or_false, Bool.or_true, Bool.true_or, Bool.false_or, cond_true, cond_false, ite_not, q_some, q_nn, q_xor, q_xorm, Bool.false_eq_true, decide_eq_true_eq, ne_eq, l_0, l_1, l_3, l_4, l_6, l_12, l_16, l_17, hx, c1, hk, h1, cond_true]
    · have c2 : nI P ≤ x := by
        unfold iB at hx
        rw [decide_eq_true_eq] at hx
        rw [fa_lt, nI_toInt (by decide)] at c1
        rw [fa_le, nI_toInt (by omega)]
        omega
      simp (disch := first | assumption | omega) only [b_River_isPerson_0, b_River_isPerson_16, b_River_isPerson_17, ↓Bool.cond_decide, ↓q_in, q_le, q_lt, q_eq, q_leT, q_leF, q_ltT, q_ltF, q_eqT, q_eqF, ↓reduceIte, not_true_eq_false, not_false_eq_true, true_and, and_true, and_self, false_and, and_false, Nat.zero_le, am_bd_some, q_app, q_app0, nI_add, pk_sub, pk_mul, q_dec, q_ix, q_m1, q_m1', ↓q_ret, q_bool, q_bool1, q_u2, q_u1, q_shl1, q_shr, q_and7, q_dg, fa_or, fa_and, decide_true, decide_false, Bool.or_false, Bool.or_true, Bool.true_or, Bool.false_or, cond_true, cond_false, ite_not, q_some, q_nn, q_xor, q_xorm, Bool.false_eq_true, decide_eq_true_eq, ne_eq, l_0, l_1, l_3, l_4, l_6, l_12, l_16, l_17, hx, c1, c2, hk, h1, cond_true]
theorem s_River_isSpot (d : Nat) (x : Int32) {g : Nat → Nat} (hk : Nat.beq (am_kd (i, l, q, K) r) 6 = true) (h0 : i r 0 = nI (g 1)) (hS : g 1 < 100) : am_cl (d + 1) mRiver_isSpot [.ref r, .int x] (i, l, q, K) = some (some (.int (if iS g x = true then nI 1 else nI 0)), (i, l, q, K)) := by
  rw [c_River_isSpot, b_River_isSpot_0]
  by_cases hx : iS g x = true
  · obtain ⟨p, hp1, hp2, rfl⟩ := iS_T hx
    simp (disch := first | assumption | omega) only [b_River_isSpot_0, b_River_isSpot_17, b_River_isSpot_18, ↓Bool.cond_decide, ↓q_in, q_le, q_lt, q_eq, q_leT, q_leF, q_ltT, q_ltF, q_eqT, q_eqF, ↓reduceIte, not_true_eq_false, not_false_eq_true, true_and, and_true, and_self, false_and, and_false, Nat.zero_le, am_bd_some, q_app, q_app0, nI_add, pk_sub, pk_mul, q_dec, q_ix, q_m1, q_m1', ↓q_ret, q_bool, q_bool1, q_u2, q_u1, q_shl1, q_shr, q_and7, q_dg, fa_or, fa_and, decide_true, decide_false, Bool.or_false, Bool.or_true, Bool.true_or, Bool.false_or, cond_true, cond_false, ite_not, q_some, q_nn, q_xor, q_xorm, Bool.false_eq_true, decide_eq_true_eq, ne_eq, l_0, l_1, l_3, l_4, l_6, l_13, l_17, l_18, hx, hk, h0, cond_true]
  · by_cases c1 : x < nI 1
    · simp (disch := first | assumption | omega) only [b_River_isSpot_0, b_River_isSpot_17, b_River_isSpot_18, ↓Bool.cond_decide, ↓q_in, q_le, q_lt, q_eq, q_leT, q_leF, q_ltT, q_ltF, q_eqT, q_eqF, ↓reduceIte, not_true_eq_false, not_false_eq_true, true_and, and_true, and_self, false_and, and_false, Nat.zero_le, am_bd_some, q_app, q_app0, nI_add, pk_sub, pk_mul, q_dec, q_ix, q_m1, q_m1', ↓q_ret, q_bool, q_bool1, q_u2, q_u1, q_shl1, q_shr, q_and7, q_dg, fa_or, fa_and, decide_true, decide_false, Bool.or_false, Bool.or_true, Bool.true_or, Bool.false_or, cond_true, cond_false, ite_not, q_some, q_nn, q_xor, q_xorm, Bool.false_eq_true, decide_eq_true_eq, ne_eq, l_0, l_1, l_3, l_4, l_6, l_13, l_17, l_18, hx, c1, hk, h0, cond_true]
    · have c2 : nI (g 1) < x := by
        unfold iS at hx
        rw [decide_eq_true_eq] at hx
        rw [fa_lt, nI_toInt (by decide)] at c1
        rw [fa_lt, nI_toInt (by omega)]
        omega
      simp (disch := first | assumption | omega) only [b_River_isSpot_0, b_River_isSpot_17, b_River_isSpot_18, ↓Bool.cond_decide, ↓q_in, q_le, q_lt, q_eq, q_leT, q_leF, q_ltT, q_ltF, q_eqT, q_eqF, ↓reduceIte, not_true_eq_false, not_false_eq_true, true_and, and_true, and_self, false_and, and_false, Nat.zero_le, am_bd_some, q_app, q_app0, nI_add, pk_sub, pk_mul, q_dec, q_ix, q_m1, q_m1', ↓q_ret, q_bool, q_bool1, q_u2, q_u1, q_shl1, q_shr, q_and7, q_dg, fa_or, fa_and, decide_true, decide_false, Bool.or_false, Bool.or_true, Bool.true_or, Bool.false_or, cond_true, cond_false, ite_not, q_some, q_nn, q_xor, q_xorm, Bool.false_eq_true, decide_eq_true_eq, ne_eq, l_0, l_1, l_3, l_4, l_6, l_13, l_17, l_18, hx, c1, c2, hk, h0, cond_true]
theorem s_River_farBank (d : Nat) {S : Nat} (hk : Nat.beq (am_kd (i, l, q, K) r) 6 = true) (h0 : i r 0 = nI S) : am_cl (d + 1) mRiver_farBank [.ref r] (i, l, q, K) = some (some (.int (nI (S + 1))), (i, l, q, K)) := by
  rw [c_River_farBank, b_River_farBank_0]
  simp (disch := first | assumption | omega) only [b_River_farBank_0, ↓Bool.cond_decide, ↓q_in, q_le, q_lt, q_eq, q_leT, q_leF, q_ltT, q_ltF, q_eqT, q_eqF, ↓reduceIte, not_true_eq_false, not_false_eq_true, true_and, and_true, and_self, false_and, and_false, Nat.zero_le, am_bd_some, q_app, q_app0, nI_add, pk_sub, pk_mul, q_dec, q_ix, q_m1, q_m1', ↓q_ret, q_bool, q_bool1, q_u2, q_u1, q_shl1, q_shr, q_and7, q_dg, fa_or, fa_and, decide_true, decide_false, Bool.or_false, Bool.or_true, Bool.true_or, Bool.false_or, cond_true, cond_false, ite_not, q_some, q_nn, q_xor, q_xorm, Bool.false_eq_true, decide_eq_true_eq, ne_eq, l_0, l_1, l_6, l_7, hk, h0, cond_true]
theorem s_River_everybody (d : Nat) {P : Nat} (hk : Nat.beq (am_kd (i, l, q, K) r) 6 = true) (h1 : i r 1 = nI P) (hP : P ≤ 4) : am_cl (d + 1) mRiver_everybody [.ref r] (i, l, q, K) = some (some (.int (nI (2 ^ P - 1))), (i, l, q, K)) := by
  have hp := Nat.two_pow_pos P
  rw [c_River_everybody, b_River_everybody_0]
  simp (disch := first | assumption | omega) only [b_River_everybody_0, ↓Bool.cond_decide, ↓q_in, q_le, q_lt, q_eq, q_leT, q_leF, q_ltT, q_ltF, q_eqT, q_eqF, ↓reduceIte, not_true_eq_false, not_false_eq_true, true_and, and_true, and_self, false_and, and_false, Nat.zero_le, am_bd_some, q_app, q_app0, nI_add, pk_sub, pk_mul, q_dec, q_ix, q_m1, q_m1', ↓q_ret, q_bool, q_bool1, q_u2, q_u1, q_shl1, q_shr, q_and7, q_dg, fa_or, fa_and, decide_true, decide_false, Bool.or_false, Bool.or_true, Bool.true_or, Bool.false_or, cond_true, cond_false, ite_not, q_some, q_nn, q_xor, q_xorm, Bool.false_eq_true, decide_eq_true_eq, ne_eq, l_0, l_1, l_6, l_9, l_31, hk, h1, cond_true]
end
