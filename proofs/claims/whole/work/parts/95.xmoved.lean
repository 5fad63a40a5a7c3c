/-! THE CLASS: one is moved -/
theorem x_mv {a p v : Nat} (ha : a < 4096) (hp : p < 4) (hv : v < 8) : (a &&& (7 * 2 ^ (3 * p) ^^^ 4294967295)) ||| v * 2 ^ (3 * p) = wb a (3 * p) 3 v := by
  apply Nat.eq_of_testBit_eq
  intro j
  rw [wb_bit (k := 3) hv, Nat.testBit_or, Nat.testBit_and, Nat.testBit_xor, Nat.testBit_mul_two_pow, Nat.testBit_mul_two_pow, show (4294967295 : Nat) = 2 ^ 32 - 1 from rfl, Nat.testBit_two_pow_sub_one, show (7 : Nat) = 2 ^ 3 - 1 from rfl, Nat.testBit_two_pow_sub_one]
  by_cases c1 : 3 * p ≤ j
  · by_cases c2 : j < 3 * p + 3
    · rw [if_pos ⟨c1, c2⟩, decide_eq_true c1, decide_eq_true (show j - 3 * p < 3 by omega), decide_eq_true (show j < 32 by omega)]
      simp
    · rw [if_neg (by omega), decide_eq_true c1, decide_eq_false (show ¬ j - 3 * p < 3 by omega)]
      have hv0 : v.testBit (j - 3 * p) = false := by
        apply Nat.testBit_lt_two_pow
        have h6 : 2 ^ 3 ≤ 2 ^ (j - 3 * p) := Nat.pow_le_pow_right (by decide) (by omega)
        omega
      rw [hv0]
      by_cases c3 : j < 32
      · rw [decide_eq_true c3]; simp
      · have ha0 : a.testBit j = false := by
          apply Nat.testBit_lt_two_pow
          have h6 : 2 ^ 12 ≤ 2 ^ j := Nat.pow_le_pow_right (by decide) (by omega)
          omega
        rw [ha0]; simp
  · rw [if_neg (by omega), decide_eq_false c1, decide_eq_true (show j < 32 by omega)]
    simp
theorem s_X_moved (d : Nat) {a p v : Nat} (ha : a < 4096) (hp : p < 4) (hv : v < 8) (s : aM) : am_cl (d + 1) mX_moved [.int (nI a), .int (nI p), .int (nI v)] s = some (some (.int (nI (wb a (3 * p) 3 v))), s) := by
  obtain ⟨i, l, q, K⟩ := s
  have h1 : 2 ^ (3 * p) ≤ 2 ^ 9 := Nat.pow_le_pow_right (by decide) (by omega)
  have h2 : 7 * 2 ^ (3 * p) < 4294967296 := by omega
  have h3 : v * 2 ^ (3 * p) < 4294967296 := by
    have : v * 2 ^ (3 * p) ≤ 8 * 2 ^ 9 := Nat.mul_le_mul (by omega) h1
    omega
  have e := x_mv ha hp hv
  have h4 : 3 * p < 32 := by omega
  rw [c_X_moved, b_X_moved_0, show (3 : Int32) * nI p = nI (3 * p) from pk_mul 3 p, show nI (3 * p) &&& (31 : Int32) = nI (3 * p &&& 31) from fa_and (3 * p) 31, show (7 : Int32) <<< nI (3 * p &&& 31) = nI (7 * 2 ^ (3 * p)) from q_shl (a := 7) h4 h2, q_shl h4 h3, show nI (7 * 2 ^ (3 * p)) ^^^ (-1 : Int32) = nI (7 * 2 ^ (3 * p) ^^^ 4294967295) from q_xorm _, fa_and, fa_or, e]
theorem wb_wp {a p v : Nat} (ha : a < 4096) (hp : p < 4) (hv : v < 8) : wb a (3 * p) 3 v = wp a p v := by
  refine dg_ext (wb_lt (n := 12) (k := 3) hv ha (by omega)) (wp_lt ha hp hv) (fun t ht => ?_)
  by_cases e : t = p
  · rw [e, dg_wp ha hp hv, dg_fld, fld_own (k := 3) hv]
  · rw [dg_wn ha hp ht hv e, dg_fld, fld_off (k := 3) hv (by omega), ← dg_fld]
theorem s_X_moved' (d : Nat) {a p v : Nat} (ha : a < 4096) (hp : p < 4) (hv : v < 8) (s : aM) : am_cl (d + 1) mX_moved [.int (nI a), .int (nI p), .int (nI v)] s = some (some (.int (nI (wp a p v))), s) := by
  rw [s_X_moved d ha hp hv, wb_wp ha hp hv]
