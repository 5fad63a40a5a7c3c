/-! THE CLASS: a moment as a long -/
def wb (m s k v : Nat) : Nat := 2 ^ (s + k) * (m / 2 ^ (s + k)) + (2 ^ s * v + m % 2 ^ s)
theorem wb_bit {m s k v : Nat} (hv : v < 2 ^ k) (j : Nat) : (wb m s k v).testBit j = if s ≤ j ∧ j < s + k then v.testBit (j - s) else m.testBit j := by
  unfold wb
  have h1 : m % 2 ^ s < 2 ^ s := Nat.mod_lt _ (Nat.two_pow_pos s)
  have h2 : 2 ^ s * v + m % 2 ^ s < 2 ^ (s + k) := by
    rw [Nat.pow_add]
    have : 2 ^ s * (v + 1) ≤ 2 ^ s * 2 ^ k := Nat.mul_le_mul_left _ hv
    rw [Nat.mul_add, Nat.mul_one] at this
    omega
  rw [Nat.testBit_two_pow_mul_add _ h2, Nat.testBit_two_pow_mul_add _ h1]
  by_cases c1 : j < s
  · rw [if_pos (by omega), if_pos c1, if_neg (by omega), Nat.testBit_mod_two_pow, decide_eq_true c1, Bool.true_and]
  · by_cases c2 : j < s + k
    · rw [if_pos c2, if_neg c1, if_pos (by omega)]
    · rw [if_neg c2, if_neg (by omega), Nat.testBit_div_two_pow]
      congr 1; omega
theorem x_bv (m : Nat) : (lN m).toBitVec = BitVec.ofNat 64 m := rfl
theorem x_nat {m : Nat} (h : m < 18446744073709551616) : (lN m).toBitVec.toNat = m := by
  rw [x_bv, BitVec.toNat_ofNat]
  exact Nat.mod_eq_of_lt h
theorem x_ext {a b : Int64} (h : ∀ j, j < 64 → a.toBitVec.getLsbD j = b.toBitVec.getLsbD j) : a = b := by
  apply Int64.toBitVec_inj.mp
  apply BitVec.eq_of_getLsbD_eq
  intro j hj
  exact h j hj
theorem x_bit {m j : Nat} (hj : j < 64) : (lN m).toBitVec.getLsbD j = m.testBit j := by
  rw [x_bv, BitVec.getLsbD_ofNat, decide_eq_true hj, Bool.true_and]
theorem x_63 {s : Nat} (h : s < 64) : Int32.toInt64 (nI s) &&& 63 = lN s := by
  rw [nI_l (by omega)]
  apply x_ext
  intro j hj
  rw [Int64.toBitVec_and, BitVec.getLsbD_and, x_bit hj]
  show (s.testBit j && (lN 63).toBitVec.getLsbD j) = s.testBit j
  rw [x_bit hj, show (63 : Nat) = 2 ^ 6 - 1 from rfl, Nat.testBit_two_pow_sub_one]
  by_cases c : j < 6
  · rw [decide_eq_true c, Bool.and_true]
  · rw [decide_eq_false c, Bool.and_false]
    symm
    apply Nat.testBit_lt_two_pow
    have h6 : 2 ^ 6 ≤ 2 ^ j := Nat.pow_le_pow_right (by decide) (show 6 ≤ j by omega)
    exact Nat.lt_of_lt_of_le (show s < 2 ^ 6 from h) h6
theorem x_smod : ∀ s, s < 64 → ((lN s).toBitVec.smod 64).toNat = s := by decide
theorem x_shl {a : Int64} {s j : Nat} (hs : s < 64) (hj : j < 64) : (a <<< lN s).toBitVec.getLsbD j = (decide (s ≤ j) && a.toBitVec.getLsbD (j - s)) := by
  have e : (a <<< lN s).toBitVec = a.toBitVec <<< ((lN s).toBitVec.smod 64).toNat := rfl
  rw [e, x_smod s hs, BitVec.getLsbD_shiftLeft, decide_eq_true hj, Bool.true_and]
  by_cases c : j < s
  · rw [decide_eq_true c, decide_eq_false (show ¬ s ≤ j by omega)]; rfl
  · rw [decide_eq_false c, decide_eq_true (show s ≤ j by omega)]; rfl
theorem x_wb {m s k v : Nat} (hk : s + k ≤ 64) (hs : s < 64) (hv : v < 2 ^ k) : (lN m &&& ((lN (2 ^ k - 1) <<< lN s) ^^^ ((-1) : Int64))) ||| ((lN v &&& lN (2 ^ k - 1)) <<< lN s) = lN (wb m s k v) := by
  apply x_ext
  intro j hj
  have e1 : ((-1) : Int64).toBitVec.getLsbD j = true := by
    show (BitVec.allOnes 64).getLsbD j = true
    rw [BitVec.getLsbD_allOnes, decide_eq_true hj]
  rw [x_bit hj, wb_bit hv, Int64.toBitVec_or, Int64.toBitVec_and, Int64.toBitVec_xor, BitVec.getLsbD_or, BitVec.getLsbD_and, BitVec.getLsbD_xor, x_shl hs hj, x_shl hs hj, e1, x_bit hj, Int64.toBitVec_and, BitVec.getLsbD_and]
  by_cases c1 : s ≤ j
  · rw [x_bit (by omega), x_bit (by omega), Nat.testBit_two_pow_sub_one, decide_eq_true c1]
    by_cases c2 : j < s + k
    · rw [if_pos ⟨c1, c2⟩, decide_eq_true (show j - s < k by omega)]
      simp
    · rw [if_neg (by omega), decide_eq_false (show ¬ j - s < k by omega)]
      simp
  · rw [if_neg (by omega), decide_eq_false c1]
    simp
theorem x_ushr {m s : Nat} (hm : m < 18446744073709551616) (hs : s < 64) : (Int64.toUInt64 (lN m) >>> ((Int32.toInt64 (nI s)).toUInt64 &&& Int64.toUInt64 63)).toInt64 = lN (m / 2 ^ s) := by
  have e1 : (Int32.toInt64 (nI s)).toUInt64 &&& Int64.toUInt64 63 = Int64.toUInt64 (lN s) := by
    rw [← x_63 hs]; rfl
  rw [e1]
  apply x_ext
  intro j hj
  rw [x_bit hj, Nat.testBit_div_two_pow]
  have e2 : (Int64.toUInt64 (lN m) >>> Int64.toUInt64 (lN s)).toInt64.toBitVec = (lN m).toBitVec >>> ((lN s).toBitVec % 64).toNat := rfl
  have e3 : ((lN s).toBitVec % 64).toNat = s := by
    rw [BitVec.toNat_umod, x_nat (by omega)]
    exact Nat.mod_eq_of_lt hs
  rw [e2, e3, BitVec.getLsbD_ushiftRight]
  by_cases c : s + j < 64
  · rw [x_bit c]; congr 1; omega
  · rw [BitVec.getLsbD_of_ge _ _ (by omega)]
    symm
    apply Nat.testBit_lt_two_pow
    have h6 : 2 ^ 64 ≤ 2 ^ (j + s) := Nat.pow_le_pow_right (by decide) (by omega)
    exact Nat.lt_of_lt_of_le (show m < 2 ^ 64 from hm) h6
theorem x_32 (m : Nat) : (Int64.toInt32 (lN m)).toBitVec.toNat = m % 4294967296 := by
  have e : (Int64.toInt32 (lN m)).toBitVec = (BitVec.ofNat 64 m).signExtend 32 := rfl
  rw [e, BitVec.signExtend_eq_setWidth_of_le _ (by decide), BitVec.toNat_setWidth, BitVec.toNat_ofNat]
  omega
theorem x_and {m k : Nat} (hk : k < 31) : Int64.toInt32 (lN m) &&& nI (2 ^ k - 1) = nI (m % 2 ^ k) := by
  have e0 : (nI (2 ^ k - 1)).toBitVec.toNat = 2 ^ k - 1 := by
    show (BitVec.ofNat 32 (2 ^ k - 1)).toNat = _
    rw [BitVec.toNat_ofNat]
    have h6 : 2 ^ k ≤ 2 ^ 32 := Nat.pow_le_pow_right (by decide) (by omega)
    have h7 := Nat.two_pow_pos k
    exact Nat.mod_eq_of_lt (by omega)
  rw [pk_and _ k e0, x_32]
  congr 1
  rw [show (4294967296 : Nat) = 2 ^ 32 from rfl, Nat.mod_mod_of_dvd]
  exact Nat.pow_dvd_pow 2 (by omega)
theorem x_dec (t : Nat) : nI (t + 1) - (1 : Int32) = nI t := by
  rw [show (1 : Int32) = nI 1 from rfl, pk_sub (by omega)]; rfl
section
variable {s : aM}
theorem s_X_placingOf (d : Nat) (m : Nat) (s : aM) : am_cl (d + 1) mX_placingOf [.long (lN m)] s = some (some (.int (nI (m % 4096))), s) := by
  obtain ⟨i, l, q, K⟩ := s
  rw [c_X_placingOf, b_X_placingOf_0]
  exact congrArg (fun v => some (some (Value.int v), (i, l, q, K))) (x_and (m := m) (k := 12) (by decide))
theorem s_X_placeOf (d : Nat) {m p : Nat} (hm : m < 18446744073709551616) (hp : p < 20) (s : aM) : am_cl (d + 1) mX_placeOf [.long (lN m), .int (nI p)] s = some (some (.int (nI (dg m p))), s) := by
  obtain ⟨i, l, q, K⟩ := s
  rw [c_X_placeOf, b_X_placeOf_0, show (3 : Int32) * nI p = nI (3 * p) from pk_mul 3 p, x_ushr hm (by omega), ← q_dg]
  exact congrArg (fun v => some (some (Value.int v), (i, l, q, K))) (x_and (m := m / 2 ^ (3 * p)) (k := 3) (by decide))
def stm (m p : Nat) : Nat := m / 2 ^ (12 + 4 * p) % 16
def dpm (m t : Nat) : Nat := m / 2 ^ (28 + 4 * t) % 16
theorem s_X_strengthOf (d : Nat) {m p : Nat} (hm : m < 18446744073709551616) (hp : p < 10) (s : aM) : am_cl (d + 1) mX_strengthOf [.long (lN m), .int (nI p)] s = some (some (.int (nI (stm m p))), s) := by
  obtain ⟨i, l, q, K⟩ := s
  rw [c_X_strengthOf, b_X_strengthOf_0, show (4 : Int32) * nI p = nI (4 * p) from pk_mul 4 p, show (12 : Int32) + nI (4 * p) = nI (12 + 4 * p) from nI_add 12 (4 * p), x_ushr hm (by omega)]
  exact congrArg (fun v => some (some (Value.int v), (i, l, q, K))) (x_and (m := m / 2 ^ (12 + 4 * p)) (k := 4) (by decide))
theorem s_X_depthOf (d : Nat) {m t : Nat} (hm : m < 18446744073709551616) (ht : t < 8) (s : aM) : am_cl (d + 1) mX_depthOf [.long (lN m), .int (nI (t + 1))] s = some (some (.int (nI (dpm m t))), s) := by
  obtain ⟨i, l, q, K⟩ := s
  rw [c_X_depthOf, b_X_depthOf_0, x_dec t, show (4 : Int32) * nI t = nI (4 * t) from pk_mul 4 t, show (28 : Int32) + nI (4 * t) = nI (28 + 4 * t) from nI_add 28 (4 * t), x_ushr hm (by omega)]
  exact congrArg (fun v => some (some (Value.int v), (i, l, q, K))) (x_and (m := m / 2 ^ (28 + 4 * t)) (k := 4) (by decide))
theorem s_X_withBits (d : Nat) {m t k v : Nat} (hk : t + k ≤ 64) (ht : t < 64) (hv : v < 2 ^ k) (hv' : v < 2147483648) (s : aM) : am_cl (d + 1) mX_withBits [.long (lN m), .int (nI t), .long (lN (2 ^ k - 1)), .int (nI v)] s = some (some (.long (lN (wb m t k v))), s) := by
  obtain ⟨i, l, q, K⟩ := s
  rw [c_X_withBits, b_X_withBits_0, x_63 ht, nI_l (show v < 2 ^ 31 from hv'), x_wb hk ht hv]
theorem s_X_withPlace (d : Nat) {m p v : Nat} (hp : p < 20) (hv : v < 8) (s : aM) : am_cl (d + 2) mX_withPlace [.long (lN m), .int (nI p), .int (nI v)] s = some (some (.long (lN (wb m (3 * p) 3 v))), s) := by
  obtain ⟨i, l, q, K⟩ := s
  rw [c_X_withPlace, b_X_withPlace_0, show (3 : Int32) * nI p = nI (3 * p) from pk_mul 3 p, show (7 : Int64) = lN (2 ^ 3 - 1) from rfl, s_X_withBits d (by omega) (by omega) hv (by omega), am_bd_some]
  exact b_X_withPlace_11 ..
theorem s_X_withStrength (d : Nat) {m p v : Nat} (hp : p < 10) (hv : v < 16) (s : aM) : am_cl (d + 2) mX_withStrength [.long (lN m), .int (nI p), .int (nI v)] s = some (some (.long (lN (wb m (12 + 4 * p) 4 v))), s) := by
  obtain ⟨i, l, q, K⟩ := s
  rw [c_X_withStrength, b_X_withStrength_0, show (4 : Int32) * nI p = nI (4 * p) from pk_mul 4 p, show (12 : Int32) + nI (4 * p) = nI (12 + 4 * p) from nI_add 12 (4 * p), show (15 : Int64) = lN (2 ^ 4 - 1) from rfl, s_X_withBits d (by omega) (by omega) hv (by omega), am_bd_some]
  exact b_X_withStrength_14 ..
theorem s_X_withDepth (d : Nat) {m t v : Nat} (ht : t < 8) (hv : v < 16) (s : aM) : am_cl (d + 2) mX_withDepth [.long (lN m), .int (nI (t + 1)), .int (nI v)] s = some (some (.long (lN (wb m (28 + 4 * t) 4 v))), s) := by
  obtain ⟨i, l, q, K⟩ := s
  rw [c_X_withDepth, b_X_withDepth_0, x_dec t, show (4 : Int32) * nI t = nI (4 * t) from pk_mul 4 t, show (28 : Int32) + nI (4 * t) = nI (28 + 4 * t) from nI_add 28 (4 * t), show (15 : Int64) = lN (2 ^ 4 - 1) from rfl, s_X_withBits d (by omega) (by omega) hv (by omega), am_bd_some]
  exact b_X_withDepth_16 ..
end
