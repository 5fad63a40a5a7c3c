/-! THE CLASS: spots taken, who is beside, sent back -/
theorem ff_sm {f : Nat → Bool} {n k : Nat} : (ff f n k).isSome = true ↔ ∃ m, k ≤ m ∧ m < k + n ∧ f m = true := by
  cases h : ff f n k with
  | none =>
    refine ⟨fun z => by simp at z, fun ⟨m, h1, h2, h3⟩ => ?_⟩
    have := ff_none h m h1 h2
    rw [this] at h3; cases h3
  | some j =>
    obtain ⟨h1, h2, h3, _⟩ := ff_some h
    exact ⟨fun _ => ⟨j, h1, h2, h3⟩, fun _ => rfl⟩
theorem sWho_ex (g : Nat → Nat) (a x : Nat) : (sWho g a x).isSome = (sSpot g x && ex (fun p => decide (dg a p = x)) (g 2)) := by
  unfold sWho
  cases hs : sSpot g x with
  | false => simp
  | true =>
    rw [if_pos rfl, Bool.true_and]
    apply Bool.eq_iff_iff.mpr
    rw [ff_sm, ex_iff]
    exact ⟨fun ⟨m, h1, h2, h3⟩ => ⟨m, by omega, h3⟩, fun ⟨m, h1, h2⟩ => ⟨m, by omega, by omega, h2⟩⟩
/-- spots taken, as bits -/
def tkB (g : Nat → Nat) (a : Nat) : Nat := bs (fun x => (sWho g a x).isSome) 8
theorem tkB_bit {g : Nat → Nat} {a x : Nat} (hx : x < 8) : (tkB g a).testBit x = (sWho g a x).isSome := by
  unfold tkB
  rw [bs_bit, decide_eq_true hx, Bool.true_and]
theorem tkB_lt (g : Nat → Nat) (a : Nat) : tkB g a < 256 := bs_lt _ 8
def orD (a : Nat) : Nat → Nat
  | 0 => 0
  | k + 1 => orD a k ||| 2 ^ dg a k
theorem orD_bit (a x : Nat) : ∀ k, (orD a k).testBit x = ex (fun p => decide (dg a p = x)) k
  | 0 => by simp [orD, ex]
  | k + 1 => by rw [orD, ex, Nat.testBit_or, orD_bit a x k, Nat.testBit_two_pow]
theorem orD_lt (a : Nat) : ∀ k, orD a k < 256
  | 0 => by rw [orD]; decide
  | k + 1 => by
    rw [orD]
    exact Nat.or_lt_two_pow (n := 8) (orD_lt a k) (Nat.pow_lt_pow_right (by decide) (dg_lt a k))
theorem b_m2 : ∀ j, j < 8 → (4294967294 : Nat).testBit j = decide (1 ≤ j) := by decide
theorem b_m1 : ∀ j, j < 32 → (4294967295 : Nat).testBit j = true := by decide
theorem orD_tk {g : Nat → Nat} {a : Nat} (hv : ∀ p, p < 4 → dg a p ≤ g 1 + 1) (h1 : g 1 ≤ 6) (h2 : g 2 ≤ 4) : (orD a (g 2) &&& 4294967294) &&& (2 ^ (g 1 + 1) ^^^ 4294967295) = tkB g a := by
  apply Nat.eq_of_testBit_eq
  intro j
  by_cases hj : j < 8
  · rw [tkB_bit hj, Nat.testBit_and, Nat.testBit_and, Nat.testBit_xor, Nat.testBit_two_pow, b_m2 j hj, b_m1 j (by omega), orD_bit, sWho_ex]
    cases he : ex (fun p => decide (dg a p = j)) (g 2) with
    | false => simp
    | true =>
      obtain ⟨p, hp, hq⟩ := (ex_iff _ _).mp he
      have hq := of_decide_eq_true hq
      have := hv p (by omega)
      unfold sSpot
      rw [Bool.true_and, Bool.and_true]
      by_cases c1 : 1 ≤ j
      · by_cases c2 : g 1 + 1 = j
        · rw [decide_eq_true c1, decide_eq_true c2, decide_eq_false (show ¬ (1 ≤ j ∧ j ≤ g 1) by omega)]; rfl
        · rw [decide_eq_true c1, decide_eq_false c2, decide_eq_true (show (1 ≤ j ∧ j ≤ g 1) by omega)]; rfl
      · rw [decide_eq_false c1, decide_eq_false (show ¬ (1 ≤ j ∧ j ≤ g 1) by omega)]; rfl
  · rw [Nat.testBit_lt_two_pow (Nat.lt_of_lt_of_le (tkB_lt g a) (show 2 ^ 8 ≤ 2 ^ j from Nat.pow_le_pow_right (by decide) (by omega))), Nat.testBit_and, Nat.testBit_and, Nat.testBit_lt_two_pow (Nat.lt_of_lt_of_le (orD_lt a (g 2)) (show 2 ^ 8 ≤ 2 ^ j from Nat.pow_le_pow_right (by decide) (by omega)))]
    simp
theorem x_b2 {m k : Nat} : m / 2 ^ k % 2 = if m.testBit k = true then 1 else 0 := by
  rw [Nat.testBit_eq_decide_div_mod_eq]
  by_cases h : m / 2 ^ k % 2 = 1
  · rw [if_pos (decide_eq_true h), h]
  · rw [if_neg (by simpa using h)]; omega
section
variable {i : Nat → Nat → Int32} {l : Nat → Nat → Int64} {q : Nat → Nat → Option Nat} {K : List (Nat × Nat)} {r : Nat}
theorem s_River_spotsTaken (d : Nat) {a : Nat} {g : Nat → Nat} (ha : a < 4096) (hk : Nat.beq (am_kd (i, l, q, K) r) 6 = true) (h0 : i r 0 = nI (g 1)) (h1 : i r 1 = nI (g 2)) (hS : g 1 ≤ 6) (hP : g 2 ≤ 4) (hv : ∀ p, p < 4 → dg a p ≤ g 1 + 1) : am_cl (d + 2) mRiver_spotsTaken [.ref r, .int (nI a)] (i, l, q, K) = some (some (.int (nI (tkB g a))), (i, l, q, K)) := by
  have hl : Int32.toInt64 (nI a) = lN a := nI_l (by omega)
  have hfb := s_River_farBank d hk h0
  rw [c_River_spotsTaken, b_River_spotsTaken_0]
  refine am_loop (fun k ls s => ls = [.val (.ref r), .val (.int (nI a)), .val (.int (nI (orD a k))), .val (.int (nI k))] ∧ s = (i, l, q, K)) (g 2) (fun rr => rr = some (some (.int (nI (tkB g a))), (i, l, q, K))) (fun k ls s hk2 hI => ?_) (fun ls s hI => ?_) ⟨rfl, rfl⟩
  · obtain ⟨e1, e2⟩ := hI
    subst e1; subst e2
    have hdg : dg a k < 8 := Nat.mod_lt _ (by decide)
    have hpl := s_X_placeOf (m := a) (p := k) d (by omega) (by omega) (i, l, q, K)
    rw [b_River_spotsTaken_4]
    simp (disch := first | assumption | omega) only [b_River_spotsTaken_0, b_River_spotsTaken_20, b_River_spotsTaken_38, s_River_farBank, ↓Bool.cond_decide, ↓q_in, q_le, q_lt, q_eq, q_leT, q_leF, q_ltT, q_ltF, q_eqT, q_eqF, ↓reduceIte, not_true_eq_false, not_false_eq_true, true_and, and_true, and_self, false_and, and_false, Nat.zero_le, am_bd_some, q_app, q_app0, nI_add, pk_sub, pk_mul, q_dec, q_ix, q_m1, q_m1', ↓q_ret, q_bool, q_bool1, q_u2, q_u1, q_shl1, q_shr, q_and7, q_dg, fa_or, fa_and, decide_true, decide_false, Bool.or_false, Bool.or_true, Bool.true_or, Bool.false_or, cond_true, cond_false, ite_not, q_some, q_nn, q_xor, q_xorm, Bool.false_eq_true, decide_eq_true_eq, ne_eq, l_0, l_1, l_2, l_4, l_6, l_7, l_8, l_18, l_20, l_31, l_38, hk, h1, hl, hpl, cond_true, Bool.and_true]
    exact Go_in ⟨rfl, rfl⟩
  · obtain ⟨e1, e2⟩ := hI
    subst e1; subst e2
    have e := orD_tk hv hS hP
    rw [b_River_spotsTaken_4, h1]
    rw [hk, cond_true, decide_eq_true (nI_le (Nat.le_refl _) (by omega)), cond_true, Bool.and_true, cond_true, hfb, am_bd_some, q_app, b_River_spotsTaken_38, show nI (orD a (g 2)) &&& (-2 : Int32) = nI (orD a (g 2) &&& 4294967294) from fa_and _ 4294967294, k_shl1 (by omega), show nI (2 ^ (g 1 + 1)) ^^^ (-1 : Int32) = nI (2 ^ (g 1 + 1) ^^^ 4294967295) from q_xorm _, fa_and, e]
theorem s_Ford_besideOf (d : Nat) {a x : Nat} {g : Nat → Nat} (hx1 : 1 ≤ x) (hx6 : x ≤ 6) (s : aM) : am_cl (d + 1) mFord_besideOf [.int (nI (tkB g a)), .int (nI x)] s = some (some (.int (nI (sBes g a x))), s) := by
  obtain ⟨i, l, q, K⟩ := s
  have ht := tkB_lt g a
  obtain ⟨y, rfl⟩ : ∃ y, x = y + 1 := ⟨x - 1, by omega⟩
  have e1 : (nI (tkB g a) >>> ((nI (y + 1) - 1) &&& 31)) &&& (1 : Int32) = nI (tkB g a / 2 ^ y % 2) := by
    rw [x_dec, show nI y &&& (31 : Int32) = nI (y &&& 31) from fa_and y 31, q_shr (by omega) (by omega), show nI (tkB g a / 2 ^ y) &&& (1 : Int32) = nI (tkB g a / 2 ^ y &&& 1) from fa_and _ 1, q_bit]
  have e2 : (nI (tkB g a) >>> ((nI (y + 1) + 1) &&& 31)) &&& (1 : Int32) = nI (tkB g a / 2 ^ (y + 2) % 2) := by
    rw [show nI (y + 1) + (1 : Int32) = nI (y + 2) from nI_add (y + 1) 1, show nI (y + 2) &&& (31 : Int32) = nI ((y + 2) &&& 31) from fa_and (y + 2) 31, q_shr (by omega) (by omega), show nI (tkB g a / 2 ^ (y + 2)) &&& (1 : Int32) = nI (tkB g a / 2 ^ (y + 2) &&& 1) from fa_and _ 1, q_bit]
  rw [c_Ford_besideOf, b_Ford_besideOf_0, e1, e2, nI_add, x_b2, x_b2, tkB_bit (by omega), tkB_bit (by omega)]
  unfold sBes
  rw [show y + 1 - 1 = y from rfl, show y + 1 + 1 = y + 2 from rfl]
  cases sWho g a y <;> cases sWho g a (y + 2) <;> simp
theorem s_X_sentBack (d : Nat) {a m : Nat} {x : Int32} (ha : a < 4096) (hx : ∀ p, p < 4 → x.toBitVec.getLsbD p = m.testBit p) (s : aM) : am_cl (d + 2) mX_sentBack [.int (nI a), .int x] s = some (some (.int (nI (sSend a m 4))), s) := by
  obtain ⟨i, l, q, K⟩ := s
  rw [c_X_sentBack, b_X_sentBack_0]
  refine am_loop (fun k ls s => ls = [.val (.int (nI a)), .val (.int x), .val (.int (nI (sSend a m k))), .val (.int (nI k))] ∧ s = (i, l, q, K)) 4 (fun rr => rr = some (some (.int (nI (sSend a m 4))), (i, l, q, K))) (fun k ls s hk2 hI => ?_) (fun ls s hI => ?_) ⟨rfl, rfl⟩
  · obtain ⟨e1, e2⟩ := hI
    subst e1; subst e2
    have hs := sSend_lt (m := m) ha k (by omega)
    have hh := s_X_hasBit d x (k := k) (by omega) (i, l, q, K)
    rw [hx k hk2] at hh
    have hm := s_X_moved' d (p := k) (v := 0) hs hk2 (by decide) (i, l, q, K)
    rw [b_X_sentBack_4]
    cases hb : m.testBit k with
    | true =>
      rw [hb] at hh
      simp (disch := first | assumption | omega) only [b_X_sentBack_0, b_X_sentBack_14, b_X_sentBack_23, b_X_sentBack_24, ↓Bool.cond_decide, ↓q_in, q_le, q_lt, q_eq, q_leT, q_leF, q_ltT, q_ltF, q_eqT, q_eqF, ↓reduceIte, not_true_eq_false, not_false_eq_true, true_and, and_true, and_self, false_and, and_false, Nat.zero_le, am_bd_some, q_app, q_app0, nI_add, pk_sub, pk_mul, q_dec, q_ix, q_m1, q_m1', ↓q_ret, q_bool, q_bool1, q_u2, q_u1, q_shl1, q_shr, q_and7, q_dg, fa_or, fa_and, decide_true, decide_false, Bool.or_false, Bool.or_true, Bool.true_or, Bool.false_or, cond_true, cond_false, ite_not, q_some, q_nn, q_xor, q_xorm, Bool.false_eq_true, decide_eq_true_eq, ne_eq, l_0, l_1, l_4, l_5, l_7, l_8, l_10, l_14, l_23, l_24, hh, hm]
      refine Go_in ⟨?_, rfl⟩
      rw [sSend, if_pos hb]
    | false =>
      rw [hb] at hh
      simp (disch := first | assumption | omega) only [b_X_sentBack_0, b_X_sentBack_14, b_X_sentBack_23, b_X_sentBack_24, ↓Bool.cond_decide, ↓q_in, q_le, q_lt, q_eq, q_leT, q_leF, q_ltT, q_ltF, q_eqT, q_eqF, ↓reduceIte, not_true_eq_false, not_false_eq_true, true_and, and_true, and_self, false_and, and_false, Nat.zero_le, am_bd_some, q_app, q_app0, nI_add, pk_sub, pk_mul, q_dec, q_ix, q_m1, q_m1', ↓q_ret, q_bool, q_bool1, q_u2, q_u1, q_shl1, q_shr, q_and7, q_dg, fa_or, fa_and, decide_true, decide_false, Bool.or_false, Bool.or_true, Bool.true_or, Bool.false_or, cond_true, cond_false, ite_not, q_some, q_nn, q_xor, q_xorm, Bool.false_eq_true, decide_eq_true_eq, ne_eq, l_0, l_1, l_4, l_5, l_7, l_8, l_10, l_14, l_23, l_24, hh]
      refine Go_in ⟨?_, rfl⟩
      rw [sSend, if_neg (by rw [hb]; decide)]
  · obtain ⟨e1, e2⟩ := hI
    subst e1; subst e2
    rw [b_X_sentBack_4]
    simp (disch := first | assumption | omega) only [b_X_sentBack_0, b_X_sentBack_14, b_X_sentBack_23, b_X_sentBack_24, s_X_hasBit, s_X_hasBit', s_X_moved, s_X_moved', ↓Bool.cond_decide, ↓q_in, q_le, q_lt, q_eq, q_leT, q_leF, q_ltT, q_ltF, q_eqT, q_eqF, ↓reduceIte, not_true_eq_false, not_false_eq_true, true_and, and_true, and_self, false_and, and_false, Nat.zero_le, am_bd_some, q_app, q_app0, nI_add, pk_sub, pk_mul, q_dec, q_ix, q_m1, q_m1', ↓q_ret, q_bool, q_bool1, q_u2, q_u1, q_shl1, q_shr, q_and7, q_dg, fa_or, fa_and, decide_true, decide_false, Bool.or_false, Bool.or_true, Bool.true_or, Bool.false_or, cond_true, cond_false, ite_not, q_some, q_nn, q_xor, q_xorm, Bool.false_eq_true, decide_eq_true_eq, ne_eq, l_0, l_1, l_4, l_5, l_7, l_8, l_10, l_14, l_23, l_24]
end
