/-! THE MODEL: calls that ask -/
def RQ : List Nat := [4, 5, 6, 7, 8, 9, 10, 11, 12, 13, 16, 17, 18, 19, 20, 21, 100, 106, 107, 108, 109, 110, 111, 112, 115, 120, 122, 123, 128, 133, 134, 135, 138]
def iR (a b : Nat) (z : Int32) : Bool := decide ((a : Int) ≤ z.toInt ∧ z.toInt ≤ (b : Int))
theorem iR_e (a b : Nat) {lo hi : Int64} (h1 : lo.toInt = a) (h2 : hi.toInt = b) (z : Int32) : (lo ≤ Int32.toInt64 z ∧ Int32.toInt64 z ≤ hi) = (iR a b z = true) := propext (by
  rw [k_w64 _ _ _ _ _ h1 h2, Int32.toInt_toInt64]
  simp only [iR, decide_eq_true_eq])
theorem iR_T {a b : Nat} {z : Int32} (h : iR a b z = true) : ∃ n, a ≤ n ∧ n ≤ b ∧ z = nI n := by
  have h := of_decide_eq_true h
  have hx : z.toInt < 2147483648 := Int32.toInt_lt z
  refine ⟨z.toInt.toNat, by omega, by omega, ?_⟩
  apply Int32.toInt_inj.mp
  rw [nI_toInt (by omega)]
  omega
def v_spot (g : Nat → Nat) (x y : Int32) : Int32 := if iS g x = true ∧ iR 0 1 y = true then (if y = nI 0 then nI (g (25 + x.toNatClampNeg)) else vW (sWho g (sNow g 4) x.toNatClampNeg)) else -nI 2
def v_trusts (g : Nat → Nat) (x y z : Int32) : Int32 := if iB x (g 2) = true ∧ iB y (g 2) = true ∧ x ≠ y then (if iR 1 4 z = true then (if sTrust g x.toNatClampNeg y.toNatClampNeg z.toNatClampNeg = true then nI 1 else nI 0) else -nI 3) else -nI 2
def v_holds (g : Nat → Nat) (x y : Int32) : Int32 := if iB x (g 2) = true then (if iB y 10 = true then (if sSpot g (g (18 + x.toNatClampNeg)) = true then (if sHold g (sNow g 4) x.toNatClampNeg (g (22 + x.toNatClampNeg)) y.toNatClampNeg = true then nI 1 else nI 0) else -nI 5) else -nI 3) else -nI 2
def v_steps (g : Nat → Nat) (x y : Int32) : Int32 := if iB x (g 2) = true ∧ iB y (g 1 + 2) = true then (if (sGo g (sNow g 4) x.toNatClampNeg (g (10 + x.toNatClampNeg))).testBit y.toNatClampNeg = true then nI (sD g (sNow g 4) x.toNatClampNeg (g (10 + x.toNatClampNeg)) 8 y.toNatClampNeg) else -nI 1) else -nI 2
def v_swept (g : Nat → Nat) (x : Int32) : Int32 := if iB x 10 = true then nI (sBy g x.toNatClampNeg) else -nI 3
def v_looks (g : Nat → Nat) (x : Int32) : Int32 := if iB x 10 = true then nI (sLk g x.toNatClampNeg (sNow g 4)) else -nI 3
def v_least (g : Nat → Nat) (x : Int32) : Int32 := if iB x (g 2) = true then (if sSpot g (g (18 + x.toNatClampNeg)) = true then vW (ff (fun w => (sBy g w).testBit x.toNatClampNeg) 10 0) else -nI 5) else -nI 2
/-- from k down, the first for which f says so -/
def fd (f : Nat → Bool) : Nat → Option Nat
  | 0 => none
  | n + 1 => if f n then some n else fd f n
def v_calm (g : Nat → Nat) : Int32 := vW (fd (fun w => decide (sBy g w = 0)) 10)
def v_stride (g : Nat → Nat) (x : Int32) : Int32 := if iB x (g 2) = true then vW (ff (fun r => (sGo g (sNow g 4) x.toNatClampNeg r).testBit (g 1 + 1)) 9 1) else -nI 2
def sSum (f : Nat → Nat) : Nat → Nat
  | 0 => 0
  | n + 1 => sSum f n + f n
def v_count (σ : St) (x : Int32) : Int32 := if x = nI 0 then nI (σ.1 1) else if x = nI 1 then nI (σ.1 2) else if x = nI 2 then nI (sUp σ.1 (sNow σ.1 4)) else if x = nI 3 then nI (sOver σ.1 (sNow σ.1 4)) else if x = nI 4 then nI (sSum (fun p => σ.1 (22 + p)) (σ.1 2)) else if x = nI 5 then nI (σ.1 3) else if x = nI 6 then nI (σ.1 32) else if x = nI 7 then nI σ.2.2.2.1 else if x = nI 8 then nI (σ.1 0) else -nI 1
theorem sGo_lt {g : Nat → Nat} {a p r : Nat} (h1 : g 1 ≤ 6) : sGo g a p r < 256 := Nat.lt_of_lt_of_le (bs_lt _ _) (Nat.pow_le_pow_right (n := 2) (by decide) (show g 1 + 2 ≤ 8 by omega))
theorem sBy_lt {g : Nat → Nat} {w : Nat} (h2 : g 2 ≤ 4) : sBy g w < 16 := Nat.lt_of_le_of_lt Nat.and_le_left (sUp_lt h2)
theorem dg_sNow {g : Nat → Nat} (hP : ∀ p, p < 4 → g (18 + p) < 8) : ∀ p, p < 4 → dg (sNow g 4) p = g (18 + p) := by
  have e : sNow g 4 = g 18 + g 19 * 8 + g 20 * 64 + g 21 * 512 := by
    have a0 := hP 0 (by decide)
    have a1 := hP 1 (by decide)
    have a2 := hP 2 (by decide)
    have a3 := hP 3 (by decide)
    simp only [Nat.add_zero, Nat.reduceAdd] at a0 a1 a2 a3
    show (((0 ||| g (18 + 0) * 2 ^ (3 * 0)) ||| g (18 + 1) * 2 ^ (3 * 1)) ||| g (18 + 2) * 2 ^ (3 * 2)) ||| g (18 + 3) * 2 ^ (3 * 3) = _
    simp only [Nat.add_zero, Nat.mul_zero, Nat.pow_zero, Nat.mul_one, Nat.zero_or, Nat.reduceAdd, Nat.reduceMul]
    rw [Nat.or_comm, Nat.mul_comm (g 21), ← Nat.two_pow_add_eq_or_of_lt, Nat.or_comm, Nat.mul_comm (g 20), ← Nat.two_pow_add_eq_or_of_lt, Nat.or_comm, Nat.mul_comm (g 19), ← Nat.two_pow_add_eq_or_of_lt]
    · omega
    · exact a0
    · exact Nat.or_lt_two_pow (n := 6) (by omega) (by omega)
    · refine Nat.or_lt_two_pow (n := 9) (Nat.or_lt_two_pow (n := 9) (by omega) (by omega)) (by omega)
  intro p hp
  have a0 := hP 0 (by decide)
  have a1 := hP 1 (by decide)
  have a2 := hP 2 (by decide)
  have a3 := hP 3 (by decide)
  simp only [Nat.add_zero, Nat.reduceAdd] at a0 a1 a2 a3
  rcases c4 hp with h | h | h | h <;> subst h
  · rw [dg_0, e]; show _ = g 18; omega
  · rw [dg_1, e]; show _ = g 19; omega
  · rw [dg_2, e]; show _ = g 20; omega
  · rw [dg_3, e]; show _ = g 21; omega
section
variable {i : Nat → Nat → Int32} {l : Nat → Nat → Int64} {g : Nat → Nat}
theorem r_M_spot (d : Nat) (x y : Int32) {σ : St} (hS : MS i l σ) (hW : WG σ.1) : MR (some (.int (v_spot σ.1 x y))) (fun i' l' => MS i' l' (σ)) (am_cl (d + 4) mM_spot [.ref 0, .int x, .int y] (i, l, rM, kM)) := by
  obtain ⟨g, σ⟩ := σ
  obtain ⟨⟨h1', h1⟩, h2, h3, hR, hF, hP, hSt, hD, hL0, hL1, hV⟩ := hW
  have h1 : g 1 ≤ 6 := h1
  have h2 : g 2 ≤ 4 := h2
  have hR : ∀ p, p < 4 → g (10 + p) ≤ 4 := hR
  have hP : ∀ p, p < 4 → g (18 + p) < 8 := hP
  have hSt : ∀ p, p < 4 → g (22 + p) ≤ 9 := hSt
  have hD : ∀ s, s < 6 → g (26 + s) ≤ 9 := hD
  have hA := hS.1
  have hn := sNow_lt g hP 4 (by decide)
  have hf0 : Fx [100] i (am_u2 i 0 0 (nI 0)) := by (repeat (first | exact Fx_refl _ _ | assumption | refine Fx_u2 rfl ?_ | refine Fx_u1 rfl (by decide) ?_ | refine Fx_step (by assumption) rfl ?_ | refine Fx_stepr (by assumption) rfl rfl ?_))
  have hM0 : MA (am_u2 i 0 0 (nI 0)) g := MA_fx hf0 hA rfl
  have hM0' : ∀ k, k < 3222 → am_u2 i 0 0 (nI 0) 1 k = nI (g k) := hM0
  rw [c_M_spot, b_M_spot_0, v_spot]
  by_cases hx : iS g x = true
  · have hx' := hx
    obtain ⟨s, hs1, hs2, rfl⟩ := iS_T hx
    by_cases hy : iR 0 1 y = true
    · have hA0 : ∀ k, k < 3222 → i 1 k = nI (g k) := hA
      have e26 : 26 + s - 1 = 25 + s := by omega
      by_cases hy0 : y = nI 0
      · simp (disch := first | assumption | omega) only [b_M_spot_0, b_M_spot_11, b_M_spot_21, b_M_spot_24, b_M_spot_50, b_M_spot_54, s_M_isSpot'', s_M_standNow, s_M_whoIn, s_M_within, ↓Bool.cond_decide, ↓q_in, q_le, q_lt, q_eq, q_leT, q_leF, q_ltT, q_ltF, q_eqT, q_eqF, ↓reduceIte, not_true_eq_false, not_false_eq_true, true_and, and_true, and_self, false_and, and_false, Nat.zero_le, am_bd_some, q_app, q_app0, nI_add, pk_sub, pk_mul, q_dec, q_ix, q_m1, q_m1', ↓q_ret, q_bool, q_bool1, q_u2, q_u1, q_shl1, q_shr, q_and7, q_dg, fa_or, fa_and, decide_true, decide_false, Bool.or_false, Bool.or_true, Bool.true_or, Bool.false_or, cond_true, cond_false, ite_not, q_some, q_nn, q_xor, q_xorm, Bool.false_eq_true, decide_eq_true_eq, ne_eq, l_0, l_1, l_2, l_3, l_4, l_9, l_11, l_19, l_21, l_24, l_26, l_50, l_54, l_3222, s_M_isSpot'', hx, iR_e 0 1 (lo := 0) (hi := 1) rfl rfl, hy, hy0, hA0, e26]
        exact MR_some (MS_fx (R := RQ) (by (repeat (first | exact Fx_refl _ _ | assumption | refine Fx_u2 rfl ?_ | refine Fx_u1 rfl (by decide) ?_ | refine Fx_step (by assumption) rfl ?_ | refine Fx_stepr (by assumption) rfl rfl ?_))) rfl rfl hS)
      · simp (disch := first | assumption | omega) only [b_M_spot_0, b_M_spot_11, b_M_spot_21, b_M_spot_24, b_M_spot_50, b_M_spot_54, s_M_isSpot'', s_M_standNow, s_M_whoIn, s_M_within, ↓Bool.cond_decide, ↓q_in, q_le, q_lt, q_eq, q_leT, q_leF, q_ltT, q_ltF, q_eqT, q_eqF, ↓reduceIte, not_true_eq_false, not_false_eq_true, true_and, and_true, and_self, false_and, and_false, Nat.zero_le, am_bd_some, q_app, q_app0, nI_add, pk_sub, pk_mul, q_dec, q_ix, q_m1, q_m1', ↓q_ret, q_bool, q_bool1, q_u2, q_u1, q_shl1, q_shr, q_and7, q_dg, fa_or, fa_and, decide_true, decide_false, Bool.or_false, Bool.or_true, Bool.true_or, Bool.false_or, cond_true, cond_false, ite_not, q_some, q_nn, q_xor, q_xorm, Bool.false_eq_true, decide_eq_true_eq, ne_eq, l_0, l_1, l_2, l_3, l_4, l_9, l_11, l_19, l_21, l_24, l_26, l_50, l_54, l_3222, s_M_isSpot'', hx, iR_e 0 1 (lo := 0) (hi := 1) rfl rfl, hy, hy0]
        exact MR_some (MS_fx (R := RQ) (by (repeat (first | exact Fx_refl _ _ | assumption | refine Fx_u2 rfl ?_ | refine Fx_u1 rfl (by decide) ?_ | refine Fx_step (by assumption) rfl ?_ | refine Fx_stepr (by assumption) rfl rfl ?_))) rfl rfl hS)
    · simp (disch := first | assumption | omega) only [b_M_spot_0, b_M_spot_11, b_M_spot_21, b_M_spot_24, b_M_spot_50, b_M_spot_54, s_M_isSpot'', s_M_standNow, s_M_whoIn, s_M_within, ↓Bool.cond_decide, ↓q_in, q_le, q_lt, q_eq, q_leT, q_leF, q_ltT, q_ltF, q_eqT, q_eqF, ↓reduceIte, not_true_eq_false, not_false_eq_true, true_and, and_true, and_self, false_and, and_false, Nat.zero_le, am_bd_some, q_app, q_app0, nI_add, pk_sub, pk_mul, q_dec, q_ix, q_m1, q_m1', ↓q_ret, q_bool, q_bool1, q_u2, q_u1, q_shl1, q_shr, q_and7, q_dg, fa_or, fa_and, decide_true, decide_false, Bool.or_false, Bool.or_true, Bool.true_or, Bool.false_or, cond_true, cond_false, ite_not, q_some, q_nn, q_xor, q_xorm, Bool.false_eq_true, decide_eq_true_eq, ne_eq, l_0, l_1, l_2, l_3, l_4, l_9, l_11, l_19, l_21, l_24, l_26, l_50, l_54, l_3222, s_M_isSpot'', hx, iR_e 0 1 (lo := 0) (hi := 1) rfl rfl, hy]
      exact MR_some (MS_fx (R := RQ) (by (repeat (first | exact Fx_refl _ _ | assumption | refine Fx_u2 rfl ?_ | refine Fx_u1 rfl (by decide) ?_ | refine Fx_step (by assumption) rfl ?_ | refine Fx_stepr (by assumption) rfl rfl ?_))) rfl rfl hS)
  · simp (disch := first | assumption | omega) only [b_M_spot_0, b_M_spot_11, b_M_spot_21, b_M_spot_24, b_M_spot_50, b_M_spot_54, s_M_isSpot'', s_M_standNow, s_M_whoIn, s_M_within, ↓Bool.cond_decide, ↓q_in, q_le, q_lt, q_eq, q_leT, q_leF, q_ltT, q_ltF, q_eqT, q_eqF, ↓reduceIte, not_true_eq_false, not_false_eq_true, true_and, and_true, and_self, false_and, and_false, Nat.zero_le, am_bd_some, q_app, q_app0, nI_add, pk_sub, pk_mul, q_dec, q_ix, q_m1, q_m1', ↓q_ret, q_bool, q_bool1, q_u2, q_u1, q_shl1, q_shr, q_and7, q_dg, fa_or, fa_and, decide_true, decide_false, Bool.or_false, Bool.or_true, Bool.true_or, Bool.false_or, cond_true, cond_false, ite_not, q_some, q_nn, q_xor, q_xorm, Bool.false_eq_true, decide_eq_true_eq, ne_eq, l_0, l_1, l_2, l_3, l_4, l_9, l_11, l_19, l_21, l_24, l_26, l_50, l_54, l_3222, s_M_isSpot'', hx]
    exact MR_some (MS_fx (R := RQ) (by (repeat (first | exact Fx_refl _ _ | assumption | refine Fx_u2 rfl ?_ | refine Fx_u1 rfl (by decide) ?_ | refine Fx_step (by assumption) rfl ?_ | refine Fx_stepr (by assumption) rfl rfl ?_))) rfl rfl hS)
theorem r_M_trusts (d : Nat) (x y z : Int32) {σ : St} (hS : MS i l σ) (hW : WG σ.1) : MR (some (.int (v_trusts σ.1 x y z))) (fun i' l' => MS i' l' (σ)) (am_cl (d + 4) mM_trusts [.ref 0, .int x, .int y, .int z] (i, l, rM, kM)) := by
  obtain ⟨g, σ⟩ := σ
  obtain ⟨⟨h1', h1⟩, h2, h3, hR, hF, hP, hSt, hD, hL0, hL1, hV⟩ := hW
  have h1 : g 1 ≤ 6 := h1
  have h2 : g 2 ≤ 4 := h2
  have hR : ∀ p, p < 4 → g (10 + p) ≤ 4 := hR
  have hP : ∀ p, p < 4 → g (18 + p) < 8 := hP
  have hSt : ∀ p, p < 4 → g (22 + p) ≤ 9 := hSt
  have hD : ∀ s, s < 6 → g (26 + s) ≤ 9 := hD
  have hA := hS.1
  have hn := sNow_lt g hP 4 (by decide)
  have hf0 : Fx [100] i (am_u2 i 0 0 (nI 0)) := by (repeat (first | exact Fx_refl _ _ | assumption | refine Fx_u2 rfl ?_ | refine Fx_u1 rfl (by decide) ?_ | refine Fx_step (by assumption) rfl ?_ | refine Fx_stepr (by assumption) rfl rfl ?_))
  have hM0 : MA (am_u2 i 0 0 (nI 0)) g := MA_fx hf0 hA rfl
  have hM0' : ∀ k, k < 3222 → am_u2 i 0 0 (nI 0) 1 k = nI (g k) := hM0
  rw [c_M_trusts, b_M_trusts_0, v_trusts]
  by_cases hx : iB x (g 2) = true
  · by_cases hy : iB y (g 2) = true
    · by_cases hxy : x = y
      · simp (disch := first | assumption | omega) only [b_M_trusts_0, b_M_trusts_11, b_M_trusts_20, b_M_trusts_28, b_M_trusts_40, b_M_trusts_55, b_M_trusts_63, s_M_isPerson, s_M_within, ↓Bool.cond_decide, ↓q_in, q_le, q_lt, q_eq, q_leT, q_leF, q_ltT, q_ltF, q_eqT, q_eqF, ↓reduceIte, not_true_eq_false, not_false_eq_true, true_and, and_true, and_self, false_and, and_false, Nat.zero_le, am_bd_some, q_app, q_app0, nI_add, pk_sub, pk_mul, q_dec, q_ix, q_m1, q_m1', ↓q_ret, q_bool, q_bool1, q_u2, q_u1, q_shl1, q_shr, q_and7, q_dg, fa_or, fa_and, decide_true, decide_false, Bool.or_false, Bool.or_true, Bool.true_or, Bool.false_or, cond_true, cond_false, ite_not, q_some, q_nn, q_xor, q_xorm, Bool.false_eq_true, decide_eq_true_eq, ne_eq, l_0, l_1, l_2, l_3, l_4, l_8, l_9, l_11, l_13, l_20, l_28, l_40, l_55, l_63, hx, hy, hxy]
        exact MR_some (MS_fx (R := RQ) (by (repeat (first | exact Fx_refl _ _ | assumption | refine Fx_u2 rfl ?_ | refine Fx_u1 rfl (by decide) ?_ | refine Fx_step (by assumption) rfl ?_ | refine Fx_stepr (by assumption) rfl rfl ?_))) rfl rfl hS)
      · by_cases hz : iR 1 4 z = true
        · simp (disch := first | assumption | omega) only [b_M_trusts_0, b_M_trusts_11, b_M_trusts_20, b_M_trusts_28, b_M_trusts_40, b_M_trusts_55, b_M_trusts_63, s_M_isPerson, s_M_within, ↓Bool.cond_decide, ↓q_in, q_le, q_lt, q_eq, q_leT, q_leF, q_ltT, q_ltF, q_eqT, q_eqF, ↓reduceIte, not_true_eq_false, not_false_eq_true, true_and, and_true, and_self, false_and, and_false, Nat.zero_le, am_bd_some, q_app, q_app0, nI_add, pk_sub, pk_mul, q_dec, q_ix, q_m1, q_m1', ↓q_ret, q_bool, q_bool1, q_u1, q_shl1, q_shr, q_and7, q_dg, fa_or, fa_and, decide_true, decide_false, Bool.or_false, Bool.or_true, Bool.true_or, Bool.false_or, cond_true, cond_false, ite_not, q_some, q_nn, q_xor, q_xorm, Bool.false_eq_true, decide_eq_true_eq, ne_eq, l_0, l_1, l_2, l_3, l_4, l_8, l_9, l_11, l_13, l_20, l_28, l_40, l_55, l_63, hx, hy, hxy, iR_e 1 4 (lo := 1) (hi := 4) rfl rfl, hz]
          obtain ⟨p, hp, rfl⟩ := iB_T hx
          obtain ⟨q, hq, rfl⟩ := iB_T hy
          obtain ⟨n, hn1, hn2, rfl⟩ := iR_T hz
          refine MR_bd (r_M_trustsFor d (p := p) (q := q) (gap := n) (by omega) (by omega) hM0 hL1) ?_
          intro i1 l1 ⟨hl1, hf1⟩
          subst hl1
          cases ht : sTrust g p q n with
          | true =>
            simp (disch := first | assumption | omega) only [b_M_trusts_0, b_M_trusts_11, b_M_trusts_20, b_M_trusts_28, b_M_trusts_40, b_M_trusts_55, b_M_trusts_63, s_M_isPerson, s_M_within, ↓Bool.cond_decide, ↓q_in, q_le, q_lt, q_eq, q_leT, q_leF, q_ltT, q_ltF, q_eqT, q_eqF, ↓reduceIte, not_true_eq_false, not_false_eq_true, true_and, and_true, and_self, false_and, and_false, Nat.zero_le, am_bd_some, q_app, q_app0, nI_add, pk_sub, pk_mul, q_dec, q_ix, q_m1, q_m1', ↓q_ret, q_bool, q_bool1, q_u2, q_u1, q_shl1, q_shr, q_and7, q_dg, fa_or, fa_and, decide_true, decide_false, Bool.or_false, Bool.or_true, Bool.true_or, Bool.false_or, cond_true, cond_false, ite_not, q_some, q_nn, q_xor, q_xorm, Bool.false_eq_true, decide_eq_true_eq, ne_eq, l_0, l_1, l_2, l_3, l_4, l_8, l_9, l_11, l_13, l_20, l_28, l_40, l_55, l_63, ht]
            exact MR_some (MS_fx (R := RQ) (by (repeat (first | exact Fx_refl _ _ | assumption | refine Fx_u2 rfl ?_ | refine Fx_u1 rfl (by decide) ?_ | refine Fx_step (by assumption) rfl ?_ | refine Fx_stepr (by assumption) rfl rfl ?_))) rfl rfl hS)
          | false =>
            simp (disch := first | assumption | omega) only [b_M_trusts_0, b_M_trusts_11, b_M_trusts_20, b_M_trusts_28, b_M_trusts_40, b_M_trusts_55, b_M_trusts_63, s_M_isPerson, s_M_within, ↓Bool.cond_decide, ↓q_in, q_le, q_lt, q_eq, q_leT, q_leF, q_ltT, q_ltF, q_eqT, q_eqF, ↓reduceIte, not_true_eq_false, not_false_eq_true, true_and, and_true, and_self, false_and, and_false, Nat.zero_le, am_bd_some, q_app, q_app0, nI_add, pk_sub, pk_mul, q_dec, q_ix, q_m1, q_m1', ↓q_ret, q_bool, q_bool1, q_u2, q_u1, q_shl1, q_shr, q_and7, q_dg, fa_or, fa_and, decide_true, decide_false, Bool.or_false, Bool.or_true, Bool.true_or, Bool.false_or, cond_true, cond_false, ite_not, q_some, q_nn, q_xor, q_xorm, Bool.false_eq_true, decide_eq_true_eq, ne_eq, l_0, l_1, l_2, l_3, l_4, l_8, l_9, l_11, l_13, l_20, l_28, l_40, l_55, l_63, ht]
            exact MR_some (MS_fx (R := RQ) (by (repeat (first | exact Fx_refl _ _ | assumption | refine Fx_u2 rfl ?_ | refine Fx_u1 rfl (by decide) ?_ | refine Fx_step (by assumption) rfl ?_ | refine Fx_stepr (by assumption) rfl rfl ?_))) rfl rfl hS)
        · simp (disch := first | assumption | omega) only [b_M_trusts_0, b_M_trusts_11, b_M_trusts_20, b_M_trusts_28, b_M_trusts_40, b_M_trusts_55, b_M_trusts_63, s_M_isPerson, s_M_within, ↓Bool.cond_decide, ↓q_in, q_le, q_lt, q_eq, q_leT, q_leF, q_ltT, q_ltF, q_eqT, q_eqF, ↓reduceIte, not_true_eq_false, not_false_eq_true, true_and, and_true, and_self, false_and, and_false, Nat.zero_le, am_bd_some, q_app, q_app0, nI_add, pk_sub, pk_mul, q_dec, q_ix, q_m1, q_m1', ↓q_ret, q_bool, q_bool1, q_u2, q_u1, q_shl1, q_shr, q_and7, q_dg, fa_or, fa_and, decide_true, decide_false, Bool.or_false, Bool.or_true, Bool.true_or, Bool.false_or, cond_true, cond_false, ite_not, q_some, q_nn, q_xor, q_xorm, Bool.false_eq_true, decide_eq_true_eq, ne_eq, l_0, l_1, l_2, l_3, l_4, l_8, l_9, l_11, l_13, l_20, l_28, l_40, l_55, l_63, hx, hy, hxy, iR_e 1 4 (lo := 1) (hi := 4) rfl rfl, hz]
          exact MR_some (MS_fx (R := RQ) (by (repeat (first | exact Fx_refl _ _ | assumption | refine Fx_u2 rfl ?_ | refine Fx_u1 rfl (by decide) ?_ | refine Fx_step (by assumption) rfl ?_ | refine Fx_stepr (by assumption) rfl rfl ?_))) rfl rfl hS)
    · simp (disch := first | assumption | omega) only [b_M_trusts_0, b_M_trusts_11, b_M_trusts_20, b_M_trusts_28, b_M_trusts_40, b_M_trusts_55, b_M_trusts_63, s_M_isPerson, s_M_within, ↓Bool.cond_decide, ↓q_in, q_le, q_lt, q_eq, q_leT, q_leF, q_ltT, q_ltF, q_eqT, q_eqF, ↓reduceIte, not_true_eq_false, not_false_eq_true, true_and, and_true, and_self, false_and, and_false, Nat.zero_le, am_bd_some, q_app, q_app0, nI_add, pk_sub, pk_mul, q_dec, q_ix, q_m1, q_m1', ↓q_ret, q_bool, q_bool1, q_u2, q_u1, q_shl1, q_shr, q_and7, q_dg, fa_or, fa_and, decide_true, decide_false, Bool.or_false, Bool.or_true, Bool.true_or, Bool.false_or, cond_true, cond_false, ite_not, q_some, q_nn, q_xor, q_xorm, Bool.false_eq_true, decide_eq_true_eq, ne_eq, l_0, l_1, l_2, l_3, l_4, l_8, l_9, l_11, l_13, l_20, l_28, l_40, l_55, l_63, hx, hy]
      exact MR_some (MS_fx (R := RQ) (by (repeat (first | exact Fx_refl _ _ | assumption | refine Fx_u2 rfl ?_ | refine Fx_u1 rfl (by decide) ?_ | refine Fx_step (by assumption) rfl ?_ | refine Fx_stepr (by assumption) rfl rfl ?_))) rfl rfl hS)
  · simp (disch := first | assumption | omega) only [b_M_trusts_0, b_M_trusts_11, b_M_trusts_20, b_M_trusts_28, b_M_trusts_40, b_M_trusts_55, b_M_trusts_63, s_M_isPerson, s_M_within, ↓Bool.cond_decide, ↓q_in, q_le, q_lt, q_eq, q_leT, q_leF, q_ltT, q_ltF, q_eqT, q_eqF, ↓reduceIte, not_true_eq_false, not_false_eq_true, true_and, and_true, and_self, false_and, and_false, Nat.zero_le, am_bd_some, q_app, q_app0, nI_add, pk_sub, pk_mul, q_dec, q_ix, q_m1, q_m1', ↓q_ret, q_bool, q_bool1, q_u2, q_u1, q_shl1, q_shr, q_and7, q_dg, fa_or, fa_and, decide_true, decide_false, Bool.or_false, Bool.or_true, Bool.true_or, Bool.false_or, cond_true, cond_false, ite_not, q_some, q_nn, q_xor, q_xorm, Bool.false_eq_true, decide_eq_true_eq, ne_eq, l_0, l_1, l_2, l_3, l_4, l_8, l_9, l_11, l_13, l_20, l_28, l_40, l_55, l_63, hx]
    exact MR_some (MS_fx (R := RQ) (by (repeat (first | exact Fx_refl _ _ | assumption | refine Fx_u2 rfl ?_ | refine Fx_u1 rfl (by decide) ?_ | refine Fx_step (by assumption) rfl ?_ | refine Fx_stepr (by assumption) rfl rfl ?_))) rfl rfl hS)
theorem r_M_holds (d : Nat) (x y : Int32) {σ : St} (hS : MS i l σ) (hW : WG σ.1) : MR (some (.int (v_holds σ.1 x y))) (fun i' l' => MS i' l' (σ)) (am_cl (d + 5) mM_holds [.ref 0, .int x, .int y] (i, l, rM, kM)) := by
  obtain ⟨g, σ⟩ := σ
  obtain ⟨⟨h1', h1⟩, h2, h3, hR, hF, hP, hSt, hD, hL0, hL1, hV⟩ := hW
  have h1 : g 1 ≤ 6 := h1
  have h2 : g 2 ≤ 4 := h2
  have hR : ∀ p, p < 4 → g (10 + p) ≤ 4 := hR
  have hP : ∀ p, p < 4 → g (18 + p) < 8 := hP
  have hSt : ∀ p, p < 4 → g (22 + p) ≤ 9 := hSt
  have hD : ∀ s, s < 6 → g (26 + s) ≤ 9 := hD
  have hA := hS.1
  have hn := sNow_lt g hP 4 (by decide)
  have hf0 : Fx [100] i (am_u2 i 0 0 (nI 0)) := by (repeat (first | exact Fx_refl _ _ | assumption | refine Fx_u2 rfl ?_ | refine Fx_u1 rfl (by decide) ?_ | refine Fx_step (by assumption) rfl ?_ | refine Fx_stepr (by assumption) rfl rfl ?_))
  have hM0 : MA (am_u2 i 0 0 (nI 0)) g := MA_fx hf0 hA rfl
  have hM0' : ∀ k, k < 3222 → am_u2 i 0 0 (nI 0) 1 k = nI (g k) := hM0
  rw [c_M_holds, b_M_holds_0, v_holds]
  by_cases hx : iB x (g 2) = true
  · by_cases hy : iB y 10 = true
    · have hx' := hx
      obtain ⟨p, hp, rfl⟩ := iB_T hx'
      have hpp := hP p (by omega)
      have hA0 : ∀ k, k < 3222 → i 1 k = nI (g k) := hA
      cases hsp : sSpot g (g (18 + p)) with
      | true =>
        simp (disch := first | assumption | omega) only [b_M_holds_0, b_M_holds_11, b_M_holds_22, b_M_holds_33, b_M_holds_46, b_M_holds_60, b_M_holds_68, s_M_isPerson, s_M_isUp, s_M_isWater', s_M_standNow, ↓Bool.cond_decide, ↓q_in, q_le, q_lt, q_eq, q_leT, q_leF, q_ltT, q_ltF, q_eqT, q_eqF, ↓reduceIte, not_true_eq_false, not_false_eq_true, true_and, and_true, and_self, false_and, and_false, Nat.zero_le, am_bd_some, q_app, q_app0, nI_add, pk_sub, pk_mul, q_dec, q_ix, q_m1, q_m1', ↓q_ret, q_bool, q_bool1, q_u1, q_shl1, q_shr, q_and7, q_dg, fa_or, fa_and, decide_true, decide_false, Bool.or_false, Bool.or_true, Bool.true_or, Bool.false_or, cond_true, cond_false, ite_not, q_some, q_nn, q_xor, q_xorm, Bool.false_eq_true, decide_eq_true_eq, ne_eq, l_0, l_1, l_2, l_3, l_5, l_8, l_9, l_11, l_22, l_33, l_46, l_60, l_68, l_3222, hx, hy, s_M_isWater', hsp, hM0']
        obtain ⟨w, hw, rfl⟩ := iB_T hy
        have hd := dg_sNow hP p (by omega)
        have hst := hSt p (by omega)
        refine MR_bd (r_M_holdsIn d hn (p := p) (str := g (22 + p)) (water := w) (by omega) (by omega) (by omega) hM0 h1 h2 (by rw [hd]; exact hsp) hL0) ?_
        intro i1 l1 ⟨hl1, hf1⟩
        subst hl1
        cases ht : sHold g (sNow g 4) p (g (22 + p)) w with
        | true =>
          simp (disch := first | assumption | omega) only [b_M_holds_0, b_M_holds_11, b_M_holds_22, b_M_holds_33, b_M_holds_46, b_M_holds_60, b_M_holds_68, s_M_isPerson, s_M_isUp, s_M_isWater, s_M_isWater', s_M_standNow, ↓Bool.cond_decide, ↓q_in, q_le, q_lt, q_eq, q_leT, q_leF, q_ltT, q_ltF, q_eqT, q_eqF, ↓reduceIte, not_true_eq_false, not_false_eq_true, true_and, and_true, and_self, false_and, and_false, Nat.zero_le, am_bd_some, q_app, q_app0, nI_add, pk_sub, pk_mul, q_dec, q_ix, q_m1, q_m1', ↓q_ret, q_bool, q_bool1, q_u2, q_u1, q_shl1, q_shr, q_and7, q_dg, fa_or, fa_and, decide_true, decide_false, Bool.or_false, Bool.or_true, Bool.true_or, Bool.false_or, cond_true, cond_false, ite_not, q_some, q_nn, q_xor, q_xorm, Bool.false_eq_true, decide_eq_true_eq, ne_eq, l_0, l_1, l_2, l_3, l_5, l_8, l_9, l_11, l_22, l_33, l_46, l_60, l_68, l_3222, ht]
          exact MR_some (MS_fx (R := RQ) (by (repeat (first | exact Fx_refl _ _ | assumption | refine Fx_u2 rfl ?_ | refine Fx_u1 rfl (by decide) ?_ | refine Fx_step (by assumption) rfl ?_ | refine Fx_stepr (by assumption) rfl rfl ?_))) rfl rfl hS)
        | false =>
          simp (disch := first | assumption | omega) only [b_M_holds_0, b_M_holds_11, b_M_holds_22, b_M_holds_33, b_M_holds_46, b_M_holds_60, b_M_holds_68, s_M_isPerson, s_M_isUp, s_M_isWater, s_M_isWater', s_M_standNow, ↓Bool.cond_decide, ↓q_in, q_le, q_lt, q_eq, q_leT, q_leF, q_ltT, q_ltF, q_eqT, q_eqF, ↓reduceIte, not_true_eq_false, not_false_eq_true, true_and, and_true, and_self, false_and, and_false, Nat.zero_le, am_bd_some, q_app, q_app0, nI_add, pk_sub, pk_mul, q_dec, q_ix, q_m1, q_m1', ↓q_ret, q_bool, q_bool1, q_u2, q_u1, q_shl1, q_shr, q_and7, q_dg, fa_or, fa_and, decide_true, decide_false, Bool.or_false, Bool.or_true, Bool.true_or, Bool.false_or, cond_true, cond_false, ite_not, q_some, q_nn, q_xor, q_xorm, Bool.false_eq_true, decide_eq_true_eq, ne_eq, l_0, l_1, l_2, l_3, l_5, l_8, l_9, l_11, l_22, l_33, l_46, l_60, l_68, l_3222, ht]
          exact MR_some (MS_fx (R := RQ) (by (repeat (first | exact Fx_refl _ _ | assumption | refine Fx_u2 rfl ?_ | refine Fx_u1 rfl (by decide) ?_ | refine Fx_step (by assumption) rfl ?_ | refine Fx_stepr (by assumption) rfl rfl ?_))) rfl rfl hS)
      | false =>
        simp (disch := first | assumption | omega) only [b_M_holds_0, b_M_holds_11, b_M_holds_22, b_M_holds_33, b_M_holds_46, b_M_holds_60, b_M_holds_68, s_M_isPerson, s_M_isUp, s_M_isWater', s_M_standNow, ↓Bool.cond_decide, ↓q_in, q_le, q_lt, q_eq, q_leT, q_leF, q_ltT, q_ltF, q_eqT, q_eqF, ↓reduceIte, not_true_eq_false, not_false_eq_true, true_and, and_true, and_self, false_and, and_false, Nat.zero_le, am_bd_some, q_app, q_app0, nI_add, pk_sub, pk_mul, q_dec, q_ix, q_m1, q_m1', ↓q_ret, q_bool, q_bool1, q_u1, q_shl1, q_shr, q_and7, q_dg, fa_or, fa_and, decide_true, decide_false, Bool.or_false, Bool.or_true, Bool.true_or, Bool.false_or, cond_true, cond_false, ite_not, q_some, q_nn, q_xor, q_xorm, Bool.false_eq_true, decide_eq_true_eq, ne_eq, l_0, l_1, l_2, l_3, l_5, l_8, l_9, l_11, l_22, l_33, l_46, l_60, l_68, l_3222, hx, hy, s_M_isWater', hsp]
        exact MR_some (MS_fx (R := RQ) (by (repeat (first | exact Fx_refl _ _ | assumption | refine Fx_u2 rfl ?_ | refine Fx_u1 rfl (by decide) ?_ | refine Fx_step (by assumption) rfl ?_ | refine Fx_stepr (by assumption) rfl rfl ?_))) rfl rfl hS)
    · simp (disch := first | assumption | omega) only [b_M_holds_0, b_M_holds_11, b_M_holds_22, b_M_holds_33, b_M_holds_46, b_M_holds_60, b_M_holds_68, s_M_isPerson, s_M_isUp, s_M_isWater', s_M_standNow, ↓Bool.cond_decide, ↓q_in, q_le, q_lt, q_eq, q_leT, q_leF, q_ltT, q_ltF, q_eqT, q_eqF, ↓reduceIte, not_true_eq_false, not_false_eq_true, true_and, and_true, and_self, false_and, and_false, Nat.zero_le, am_bd_some, q_app, q_app0, nI_add, pk_sub, pk_mul, q_dec, q_ix, q_m1, q_m1', ↓q_ret, q_bool, q_bool1, q_u2, q_u1, q_shl1, q_shr, q_and7, q_dg, fa_or, fa_and, decide_true, decide_false, Bool.or_false, Bool.or_true, Bool.true_or, Bool.false_or, cond_true, cond_false, ite_not, q_some, q_nn, q_xor, q_xorm, Bool.false_eq_true, decide_eq_true_eq, ne_eq, l_0, l_1, l_2, l_3, l_5, l_8, l_9, l_11, l_22, l_33, l_46, l_60, l_68, l_3222, hx, hy, s_M_isWater']
      exact MR_some (MS_fx (R := RQ) (by (repeat (first | exact Fx_refl _ _ | assumption | refine Fx_u2 rfl ?_ | refine Fx_u1 rfl (by decide) ?_ | refine Fx_step (by assumption) rfl ?_ | refine Fx_stepr (by assumption) rfl rfl ?_))) rfl rfl hS)
  · simp (disch := first | assumption | omega) only [b_M_holds_0, b_M_holds_11, b_M_holds_22, b_M_holds_33, b_M_holds_46, b_M_holds_60, b_M_holds_68, s_M_isPerson, s_M_isUp, s_M_isWater, s_M_isWater', s_M_standNow, ↓Bool.cond_decide, ↓q_in, q_le, q_lt, q_eq, q_leT, q_leF, q_ltT, q_ltF, q_eqT, q_eqF, ↓reduceIte, not_true_eq_false, not_false_eq_true, true_and, and_true, and_self, false_and, and_false, Nat.zero_le, am_bd_some, q_app, q_app0, nI_add, pk_sub, pk_mul, q_dec, q_ix, q_m1, q_m1', ↓q_ret, q_bool, q_bool1, q_u2, q_u1, q_shl1, q_shr, q_and7, q_dg, fa_or, fa_and, decide_true, decide_false, Bool.or_false, Bool.or_true, Bool.true_or, Bool.false_or, cond_true, cond_false, ite_not, q_some, q_nn, q_xor, q_xorm, Bool.false_eq_true, decide_eq_true_eq, ne_eq, l_0, l_1, l_2, l_3, l_5, l_8, l_9, l_11, l_22, l_33, l_46, l_60, l_68, l_3222, hx]
    exact MR_some (MS_fx (R := RQ) (by (repeat (first | exact Fx_refl _ _ | assumption | refine Fx_u2 rfl ?_ | refine Fx_u1 rfl (by decide) ?_ | refine Fx_step (by assumption) rfl ?_ | refine Fx_stepr (by assumption) rfl rfl ?_))) rfl rfl hS)
theorem r_M_steps (d : Nat) (x y : Int32) {σ : St} (hS : MS i l σ) (hW : WG σ.1) : MR (some (.int (v_steps σ.1 x y))) (fun i' l' => MS i' l' (σ)) (am_cl (d + 7) mM_steps [.ref 0, .int x, .int y] (i, l, rM, kM)) := by
  obtain ⟨g, σ⟩ := σ
  obtain ⟨⟨h1', h1⟩, h2, h3, hR, hF, hP, hSt, hD, hL0, hL1, hV⟩ := hW
  have h1 : g 1 ≤ 6 := h1
  have h2 : g 2 ≤ 4 := h2
  have hR : ∀ p, p < 4 → g (10 + p) ≤ 4 := hR
  have hP : ∀ p, p < 4 → g (18 + p) < 8 := hP
  have hSt : ∀ p, p < 4 → g (22 + p) ≤ 9 := hSt
  have hD : ∀ s, s < 6 → g (26 + s) ≤ 9 := hD
  have hA := hS.1
  have hn := sNow_lt g hP 4 (by decide)
  have hf0 : Fx [100] i (am_u2 i 0 0 (nI 0)) := by (repeat (first | exact Fx_refl _ _ | assumption | refine Fx_u2 rfl ?_ | refine Fx_u1 rfl (by decide) ?_ | refine Fx_step (by assumption) rfl ?_ | refine Fx_stepr (by assumption) rfl rfl ?_))
  have hM0 : MA (am_u2 i 0 0 (nI 0)) g := MA_fx hf0 hA rfl
  have hM0' : ∀ k, k < 3222 → am_u2 i 0 0 (nI 0) 1 k = nI (g k) := hM0
  rw [c_M_steps, b_M_steps_0, v_steps]
  by_cases hx : iB x (g 2) = true
  · by_cases hy : iB y (g 1 + 2) = true
    · simp (disch := first | assumption | omega) only [b_M_steps_0, b_M_steps_11, b_M_steps_20, b_M_steps_23, b_M_steps_30, b_M_steps_35, b_M_steps_48, b_M_steps_53, b_M_steps_66, s_M_isIn, s_M_isPerson, s_M_isPlace, s_M_standNow, ↓Bool.cond_decide, ↓q_in, q_le, q_lt, q_eq, q_leT, q_leF, q_ltT, q_ltF, q_eqT, q_eqF, ↓reduceIte, not_true_eq_false, not_false_eq_true, true_and, and_true, and_self, false_and, and_false, Nat.zero_le, am_bd_some, q_app, q_app0, nI_add, pk_sub, pk_mul, q_dec, q_ix, q_m1, q_m1', ↓q_ret, q_bool, q_bool1, q_u1, q_shl1, q_shr, q_and7, q_dg, fa_or, fa_and, decide_true, decide_false, Bool.or_false, Bool.or_true, Bool.true_or, Bool.false_or, cond_true, cond_false, ite_not, q_some, q_nn, q_xor, q_xorm, Bool.false_eq_true, decide_eq_true_eq, ne_eq, l_0, l_1, l_2, l_3, l_4, l_5, l_6, l_7, l_8, l_9, l_10, l_11, l_20, l_23, l_30, l_35, l_48, l_53, l_66, l_3222, hx, hy]
      obtain ⟨p, hp, rfl⟩ := iB_T hx
      obtain ⟨t, ht, rfl⟩ := iB_T hy
      obtain ⟨i1, l1, e1, hl1, hf1, hT1⟩ := r_M_laysTrust (d + 2) (l := l) hM0 h2 hL1
      subst hl1
      have hA1 : ∀ k, k < 3222 → i1 1 k = nI (g k) := MA_fr hf1 hM0 rfl
      have hM1 : MA i1 g := hA1
      have hr := hR p (by omega)
      have hr' : g (10 + p) ≤ 4 := hr
      rw [e1]
      simp (disch := first | assumption | omega) only [b_M_steps_0, b_M_steps_11, b_M_steps_20, b_M_steps_23, b_M_steps_30, b_M_steps_35, b_M_steps_48, b_M_steps_53, b_M_steps_66, s_M_isIn, s_M_isPerson, s_M_isPlace, s_M_standNow, ↓Bool.cond_decide, ↓q_in, q_le, q_lt, q_eq, q_leT, q_leF, q_ltT, q_ltF, q_eqT, q_eqF, ↓reduceIte, not_true_eq_false, not_false_eq_true, true_and, and_true, and_self, false_and, and_false, Nat.zero_le, am_bd_some, q_app, q_app0, nI_add, pk_sub, pk_mul, q_dec, q_ix, q_m1, q_m1', ↓q_ret, q_bool, q_bool1, q_u2, q_u1, q_shl1, q_shr, q_and7, q_dg, fa_or, fa_and, decide_true, decide_false, Bool.or_false, Bool.or_true, Bool.true_or, Bool.false_or, cond_true, cond_false, ite_not, q_some, q_nn, q_xor, q_xorm, Bool.false_eq_true, decide_eq_true_eq, ne_eq, l_0, l_1, l_2, l_3, l_4, l_5, l_6, l_7, l_8, l_9, l_10, l_11, l_20, l_23, l_30, l_35, l_48, l_53, l_66, l_3222, hA1]
      refine MR_bd (r_M_goings d hn hp (by omega) hM1 h1 h2 hT1) ?_
      intro i3 l3 ⟨hl3, hf3, hs3⟩
      subst hl3
      have hgl := sGo_lt (g := g) (a := sNow g 4) (p := p) (r := g (10 + p)) h1
      cases hb : (sGo g (sNow g 4) p (g (10 + p))).testBit t with
      | true =>
        simp (disch := first | assumption | omega) only [b_M_steps_0, b_M_steps_11, b_M_steps_20, b_M_steps_23, b_M_steps_30, b_M_steps_35, b_M_steps_48, b_M_steps_53, b_M_steps_66, s_M_isIn, s_M_isPerson, s_M_isPlace, s_M_standNow, ↓Bool.cond_decide, ↓q_in, q_le, q_lt, q_eq, q_leT, q_leF, q_ltT, q_ltF, q_eqT, q_eqF, ↓reduceIte, not_true_eq_false, not_false_eq_true, true_and, and_true, and_self, false_and, and_false, Nat.zero_le, am_bd_some, q_app, q_app0, nI_add, pk_sub, pk_mul, q_dec, q_ix, q_m1, q_m1', ↓q_ret, q_bool, q_bool1, q_u2, q_u1, q_shl1, q_shr, q_and7, q_dg, fa_or, fa_and, decide_true, decide_false, Bool.or_false, Bool.or_true, Bool.true_or, Bool.false_or, cond_true, cond_false, ite_not, q_some, q_nn, q_xor, q_xorm, Bool.false_eq_true, decide_eq_true_eq, ne_eq, l_0, l_1, l_2, l_3, l_4, l_5, l_6, l_7, l_8, l_9, l_10, l_11, l_20, l_23, l_30, l_35, l_48, l_53, l_66, l_3222, hb, hs3]
        exact MR_some (MS_fx (R := RQ) (by (repeat (first | exact Fx_refl _ _ | assumption | refine Fx_u2 rfl ?_ | refine Fx_u1 rfl (by decide) ?_ | refine Fx_step (by assumption) rfl ?_ | refine Fx_stepr (by assumption) rfl rfl ?_))) rfl rfl hS)
      | false =>
        simp (disch := first | assumption | omega) only [b_M_steps_0, b_M_steps_11, b_M_steps_20, b_M_steps_23, b_M_steps_30, b_M_steps_35, b_M_steps_48, b_M_steps_53, b_M_steps_66, s_M_isIn, s_M_isPerson, s_M_isPlace, s_M_standNow, ↓Bool.cond_decide, ↓q_in, q_le, q_lt, q_eq, q_leT, q_leF, q_ltT, q_ltF, q_eqT, q_eqF, ↓reduceIte, not_true_eq_false, not_false_eq_true, true_and, and_true, and_self, false_and, and_false, Nat.zero_le, am_bd_some, q_app, q_app0, nI_add, pk_sub, pk_mul, q_dec, q_ix, q_m1, q_m1', ↓q_ret, q_bool, q_bool1, q_u2, q_u1, q_shl1, q_shr, q_and7, q_dg, fa_or, fa_and, decide_true, decide_false, Bool.or_false, Bool.or_true, Bool.true_or, Bool.false_or, cond_true, cond_false, ite_not, q_some, q_nn, q_xor, q_xorm, Bool.false_eq_true, decide_eq_true_eq, ne_eq, l_0, l_1, l_2, l_3, l_4, l_5, l_6, l_7, l_8, l_9, l_10, l_11, l_20, l_23, l_30, l_35, l_48, l_53, l_66, l_3222, hb]
        exact MR_some (MS_fx (R := RQ) (by (repeat (first | exact Fx_refl _ _ | assumption | refine Fx_u2 rfl ?_ | refine Fx_u1 rfl (by decide) ?_ | refine Fx_step (by assumption) rfl ?_ | refine Fx_stepr (by assumption) rfl rfl ?_))) rfl rfl hS)
    · simp (disch := first | assumption | omega) only [b_M_steps_0, b_M_steps_11, b_M_steps_20, b_M_steps_23, b_M_steps_30, b_M_steps_35, b_M_steps_48, b_M_steps_53, b_M_steps_66, s_M_isIn, s_M_isPerson, s_M_isPlace, s_M_standNow, ↓Bool.cond_decide, ↓q_in, q_le, q_lt, q_eq, q_leT, q_leF, q_ltT, q_ltF, q_eqT, q_eqF, ↓reduceIte, not_true_eq_false, not_false_eq_true, true_and, and_true, and_self, false_and, and_false, Nat.zero_le, am_bd_some, q_app, q_app0, nI_add, pk_sub, pk_mul, q_dec, q_ix, q_m1, q_m1', ↓q_ret, q_bool, q_bool1, q_u2, q_u1, q_shl1, q_shr, q_and7, q_dg, fa_or, fa_and, decide_true, decide_false, Bool.or_false, Bool.or_true, Bool.true_or, Bool.false_or, cond_true, cond_false, ite_not, q_some, q_nn, q_xor, q_xorm, Bool.false_eq_true, decide_eq_true_eq, ne_eq, l_0, l_1, l_2, l_3, l_4, l_5, l_6, l_7, l_8, l_9, l_10, l_11, l_20, l_23, l_30, l_35, l_48, l_53, l_66, l_3222, hx, hy]
      exact MR_some (MS_fx (R := RQ) (by (repeat (first | exact Fx_refl _ _ | assumption | refine Fx_u2 rfl ?_ | refine Fx_u1 rfl (by decide) ?_ | refine Fx_step (by assumption) rfl ?_ | refine Fx_stepr (by assumption) rfl rfl ?_))) rfl rfl hS)
  · simp (disch := first | assumption | omega) only [b_M_steps_0, b_M_steps_11, b_M_steps_20, b_M_steps_23, b_M_steps_30, b_M_steps_35, b_M_steps_48, b_M_steps_53, b_M_steps_66, s_M_isIn, s_M_isPerson, s_M_isPlace, s_M_standNow, ↓Bool.cond_decide, ↓q_in, q_le, q_lt, q_eq, q_leT, q_leF, q_ltT, q_ltF, q_eqT, q_eqF, ↓reduceIte, not_true_eq_false, not_false_eq_true, true_and, and_true, and_self, false_and, and_false, Nat.zero_le, am_bd_some, q_app, q_app0, nI_add, pk_sub, pk_mul, q_dec, q_ix, q_m1, q_m1', ↓q_ret, q_bool, q_bool1, q_u2, q_u1, q_shl1, q_shr, q_and7, q_dg, fa_or, fa_and, decide_true, decide_false, Bool.or_false, Bool.or_true, Bool.true_or, Bool.false_or, cond_true, cond_false, ite_not, q_some, q_nn, q_xor, q_xorm, Bool.false_eq_true, decide_eq_true_eq, ne_eq, l_0, l_1, l_2, l_3, l_4, l_5, l_6, l_7, l_8, l_9, l_10, l_11, l_20, l_23, l_30, l_35, l_48, l_53, l_66, l_3222, hx]
    exact MR_some (MS_fx (R := RQ) (by (repeat (first | exact Fx_refl _ _ | assumption | refine Fx_u2 rfl ?_ | refine Fx_u1 rfl (by decide) ?_ | refine Fx_step (by assumption) rfl ?_ | refine Fx_stepr (by assumption) rfl rfl ?_))) rfl rfl hS)
theorem r_M_swept (d : Nat) (x : Int32) {σ : St} (hS : MS i l σ) (hW : WG σ.1) : MR (some (.int (v_swept σ.1 x))) (fun i' l' => MS i' l' (σ)) (am_cl (d + 8) mM_swept [.ref 0, .int x] (i, l, rM, kM)) := by
  obtain ⟨g, σ⟩ := σ
  obtain ⟨⟨h1', h1⟩, h2, h3, hR, hF, hP, hSt, hD, hL0, hL1, hV⟩ := hW
  have h1 : g 1 ≤ 6 := h1
  have h2 : g 2 ≤ 4 := h2
  have hR : ∀ p, p < 4 → g (10 + p) ≤ 4 := hR
  have hP : ∀ p, p < 4 → g (18 + p) < 8 := hP
  have hSt : ∀ p, p < 4 → g (22 + p) ≤ 9 := hSt
  have hD : ∀ s, s < 6 → g (26 + s) ≤ 9 := hD
  have hA := hS.1
  have hn := sNow_lt g hP 4 (by decide)
  have hf0 : Fx [100] i (am_u2 i 0 0 (nI 0)) := by (repeat (first | exact Fx_refl _ _ | assumption | refine Fx_u2 rfl ?_ | refine Fx_u1 rfl (by decide) ?_ | refine Fx_step (by assumption) rfl ?_ | refine Fx_stepr (by assumption) rfl rfl ?_))
  have hM0 : MA (am_u2 i 0 0 (nI 0)) g := MA_fx hf0 hA rfl
  have hM0' : ∀ k, k < 3222 → am_u2 i 0 0 (nI 0) 1 k = nI (g k) := hM0
  rw [c_M_swept, b_M_swept_0, v_swept]
  by_cases hx : iB x 10 = true
  · simp (disch := first | assumption | omega) only [b_M_swept_0, b_M_swept_10, b_M_swept_18, b_M_swept_23, s_M_isWater', ↓Bool.cond_decide, ↓q_in, q_le, q_lt, q_eq, q_leT, q_leF, q_ltT, q_ltF, q_eqT, q_eqF, ↓reduceIte, not_true_eq_false, not_false_eq_true, true_and, and_true, and_self, false_and, and_false, Nat.zero_le, am_bd_some, q_app, q_app0, nI_add, pk_sub, pk_mul, q_dec, q_ix, q_m1, q_m1', ↓q_ret, q_bool, q_bool1, q_u1, q_shl1, q_shr, q_and7, q_dg, fa_or, fa_and, decide_true, decide_false, Bool.or_false, Bool.or_true, Bool.true_or, Bool.false_or, cond_true, cond_false, ite_not, q_some, q_nn, q_xor, q_xorm, Bool.false_eq_true, decide_eq_true_eq, ne_eq, l_0, l_1, l_3, l_4, l_8, l_10, l_18, l_23, hx, s_M_isWater']
    obtain ⟨w, hw, rfl⟩ := iB_T hx
    refine MR_bd (r_M_sweptBy d (w := w) (by omega) hM0 h1 h2 hP hSt hL0) ?_
    intro i1 l1 ⟨hl1, hf1⟩
    subst hl1
    simp (disch := first | assumption | omega) only [b_M_swept_0, b_M_swept_10, b_M_swept_18, b_M_swept_23, s_M_isWater, s_M_isWater', ↓Bool.cond_decide, ↓q_in, q_le, q_lt, q_eq, q_leT, q_leF, q_ltT, q_ltF, q_eqT, q_eqF, ↓reduceIte, not_true_eq_false, not_false_eq_true, true_and, and_true, and_self, false_and, and_false, Nat.zero_le, am_bd_some, q_app, q_app0, nI_add, pk_sub, pk_mul, q_dec, q_ix, q_m1, q_m1', ↓q_ret, q_bool, q_bool1, q_u2, q_u1, q_shl1, q_shr, q_and7, q_dg, fa_or, fa_and, decide_true, decide_false, Bool.or_false, Bool.or_true, Bool.true_or, Bool.false_or, cond_true, cond_false, ite_not, q_some, q_nn, q_xor, q_xorm, Bool.false_eq_true, decide_eq_true_eq, ne_eq, l_0, l_1, l_3, l_4, l_8, l_10, l_18, l_23]
    exact MR_some (MS_fx (R := RQ) (by (repeat (first | exact Fx_refl _ _ | assumption | refine Fx_u2 rfl ?_ | refine Fx_u1 rfl (by decide) ?_ | refine Fx_step (by assumption) rfl ?_ | refine Fx_stepr (by assumption) rfl rfl ?_))) rfl rfl hS)
  · simp (disch := first | assumption | omega) only [b_M_swept_0, b_M_swept_10, b_M_swept_18, b_M_swept_23, s_M_isWater', ↓Bool.cond_decide, ↓q_in, q_le, q_lt, q_eq, q_leT, q_leF, q_ltT, q_ltF, q_eqT, q_eqF, ↓reduceIte, not_true_eq_false, not_false_eq_true, true_and, and_true, and_self, false_and, and_false, Nat.zero_le, am_bd_some, q_app, q_app0, nI_add, pk_sub, pk_mul, q_dec, q_ix, q_m1, q_m1', ↓q_ret, q_bool, q_bool1, q_u2, q_u1, q_shl1, q_shr, q_and7, q_dg, fa_or, fa_and, decide_true, decide_false, Bool.or_false, Bool.or_true, Bool.true_or, Bool.false_or, cond_true, cond_false, ite_not, q_some, q_nn, q_xor, q_xorm, Bool.false_eq_true, decide_eq_true_eq, ne_eq, l_0, l_1, l_3, l_4, l_8, l_10, l_18, l_23, hx, s_M_isWater']
    exact MR_some (MS_fx (R := RQ) (by (repeat (first | exact Fx_refl _ _ | assumption | refine Fx_u2 rfl ?_ | refine Fx_u1 rfl (by decide) ?_ | refine Fx_step (by assumption) rfl ?_ | refine Fx_stepr (by assumption) rfl rfl ?_))) rfl rfl hS)
theorem r_M_looks (d : Nat) (x : Int32) {σ : St} (hS : MS i l σ) (hW : WG σ.1) : MR (some (.int (v_looks σ.1 x))) (fun i' l' => MS i' l' (σ)) (am_cl (d + 7) mM_looks [.ref 0, .int x] (i, l, rM, kM)) := by
  obtain ⟨g, σ⟩ := σ
  obtain ⟨⟨h1', h1⟩, h2, h3, hR, hF, hP, hSt, hD, hL0, hL1, hV⟩ := hW
  have h1 : g 1 ≤ 6 := h1
  have h2 : g 2 ≤ 4 := h2
  have hR : ∀ p, p < 4 → g (10 + p) ≤ 4 := hR
  have hP : ∀ p, p < 4 → g (18 + p) < 8 := hP
  have hSt : ∀ p, p < 4 → g (22 + p) ≤ 9 := hSt
  have hD : ∀ s, s < 6 → g (26 + s) ≤ 9 := hD
  have hA := hS.1
  have hn := sNow_lt g hP 4 (by decide)
  have hf0 : Fx [100] i (am_u2 i 0 0 (nI 0)) := by (repeat (first | exact Fx_refl _ _ | assumption | refine Fx_u2 rfl ?_ | refine Fx_u1 rfl (by decide) ?_ | refine Fx_step (by assumption) rfl ?_ | refine Fx_stepr (by assumption) rfl rfl ?_))
  have hM0 : MA (am_u2 i 0 0 (nI 0)) g := MA_fx hf0 hA rfl
  have hM0' : ∀ k, k < 3222 → am_u2 i 0 0 (nI 0) 1 k = nI (g k) := hM0
  rw [c_M_looks, b_M_looks_0, v_looks]
  by_cases hx : iB x 10 = true
  · simp (disch := first | assumption | omega) only [b_M_looks_0, b_M_looks_10, b_M_looks_21, b_M_looks_25, s_M_isWater', s_M_standNow, ↓Bool.cond_decide, ↓q_in, q_le, q_lt, q_eq, q_leT, q_leF, q_ltT, q_ltF, q_eqT, q_eqF, ↓reduceIte, not_true_eq_false, not_false_eq_true, true_and, and_true, and_self, false_and, and_false, Nat.zero_le, am_bd_some, q_app, q_app0, nI_add, pk_sub, pk_mul, q_dec, q_ix, q_m1, q_m1', ↓q_ret, q_bool, q_bool1, q_u1, q_shl1, q_shr, q_and7, q_dg, fa_or, fa_and, decide_true, decide_false, Bool.or_false, Bool.or_true, Bool.true_or, Bool.false_or, cond_true, cond_false, ite_not, q_some, q_nn, q_xor, q_xorm, Bool.false_eq_true, decide_eq_true_eq, ne_eq, l_0, l_1, l_3, l_4, l_6, l_8, l_10, l_20, l_21, l_25, hx, s_M_isWater']
    obtain ⟨w, hw, rfl⟩ := iB_T hx
    refine MR_bd (r_M_floodedTo d (w := w) hn (by omega) hM0 h1 h2 hSt hL0) ?_
    intro i1 l1 ⟨hl1, hf1, hk1⟩
    subst hl1
    simp (disch := first | assumption | omega) only [b_M_looks_0, b_M_looks_10, b_M_looks_21, b_M_looks_25, s_M_isWater, s_M_isWater', s_M_standNow, ↓Bool.cond_decide, ↓q_in, q_le, q_lt, q_eq, q_leT, q_leF, q_ltT, q_ltF, q_eqT, q_eqF, ↓reduceIte, not_true_eq_false, not_false_eq_true, true_and, and_true, and_self, false_and, and_false, Nat.zero_le, am_bd_some, q_app, q_app0, nI_add, pk_sub, pk_mul, q_dec, q_ix, q_m1, q_m1', ↓q_ret, q_bool, q_bool1, q_u2, q_u1, q_shl1, q_shr, q_and7, q_dg, fa_or, fa_and, decide_true, decide_false, Bool.or_false, Bool.or_true, Bool.true_or, Bool.false_or, cond_true, cond_false, ite_not, q_some, q_nn, q_xor, q_xorm, Bool.false_eq_true, decide_eq_true_eq, ne_eq, l_0, l_1, l_3, l_4, l_6, l_8, l_10, l_20, l_21, l_25, hk1]
    exact MR_some (MS_fx (R := RQ) (by (repeat (first | exact Fx_refl _ _ | assumption | refine Fx_u2 rfl ?_ | refine Fx_u1 rfl (by decide) ?_ | refine Fx_step (by assumption) rfl ?_ | refine Fx_stepr (by assumption) rfl rfl ?_))) rfl rfl hS)
  · simp (disch := first | assumption | omega) only [b_M_looks_0, b_M_looks_10, b_M_looks_21, b_M_looks_25, s_M_isWater', s_M_standNow, ↓Bool.cond_decide, ↓q_in, q_le, q_lt, q_eq, q_leT, q_leF, q_ltT, q_ltF, q_eqT, q_eqF, ↓reduceIte, not_true_eq_false, not_false_eq_true, true_and, and_true, and_self, false_and, and_false, Nat.zero_le, am_bd_some, q_app, q_app0, nI_add, pk_sub, pk_mul, q_dec, q_ix, q_m1, q_m1', ↓q_ret, q_bool, q_bool1, q_u2, q_u1, q_shl1, q_shr, q_and7, q_dg, fa_or, fa_and, decide_true, decide_false, Bool.or_false, Bool.or_true, Bool.true_or, Bool.false_or, cond_true, cond_false, ite_not, q_some, q_nn, q_xor, q_xorm, Bool.false_eq_true, decide_eq_true_eq, ne_eq, l_0, l_1, l_3, l_4, l_6, l_8, l_10, l_20, l_21, l_25, hx, s_M_isWater']
    exact MR_some (MS_fx (R := RQ) (by (repeat (first | exact Fx_refl _ _ | assumption | refine Fx_u2 rfl ?_ | refine Fx_u1 rfl (by decide) ?_ | refine Fx_step (by assumption) rfl ?_ | refine Fx_stepr (by assumption) rfl rfl ?_))) rfl rfl hS)
end
