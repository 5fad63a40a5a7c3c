/-! SPRINGS; THE MODEL -/
def fcn (g : Nat → Nat) (s t : Nat) : Nat → Nat
  | 0 => 0
  | w + 1 => fcn g s t w + if sFl g w s = t then 1 else 0
theorem fcn_s (g : Nat → Nat) (s t w : Nat) : fcn g s t (w + 1) = fcn g s t w + if sFl g w s = t then 1 else 0 := rfl
/-- in how many ways n springs leave a stand -/
def sp (g : Nat → Nat) (a : Nat) : Nat → Nat → Nat
  | 0, t => if t = a then 1 else 0
  | n + 1, t => sSum (fun s => sp g a n s * fcn g s t 10) 4096
theorem one_at (x : Nat) : ∀ n, sSum (fun t => if x = t then 1 else 0) n = if x < n then 1 else 0
  | 0 => rfl
  | n + 1 => by
    rw [sSum, one_at x n]
    by_cases e : x = n
    · rw [if_pos e, if_neg (by omega), if_pos (by omega)]
    · rw [if_neg e]
      by_cases h : x < n
      · rw [if_pos h, if_pos (by omega)]
      · rw [if_neg h, if_neg (by omega)]
theorem fcn_sum {g : Nat → Nat} {s : Nat} (h2 : g 2 ≤ 4) (hs : s < 4096) : ∀ w, sSum (fun t => fcn g s t w) 4096 = w
  | 0 => by simp only [fcn]; exact sSum_zero _
  | w + 1 => by
    simp only [fcn]
    rw [sSum_add, fcn_sum h2 hs w, one_at, if_pos (sFl_lt h2 hs)]
theorem sp_tot {g : Nat → Nat} {a : Nat} (h2 : g 2 ≤ 4) (ha : a < 4096) : ∀ n, sSum (sp g a n) 4096 = 10 ^ n
  | 0 => by
    have : sSum (sp g a 0) 4096 = sSum (fun t => if a = t then 1 else 0) 4096 := sSum_cong (fun t _ => by
      rw [sp]
      by_cases e : t = a
      · rw [if_pos e, if_pos e.symm]
      · rw [if_neg e, if_neg (fun z => e z.symm)])
    rw [this, one_at, if_pos ha]
  | n + 1 => by
    have : sSum (sp g a (n + 1)) 4096 = sSum (fun s => sp g a n s * 10) 4096 := by
      show sSum (fun t => sSum (fun s => sp g a n s * fcn g s t 10) 4096) 4096 = _
      rw [sSum_comm (fun t s => sp g a n s * fcn g s t 10)]
      refine sSum_cong (fun s hs => ?_)
      rw [sSum_mul, fcn_sum h2 hs]
    rw [this, sSum_mulr, sp_tot h2 ha n, Nat.pow_succ]
def spU (g : Nat → Nat) (n p : Nat) : Nat := sSum (fun s => if sSpot g (dg s p) = true then sp g (sNow g 4) n s else 0) 4096
def prt (a b : Nat) (what : Int32) : Int32 := nI ((if what = nI 0 then a else b) / Nat.gcd a b)
def v_chance (g : Nat → Nat) (x y z : Int32) : Int32 := if iB x (g 2) = true ∧ iR 0 1 z = true then (if iR 0 6 y = true then (if sSpot g (g (18 + x.toNatClampNeg)) = true then prt (spU g y.toNatClampNeg x.toNatClampNeg) (10 ^ y.toNatClampNeg) z else -nI 5) else -nI 3) else -nI 2
def v_mean (g : Nat → Nat) (x y : Int32) : Int32 := if iR 0 1 y = true then (if iR 0 6 x = true then prt (sSum (fun p => spU g x.toNatClampNeg p) (g 2)) (10 ^ x.toNatClampNeg) y else -nI 3) else -nI 2
theorem p10 : ∀ n, n ≤ 6 → 10 ^ n ≤ 1000000 := fun n hn => Nat.le_trans (Nat.pow_le_pow_right (by decide) hn) (by decide)
theorem spU_le {g : Nat → Nat} {n p : Nat} (h2 : g 2 ≤ 4) (hn : sNow g 4 < 4096) (h6 : n ≤ 6) : spU g n p ≤ 1000000 := by
  have h1 := sp_tot (a := sNow g 4) h2 hn n
  have h3 := p10 n h6
  have h4 : spU g n p ≤ sSum (sp g (sNow g 4) n) 4096 := sSum_le2 _ (fun s _ => by
    split
    · exact Nat.le_refl _
    · exact Nat.zero_le _)
  omega
theorem mod_half {a b : Nat} (hb : 0 < b) (h : 0 < a % b) : b % (a % b) < b / 2 + 1 ∧ b % (a % b) < a % b := by
  have h1 := Nat.mod_lt a hb
  have h2 := Nat.mod_lt b h
  refine ⟨?_, h2⟩
  rcases Nat.lt_or_ge (b / 2) (a % b) with q | q
  · have : b % (a % b) = b - a % b := by
      rw [Nat.mod_eq_sub_mod (by omega), Nat.mod_eq_of_lt (by omega)]
    omega
  · omega
section
variable {i : Nat → Nat → Int32} {l : Nat → Nat → Int64} {g : Nat → Nat}
theorem gcd_step (a b : Nat) : Nat.gcd b (a % b) = Nat.gcd a b := by rw [Nat.gcd_comm b, ← Nat.gcd_rec, Nat.gcd_comm]
theorem t_M_common : ∀ (k d : Nat) {a b : Nat}, a < 100000000 → b < 100000000 → b < 2 ^ k → ∀ (i : Nat → Nat → Int32) (l : Nat → Nat → Int64) (q : Nat → Nat → Option Nat) (K : List (Nat × Nat)), am_cl (d + 2 * k + 1) mM_common [.int (nI a), .int (nI b)] (i, l, q, K) = some (some (.int (nI (Nat.gcd a b))), (i, l, q, K)) := by
  intro k
  induction k with
  | zero =>
    intro d a b ha hb hk i l q K
    have e : b = 0 := by have : 2 ^ 0 = 1 := rfl; omega
    subst e
    rw [Nat.gcd_zero_right, c_M_common, b_M_common_0]
    simp (disch := first | assumption | omega) only [b_M_common_0, b_M_common_15, ↓Bool.cond_decide, ↓q_in, q_le, q_lt, q_eq, q_leT, q_leF, q_ltT, q_ltF, q_eqT, q_eqF, ↓reduceIte, not_true_eq_false, not_false_eq_true, true_and, and_true, and_self, false_and, and_false, Nat.zero_le, am_bd_some, q_app, q_app0, nI_add, pk_sub, pk_mul, q_dec, q_ix, q_m1, q_m1', ↓q_ret, q_bool, q_bool1, q_u2, q_u1, q_shl1, q_shr, q_and7, q_dg, fa_or, fa_and, decide_true, decide_false, Bool.or_false, Bool.or_true, Bool.true_or, Bool.false_or, cond_true, cond_false, ite_not, q_some, q_nn, q_xor, q_xorm, Bool.false_eq_true, decide_eq_true_eq, ne_eq, l_0, l_1, l_3, l_12, l_15]
  | succ k ih =>
    intro d a b ha hb hk i l q K
    rw [show d + 2 * (k + 1) + 1 = d + 2 * k + 2 + 1 by omega, c_M_common, b_M_common_0]
    by_cases e : b = 0
    · subst e
      rw [Nat.gcd_zero_right]
      simp (disch := first | assumption | omega) only [b_M_common_0, b_M_common_15, ↓Bool.cond_decide, ↓q_in, q_le, q_lt, q_eq, q_leT, q_leF, q_ltT, q_ltF, q_eqT, q_eqF, ↓reduceIte, not_true_eq_false, not_false_eq_true, true_and, and_true, and_self, false_and, and_false, Nat.zero_le, am_bd_some, q_app, q_app0, nI_add, pk_sub, pk_mul, q_dec, q_ix, q_m1, q_m1', ↓q_ret, q_bool, q_bool1, q_u2, q_u1, q_shl1, q_shr, q_and7, q_dg, fa_or, fa_and, decide_true, decide_false, Bool.or_false, Bool.or_true, Bool.true_or, Bool.false_or, cond_true, cond_false, ite_not, q_some, q_nn, q_xor, q_xorm, Bool.false_eq_true, decide_eq_true_eq, ne_eq, l_0, l_1, l_3, l_12, l_15]
    · have hrm1 := q_remL a b
      have hmod := Nat.mod_lt a (show 0 < b by omega)
      have h1 : am_cl (d + 2 * k + 2) mM_common [.int (nI b), .int (nI (a % b))] (i, l, q, K) = some (some (.int (nI (Nat.gcd a b))), (i, l, q, K)) := by
        rw [← gcd_step a b]
        rw [show d + 2 * k + 2 = d + 2 * k + 1 + 1 from rfl, c_M_common, b_M_common_0]
        by_cases e2 : a % b = 0
        · rw [e2, Nat.gcd_zero_right]
          simp (disch := first | assumption | omega) only [b_M_common_0, b_M_common_15, ↓Bool.cond_decide, ↓q_in, q_le, q_lt, q_eq, q_leT, q_leF, q_ltT, q_ltF, q_eqT, q_eqF, ↓reduceIte, not_true_eq_false, not_false_eq_true, true_and, and_true, and_self, false_and, and_false, Nat.zero_le, am_bd_some, q_app, q_app0, nI_add, pk_sub, pk_mul, q_dec, q_ix, q_m1, q_m1', ↓q_ret, q_bool, q_bool1, q_u2, q_u1, q_shl1, q_shr, q_and7, q_dg, fa_or, fa_and, decide_true, decide_false, Bool.or_false, Bool.or_true, Bool.true_or, Bool.false_or, cond_true, cond_false, ite_not, q_some, q_nn, q_xor, q_xorm, Bool.false_eq_true, decide_eq_true_eq, ne_eq, l_0, l_1, l_3, l_12, l_15]
        · obtain ⟨q1, q2⟩ := mod_half (a := a) (show 0 < b by omega) (by omega)
          have hrm2 := q_remL b (a % b)
          have hp : 2 ^ (k + 1) = 2 * 2 ^ k := by rw [Nat.pow_succ, Nat.mul_comm]
          have h3 := ih d (a := a % b) (b := b % (a % b)) (by omega) (by omega) (by omega) i l q K
          rw [gcd_step] at h3
          simp (disch := first | assumption | omega) only [b_M_common_0, b_M_common_15, ↓Bool.cond_decide, ↓q_in, q_le, q_lt, q_eq, q_leT, q_leF, q_ltT, q_ltF, q_eqT, q_eqF, ↓reduceIte, not_true_eq_false, not_false_eq_true, true_and, and_true, and_self, false_and, and_false, Nat.zero_le, am_bd_some, q_app, q_app0, nI_add, pk_sub, pk_mul, q_dec, q_ix, q_m1, q_m1', ↓q_ret, q_bool, q_bool1, q_u2, q_u1, q_shl1, q_shr, q_and7, q_dg, fa_or, fa_and, decide_true, decide_false, Bool.or_false, Bool.or_true, Bool.true_or, Bool.false_or, cond_true, cond_false, ite_not, q_some, q_nn, q_xor, q_xorm, Bool.false_eq_true, decide_eq_true_eq, ne_eq, l_0, l_1, l_3, l_12, l_15, Bool.not_false, pk_div, q_remL, q_remN, h3]
      simp (disch := first | assumption | omega) only [b_M_common_0, b_M_common_15, ↓Bool.cond_decide, ↓q_in, q_le, q_lt, q_eq, q_leT, q_leF, q_ltT, q_ltF, q_eqT, q_eqF, ↓reduceIte, not_true_eq_false, not_false_eq_true, true_and, and_true, and_self, false_and, and_false, Nat.zero_le, am_bd_some, q_app, q_app0, nI_add, pk_sub, pk_mul, q_dec, q_ix, q_m1, q_m1', ↓q_ret, q_bool, q_bool1, q_u2, q_u1, q_shl1, q_shr, q_and7, q_dg, fa_or, fa_and, decide_true, decide_false, Bool.or_false, Bool.or_true, Bool.true_or, Bool.false_or, cond_true, cond_false, ite_not, q_some, q_nn, q_xor, q_xorm, Bool.false_eq_true, decide_eq_true_eq, ne_eq, l_0, l_1, l_3, l_12, l_15, Bool.not_false, pk_div, q_remL, q_remN, h1]
theorem s_M_part (d : Nat) {a b : Nat} (what : Int32) (ha : a < 100000000) (h0 : 0 < b) (hb : b ≤ 1000000) (i : Nat → Nat → Int32) (l : Nat → Nat → Int64) (q : Nat → Nat → Option Nat) (K : List (Nat × Nat)) : am_cl (d + 50) mM_part [.int (nI a), .int (nI b), .int what] (i, l, q, K) = some (some (.int (prt a b what)), (i, l, q, K)) := by
  have hg := t_M_common 20 (d + 8) (a := a) (b := b) ha (by omega) (by have : (2 : Nat) ^ 20 = 1048576 := rfl; omega) i l q K
  have hgp : 0 < Nat.gcd a b := Nat.gcd_pos_of_pos_right _ h0
  have hgl : Nat.gcd a b ≤ b := Nat.gcd_le_right _ h0
  have hg' : am_cl (d + 49) mM_common [.int (nI a), .int (nI b)] (i, l, q, K) = some (some (.int (nI (Nat.gcd a b))), (i, l, q, K)) := hg
  rw [c_M_part, b_M_part_0]
  unfold prt
  by_cases hw : what = nI 0
  · simp (disch := first | assumption | omega) only [b_M_part_0, b_M_part_9, b_M_part_14, ↓Bool.cond_decide, ↓q_in, q_le, q_lt, q_eq, q_leT, q_leF, q_ltT, q_ltF, q_eqT, q_eqF, ↓reduceIte, not_true_eq_false, not_false_eq_true, true_and, and_true, and_self, false_and, and_false, Nat.zero_le, am_bd_some, q_app, q_app0, nI_add, pk_sub, pk_mul, q_dec, q_ix, q_m1, q_m1', ↓q_ret, q_bool, q_bool1, q_u2, q_u1, q_shl1, q_shr, q_and7, q_dg, fa_or, fa_and, decide_true, decide_false, Bool.or_false, Bool.or_true, Bool.true_or, Bool.false_or, cond_true, cond_false, ite_not, q_some, q_nn, q_xor, q_xorm, Bool.false_eq_true, decide_eq_true_eq, ne_eq, l_0, l_1, l_4, l_5, l_9, l_14, hw, hg', Bool.not_false, pk_div]
  · simp (disch := first | assumption | omega) only [b_M_part_0, b_M_part_9, b_M_part_14, ↓Bool.cond_decide, ↓q_in, q_le, q_lt, q_eq, q_leT, q_leF, q_ltT, q_ltF, q_eqT, q_eqF, ↓reduceIte, not_true_eq_false, not_false_eq_true, true_and, and_true, and_self, false_and, and_false, Nat.zero_le, am_bd_some, q_app, q_app0, nI_add, pk_sub, pk_mul, q_dec, q_ix, q_m1, q_m1', ↓q_ret, q_bool, q_bool1, q_u2, q_u1, q_shl1, q_shr, q_and7, q_dg, fa_or, fa_and, decide_true, decide_false, Bool.or_false, Bool.or_true, Bool.true_or, Bool.false_or, cond_true, cond_false, ite_not, q_some, q_nn, q_xor, q_xorm, Bool.false_eq_true, decide_eq_true_eq, ne_eq, l_0, l_1, l_4, l_5, l_9, l_14, hw, hg', Bool.not_false, pk_div]
theorem r_M_laysSprings (d : Nat) {n : Nat} (hn6 : n ≤ 6) (hA : MA i g) (hW : WG g) : MR (some (.int (nI (10 ^ n)))) (fun i' l' => Fx [5, 6, 120] i i' ∧ LK l l' (sp g (sNow g 4) n) (fun _ => 0)) (am_cl (d + 7) mM_laysSprings [.ref 0, .int (nI n)] (i, l, rM, kM)) := by
  obtain ⟨⟨h1', h1⟩, h2, h3, hR, hF', hP, hSt, hD', hL0, hL1, hV⟩ := hW
  have hn := sNow_lt g hP 4 (by decide)
  rw [c_M_laysSprings, b_M_laysSprings_0]
  refine MR_bd (r_M_beginsMany (d + 4) hA hP) ?_
  intro i1 l1 ⟨hi1, hL1⟩
  subst hi1
  refine MR_q ?_
  intro Q hQ
  simp (disch := first | assumption | omega) only [b_M_laysSprings_0, b_M_laysSprings_4, b_M_laysSprings_58, b_M_laysSprings_75, b_M_laysSprings_85, ↓Bool.cond_decide, ↓q_in, q_le, q_lt, q_eq, q_leT, q_leF, q_ltT, q_ltF, q_eqT, q_eqF, ↓reduceIte, not_true_eq_false, not_false_eq_true, true_and, and_true, and_self, false_and, and_false, Nat.zero_le, am_bd_some, q_app, q_app0, nI_add, pk_sub, pk_mul, q_dec, q_ix, q_m1, q_m1', ↓q_ret, q_bool, q_bool1, q_u2, q_u1, q_shl1, q_shr, q_and7, q_dg, fa_or, fa_and, decide_true, decide_false, Bool.or_false, Bool.or_true, Bool.true_or, Bool.false_or, cond_true, cond_false, ite_not, q_some, q_nn, q_xor, q_xorm, Bool.false_eq_true, decide_eq_true_eq, ne_eq, l_0, l_1, l_4, l_5, l_7, l_8, l_9, l_10, l_13, l_14, l_15, l_16, l_20, l_27, l_58, l_75, l_85, l_4096]
  refine am_loop (fun r ls st => ∃ i' l' z4 z5, ls = [.val (.ref 0), .val (.int (nI n)), .val (.int (nI (10 ^ r))), .val (.int (nI r)), z4, z5] ∧ st = (i', l', rM, kM) ∧ Fx [5, 6, 120] i1 i' ∧ LK l l' (sp g (sNow g 4) r) (fun _ => 0)) n _ (fun r ls st hr hI => ?_) (fun ls st hI => ?_) ⟨i1, l1, _, _, rfl, rfl, Fx_refl _ _, hL1⟩
  · obtain ⟨i2, l2, z4, z5, e1, e2, hf2, hL2⟩ := hI
    subst e1; subst e2
    have h10 := p10 r (by omega)
    have h101 := p10 (r + 1) (by omega)
    have htot := sp_tot (a := sNow g 4) h2 hn r
    have htot1 := sp_tot (a := sNow g 4) h2 hn (r + 1)
    have hpt : ∀ s, s < 4096 → sp g (sNow g 4) r s ≤ 1000000 := fun s hs => by
      have := sSum_ge (f := sp g (sNow g 4) r) hs
      omega
    rw [b_M_laysSprings_8]
    simp (disch := first | assumption | omega) only [b_M_laysSprings_0, b_M_laysSprings_4, b_M_laysSprings_58, b_M_laysSprings_75, b_M_laysSprings_85, ↓Bool.cond_decide, ↓q_in, q_le, q_lt, q_eq, q_leT, q_leF, q_ltT, q_ltF, q_eqT, q_eqF, ↓reduceIte, not_true_eq_false, not_false_eq_true, true_and, and_true, and_self, false_and, and_false, Nat.zero_le, am_bd_some, q_app, q_app0, nI_add, pk_sub, pk_mul, q_dec, q_ix, q_m1, q_m1', ↓q_ret, q_bool, q_bool1, q_u2, q_u1, q_shl1, q_shr, q_and7, q_dg, fa_or, fa_and, decide_true, decide_false, Bool.or_false, Bool.or_true, Bool.true_or, Bool.false_or, cond_true, cond_false, ite_not, q_some, q_nn, q_xor, q_xorm, Bool.false_eq_true, decide_eq_true_eq, ne_eq, l_0, l_1, l_4, l_5, l_7, l_8, l_9, l_10, l_13, l_14, l_15, l_16, l_20, l_27, l_58, l_75, l_85, l_4096]
    refine am_loop (fun s ls st => ∃ i' l' z5, ls = [.val (.ref 0), .val (.int (nI n)), .val (.int (nI (10 ^ r))), .val (.int (nI r)), .val (.int (nI s)), z5] ∧ st = (i', l', rM, kM) ∧ Fx [5, 6, 120] i1 i' ∧ LK l l' (sp g (sNow g 4) r) (fun t => sSum (fun s => sp g (sNow g 4) r s * fcn g s t 10) s)) 4096 _ (fun s ls st hs hI => ?_) (fun ls st hI => ?_) ⟨i2, l2, _, rfl, rfl, hf2, hL2⟩
    · obtain ⟨i3, l3, z5, e1, e2, hf3, hL3⟩ := hI
      subst e1; subst e2
      have h14 := hL3.1 s hs
      have hps := hpt s hs
      rw [b_M_laysSprings_16]
      simp (disch := first | assumption | omega) only [b_M_laysSprings_0, b_M_laysSprings_4, b_M_laysSprings_58, b_M_laysSprings_75, b_M_laysSprings_85, ↓Bool.cond_decide, ↓q_in, q_le, q_lt, q_eq, q_leT, q_leF, q_ltT, q_ltF, q_eqT, q_eqF, ↓reduceIte, not_true_eq_false, not_false_eq_true, true_and, and_true, and_self, false_and, and_false, Nat.zero_le, am_bd_some, q_app, q_app0, nI_add, pk_sub, pk_mul, q_dec, q_ix, q_m1, q_m1', ↓q_ret, q_bool, q_bool1, q_u2, q_u1, q_shl1, q_shr, q_and7, q_dg, fa_or, fa_and, decide_true, decide_false, Bool.or_false, Bool.or_true, Bool.true_or, Bool.false_or, cond_true, cond_false, ite_not, q_some, q_nn, q_xor, q_xorm, Bool.false_eq_true, decide_eq_true_eq, ne_eq, l_0, l_1, l_4, l_5, l_7, l_8, l_9, l_10, l_13, l_14, l_15, l_16, l_20, l_27, l_58, l_75, l_85, l_4096]
      by_cases hw0 : sp g (sNow g 4) r s = 0
      · have hz : ((0 : Int64) < lN 0) = False := by rw [q_lpos (by decide)]; exact eq_false (by decide)
        rw [b_M_laysSprings_27]
        simp (disch := first | assumption | omega) only [b_M_laysSprings_0, b_M_laysSprings_4, b_M_laysSprings_58, b_M_laysSprings_75, b_M_laysSprings_85, ↓Bool.cond_decide, ↓q_in, q_le, q_lt, q_eq, q_leT, q_leF, q_ltT, q_ltF, q_eqT, q_eqF, ↓reduceIte, not_true_eq_false, not_false_eq_true, true_and, and_true, and_self, false_and, and_false, Nat.zero_le, am_bd_some, q_app, q_app0, nI_add, pk_sub, pk_mul, q_dec, q_ix, q_m1, q_m1', ↓q_ret, q_bool, q_bool1, q_u2, q_u1, q_shl1, q_shr, q_and7, q_dg, fa_or, fa_and, decide_true, decide_false, Bool.or_false, Bool.or_true, Bool.true_or, Bool.false_or, cond_true, cond_false, ite_not, q_some, q_nn, q_xor, q_xorm, Bool.false_eq_true, decide_eq_true_eq, ne_eq, l_0, l_1, l_4, l_5, l_7, l_8, l_9, l_10, l_13, l_14, l_15, l_16, l_20, l_27, l_58, l_75, l_85, l_4096, h14, hw0, q_cle, hz]
        refine Go_in ⟨i3, l3, _, rfl, rfl, hf3, hL3.1, fun t ht => ?_, hL3.2.2⟩
        rw [hL3.2.1 t ht]
        show lN (sSum _ s) = lN (sSum _ s + sp g (sNow g 4) r s * fcn g s t 10)
        rw [hw0, Nat.zero_mul, Nat.add_zero]
      · have hz : ((0 : Int64) < lN (sp g (sNow g 4) r s)) = True := by rw [q_lpos (by omega)]; exact eq_true (by omega)
        refine am_loop (fun w ls st => ∃ i' l', ls = [.val (.ref 0), .val (.int (nI n)), .val (.int (nI (10 ^ r))), .val (.int (nI r)), .val (.int (nI s)), .val (.int (nI w))] ∧ st = (i', l', rM, kM) ∧ Fx [5, 6, 120] i1 i' ∧ LK l l' (sp g (sNow g 4) r) (fun t => sSum (fun s => sp g (sNow g 4) r s * fcn g s t 10) s + sp g (sNow g 4) r s * fcn g s t w)) 10 _ (fun w ls st hw hI => ?_) (fun ls st hI => ?_) ⟨i3, l3, rfl, rfl, hf3, hL3.1, fun t ht => by rw [hL3.2.1 t ht]; rfl, hL3.2.2⟩
        · obtain ⟨i4, l4, e1, e2, hf4, hL4⟩ := hI
          subst e1; subst e2
          have hM4 : MA i4 g := MA_fx hf4 hA rfl
          have h14' := hL4.1 s hs
          obtain ⟨i5, l5, e5, hl5, hf5, _⟩ := r_M_floodedTo (i := i4) (l := l4) d (w := w) hs (by omega) hM4 h1 h2 hSt hL0
          subst hl5
          have hfl := sFl_lt (g := g) (w := w) h2 hs
          have h15 := hL4.2.1 (sFl g w s) hfl
          rw [b_M_laysSprings_27]
          simp (disch := first | assumption | omega) only [b_M_laysSprings_0, b_M_laysSprings_4, b_M_laysSprings_58, b_M_laysSprings_75, b_M_laysSprings_85, ↓Bool.cond_decide, ↓q_in, q_le, q_lt, q_eq, q_leT, q_leF, q_ltT, q_ltF, q_eqT, q_eqF, ↓reduceIte, not_true_eq_false, not_false_eq_true, true_and, and_true, and_self, false_and, and_false, Nat.zero_le, am_bd_some, q_app, q_app0, nI_add, pk_sub, pk_mul, q_dec, q_ix, q_m1, q_m1', ↓q_ret, q_bool, q_bool1, q_u1, q_shl1, q_shr, q_and7, q_dg, fa_or, fa_and, decide_true, decide_false, Bool.or_false, Bool.or_true, Bool.true_or, Bool.false_or, cond_true, cond_false, ite_not, q_some, q_nn, q_xor, q_xorm, Bool.false_eq_true, decide_eq_true_eq, ne_eq, l_0, l_1, l_4, l_5, l_7, l_8, l_9, l_10, l_13, l_14, l_15, l_16, l_20, l_27, l_58, l_75, l_85, l_4096, h14', q_cle, hz, e5, h15, lN_add]
          refine Go_in ⟨i5, _, rfl, rfl, by (repeat (first | exact Fx_refl _ _ | assumption | refine Fx_u2 rfl ?_ | refine Fx_u1 rfl (by decide) ?_ | refine Fx_step (by assumption) rfl ?_ | refine Fx_stepr (by assumption) rfl rfl ?_)), hL4.1, fun t ht => ?_, fun c c1 c2 => ?_⟩
          · show (if t = sFl g w s then _ else l5 15 t) = _
            by_cases e : t = sFl g w s
            · rw [if_pos e]; dsimp only; rw [fcn_s, if_pos e.symm, Nat.mul_add, Nat.mul_one, e, Nat.add_assoc]
            · rw [if_neg e, hL4.2.1 t ht]; dsimp only; rw [fcn_s, if_neg (fun z => e z.symm), Nat.add_zero]
          · funext t
            show (if c = 15 then _ else l5 c t) = _
            rw [if_neg c2, hL4.2.2 c c1 c2]
        · obtain ⟨i4, l4, e1, e2, hf4, hL4⟩ := hI
          subst e1; subst e2
          rw [b_M_laysSprings_27]
          simp (disch := first | assumption | omega) only [b_M_laysSprings_0, b_M_laysSprings_4, b_M_laysSprings_58, b_M_laysSprings_75, b_M_laysSprings_85, ↓Bool.cond_decide, ↓q_in, q_le, q_lt, q_eq, q_leT, q_leF, q_ltT, q_ltF, q_eqT, q_eqF, ↓reduceIte, not_true_eq_false, not_false_eq_true, true_and, and_true, and_self, false_and, and_false, Nat.zero_le, am_bd_some, q_app, q_app0, nI_add, pk_sub, pk_mul, q_dec, q_ix, q_m1, q_m1', ↓q_ret, q_bool, q_bool1, q_u2, q_u1, q_shl1, q_shr, q_and7, q_dg, fa_or, fa_and, decide_true, decide_false, Bool.or_false, Bool.or_true, Bool.true_or, Bool.false_or, cond_true, cond_false, ite_not, q_some, q_nn, q_xor, q_xorm, Bool.false_eq_true, decide_eq_true_eq, ne_eq, l_0, l_1, l_4, l_5, l_7, l_8, l_9, l_10, l_13, l_14, l_15, l_16, l_20, l_27, l_58, l_75, l_85, l_4096]
          exact Go_in ⟨i4, l4, _, rfl, rfl, hf4, hL4⟩
    · obtain ⟨i3, l3, z5, e1, e2, hf3, hL3⟩ := hI
      subst e1; subst e2
      rw [b_M_laysSprings_16]
      simp (disch := first | assumption | omega) only [b_M_laysSprings_0, b_M_laysSprings_4, b_M_laysSprings_58, b_M_laysSprings_75, b_M_laysSprings_85, ↓Bool.cond_decide, ↓q_in, q_le, q_lt, q_eq, q_leT, q_leF, q_ltT, q_ltF, q_eqT, q_eqF, ↓reduceIte, not_true_eq_false, not_false_eq_true, true_and, and_true, and_self, false_and, and_false, Nat.zero_le, am_bd_some, q_app, q_app0, nI_add, pk_sub, pk_mul, q_dec, q_ix, q_m1, q_m1', ↓q_ret, q_bool, q_bool1, q_u2, q_u1, q_shl1, q_shr, q_and7, q_dg, fa_or, fa_and, decide_true, decide_false, Bool.or_false, Bool.or_true, Bool.true_or, Bool.false_or, cond_true, cond_false, ite_not, q_some, q_nn, q_xor, q_xorm, Bool.false_eq_true, decide_eq_true_eq, ne_eq, l_0, l_1, l_4, l_5, l_7, l_8, l_9, l_10, l_13, l_14, l_15, l_16, l_20, l_27, l_58, l_75, l_85, l_4096]
      obtain ⟨i6, l6, e6, hi6, hL6⟩ := r_M_isThen (i := i3) (d + 5) hL3
      subst hi6
      rw [e6]
      simp (disch := first | assumption | omega) only [b_M_laysSprings_0, b_M_laysSprings_4, b_M_laysSprings_58, b_M_laysSprings_75, b_M_laysSprings_85, ↓Bool.cond_decide, ↓q_in, q_le, q_lt, q_eq, q_leT, q_leF, q_ltT, q_ltF, q_eqT, q_eqF, ↓reduceIte, not_true_eq_false, not_false_eq_true, true_and, and_true, and_self, false_and, and_false, Nat.zero_le, am_bd_some, q_app, q_app0, nI_add, pk_sub, pk_mul, q_dec, q_ix, q_m1, q_m1', ↓q_ret, q_bool, q_bool1, q_u2, q_u1, q_shl1, q_shr, q_and7, q_dg, fa_or, fa_and, decide_true, decide_false, Bool.or_false, Bool.or_true, Bool.true_or, Bool.false_or, cond_true, cond_false, ite_not, q_some, q_nn, q_xor, q_xorm, Bool.false_eq_true, decide_eq_true_eq, ne_eq, l_0, l_1, l_4, l_5, l_7, l_8, l_9, l_10, l_13, l_14, l_15, l_16, l_20, l_27, l_58, l_75, l_85, l_4096]
      have e10 : 10 ^ r * 10 = 10 ^ (r + 1) := (Nat.pow_succ _ _).symm
      rw [e10]
      exact Go_in ⟨i6, l6, _, _, rfl, rfl, hf3, hL6⟩
  · obtain ⟨i2, l2, z4, z5, e1, e2, hf2, hL2⟩ := hI
    subst e1; subst e2
    rw [b_M_laysSprings_8]
    simp (disch := first | assumption | omega) only [b_M_laysSprings_0, b_M_laysSprings_4, b_M_laysSprings_58, b_M_laysSprings_75, b_M_laysSprings_85, ↓Bool.cond_decide, ↓q_in, q_le, q_lt, q_eq, q_leT, q_leF, q_ltT, q_ltF, q_eqT, q_eqF, ↓reduceIte, not_true_eq_false, not_false_eq_true, true_and, and_true, and_self, false_and, and_false, Nat.zero_le, am_bd_some, q_app, q_app0, nI_add, pk_sub, pk_mul, q_dec, q_ix, q_m1, q_m1', ↓q_ret, q_bool, q_bool1, q_u2, q_u1, q_shl1, q_shr, q_and7, q_dg, fa_or, fa_and, decide_true, decide_false, Bool.or_false, Bool.or_true, Bool.true_or, Bool.false_or, cond_true, cond_false, ite_not, q_some, q_nn, q_xor, q_xorm, Bool.false_eq_true, decide_eq_true_eq, ne_eq, l_0, l_1, l_4, l_5, l_7, l_8, l_9, l_10, l_13, l_14, l_15, l_16, l_20, l_27, l_58, l_75, l_85, l_4096]
    exact MR_some (hQ _ _ ⟨hf2, hL2⟩)
theorem s_M_manyUp (d : Nat) {n p : Nat} {l0 : Nat → Nat → Int64} (hp : p < 4) (hn6 : n ≤ 6) (hA : MA i g) (hW : WG g) (hL : LK l0 l (sp g (sNow g 4) n) (fun _ => 0)) : am_cl (d + 3) mM_manyUp [.ref 0, .int (nI p)] (i, l, rM, kM) = some (some (.int (nI (spU g n p))), (i, l, rM, kM)) := by
  obtain ⟨⟨h1', h1⟩, h2, h3, hR, hF', hP, hSt, hD', hL0, hL1, hV⟩ := hW
  have hn := sNow_lt g hP 4 (by decide)
  have h10 := p10 n hn6
  have htot := sp_tot (a := sNow g 4) h2 hn n
  have hpt : ∀ s, s < 4096 → sp g (sNow g 4) n s ≤ 1000000 := fun s hs => by
    have := sSum_ge (f := sp g (sNow g 4) n) hs
    omega
  rw [c_M_manyUp, b_M_manyUp_0]
  refine am_loop (fun s ls st => ∃ z3, ls = [.val (.ref 0), .val (.int (nI p)), .val (.long (lN (sSum (fun s => if sSpot g (dg s p) = true then sp g (sNow g 4) n s else 0) s))), z3, .val (.int (nI s))] ∧ st = (i, l, rM, kM)) 4096 (fun o => o = some (some (.int (nI (spU g n p))), (i, l, rM, kM))) (fun s ls st hs hI => ?_) (fun ls st hI => ?_) ⟨_, rfl, rfl⟩
  · obtain ⟨z3, e1, e2⟩ := hI
    subst e1; subst e2
    have h14 := hL.1 s hs
    have hps := hpt s hs
    have hdl := dg_lt s p
    have e0 : (0 : Int64) = lN 0 := rfl
    rw [b_M_manyUp_5]
    by_cases hw0 : sp g (sNow g 4) n s = 0
    · have hz : ((0 : Int64) < lN 0) = False := by rw [q_lpos (by decide)]; exact eq_false (by decide)
      have eS : sSum (fun s => if sSpot g (dg s p) = true then sp g (sNow g 4) n s else 0) (s + 1) = sSum (fun s => if sSpot g (dg s p) = true then sp g (sNow g 4) n s else 0) s := by rw [sSum, hw0, ite_self, Nat.add_zero]
      simp (disch := first | assumption | omega) only [b_M_manyUp_0, b_M_manyUp_33, b_M_manyUp_37, b_M_manyUp_50, b_M_manyUp_51, s_M_isSpot, s_M_isSpot'', s_M_placeIn, ↓Bool.cond_decide, ↓q_in, q_le, q_lt, q_eq, q_leT, q_leF, q_ltT, q_ltF, q_eqT, q_eqF, ↓reduceIte, not_true_eq_false, not_false_eq_true, true_and, and_true, and_self, false_and, and_false, Nat.zero_le, am_bd_some, q_app, q_app0, nI_add, pk_sub, pk_mul, q_dec, q_ix, q_m1, q_m1', ↓q_ret, q_bool, q_bool1, q_u2, q_u1, q_shl1, q_shr, q_and7, q_dg, fa_or, fa_and, decide_true, decide_false, Bool.or_false, Bool.or_true, Bool.true_or, Bool.false_or, cond_true, cond_false, ite_not, q_some, q_nn, q_xor, q_xorm, Bool.false_eq_true, decide_eq_true_eq, ne_eq, l_0, l_1, l_4, l_5, l_7, l_10, l_14, l_21, l_33, l_37, l_50, l_51, l_4096, h14, hw0, q_cle, hz]
      rw [e0, lN_add, Nat.add_zero, ← eS]
      exact Go_in ⟨_, rfl, rfl⟩
    · have hz : ((0 : Int64) < lN (sp g (sNow g 4) n s)) = True := by rw [q_lpos (by omega)]; exact eq_true (by omega)
      cases hsp : sSpot g (dg s p) with
      | true =>
        have eS : sSum (fun s => if sSpot g (dg s p) = true then sp g (sNow g 4) n s else 0) (s + 1) = sSum (fun s => if sSpot g (dg s p) = true then sp g (sNow g 4) n s else 0) s + sp g (sNow g 4) n s := by rw [sSum, if_pos hsp]
        simp (disch := first | assumption | omega) only [b_M_manyUp_0, b_M_manyUp_33, b_M_manyUp_37, b_M_manyUp_50, b_M_manyUp_51, s_M_isSpot, s_M_isSpot'', s_M_placeIn, ↓Bool.cond_decide, ↓q_in, q_le, q_lt, q_eq, q_leT, q_leF, q_ltT, q_ltF, q_eqT, q_eqF, ↓reduceIte, not_true_eq_false, not_false_eq_true, true_and, and_true, and_self, false_and, and_false, Nat.zero_le, am_bd_some, q_app, q_app0, nI_add, pk_sub, pk_mul, q_dec, q_ix, q_m1, q_m1', ↓q_ret, q_bool, q_bool1, q_u2, q_u1, q_shl1, q_shr, q_and7, q_dg, fa_or, fa_and, decide_true, decide_false, Bool.or_false, Bool.or_true, Bool.true_or, Bool.false_or, cond_true, cond_false, ite_not, q_some, q_nn, q_xor, q_xorm, Bool.false_eq_true, decide_eq_true_eq, ne_eq, l_0, l_1, l_4, l_5, l_7, l_10, l_14, l_21, l_33, l_37, l_50, l_51, l_4096, h14, q_cle, hz, iS_nI, hsp, lN_add]
        rw [← eS]
        exact Go_in ⟨_, rfl, rfl⟩
      | false =>
        have eS : sSum (fun s => if sSpot g (dg s p) = true then sp g (sNow g 4) n s else 0) (s + 1) = sSum (fun s => if sSpot g (dg s p) = true then sp g (sNow g 4) n s else 0) s := by rw [sSum, if_neg (by rw [hsp]; decide), Nat.add_zero]
        simp (disch := first | assumption | omega) only [b_M_manyUp_0, b_M_manyUp_33, b_M_manyUp_37, b_M_manyUp_50, b_M_manyUp_51, s_M_isSpot, s_M_isSpot'', s_M_placeIn, ↓Bool.cond_decide, ↓q_in, q_le, q_lt, q_eq, q_leT, q_leF, q_ltT, q_ltF, q_eqT, q_eqF, ↓reduceIte, not_true_eq_false, not_false_eq_true, true_and, and_true, and_self, false_and, and_false, Nat.zero_le, am_bd_some, q_app, q_app0, nI_add, pk_sub, pk_mul, q_dec, q_ix, q_m1, q_m1', ↓q_ret, q_bool, q_bool1, q_u2, q_u1, q_shl1, q_shr, q_and7, q_dg, fa_or, fa_and, decide_true, decide_false, Bool.or_false, Bool.or_true, Bool.true_or, Bool.false_or, cond_true, cond_false, ite_not, q_some, q_nn, q_xor, q_xorm, Bool.false_eq_true, decide_eq_true_eq, ne_eq, l_0, l_1, l_4, l_5, l_7, l_10, l_14, l_21, l_33, l_37, l_50, l_51, l_4096, h14, q_cle, hz, iS_nI, hsp]
        rw [e0, lN_add, Nat.add_zero, ← eS]
        exact Go_in ⟨_, rfl, rfl⟩
  · obtain ⟨z3, e1, e2⟩ := hI
    subst e1; subst e2
    rw [b_M_manyUp_5]
    simp (disch := first | assumption | omega) only [b_M_manyUp_0, b_M_manyUp_33, b_M_manyUp_37, b_M_manyUp_50, b_M_manyUp_51, s_M_isSpot, s_M_isSpot'', s_M_placeIn, ↓Bool.cond_decide, ↓q_in, q_le, q_lt, q_eq, q_leT, q_leF, q_ltT, q_ltF, q_eqT, q_eqF, ↓reduceIte, not_true_eq_false, not_false_eq_true, true_and, and_true, and_self, false_and, and_false, Nat.zero_le, am_bd_some, q_app, q_app0, nI_add, pk_sub, pk_mul, q_dec, q_ix, q_m1, q_m1', ↓q_ret, q_bool, q_bool1, q_u2, q_u1, q_shl1, q_shr, q_and7, q_dg, fa_or, fa_and, decide_true, decide_false, Bool.or_false, Bool.or_true, Bool.true_or, Bool.false_or, cond_true, cond_false, ite_not, q_some, q_nn, q_xor, q_xorm, Bool.false_eq_true, decide_eq_true_eq, ne_eq, l_0, l_1, l_4, l_5, l_7, l_10, l_14, l_21, l_33, l_37, l_50, l_51, l_4096, lN_i]
    rfl
theorem r_M_chance (d : Nat) (x y z : Int32) {σ : St} (hS : MS i l σ) (hW : WG σ.1) : MR (some (.int (v_chance σ.1 x y z))) (fun i' l' => MS i' l' (σ)) (am_cl (d + 60) mM_chance [.ref 0, .int x, .int y, .int z] (i, l, rM, kM)) := by
  have hW' := hW
  obtain ⟨g, σ⟩ := σ
  obtain ⟨⟨h1', h1⟩, h2, h3, hR, hF, hP, hSt, hD, hL0, hL1, hV⟩ := hW
  have h1 : g 1 ≤ 6 := h1
  have h2 : g 2 ≤ 4 := h2
  have hR : ∀ p, p < 4 → g (10 + p) ≤ 4 := hR
  have hP : ∀ p, p < 4 → g (18 + p) < 8 := hP
  have hSt : ∀ p, p < 4 → g (22 + p) ≤ 9 := hSt
  have hD : ∀ s, s < 6 → g (26 + s) ≤ 9 := hD
  have hA := hS.1
  have hn := sNow_lt g hP 4 (by decide)
  have hf0 : Fx [100] i (am_u2 i 0 0 (nI 0)) := by (repeat (first | exact Fx_refl _ _ | assumption | refine Fx_u2 rfl ?_ | refine Fx_u1 rfl (by decide) ?_ | refine Fx_step (by assumption) rfl ?_ | refine Fx_stepr (by assumption) rfl rfl ?_))
  have hM0 : MA (am_u2 i 0 0 (nI 0)) g := MA_fx hf0 hA rfl
  have hM0' : ∀ k, k < 3222 → am_u2 i 0 0 (nI 0) 1 k = nI (g k) := hM0
  have ey := iR_e 0 6 (lo := 0) (hi := 6) rfl rfl y
  have ez := iR_e 0 1 (lo := 0) (hi := 1) rfl rfl z
  rw [c_M_chance, b_M_chance_0, v_chance]
  by_cases hx : iB x (g 2) = true
  · by_cases hz : iR 0 1 z = true
    · by_cases hy : iR 0 6 y = true
      · have hx' := hx
        have hy' := hy
        obtain ⟨p, hp, rfl⟩ := iB_T hx'
        obtain ⟨n, _, hn6, rfl⟩ := iR_T hy'
        have hpp := hP p (by omega)
        cases hsp : sSpot g (g (18 + p)) with
        | true =>
          simp (disch := first | assumption | omega) only [b_M_chance_0, b_M_chance_11, b_M_chance_21, b_M_chance_24, b_M_chance_36, b_M_chance_47, b_M_chance_58, b_M_chance_65, b_M_chance_71, s_M_isPerson, s_M_isUp, s_M_manyUp, s_M_part, s_M_within, ↓Bool.cond_decide, ↓q_in, q_le, q_lt, q_eq, q_leT, q_leF, q_ltT, q_ltF, q_eqT, q_eqF, ↓reduceIte, not_true_eq_false, not_false_eq_true, true_and, and_true, and_self, false_and, and_false, Nat.zero_le, am_bd_some, q_app, q_app0, nI_add, pk_sub, pk_mul, q_dec, q_ix, q_m1, q_m1', ↓q_ret, q_bool, q_bool1, q_u1, q_shl1, q_shr, q_and7, q_dg, fa_or, fa_and, decide_true, decide_false, Bool.or_false, Bool.or_true, Bool.true_or, Bool.false_or, cond_true, cond_false, ite_not, q_some, q_nn, q_xor, q_xorm, Bool.false_eq_true, decide_eq_true_eq, ne_eq, l_0, l_1, l_2, l_3, l_4, l_5, l_6, l_8, l_9, l_11, l_21, l_24, l_36, l_47, l_58, l_65, l_71, hx, ez, hz, ey, hy, hsp]
          refine MR_bd (r_M_laysSprings (d + 52) hn6 hM0 hW') ?_
          intro i2 l2 ⟨hf2, hL2⟩
          have hM2 : MA i2 g := MA_fx hf2 hM0 rfl
          have hmu := s_M_manyUp (i := i2) (l := l2) (d + 56) (n := n) (p := p) (by omega) hn6 hM2 hW' hL2
          have hul := spU_le (g := g) (n := n) (p := p) h2 hn hn6
          have h10 := p10 n hn6
          have h100 : 0 < 10 ^ n := Nat.pow_pos (by decide)
          have hpa := s_M_part (d + 9) (a := spU g n p) (b := 10 ^ n) z (by omega) h100 h10 i2 l2 rM kM
          simp (disch := first | assumption | omega) only [b_M_chance_0, b_M_chance_11, b_M_chance_21, b_M_chance_24, b_M_chance_36, b_M_chance_47, b_M_chance_58, b_M_chance_65, b_M_chance_71, s_M_isPerson, s_M_isUp, s_M_within, ↓Bool.cond_decide, ↓q_in, q_le, q_lt, q_eq, q_leT, q_leF, q_ltT, q_ltF, q_eqT, q_eqF, ↓reduceIte, not_true_eq_false, not_false_eq_true, true_and, and_true, and_self, false_and, and_false, Nat.zero_le, am_bd_some, q_app, q_app0, nI_add, pk_sub, pk_mul, q_dec, q_ix, q_m1, q_m1', ↓q_ret, q_bool, q_bool1, q_u2, q_u1, q_shl1, q_shr, q_and7, q_dg, fa_or, fa_and, decide_true, decide_false, Bool.or_false, Bool.or_true, Bool.true_or, Bool.false_or, cond_true, cond_false, ite_not, q_some, q_nn, q_xor, q_xorm, Bool.false_eq_true, decide_eq_true_eq, ne_eq, l_0, l_1, l_2, l_3, l_4, l_5, l_6, l_8, l_9, l_11, l_21, l_24, l_36, l_47, l_58, l_65, l_71, hmu, hpa]
          exact MR_some (MS_fx (R := RQ) (by (repeat (first | exact Fx_refl _ _ | assumption | refine Fx_u2 rfl ?_ | refine Fx_u1 rfl (by decide) ?_ | refine Fx_step (by assumption) rfl ?_ | refine Fx_stepr (by assumption) rfl rfl ?_))) (hL2.2.2 24 (by decide) (by decide)) rfl hS)
        | false =>
          simp (disch := first | assumption | omega) only [b_M_chance_0, b_M_chance_11, b_M_chance_21, b_M_chance_24, b_M_chance_36, b_M_chance_47, b_M_chance_58, b_M_chance_65, b_M_chance_71, s_M_isPerson, s_M_isUp, s_M_manyUp, s_M_part, s_M_within, ↓Bool.cond_decide, ↓q_in, q_le, q_lt, q_eq, q_leT, q_leF, q_ltT, q_ltF, q_eqT, q_eqF, ↓reduceIte, not_true_eq_false, not_false_eq_true, true_and, and_true, and_self, false_and, and_false, Nat.zero_le, am_bd_some, q_app, q_app0, nI_add, pk_sub, pk_mul, q_dec, q_ix, q_m1, q_m1', ↓q_ret, q_bool, q_bool1, q_u1, q_shl1, q_shr, q_and7, q_dg, fa_or, fa_and, decide_true, decide_false, Bool.or_false, Bool.or_true, Bool.true_or, Bool.false_or, cond_true, cond_false, ite_not, q_some, q_nn, q_xor, q_xorm, Bool.false_eq_true, decide_eq_true_eq, ne_eq, l_0, l_1, l_2, l_3, l_4, l_5, l_6, l_8, l_9, l_11, l_21, l_24, l_36, l_47, l_58, l_65, l_71, hx, ez, hz, ey, hy, hsp]
          exact MR_some (MS_fx (R := RQ) (by (repeat (first | exact Fx_refl _ _ | assumption | refine Fx_u2 rfl ?_ | refine Fx_u1 rfl (by decide) ?_ | refine Fx_step (by assumption) rfl ?_ | refine Fx_stepr (by assumption) rfl rfl ?_))) rfl rfl hS)
      · simp (disch := first | assumption | omega) only [b_M_chance_0, b_M_chance_11, b_M_chance_21, b_M_chance_24, b_M_chance_36, b_M_chance_47, b_M_chance_58, b_M_chance_65, b_M_chance_71, s_M_isPerson, s_M_isUp, s_M_manyUp, s_M_part, s_M_within, ↓Bool.cond_decide, ↓q_in, q_le, q_lt, q_eq, q_leT, q_leF, q_ltT, q_ltF, q_eqT, q_eqF, ↓reduceIte, not_true_eq_false, not_false_eq_true, true_and, and_true, and_self, false_and, and_false, Nat.zero_le, am_bd_some, q_app, q_app0, nI_add, pk_sub, pk_mul, q_dec, q_ix, q_m1, q_m1', ↓q_ret, q_bool, q_bool1, q_u2, q_u1, q_shl1, q_shr, q_and7, q_dg, fa_or, fa_and, decide_true, decide_false, Bool.or_false, Bool.or_true, Bool.true_or, Bool.false_or, cond_true, cond_false, ite_not, q_some, q_nn, q_xor, q_xorm, Bool.false_eq_true, decide_eq_true_eq, ne_eq, l_0, l_1, l_2, l_3, l_4, l_5, l_6, l_8, l_9, l_11, l_21, l_24, l_36, l_47, l_58, l_65, l_71, hx, ez, hz, ey, hy]
        exact MR_some (MS_fx (R := RQ) (by (repeat (first | exact Fx_refl _ _ | assumption | refine Fx_u2 rfl ?_ | refine Fx_u1 rfl (by decide) ?_ | refine Fx_step (by assumption) rfl ?_ | refine Fx_stepr (by assumption) rfl rfl ?_))) rfl rfl hS)
    · simp (disch := first | assumption | omega) only [b_M_chance_0, b_M_chance_11, b_M_chance_21, b_M_chance_24, b_M_chance_36, b_M_chance_47, b_M_chance_58, b_M_chance_65, b_M_chance_71, s_M_isPerson, s_M_isUp, s_M_manyUp, s_M_part, s_M_within, ↓Bool.cond_decide, ↓q_in, q_le, q_lt, q_eq, q_leT, q_leF, q_ltT, q_ltF, q_eqT, q_eqF, ↓reduceIte, not_true_eq_false, not_false_eq_true, true_and, and_true, and_self, false_and, and_false, Nat.zero_le, am_bd_some, q_app, q_app0, nI_add, pk_sub, pk_mul, q_dec, q_ix, q_m1, q_m1', ↓q_ret, q_bool, q_bool1, q_u2, q_u1, q_shl1, q_shr, q_and7, q_dg, fa_or, fa_and, decide_true, decide_false, Bool.or_false, Bool.or_true, Bool.true_or, Bool.false_or, cond_true, cond_false, ite_not, q_some, q_nn, q_xor, q_xorm, Bool.false_eq_true, decide_eq_true_eq, ne_eq, l_0, l_1, l_2, l_3, l_4, l_5, l_6, l_8, l_9, l_11, l_21, l_24, l_36, l_47, l_58, l_65, l_71, hx, ez, hz]
      exact MR_some (MS_fx (R := RQ) (by (repeat (first | exact Fx_refl _ _ | assumption | refine Fx_u2 rfl ?_ | refine Fx_u1 rfl (by decide) ?_ | refine Fx_step (by assumption) rfl ?_ | refine Fx_stepr (by assumption) rfl rfl ?_))) rfl rfl hS)
  · simp (disch := first | assumption | omega) only [b_M_chance_0, b_M_chance_11, b_M_chance_21, b_M_chance_24, b_M_chance_36, b_M_chance_47, b_M_chance_58, b_M_chance_65, b_M_chance_71, s_M_isPerson, s_M_isUp, s_M_manyUp, s_M_part, s_M_within, ↓Bool.cond_decide, ↓q_in, q_le, q_lt, q_eq, q_leT, q_leF, q_ltT, q_ltF, q_eqT, q_eqF, ↓reduceIte, not_true_eq_false, not_false_eq_true, true_and, and_true, and_self, false_and, and_false, Nat.zero_le, am_bd_some, q_app, q_app0, nI_add, pk_sub, pk_mul, q_dec, q_ix, q_m1, q_m1', ↓q_ret, q_bool, q_bool1, q_u2, q_u1, q_shl1, q_shr, q_and7, q_dg, fa_or, fa_and, decide_true, decide_false, Bool.or_false, Bool.or_true, Bool.true_or, Bool.false_or, cond_true, cond_false, ite_not, q_some, q_nn, q_xor, q_xorm, Bool.false_eq_true, decide_eq_true_eq, ne_eq, l_0, l_1, l_2, l_3, l_4, l_5, l_6, l_8, l_9, l_11, l_21, l_24, l_36, l_47, l_58, l_65, l_71, hx]
    exact MR_some (MS_fx (R := RQ) (by (repeat (first | exact Fx_refl _ _ | assumption | refine Fx_u2 rfl ?_ | refine Fx_u1 rfl (by decide) ?_ | refine Fx_step (by assumption) rfl ?_ | refine Fx_stepr (by assumption) rfl rfl ?_))) rfl rfl hS)
theorem r_M_mean (d : Nat) (x y : Int32) {σ : St} (hS : MS i l σ) (hW : WG σ.1) : MR (some (.int (v_mean σ.1 x y))) (fun i' l' => MS i' l' (σ)) (am_cl (d + 60) mM_mean [.ref 0, .int x, .int y] (i, l, rM, kM)) := by
  have hW' := hW
  obtain ⟨g, σ⟩ := σ
  obtain ⟨⟨h1', h1⟩, h2, h3, hR, hF, hP, hSt, hD, hL0, hL1, hV⟩ := hW
  have h1 : g 1 ≤ 6 := h1
  have h2 : g 2 ≤ 4 := h2
  have hR : ∀ p, p < 4 → g (10 + p) ≤ 4 := hR
  have hP : ∀ p, p < 4 → g (18 + p) < 8 := hP
  have hSt : ∀ p, p < 4 → g (22 + p) ≤ 9 := hSt
  have hD : ∀ s, s < 6 → g (26 + s) ≤ 9 := hD
  have hA := hS.1
  have hn := sNow_lt g hP 4 (by decide)
  have hf0 : Fx [100] i (am_u2 i 0 0 (nI 0)) := by (repeat (first | exact Fx_refl _ _ | assumption | refine Fx_u2 rfl ?_ | refine Fx_u1 rfl (by decide) ?_ | refine Fx_step (by assumption) rfl ?_ | refine Fx_stepr (by assumption) rfl rfl ?_))
  have hM0 : MA (am_u2 i 0 0 (nI 0)) g := MA_fx hf0 hA rfl
  have hM0' : ∀ k, k < 3222 → am_u2 i 0 0 (nI 0) 1 k = nI (g k) := hM0
  have ex := iR_e 0 6 (lo := 0) (hi := 6) rfl rfl x
  have ey := iR_e 0 1 (lo := 0) (hi := 1) rfl rfl y
  rw [c_M_mean, b_M_mean_0, v_mean]
  by_cases hy : iR 0 1 y = true
  · by_cases hx : iR 0 6 x = true
    · obtain ⟨n, _, hn6, rfl⟩ := iR_T hx
      simp (disch := first | assumption | omega) only [b_M_mean_0, b_M_mean_12, b_M_mean_27, b_M_mean_38, b_M_mean_64, b_M_mean_80, s_M_manyUp, s_M_part, s_M_within, ↓Bool.cond_decide, ↓q_in, q_le, q_lt, q_eq, q_leT, q_leF, q_ltT, q_ltF, q_eqT, q_eqF, ↓reduceIte, not_true_eq_false, not_false_eq_true, true_and, and_true, and_self, false_and, and_false, Nat.zero_le, am_bd_some, q_app, q_app0, nI_add, pk_sub, pk_mul, q_dec, q_ix, q_m1, q_m1', ↓q_ret, q_bool, q_bool1, q_u1, q_shl1, q_shr, q_and7, q_dg, fa_or, fa_and, decide_true, decide_false, Bool.or_false, Bool.or_true, Bool.true_or, Bool.false_or, cond_true, cond_false, ite_not, q_some, q_nn, q_xor, q_xorm, Bool.false_eq_true, decide_eq_true_eq, ne_eq, l_0, l_1, l_2, l_3, l_6, l_7, l_8, l_10, l_12, l_16, l_27, l_38, l_45, l_64, l_80, ey, hy, ex, hx]
      refine MR_bd (r_M_laysSprings (d + 52) hn6 hM0 hW') ?_
      intro i2 l2 ⟨hf2, hL2⟩
      have hA2 : ∀ k, k < 3222 → i2 1 k = nI (g k) := MA_fx hf2 hM0 rfl
      have hM2 : MA i2 g := hA2
      have h10 := p10 n hn6
      have h100 : 0 < 10 ^ n := Nat.pow_pos (by decide)
      have hul : ∀ p, spU g n p ≤ 1000000 := fun p => spU_le (g := g) (n := n) (p := p) h2 hn hn6
      simp (disch := first | assumption | omega) only [b_M_mean_0, b_M_mean_12, b_M_mean_27, b_M_mean_38, b_M_mean_64, b_M_mean_80, s_M_manyUp, s_M_part, s_M_within, ↓Bool.cond_decide, ↓q_in, q_le, q_lt, q_eq, q_leT, q_leF, q_ltT, q_ltF, q_eqT, q_eqF, ↓reduceIte, not_true_eq_false, not_false_eq_true, true_and, and_true, and_self, false_and, and_false, Nat.zero_le, am_bd_some, q_app, q_app0, nI_add, pk_sub, pk_mul, q_dec, q_ix, q_m1, q_m1', ↓q_ret, q_bool, q_bool1, q_u2, q_u1, q_shl1, q_shr, q_and7, q_dg, fa_or, fa_and, decide_true, decide_false, Bool.or_false, Bool.or_true, Bool.true_or, Bool.false_or, cond_true, cond_false, ite_not, q_some, q_nn, q_xor, q_xorm, Bool.false_eq_true, decide_eq_true_eq, ne_eq, l_0, l_1, l_2, l_3, l_6, l_7, l_8, l_10, l_12, l_16, l_27, l_38, l_45, l_64, l_80]
      refine am_loop (fun p ls st => ∃ z1, ls = [.val (.ref 0), z1, .val (.int y), .val (.int (nI (10 ^ n))), .val (.int (nI (sSum (fun p => spU g n p) p))), .val (.int (nI p))] ∧ st = (i2, l2, rM, kM)) (g 2) _ (fun p ls st hp hI => ?_) (fun ls st hI => ?_) ⟨_, rfl, rfl⟩
      · obtain ⟨z1, e1, e2⟩ := hI
        subst e1; subst e2
        have hmu := s_M_manyUp (i := i2) (l := l2) (d + 56) (n := n) (p := p) (by omega) hn6 hM2 hW' hL2
        rw [b_M_mean_45]
        simp (disch := first | assumption | omega) only [b_M_mean_0, b_M_mean_12, b_M_mean_27, b_M_mean_38, b_M_mean_64, b_M_mean_80, s_M_within, ↓Bool.cond_decide, ↓q_in, q_le, q_lt, q_eq, q_leT, q_leF, q_ltT, q_ltF, q_eqT, q_eqF, ↓reduceIte, not_true_eq_false, not_false_eq_true, true_and, and_true, and_self, false_and, and_false, Nat.zero_le, am_bd_some, q_app, q_app0, nI_add, pk_sub, pk_mul, q_dec, q_ix, q_m1, q_m1', ↓q_ret, q_bool, q_bool1, q_u2, q_u1, q_shl1, q_shr, q_and7, q_dg, fa_or, fa_and, decide_true, decide_false, Bool.or_false, Bool.or_true, Bool.true_or, Bool.false_or, cond_true, cond_false, ite_not, q_some, q_nn, q_xor, q_xorm, Bool.false_eq_true, decide_eq_true_eq, ne_eq, l_0, l_1, l_2, l_3, l_6, l_7, l_8, l_10, l_12, l_16, l_27, l_38, l_45, l_64, l_80, hA2, hmu]
        exact Go_in ⟨_, rfl, rfl⟩
      · obtain ⟨z1, e1, e2⟩ := hI
        subst e1; subst e2
        have hsl := sSum_le (f := fun p => spU g n p) (b := 1000000) (g 2) (fun k _ => hul k)
        have hpa := s_M_part (d + 9) (a := sSum (fun p => spU g n p) (g 2)) (b := 10 ^ n) y (by have : g 2 * 1000000 ≤ 4 * 1000000 := Nat.mul_le_mul_right _ h2; omega) h100 h10 i2 l2 rM kM
        rw [b_M_mean_45]
        simp (disch := first | assumption | omega) only [b_M_mean_0, b_M_mean_12, b_M_mean_27, b_M_mean_38, b_M_mean_64, b_M_mean_80, s_M_manyUp, s_M_within, ↓Bool.cond_decide, ↓q_in, q_le, q_lt, q_eq, q_leT, q_leF, q_ltT, q_ltF, q_eqT, q_eqF, ↓reduceIte, not_true_eq_false, not_false_eq_true, true_and, and_true, and_self, false_and, and_false, Nat.zero_le, am_bd_some, q_app, q_app0, nI_add, pk_sub, pk_mul, q_dec, q_ix, q_m1, q_m1', ↓q_ret, q_bool, q_bool1, q_u2, q_u1, q_shl1, q_shr, q_and7, q_dg, fa_or, fa_and, decide_true, decide_false, Bool.or_false, Bool.or_true, Bool.true_or, Bool.false_or, cond_true, cond_false, ite_not, q_some, q_nn, q_xor, q_xorm, Bool.false_eq_true, decide_eq_true_eq, ne_eq, l_0, l_1, l_2, l_3, l_6, l_7, l_8, l_10, l_12, l_16, l_27, l_38, l_45, l_64, l_80, hA2, hpa]
        exact MR_some (MS_fx (R := RQ) (by (repeat (first | exact Fx_refl _ _ | assumption | refine Fx_u2 rfl ?_ | refine Fx_u1 rfl (by decide) ?_ | refine Fx_step (by assumption) rfl ?_ | refine Fx_stepr (by assumption) rfl rfl ?_))) (hL2.2.2 24 (by decide) (by decide)) rfl hS)
    · simp (disch := first | assumption | omega) only [b_M_mean_0, b_M_mean_12, b_M_mean_27, b_M_mean_38, b_M_mean_64, b_M_mean_80, s_M_manyUp, s_M_part, s_M_within, ↓Bool.cond_decide, ↓q_in, q_le, q_lt, q_eq, q_leT, q_leF, q_ltT, q_ltF, q_eqT, q_eqF, ↓reduceIte, not_true_eq_false, not_false_eq_true, true_and, and_true, and_self, false_and, and_false, Nat.zero_le, am_bd_some, q_app, q_app0, nI_add, pk_sub, pk_mul, q_dec, q_ix, q_m1, q_m1', ↓q_ret, q_bool, q_bool1, q_u2, q_u1, q_shl1, q_shr, q_and7, q_dg, fa_or, fa_and, decide_true, decide_false, Bool.or_false, Bool.or_true, Bool.true_or, Bool.false_or, cond_true, cond_false, ite_not, q_some, q_nn, q_xor, q_xorm, Bool.false_eq_true, decide_eq_true_eq, ne_eq, l_0, l_1, l_2, l_3, l_6, l_7, l_8, l_10, l_12, l_16, l_27, l_38, l_45, l_64, l_80, ey, hy, ex, hx]
      exact MR_some (MS_fx (R := RQ) (by (repeat (first | exact Fx_refl _ _ | assumption | refine Fx_u2 rfl ?_ | refine Fx_u1 rfl (by decide) ?_ | refine Fx_step (by assumption) rfl ?_ | refine Fx_stepr (by assumption) rfl rfl ?_))) rfl rfl hS)
  · simp (disch := first | assumption | omega) only [b_M_mean_0, b_M_mean_12, b_M_mean_27, b_M_mean_38, b_M_mean_64, b_M_mean_80, s_M_manyUp, s_M_part, s_M_within, ↓Bool.cond_decide, ↓q_in, q_le, q_lt, q_eq, q_leT, q_leF, q_ltT, q_ltF, q_eqT, q_eqF, ↓reduceIte, not_true_eq_false, not_false_eq_true, true_and, and_true, and_self, false_and, and_false, Nat.zero_le, am_bd_some, q_app, q_app0, nI_add, pk_sub, pk_mul, q_dec, q_ix, q_m1, q_m1', ↓q_ret, q_bool, q_bool1, q_u2, q_u1, q_shl1, q_shr, q_and7, q_dg, fa_or, fa_and, decide_true, decide_false, Bool.or_false, Bool.or_true, Bool.true_or, Bool.false_or, cond_true, cond_false, ite_not, q_some, q_nn, q_xor, q_xorm, Bool.false_eq_true, decide_eq_true_eq, ne_eq, l_0, l_1, l_2, l_3, l_6, l_7, l_8, l_10, l_12, l_16, l_27, l_38, l_45, l_64, l_80, ey, hy]
    exact MR_some (MS_fx (R := RQ) (by (repeat (first | exact Fx_refl _ _ | assumption | refine Fx_u2 rfl ?_ | refine Fx_u1 rfl (by decide) ?_ | refine Fx_step (by assumption) rfl ?_ | refine Fx_stepr (by assumption) rfl rfl ?_))) rfl rfl hS)
end
