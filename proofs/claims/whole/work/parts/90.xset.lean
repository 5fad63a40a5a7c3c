/-! THE CLASS: sets, stands -/
theorem x_hb (x : Int32) {k : Nat} (hk : k < 32) : ((x >>> (nI k &&& 31)) &&& (1 : Int32) = 0) ↔ x.toBitVec.getLsbD k = false := by
  have e0 : (1 : Int32).toBitVec.toNat = 2 ^ 1 - 1 := rfl
  rw [pk_and _ 1 e0]
  have e : ((nI k &&& 31).toBitVec.smod 32).toNat = k := k_sh31 k hk
  have e2 : (x >>> (nI k &&& 31)).toBitVec = x.toBitVec.sshiftRight k := by
    show x.toBitVec.sshiftRight ((nI k &&& 31).toBitVec.smod 32).toNat = _
    rw [e]
  rw [e2]
  have h := BitVec.getLsbD_sshiftRight (x := x.toBitVec) (s := k) (i := 0)
  rw [if_pos (by omega)] at h
  have h2 : (!decide (32 ≤ 0)) = true := by decide
  rw [h2, Bool.true_and, Nat.add_zero] at h
  rw [← h]
  have h3 : (x.toBitVec.sshiftRight k).getLsbD 0 = decide ((x.toBitVec.sshiftRight k).toNat % 2 = 1) := by
    show (x.toBitVec.sshiftRight k).toNat.testBit 0 = _
    rw [Nat.testBit_zero]
  rw [h3, decide_eq_false_iff_not, show (2 : Nat) ^ 1 = 2 from rfl]
  have hm : (x.toBitVec.sshiftRight k).toNat % 2 < 2 := Nat.mod_lt _ (by decide)
  generalize (x.toBitVec.sshiftRight k).toNat % 2 = b at hm
  constructor
  · intro z hb
    rw [hb] at z
    exact absurd z (by decide)
  · intro z
    have : b = 0 := by omega
    rw [this]; rfl
theorem x_nb {a k : Nat} (ha : a < 4294967296) : (nI a).toBitVec.getLsbD k = a.testBit k := by
  show (BitVec.ofNat 32 a).getLsbD k = _
  rw [BitVec.getLsbD_ofNat]
  by_cases c : k < 32
  · rw [decide_eq_true c, Bool.true_and]
  · rw [decide_eq_false c, Bool.false_and]
    symm
    apply Nat.testBit_lt_two_pow
    have h6 : 2 ^ 32 ≤ 2 ^ k := Nat.pow_le_pow_right (by decide) (by omega)
    omega
section
variable {i : Nat → Nat → Int32} {l : Nat → Nat → Int64} {q : Nat → Nat → Option Nat} {K : List (Nat × Nat)} {r : Nat}
theorem s_X_hasBit (d : Nat) (x : Int32) {k : Nat} (hk : k < 32) (s : aM) : am_cl (d + 1) mX_hasBit [.int x, .int (nI k)] s = some (some (.int (if x.toBitVec.getLsbD k = true then nI 1 else nI 0)), s) := by
  obtain ⟨i, l, q, K⟩ := s
  rw [c_X_hasBit, b_X_hasBit_0]
  have h := x_hb x hk
  cases hb : x.toBitVec.getLsbD k with
  | false =>
    have c := h.mpr hb
    rw [decide_eq_true c]
    exact b_X_hasBit_13 ..
  | true =>
    have c : ¬ ((x >>> (nI k &&& 31)) &&& (1 : Int32) = 0) := fun z => by rw [h.mp z] at hb; cases hb
    rw [decide_eq_false c]
    exact b_X_hasBit_13 ..
theorem s_X_hasBit' (d : Nat) {a k : Nat} (ha : a < 4294967296) (hk : k < 32) (s : aM) : am_cl (d + 1) mX_hasBit [.int (nI a), .int (nI k)] s = some (some (.int (if a.testBit k = true then nI 1 else nI 0)), s) := by
  rw [s_X_hasBit d _ hk, x_nb ha]
theorem s_River_isPlace (d : Nat) (x : Int32) {S : Nat} (hk : Nat.beq (am_kd (i, l, q, K) r) 6 = true) (h0 : i r 0 = nI S) (hS : S < 100) : am_cl (d + 2) mRiver_isPlace [.ref r, .int x] (i, l, q, K) = some (some (.int (if iB x (S + 2) = true then nI 1 else nI 0)), (i, l, q, K)) := by
  have hf := s_River_farBank d hk h0
  rw [c_River_isPlace, b_River_isPlace_0]
  by_cases hx : iB x (S + 2) = true
  · obtain ⟨p, hp, rfl⟩ := iB_T hx
    simp (disch := first | assumption | omega) only [b_River_isPlace_0, b_River_isPlace_9, b_River_isPlace_16, b_River_isPlace_17, ↓Bool.cond_decide, ↓q_in, q_le, q_lt, q_eq, q_leT, q_leF, q_ltT, q_ltF, q_eqT, q_eqF, ↓reduceIte, not_true_eq_false, not_false_eq_true, true_and, and_true, and_self, false_and, and_false, Nat.zero_le, am_bd_some, q_app, q_app0, nI_add, pk_sub, pk_mul, q_dec, q_ix, q_m1, q_m1', ↓q_ret, q_bool, q_bool1, q_u2, q_u1, q_shl1, q_shr, q_and7, q_dg, fa_or, fa_and, decide_true, decide_false, Bool.or_false, Bool.or_true, Bool.true_or, Bool.false_or, cond_true, cond_false, ite_not, q_some, q_nn, q_xor, q_xorm, Bool.false_eq_true, decide_eq_true_eq, ne_eq, l_0, l_1, l_3, l_4, l_6, l_7, l_8, l_9, l_16, l_17, hx, hk, hf, cond_true, Bool.and_true]
  · by_cases c1 : x < nI 0
    · simp (disch := first | assumption | omega) only [b_River_isPlace_0, b_River_isPlace_9, b_River_isPlace_16, b_River_isPlace_17, s_River_farBank, ↓Bool.cond_decide, ↓q_in, q_le, q_lt, q_eq, q_leT, q_leF, q_ltT, q_ltF, q_eqT, q_eqF, ↓reduceIte, not_true_eq_false, not_false_eq_true, true_and, and_true, and_self, false_and, and_false, Nat.zero_le, am_bd_some, q_app, q_app0, nI_add, pk_sub, pk_mul, q_dec, q_ix, q_m1, q_m1', ↓q_ret, q_bool, q_bool1, q_u2, q_u1, q_shl1, q_shr, q_and7, q_dg, fa_or, fa_and, decide_true, decide_false, Bool.or_false, Bool.or_true, Bool.true_or, Bool.false_or, cond_true, cond_false, ite_not, q_some, q_nn, q_xor, q_xorm, Bool.false_eq_true, decide_eq_true_eq, ne_eq, l_0, l_1, l_3, l_4, l_6, l_7, l_8, l_9, l_16, l_17, hx, c1, hk, cond_true, Bool.and_true]
    · have c2 : nI (S + 1) < x := by
        unfold iB at hx
        rw [decide_eq_true_eq] at hx
        rw [fa_lt, nI_toInt (by decide)] at c1
        rw [fa_lt, nI_toInt (by omega)]
        omega
      simp (disch := first | assumption | omega) only [b_River_isPlace_0, b_River_isPlace_9, b_River_isPlace_16, b_River_isPlace_17, ↓Bool.cond_decide, ↓q_in, q_le, q_lt, q_eq, q_leT, q_leF, q_ltT, q_ltF, q_eqT, q_eqF, ↓reduceIte, not_true_eq_false, not_false_eq_true, true_and, and_true, and_self, false_and, and_false, Nat.zero_le, am_bd_some, q_app, q_app0, nI_add, pk_sub, pk_mul, q_dec, q_ix, q_m1, q_m1', ↓q_ret, q_bool, q_bool1, q_u2, q_u1, q_shl1, q_shr, q_and7, q_dg, fa_or, fa_and, decide_true, decide_false, Bool.or_false, Bool.or_true, Bool.true_or, Bool.false_or, cond_true, cond_false, ite_not, q_some, q_nn, q_xor, q_xorm, Bool.false_eq_true, decide_eq_true_eq, ne_eq, l_0, l_1, l_3, l_4, l_6, l_7, l_8, l_9, l_16, l_17, hx, c1, c2, hk, hf, cond_true, Bool.and_true]
theorem s_River_isSet (d : Nat) (x : Int32) {P : Nat} (hk : Nat.beq (am_kd (i, l, q, K) r) 6 = true) (h1 : i r 1 = nI P) (hP : P ≤ 4) : am_cl (d + 2) mRiver_isSet [.ref r, .int x] (i, l, q, K) = some (some (.int (if iB x (2 ^ P) = true then nI 1 else nI 0)), (i, l, q, K)) := by
  have hf := s_River_everybody d hk h1 hP
  have hp1 := Nat.two_pow_pos P
  have hp2 : 2 ^ P ≤ 2 ^ 4 := Nat.pow_le_pow_right (by decide) hP
  rw [c_River_isSet, b_River_isSet_0]
  by_cases hx : iB x (2 ^ P) = true
  · obtain ⟨p, hp, rfl⟩ := iB_T hx
    simp (disch := first | assumption | omega) only [b_River_isSet_0, b_River_isSet_9, b_River_isSet_16, b_River_isSet_17, ↓Bool.cond_decide, ↓q_in, q_le, q_lt, q_eq, q_leT, q_leF, q_ltT, q_ltF, q_eqT, q_eqF, ↓reduceIte, not_true_eq_false, not_false_eq_true, true_and, and_true, and_self, false_and, and_false, Nat.zero_le, am_bd_some, q_app, q_app0, nI_add, pk_sub, pk_mul, q_dec, q_ix, q_m1, q_m1', ↓q_ret, q_bool, q_bool1, q_u2, q_u1, q_shl1, q_shr, q_and7, q_dg, fa_or, fa_and, decide_true, decide_false, Bool.or_false, Bool.or_true, Bool.true_or, Bool.false_or, cond_true, cond_false, ite_not, q_some, q_nn, q_xor, q_xorm, Bool.false_eq_true, decide_eq_true_eq, ne_eq, l_0, l_1, l_3, l_4, l_6, l_7, l_8, l_9, l_16, l_17, hx, hk, hf, cond_true, Bool.and_true]
  · by_cases c1 : x < nI 0
    · simp (disch := first | assumption | omega) only [b_River_isSet_0, b_River_isSet_9, b_River_isSet_16, b_River_isSet_17, s_River_everybody, ↓Bool.cond_decide, ↓q_in, q_le, q_lt, q_eq, q_leT, q_leF, q_ltT, q_ltF, q_eqT, q_eqF, ↓reduceIte, not_true_eq_false, not_false_eq_true, true_and, and_true, and_self, false_and, and_false, Nat.zero_le, am_bd_some, q_app, q_app0, nI_add, pk_sub, pk_mul, q_dec, q_ix, q_m1, q_m1', ↓q_ret, q_bool, q_bool1, q_u2, q_u1, q_shl1, q_shr, q_and7, q_dg, fa_or, fa_and, decide_true, decide_false, Bool.or_false, Bool.or_true, Bool.true_or, Bool.false_or, cond_true, cond_false, ite_not, q_some, q_nn, q_xor, q_xorm, Bool.false_eq_true, decide_eq_true_eq, ne_eq, l_0, l_1, l_3, l_4, l_6, l_7, l_8, l_9, l_16, l_17, hx, c1, hk, cond_true, Bool.and_true]
    · have c2 : nI (2 ^ P - 1) < x := by
        unfold iB at hx
        rw [decide_eq_true_eq] at hx
        rw [fa_lt, nI_toInt (by decide)] at c1
        rw [fa_lt, nI_toInt (by omega)]
        omega
      simp (disch := first | assumption | omega) only [b_River_isSet_0, b_River_isSet_9, b_River_isSet_16, b_River_isSet_17, ↓Bool.cond_decide, ↓q_in, q_le, q_lt, q_eq, q_leT, q_leF, q_ltT, q_ltF, q_eqT, q_eqF, ↓reduceIte, not_true_eq_false, not_false_eq_true, true_and, and_true, and_self, false_and, and_false, Nat.zero_le, am_bd_some, q_app, q_app0, nI_add, pk_sub, pk_mul, q_dec, q_ix, q_m1, q_m1', ↓q_ret, q_bool, q_bool1, q_u2, q_u1, q_shl1, q_shr, q_and7, q_dg, fa_or, fa_and, decide_true, decide_false, Bool.or_false, Bool.or_true, Bool.true_or, Bool.false_or, cond_true, cond_false, ite_not, q_some, q_nn, q_xor, q_xorm, Bool.false_eq_true, decide_eq_true_eq, ne_eq, l_0, l_1, l_3, l_4, l_6, l_7, l_8, l_9, l_16, l_17, hx, c1, c2, hk, hf, cond_true, Bool.and_true]
theorem s_River_whoIsAt (d : Nat) {a x P : Nat} (ha : a < 4096) (hx : x < 100) (hk : Nat.beq (am_kd (i, l, q, K) r) 6 = true) (h1 : i r 1 = nI P) (hP : P ≤ 4) : am_cl (d + 2) mRiver_whoIsAt [.ref r, .int (nI a), .int (nI x)] (i, l, q, K) = some (some (.int (match ff (fun p => decide (dg a p = x)) P 0 with | some p => nI p | none => -nI 1)), (i, l, q, K)) := by
  have hl : Int32.toInt64 (nI a) = lN a := nI_l (by omega)
  rw [c_River_whoIsAt, b_River_whoIsAt_0]
  refine am_find (d := d + 1) (y := mRiver_whoIsAt) (pc := 2) (fun k ls st => ls = [.val (.ref r), .val (.int (nI a)), .val (.int (nI x)), .val (.int (nI k))] ∧ st = (i, l, q, K)) _ (fun o rr => rr = some (some (.int (match o with | some p => nI p | none => -nI 1)), (i, l, q, K))) P 0 (fun k ls st _ hk2 hI => ?_) (fun ls st hI => ?_) _ _ ⟨rfl, rfl⟩
  · obtain ⟨e1, e2⟩ := hI
    subst e1; subst e2
    have hdg : dg a k < 8 := Nat.mod_lt _ (by decide)
    have hpl := s_X_placeOf (m := a) (p := k) d (by omega) (by omega) (i, l, q, K)
    refine ⟨fun hb => ?_, fun hb => ?_⟩
    · have hb := of_decide_eq_true hb
      rw [b_River_whoIsAt_2]
      simp (disch := first | assumption | omega) only [b_River_whoIsAt_0, b_River_whoIsAt_16, ↓Bool.cond_decide, ↓q_in, q_le, q_lt, q_eq, q_leT, q_leF, q_ltT, q_ltF, q_eqT, q_eqF, ↓reduceIte, not_true_eq_false, not_false_eq_true, true_and, and_true, and_self, false_and, and_false, Nat.zero_le, am_bd_some, q_app, q_app0, nI_add, pk_sub, pk_mul, q_dec, q_ix, q_m1, q_m1', ↓q_ret, q_bool, q_bool1, q_u2, q_u1, q_shl1, q_shr, q_and7, q_dg, fa_or, fa_and, decide_true, decide_false, Bool.or_false, Bool.or_true, Bool.true_or, Bool.false_or, cond_true, cond_false, ite_not, q_some, q_nn, q_xor, q_xorm, Bool.false_eq_true, decide_eq_true_eq, ne_eq, l_0, l_1, l_2, l_5, l_6, l_9, l_12, l_16, hk, h1, hl, hpl, hb, cond_true]
    · have hb := of_decide_eq_false hb
      rw [b_River_whoIsAt_2]
      simp (disch := first | assumption | omega) only [b_River_whoIsAt_0, b_River_whoIsAt_16, ↓Bool.cond_decide, ↓q_in, q_le, q_lt, q_eq, q_leT, q_leF, q_ltT, q_ltF, q_eqT, q_eqF, ↓reduceIte, not_true_eq_false, not_false_eq_true, true_and, and_true, and_self, false_and, and_false, Nat.zero_le, am_bd_some, q_app, q_app0, nI_add, pk_sub, pk_mul, q_dec, q_ix, q_m1, q_m1', ↓q_ret, q_bool, q_bool1, q_u2, q_u1, q_shl1, q_shr, q_and7, q_dg, fa_or, fa_and, decide_true, decide_false, Bool.or_false, Bool.or_true, Bool.true_or, Bool.false_or, cond_true, cond_false, ite_not, q_some, q_nn, q_xor, q_xorm, Bool.false_eq_true, decide_eq_true_eq, ne_eq, l_0, l_1, l_2, l_5, l_6, l_9, l_12, l_16, hk, h1, hl, hpl, hb, cond_true]
      exact Go_in ⟨rfl, rfl⟩
  · obtain ⟨e1, e2⟩ := hI
    subst e1; subst e2
    rw [b_River_whoIsAt_2]
    simp (disch := first | assumption | omega) only [b_River_whoIsAt_0, b_River_whoIsAt_16, s_X_placeOf, ↓Bool.cond_decide, ↓q_in, q_le, q_lt, q_eq, q_leT, q_leF, q_ltT, q_ltF, q_eqT, q_eqF, ↓reduceIte, not_true_eq_false, not_false_eq_true, true_and, and_true, and_self, false_and, and_false, Nat.zero_le, am_bd_some, q_app, q_app0, nI_add, pk_sub, pk_mul, q_dec, q_ix, q_m1, q_m1', ↓q_ret, q_bool, q_bool1, q_u2, q_u1, q_shl1, q_shr, q_and7, q_dg, fa_or, fa_and, decide_true, decide_false, Bool.or_false, Bool.or_true, Bool.true_or, Bool.false_or, cond_true, cond_false, ite_not, q_some, q_nn, q_xor, q_xorm, Bool.false_eq_true, decide_eq_true_eq, ne_eq, l_0, l_1, l_2, l_5, l_6, l_9, l_12, l_16, hk, h1, cond_true]
theorem s_River_standing (d : Nat) {a : Nat} {g : Nat → Nat} (ha : a < 4096) (hk : Nat.beq (am_kd (i, l, q, K) r) 6 = true) (h0 : i r 0 = nI (g 1)) (h1 : i r 1 = nI (g 2)) (hS : g 1 ≤ 6) (hP : g 2 ≤ 4) : am_cl (d + 2) mRiver_standing [.ref r, .int (nI a)] (i, l, q, K) = some (some (.int (nI (sUp g a))), (i, l, q, K)) := by
  have hl : Int32.toInt64 (nI a) = lN a := nI_l (by omega)
  rw [c_River_standing, b_River_standing_0]
  refine am_loop (fun k ls s => ls = [.val (.ref r), .val (.int (nI a)), .val (.int (nI (bs (fun p => sSpot g (dg a p)) k))), .val (.int (nI k))] ∧ s = (i, l, q, K)) (g 2) (fun rr => rr = some (some (.int (nI (sUp g a))), (i, l, q, K))) (fun k ls s hk2 hI => ?_) (fun ls s hI => ?_) ⟨rfl, rfl⟩
  · obtain ⟨e1, e2⟩ := hI
    subst e1; subst e2
    have hdg : dg a k < 8 := Nat.mod_lt _ (by decide)
    have hpl := s_X_placeOf (m := a) (p := k) d (by omega) (by omega) (i, l, q, K)
    have hsp := s_River_isSpot (r := r) d (nI (dg a k)) hk h0 (by omega)
    have es : iS g (nI (dg a k)) = sSpot g (dg a k) := by
      unfold iS sSpot
      rw [nI_toInt (by omega)]
      congr 1
      apply propext
      omega
    rw [es] at hsp
    rw [b_River_standing_4]
    cases hb : sSpot g (dg a k) with
    | true =>
      rw [hb] at hsp
      simp (disch := first | assumption | omega) only [b_River_standing_0, b_River_standing_19, b_River_standing_22, b_River_standing_31, ↓Bool.cond_decide, ↓q_in, q_le, q_lt, q_eq, q_leT, q_leF, q_ltT, q_ltF, q_eqT, q_eqF, ↓reduceIte, not_true_eq_false, not_false_eq_true, true_and, and_true, and_self, false_and, and_false, Nat.zero_le, am_bd_some, q_app, q_app0, nI_add, pk_sub, pk_mul, q_dec, q_ix, q_m1, q_m1', ↓q_ret, q_bool, q_bool1, q_u2, q_u1, q_shl1, q_shr, q_and7, q_dg, fa_or, fa_and, decide_true, decide_false, Bool.or_false, Bool.or_true, Bool.true_or, Bool.false_or, cond_true, cond_false, ite_not, q_some, q_nn, q_xor, q_xorm, Bool.false_eq_true, decide_eq_true_eq, ne_eq, l_0, l_1, l_3, l_4, l_5, l_6, l_7, l_11, l_13, l_19, l_22, l_31, hk, h1, hl, hpl, hsp, cond_true, Bool.and_true]
      refine Go_in ⟨?_, rfl⟩
      rw [bs, hb]; rfl
    | false =>
      rw [hb] at hsp
      simp (disch := first | assumption | omega) only [b_River_standing_0, b_River_standing_19, b_River_standing_22, b_River_standing_31, ↓Bool.cond_decide, ↓q_in, q_le, q_lt, q_eq, q_leT, q_leF, q_ltT, q_ltF, q_eqT, q_eqF, ↓reduceIte, not_true_eq_false, not_false_eq_true, true_and, and_true, and_self, false_and, and_false, Nat.zero_le, am_bd_some, q_app, q_app0, nI_add, pk_sub, pk_mul, q_dec, q_ix, q_m1, q_m1', ↓q_ret, q_bool, q_bool1, q_u2, q_u1, q_shl1, q_shr, q_and7, q_dg, fa_or, fa_and, decide_true, decide_false, Bool.or_false, Bool.or_true, Bool.true_or, Bool.false_or, cond_true, cond_false, ite_not, q_some, q_nn, q_xor, q_xorm, Bool.false_eq_true, decide_eq_true_eq, ne_eq, l_0, l_1, l_3, l_4, l_5, l_6, l_7, l_11, l_13, l_19, l_22, l_31, hk, h1, hl, hpl, hsp, cond_true, Bool.and_true]
      refine Go_in ⟨?_, rfl⟩
      rw [bs, hb]; simp
  · obtain ⟨e1, e2⟩ := hI
    subst e1; subst e2
    rw [b_River_standing_4]
    simp (disch := first | assumption | omega) only [b_River_standing_0, b_River_standing_19, b_River_standing_22, b_River_standing_31, s_River_isSpot, s_X_placeOf, ↓Bool.cond_decide, ↓q_in, q_le, q_lt, q_eq, q_leT, q_leF, q_ltT, q_ltF, q_eqT, q_eqF, ↓reduceIte, not_true_eq_false, not_false_eq_true, true_and, and_true, and_self, false_and, and_false, Nat.zero_le, am_bd_some, q_app, q_app0, nI_add, pk_sub, pk_mul, q_dec, q_ix, q_m1, q_m1', ↓q_ret, q_bool, q_bool1, q_u2, q_u1, q_shl1, q_shr, q_and7, q_dg, fa_or, fa_and, decide_true, decide_false, Bool.or_false, Bool.or_true, Bool.true_or, Bool.false_or, cond_true, cond_false, ite_not, q_some, q_nn, q_xor, q_xorm, Bool.false_eq_true, decide_eq_true_eq, ne_eq, l_0, l_1, l_3, l_4, l_5, l_6, l_7, l_11, l_13, l_19, l_22, l_31, hk, h1, cond_true]
    rfl
theorem s_River_over (d : Nat) {a : Nat} {g : Nat → Nat} (ha : a < 4096) (hk : Nat.beq (am_kd (i, l, q, K) r) 6 = true) (h0 : i r 0 = nI (g 1)) (h1 : i r 1 = nI (g 2)) (hS : g 1 ≤ 6) (hP : g 2 ≤ 4) : am_cl (d + 2) mRiver_over [.ref r, .int (nI a)] (i, l, q, K) = some (some (.int (nI (sOver g a))), (i, l, q, K)) := by
  have hl : Int32.toInt64 (nI a) = lN a := nI_l (by omega)
  have hfb := s_River_farBank d hk h0
  rw [c_River_over, b_River_over_0]
  refine am_loop (fun k ls s => ls = [.val (.ref r), .val (.int (nI a)), .val (.int (nI (bs (fun p => decide (dg a p = g 1 + 1)) k))), .val (.int (nI k))] ∧ s = (i, l, q, K)) (g 2) (fun rr => rr = some (some (.int (nI (sOver g a))), (i, l, q, K))) (fun k ls s hk2 hI => ?_) (fun ls s hI => ?_) ⟨rfl, rfl⟩
  · obtain ⟨e1, e2⟩ := hI
    subst e1; subst e2
    have hdg : dg a k < 8 := Nat.mod_lt _ (by decide)
    have hpl := s_X_placeOf (m := a) (p := k) d (by omega) (by omega) (i, l, q, K)
    rw [b_River_over_4]
    by_cases hb : dg a k = g 1 + 1
    · simp (disch := first | assumption | omega) only [b_River_over_0, b_River_over_18, b_River_over_22, b_River_over_31, ↓Bool.cond_decide, ↓q_in, q_le, q_lt, q_eq, q_leT, q_leF, q_ltT, q_ltF, q_eqT, q_eqF, ↓reduceIte, not_true_eq_false, not_false_eq_true, true_and, and_true, and_self, false_and, and_false, Nat.zero_le, am_bd_some, q_app, q_app0, nI_add, pk_sub, pk_mul, q_dec, q_ix, q_m1, q_m1', ↓q_ret, q_bool, q_bool1, q_u2, q_u1, q_shl1, q_shr, q_and7, q_dg, fa_or, fa_and, decide_true, decide_false, Bool.or_false, Bool.or_true, Bool.true_or, Bool.false_or, cond_true, cond_false, ite_not, q_some, q_nn, q_xor, q_xorm, Bool.false_eq_true, decide_eq_true_eq, ne_eq, l_0, l_1, l_4, l_5, l_6, l_7, l_11, l_12, l_18, l_22, l_31, hk, h1, hl, hpl, hfb, hb, cond_true, Bool.and_true]
      refine Go_in ⟨?_, rfl⟩
      rw [bs, decide_eq_true hb]; rfl
    · simp (disch := first | assumption | omega) only [b_River_over_0, b_River_over_18, b_River_over_22, b_River_over_31, ↓Bool.cond_decide, ↓q_in, q_le, q_lt, q_eq, q_leT, q_leF, q_ltT, q_ltF, q_eqT, q_eqF, ↓reduceIte, not_true_eq_false, not_false_eq_true, true_and, and_true, and_self, false_and, and_false, Nat.zero_le, am_bd_some, q_app, q_app0, nI_add, pk_sub, pk_mul, q_dec, q_ix, q_m1, q_m1', ↓q_ret, q_bool, q_bool1, q_u2, q_u1, q_shl1, q_shr, q_and7, q_dg, fa_or, fa_and, decide_true, decide_false, Bool.or_false, Bool.or_true, Bool.true_or, Bool.false_or, cond_true, cond_false, ite_not, q_some, q_nn, q_xor, q_xorm, Bool.false_eq_true, decide_eq_true_eq, ne_eq, l_0, l_1, l_4, l_5, l_6, l_7, l_11, l_12, l_18, l_22, l_31, hk, h1, hl, hpl, hfb, hb, cond_true, Bool.and_true]
      refine Go_in ⟨?_, rfl⟩
      rw [bs, decide_eq_false hb]; simp
  · obtain ⟨e1, e2⟩ := hI
    subst e1; subst e2
    rw [b_River_over_4]
    simp (disch := first | assumption | omega) only [b_River_over_0, b_River_over_18, b_River_over_22, b_River_over_31, s_River_farBank, s_X_placeOf, ↓Bool.cond_decide, ↓q_in, q_le, q_lt, q_eq, q_leT, q_leF, q_ltT, q_ltF, q_eqT, q_eqF, ↓reduceIte, not_true_eq_false, not_false_eq_true, true_and, and_true, and_self, false_and, and_false, Nat.zero_le, am_bd_some, q_app, q_app0, nI_add, pk_sub, pk_mul, q_dec, q_ix, q_m1, q_m1', ↓q_ret, q_bool, q_bool1, q_u2, q_u1, q_shl1, q_shr, q_and7, q_dg, fa_or, fa_and, decide_true, decide_false, Bool.or_false, Bool.or_true, Bool.true_or, Bool.false_or, cond_true, cond_false, ite_not, q_some, q_nn, q_xor, q_xorm, Bool.false_eq_true, decide_eq_true_eq, ne_eq, l_0, l_1, l_4, l_5, l_6, l_7, l_11, l_12, l_18, l_22, l_31, hk, h1, cond_true]
    rfl
end
