/-! HOW A TEXT IS READ: the state is the fault's kind and place, the token, what is told; THE MODEL's laws -/
abbrev PS : Type := Nat × Nat × Nat × (Nat → Nat)
/-- where the looking for token j begins -/
def pj (B : Nat → Nat) (N : Nat) : Nat → Nat
  | 0 => 0
  | j + 1 => te B N (sk B N (pj B N j))
def aj (B : Nat → Nat) (N j : Nat) : Nat := sk B N (pj B N j)
def bj (B : Nat → Nat) (N j : Nat) : Nat := te B N (aj B N j)
def kj (B : Nat → Nat) (N j : Nat) : Nat := knd B N (aj B N j)
def uj (B : Nat → Nat) (N j : Nat) : Nat := num B (aj B N j) (bj B N j)
theorem te_le {B : Nat → Nat} {N a : Nat} (h : a ≤ N) : a ≤ te B N a ∧ te B N a ≤ N ∧ (a < N → a < te B N a) := by
  unfold te
  by_cases h1 : N ≤ a
  · rw [if_pos h1]; omega
  · rw [if_neg h1]
    by_cases h2 : isL B a = true
    · rw [if_pos h2]
      obtain ⟨q1, q2, q3, q4⟩ := rn_is (P := isL B) h
      refine ⟨q1, q2, fun hl => ?_⟩
      rcases Nat.lt_or_ge a (rn (isL B) N a) with z | z
      · exact z
      · have e : rn (isL B) N a = a := by omega
        have := q4 (by omega)
        rw [e, h2] at this
        cases this
    · rw [if_neg h2]
      by_cases h3 : isD B a = true
      · rw [if_pos h3]
        obtain ⟨q1, q2, q3, q4⟩ := rn_is (P := isD B) h
        refine ⟨q1, q2, fun hl => ?_⟩
        rcases Nat.lt_or_ge a (rn (isD B) N a) with z | z
        · exact z
        · have e : rn (isD B) N a = a := by omega
          have := q4 (by omega)
          rw [e, h3] at this
          cases this
      · rw [if_neg h3]; omega
theorem pj_le (B : Nat → Nat) (N : Nat) : ∀ j, pj B N j ≤ N
  | 0 => Nat.zero_le _
  | j + 1 => (te_le (rn_is (pj_le B N j)).2.1).2.1
theorem aj_le (B : Nat → Nat) (N j : Nat) : pj B N j ≤ aj B N j ∧ aj B N j ≤ N := ⟨(rn_is (pj_le B N j)).1, (rn_is (pj_le B N j)).2.1⟩
theorem bj_eq (B : Nat → Nat) (N j : Nat) : pj B N (j + 1) = bj B N j := rfl
theorem key_le (B : Nat → Nat) (a b : Nat) : key B a b < 20 ∨ key B a b = 22 := by
  unfold key
  cases h : ff (mtc B a b) 20 0 with
  | none => exact Or.inr rfl
  | some q => exact Or.inl (by have := (ff_some h).2.1; show q < 20; omega)
theorem sgK_25 (c : Nat) : ∀ k, sgK c k = 25 ∨ 30 ≤ sgK c k
  | 0 => Or.inl rfl
  | k + 1 => by
    have := sgK_25 c k
    rw [sgK]; split <;> omega
theorem kj_24 {B : Nat → Nat} {N j : Nat} : kj B N j = 24 ↔ aj B N j = N := by
  have h := (aj_le B N j).2
  unfold kj knd
  by_cases h1 : N ≤ aj B N j
  · rw [if_pos h1]; exact ⟨fun _ => by omega, fun _ => rfl⟩
  · rw [if_neg h1]
    refine ⟨fun z => ?_, fun z => by omega⟩
    exfalso
    by_cases h2 : isL B (aj B N j) = true
    · rw [if_pos h2] at z
      have := key_le B (aj B N j) (te B N (aj B N j))
      omega
    · rw [if_neg h2] at z
      by_cases h3 : isD B (aj B N j) = true
      · rw [if_pos h3] at z; split at z <;> cases z
      · rw [if_neg h3] at z
        have := sgK_25 (B (aj B N j)) 12
        omega
theorem kj_lt (B : Nat → Nat) (N j : Nat) : kj B N j < 50 := by
  unfold kj knd
  repeat' split
  · decide
  · have := key_le B (aj B N j) (te B N (aj B N j)); omega
  · decide
  · decide
  · have := sgK_lt (B (aj B N j)) 12; omega
theorem pj_next {B : Nat → Nat} {N j : Nat} (h : kj B N j ≠ 24) : pj B N j < pj B N (j + 1) := by
  have h1 := aj_le B N j
  have h2 : aj B N j ≠ N := fun z => h (kj_24.mpr z)
  have h3 := (te_le (B := B) h1.2).2.2 (by omega)
  rw [bj_eq]
  unfold bj
  omega
def isS (B : Nat → Nat) (N k : Nat) (s : PS) : Bool := decide (s.1 = 0 ∧ kj B N s.2.2.1 = k)
def flS (B : Nat → Nat) (N k : Nat) (s : PS) : PS := if s.1 = 0 then (if kj B N s.2.2.1 = 25 then 1 else k, aj B N s.2.2.1, s.2.2) else s
def nxS (s : PS) : PS := (s.1, s.2.1, s.2.2.1 + 1, s.2.2.2)
def cdS (c : Nat) (s : PS) : PS := if s.1 = 0 then (s.1, s.2.1, s.2.2.1, ug (ug s.2.2.2 (174 + s.2.2.2 173) c) 173 (s.2.2.2 173 + 1)) else s
def etS (B : Nat → Nat) (N k : Nat) (s : PS) : PS := if isS B N k s = true then nxS s else s
def tkS (B : Nat → Nat) (N lo hi : Nat) (s : PS) : PS := if s.1 = 0 then (if kj B N s.2.2.1 = 23 then (if lo ≤ uj B N s.2.2.1 ∧ uj B N s.2.2.1 ≤ hi then nxS s else flS B N 3 s) else flS B N 2 s) else s
def wdO (law k : Nat) : Option Nat := if k = 10 then some 0 else if k = 5 then some 1 else if law = 0 then (if k = 11 then some 2 else if k = 1 then some 3 else if k = 12 then some 4 else if k = 13 then some 5 else none) else (if k = 6 then some 6 else if k = 14 then some 7 else if k = 15 then some 8 else if k = 16 then some 9 else none)
/-- so many may still be within -/
def giS (B : Nat → Nat) (N r : Nat) (s : PS) : PS := if s.1 = 0 then (if r = 0 then flS B N 4 s else nxS s) else s
def atS (B : Nat → Nat) (N law r : Nat) (sub : PS → PS) (s : PS) : PS :=
  if isS B N 23 s = true then nxS (cdS (uj B N s.2.2.1) s)
  else if s.1 = 0 ∧ (wdO law (kj B N s.2.2.1)).isSome = true then nxS (cdS (1000 + (wdO law (kj B N s.2.2.1)).getD 0) s)
  else if isS B N 35 s = true then (if (giS B N r s).1 = 0 then (if isS B N 36 (sub (giS B N r s)) = true then nxS (sub (giS B N r s)) else flS B N 2 (sub (giS B N r s))) else giS B N r s)
  else flS B N 2 s
def lpS (B : Nat → Nat) (N k c : Nat) (F : PS → PS) : Nat → PS → PS
  | 0, s => s
  | n + 1, s => if isS B N k s = true then lpS B N k c F n (cdS c (F (nxS s))) else s
def tmS (B : Nat → Nat) (N : Nat) (F : PS → PS) (s : PS) : PS := lpS B N 34 3002 F 1000 (F s)
def plS (B : Nat → Nat) (N : Nat) (F : PS → PS) : Nat → PS → PS
  | 0, s => s
  | n + 1, s => if isS B N 32 s = true then plS B N F n (cdS 3000 (F (nxS s))) else if isS B N 33 s = true then plS B N F n (cdS 3001 (F (nxS s))) else s
def smS (B : Nat → Nat) (N : Nat) (F : PS → PS) (s : PS) : PS := plS B N F 1000 (F s)
/-- a sum, r levels within -/
def sumL (B : Nat → Nat) (N law : Nat) : Nat → PS → PS
  | 0 => smS B N (tmS B N (atS B N law 0 id))
  | r + 1 => smS B N (tmS B N (atS B N law (r + 1) (sumL B N law r)))
def cmS (B : Nat → Nat) (N : Nat) (s : PS) : PS := if isS B N 39 s = true ∨ isS B N 40 s = true ∨ isS B N 41 s = true then nxS s else flS B N 2 s
def ccS (B : Nat → Nat) (N : Nat) (s : PS) : Nat := if isS B N 39 s = true then 3003 else if isS B N 40 s = true then 3004 else 3005
def unS (B : Nat → Nat) (N law r : Nat) (sU sT : PS → PS) (s : PS) : PS :=
  if isS B N 19 s = true then (if (giS B N r s).1 = 0 then cdS 3006 (sU (giS B N r s)) else giS B N r s)
  else if isS B N 37 s = true then (if (giS B N r s).1 = 0 then (if isS B N 38 (sT (giS B N r s)) = true then nxS (sT (giS B N r s)) else flS B N 2 (sT (giS B N r s))) else giS B N r s)
  else cdS (ccS B N (sumL B N law r s)) (sumL B N law r (cmS B N (sumL B N law r s)))
def boS (B : Nat → Nat) (N : Nat) (F : PS → PS) (s : PS) : PS := lpS B N 17 3007 F 1000 (F s)
def trS (B : Nat → Nat) (N : Nat) (F : PS → PS) (s : PS) : PS := lpS B N 18 3008 F 1000 (F s)
def untL (B : Nat → Nat) (N law : Nat) : Nat → PS → PS
  | 0 => unS B N law 0 id id
  | r + 1 => unS B N law (r + 1) (untL B N law r) (trS B N (boS B N (untL B N law r)))
def truL (B : Nat → Nat) (N law r : Nat) : PS → PS := trS B N (boS B N (untL B N law r))
/-- what the model's memory says of it -/
def RP (B : Nat → Nat) (N : Nat) (i : Nat → Nat → Int32) (s : PS) : Prop := i 0 11 = nI s.1 ∧ s.1 ≤ 4 ∧ (s.1 ≠ 0 → i 0 12 = nI s.2.1) ∧ (s.1 = 0 → i 0 6 = nI (aj B N s.2.2.1) ∧ i 0 7 = nI (bj B N s.2.2.1) ∧ i 0 9 = nI (kj B N s.2.2.1) ∧ (kj B N s.2.2.1 = 23 → i 0 10 = nI (uj B N s.2.2.1)) ∧ ∀ k, k < 1074 → i 4 k = nI (s.2.2.2 k))
/-- codes are no more than tokens -/
def CB (B : Nat → Nat) (N : Nat) (s : PS) : Prop := s.1 = 0 → s.2.2.2 173 ≤ s.2.2.1 ∧ s.2.2.1 ≤ pj B N s.2.2.1
section
variable {i : Nat → Nat → Int32} {l : Nat → Nat → Int64} {B : Nat → Nat} {N : Nat}
theorem s_M_is (d : Nat) {k : Nat} {s : PS} (hk : k < 100) (hR : RP B N i s) : am_cl (d + 1) mM_is [.ref 0, .int (nI k)] (i, l, rM, kM) = some (some (.int (if isS B N k s = true then nI 1 else nI 0)), (i, l, rM, kM)) := by
  obtain ⟨h1, h2, h3, h4⟩ := hR
  rw [c_M_is, b_M_is_0]
  unfold isS
  by_cases h0 : s.1 = 0
  · obtain ⟨q1, q2, q3, q4, q5⟩ := h4 h0
    have hkl := kj_lt B N s.2.2.1
    by_cases he : kj B N s.2.2.1 = k
    · simp (disch := first | assumption | omega) only [b_M_is_0, b_M_is_19, b_M_is_20, ↓Bool.cond_decide, ↓q_in, q_le, q_lt, q_eq, q_leT, q_leF, q_ltT, q_ltF, q_eqT, q_eqF, ↓reduceIte, not_true_eq_false, not_false_eq_true, true_and, and_true, and_self, false_and, and_false, Nat.zero_le, am_bd_some, q_app, q_app0, nI_add, pk_sub, pk_mul, q_dec, q_ix, q_m1, q_m1', ↓q_ret, q_bool, q_bool1, q_u2, q_u1, q_shl1, q_shr, q_and7, q_dg, fa_or, fa_and, decide_true, decide_false, Bool.or_false, Bool.or_true, Bool.true_or, Bool.false_or, cond_true, cond_false, ite_not, q_some, q_nn, q_xor, q_xorm, Bool.false_eq_true, decide_eq_true_eq, ne_eq, l_0, l_1, l_3, l_4, l_9, l_11, l_13, l_19, l_20, h1, h0, q3, he]
    · simp (disch := first | assumption | omega) only [b_M_is_0, b_M_is_19, b_M_is_20, ↓Bool.cond_decide, ↓q_in, q_le, q_lt, q_eq, q_leT, q_leF, q_ltT, q_ltF, q_eqT, q_eqF, ↓reduceIte, not_true_eq_false, not_false_eq_true, true_and, and_true, and_self, false_and, and_false, Nat.zero_le, am_bd_some, q_app, q_app0, nI_add, pk_sub, pk_mul, q_dec, q_ix, q_m1, q_m1', ↓q_ret, q_bool, q_bool1, q_u2, q_u1, q_shl1, q_shr, q_and7, q_dg, fa_or, fa_and, decide_true, decide_false, Bool.or_false, Bool.or_true, Bool.true_or, Bool.false_or, cond_true, cond_false, ite_not, q_some, q_nn, q_xor, q_xorm, Bool.false_eq_true, decide_eq_true_eq, ne_eq, l_0, l_1, l_3, l_4, l_9, l_11, l_13, l_19, l_20, h1, h0, q3, he]
  · simp (disch := first | assumption | omega) only [b_M_is_0, b_M_is_19, b_M_is_20, ↓Bool.cond_decide, ↓q_in, q_le, q_lt, q_eq, q_leT, q_leF, q_ltT, q_ltF, q_eqT, q_eqF, ↓reduceIte, not_true_eq_false, not_false_eq_true, true_and, and_true, and_self, false_and, and_false, Nat.zero_le, am_bd_some, q_app, q_app0, nI_add, pk_sub, pk_mul, q_dec, q_ix, q_m1, q_m1', ↓q_ret, q_bool, q_bool1, q_u2, q_u1, q_shl1, q_shr, q_and7, q_dg, fa_or, fa_and, decide_true, decide_false, Bool.or_false, Bool.or_true, Bool.true_or, Bool.false_or, cond_true, cond_false, ite_not, q_some, q_nn, q_xor, q_xorm, Bool.false_eq_true, decide_eq_true_eq, ne_eq, l_0, l_1, l_3, l_4, l_9, l_11, l_13, l_19, l_20, h1, h0]
theorem r_M_fails (d : Nat) {k : Nat} {s : PS} (hk : k < 5) (hk0 : k ≠ 0) (hN : N ≤ 900) (hR : RP B N i s) : MR none (fun i' l' => l' = l ∧ Fx [111, 112] i i' ∧ RP B N i' (flS B N k s)) (am_cl (d + 1) mM_fails [.ref 0, .int (nI k)] (i, l, rM, kM)) := by
  have hR' := hR
  obtain ⟨h1, h2, h3, h4⟩ := hR
  refine MR_q ?_
  intro Q hQ
  rw [c_M_fails, b_M_fails_0]
  unfold flS at hQ
  by_cases h0 : s.1 = 0
  · rw [if_pos h0] at hQ
    obtain ⟨q1, q2, q3, q4, q5⟩ := h4 h0
    have hkl := kj_lt B N s.2.2.1
    by_cases he : kj B N s.2.2.1 = 25
    · rw [if_pos he] at hQ
      simp (disch := first | assumption | omega) only [b_M_fails_0, b_M_fails_23, ↓Bool.cond_decide, ↓q_in, q_le, q_lt, q_eq, q_leT, q_leF, q_ltT, q_ltF, q_eqT, q_eqF, ↓reduceIte, not_true_eq_false, not_false_eq_true, true_and, and_true, and_self, false_and, and_false, Nat.zero_le, am_bd_some, q_app, q_app0, nI_add, pk_sub, pk_mul, q_dec, q_ix, q_m1, q_m1', ↓q_ret, q_bool, q_bool1, q_u1, q_shl1, q_shr, q_and7, q_dg, fa_or, fa_and, decide_true, decide_false, Bool.or_false, Bool.or_true, Bool.true_or, Bool.false_or, cond_true, cond_false, ite_not, q_some, q_nn, q_xor, q_xorm, Bool.false_eq_true, decide_eq_true_eq, ne_eq, l_0, l_1, l_6, l_8, l_9, l_11, l_12, l_16, l_23, l_25, h1, h0, q3, he, q1]
      exact MR_some (hQ _ _ ⟨rfl, by (repeat (first | exact Fx_refl _ _ | assumption | refine Fx_u2 rfl ?_ | refine Fx_u1 rfl (by decide) ?_ | refine Fx_step (by assumption) rfl ?_ | refine Fx_stepr (by assumption) rfl rfl ?_)), rfl, by show 1 ≤ 4; decide, fun _ => rfl, fun z => by cases z⟩)
    · rw [if_neg he] at hQ
      simp (disch := first | assumption | omega) only [b_M_fails_0, b_M_fails_23, ↓Bool.cond_decide, ↓q_in, q_le, q_lt, q_eq, q_leT, q_leF, q_ltT, q_ltF, q_eqT, q_eqF, ↓reduceIte, not_true_eq_false, not_false_eq_true, true_and, and_true, and_self, false_and, and_false, Nat.zero_le, am_bd_some, q_app, q_app0, nI_add, pk_sub, pk_mul, q_dec, q_ix, q_m1, q_m1', ↓q_ret, q_bool, q_bool1, q_u1, q_shl1, q_shr, q_and7, q_dg, fa_or, fa_and, decide_true, decide_false, Bool.or_false, Bool.or_true, Bool.true_or, Bool.false_or, cond_true, cond_false, ite_not, q_some, q_nn, q_xor, q_xorm, Bool.false_eq_true, decide_eq_true_eq, ne_eq, l_0, l_1, l_6, l_8, l_9, l_11, l_12, l_16, l_23, l_25, h1, h0, q3, he, q1]
      exact MR_some (hQ _ _ ⟨rfl, by (repeat (first | exact Fx_refl _ _ | assumption | refine Fx_u2 rfl ?_ | refine Fx_u1 rfl (by decide) ?_ | refine Fx_step (by assumption) rfl ?_ | refine Fx_stepr (by assumption) rfl rfl ?_)), rfl, by show k ≤ 4; omega, fun _ => rfl, fun z => absurd z hk0⟩)
  · rw [if_neg h0] at hQ
    simp (disch := first | assumption | omega) only [b_M_fails_0, b_M_fails_23, ↓Bool.cond_decide, ↓q_in, q_le, q_lt, q_eq, q_leT, q_leF, q_ltT, q_ltF, q_eqT, q_eqF, ↓reduceIte, not_true_eq_false, not_false_eq_true, true_and, and_true, and_self, false_and, and_false, Nat.zero_le, am_bd_some, q_app, q_app0, nI_add, pk_sub, pk_mul, q_dec, q_ix, q_m1, q_m1', ↓q_ret, q_bool, q_bool1, q_u2, q_u1, q_shl1, q_shr, q_and7, q_dg, fa_or, fa_and, decide_true, decide_false, Bool.or_false, Bool.or_true, Bool.true_or, Bool.false_or, cond_true, cond_false, ite_not, q_some, q_nn, q_xor, q_xorm, Bool.false_eq_true, decide_eq_true_eq, ne_eq, l_0, l_1, l_6, l_8, l_9, l_11, l_12, l_16, l_23, l_25, h1, h0]
    exact MR_some (hQ _ _ ⟨rfl, Fx_refl _ _, hR'⟩)
theorem r_M_nx (d : Nat) {s : PS} (hT : TP i B N) (hR : RP B N i s) (h0 : s.1 = 0) : MR none (fun i' l' => l' = l ∧ Fx [106, 107, 109, 110] i i' ∧ RP B N i' (nxS s)) (am_cl (d + 2) mM_next [.ref 0] (i, l, rM, kM)) := by
  obtain ⟨h1, h2, h3, h4⟩ := hR
  obtain ⟨q1, q2, q3, q4, q5⟩ := h4 h0
  have hb : bj B N s.2.2.1 ≤ N := by rw [← bj_eq]; exact pj_le B N _
  refine MR_mono (r_M_next d hb hT q2) ?_
  intro i' l' ⟨e1, hf, e2, e3, e4, e5⟩
  refine ⟨e1, hf, ?_, h2, fun z => absurd h0 z, fun _ => ⟨e2, e3, e4, e5, fun k hk => ?_⟩⟩
  · rw [hf 0 11 rfl]; exact h1
  · rw [Fx_row hf (by decide) rfl]; exact q5 k hk
theorem r_M_eats (d : Nat) {k : Nat} {s : PS} (hk : k < 100) (hT : TP i B N) (hR : RP B N i s) : MR (some (.int (if isS B N k s = true then nI 1 else nI 0))) (fun i' l' => l' = l ∧ Fx [106, 107, 109, 110] i i' ∧ RP B N i' (etS B N k s)) (am_cl (d + 3) mM_eats [.ref 0, .int (nI k)] (i, l, rM, kM)) := by
  have his := s_M_is (i := i) (l := l) (d + 1) hk hR
  refine MR_q ?_
  intro Q hQ
  rw [c_M_eats, b_M_eats_0]
  unfold etS at hQ
  cases hb : isS B N k s with
  | false =>
    rw [hb] at hQ his
    simp (disch := first | assumption | omega) only [b_M_eats_0, b_M_eats_5, b_M_eats_14, ↓Bool.cond_decide, ↓q_in, q_le, q_lt, q_eq, q_leT, q_leF, q_ltT, q_ltF, q_eqT, q_eqF, ↓reduceIte, not_true_eq_false, not_false_eq_true, true_and, and_true, and_self, false_and, and_false, Nat.zero_le, am_bd_some, q_app, q_app0, nI_add, pk_sub, pk_mul, q_dec, q_ix, q_m1, q_m1', ↓q_ret, q_bool, q_bool1, q_u2, q_u1, q_shl1, q_shr, q_and7, q_dg, fa_or, fa_and, decide_true, decide_false, Bool.or_false, Bool.or_true, Bool.true_or, Bool.false_or, cond_true, cond_false, ite_not, q_some, q_nn, q_xor, q_xorm, Bool.false_eq_true, decide_eq_true_eq, ne_eq, l_0, l_1, l_4, l_5, l_7, l_14, his]
    exact MR_some (hQ _ _ ⟨rfl, Fx_refl _ _, hR⟩)
  | true =>
    rw [hb] at hQ his
    simp (disch := first | assumption | omega) only [b_M_eats_0, b_M_eats_5, b_M_eats_14, ↓Bool.cond_decide, ↓q_in, q_le, q_lt, q_eq, q_leT, q_leF, q_ltT, q_ltF, q_eqT, q_eqF, ↓reduceIte, not_true_eq_false, not_false_eq_true, true_and, and_true, and_self, false_and, and_false, Nat.zero_le, am_bd_some, q_app, q_app0, nI_add, pk_sub, pk_mul, q_dec, q_ix, q_m1, q_m1', ↓q_ret, q_bool, q_bool1, q_u2, q_u1, q_shl1, q_shr, q_and7, q_dg, fa_or, fa_and, decide_true, decide_false, Bool.or_false, Bool.or_true, Bool.true_or, Bool.false_or, cond_true, cond_false, ite_not, q_some, q_nn, q_xor, q_xorm, Bool.false_eq_true, decide_eq_true_eq, ne_eq, l_0, l_1, l_4, l_5, l_7, l_14, his]
    refine MR_bd (r_M_nx d hT hR (of_decide_eq_true hb).1) ?_
    intro i2 l2 ⟨hl2, hf2, hR2⟩
    subst hl2
    simp (disch := first | assumption | omega) only [b_M_eats_0, b_M_eats_5, b_M_eats_14, s_M_is, ↓Bool.cond_decide, ↓q_in, q_le, q_lt, q_eq, q_leT, q_leF, q_ltT, q_ltF, q_eqT, q_eqF, ↓reduceIte, not_true_eq_false, not_false_eq_true, true_and, and_true, and_self, false_and, and_false, Nat.zero_le, am_bd_some, q_app, q_app0, nI_add, pk_sub, pk_mul, q_dec, q_ix, q_m1, q_m1', ↓q_ret, q_bool, q_bool1, q_u2, q_u1, q_shl1, q_shr, q_and7, q_dg, fa_or, fa_and, decide_true, decide_false, Bool.or_false, Bool.or_true, Bool.true_or, Bool.false_or, cond_true, cond_false, ite_not, q_some, q_nn, q_xor, q_xorm, Bool.false_eq_true, decide_eq_true_eq, ne_eq, l_0, l_1, l_4, l_5, l_7, l_14]
    exact MR_some (hQ _ _ ⟨rfl, hf2, hR2⟩)
theorem r_M_codes (d : Nat) {c : Nat} {s : PS} (hR : RP B N i s) (hc : s.1 = 0 → s.2.2.2 173 < 900) : MR none (fun i' l' => l' = l ∧ Fx [4] i i' ∧ RP B N i' (cdS c s)) (am_cl (d + 1) mM_codes [.ref 0, .int (nI c)] (i, l, rM, kM)) := by
  have hR' := hR
  obtain ⟨h1, h2, h3, h4⟩ := hR
  refine MR_q ?_
  intro Q hQ
  rw [c_M_codes, b_M_codes_0]
  unfold cdS at hQ
  by_cases h0 : s.1 = 0
  · rw [if_pos h0] at hQ
    obtain ⟨q1, q2, q3, q4, q5⟩ := h4 h0
    have hcc := hc h0
    have q173 := q5 173 (by decide)
    have e173 : ∀ v, am_u2 i 4 (174 + s.2.2.2 173) v 4 173 = nI (s.2.2.2 173) := fun v => by
      show (if 173 = 174 + s.2.2.2 173 then v else i 4 173) = _
      rw [if_neg (by omega)]; exact q173
    simp (disch := first | assumption | omega) only [b_M_codes_0, ↓Bool.cond_decide, ↓q_in, q_le, q_lt, q_eq, q_leT, q_leF, q_ltT, q_ltF, q_eqT, q_eqF, ↓reduceIte, not_true_eq_false, not_false_eq_true, true_and, and_true, and_self, false_and, and_false, Nat.zero_le, am_bd_some, q_app, q_app0, nI_add, pk_sub, pk_mul, q_dec, q_ix, q_m1, q_m1', ↓q_ret, q_bool, q_bool1, q_u1, q_shl1, q_shr, q_and7, q_dg, fa_or, fa_and, decide_true, decide_false, Bool.or_false, Bool.or_true, Bool.true_or, Bool.false_or, cond_true, cond_false, ite_not, q_some, q_nn, q_xor, q_xorm, Bool.false_eq_true, decide_eq_true_eq, ne_eq, l_0, l_1, l_4, l_11, l_25, l_173, l_174, l_1074, h1, h0, q173, e173]
    refine MR_some (hQ _ _ ⟨rfl, by (repeat (first | exact Fx_refl _ _ | assumption | refine Fx_u2 rfl ?_ | refine Fx_u1 rfl (by decide) ?_ | refine Fx_step (by assumption) rfl ?_ | refine Fx_stepr (by assumption) rfl rfl ?_)), ?_, h2, fun z => absurd h0 z, fun _ => ⟨q1, q2, q3, q4, fun k hk => ?_⟩⟩)
    · exact h1
    · show (if k = 173 then nI (s.2.2.2 173 + 1) else (if k = 174 + s.2.2.2 173 then nI c else i 4 k)) = nI (if k = 173 then s.2.2.2 173 + 1 else (if k = 174 + s.2.2.2 173 then c else s.2.2.2 k))
      rw [q5 k hk]
      by_cases k1 : k = 173
      · rw [if_pos k1, if_pos k1]
      · rw [if_neg k1, if_neg k1]
        by_cases k2 : k = 174 + s.2.2.2 173
        · rw [if_pos k2, if_pos k2]
        · rw [if_neg k2, if_neg k2]
  · rw [if_neg h0] at hQ
    simp (disch := first | assumption | omega) only [b_M_codes_0, ↓Bool.cond_decide, ↓q_in, q_le, q_lt, q_eq, q_leT, q_leF, q_ltT, q_ltF, q_eqT, q_eqF, ↓reduceIte, not_true_eq_false, not_false_eq_true, true_and, and_true, and_self, false_and, and_false, Nat.zero_le, am_bd_some, q_app, q_app0, nI_add, pk_sub, pk_mul, q_dec, q_ix, q_m1, q_m1', ↓q_ret, q_bool, q_bool1, q_u2, q_u1, q_shl1, q_shr, q_and7, q_dg, fa_or, fa_and, decide_true, decide_false, Bool.or_false, Bool.or_true, Bool.true_or, Bool.false_or, cond_true, cond_false, ite_not, q_some, q_nn, q_xor, q_xorm, Bool.false_eq_true, decide_eq_true_eq, ne_eq, l_0, l_1, l_4, l_11, l_25, l_173, l_174, l_1074, h1, h0]
    exact MR_some (hQ _ _ ⟨rfl, Fx_refl _ _, hR'⟩)
end
