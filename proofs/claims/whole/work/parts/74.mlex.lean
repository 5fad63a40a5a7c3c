/-! TOKENS; THE MODEL's next -/
/-- from k on, as long as P; N at most -/
def rn (P : Nat → Bool) (N k : Nat) : Nat := (ff (fun x => !(decide (x < N) && P x)) (N + 1 - k) k).getD N
theorem rn_ff {P : Nat → Bool} {N k : Nat} (h : k ≤ N) : ff (fun x => !(decide (x < N) && P x)) (N + 1 - k) k = some (rn P N k) := by
  unfold rn
  cases hc : ff (fun x => !(decide (x < N) && P x)) (N + 1 - k) k with
  | some x => rfl
  | none =>
    have := ff_none hc N (by omega) (by omega)
    rw [decide_eq_false (Nat.lt_irrefl N)] at this
    cases this
theorem rn_is {P : Nat → Bool} {N k : Nat} (h : k ≤ N) : k ≤ rn P N k ∧ rn P N k ≤ N ∧ (∀ x, k ≤ x → x < rn P N k → P x = true) ∧ (rn P N k < N → P (rn P N k) = false) := by
  obtain ⟨h1, h2, h3, h4⟩ := ff_some (rn_ff (P := P) h)
  refine ⟨h1, by omega, fun x a b => ?_, fun hl => ?_⟩
  · have := h4 x a b
    rw [Bool.not_eq_false', Bool.and_eq_true] at this
    exact this.2
  · rw [Bool.not_eq_true', decide_eq_true hl, Bool.true_and] at h3
    exact h3
def isL (B : Nat → Nat) (x : Nat) : Bool := decide (97 ≤ B x ∧ B x ≤ 122)
def isD (B : Nat → Nat) (x : Nat) : Bool := decide (48 ≤ B x ∧ B x ≤ 57)
def isBl (B : Nat → Nat) (x : Nat) : Bool := decide (B x = 10 ∨ B x = 32)
def sk (B : Nat → Nat) (N k : Nat) : Nat := rn (isBl B) N k
def te (B : Nat → Nat) (N a : Nat) : Nat := if N ≤ a then a else if isL B a = true then rn (isL B) N a else if isD B a = true then rn (isD B) N a else a + 1
def kst (n : Nat) : Nat := ([1, 7, 13, 18, 25, 31, 40, 47, 50, 56, 63, 67, 72, 79, 85, 92, 98, 102, 106, 109, 113] : List Nat).getD n 0
def kln (n : Nat) : Nat := ([5, 5, 4, 6, 5, 8, 6, 2, 5, 6, 3, 4, 6, 5, 6, 5, 3, 3, 2, 3] : List Nat).getD n 0
def mtc (B : Nat → Nat) (a b n : Nat) : Bool := decide (b - a = kln n) && fAll (fun j => decide (nI (B (a + j)) = am_ch 2 (kst n + j))) (kln n)
def key (B : Nat → Nat) (a b : Nat) : Nat := (ff (mtc B a b) 20 0).getD 22
def sgK (c : Nat) : Nat → Nat
  | 0 => 25
  | k + 1 => if nI c = am_ch 3 k then 30 + k else sgK c k
def knd (B : Nat → Nat) (N a : Nat) : Nat := if N ≤ a then 24 else if isL B a = true then key B a (te B N a) else if isD B a = true then (if 3 < te B N a - a then 25 else 23) else sgK (B a) 12
def nm (B : Nat → Nat) (a : Nat) : Nat → Nat
  | 0 => 0
  | j + 1 => 10 * nm B a j + (B (a + j) - 48)
def num (B : Nat → Nat) (a b : Nat) : Nat := nm B a (mn 3 (b - a))
theorem k_t1 : ∀ n, n < 20 → kst n + kln n < 113 ∧ am_ch 2 (kst n + kln n) = nI 32 ∧ kst (n + 1) = kst n + kln n + 1 ∧ kln n < 9 := by decide +kernel
theorem k_t2 : ∀ n, n < 20 → ∀ j, j < kln n → am_ch 2 (kst n + j) ≠ nI 32 := by decide +kernel
theorem k_t3 : am_tl 2 = 113 ∧ kst 20 = 113 ∧ kst 0 = 1 ∧ am_tl 3 = 12 := by decide +kernel
theorem fAll_iff {f : Nat → Bool} : ∀ n, fAll f n = true ↔ ∀ k, k < n → f k = true
  | 0 => ⟨fun _ k hk => by omega, fun _ => rfl⟩
  | n + 1 => by
    rw [fAll, Bool.and_eq_true, fAll_iff n]
    constructor
    · rintro ⟨h1, h2⟩ k hk
      by_cases e : k = n
      · subst e; exact h2
      · exact h1 k (by omega)
    · intro h
      exact ⟨fun k hk => h k (by omega), h n (by omega)⟩
theorem sgK_lt (c : Nat) : ∀ k, sgK c k < 30 + k + 1
  | 0 => by rw [sgK]; decide
  | k + 1 => by
    have := sgK_lt c k
    rw [sgK]
    split <;> omega
/-- the tape as the reader sees it -/
def TP (i : Nat → Nat → Int32) (B : Nat → Nat) (N : Nat) : Prop := N ≤ 900 ∧ i 0 8 = nI N ∧ (∀ k, k < N → i 3 k = nI (B k)) ∧ ∀ k, B k < 256
theorem TP_fx {R : List Nat} {i i' : Nat → Nat → Int32} {B : Nat → Nat} {N : Nat} (h : Fx R i i') (hq : TP i B N) (h1 : R.contains 3 = false) (h2 : R.contains 108 = false) : TP i' B N := ⟨hq.1, by rw [h 0 8 h2]; exact hq.2.1, by rw [Fx_row h (by decide) h1]; exact hq.2.2.1, hq.2.2.2⟩
def seeV (B : Nat → Nat) (N k : Nat) : Int32 := if k < N then nI (B k) else -nI 1
section
variable {i : Nat → Nat → Int32} {l : Nat → Nat → Int64} {B : Nat → Nat} {N : Nat}
theorem s_M_see (d : Nat) {k : Nat} (hk : k < 2000) (hT : TP i B N) : am_cl (d + 1) mM_see [.ref 0, .int (nI k)] (i, l, rM, kM) = some (some (.int (seeV B N k)), (i, l, rM, kM)) := by
  obtain ⟨h1, h2, h3, h4⟩ := hT
  rw [c_M_see, b_M_see_0]
  unfold seeV
  by_cases h : k < N
  · have h3k := h3 k h
    simp (disch := first | assumption | omega) only [b_M_see_0, b_M_see_18, ↓Bool.cond_decide, ↓q_in, q_le, q_lt, q_eq, q_leT, q_leF, q_ltT, q_ltF, q_eqT, q_eqF, ↓reduceIte, not_true_eq_false, not_false_eq_true, true_and, and_true, and_self, false_and, and_false, Nat.zero_le, am_bd_some, q_app, q_app0, nI_add, pk_sub, pk_mul, q_dec, q_ix, q_m1, q_m1', ↓q_ret, q_bool, q_bool1, q_u2, q_u1, q_shl1, q_shr, q_and7, q_dg, fa_or, fa_and, decide_true, decide_false, Bool.or_false, Bool.or_true, Bool.true_or, Bool.false_or, cond_true, cond_false, ite_not, q_some, q_nn, q_xor, q_xorm, Bool.false_eq_true, decide_eq_true_eq, ne_eq, l_0, l_1, l_3, l_8, l_13, l_18, l_900, h2, h3k]
  · simp (disch := first | assumption | omega) only [b_M_see_0, b_M_see_18, ↓Bool.cond_decide, ↓q_in, q_le, q_lt, q_eq, q_leT, q_leF, q_ltT, q_ltF, q_eqT, q_eqF, ↓reduceIte, not_true_eq_false, not_false_eq_true, true_and, and_true, and_self, false_and, and_false, Nat.zero_le, am_bd_some, q_app, q_app0, nI_add, pk_sub, pk_mul, q_dec, q_ix, q_m1, q_m1', ↓q_ret, q_bool, q_bool1, q_u2, q_u1, q_shl1, q_shr, q_and7, q_dg, fa_or, fa_and, decide_true, decide_false, Bool.or_false, Bool.or_true, Bool.true_or, Bool.false_or, cond_true, cond_false, ite_not, q_some, q_nn, q_xor, q_xorm, Bool.false_eq_true, decide_eq_true_eq, ne_eq, l_0, l_1, l_3, l_8, l_13, l_18, l_900, h2]
theorem q_n1lt {a : Nat} (h : a < 2147483648) : (-nI 1 < nI a) = True := eq_true (by
  rw [fa_lt, nI_toInt h]
  have : (-nI 1).toInt = -1 := rfl
  omega)
theorem q_n1gt {a : Nat} (h : a < 2147483648) : (nI a < -nI 1) = False := eq_false (by
  rw [fa_lt, nI_toInt h]
  have : (-nI 1).toInt = -1 := rfl
  omega)
theorem s_M_isSmall (d : Nat) {k : Nat} (hB : ∀ k, B k < 256) (s : aM) : am_cl (d + 1) mM_isSmall [.int (seeV B N k)] s = some (some (.int (if k < N ∧ isL B k = true then nI 1 else nI 0)), s) := by
  obtain ⟨i, l, q, K⟩ := s
  have hb := hB k
  rw [c_M_isSmall, b_M_isSmall_0]
  unfold seeV isL
  by_cases h : k < N
  · by_cases h1 : 97 ≤ B k
    · by_cases h2 : B k ≤ 122
      · simp (disch := first | assumption | omega) only [b_M_isSmall_0, b_M_isSmall_16, b_M_isSmall_17, ↓Bool.cond_decide, ↓q_in, q_le, q_lt, q_eq, q_leT, q_leF, q_ltT, q_ltF, q_eqT, q_eqF, ↓reduceIte, not_true_eq_false, not_false_eq_true, true_and, and_true, and_self, false_and, and_false, Nat.zero_le, am_bd_some, q_app, q_app0, nI_add, pk_sub, pk_mul, q_dec, q_ix, q_m1, q_m1', ↓q_ret, q_bool, q_bool1, q_u2, q_u1, q_shl1, q_shr, q_and7, q_dg, fa_or, fa_and, decide_true, decide_false, Bool.or_false, Bool.or_true, Bool.true_or, Bool.false_or, cond_true, cond_false, ite_not, q_some, q_nn, q_xor, q_xorm, Bool.false_eq_true, decide_eq_true_eq, ne_eq, l_0, l_1, l_3, l_4, l_12, l_16, l_17, l_97, l_122]
      · simp (disch := first | assumption | omega) only [b_M_isSmall_0, b_M_isSmall_16, b_M_isSmall_17, ↓Bool.cond_decide, ↓q_in, q_le, q_lt, q_eq, q_leT, q_leF, q_ltT, q_ltF, q_eqT, q_eqF, ↓reduceIte, not_true_eq_false, not_false_eq_true, true_and, and_true, and_self, false_and, and_false, Nat.zero_le, am_bd_some, q_app, q_app0, nI_add, pk_sub, pk_mul, q_dec, q_ix, q_m1, q_m1', ↓q_ret, q_bool, q_bool1, q_u2, q_u1, q_shl1, q_shr, q_and7, q_dg, fa_or, fa_and, decide_true, decide_false, Bool.or_false, Bool.or_true, Bool.true_or, Bool.false_or, cond_true, cond_false, ite_not, q_some, q_nn, q_xor, q_xorm, Bool.false_eq_true, decide_eq_true_eq, ne_eq, l_0, l_1, l_3, l_4, l_12, l_16, l_17, l_97, l_122]
    · simp (disch := first | assumption | omega) only [b_M_isSmall_0, b_M_isSmall_16, b_M_isSmall_17, ↓Bool.cond_decide, ↓q_in, q_le, q_lt, q_eq, q_leT, q_leF, q_ltT, q_ltF, q_eqT, q_eqF, ↓reduceIte, not_true_eq_false, not_false_eq_true, true_and, and_true, and_self, false_and, and_false, Nat.zero_le, am_bd_some, q_app, q_app0, nI_add, pk_sub, pk_mul, q_dec, q_ix, q_m1, q_m1', ↓q_ret, q_bool, q_bool1, q_u2, q_u1, q_shl1, q_shr, q_and7, q_dg, fa_or, fa_and, decide_true, decide_false, Bool.or_false, Bool.or_true, Bool.true_or, Bool.false_or, cond_true, cond_false, ite_not, q_some, q_nn, q_xor, q_xorm, Bool.false_eq_true, decide_eq_true_eq, ne_eq, l_0, l_1, l_3, l_4, l_12, l_16, l_17, l_97, l_122]
  · simp (disch := first | assumption | omega) only [b_M_isSmall_0, b_M_isSmall_16, b_M_isSmall_17, ↓Bool.cond_decide, ↓q_in, q_le, q_lt, q_eq, q_leT, q_leF, q_ltT, q_ltF, q_eqT, q_eqF, ↓reduceIte, not_true_eq_false, not_false_eq_true, true_and, and_true, and_self, false_and, and_false, Nat.zero_le, am_bd_some, q_app, q_app0, nI_add, pk_sub, pk_mul, q_dec, q_ix, q_m1, q_m1', ↓q_ret, q_bool, q_bool1, q_u2, q_u1, q_shl1, q_shr, q_and7, q_dg, fa_or, fa_and, decide_true, decide_false, Bool.or_false, Bool.or_true, Bool.true_or, Bool.false_or, cond_true, cond_false, ite_not, q_some, q_nn, q_xor, q_xorm, Bool.false_eq_true, decide_eq_true_eq, ne_eq, l_0, l_1, l_3, l_4, l_12, l_16, l_17, l_97, l_122, q_n1lt]
theorem s_M_isDigit (d : Nat) {k : Nat} (hB : ∀ k, B k < 256) (s : aM) : am_cl (d + 1) mM_isDigit [.int (seeV B N k)] s = some (some (.int (if k < N ∧ isD B k = true then nI 1 else nI 0)), s) := by
  obtain ⟨i, l, q, K⟩ := s
  have hb := hB k
  rw [c_M_isDigit, b_M_isDigit_0]
  unfold seeV isD
  by_cases h : k < N
  · by_cases h1 : 48 ≤ B k
    · by_cases h2 : B k ≤ 57
      · simp (disch := first | assumption | omega) only [b_M_isDigit_0, b_M_isDigit_16, b_M_isDigit_17, ↓Bool.cond_decide, ↓q_in, q_le, q_lt, q_eq, q_leT, q_leF, q_ltT, q_ltF, q_eqT, q_eqF, ↓reduceIte, not_true_eq_false, not_false_eq_true, true_and, and_true, and_self, false_and, and_false, Nat.zero_le, am_bd_some, q_app, q_app0, nI_add, pk_sub, pk_mul, q_dec, q_ix, q_m1, q_m1', ↓q_ret, q_bool, q_bool1, q_u2, q_u1, q_shl1, q_shr, q_and7, q_dg, fa_or, fa_and, decide_true, decide_false, Bool.or_false, Bool.or_true, Bool.true_or, Bool.false_or, cond_true, cond_false, ite_not, q_some, q_nn, q_xor, q_xorm, Bool.false_eq_true, decide_eq_true_eq, ne_eq, l_0, l_1, l_3, l_4, l_12, l_16, l_17, l_48, l_57]
      · simp (disch := first | assumption | omega) only [b_M_isDigit_0, b_M_isDigit_16, b_M_isDigit_17, ↓Bool.cond_decide, ↓q_in, q_le, q_lt, q_eq, q_leT, q_leF, q_ltT, q_ltF, q_eqT, q_eqF, ↓reduceIte, not_true_eq_false, not_false_eq_true, true_and, and_true, and_self, false_and, and_false, Nat.zero_le, am_bd_some, q_app, q_app0, nI_add, pk_sub, pk_mul, q_dec, q_ix, q_m1, q_m1', ↓q_ret, q_bool, q_bool1, q_u2, q_u1, q_shl1, q_shr, q_and7, q_dg, fa_or, fa_and, decide_true, decide_false, Bool.or_false, Bool.or_true, Bool.true_or, Bool.false_or, cond_true, cond_false, ite_not, q_some, q_nn, q_xor, q_xorm, Bool.false_eq_true, decide_eq_true_eq, ne_eq, l_0, l_1, l_3, l_4, l_12, l_16, l_17, l_48, l_57]
    · simp (disch := first | assumption | omega) only [b_M_isDigit_0, b_M_isDigit_16, b_M_isDigit_17, ↓Bool.cond_decide, ↓q_in, q_le, q_lt, q_eq, q_leT, q_leF, q_ltT, q_ltF, q_eqT, q_eqF, ↓reduceIte, not_true_eq_false, not_false_eq_true, true_and, and_true, and_self, false_and, and_false, Nat.zero_le, am_bd_some, q_app, q_app0, nI_add, pk_sub, pk_mul, q_dec, q_ix, q_m1, q_m1', ↓q_ret, q_bool, q_bool1, q_u2, q_u1, q_shl1, q_shr, q_and7, q_dg, fa_or, fa_and, decide_true, decide_false, Bool.or_false, Bool.or_true, Bool.true_or, Bool.false_or, cond_true, cond_false, ite_not, q_some, q_nn, q_xor, q_xorm, Bool.false_eq_true, decide_eq_true_eq, ne_eq, l_0, l_1, l_3, l_4, l_12, l_16, l_17, l_48, l_57]
  · simp (disch := first | assumption | omega) only [b_M_isDigit_0, b_M_isDigit_16, b_M_isDigit_17, ↓Bool.cond_decide, ↓q_in, q_le, q_lt, q_eq, q_leT, q_leF, q_ltT, q_ltF, q_eqT, q_eqF, ↓reduceIte, not_true_eq_false, not_false_eq_true, true_and, and_true, and_self, false_and, and_false, Nat.zero_le, am_bd_some, q_app, q_app0, nI_add, pk_sub, pk_mul, q_dec, q_ix, q_m1, q_m1', ↓q_ret, q_bool, q_bool1, q_u2, q_u1, q_shl1, q_shr, q_and7, q_dg, fa_or, fa_and, decide_true, decide_false, Bool.or_false, Bool.or_true, Bool.true_or, Bool.false_or, cond_true, cond_false, ite_not, q_some, q_nn, q_xor, q_xorm, Bool.false_eq_true, decide_eq_true_eq, ne_eq, l_0, l_1, l_3, l_4, l_12, l_16, l_17, l_48, l_57, q_n1lt]
theorem s_M_keyAt (d : Nat) {a b : Nat} (hab : a ≤ b) (hb : b ≤ N) (hT : TP i B N) (h6 : i 0 6 = nI a) (h7 : i 0 7 = nI b) : am_cl (d + 1) mM_keyAt [.ref 0] (i, l, rM, kM) = some (some (.int (nI (key B a b))), (i, l, rM, kM)) := by
  obtain ⟨h1, h2, h3, h4⟩ := hT
  obtain ⟨t1, t2, t3, t4⟩ := k_t3
  have hchn : ∀ x, Int32.ofNat x = nI x := fun _ => rfl
  rw [c_M_keyAt, b_M_keyAt_0]
  unfold key
  refine am_find (d := d) (y := mM_keyAt) (pc := 4) (fun n ls st => ∃ z3, ls = [.val (.ref 0), .val (.int (nI n)), .val (.int (nI (kst n))), z3] ∧ st = (i, l, rM, kM)) (mtc B a b) (fun o r => r = some (some (.int (nI (o.getD 22))), (i, l, rM, kM))) 20 0 (fun n ls st _ hn hI => ?_) (fun ls st hI => ?_) _ _ ⟨_, by rw [t3]; rfl, rfl⟩
  · obtain ⟨z3, e1, e2⟩ := hI
    subst e1; subst e2
    obtain ⟨u1, u2, u3, u4⟩ := k_t1 n (by omega)
    have u5 := k_t2 n (by omega)
    -- the inner walk
    obtain ⟨X, hX⟩ : ∃ X, ff (fun x => decide (x = kln n) || decide (b ≤ a + x) || !decide (nI (B (a + x)) = am_ch 2 (kst n + x))) (kln n + 1) 0 = some X := by
      cases hc : ff (fun x => decide (x = kln n) || decide (b ≤ a + x) || !decide (nI (B (a + x)) = am_ch 2 (kst n + x))) (kln n + 1) 0 with
      | some X => exact ⟨X, rfl⟩
      | none =>
        have := ff_none hc (kln n) (by omega) (by omega)
        rw [decide_eq_true rfl] at this
        cases this
    obtain ⟨x1, x2, x3, x4⟩ := ff_some hX
    have hbefore : ∀ j, j < X → a + j < b ∧ nI (B (a + j)) = am_ch 2 (kst n + j) := fun j hj => by
      have := x4 j (by omega) hj
      rw [Bool.or_eq_false_iff, Bool.or_eq_false_iff, Bool.not_eq_false'] at this
      exact ⟨by have := of_decide_eq_false this.1.2; omega, of_decide_eq_true this.2⟩
    have hmt : mtc B a b n = true ↔ X = kln n ∧ a + X = b := by
      unfold mtc
      rw [Bool.and_eq_true, decide_eq_true_eq, fAll_iff]
      constructor
      · rintro ⟨q1, q2⟩
        have hXk : X = kln n := by
          rw [Bool.or_eq_true, Bool.or_eq_true] at x3
          rcases x3 with (q | q) | q
          · exact of_decide_eq_true q
          · have := of_decide_eq_true q; omega
          · apply Classical.byContradiction
            intro hne
            have := q2 X (by omega)
            rw [this] at q
            cases q
        exact ⟨hXk, by omega⟩
      · rintro ⟨q1, q2⟩
        exact ⟨by omega, fun j hj => decide_eq_true (hbefore j (by omega)).2⟩
    have inner : am_Ex d mM_keyAt 4 [.val (.ref 0), .val (.int (nI n)), .val (.int (nI (kst n))), z3] [] (i, l, rM, kM) = if mtc B a b n = true then some (some (.int (nI n)), (i, l, rM, kM)) else am_Ex d mM_keyAt 97 [.val (.ref 0), .val (.int (nI n)), .val (.int (nI (kst n))), .val (.int (nI X))] [] (i, l, rM, kM) := by
      rw [b_M_keyAt_4, b_M_keyAt_7, t1, hchn]
      obtain ⟨RR, hRR⟩ : ∃ RR, RR = (if mtc B a b n = true then some (some (.int (nI n)), (i, l, rM, kM)) else am_Ex d mM_keyAt 97 [.val (.ref 0), .val (.int (nI n)), .val (.int (nI (kst n))), .val (.int (nI X))] [] (i, l, rM, kM)) := ⟨_, rfl⟩
      rw [← hRR]
      simp (disch := first | assumption | omega) only [b_M_keyAt_0, b_M_keyAt_7, b_M_keyAt_10, b_M_keyAt_20, b_M_keyAt_23, b_M_keyAt_57, b_M_keyAt_60, b_M_keyAt_69, b_M_keyAt_74, b_M_keyAt_77, b_M_keyAt_100, b_M_keyAt_103, ↓Bool.cond_decide, ↓q_in, q_le, q_lt, q_eq, q_leT, q_leF, q_ltT, q_ltF, q_eqT, q_eqF, ↓reduceIte, not_true_eq_false, not_false_eq_true, true_and, and_true, and_self, false_and, and_false, Nat.zero_le, am_bd_some, q_app, q_app0, nI_add, pk_sub, pk_mul, q_dec, q_ix, q_m1, q_m1', ↓q_ret, q_bool, q_bool1, q_u2, q_u1, q_shl1, q_shr, q_and7, q_dg, fa_or, fa_and, decide_true, decide_false, Bool.or_false, Bool.or_true, Bool.true_or, Bool.false_or, cond_true, cond_false, ite_not, q_some, q_nn, q_xor, q_xorm, Bool.false_eq_true, decide_eq_true_eq, ne_eq, l_0, l_1, l_2, l_3, l_4, l_5, l_6, l_7, l_8, l_10, l_11, l_15, l_20, l_22, l_23, l_25, l_32, l_57, l_60, l_69, l_74, l_77, l_97, l_100, l_103, l_900, l_1000002, t1]
      refine am_find (d := d) (y := mM_keyAt) (pc := 15) (fun x ls st => ls = [.val (.ref 0), .val (.int (nI n)), .val (.int (nI (kst n))), .val (.int (nI x))] ∧ st = (i, l, rM, kM)) _ (fun o r => o = some X → r = RR) (kln n + 1) 0 (fun x ls st _ hx hI => ?_) (fun ls st hI => fun z => by cases z) _ _ ⟨rfl, rfl⟩ hX
      obtain ⟨e1, e2⟩ := hI
      subst e1; subst e2
      refine ⟨fun hf => fun hxX => ?_, fun hf => ?_⟩
      · have hxX : x = X := Option.some.inj hxX
        subst hxX
        have tail : am_Ex d mM_keyAt 69 [.val (.ref 0), .val (.int (nI n)), .val (.int (nI (kst n))), .val (.int (nI x))] [] (i, l, rM, kM) = RR := by
          rw [hRR]
          by_cases c1 : x = kln n
          · have hch : am_ch 2 (kst n + x) = nI 32 := by rw [c1]; exact u2
            by_cases c2 : a + x = b
            · have hm : mtc B a b n = true := hmt.mpr ⟨c1, c2⟩
              rw [if_pos hm]
              simp (disch := first | assumption | omega) only [b_M_keyAt_0, b_M_keyAt_7, b_M_keyAt_10, b_M_keyAt_20, b_M_keyAt_23, b_M_keyAt_57, b_M_keyAt_60, b_M_keyAt_69, b_M_keyAt_74, b_M_keyAt_77, b_M_keyAt_100, b_M_keyAt_103, ↓Bool.cond_decide, ↓q_in, q_le, q_lt, q_eq, q_leT, q_leF, q_ltT, q_ltF, q_eqT, q_eqF, ↓reduceIte, not_true_eq_false, not_false_eq_true, true_and, and_true, and_self, false_and, and_false, Nat.zero_le, am_bd_some, q_app, q_app0, nI_add, pk_sub, pk_mul, q_dec, q_ix, q_m1, q_m1', ↓q_ret, q_bool, q_bool1, q_u2, q_u1, q_shl1, q_shr, q_and7, q_dg, fa_or, fa_and, decide_true, decide_false, Bool.or_false, Bool.or_true, Bool.true_or, Bool.false_or, cond_true, cond_false, ite_not, q_some, q_nn, q_xor, q_xorm, Bool.false_eq_true, decide_eq_true_eq, ne_eq, l_0, l_1, l_2, l_3, l_4, l_5, l_6, l_7, l_8, l_10, l_11, l_15, l_20, l_22, l_23, l_25, l_32, l_57, l_60, l_69, l_74, l_77, l_97, l_100, l_103, l_900, l_1000002, t1, hch, h6, h7, c2]
            · have hm : ¬ mtc B a b n = true := fun z => c2 (hmt.mp z).2
              rw [if_neg hm]
              simp (disch := first | assumption | omega) only [b_M_keyAt_0, b_M_keyAt_7, b_M_keyAt_10, b_M_keyAt_20, b_M_keyAt_23, b_M_keyAt_57, b_M_keyAt_60, b_M_keyAt_69, b_M_keyAt_74, b_M_keyAt_77, b_M_keyAt_100, b_M_keyAt_103, ↓Bool.cond_decide, ↓q_in, q_le, q_lt, q_eq, q_leT, q_leF, q_ltT, q_ltF, q_eqT, q_eqF, ↓reduceIte, not_true_eq_false, not_false_eq_true, true_and, and_true, and_self, false_and, and_false, Nat.zero_le, am_bd_some, q_app, q_app0, nI_add, pk_sub, pk_mul, q_dec, q_ix, q_m1, q_m1', ↓q_ret, q_bool, q_bool1, q_u2, q_u1, q_shl1, q_shr, q_and7, q_dg, fa_or, fa_and, decide_true, decide_false, Bool.or_false, Bool.or_true, Bool.true_or, Bool.false_or, cond_true, cond_false, ite_not, q_some, q_nn, q_xor, q_xorm, Bool.false_eq_true, decide_eq_true_eq, ne_eq, l_0, l_1, l_2, l_3, l_4, l_5, l_6, l_7, l_8, l_10, l_11, l_15, l_20, l_22, l_23, l_25, l_32, l_57, l_60, l_69, l_74, l_77, l_97, l_100, l_103, l_900, l_1000002, t1, hch, h6, h7, c2]
          · have hch : (am_ch 2 (kst n + x) = nI 32) = False := eq_false (u5 x (by omega))
            have hm : ¬ mtc B a b n = true := fun z => c1 (hmt.mp z).1
            rw [if_neg hm]
            simp (disch := first | assumption | omega) only [b_M_keyAt_0, b_M_keyAt_7, b_M_keyAt_10, b_M_keyAt_20, b_M_keyAt_23, b_M_keyAt_57, b_M_keyAt_60, b_M_keyAt_69, b_M_keyAt_74, b_M_keyAt_77, b_M_keyAt_100, b_M_keyAt_103, ↓Bool.cond_decide, ↓q_in, q_le, q_lt, q_eq, q_leT, q_leF, q_ltT, q_ltF, q_eqT, q_eqF, ↓reduceIte, not_true_eq_false, not_false_eq_true, true_and, and_true, and_self, false_and, and_false, Nat.zero_le, am_bd_some, q_app, q_app0, nI_add, pk_sub, pk_mul, q_dec, q_ix, q_m1, q_m1', ↓q_ret, q_bool, q_bool1, q_u2, q_u1, q_shl1, q_shr, q_and7, q_dg, fa_or, fa_and, decide_true, decide_false, Bool.or_false, Bool.or_true, Bool.true_or, Bool.false_or, cond_true, cond_false, ite_not, q_some, q_nn, q_xor, q_xorm, Bool.false_eq_true, decide_eq_true_eq, ne_eq, l_0, l_1, l_2, l_3, l_4, l_5, l_6, l_7, l_8, l_10, l_11, l_15, l_20, l_22, l_23, l_25, l_32, l_57, l_60, l_69, l_74, l_77, l_97, l_100, l_103, l_900, l_1000002, t1, hch]
        rw [b_M_keyAt_15]
        by_cases c1 : x = kln n
        · have hch : am_ch 2 (kst n + x) = nI 32 := by rw [c1]; exact u2
          simp (disch := first | assumption | omega) only [b_M_keyAt_0, b_M_keyAt_7, b_M_keyAt_10, b_M_keyAt_20, b_M_keyAt_23, b_M_keyAt_57, b_M_keyAt_60, b_M_keyAt_74, b_M_keyAt_77, b_M_keyAt_100, b_M_keyAt_103, ↓Bool.cond_decide, ↓q_in, q_le, q_lt, q_eq, q_leT, q_leF, q_ltT, q_ltF, q_eqT, q_eqF, ↓reduceIte, not_true_eq_false, not_false_eq_true, true_and, and_true, and_self, false_and, and_false, Nat.zero_le, am_bd_some, q_app, q_app0, nI_add, pk_sub, pk_mul, q_dec, q_ix, q_m1, q_m1', ↓q_ret, q_bool, q_bool1, q_u2, q_u1, q_shl1, q_shr, q_and7, q_dg, fa_or, fa_and, decide_true, decide_false, Bool.or_false, Bool.or_true, Bool.true_or, Bool.false_or, cond_true, cond_false, ite_not, q_some, q_nn, q_xor, q_xorm, Bool.false_eq_true, decide_eq_true_eq, ne_eq, l_0, l_1, l_2, l_3, l_4, l_5, l_6, l_7, l_8, l_10, l_11, l_15, l_20, l_22, l_23, l_25, l_32, l_57, l_60, l_69, l_74, l_77, l_97, l_100, l_103, l_900, l_1000002, t1, hch]
          exact tail
        · have hch : (am_ch 2 (kst n + x) = nI 32) = False := eq_false (u5 x (by omega))
          by_cases c2 : b ≤ a + x
          · simp (disch := first | assumption | omega) only [b_M_keyAt_0, b_M_keyAt_7, b_M_keyAt_10, b_M_keyAt_20, b_M_keyAt_23, b_M_keyAt_57, b_M_keyAt_60, b_M_keyAt_74, b_M_keyAt_77, b_M_keyAt_100, b_M_keyAt_103, ↓Bool.cond_decide, ↓q_in, q_le, q_lt, q_eq, q_leT, q_leF, q_ltT, q_ltF, q_eqT, q_eqF, ↓reduceIte, not_true_eq_false, not_false_eq_true, true_and, and_true, and_self, false_and, and_false, Nat.zero_le, am_bd_some, q_app, q_app0, nI_add, pk_sub, pk_mul, q_dec, q_ix, q_m1, q_m1', ↓q_ret, q_bool, q_bool1, q_u2, q_u1, q_shl1, q_shr, q_and7, q_dg, fa_or, fa_and, decide_true, decide_false, Bool.or_false, Bool.or_true, Bool.true_or, Bool.false_or, cond_true, cond_false, ite_not, q_some, q_nn, q_xor, q_xorm, Bool.false_eq_true, decide_eq_true_eq, ne_eq, l_0, l_1, l_2, l_3, l_4, l_5, l_6, l_7, l_8, l_10, l_11, l_15, l_20, l_22, l_23, l_25, l_32, l_57, l_60, l_69, l_74, l_77, l_97, l_100, l_103, l_900, l_1000002, t1, hch, h6, h7]
            exact tail
          · have h3x := h3 (a + x) (by omega)
            have hne : (nI (B (a + x)) = am_ch 2 (kst n + x)) = False := eq_false (fun z => by
              rw [decide_eq_false c1, decide_eq_false c2, decide_eq_true z] at hf
              cases hf)
            simp (disch := first | assumption | omega) only [b_M_keyAt_0, b_M_keyAt_7, b_M_keyAt_10, b_M_keyAt_20, b_M_keyAt_23, b_M_keyAt_57, b_M_keyAt_60, b_M_keyAt_74, b_M_keyAt_77, b_M_keyAt_100, b_M_keyAt_103, ↓Bool.cond_decide, ↓q_in, q_le, q_lt, q_eq, q_leT, q_leF, q_ltT, q_ltF, q_eqT, q_eqF, ↓reduceIte, not_true_eq_false, not_false_eq_true, true_and, and_true, and_self, false_and, and_false, Nat.zero_le, am_bd_some, q_app, q_app0, nI_add, pk_sub, pk_mul, q_dec, q_ix, q_m1, q_m1', ↓q_ret, q_bool, q_bool1, q_u2, q_u1, q_shl1, q_shr, q_and7, q_dg, fa_or, fa_and, decide_true, decide_false, Bool.or_false, Bool.or_true, Bool.true_or, Bool.false_or, cond_true, cond_false, ite_not, q_some, q_nn, q_xor, q_xorm, Bool.false_eq_true, decide_eq_true_eq, ne_eq, l_0, l_1, l_2, l_3, l_4, l_5, l_6, l_7, l_8, l_10, l_11, l_15, l_20, l_22, l_23, l_25, l_32, l_57, l_60, l_69, l_74, l_77, l_97, l_100, l_103, l_900, l_1000002, t1, hch, h6, h7, h3x, hne]
            exact tail
      · rw [Bool.or_eq_false_iff, Bool.or_eq_false_iff, Bool.not_eq_false'] at hf
        have c1 := of_decide_eq_false hf.1.1
        have c2 := of_decide_eq_false hf.1.2
        have c3 := of_decide_eq_true hf.2
        have hch : (am_ch 2 (kst n + x) = nI 32) = False := eq_false (u5 x (by omega))
        have h3x := h3 (a + x) (by omega)
        rw [b_M_keyAt_15]
        simp (disch := first | assumption | omega) only [b_M_keyAt_0, b_M_keyAt_7, b_M_keyAt_10, b_M_keyAt_20, b_M_keyAt_23, b_M_keyAt_57, b_M_keyAt_60, b_M_keyAt_74, b_M_keyAt_77, b_M_keyAt_100, b_M_keyAt_103, ↓Bool.cond_decide, ↓q_in, q_le, q_lt, q_eq, q_leT, q_leF, q_ltT, q_ltF, q_eqT, q_eqF, ↓reduceIte, not_true_eq_false, not_false_eq_true, true_and, and_true, and_self, false_and, and_false, Nat.zero_le, am_bd_some, q_app, q_app0, nI_add, pk_sub, pk_mul, q_dec, q_ix, q_m1, q_m1', ↓q_ret, q_bool, q_bool1, q_u2, q_u1, q_shl1, q_shr, q_and7, q_dg, fa_or, fa_and, decide_true, decide_false, Bool.or_false, Bool.or_true, Bool.true_or, Bool.false_or, cond_true, cond_false, ite_not, q_some, q_nn, q_xor, q_xorm, Bool.false_eq_true, decide_eq_true_eq, ne_eq, l_0, l_1, l_2, l_3, l_4, l_5, l_6, l_7, l_8, l_10, l_11, l_15, l_20, l_22, l_23, l_25, l_32, l_57, l_60, l_69, l_74, l_77, l_97, l_100, l_103, l_900, l_1000002, t1, hch, h6, h7, h3x, c3]
        exact Go_in ⟨rfl, rfl⟩
    refine ⟨fun hm => ?_, fun hm => ?_⟩
    · rw [inner, if_pos hm]; rfl
    · rw [inner, if_neg (by rw [hm]; decide)]
      refine am_loop (fun t ls st => ∃ z3, ls = [.val (.ref 0), .val (.int (nI n)), .val (.int (nI (kst n + t))), z3] ∧ st = (i, l, rM, kM)) (kln n) _ (fun t ls st ht hI => ?_) (fun ls st hI => ?_) ⟨_, rfl, rfl⟩
      · obtain ⟨z3, e1, e2⟩ := hI
        subst e1; subst e2
        have hch : (am_ch 2 (kst n + t) = nI 32) = False := eq_false (u5 t ht)
        rw [b_M_keyAt_97]
        simp (disch := first | assumption | omega) only [b_M_keyAt_0, b_M_keyAt_7, b_M_keyAt_10, b_M_keyAt_20, b_M_keyAt_23, b_M_keyAt_57, b_M_keyAt_60, b_M_keyAt_69, b_M_keyAt_74, b_M_keyAt_77, b_M_keyAt_100, b_M_keyAt_103, ↓Bool.cond_decide, ↓q_in, q_le, q_lt, q_eq, q_leT, q_leF, q_ltT, q_ltF, q_eqT, q_eqF, ↓reduceIte, not_true_eq_false, not_false_eq_true, true_and, and_true, and_self, false_and, and_false, Nat.zero_le, am_bd_some, q_app, q_app0, nI_add, pk_sub, pk_mul, q_dec, q_ix, q_m1, q_m1', ↓q_ret, q_bool, q_bool1, q_u2, q_u1, q_shl1, q_shr, q_and7, q_dg, fa_or, fa_and, decide_true, decide_false, Bool.or_false, Bool.or_true, Bool.true_or, Bool.false_or, cond_true, cond_false, ite_not, q_some, q_nn, q_xor, q_xorm, Bool.false_eq_true, decide_eq_true_eq, ne_eq, l_0, l_1, l_2, l_3, l_4, l_5, l_6, l_7, l_8, l_10, l_11, l_15, l_20, l_22, l_23, l_25, l_32, l_57, l_60, l_69, l_74, l_77, l_97, l_100, l_103, l_900, l_1000002, t1, hch]
        exact Go_in ⟨_, rfl, rfl⟩
      · obtain ⟨z3, e1, e2⟩ := hI
        subst e1; subst e2
        rw [b_M_keyAt_97]
        simp (disch := first | assumption | omega) only [b_M_keyAt_0, b_M_keyAt_7, b_M_keyAt_10, b_M_keyAt_20, b_M_keyAt_23, b_M_keyAt_57, b_M_keyAt_60, b_M_keyAt_69, b_M_keyAt_74, b_M_keyAt_77, b_M_keyAt_100, b_M_keyAt_103, ↓Bool.cond_decide, ↓q_in, q_le, q_lt, q_eq, q_leT, q_leF, q_ltT, q_ltF, q_eqT, q_eqF, ↓reduceIte, not_true_eq_false, not_false_eq_true, true_and, and_true, and_self, false_and, and_false, Nat.zero_le, am_bd_some, q_app, q_app0, nI_add, pk_sub, pk_mul, q_dec, q_ix, q_m1, q_m1', ↓q_ret, q_bool, q_bool1, q_u2, q_u1, q_shl1, q_shr, q_and7, q_dg, fa_or, fa_and, decide_true, decide_false, Bool.or_false, Bool.or_true, Bool.true_or, Bool.false_or, cond_true, cond_false, ite_not, q_some, q_nn, q_xor, q_xorm, Bool.false_eq_true, decide_eq_true_eq, ne_eq, l_0, l_1, l_2, l_3, l_4, l_5, l_6, l_7, l_8, l_10, l_11, l_15, l_20, l_22, l_23, l_25, l_32, l_57, l_60, l_69, l_74, l_77, l_97, l_100, l_103, l_900, l_1000002, t1, u2]
        exact Go_in ⟨_, by rw [u3], rfl⟩
  · obtain ⟨z3, e1, e2⟩ := hI
    subst e1; subst e2
    rw [show 0 + 20 = 20 from rfl, t2, b_M_keyAt_4, b_M_keyAt_7, t1, hchn]
    simp (disch := first | assumption | omega) only [b_M_keyAt_0, b_M_keyAt_7, b_M_keyAt_10, b_M_keyAt_20, b_M_keyAt_23, b_M_keyAt_57, b_M_keyAt_60, b_M_keyAt_69, b_M_keyAt_74, b_M_keyAt_77, b_M_keyAt_100, b_M_keyAt_103, ↓Bool.cond_decide, ↓q_in, q_le, q_lt, q_eq, q_leT, q_leF, q_ltT, q_ltF, q_eqT, q_eqF, ↓reduceIte, not_true_eq_false, not_false_eq_true, true_and, and_true, and_self, false_and, and_false, Nat.zero_le, am_bd_some, q_app, q_app0, nI_add, pk_sub, pk_mul, q_dec, q_ix, q_m1, q_m1', ↓q_ret, q_bool, q_bool1, q_u2, q_u1, q_shl1, q_shr, q_and7, q_dg, fa_or, fa_and, decide_true, decide_false, Bool.or_false, Bool.or_true, Bool.true_or, Bool.false_or, cond_true, cond_false, ite_not, q_some, q_nn, q_xor, q_xorm, Bool.false_eq_true, decide_eq_true_eq, ne_eq, l_0, l_1, l_2, l_3, l_4, l_5, l_6, l_7, l_8, l_10, l_11, l_15, l_20, l_22, l_23, l_25, l_32, l_57, l_60, l_69, l_74, l_77, l_97, l_100, l_103, l_900, l_1000002]
    rfl
end
