/-! THE MODEL: told deeds, seasons -/
def lWhy (g : Nat → Nat) (v : Int64) : Nat := if 0 ≤ v.toInt ∧ v.toInt < 400 then dWhy g v.toInt.toNat else 1
theorem wL (a b : Nat) {lo hi : Int64} (h1 : lo = lN a) (h2 : hi = lN b) (ha : a < 1000) (hb : b < 1000) {n : Nat} (hn : n < 1000) : (lo ≤ lN n ∧ lN n ≤ hi) = (a ≤ n ∧ n ≤ b) := by
  subst h1; subst h2
  rw [propext (pk_lLE (a := a) (b := n) (by omega) (by omega)), propext (pk_lLE (a := n) (b := b) (by omega) (by omega))]
theorem L_10 : (10 : Int64) = lN 10 := rfl
theorem L_100 : (100 : Int64) = lN 100 := rfl
theorem q_lRem {a b : Nat} (ha : a < 1000) (h0 : 0 < b) (hb : b < 1000) : lN a - lN a / lN b * lN b = lN (a % b) := pk_lRem (by omega) h0 (by omega)
theorem q_lDiv {a b : Nat} (ha : a < 1000) (h0 : 0 < b) (hb : b < 1000) : lN a / lN b = lN (a / b) := pk_lDiv (by omega) h0 (by omega)
theorem q_remN (a b : Nat) : a - a / b * b = a % b := by
  have := Nat.div_add_mod a b
  rw [Nat.mul_comm] at this
  omega
theorem q_remL (a b : Nat) : a / b * b ≤ a := Nat.div_mul_le_self a b
theorem iS_nI {g : Nat → Nat} {p : Nat} (hp : p < 2147483648) : iS g (nI p) = sSpot g p := by
  unfold iS sSpot
  rw [nI_toInt (by omega)]
  by_cases h : 1 ≤ p ∧ p ≤ g 1
  · rw [decide_eq_true h, decide_eq_true (by omega)]
  · rw [decide_eq_false h, decide_eq_false (by omega)]
theorem lWhy_n {g : Nat → Nat} {n : Nat} (h : n < 400) : lWhy g (lN n) = dWhy g n := by
  unfold lWhy
  rw [pk_lT (by omega), if_pos (by omega), Int.toNat_natCast]
theorem lWhy_0 {g : Nat → Nat} {v : Int64} (h : lWhy g v = 0) : ∃ n, n < 400 ∧ v = lN n ∧ dWhy g n = 0 := by
  unfold lWhy at h
  by_cases hv : 0 ≤ v.toInt ∧ v.toInt < 400
  · rw [if_pos hv] at h
    refine ⟨v.toInt.toNat, by omega, ?_, h⟩
    apply Int64.toInt_inj.mp
    rw [pk_lT (by omega)]
    omega
  · rw [if_neg hv] at h; cases h
theorem dDo_out {g : Nat → Nat} {n j : Nat} (hW : WG g) (h0 : dWhy g n = 0) (hj : j < 18 ∨ 32 ≤ j) : dDo g n j = g j := by
  obtain ⟨⟨h1', h1⟩, _⟩ := hW
  unfold dWhy at h0
  unfold dDo
  by_cases n1 : n < 100
  · rw [if_pos n1] at h0 ⊢
    rename_i h
    obtain ⟨p, t, hp, ht, e1, e2, hh⟩ := sWhy_0 h0
    rw [nI_eq (by omega) (by omega)] at e1
    exact if_neg (by omega)
  rw [if_neg n1] at h0 ⊢
  by_cases n2 : n < 200
  · rw [if_pos n2]; exact if_neg (by omega)
  rw [if_neg n2] at ⊢
  rw [if_neg (by omega), if_neg n2] at h0
  by_cases n3 : n < 300
  · rw [if_pos n3]; exact if_neg (by omega)
  · rw [if_neg n3] at h0 ⊢
    by_cases n4 : n < 400
    · rw [if_pos n4] at h0
      by_cases hs : 1 ≤ n % 100 / 10 ∧ n % 100 / 10 ≤ g 1
      · exact if_neg (by omega)
      · rw [if_neg hs] at h0; cases h0
    · rw [if_neg n4] at h0; cases h0
/-- told deeds: how many can be, why not, and what is then -/
def tl (f : Nat → Int64) : Nat → Nat → (Nat → Nat) → Nat × Nat × (Nat → Nat)
  | 0, k, g => (k, 0, g)
  | n + 1, k, g => if lWhy g (f k) = 0 then tl f n (k + 1) (dDo g (f k).toInt.toNat) else (k, lWhy g (f k), g)
theorem tl_ok {f : Nat → Int64} : ∀ n k g, WG g → WG (tl f n k g).2.2 ∧ (∀ j, (j < 18 ∨ 32 ≤ j) → (tl f n k g).2.2 j = g j) ∧ (tl f n k g).2.1 ≤ 3 ∧ k ≤ (tl f n k g).1 ∧ (tl f n k g).1 ≤ k + n
  | 0, k, g, h => ⟨h, fun _ _ => rfl, Nat.zero_le _, Nat.le_refl _, Nat.le_refl _⟩
  | n + 1, k, g, h => by
    rw [tl]
    by_cases h0 : lWhy g (f k) = 0
    · rw [if_pos h0]
      obtain ⟨m, hm, hv, hd⟩ := lWhy_0 h0
      have e : (f k).toInt.toNat = m := by rw [hv, pk_lT (by omega), Int.toNat_natCast]
      rw [e]
      obtain ⟨a1, a2, a3, a4, a5⟩ := tl_ok (f := f) n (k + 1) (dDo g m) (WG_do h hd)
      exact ⟨a1, fun j hj => (a2 j hj).trans (dDo_out h hd hj), a3, by omega, by omega⟩
    · rw [if_neg h0]
      refine ⟨h, fun _ _ => rfl, ?_, Nat.le_refl _, by omega⟩
      show lWhy g (f k) ≤ 3
      unfold lWhy
      split
      · unfold dWhy sWhy
        repeat' split
        all_goals decide
      · decide
def dr (x : Int32) : Int32 := 1103515245 * x + 12345
def dv (x : Int32) : Nat := x.toBitVec.toNat / 65536
theorem dv_lt (x : Int32) : dv x < 65536 := by
  have : x.toBitVec.toNat < 2 ^ 32 := x.toBitVec.isLt
  unfold dv
  omega
theorem q_dv (x : Int32) : (Int32.toUInt32 x >>> (Int32.toUInt32 (16 : Int32) &&& Int32.toUInt32 31)).toInt32 = nI (dv x) := by
  have h := pk_ushr x 16 16 (by decide)
  have hb := dv_lt x
  apply Int32.toBitVec_inj.1
  apply BitVec.eq_of_toNat_eq
  rw [h, pk_tn (by omega)]
  rfl
/-- a deed by draws, and the number behind it -/
def dN (x : Int32) : Nat × Int32 := if dv (dr x) % 6 = 4 then (100 + dv (dr (dr x)) % 10, dr (dr x)) else if dv (dr x) % 6 = 5 then (200 + 10 * (dv (dr (dr x)) % 4) + dv (dr (dr (dr x))) % 10, dr (dr (dr x))) else (10 * (dv (dr (dr x)) % 4) + dv (dr (dr (dr x))) % 8, dr (dr (dr x)))
theorem dN_lt (x : Int32) : (dN x).1 < 400 := by
  unfold dN
  repeat' split
  all_goals (dsimp only; omega)
def ssn : Nat → Int32 → (Nat → Nat) → Nat → Nat × (Nat → Nat)
  | 0, _, g, c => (c, g)
  | n + 1, x, g, c => if dWhy g (dN x).1 = 0 then ssn n (dN x).2 (dDo g (dN x).1) (c + 1) else ssn n (dN x).2 g c
theorem ssn_ok : ∀ n x g c, WG g → WG (ssn n x g c).2 ∧ (∀ j, (j < 18 ∨ 32 ≤ j) → (ssn n x g c).2 j = g j) ∧ c ≤ (ssn n x g c).1 ∧ (ssn n x g c).1 ≤ c + n
  | 0, x, g, c, h => ⟨h, fun _ _ => rfl, Nat.le_refl _, Nat.le_refl _⟩
  | n + 1, x, g, c, h => by
    rw [ssn]
    by_cases h0 : dWhy g (dN x).1 = 0
    · rw [if_pos h0]
      obtain ⟨a1, a2, a3, a4⟩ := ssn_ok n (dN x).2 (dDo g (dN x).1) (c + 1) (WG_do h h0)
      exact ⟨a1, fun j hj => (a2 j hj).trans (dDo_out h h0 hj), by omega, by omega⟩
    · rw [if_neg h0]
      obtain ⟨a1, a2, a3, a4⟩ := ssn_ok n (dN x).2 g c h
      exact ⟨a1, a2, a3, by omega⟩
section
variable {i : Nat → Nat → Int32} {l : Nat → Nat → Int64} {g : Nat → Nat}
theorem r_M_whyNot (d : Nat) (v : Int64) (hA : MA i g) (hW : WG g) : MR (some (.int (nI (lWhy g v)))) (fun i' l' => l' = l ∧ Fx [5, 6, 7, 8] i i') (am_cl (d + 8) mM_whyNot [.ref 0, .long v] (i, l, rM, kM)) := by
  have hW' := hW
  obtain ⟨⟨h1', h1⟩, h2, _⟩ := hW
  rw [c_M_whyNot, b_M_whyNot_0]
  by_cases hv : 0 ≤ v.toInt ∧ v.toInt < 400
  · have ev : v = lN v.toInt.toNat := by
      apply Int64.toInt_inj.mp
      rw [pk_lT (by omega)]
      omega
    have hn : v.toInt.toNat < 400 := by omega
    generalize v.toInt.toNat = n at ev hn
    subst ev
    rw [lWhy_n hn]
    have w1 := wL 0 99 (lo := 0) (hi := 99) rfl rfl (by decide) (by decide) (n := n) (by omega)
    have w2 := wL 100 109 (lo := 100) (hi := 109) rfl rfl (by decide) (by decide) (n := n) (by omega)
    have w2' := wL 100 109 (lo := lN 100) (hi := 109) rfl rfl (by decide) (by decide) (n := n) (by omega)
    have w3 := wL 200 299 (lo := 200) (hi := 299) rfl rfl (by decide) (by decide) (n := n) (by omega)
    have w4 := wL 300 399 (lo := 300) (hi := 399) rfl rfl (by decide) (by decide) (n := n) (by omega)
    have e1 : lN (n % 100 / 10) = Int32.toInt64 (nI (n % 100 / 10)) := (nI_l (by omega)).symm
    have e2 : lN (n % 10) = Int32.toInt64 (nI (n % 10)) := (nI_l (by omega)).symm
    unfold dWhy
    by_cases n1 : n < 100
    · obtain ⟨i1, l1, q1, hl1, hf1⟩ := r_M_whyGo d (l := l) (nI (n % 100 / 10)) (nI (n % 10)) hA hW'
      subst hl1
      rw [show n % 100 / 10 = n / 10 by omega] at q1 e1
      have e3 : n % 100 / 10 = n / 10 := by omega
      simp (disch := first | assumption | omega) only [b_M_whyNot_0, b_M_whyNot_18, b_M_whyNot_31, b_M_whyNot_42, b_M_whyNot_57, b_M_whyNot_65, b_M_whyNot_73, b_M_whyNot_84, b_M_whyNot_92, b_M_whyNot_99, b_M_whyNot_100, s_M_isPerson, s_M_isSpot, s_M_isSpot'', s_M_within, ↓Bool.cond_decide, ↓q_in, q_le, q_lt, q_eq, q_leT, q_leF, q_ltT, q_ltF, q_eqT, q_eqF, ↓reduceIte, not_true_eq_false, not_false_eq_true, true_and, and_true, and_self, false_and, and_false, Nat.zero_le, am_bd_some, q_app, q_app0, nI_add, pk_sub, pk_mul, q_dec, q_ix, q_m1, q_m1', ↓q_ret, q_bool, q_bool1, q_u2, q_u1, q_shl1, q_shr, q_and7, q_dg, fa_or, fa_and, decide_true, decide_false, Bool.or_false, Bool.or_true, Bool.true_or, Bool.false_or, cond_true, cond_false, ite_not, q_some, q_nn, q_xor, q_xorm, Bool.false_eq_true, decide_eq_true_eq, ne_eq, l_0, l_1, l_3, l_4, l_7, l_8, l_9, l_10, l_12, l_13, l_18, l_31, l_42, l_57, l_65, l_73, l_84, l_92, l_99, l_100, l_109, l_200, l_299, l_300, l_399, w1, L_10, L_100, lN_mul, lN_sub, q_remL, q_remN, q_lDiv, e3]
      simp only [e1, e2]
      simp (disch := first | assumption | omega) only [b_M_whyNot_0, b_M_whyNot_18, b_M_whyNot_31, b_M_whyNot_42, b_M_whyNot_57, b_M_whyNot_65, b_M_whyNot_73, b_M_whyNot_84, b_M_whyNot_92, b_M_whyNot_99, b_M_whyNot_100, s_M_isPerson, s_M_isSpot, s_M_isSpot'', s_M_within, ↓Bool.cond_decide, ↓q_in, q_le, q_lt, q_eq, q_leT, q_leF, q_ltT, q_ltF, q_eqT, q_eqF, ↓reduceIte, not_true_eq_false, not_false_eq_true, true_and, and_true, and_self, false_and, and_false, Nat.zero_le, am_bd_some, q_app, q_app0, nI_add, pk_sub, pk_mul, q_dec, q_ix, q_m1, q_m1', ↓q_ret, q_bool, q_bool1, q_u2, q_u1, q_shl1, q_shr, q_and7, q_dg, fa_or, fa_and, decide_true, decide_false, Bool.or_false, Bool.or_true, Bool.true_or, Bool.false_or, cond_true, cond_false, ite_not, q_some, q_nn, q_xor, q_xorm, Bool.false_eq_true, decide_eq_true_eq, ne_eq, l_0, l_1, l_3, l_4, l_7, l_8, l_9, l_10, l_12, l_13, l_18, l_31, l_42, l_57, l_65, l_73, l_84, l_92, l_99, l_100, l_109, l_200, l_299, l_300, l_399, q1]
      exact MR_some ⟨rfl, hf1⟩
    by_cases n2 : n < 110
    · simp (disch := first | assumption | omega) only [b_M_whyNot_0, b_M_whyNot_18, b_M_whyNot_31, b_M_whyNot_42, b_M_whyNot_57, b_M_whyNot_65, b_M_whyNot_73, b_M_whyNot_84, b_M_whyNot_92, b_M_whyNot_99, b_M_whyNot_100, s_M_isPerson, s_M_isSpot, s_M_isSpot'', s_M_within, ↓Bool.cond_decide, ↓q_in, q_le, q_lt, q_eq, q_leT, q_leF, q_ltT, q_ltF, q_eqT, q_eqF, ↓reduceIte, not_true_eq_false, not_false_eq_true, true_and, and_true, and_self, false_and, and_false, Nat.zero_le, am_bd_some, q_app, q_app0, nI_add, pk_sub, pk_mul, q_dec, q_ix, q_m1, q_m1', ↓q_ret, q_bool, q_bool1, q_u2, q_u1, q_shl1, q_shr, q_and7, q_dg, fa_or, fa_and, decide_true, decide_false, Bool.or_false, Bool.or_true, Bool.true_or, Bool.false_or, cond_true, cond_false, ite_not, q_some, q_nn, q_xor, q_xorm, Bool.false_eq_true, decide_eq_true_eq, ne_eq, l_0, l_1, l_3, l_4, l_7, l_8, l_9, l_10, l_12, l_13, l_18, l_31, l_42, l_57, l_65, l_73, l_84, l_92, l_99, l_100, l_109, l_200, l_299, l_300, l_399, w1, w2]
      exact MR_some ⟨rfl, Fx_refl _ _⟩
    by_cases n3 : n < 200
    · simp (disch := first | assumption | omega) only [b_M_whyNot_0, b_M_whyNot_18, b_M_whyNot_31, b_M_whyNot_42, b_M_whyNot_57, b_M_whyNot_65, b_M_whyNot_73, b_M_whyNot_84, b_M_whyNot_92, b_M_whyNot_99, b_M_whyNot_100, s_M_isPerson, s_M_isSpot, s_M_isSpot'', s_M_within, ↓Bool.cond_decide, ↓q_in, q_le, q_lt, q_eq, q_leT, q_leF, q_ltT, q_ltF, q_eqT, q_eqF, ↓reduceIte, not_true_eq_false, not_false_eq_true, true_and, and_true, and_self, false_and, and_false, Nat.zero_le, am_bd_some, q_app, q_app0, nI_add, pk_sub, pk_mul, q_dec, q_ix, q_m1, q_m1', ↓q_ret, q_bool, q_bool1, q_u2, q_u1, q_shl1, q_shr, q_and7, q_dg, fa_or, fa_and, decide_true, decide_false, Bool.or_false, Bool.or_true, Bool.true_or, Bool.false_or, cond_true, cond_false, ite_not, q_some, q_nn, q_xor, q_xorm, Bool.false_eq_true, decide_eq_true_eq, ne_eq, l_0, l_1, l_3, l_4, l_7, l_8, l_9, l_10, l_12, l_13, l_18, l_31, l_42, l_57, l_65, l_73, l_84, l_92, l_99, l_100, l_109, l_200, l_299, l_300, l_399, w1, w2, w3, w4]
      exact MR_some ⟨rfl, Fx_refl _ _⟩
    by_cases n4 : n < 300
    · have ib := iB_nI (p := n % 100 / 10) (n := g 2) (by omega)
      by_cases hp : n % 100 / 10 < g 2
      · simp (disch := first | assumption | omega) only [b_M_whyNot_0, b_M_whyNot_18, b_M_whyNot_31, b_M_whyNot_42, b_M_whyNot_57, b_M_whyNot_65, b_M_whyNot_73, b_M_whyNot_84, b_M_whyNot_92, b_M_whyNot_99, b_M_whyNot_100, s_M_isPerson, s_M_isSpot, s_M_isSpot'', s_M_within, ↓Bool.cond_decide, ↓q_in, q_le, q_lt, q_eq, q_leT, q_leF, q_ltT, q_ltF, q_eqT, q_eqF, ↓reduceIte, not_true_eq_false, not_false_eq_true, true_and, and_true, and_self, false_and, and_false, Nat.zero_le, am_bd_some, q_app, q_app0, nI_add, pk_sub, pk_mul, q_dec, q_ix, q_m1, q_m1', ↓q_ret, q_bool, q_bool1, q_u2, q_u1, q_shl1, q_shr, q_and7, q_dg, fa_or, fa_and, decide_true, decide_false, Bool.or_false, Bool.or_true, Bool.true_or, Bool.false_or, cond_true, cond_false, ite_not, q_some, q_nn, q_xor, q_xorm, Bool.false_eq_true, decide_eq_true_eq, ne_eq, l_0, l_1, l_3, l_4, l_7, l_8, l_9, l_10, l_12, l_13, l_18, l_31, l_42, l_57, l_65, l_73, l_84, l_92, l_99, l_100, l_109, l_200, l_299, l_300, l_399, w1, w2, w2', w3, w4, L_10, L_100, lN_mul, lN_sub, q_remL, q_remN, q_lDiv]
        simp only [e1]
        simp (disch := first | assumption | omega) only [b_M_whyNot_0, b_M_whyNot_18, b_M_whyNot_31, b_M_whyNot_42, b_M_whyNot_57, b_M_whyNot_65, b_M_whyNot_73, b_M_whyNot_84, b_M_whyNot_92, b_M_whyNot_99, b_M_whyNot_100, s_M_isPerson, s_M_isSpot, s_M_isSpot'', s_M_within, ↓Bool.cond_decide, ↓q_in, q_le, q_lt, q_eq, q_leT, q_leF, q_ltT, q_ltF, q_eqT, q_eqF, ↓reduceIte, not_true_eq_false, not_false_eq_true, true_and, and_true, and_self, false_and, and_false, Nat.zero_le, am_bd_some, q_app, q_app0, nI_add, pk_sub, pk_mul, q_dec, q_ix, q_m1, q_m1', ↓q_ret, q_bool, q_bool1, q_u2, q_u1, q_shl1, q_shr, q_and7, q_dg, fa_or, fa_and, decide_true, decide_false, Bool.or_false, Bool.or_true, Bool.true_or, Bool.false_or, cond_true, cond_false, ite_not, q_some, q_nn, q_xor, q_xorm, Bool.false_eq_true, decide_eq_true_eq, ne_eq, l_0, l_1, l_3, l_4, l_7, l_8, l_9, l_10, l_12, l_13, l_18, l_31, l_42, l_57, l_65, l_73, l_84, l_92, l_99, l_100, l_109, l_200, l_299, l_300, l_399, ib]
        exact MR_some ⟨rfl, Fx_refl _ _⟩
      · simp (disch := first | assumption | omega) only [b_M_whyNot_0, b_M_whyNot_18, b_M_whyNot_31, b_M_whyNot_42, b_M_whyNot_57, b_M_whyNot_65, b_M_whyNot_73, b_M_whyNot_84, b_M_whyNot_92, b_M_whyNot_99, b_M_whyNot_100, s_M_isPerson, s_M_isSpot, s_M_isSpot'', s_M_within, ↓Bool.cond_decide, ↓q_in, q_le, q_lt, q_eq, q_leT, q_leF, q_ltT, q_ltF, q_eqT, q_eqF, ↓reduceIte, not_true_eq_false, not_false_eq_true, true_and, and_true, and_self, false_and, and_false, Nat.zero_le, am_bd_some, q_app, q_app0, nI_add, pk_sub, pk_mul, q_dec, q_ix, q_m1, q_m1', ↓q_ret, q_bool, q_bool1, q_u2, q_u1, q_shl1, q_shr, q_and7, q_dg, fa_or, fa_and, decide_true, decide_false, Bool.or_false, Bool.or_true, Bool.true_or, Bool.false_or, cond_true, cond_false, ite_not, q_some, q_nn, q_xor, q_xorm, Bool.false_eq_true, decide_eq_true_eq, ne_eq, l_0, l_1, l_3, l_4, l_7, l_8, l_9, l_10, l_12, l_13, l_18, l_31, l_42, l_57, l_65, l_73, l_84, l_92, l_99, l_100, l_109, l_200, l_299, l_300, l_399, w1, w2, w2', w3, w4, L_10, L_100, lN_mul, lN_sub, q_remL, q_remN, q_lDiv]
        simp only [e1]
        simp (disch := first | assumption | omega) only [b_M_whyNot_0, b_M_whyNot_18, b_M_whyNot_31, b_M_whyNot_42, b_M_whyNot_57, b_M_whyNot_65, b_M_whyNot_73, b_M_whyNot_84, b_M_whyNot_92, b_M_whyNot_99, b_M_whyNot_100, s_M_isPerson, s_M_isSpot, s_M_isSpot'', s_M_within, ↓Bool.cond_decide, ↓q_in, q_le, q_lt, q_eq, q_leT, q_leF, q_ltT, q_ltF, q_eqT, q_eqF, ↓reduceIte, not_true_eq_false, not_false_eq_true, true_and, and_true, and_self, false_and, and_false, Nat.zero_le, am_bd_some, q_app, q_app0, nI_add, pk_sub, pk_mul, q_dec, q_ix, q_m1, q_m1', ↓q_ret, q_bool, q_bool1, q_u2, q_u1, q_shl1, q_shr, q_and7, q_dg, fa_or, fa_and, decide_true, decide_false, Bool.or_false, Bool.or_true, Bool.true_or, Bool.false_or, cond_true, cond_false, ite_not, q_some, q_nn, q_xor, q_xorm, Bool.false_eq_true, decide_eq_true_eq, ne_eq, l_0, l_1, l_3, l_4, l_7, l_8, l_9, l_10, l_12, l_13, l_18, l_31, l_42, l_57, l_65, l_73, l_84, l_92, l_99, l_100, l_109, l_200, l_299, l_300, l_399, ib]
        exact MR_some ⟨rfl, Fx_refl _ _⟩
    · by_cases hp : 1 ≤ n % 100 / 10 ∧ n % 100 / 10 ≤ g 1
      · have hs : sSpot g (n % 100 / 10) = true := by unfold sSpot; exact decide_eq_true hp
        simp (disch := first | assumption | omega) only [b_M_whyNot_0, b_M_whyNot_18, b_M_whyNot_31, b_M_whyNot_42, b_M_whyNot_57, b_M_whyNot_65, b_M_whyNot_73, b_M_whyNot_84, b_M_whyNot_92, b_M_whyNot_99, b_M_whyNot_100, s_M_isPerson, s_M_isSpot, s_M_isSpot'', s_M_within, ↓Bool.cond_decide, ↓q_in, q_le, q_lt, q_eq, q_leT, q_leF, q_ltT, q_ltF, q_eqT, q_eqF, ↓reduceIte, not_true_eq_false, not_false_eq_true, true_and, and_true, and_self, false_and, and_false, Nat.zero_le, am_bd_some, q_app, q_app0, nI_add, pk_sub, pk_mul, q_dec, q_ix, q_m1, q_m1', ↓q_ret, q_bool, q_bool1, q_u2, q_u1, q_shl1, q_shr, q_and7, q_dg, fa_or, fa_and, decide_true, decide_false, Bool.or_false, Bool.or_true, Bool.true_or, Bool.false_or, cond_true, cond_false, ite_not, q_some, q_nn, q_xor, q_xorm, Bool.false_eq_true, decide_eq_true_eq, ne_eq, l_0, l_1, l_3, l_4, l_7, l_8, l_9, l_10, l_12, l_13, l_18, l_31, l_42, l_57, l_65, l_73, l_84, l_92, l_99, l_100, l_109, l_200, l_299, l_300, l_399, w1, w2, w2', w3, w4, L_10, L_100, lN_mul, lN_sub, q_remL, q_remN, q_lDiv]
        simp only [e1]
        simp (disch := first | assumption | omega) only [b_M_whyNot_0, b_M_whyNot_18, b_M_whyNot_31, b_M_whyNot_42, b_M_whyNot_57, b_M_whyNot_65, b_M_whyNot_73, b_M_whyNot_84, b_M_whyNot_92, b_M_whyNot_99, b_M_whyNot_100, s_M_isPerson, s_M_isSpot, s_M_isSpot'', s_M_within, ↓Bool.cond_decide, ↓q_in, q_le, q_lt, q_eq, q_leT, q_leF, q_ltT, q_ltF, q_eqT, q_eqF, ↓reduceIte, not_true_eq_false, not_false_eq_true, true_and, and_true, and_self, false_and, and_false, Nat.zero_le, am_bd_some, q_app, q_app0, nI_add, pk_sub, pk_mul, q_dec, q_ix, q_m1, q_m1', ↓q_ret, q_bool, q_bool1, q_u2, q_u1, q_shl1, q_shr, q_and7, q_dg, fa_or, fa_and, decide_true, decide_false, Bool.or_false, Bool.or_true, Bool.true_or, Bool.false_or, cond_true, cond_false, ite_not, q_some, q_nn, q_xor, q_xorm, Bool.false_eq_true, decide_eq_true_eq, ne_eq, l_0, l_1, l_3, l_4, l_7, l_8, l_9, l_10, l_12, l_13, l_18, l_31, l_42, l_57, l_65, l_73, l_84, l_92, l_99, l_100, l_109, l_200, l_299, l_300, l_399, iS_nI, hs]
        exact MR_some ⟨rfl, Fx_refl _ _⟩
      · have hs : sSpot g (n % 100 / 10) = false := by unfold sSpot; exact decide_eq_false hp
        simp (disch := first | assumption | omega) only [b_M_whyNot_0, b_M_whyNot_18, b_M_whyNot_31, b_M_whyNot_42, b_M_whyNot_57, b_M_whyNot_65, b_M_whyNot_73, b_M_whyNot_84, b_M_whyNot_92, b_M_whyNot_99, b_M_whyNot_100, s_M_isPerson, s_M_isSpot, s_M_isSpot'', s_M_within, ↓Bool.cond_decide, ↓q_in, q_le, q_lt, q_eq, q_leT, q_leF, q_ltT, q_ltF, q_eqT, q_eqF, ↓reduceIte, not_true_eq_false, not_false_eq_true, true_and, and_true, and_self, false_and, and_false, Nat.zero_le, am_bd_some, q_app, q_app0, nI_add, pk_sub, pk_mul, q_dec, q_ix, q_m1, q_m1', ↓q_ret, q_bool, q_bool1, q_u2, q_u1, q_shl1, q_shr, q_and7, q_dg, fa_or, fa_and, decide_true, decide_false, Bool.or_false, Bool.or_true, Bool.true_or, Bool.false_or, cond_true, cond_false, ite_not, q_some, q_nn, q_xor, q_xorm, Bool.false_eq_true, decide_eq_true_eq, ne_eq, l_0, l_1, l_3, l_4, l_7, l_8, l_9, l_10, l_12, l_13, l_18, l_31, l_42, l_57, l_65, l_73, l_84, l_92, l_99, l_100, l_109, l_200, l_299, l_300, l_399, w1, w2, w2', w3, w4, L_10, L_100, lN_mul, lN_sub, q_remL, q_remN, q_lDiv]
        simp only [e1]
        simp (disch := first | assumption | omega) only [b_M_whyNot_0, b_M_whyNot_18, b_M_whyNot_31, b_M_whyNot_42, b_M_whyNot_57, b_M_whyNot_65, b_M_whyNot_73, b_M_whyNot_84, b_M_whyNot_92, b_M_whyNot_99, b_M_whyNot_100, s_M_isPerson, s_M_isSpot, s_M_isSpot'', s_M_within, ↓Bool.cond_decide, ↓q_in, q_le, q_lt, q_eq, q_leT, q_leF, q_ltT, q_ltF, q_eqT, q_eqF, ↓reduceIte, not_true_eq_false, not_false_eq_true, true_and, and_true, and_self, false_and, and_false, Nat.zero_le, am_bd_some, q_app, q_app0, nI_add, pk_sub, pk_mul, q_dec, q_ix, q_m1, q_m1', ↓q_ret, q_bool, q_bool1, q_u2, q_u1, q_shl1, q_shr, q_and7, q_dg, fa_or, fa_and, decide_true, decide_false, Bool.or_false, Bool.or_true, Bool.true_or, Bool.false_or, cond_true, cond_false, ite_not, q_some, q_nn, q_xor, q_xorm, Bool.false_eq_true, decide_eq_true_eq, ne_eq, l_0, l_1, l_3, l_4, l_7, l_8, l_9, l_10, l_12, l_13, l_18, l_31, l_42, l_57, l_65, l_73, l_84, l_92, l_99, l_100, l_109, l_200, l_299, l_300, l_399, iS_nI, hs, hp]
        exact MR_some ⟨rfl, Fx_refl _ _⟩
  · have e0 : lWhy g v = 1 := by unfold lWhy; exact if_neg hv
    have w1 : ((0 : Int64) ≤ v ∧ v ≤ 99) = False := eq_false (by rw [k_w64 v 0 99 _ _ rfl rfl]; omega)
    have w2 : ((100 : Int64) ≤ v ∧ v ≤ 109) = False := eq_false (by rw [k_w64 v 100 109 _ _ rfl rfl]; omega)
    have w3 : ((200 : Int64) ≤ v ∧ v ≤ 299) = False := eq_false (by rw [k_w64 v 200 299 _ _ rfl rfl]; omega)
    have w4 : ((300 : Int64) ≤ v ∧ v ≤ 399) = False := eq_false (by rw [k_w64 v 300 399 _ _ rfl rfl]; omega)
    simp (disch := first | assumption | omega) only [b_M_whyNot_0, b_M_whyNot_18, b_M_whyNot_31, b_M_whyNot_42, b_M_whyNot_57, b_M_whyNot_65, b_M_whyNot_73, b_M_whyNot_84, b_M_whyNot_92, b_M_whyNot_99, b_M_whyNot_100, s_M_isPerson, s_M_isSpot, s_M_isSpot'', s_M_within, ↓Bool.cond_decide, ↓q_in, q_le, q_lt, q_eq, q_leT, q_leF, q_ltT, q_ltF, q_eqT, q_eqF, ↓reduceIte, not_true_eq_false, not_false_eq_true, true_and, and_true, and_self, false_and, and_false, Nat.zero_le, am_bd_some, q_app, q_app0, nI_add, pk_sub, pk_mul, q_dec, q_ix, q_m1, q_m1', ↓q_ret, q_bool, q_bool1, q_u2, q_u1, q_shl1, q_shr, q_and7, q_dg, fa_or, fa_and, decide_true, decide_false, Bool.or_false, Bool.or_true, Bool.true_or, Bool.false_or, cond_true, cond_false, ite_not, q_some, q_nn, q_xor, q_xorm, Bool.false_eq_true, decide_eq_true_eq, ne_eq, l_0, l_1, l_3, l_4, l_7, l_8, l_9, l_10, l_12, l_13, l_18, l_31, l_42, l_57, l_65, l_73, l_84, l_92, l_99, l_100, l_109, l_200, l_299, l_300, l_399, w1, w2, w3, w4, e0]
    exact MR_some ⟨rfl, Fx_refl _ _⟩
theorem r_M_does (d : Nat) {n : Nat} (hn : n < 400) (hA : MA i g) (hW : WG g) : MR none (fun i' l' => l' = l ∧ Fx [1, 5, 6, 120] i i' ∧ MA i' (dDo g n)) (am_cl (d + 7) mM_does [.ref 0, .int (nI n)] (i, l, rM, kM)) := by
  obtain ⟨⟨h1', h1⟩, h2, h3, hR, hF, hP, hSt, hD, hL0, hL1, hV⟩ := hW
  have hn4 := sNow_lt g hP 4 (by decide)
  have hA' : ∀ k, k < 3222 → i 1 k = nI (g k) := hA
  rw [c_M_does, b_M_does_0]
  unfold dDo
  by_cases n1 : n < 100
  · have e3 : n % 100 / 10 = n / 10 := by omega
    simp (disch := first | assumption | omega) only [b_M_does_0, b_M_does_43, b_M_does_50, b_M_does_53, b_M_does_94, s_M_standNow, ↓Bool.cond_decide, ↓q_in, q_le, q_lt, q_eq, q_leT, q_leF, q_ltT, q_ltF, q_eqT, q_eqF, ↓reduceIte, not_true_eq_false, not_false_eq_true, true_and, and_true, and_self, false_and, and_false, Nat.zero_le, am_bd_some, q_app, q_app0, nI_add, pk_sub, pk_mul, q_dec, q_ix, q_m1, q_m1', ↓q_ret, q_bool, q_bool1, q_u2, q_u1, q_shl1, q_shr, q_and7, q_dg, fa_or, fa_and, decide_true, decide_false, Bool.or_false, Bool.or_true, Bool.true_or, Bool.false_or, cond_true, cond_false, ite_not, q_some, q_nn, q_xor, q_xorm, Bool.false_eq_true, decide_eq_true_eq, ne_eq, l_0, l_1, l_3, l_4, l_6, l_10, l_18, l_22, l_26, l_43, l_50, l_53, l_55, l_94, l_100, l_200, l_300, l_3222, pk_div, q_remL, q_remN, e3]
    exact MR_some ⟨rfl, by (repeat (first | exact Fx_refl _ _ | assumption | refine Fx_u2 rfl ?_ | refine Fx_u1 rfl (by decide) ?_ | refine Fx_step (by assumption) rfl ?_ | refine Fx_stepr (by assumption) rfl rfl ?_)), MA_u2 hA⟩
  by_cases n2 : n < 200
  · simp (disch := first | assumption | omega) only [b_M_does_0, b_M_does_43, b_M_does_50, b_M_does_53, b_M_does_94, s_M_standNow, ↓Bool.cond_decide, ↓q_in, q_le, q_lt, q_eq, q_leT, q_leF, q_ltT, q_ltF, q_eqT, q_eqF, ↓reduceIte, not_true_eq_false, not_false_eq_true, true_and, and_true, and_self, false_and, and_false, Nat.zero_le, am_bd_some, q_app, q_app0, nI_add, pk_sub, pk_mul, q_dec, q_ix, q_m1, q_m1', ↓q_ret, q_bool, q_bool1, q_u2, q_u1, q_shl1, q_shr, q_and7, q_dg, fa_or, fa_and, decide_true, decide_false, Bool.or_false, Bool.or_true, Bool.true_or, Bool.false_or, cond_true, cond_false, ite_not, q_some, q_nn, q_xor, q_xorm, Bool.false_eq_true, decide_eq_true_eq, ne_eq, l_0, l_1, l_3, l_4, l_6, l_10, l_18, l_22, l_26, l_43, l_50, l_53, l_55, l_94, l_100, l_200, l_300, l_3222, pk_div, q_remL, q_remN]
    refine MR_bd (r_M_floodedTo d (w := n - 100) hn4 (by omega) hA h1 h2 hSt hL0) ?_
    intro i4 l4 ⟨hl4, hf4, _⟩
    subst hl4
    have hM4 : MA i4 g := MA_fx hf4 hA rfl
    simp (disch := first | assumption | omega) only [b_M_does_0, b_M_does_43, b_M_does_50, b_M_does_53, b_M_does_94, s_M_standNow, ↓Bool.cond_decide, ↓q_in, q_le, q_lt, q_eq, q_leT, q_leF, q_ltT, q_ltF, q_eqT, q_eqF, ↓reduceIte, not_true_eq_false, not_false_eq_true, true_and, and_true, and_self, false_and, and_false, Nat.zero_le, am_bd_some, q_app, q_app0, nI_add, pk_sub, pk_mul, q_dec, q_ix, q_m1, q_m1', ↓q_ret, q_bool, q_bool1, q_u2, q_u1, q_shl1, q_shr, q_and7, q_dg, fa_or, fa_and, decide_true, decide_false, Bool.or_false, Bool.or_true, Bool.true_or, Bool.false_or, cond_true, cond_false, ite_not, q_some, q_nn, q_xor, q_xorm, Bool.false_eq_true, decide_eq_true_eq, ne_eq, l_0, l_1, l_3, l_4, l_6, l_10, l_18, l_22, l_26, l_43, l_50, l_53, l_55, l_94, l_100, l_200, l_300, l_3222]
    refine MR_bd (r_M_isStand (d + 4) (sFl_lt h2 hn4) hM4) ?_
    intro i5 l5 ⟨hl5, hf5, hM5⟩
    subst hl5
    simp (disch := first | assumption | omega) only [b_M_does_0, b_M_does_43, b_M_does_50, b_M_does_53, b_M_does_94, s_M_standNow, ↓Bool.cond_decide, ↓q_in, q_le, q_lt, q_eq, q_leT, q_leF, q_ltT, q_ltF, q_eqT, q_eqF, ↓reduceIte, not_true_eq_false, not_false_eq_true, true_and, and_true, and_self, false_and, and_false, Nat.zero_le, am_bd_some, q_app, q_app0, nI_add, pk_sub, pk_mul, q_dec, q_ix, q_m1, q_m1', ↓q_ret, q_bool, q_bool1, q_u2, q_u1, q_shl1, q_shr, q_and7, q_dg, fa_or, fa_and, decide_true, decide_false, Bool.or_false, Bool.or_true, Bool.true_or, Bool.false_or, cond_true, cond_false, ite_not, q_some, q_nn, q_xor, q_xorm, Bool.false_eq_true, decide_eq_true_eq, ne_eq, l_0, l_1, l_3, l_4, l_6, l_10, l_18, l_22, l_26, l_43, l_50, l_53, l_55, l_94, l_100, l_200, l_300, l_3222]
    exact MR_some ⟨rfl, by (repeat (first | exact Fx_refl _ _ | assumption | refine Fx_u2 rfl ?_ | refine Fx_u1 rfl (by decide) ?_ | refine Fx_step (by assumption) rfl ?_ | refine Fx_stepr (by assumption) rfl rfl ?_)), hM5⟩
  by_cases n3 : n < 300
  · simp (disch := first | assumption | omega) only [b_M_does_0, b_M_does_43, b_M_does_50, b_M_does_53, b_M_does_94, s_M_standNow, ↓Bool.cond_decide, ↓q_in, q_le, q_lt, q_eq, q_leT, q_leF, q_ltT, q_ltF, q_eqT, q_eqF, ↓reduceIte, not_true_eq_false, not_false_eq_true, true_and, and_true, and_self, false_and, and_false, Nat.zero_le, am_bd_some, q_app, q_app0, nI_add, pk_sub, pk_mul, q_dec, q_ix, q_m1, q_m1', ↓q_ret, q_bool, q_bool1, q_u2, q_u1, q_shl1, q_shr, q_and7, q_dg, fa_or, fa_and, decide_true, decide_false, Bool.or_false, Bool.or_true, Bool.true_or, Bool.false_or, cond_true, cond_false, ite_not, q_some, q_nn, q_xor, q_xorm, Bool.false_eq_true, decide_eq_true_eq, ne_eq, l_0, l_1, l_3, l_4, l_6, l_10, l_18, l_22, l_26, l_43, l_50, l_53, l_55, l_94, l_100, l_200, l_300, l_3222, pk_div, q_remL, q_remN]
    exact MR_some ⟨rfl, by (repeat (first | exact Fx_refl _ _ | assumption | refine Fx_u2 rfl ?_ | refine Fx_u1 rfl (by decide) ?_ | refine Fx_step (by assumption) rfl ?_ | refine Fx_stepr (by assumption) rfl rfl ?_)), MA_u2 hA⟩
  · have e26 : 26 + n % 100 / 10 - 1 = 25 + n % 100 / 10 := by omega
    simp (disch := first | assumption | omega) only [b_M_does_0, b_M_does_43, b_M_does_50, b_M_does_53, b_M_does_94, s_M_standNow, ↓Bool.cond_decide, ↓q_in, q_le, q_lt, q_eq, q_leT, q_leF, q_ltT, q_ltF, q_eqT, q_eqF, ↓reduceIte, not_true_eq_false, not_false_eq_true, true_and, and_true, and_self, false_and, and_false, Nat.zero_le, am_bd_some, q_app, q_app0, nI_add, pk_sub, pk_mul, q_dec, q_ix, q_m1, q_m1', ↓q_ret, q_bool, q_bool1, q_u2, q_u1, q_shl1, q_shr, q_and7, q_dg, fa_or, fa_and, decide_true, decide_false, Bool.or_false, Bool.or_true, Bool.true_or, Bool.false_or, cond_true, cond_false, ite_not, q_some, q_nn, q_xor, q_xorm, Bool.false_eq_true, decide_eq_true_eq, ne_eq, l_0, l_1, l_3, l_4, l_6, l_10, l_18, l_22, l_26, l_43, l_50, l_53, l_55, l_94, l_100, l_200, l_300, l_3222, pk_div, q_remL, q_remN, e26]
    exact MR_some ⟨rfl, by (repeat (first | exact Fx_refl _ _ | assumption | refine Fx_u2 rfl ?_ | refine Fx_u1 rfl (by decide) ?_ | refine Fx_step (by assumption) rfl ?_ | refine Fx_stepr (by assumption) rfl rfl ?_)), MA_u2 hA⟩
end
def vNo (σ : St) (x : Int32) : Int32 := if iB x 4 = true then (if σ.2.2.2.2.2.2.1 x.toNatClampNeg = -nI 1 then -nI 6 else nI 0) else -nI 2
/-- the deeds of a tray -/
def tlS (σ : St) (g : Nat → Nat) (t : Nat) : Nat × Nat × (Nat → Nat) := tl (fun k => σ.2.2.2.2.2.2.2.2 (40 * t + k)) (σ.2.2.2.2.2.2.2.1 t) 0 g
def v_judge (σ : St) (x y : Int32) : Int32 := if iR 0 3 y = true then (if vNo σ x = nI 0 then (if y = nI 0 then (if (tlS σ σ.1 x.toNatClampNeg).2.1 = 0 then -nI 1 else nI (tlS σ σ.1 x.toNatClampNeg).1) else if y = nI 1 then nI (tlS σ σ.1 x.toNatClampNeg).2.1 else if y = nI 2 then nI (sUp σ.1 (sNow (tlS σ σ.1 x.toNatClampNeg).2.2 4)) else nI (sOver σ.1 (sNow (tlS σ σ.1 x.toNatClampNeg).2.2 4))) else vNo σ x) else -nI 2
def v_perform (σ : St) (x : Int32) : Int32 := if vNo σ x = nI 0 then nI (tlS σ σ.1 x.toNatClampNeg).1 else vNo σ x
def a_perform (σ : St) (x : Int32) : St := if vNo σ x = nI 0 ∧ 0 < (tlS σ σ.1 x.toNatClampNeg).1 then (gNote (tlS σ σ.1 x.toNatClampNeg).2.2 (gCur σ.1), σ.2) else σ
def v_season (g : Nat → Nat) (x y : Int32) : Int32 := if iR 1 40 y = true then nI (ssn y.toNatClampNeg x g 0).1 else -nI 3
def a_season (σ : St) (x y : Int32) : St := if iR 1 40 y = true ∧ 0 < (ssn y.toNatClampNeg x σ.1 0).1 then (gNote (ssn y.toNatClampNeg x σ.1 0).2 (gCur σ.1), σ.2) else σ
/-- trays -/
def WT (σ : St) : Prop := ∀ t, t < 4 → σ.2.2.2.2.2.2.2.1 t ≤ 40 ∧ (σ.2.2.2.2.2.2.1 t = -nI 1 ∨ ∃ s, s < 4 ∧ σ.2.2.2.2.2.2.1 t = nI s)
theorem vNo_0 {σ : St} {x : Int32} (h : vNo σ x = nI 0) : iB x 4 = true ∧ σ.2.2.2.2.2.2.1 x.toNatClampNeg ≠ -nI 1 := by
  unfold vNo at h
  by_cases h1 : iB x 4 = true
  · rw [if_pos h1] at h
    refine ⟨h1, fun z => ?_⟩
    rw [if_pos z] at h
    exact absurd h (by decide)
  · rw [if_neg h1] at h
    exact absurd h (by decide)
section
variable {i : Nat → Nat → Int32} {l : Nat → Nat → Int64} {g : Nat → Nat}
theorem s_M_noTray (d : Nat) (x : Int32) {σ : St} (h22 : ∀ t, t < 4 → i 22 t = σ.2.2.2.2.2.2.1 t) : am_cl (d + 2) mM_noTray [.ref 0, .int x] (i, l, rM, kM) = some (some (.int (vNo σ x)), (i, l, rM, kM)) := by
  have e := iR_e 0 3 (lo := 0) (hi := 3) rfl rfl x
  have e2 : iR 0 3 x = iB x 4 := by
    unfold iR iB
    congr 1
    exact propext ⟨fun h => ⟨by omega, by omega⟩, fun h => ⟨by omega, by omega⟩⟩
  rw [c_M_noTray, b_M_noTray_0, vNo]
  by_cases h : iB x 4 = true
  · have h' := h
    obtain ⟨t, ht, rfl⟩ := iB_T h'
    have h2 := h22 t ht
    by_cases hs : σ.2.2.2.2.2.2.1 t = -nI 1
    · simp (disch := first | assumption | omega) only [b_M_noTray_0, b_M_noTray_9, b_M_noTray_33, s_M_within, ↓Bool.cond_decide, ↓q_in, q_le, q_lt, q_eq, q_leT, q_leF, q_ltT, q_ltF, q_eqT, q_eqF, ↓reduceIte, not_true_eq_false, not_false_eq_true, true_and, and_true, and_self, false_and, and_false, Nat.zero_le, am_bd_some, q_app, q_app0, nI_add, pk_sub, pk_mul, q_dec, q_ix, q_m1, q_m1', ↓q_ret, q_bool, q_bool1, q_u2, q_u1, q_shl1, q_shr, q_and7, q_dg, fa_or, fa_and, decide_true, decide_false, Bool.or_false, Bool.or_true, Bool.true_or, Bool.false_or, cond_true, cond_false, ite_not, q_some, q_nn, q_xor, q_xorm, Bool.false_eq_true, decide_eq_true_eq, ne_eq, l_0, l_1, l_2, l_3, l_4, l_6, l_7, l_9, l_17, l_22, l_33, e, e2, h, h2, hs]
    · simp (disch := first | assumption | omega) only [b_M_noTray_0, b_M_noTray_9, b_M_noTray_33, s_M_within, ↓Bool.cond_decide, ↓q_in, q_le, q_lt, q_eq, q_leT, q_leF, q_ltT, q_ltF, q_eqT, q_eqF, ↓reduceIte, not_true_eq_false, not_false_eq_true, true_and, and_true, and_self, false_and, and_false, Nat.zero_le, am_bd_some, q_app, q_app0, nI_add, pk_sub, pk_mul, q_dec, q_ix, q_m1, q_m1', ↓q_ret, q_bool, q_bool1, q_u2, q_u1, q_shl1, q_shr, q_and7, q_dg, fa_or, fa_and, decide_true, decide_false, Bool.or_false, Bool.or_true, Bool.true_or, Bool.false_or, cond_true, cond_false, ite_not, q_some, q_nn, q_xor, q_xorm, Bool.false_eq_true, decide_eq_true_eq, ne_eq, l_0, l_1, l_2, l_3, l_4, l_6, l_7, l_9, l_17, l_22, l_33, e, e2, h, h2, hs]
  · simp (disch := first | assumption | omega) only [b_M_noTray_0, b_M_noTray_9, b_M_noTray_33, s_M_within, ↓Bool.cond_decide, ↓q_in, q_le, q_lt, q_eq, q_leT, q_leF, q_ltT, q_ltF, q_eqT, q_eqF, ↓reduceIte, not_true_eq_false, not_false_eq_true, true_and, and_true, and_self, false_and, and_false, Nat.zero_le, am_bd_some, q_app, q_app0, nI_add, pk_sub, pk_mul, q_dec, q_ix, q_m1, q_m1', ↓q_ret, q_bool, q_bool1, q_u2, q_u1, q_shl1, q_shr, q_and7, q_dg, fa_or, fa_and, decide_true, decide_false, Bool.or_false, Bool.or_true, Bool.true_or, Bool.false_or, cond_true, cond_false, ite_not, q_some, q_nn, q_xor, q_xorm, Bool.false_eq_true, decide_eq_true_eq, ne_eq, l_0, l_1, l_2, l_3, l_4, l_6, l_7, l_9, l_17, l_22, l_33, e, e2, h]
theorem r_M_tells (d : Nat) {t n : Nat} {f : Nat → Int64} (ht : t < 4) (hn : n ≤ 40) (h23 : i 23 t = nI n) (hf : ∀ k, k < 40 → l 24 (40 * t + k) = f k) (hA : MA i g) (hW : WG g) : MR (some (.int (nI (tl f n 0 g).1))) (fun i' l' => l' = l ∧ Fx [1, 5, 6, 7, 8, 120, 122] i i' ∧ MA i' (tl f n 0 g).2.2 ∧ i' 0 22 = nI (tl f n 0 g).2.1) (am_cl (d + 9) mM_tells [.ref 0, .int (nI t)] (i, l, rM, kM)) := by
  have key : ∀ m k g1 i1, k + m = n → Fx [1, 5, 6, 7, 8, 120, 122] i i1 → MA i1 g1 → WG g1 → i1 0 22 = nI 0 → MR (some (.int (nI (tl f m k g1).1))) (fun i' l' => l' = l ∧ Fx [1, 5, 6, 7, 8, 120, 122] i i' ∧ MA i' (tl f m k g1).2.2 ∧ i' 0 22 = nI (tl f m k g1).2.1) (am_Ex (d + 8) mM_tells 7 [.val (.ref 0), .val (.int (nI t)), .val (.int (nI k))] [] (i1, l, rM, kM)) := by
    intro m
    induction m with
    | zero =>
      intro k g1 i1 hk hf1 hA1 hW1 h0
      have h23' : i1 23 t = nI n := by rw [Fx_row hf1 (by decide) rfl]; exact h23
      have e : k = n := by omega
      subst e
      rw [b_M_tells_7]
      simp (disch := first | assumption | omega) only [b_M_tells_0, b_M_tells_33, ↓Bool.cond_decide, ↓q_in, q_le, q_lt, q_eq, q_leT, q_leF, q_ltT, q_ltF, q_eqT, q_eqF, ↓reduceIte, not_true_eq_false, not_false_eq_true, true_and, and_true, and_self, false_and, and_false, Nat.zero_le, am_bd_some, q_app, q_app0, nI_add, pk_sub, pk_mul, q_dec, q_ix, q_m1, q_m1', ↓q_ret, q_bool, q_bool1, q_u2, q_u1, q_shl1, q_shr, q_and7, q_dg, fa_or, fa_and, decide_true, decide_false, Bool.or_false, Bool.or_true, Bool.true_or, Bool.false_or, cond_true, cond_false, ite_not, q_some, q_nn, q_xor, q_xorm, Bool.false_eq_true, decide_eq_true_eq, ne_eq, l_0, l_1, l_4, l_5, l_7, l_8, l_19, l_22, l_23, l_24, l_33, l_40, l_61, l_160, h23']
      exact MR_some ⟨rfl, hf1, hA1, h0⟩
    | succ m ih =>
      intro k g1 i1 hk hf1 hA1 hW1 h0
      have h23' : i1 23 t = nI n := by rw [Fx_row hf1 (by decide) rfl]; exact h23
      have hl := hf k (by omega)
      rw [b_M_tells_7]
      obtain ⟨i2, l2, e2, hl2, hf2⟩ := r_M_whyNot d (l := l) (f k) hA1 hW1
      subst hl2
      have hA2 : MA i2 g1 := MA_fx hf2 hA1 rfl
      have hwl : lWhy g1 (f k) ≤ 3 := by
        have := (tl_ok (f := f) 1 k g1 hW1).2.2.1
        rw [tl] at this
        by_cases h : lWhy g1 (f k) = 0
        · omega
        · rw [if_neg h] at this; exact this
      rw [tl]
      by_cases hw : lWhy g1 (f k) = 0
      · rw [if_pos hw]
        obtain ⟨v, hv, ev, hd⟩ := lWhy_0 hw
        have e : (f k).toInt.toNat = v := by rw [ev, pk_lT (by omega), Int.toNat_natCast]
        have eI : Int64.toInt32 (f k) = nI v := by rw [ev]; exact lN_i v
        rw [e]
        simp (disch := first | assumption | omega) only [b_M_tells_0, b_M_tells_33, ↓Bool.cond_decide, ↓q_in, q_le, q_lt, q_eq, q_leT, q_leF, q_ltT, q_ltF, q_eqT, q_eqF, ↓reduceIte, not_true_eq_false, not_false_eq_true, true_and, and_true, and_self, false_and, and_false, Nat.zero_le, am_bd_some, q_app, q_app0, nI_add, pk_sub, pk_mul, q_dec, q_ix, q_m1, q_m1', ↓q_ret, q_bool, q_bool1, q_u1, q_shl1, q_shr, q_and7, q_dg, fa_or, fa_and, decide_true, decide_false, Bool.or_false, Bool.or_true, Bool.true_or, Bool.false_or, cond_true, cond_false, ite_not, q_some, q_nn, q_xor, q_xorm, Bool.false_eq_true, decide_eq_true_eq, ne_eq, l_0, l_1, l_4, l_5, l_7, l_8, l_19, l_22, l_23, l_24, l_33, l_40, l_61, l_160, h23', hl, e2, hw, eI]
        have hf3 : Fx [1, 5, 6, 7, 8, 120, 122] i (am_u2 i2 0 22 (nI 0)) := by (repeat (first | exact Fx_refl _ _ | assumption | refine Fx_u2 rfl ?_ | refine Fx_u1 rfl (by decide) ?_ | refine Fx_step (by assumption) rfl ?_ | refine Fx_stepr (by assumption) rfl rfl ?_))
        have hA3 : MA (am_u2 i2 0 22 (nI 0)) g1 := hA2
        refine MR_bd (r_M_does (d + 1) hv hA3 hW1) ?_
        intro i4 l4 ⟨hl4, hf4, hA4⟩
        subst hl4
        rw [q_app0, b_M_tells_61, l_1, nI_add]
        refine ih (k + 1) _ i4 (by omega) (by (repeat (first | exact Fx_refl _ _ | assumption | refine Fx_u2 rfl ?_ | refine Fx_u1 rfl (by decide) ?_ | refine Fx_step (by assumption) rfl ?_ | refine Fx_stepr (by assumption) rfl rfl ?_))) hA4 (WG_do hW1 hd) ?_
        rw [hf4 0 22 rfl]
        rfl
      · rw [if_neg hw]
        simp (disch := first | assumption | omega) only [b_M_tells_0, b_M_tells_33, ↓Bool.cond_decide, ↓q_in, q_le, q_lt, q_eq, q_leT, q_leF, q_ltT, q_ltF, q_eqT, q_eqF, ↓reduceIte, not_true_eq_false, not_false_eq_true, true_and, and_true, and_self, false_and, and_false, Nat.zero_le, am_bd_some, q_app, q_app0, nI_add, pk_sub, pk_mul, q_dec, q_ix, q_m1, q_m1', ↓q_ret, q_bool, q_bool1, q_u1, q_shl1, q_shr, q_and7, q_dg, fa_or, fa_and, decide_true, decide_false, Bool.or_false, Bool.or_true, Bool.true_or, Bool.false_or, cond_true, cond_false, ite_not, q_some, q_nn, q_xor, q_xorm, Bool.false_eq_true, decide_eq_true_eq, ne_eq, l_0, l_1, l_4, l_5, l_7, l_8, l_19, l_22, l_23, l_24, l_33, l_40, l_61, l_160, h23', hl, e2]
        exact MR_some ⟨rfl, by (repeat (first | exact Fx_refl _ _ | assumption | refine Fx_u2 rfl ?_ | refine Fx_u1 rfl (by decide) ?_ | refine Fx_step (by assumption) rfl ?_ | refine Fx_stepr (by assumption) rfl rfl ?_)), hA2, rfl⟩
  rw [c_M_tells, b_M_tells_0]
  exact key n 0 g _ (by omega) (by (repeat (first | exact Fx_refl _ _ | assumption | refine Fx_u2 rfl ?_ | refine Fx_u1 rfl (by decide) ?_ | refine Fx_step (by assumption) rfl ?_ | refine Fx_stepr (by assumption) rfl rfl ?_))) hA hW rfl
end
