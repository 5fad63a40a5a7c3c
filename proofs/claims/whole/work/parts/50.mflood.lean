/-! STANDS with a digit set; FLOODS -/
def wp (a p x : Nat) : Nat := a - dg a p * 2 ^ (3 * p) + x * 2 ^ (3 * p)
theorem c4 {p : Nat} (h : p < 4) : p = 0 ∨ p = 1 ∨ p = 2 ∨ p = 3 := by omega
theorem dg_0 (a : Nat) : dg a 0 = a % 8 := by unfold dg; simp
theorem dg_1 (a : Nat) : dg a 1 = a / 8 % 8 := by unfold dg; simp
theorem dg_2 (a : Nat) : dg a 2 = a / 64 % 8 := by unfold dg; simp
theorem dg_3 (a : Nat) : dg a 3 = a / 512 % 8 := by unfold dg; simp
theorem wp_0 (a x : Nat) : wp a 0 x = a - a % 8 + x := by unfold wp; rw [dg_0]; simp
theorem wp_1 (a x : Nat) : wp a 1 x = a - a / 8 % 8 * 8 + x * 8 := by unfold wp; rw [dg_1]
theorem wp_2 (a x : Nat) : wp a 2 x = a - a / 64 % 8 * 64 + x * 64 := by unfold wp; rw [dg_2]
theorem wp_3 (a x : Nat) : wp a 3 x = a - a / 512 % 8 * 512 + x * 512 := by unfold wp; rw [dg_3]
theorem wp_lt {a p x : Nat} (ha : a < 4096) (hp : p < 4) (hx : x < 8) : wp a p x < 4096 := by
  rcases c4 hp with h | h | h | h <;> subst h
  · rw [wp_0]; omega
  · rw [wp_1]; omega
  · rw [wp_2]; omega
  · rw [wp_3]; omega
theorem dg_wp {a p x : Nat} (ha : a < 4096) (hp : p < 4) (hx : x < 8) : dg (wp a p x) p = x := by
  rcases c4 hp with h | h | h | h <;> subst h
  · rw [wp_0, dg_0]; omega
  · rw [wp_1, dg_1]; omega
  · rw [wp_2, dg_2]; omega
  · rw [wp_3, dg_3]; omega
theorem dg_wn {a p q x : Nat} (ha : a < 4096) (hp : p < 4) (hq : q < 4) (hx : x < 8) (h : q ≠ p) : dg (wp a p x) q = dg a q := by
  rcases c4 hp with e | e | e | e <;> subst e <;> rcases c4 hq with e | e | e | e <;> subst e <;> (try exact absurd rfl h)
  all_goals
    simp only [wp_0, wp_1, wp_2, wp_3, dg_0, dg_1, dg_2, dg_3]
    omega
theorem dg_ext {a b : Nat} (ha : a < 4096) (hb : b < 4096) (h : ∀ p, p < 4 → dg a p = dg b p) : a = b := by
  have h0 := h 0 (by decide)
  have h1 := h 1 (by decide)
  have h2 := h 2 (by decide)
  have h3 := h 3 (by decide)
  simp only [dg_0, dg_1, dg_2, dg_3] at h0 h1 h2 h3
  omega
theorem k_clr : ∀ p, p < 4 → ∀ h, h < 64 → ∀ l, l < 64 → (64 * h + l) &&& (7 * 2 ^ (3 * p) ^^^ 4294967295) = (64 * h + l) - (64 * h + l) / 2 ^ (3 * p) % 8 * 2 ^ (3 * p) := by decide +kernel
theorem k_clr' {a p : Nat} (ha : a < 4096) (hp : p < 4) : a &&& (7 * 2 ^ (3 * p) ^^^ 4294967295) = a - dg a p * 2 ^ (3 * p) := by
  have h := k_clr p hp (a / 64) (by omega) (a % 64) (by omega)
  rw [Nat.div_add_mod] at h
  rw [h, q_dg]
theorem or_mid {lo hi x k : Nat} (hl : lo < 2 ^ k) (hx : x < 8) : (2 ^ (k + 3) * hi + lo) ||| x * 2 ^ k = 2 ^ (k + 3) * hi + lo + x * 2 ^ k := by
  have e1 : 2 ^ k * x + lo < 2 ^ (k + 3) := by
    rw [Nat.pow_add]
    have : 2 ^ k * x ≤ 2 ^ k * 7 := Nat.mul_le_mul_left _ (by omega)
    omega
  have e2 : lo < 2 ^ (k + 3) := Nat.lt_of_le_of_lt (Nat.le_add_left _ _) e1
  have e3 : 2 ^ (k + 3) * hi + lo + x * 2 ^ k = 2 ^ (k + 3) * hi + (2 ^ k * x + lo) := by rw [Nat.mul_comm x]; omega
  rw [e3, Nat.two_pow_add_eq_or_of_lt e2, Nat.or_assoc, Nat.or_comm lo, Nat.mul_comm x, ← Nat.two_pow_add_eq_or_of_lt hl, ← Nat.two_pow_add_eq_or_of_lt e1]
theorem wp_or {a p x : Nat} (ha : a < 4096) (hp : p < 4) (hx : x < 8) : (a &&& (7 * 2 ^ (3 * p) ^^^ 4294967295)) ||| x * 2 ^ (3 * p) = wp a p x := by
  rw [k_clr' ha hp]
  unfold wp
  have hl : a % 2 ^ (3 * p) < 2 ^ (3 * p) := Nat.mod_lt _ (Nat.two_pow_pos _)
  have e : a - dg a p * 2 ^ (3 * p) = 2 ^ (3 * p + 3) * (a / 2 ^ (3 * p + 3)) + a % 2 ^ (3 * p) := by
    rcases c4 hp with e | e | e | e <;> subst e <;> simp only [dg_0, dg_1, dg_2, dg_3] <;> simp only [Nat.reduceMul, Nat.reduceAdd, Nat.reducePow] <;> omega
  rw [e, or_mid hl hx]
theorem s_M_withPlace (d : Nat) {a p x : Nat} (ha : a < 4096) (hp : p < 4) (hx : x < 8) (s : aM) : am_cl (d + 1) mM_withPlace [.int (nI a), .int (nI p), .int (nI x)] s = some (some (.int (nI (wp a p x))), s) := by
  obtain ⟨i, l, q, K⟩ := s
  have h7 := q_mul8 (a := 7) (by decide) hp
  have h8 := q_mul8 hx hp
  rw [c_M_withPlace, b_M_withPlace_0]
  simp (disch := first | assumption | omega) only [b_M_withPlace_0, ↓Bool.cond_decide, ↓q_in, q_le, q_lt, q_eq, q_leT, q_leF, q_ltT, q_ltF, q_eqT, q_eqF, ↓reduceIte, not_true_eq_false, not_false_eq_true, true_and, and_true, and_self, false_and, and_false, Nat.zero_le, am_bd_some, q_app, q_app0, nI_add, pk_sub, pk_mul, q_dec, q_ix, q_m1, q_m1', ↓q_ret, q_bool, q_bool1, q_u2, q_u1, q_shl1, q_shr, q_and7, q_dg, fa_or, fa_and, decide_true, decide_false, Bool.or_false, Bool.or_true, Bool.true_or, Bool.false_or, cond_true, cond_false, ite_not, q_some, q_nn, q_xor, q_xorm, Bool.false_eq_true, decide_eq_true_eq, ne_eq, l_0, l_1, l_3, l_7, l_18, l_31, q_shl, wp_or ha hp hx]
/-- who is swept by a look -/
def sSw (g : Nat → Nat) (w a : Nat) : Nat := bs (fun p => sSpot g (dg a p) && !sHold g a p (g (22 + p)) w) (g 2)
def sSend (a m : Nat) : Nat → Nat
  | 0 => a
  | n + 1 => if m.testBit n then wp (sSend a m n) n 0 else sSend a m n
/-- where all are behind a flood, and in how many looks; n looks at most -/
def fl (g : Nat → Nat) (w : Nat) : Nat → Nat → Nat × Nat
  | 0, a => (a, 0)
  | n + 1, a => if sSw g w a = 0 then (a, 0) else ((fl g w n (sSend a (sSw g w a) (g 2))).1, (fl g w n (sSend a (sSw g w a) (g 2))).2 + 1)
def sFl (g : Nat → Nat) (w a : Nat) : Nat := (fl g w 4 a).1
def sLk (g : Nat → Nat) (w a : Nat) : Nat := (fl g w 4 a).2
def up (g : Nat → Nat) (a : Nat) : Nat := fa_cnt (fun p => sSpot g (dg a p)) (g 2)
theorem sSend_lt {a m : Nat} (ha : a < 4096) : ∀ n, n ≤ 4 → sSend a m n < 4096
  | 0, _ => ha
  | n + 1, hn => by
    have h := sSend_lt ha n (by omega) (m := m)
    rw [sSend]
    split
    · exact wp_lt h (by omega) (by decide)
    · exact h
theorem dg_sSend {a m : Nat} (ha : a < 4096) : ∀ n, n ≤ 4 → ∀ q, q < 4 → dg (sSend a m n) q = if q < n ∧ m.testBit q = true then 0 else dg a q
  | 0, _, q, hq => by rw [sSend, if_neg (by omega)]
  | n + 1, hn, q, hq => by
    have h := dg_sSend ha (m := m) n (by omega) q hq
    have hl := sSend_lt ha (m := m) n (by omega)
    rw [sSend]
    by_cases hm : m.testBit n = true
    · rw [if_pos hm]
      by_cases e : q = n
      · subst e
        rw [dg_wp hl (by omega) (by decide), if_pos ⟨by omega, hm⟩]
      · rw [dg_wn hl (by omega) hq (by decide) e, h]
        by_cases e2 : q < n ∧ m.testBit q = true
        · rw [if_pos e2, if_pos ⟨by omega, e2.2⟩]
        · rw [if_neg e2, if_neg]
          rintro ⟨h1, h2⟩
          exact e2 ⟨by omega, h2⟩
    · rw [if_neg hm, h]
      by_cases e2 : q < n ∧ m.testBit q = true
      · rw [if_pos e2, if_pos ⟨by omega, e2.2⟩]
      · rw [if_neg e2, if_neg]
        rintro ⟨h1, h2⟩
        by_cases e : q = n
        · subst e; exact hm h2
        · exact e2 ⟨by omega, h2⟩
theorem cnt_le {f h : Nat → Bool} : ∀ {n : Nat}, (∀ k, k < n → f k = true → h k = true) → fa_cnt f n ≤ fa_cnt h n
  | 0, _ => Nat.le_refl _
  | n + 1, e => by
    have ih := cnt_le (n := n) (fun k hk => e k (by omega))
    cases hf : f n with
    | true => rw [fa_cnt_yes hf, fa_cnt_yes (e n (by omega) hf)]; omega
    | false =>
      rw [fa_cnt_no hf]
      cases hh : h n with
      | true => rw [fa_cnt_yes hh]; omega
      | false => rw [fa_cnt_no hh]; omega
theorem cnt_lt {f h : Nat → Bool} {j : Nat} : ∀ {n : Nat}, (∀ k, k < n → f k = true → h k = true) → j < n → h j = true → f j = false → fa_cnt f n < fa_cnt h n
  | 0, _, hj, _, _ => by omega
  | n + 1, e, hj, h1, h2 => by
    by_cases q : j = n
    · subst q
      have ih := cnt_le (n := j) (fun k hk => e k (by omega))
      rw [fa_cnt_no h2, fa_cnt_yes h1]
      omega
    · have ih := cnt_lt (n := n) (fun k hk => e k (by omega)) (by omega) h1 h2
      cases hf : f n with
      | true => rw [fa_cnt_yes hf, fa_cnt_yes (e n (by omega) hf)]; omega
      | false =>
        rw [fa_cnt_no hf]
        cases hh : h n with
        | true => rw [fa_cnt_yes hh]; omega
        | false => rw [fa_cnt_no hh]; omega
theorem bs_0 {f : Nat → Bool} : ∀ {n : Nat}, bs f n ≠ 0 → ∃ k, k < n ∧ f k = true
  | 0, h => absurd rfl h
  | n + 1, h => by
    cases hf : f n with
    | true => exact ⟨n, by omega, hf⟩
    | false =>
      rw [bs, hf] at h
      simp only [Bool.false_eq_true, if_false, Nat.or_zero] at h
      obtain ⟨k, h1, h2⟩ := bs_0 h
      exact ⟨k, by omega, h2⟩
theorem sSpot_0 (g : Nat → Nat) : sSpot g 0 = false := by unfold sSpot; simp
theorem up_dec {g : Nat → Nat} {w a : Nat} (ha : a < 4096) (h2 : g 2 ≤ 4) (h : sSw g w a ≠ 0) : up g (sSend a (sSw g w a) (g 2)) < up g a := by
  obtain ⟨j, hj, hf⟩ := bs_0 h
  have hb : (sSw g w a).testBit j = true := by
    unfold sSw; rw [bs_bit, hf, decide_eq_true hj]; rfl
  have hs : sSpot g (dg a j) = true := by
    simp only [Bool.and_eq_true] at hf; exact hf.1
  refine cnt_lt (j := j) (fun k hk => ?_) hj hs ?_
  · rw [dg_sSend ha _ h2 k (by omega)]
    split
    · rw [sSpot_0]; intro z; cases z
    · exact fun z => z
  · rw [dg_sSend ha _ h2 j (by omega), if_pos ⟨hj, hb⟩]
    exact sSpot_0 g
theorem fl_lt {g : Nat → Nat} {w : Nat} (h2 : g 2 ≤ 4) : ∀ n a, a < 4096 → (fl g w n a).1 < 4096
  | 0, a, h => h
  | n + 1, a, h => by
    rw [fl]
    split
    · exact h
    · exact fl_lt h2 n _ (sSend_lt h _ h2)
theorem sFl_lt {g : Nat → Nat} {w a : Nat} (h2 : g 2 ≤ 4) (ha : a < 4096) : sFl g w a < 4096 := fl_lt h2 4 a ha
theorem up_le (g : Nat → Nat) (a : Nat) : up g a ≤ g 2 := fa_cnt_le _ _
section
variable {i : Nat → Nat → Int32} {l : Nat → Nat → Int64} {g : Nat → Nat}
theorem r_M_sweptAt (d : Nat) {a w : Nat} (ha : a < 4096) (hw : w < 2147483648) (hA : MA i g) (h1 : g 1 ≤ 6) (h2 : g 2 ≤ 4) (hS : ∀ p, p < 4 → g (22 + p) ≤ 9) (hL : LW g 0) : MR (some (.int (nI (sSw g w a)))) (fun i' l' => l' = l ∧ Fr [5, 6] i i') (am_cl (d + 5) mM_sweptAt [.ref 0, .int (nI a), .int (nI w)] (i, l, rM, kM)) := by
  rw [c_M_sweptAt, b_M_sweptAt_0]
  refine am_loop (fun k ls s => ∃ i', ls = [.val (.ref 0), .val (.int (nI a)), .val (.int (nI w)), .val (.int (nI (bs (fun p => sSpot g (dg a p) && !sHold g a p (g (22 + p)) w) k))), .val (.int (nI k))] ∧ s = (i', l, rM, kM) ∧ Fr [5, 6] i i') (g 2) _ (fun k ls s hk hI => ?_) (fun ls s hI => ?_) ⟨i, rfl, rfl, Fr_refl _ _⟩
  · obtain ⟨i1, e1, e2, hf⟩ := hI
    subst e1; subst e2
    have hA1 : ∀ k, k < 3222 → i1 1 k = nI (g k) := MA_fr hf hA rfl
    have hM1 : MA i1 g := hA1
    have hs := hS k (by omega)
    have hd := dg_lt a k
    rw [b_M_sweptAt_5]
    cases hsp : sSpot g (dg a k) with
    | false =>
      simp (disch := first | assumption | omega) only [b_M_sweptAt_0, b_M_sweptAt_24, b_M_sweptAt_28, b_M_sweptAt_49, b_M_sweptAt_59, b_M_sweptAt_60, s_M_isSpot, s_M_placeIn, ↓Bool.cond_decide, ↓q_in, q_le, q_lt, q_eq, q_leT, q_leF, q_ltT, q_ltF, q_eqT, q_eqF, ↓reduceIte, not_true_eq_false, not_false_eq_true, true_and, and_true, and_self, false_and, and_false, Nat.zero_le, am_bd_some, q_app, q_app0, nI_add, pk_sub, pk_mul, q_dec, q_ix, q_m1, q_m1', ↓q_ret, q_bool, q_bool1, q_u2, q_u1, q_shl1, q_shr, q_and7, q_dg, fa_or, fa_and, decide_true, decide_false, Bool.or_false, Bool.or_true, Bool.true_or, Bool.false_or, cond_true, cond_false, ite_not, q_some, q_nn, q_xor, q_xorm, Bool.false_eq_true, decide_eq_true_eq, ne_eq, l_0, l_1, l_2, l_4, l_5, l_7, l_9, l_15, l_22, l_24, l_28, l_31, l_49, l_59, l_60, l_3222, hA1, hsp]
      refine Go_in ⟨i1, ?_, rfl, hf⟩
      rw [bs, if_neg (by simp [hsp])]
    | true =>
      simp (disch := first | assumption | omega) only [b_M_sweptAt_0, b_M_sweptAt_24, b_M_sweptAt_28, b_M_sweptAt_59, b_M_sweptAt_60, s_M_isSpot, s_M_placeIn, ↓Bool.cond_decide, ↓q_in, q_le, q_lt, q_eq, q_leT, q_leF, q_ltT, q_ltF, q_eqT, q_eqF, ↓reduceIte, not_true_eq_false, not_false_eq_true, true_and, and_true, and_self, false_and, and_false, Nat.zero_le, am_bd_some, q_app, q_app0, nI_add, pk_sub, pk_mul, q_dec, q_ix, q_m1, q_m1', ↓q_ret, q_bool, q_bool1, q_u2, q_u1, q_shl1, q_shr, q_and7, q_dg, fa_or, fa_and, decide_true, decide_false, Bool.or_false, Bool.or_true, Bool.true_or, Bool.false_or, cond_true, cond_false, ite_not, q_some, q_nn, q_xor, q_xorm, Bool.false_eq_true, decide_eq_true_eq, ne_eq, l_0, l_1, l_2, l_4, l_5, l_7, l_9, l_15, l_22, l_24, l_28, l_31, l_49, l_59, l_60, l_3222, hA1, hsp]
      obtain ⟨i2, l2, e2, hl2, hf2⟩ := r_M_holdsIn d (l := l) (str := g (22 + k)) ha (p := k) (by omega) (by omega) hw hM1 h1 h2 hsp hL
      subst hl2
      rw [e2]
      rw [am_bd_some, q_app, b_M_sweptAt_49]
      cases hh : sHold g a k (g (22 + k)) w with
      | true =>
        simp (disch := first | assumption | omega) only [b_M_sweptAt_0, b_M_sweptAt_24, b_M_sweptAt_28, b_M_sweptAt_49, b_M_sweptAt_59, b_M_sweptAt_60, s_M_isSpot, s_M_placeIn, ↓Bool.cond_decide, ↓q_in, q_le, q_lt, q_eq, q_leT, q_leF, q_ltT, q_ltF, q_eqT, q_eqF, ↓reduceIte, not_true_eq_false, not_false_eq_true, true_and, and_true, and_self, false_and, and_false, Nat.zero_le, am_bd_some, q_app, q_app0, nI_add, pk_sub, pk_mul, q_dec, q_ix, q_m1, q_m1', ↓q_ret, q_bool, q_bool1, q_u2, q_u1, q_shl1, q_shr, q_and7, q_dg, fa_or, fa_and, decide_true, decide_false, Bool.or_false, Bool.or_true, Bool.true_or, Bool.false_or, cond_true, cond_false, ite_not, q_some, q_nn, q_xor, q_xorm, Bool.false_eq_true, decide_eq_true_eq, ne_eq, l_0, l_1, l_2, l_4, l_5, l_7, l_9, l_15, l_22, l_24, l_28, l_31, l_49, l_59, l_60, l_3222, hh]
        refine Go_in ⟨i2, ?_, rfl, by (repeat (first | exact Fr_refl _ _ | assumption | refine Fr_u2 rfl ?_ | refine Fr_u1 rfl ?_ | refine Fr_step (by assumption) rfl ?_))⟩
        rw [bs, if_neg (by simp [hh])]
      | false =>
        simp (disch := first | assumption | omega) only [b_M_sweptAt_0, b_M_sweptAt_24, b_M_sweptAt_28, b_M_sweptAt_49, b_M_sweptAt_59, b_M_sweptAt_60, s_M_isSpot, s_M_placeIn, ↓Bool.cond_decide, ↓q_in, q_le, q_lt, q_eq, q_leT, q_leF, q_ltT, q_ltF, q_eqT, q_eqF, ↓reduceIte, not_true_eq_false, not_false_eq_true, true_and, and_true, and_self, false_and, and_false, Nat.zero_le, am_bd_some, q_app, q_app0, nI_add, pk_sub, pk_mul, q_dec, q_ix, q_m1, q_m1', ↓q_ret, q_bool, q_bool1, q_u2, q_u1, q_shl1, q_shr, q_and7, q_dg, fa_or, fa_and, decide_true, decide_false, Bool.or_false, Bool.or_true, Bool.true_or, Bool.false_or, cond_true, cond_false, ite_not, q_some, q_nn, q_xor, q_xorm, Bool.false_eq_true, decide_eq_true_eq, ne_eq, l_0, l_1, l_2, l_4, l_5, l_7, l_9, l_15, l_22, l_24, l_28, l_31, l_49, l_59, l_60, l_3222, hh]
        refine Go_in ⟨i2, ?_, rfl, by (repeat (first | exact Fr_refl _ _ | assumption | refine Fr_u2 rfl ?_ | refine Fr_u1 rfl ?_ | refine Fr_step (by assumption) rfl ?_))⟩
        rw [bs, if_pos (by simp [hsp, hh])]
  · obtain ⟨i1, e1, e2, hf⟩ := hI
    subst e1; subst e2
    have hA1 : ∀ k, k < 3222 → i1 1 k = nI (g k) := MA_fr hf hA rfl
    rw [b_M_sweptAt_5]
    simp (disch := first | assumption | omega) only [b_M_sweptAt_0, b_M_sweptAt_24, b_M_sweptAt_28, b_M_sweptAt_49, b_M_sweptAt_59, b_M_sweptAt_60, s_M_isSpot, s_M_placeIn, ↓Bool.cond_decide, ↓q_in, q_le, q_lt, q_eq, q_leT, q_leF, q_ltT, q_ltF, q_eqT, q_eqF, ↓reduceIte, not_true_eq_false, not_false_eq_true, true_and, and_true, and_self, false_and, and_false, Nat.zero_le, am_bd_some, q_app, q_app0, nI_add, pk_sub, pk_mul, q_dec, q_ix, q_m1, q_m1', ↓q_ret, q_bool, q_bool1, q_u2, q_u1, q_shl1, q_shr, q_and7, q_dg, fa_or, fa_and, decide_true, decide_false, Bool.or_false, Bool.or_true, Bool.true_or, Bool.false_or, cond_true, cond_false, ite_not, q_some, q_nn, q_xor, q_xorm, Bool.false_eq_true, decide_eq_true_eq, ne_eq, l_0, l_1, l_2, l_4, l_5, l_7, l_9, l_15, l_22, l_24, l_28, l_31, l_49, l_59, l_60, l_3222, hA1]
    exact MR_some ⟨rfl, hf⟩
theorem sSw_lt {w a : Nat} (h2 : g 2 ≤ 4) : sSw g w a < 16 := Nat.lt_of_lt_of_le (bs_lt _ _) (Nat.pow_le_pow_right (by decide) h2)
theorem sUp_lt {a : Nat} (h2 : g 2 ≤ 4) : sUp g a < 16 := Nat.lt_of_lt_of_le (bs_lt _ _) (Nat.pow_le_pow_right (by decide) h2)
theorem sOver_lt {a : Nat} (h2 : g 2 ≤ 4) : sOver g a < 16 := Nat.lt_of_lt_of_le (bs_lt _ _) (Nat.pow_le_pow_right (by decide) h2)
theorem r_M_floodedTo (d : Nat) {a w : Nat} (ha : a < 4096) (hw : w < 2147483648) (hA : MA i g) (h1 : g 1 ≤ 6) (h2 : g 2 ≤ 4) (hS : ∀ p, p < 4 → g (22 + p) ≤ 9) (hL : LW g 0) : MR (some (.int (nI (sFl g w a)))) (fun i' l' => l' = l ∧ Fx [5, 6, 120] i i' ∧ i' 0 20 = nI (sLk g w a)) (am_cl (d + 6) mM_floodedTo [.ref 0, .int (nI a), .int (nI w)] (i, l, rM, kM)) := by
  have key : ∀ n b i1 z1 z5 k, b < 4096 → up g b ≤ n → Fx [5, 6, 120] i i1 → i1 0 20 = nI k → k + n ≤ 100 → MR (some (.int (nI (fl g w n b).1))) (fun i' l' => l' = l ∧ Fx [5, 6, 120] i i' ∧ i' 0 20 = nI (k + (fl g w n b).2)) (am_Ex (d + 5) mM_floodedTo 15 [.val (.ref 0), z1, .val (.int (nI w)), .val (.int (nI b)), .val (.int (nI (sSw g w b))), z5] [] (i1, l, rM, kM)) := by
    intro n
    induction n with
    | zero =>
      intro b i1 z1 z5 k hb hu hf hk hkn
      have h0 : sSw g w b = 0 := by
        apply Classical.byContradiction
        intro h
        have := up_dec hb h2 h
        omega
      rw [h0, b_M_floodedTo_15]
      simp (disch := first | assumption | omega) only [b_M_floodedTo_0, b_M_floodedTo_13, b_M_floodedTo_42, b_M_floodedTo_52, b_M_floodedTo_53, b_M_floodedTo_75, s_M_isIn, s_M_withPlace, ↓Bool.cond_decide, ↓q_in, q_le, q_lt, q_eq, q_leT, q_leF, q_ltT, q_ltF, q_eqT, q_eqF, ↓reduceIte, not_true_eq_false, not_false_eq_true, true_and, and_true, and_self, false_and, and_false, Nat.zero_le, am_bd_some, q_app, q_app0, nI_add, pk_sub, pk_mul, q_dec, q_ix, q_m1, q_m1', ↓q_ret, q_bool, q_bool1, q_u2, q_u1, q_shl1, q_shr, q_and7, q_dg, fa_or, fa_and, decide_true, decide_false, Bool.or_false, Bool.or_true, Bool.true_or, Bool.false_or, cond_true, cond_false, ite_not, q_some, q_nn, q_xor, q_xorm, Bool.false_eq_true, decide_eq_true_eq, ne_eq, l_0, l_1, l_2, l_4, l_5, l_8, l_9, l_11, l_13, l_15, l_20, l_22, l_23, l_42, l_52, l_53, l_75]
      exact MR_some ⟨rfl, hf, hk⟩
    | succ n ih =>
      intro b i1 z1 z5 k hb hu hf hk hkn
      have hlt := sSw_lt (w := w) (a := b) h2
      rw [b_M_floodedTo_15]
      by_cases h0 : sSw g w b = 0
      · rw [fl, if_pos h0]
        simp (disch := first | assumption | omega) only [b_M_floodedTo_0, b_M_floodedTo_13, b_M_floodedTo_42, b_M_floodedTo_52, b_M_floodedTo_53, b_M_floodedTo_75, s_M_isIn, s_M_withPlace, ↓Bool.cond_decide, ↓q_in, q_le, q_lt, q_eq, q_leT, q_leF, q_ltT, q_ltF, q_eqT, q_eqF, ↓reduceIte, not_true_eq_false, not_false_eq_true, true_and, and_true, and_self, false_and, and_false, Nat.zero_le, am_bd_some, q_app, q_app0, nI_add, pk_sub, pk_mul, q_dec, q_ix, q_m1, q_m1', ↓q_ret, q_bool, q_bool1, q_u2, q_u1, q_shl1, q_shr, q_and7, q_dg, fa_or, fa_and, decide_true, decide_false, Bool.or_false, Bool.or_true, Bool.true_or, Bool.false_or, cond_true, cond_false, ite_not, q_some, q_nn, q_xor, q_xorm, Bool.false_eq_true, decide_eq_true_eq, ne_eq, l_0, l_1, l_2, l_4, l_5, l_8, l_9, l_11, l_13, l_15, l_20, l_22, l_23, l_42, l_52, l_53, l_75]
        exact MR_some ⟨rfl, hf, hk⟩
      · rw [fl, if_neg h0]
        have hu2 := up_dec hb h2 h0
        have hA1 : ∀ k, k < 3222 → i1 1 k = nI (g k) := MA_fx hf hA rfl
        simp (disch := first | assumption | omega) only [b_M_floodedTo_0, b_M_floodedTo_13, b_M_floodedTo_42, b_M_floodedTo_52, b_M_floodedTo_53, b_M_floodedTo_75, s_M_isIn, s_M_withPlace, ↓Bool.cond_decide, ↓q_in, q_le, q_lt, q_eq, q_leT, q_leF, q_ltT, q_ltF, q_eqT, q_eqF, ↓reduceIte, not_true_eq_false, not_false_eq_true, true_and, and_true, and_self, false_and, and_false, Nat.zero_le, am_bd_some, q_app, q_app0, nI_add, pk_sub, pk_mul, q_dec, q_ix, q_m1, q_m1', ↓q_ret, q_bool, q_bool1, q_u2, q_u1, q_shl1, q_shr, q_and7, q_dg, fa_or, fa_and, decide_true, decide_false, Bool.or_false, Bool.or_true, Bool.true_or, Bool.false_or, cond_true, cond_false, ite_not, q_some, q_nn, q_xor, q_xorm, Bool.false_eq_true, decide_eq_true_eq, ne_eq, l_0, l_1, l_2, l_4, l_5, l_8, l_9, l_11, l_13, l_15, l_20, l_22, l_23, l_42, l_52, l_53, l_75]
        refine am_loop (fun p ls s => ls = [.val (.ref 0), z1, .val (.int (nI w)), .val (.int (nI (sSend b (sSw g w b) p))), .val (.int (nI (sSw g w b))), .val (.int (nI p))] ∧ s = (i1, l, rM, kM)) (g 2) _ (fun p ls s hp hI => ?_) (fun ls s hI => ?_) ⟨rfl, rfl⟩
        · obtain ⟨e1, e2⟩ := hI
          subst e1; subst e2
          have hbs := sSend_lt (m := sSw g w b) hb p (by omega)
          rw [b_M_floodedTo_23]
          cases ht : (sSw g w b).testBit p with
          | true =>
            simp (disch := first | assumption | omega) only [b_M_floodedTo_0, b_M_floodedTo_13, b_M_floodedTo_42, b_M_floodedTo_52, b_M_floodedTo_53, b_M_floodedTo_75, s_M_isIn, s_M_withPlace, ↓Bool.cond_decide, ↓q_in, q_le, q_lt, q_eq, q_leT, q_leF, q_ltT, q_ltF, q_eqT, q_eqF, ↓reduceIte, not_true_eq_false, not_false_eq_true, true_and, and_true, and_self, false_and, and_false, Nat.zero_le, am_bd_some, q_app, q_app0, nI_add, pk_sub, pk_mul, q_dec, q_ix, q_m1, q_m1', ↓q_ret, q_bool, q_bool1, q_u2, q_u1, q_shl1, q_shr, q_and7, q_dg, fa_or, fa_and, decide_true, decide_false, Bool.or_false, Bool.or_true, Bool.true_or, Bool.false_or, cond_true, cond_false, ite_not, q_some, q_nn, q_xor, q_xorm, Bool.false_eq_true, decide_eq_true_eq, ne_eq, l_0, l_1, l_2, l_4, l_5, l_8, l_9, l_11, l_13, l_15, l_20, l_22, l_23, l_42, l_52, l_53, l_75, hA1, ht]
            refine Go_in ⟨?_, rfl⟩
            rw [sSend, if_pos ht]
          | false =>
            simp (disch := first | assumption | omega) only [b_M_floodedTo_0, b_M_floodedTo_13, b_M_floodedTo_42, b_M_floodedTo_52, b_M_floodedTo_53, b_M_floodedTo_75, s_M_isIn, s_M_withPlace, ↓Bool.cond_decide, ↓q_in, q_le, q_lt, q_eq, q_leT, q_leF, q_ltT, q_ltF, q_eqT, q_eqF, ↓reduceIte, not_true_eq_false, not_false_eq_true, true_and, and_true, and_self, false_and, and_false, Nat.zero_le, am_bd_some, q_app, q_app0, nI_add, pk_sub, pk_mul, q_dec, q_ix, q_m1, q_m1', ↓q_ret, q_bool, q_bool1, q_u2, q_u1, q_shl1, q_shr, q_and7, q_dg, fa_or, fa_and, decide_true, decide_false, Bool.or_false, Bool.or_true, Bool.true_or, Bool.false_or, cond_true, cond_false, ite_not, q_some, q_nn, q_xor, q_xorm, Bool.false_eq_true, decide_eq_true_eq, ne_eq, l_0, l_1, l_2, l_4, l_5, l_8, l_9, l_11, l_13, l_15, l_20, l_22, l_23, l_42, l_52, l_53, l_75, hA1, ht]
            refine Go_in ⟨?_, rfl⟩
            rw [sSend, if_neg (by rw [ht]; decide)]
        · obtain ⟨e1, e2⟩ := hI
          subst e1; subst e2
          have hbs := sSend_lt (m := sSw g w b) hb (g 2) h2
          rw [b_M_floodedTo_23]
          simp (disch := first | assumption | omega) only [b_M_floodedTo_0, b_M_floodedTo_13, b_M_floodedTo_42, b_M_floodedTo_52, b_M_floodedTo_53, s_M_isIn, s_M_withPlace, ↓Bool.cond_decide, ↓q_in, q_le, q_lt, q_eq, q_leT, q_leF, q_ltT, q_ltF, q_eqT, q_eqF, ↓reduceIte, not_true_eq_false, not_false_eq_true, true_and, and_true, and_self, false_and, and_false, Nat.zero_le, am_bd_some, q_app, q_app0, nI_add, pk_sub, pk_mul, q_dec, q_ix, q_m1, q_m1', ↓q_ret, q_bool, q_bool1, q_u1, q_shl1, q_shr, q_and7, q_dg, fa_or, fa_and, decide_true, decide_false, Bool.or_false, Bool.or_true, Bool.true_or, Bool.false_or, cond_true, cond_false, ite_not, q_some, q_nn, q_xor, q_xorm, Bool.false_eq_true, decide_eq_true_eq, ne_eq, l_0, l_1, l_2, l_4, l_5, l_8, l_9, l_11, l_13, l_15, l_20, l_22, l_23, l_42, l_52, l_53, l_75, hA1, hk]
          have hf3 : Fx [5, 6, 120] i (am_u2 i1 0 20 (nI (k + 1))) := by (repeat (first | exact Fx_refl _ _ | assumption | refine Fx_u2 rfl ?_ | refine Fx_u1 rfl (by decide) ?_ | refine Fx_step (by assumption) rfl ?_ | refine Fx_stepr (by assumption) rfl rfl ?_))
          have hM3 : MA (am_u2 i1 0 20 (nI (k + 1))) g := MA_fx hf3 hA rfl
          obtain ⟨i4, l4, e4, hl4, hf4⟩ := r_M_sweptAt d (l := l) hbs hw hM3 h1 h2 hS hL
          subst hl4
          rw [e4, am_bd_some, q_app, b_M_floodedTo_75]
          have h20 : i4 0 20 = nI (k + 1) := by rw [hf4 0 rfl]; rfl
          have := ih _ i4 z1 (.val (.int (nI (g 2)))) (k + 1) hbs (by omega) (by (repeat (first | exact Fx_refl _ _ | assumption | refine Fx_u2 rfl ?_ | refine Fx_u1 rfl (by decide) ?_ | refine Fx_step (by assumption) rfl ?_ | refine Fx_stepr (by assumption) rfl rfl ?_))) h20 (by omega)
          rw [show k + ((fl g w n (sSend b (sSw g w b) (g 2))).2 + 1) = k + 1 + (fl g w n (sSend b (sSw g w b) (g 2))).2 by omega]
          exact this
  rw [c_M_floodedTo, b_M_floodedTo_0]
  have hf3 : Fx [5, 6, 120] i (am_u2 i 0 20 0) := by (repeat (first | exact Fx_refl _ _ | assumption | refine Fx_u2 rfl ?_ | refine Fx_u1 rfl (by decide) ?_ | refine Fx_step (by assumption) rfl ?_ | refine Fx_stepr (by assumption) rfl rfl ?_))
  have hM3 : MA (am_u2 i 0 20 0) g := MA_fx hf3 hA rfl
  obtain ⟨i4, l4, e4, hl4, hf4⟩ := r_M_sweptAt d (l := l) ha hw hM3 h1 h2 hS hL
  subst hl4
  rw [e4, am_bd_some, q_app, b_M_floodedTo_13]
  have h20 : i4 0 20 = nI 0 := by rw [hf4 0 rfl]; rfl
  have := key 4 a i4 (.val (.int (nI a))) .unset 0 ha (Nat.le_trans (up_le g a) h2) (by (repeat (first | exact Fx_refl _ _ | assumption | refine Fx_u2 rfl ?_ | refine Fx_u1 rfl (by decide) ?_ | refine Fx_step (by assumption) rfl ?_ | refine Fx_stepr (by assumption) rfl rfl ?_))) h20 (by decide)
  rw [Nat.zero_add] at this
  exact this
def sBy (g : Nat → Nat) (w : Nat) : Nat := sUp g (sNow g 4) &&& (sUp g (sFl g w (sNow g 4)) ^^^ 4294967295)
theorem r_M_sweptBy (d : Nat) {w : Nat} (hw : w < 2147483648) (hA : MA i g) (h1 : g 1 ≤ 6) (h2 : g 2 ≤ 4) (hP : ∀ p, p < 4 → g (18 + p) < 8) (hS : ∀ p, p < 4 → g (22 + p) ≤ 9) (hL : LW g 0) : MR (some (.int (nI (sBy g w)))) (fun i' l' => l' = l ∧ Fx [5, 6, 120] i i') (am_cl (d + 7) mM_sweptBy [.ref 0, .int (nI w)] (i, l, rM, kM)) := by
  have hn := sNow_lt g hP 4 (by decide)
  rw [c_M_sweptBy, b_M_sweptBy_0]
  simp (disch := first | assumption | omega) only [b_M_sweptBy_0, b_M_sweptBy_5, b_M_sweptBy_8, b_M_sweptBy_14, b_M_sweptBy_18, b_M_sweptBy_21, s_M_standNow, s_M_standing, ↓Bool.cond_decide, ↓q_in, q_le, q_lt, q_eq, q_leT, q_leF, q_ltT, q_ltF, q_eqT, q_eqF, ↓reduceIte, not_true_eq_false, not_false_eq_true, true_and, and_true, and_self, false_and, and_false, Nat.zero_le, am_bd_some, q_app, q_app0, nI_add, pk_sub, pk_mul, q_dec, q_ix, q_m1, q_m1', ↓q_ret, q_bool, q_bool1, q_u2, q_u1, q_shl1, q_shr, q_and7, q_dg, fa_or, fa_and, decide_true, decide_false, Bool.or_false, Bool.or_true, Bool.true_or, Bool.false_or, cond_true, cond_false, ite_not, q_some, q_nn, q_xor, q_xorm, Bool.false_eq_true, decide_eq_true_eq, ne_eq, l_0, l_1, l_3, l_4, l_5, l_6, l_8, l_14, l_18, l_21]
  refine MR_bd (r_M_floodedTo d hn hw hA h1 h2 hS hL) ?_
  intro i' l' ⟨hl, hf, _⟩
  subst hl
  have hM : MA i' g := MA_fx hf hA rfl
  have hn2 := sFl_lt (w := w) h2 hn
  simp (disch := first | assumption | omega) only [b_M_sweptBy_0, b_M_sweptBy_5, b_M_sweptBy_8, b_M_sweptBy_14, b_M_sweptBy_18, b_M_sweptBy_21, s_M_standNow, s_M_standing, ↓Bool.cond_decide, ↓q_in, q_le, q_lt, q_eq, q_leT, q_leF, q_ltT, q_ltF, q_eqT, q_eqF, ↓reduceIte, not_true_eq_false, not_false_eq_true, true_and, and_true, and_self, false_and, and_false, Nat.zero_le, am_bd_some, q_app, q_app0, nI_add, pk_sub, pk_mul, q_dec, q_ix, q_m1, q_m1', ↓q_ret, q_bool, q_bool1, q_u2, q_u1, q_shl1, q_shr, q_and7, q_dg, fa_or, fa_and, decide_true, decide_false, Bool.or_false, Bool.or_true, Bool.true_or, Bool.false_or, cond_true, cond_false, ite_not, q_some, q_nn, q_xor, q_xorm, Bool.false_eq_true, decide_eq_true_eq, ne_eq, l_0, l_1, l_3, l_4, l_5, l_6, l_8, l_14, l_18, l_21]
  exact MR_some ⟨rfl, hf⟩
end
