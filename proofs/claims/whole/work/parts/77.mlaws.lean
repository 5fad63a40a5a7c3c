/-! THE MODEL: laws are read -/
/-- it goes on: tokens, and no more codes than these -/
def Pg (B : Nat → Nat) (N : Nat) (s t : PS) : Prop := t.1 = 0 → s.1 = 0 ∧ s.2.2.1 < t.2.2.1 ∧ (s.2.2.2 173 ≤ t.2.2.2 173 ∧ t.2.2.2 173 + s.2.2.1 ≤ s.2.2.2 173 + t.2.2.1) ∧ t.2.2.1 ≤ pj B N t.2.2.1 ∧ ∀ k, k < 173 → t.2.2.2 k = s.2.2.2 k
def OkF (B : Nat → Nat) (N : Nat) (F : PS → PS) : Prop := ∀ s, CB B N s → Pg B N s (F s)
section
variable {B : Nat → Nat} {N : Nat}
theorem Pg_cb {s t : PS} (h : Pg B N s t) (hc : CB B N s) : CB B N t := fun z => by
  obtain ⟨q1, q2, q3, q4, q5⟩ := h z
  obtain ⟨c1, c2⟩ := hc q1
  exact ⟨by omega, q4⟩
theorem Pg_tr {s t u : PS} (h : Pg B N s t) (h2 : Pg B N t u) : Pg B N s u := fun z => by
  obtain ⟨a1, a2, a3, a4, a5⟩ := h2 z
  obtain ⟨b1, b2, b3, b4, b5⟩ := h a1
  exact ⟨b1, by omega, by omega, a4, fun k hk => (a5 k hk).trans (b5 k hk)⟩
theorem flS_w {k : Nat} {s : PS} (hk : k ≠ 0) : (flS B N k s).1 ≠ 0 := by
  unfold flS
  by_cases h : s.1 = 0
  · rw [if_pos h]
    show (if kj B N s.2.2.1 = 25 then 1 else k) ≠ 0
    split
    · decide
    · exact hk
  · rw [if_neg h]; exact h
theorem Pg_fl {k : Nat} {s t : PS} (hk : k ≠ 0) : Pg B N s (flS B N k t) := fun z => absurd z (flS_w hk)
theorem isS_w {k : Nat} {s : PS} (h : isS B N k s = true) : s.1 = 0 ∧ kj B N s.2.2.1 = k := of_decide_eq_true h
theorem nx_pj {s : PS} (hc : CB B N s) (h0 : s.1 = 0) (hk : kj B N s.2.2.1 ≠ 24) : s.2.2.1 + 1 ≤ pj B N (s.2.2.1 + 1) ∧ s.2.2.1 < N := by
  have h1 := pj_next hk
  have h2 := (hc h0).2
  have h3 := pj_le B N (s.2.2.1 + 1)
  exact ⟨by omega, by omega⟩
theorem Pg_nx {s : PS} (hc : CB B N s) (hk : kj B N s.2.2.1 ≠ 24) : Pg B N s (nxS s) := fun z => by
  have h := nx_pj hc z hk
  exact ⟨z, Nat.lt_succ_self _, by show s.2.2.2 173 ≤ s.2.2.2 173 ∧ s.2.2.2 173 + s.2.2.1 ≤ s.2.2.2 173 + (s.2.2.1 + 1); omega, h.1, fun _ _ => rfl⟩
theorem cdS_w {c : Nat} {s : PS} : (cdS c s).1 = s.1 := by
  unfold cdS
  split <;> rfl
theorem cdS_0 {c : Nat} {s : PS} (h : s.1 = 0) : (cdS c s).2.2.1 = s.2.2.1 ∧ (cdS c s).2.2.2 173 = s.2.2.2 173 + 1 := by
  unfold cdS
  rw [if_pos h]
  exact ⟨rfl, by simp [ug]⟩
theorem cdS_k {c k : Nat} {s : PS} (h : s.1 = 0) (hk : k < 173) : (cdS c s).2.2.2 k = s.2.2.2 k := by
  unfold cdS
  rw [if_pos h]
  show ug (ug s.2.2.2 (174 + s.2.2.2 173) c) 173 (s.2.2.2 173 + 1) k = _
  unfold ug
  rw [if_neg (by omega), if_neg (by omega)]
theorem Pg_cn {c : Nat} {s : PS} (hc : CB B N s) (hk : kj B N s.2.2.1 ≠ 24) : Pg B N s (nxS (cdS c s)) := fun z => by
  have z' : s.1 = 0 := by rw [← cdS_w (c := c)]; exact z
  have h := nx_pj hc z' hk
  obtain ⟨e1, e2⟩ := cdS_0 (c := c) z'
  refine ⟨z', ?_, ?_, ?_, fun k hk => cdS_k z' hk⟩
  · show s.2.2.1 < (cdS c s).2.2.1 + 1; omega
  · show s.2.2.2 173 ≤ (cdS c s).2.2.2 173 ∧ (cdS c s).2.2.2 173 + s.2.2.1 ≤ s.2.2.2 173 + ((cdS c s).2.2.1 + 1); omega
  · show (cdS c s).2.2.1 + 1 ≤ pj B N ((cdS c s).2.2.1 + 1)
    rw [e1]; exact h.1
/-- a token, something, a code -/
theorem Pg_ncd {c : Nat} {s : PS} {F : PS → PS} (hF : OkF B N F) (hc : CB B N s) (hk : kj B N s.2.2.1 ≠ 24) : Pg B N s (cdS c (F (nxS s))) ∧ ((F (nxS s)).1 = 0 → (F (nxS s)).2.2.2 173 < N) := by
  have h1 := Pg_nx hc hk
  have h2 := hF _ (Pg_cb h1 hc)
  constructor
  · intro z
    rw [cdS_w] at z
    obtain ⟨a1, a2, a3, a4, a5⟩ := h2 z
    obtain ⟨b1, b2, b3, b4, b5⟩ := h1 a1
    obtain ⟨e1, e2⟩ := cdS_0 (c := c) z
    have a3' : s.2.2.2 173 ≤ (F (nxS s)).2.2.2 173 ∧ (F (nxS s)).2.2.2 173 + (s.2.2.1 + 1) ≤ s.2.2.2 173 + (F (nxS s)).2.2.1 := a3
    have a2' : s.2.2.1 + 1 < (F (nxS s)).2.2.1 := a2
    rw [e1, e2]
    exact ⟨b1, by omega, by omega, a4, fun k hk => (cdS_k z hk).trans ((a5 k hk).trans (b5 k hk))⟩
  · intro z
    obtain ⟨a1, a2, a3, a4, a5⟩ := h2 z
    obtain ⟨c1, c2⟩ := hc (h1 a1).1
    have a3' : s.2.2.2 173 ≤ (F (nxS s)).2.2.2 173 ∧ (F (nxS s)).2.2.2 173 + (s.2.2.1 + 1) ≤ s.2.2.2 173 + (F (nxS s)).2.2.1 := a3
    have := pj_le B N (F (nxS s)).2.2.1
    omega
theorem Pg_lp {k c : Nat} {F : PS → PS} (hF : OkF B N F) (hk : k ≠ 24) : ∀ n s0 s, CB B N s → Pg B N s0 s → Pg B N s0 (lpS B N k c F n s)
  | 0, s0, s, _, h => h
  | n + 1, s0, s, hc, h => by
    rw [lpS]
    split
    · rename_i hi
      obtain ⟨h0, hkk⟩ := isS_w hi
      have h1 := (Pg_ncd (c := c) hF hc (by rw [hkk]; exact hk)).1
      exact Pg_lp hF hk n s0 _ (Pg_cb h1 hc) (Pg_tr h h1)
    · exact h
theorem ok_lp {k c n : Nat} {F : PS → PS} (hF : OkF B N F) (hk : k ≠ 24) : OkF B N (fun s => lpS B N k c F n (F s)) := fun s hc => Pg_lp hF hk n s _ (Pg_cb (hF s hc) hc) (hF s hc)
theorem Pg_pl {F : PS → PS} (hF : OkF B N F) : ∀ n s0 s, CB B N s → Pg B N s0 s → Pg B N s0 (plS B N F n s)
  | 0, s0, s, _, h => h
  | n + 1, s0, s, hc, h => by
    rw [plS]
    split
    · rename_i hi
      obtain ⟨h0, hkk⟩ := isS_w hi
      have h1 := (Pg_ncd (c := 3000) hF hc (by rw [hkk]; decide)).1
      exact Pg_pl hF n s0 _ (Pg_cb h1 hc) (Pg_tr h h1)
    · split
      · rename_i hi
        obtain ⟨h0, hkk⟩ := isS_w hi
        have h1 := (Pg_ncd (c := 3001) hF hc (by rw [hkk]; decide)).1
        exact Pg_pl hF n s0 _ (Pg_cb h1 hc) (Pg_tr h h1)
      · exact h
theorem ok_sm {F : PS → PS} (hF : OkF B N F) : OkF B N (smS B N F) := fun s hc => Pg_pl hF 1000 s _ (Pg_cb (hF s hc) hc) (hF s hc)
theorem wdO_24 (law : Nat) : wdO law 24 = none := by
  unfold wdO
  repeat' split
  all_goals first | rfl | contradiction
theorem gi_0 {r : Nat} {s : PS} (h : (giS B N r s).1 = 0) : r ≠ 0 ∧ s.1 = 0 ∧ giS B N r s = nxS s := by
  unfold giS at h ⊢
  by_cases h0 : s.1 = 0
  · rw [if_pos h0] at h ⊢
    by_cases hr : r = 0
    · rw [if_pos hr] at h; exact absurd h (flS_w (by decide))
    · rw [if_neg hr]; exact ⟨hr, h0, rfl⟩
  · rw [if_neg h0] at h; exact absurd h h0
/-- something between signs -/
theorem Pg_in {k r : Nat} {s : PS} {sub : PS → PS} (hs : r ≠ 0 → OkF B N sub) (hc : CB B N s) (hk : kj B N s.2.2.1 ≠ 24) (hk2 : k ≠ 24) : Pg B N s (if (giS B N r s).1 = 0 then (if isS B N k (sub (giS B N r s)) = true then nxS (sub (giS B N r s)) else flS B N 2 (sub (giS B N r s))) else giS B N r s) := by
  by_cases h0 : (giS B N r s).1 = 0
  · rw [if_pos h0]
    obtain ⟨g1, g2, g3⟩ := gi_0 h0
    rw [g3]
    have h1 := Pg_nx hc hk
    have h2 := hs g1 _ (Pg_cb h1 hc)
    split
    · rename_i hi
      have h3 := Pg_nx (Pg_cb h2 (Pg_cb h1 hc)) (by rw [(isS_w hi).2]; exact hk2)
      exact Pg_tr h1 (Pg_tr h2 h3)
    · exact Pg_fl (by decide)
  · rw [if_neg h0]; exact fun z => absurd z h0
theorem ok_at {law r : Nat} {sub : PS → PS} (hs : r ≠ 0 → OkF B N sub) : OkF B N (atS B N law r sub) := fun s hc => by
  unfold atS
  split
  · rename_i hi
    exact Pg_cn hc (by rw [(isS_w hi).2]; decide)
  · split
    · rename_i hi
      refine Pg_cn hc (fun z => ?_)
      rw [z, wdO_24] at hi
      cases hi.2
    · split
      · rename_i hi
        exact Pg_in hs hc (by rw [(isS_w hi).2]; decide) (by decide)
      · exact Pg_fl (by decide)
theorem ok_sumL {law : Nat} : ∀ r, OkF B N (sumL B N law r)
  | 0 => ok_sm (ok_lp (ok_at (fun z => absurd rfl z)) (by decide))
  | r + 1 => ok_sm (ok_lp (ok_at (fun _ => ok_sumL r)) (by decide))
theorem ok_un {law r : Nat} {sU sT : PS → PS} (hU : r ≠ 0 → OkF B N sU) (hT : r ≠ 0 → OkF B N sT) : OkF B N (unS B N law r sU sT) := fun s hc => by
  unfold unS
  split
  · rename_i hi
    obtain ⟨h0, hkk⟩ := isS_w hi
    by_cases g0 : (giS B N r s).1 = 0
    · rw [if_pos g0]
      obtain ⟨g1, g2, g3⟩ := gi_0 g0
      rw [g3]
      exact (Pg_ncd (hU g1) hc (by rw [hkk]; decide)).1
    · rw [if_neg g0]; exact fun z => absurd z g0
  · split
    · rename_i hi
      exact Pg_in hT hc (by rw [(isS_w hi).2]; decide) (by decide)
    · have h1 := ok_sumL (law := law) r s hc
      have c1 := Pg_cb h1 hc
      unfold cmS
      split
      · rename_i hi
        have hk : kj B N (sumL B N law r s).2.2.1 ≠ 24 := by
          rcases hi with q | q | q <;> rw [(isS_w q).2] <;> decide
        exact Pg_tr h1 (Pg_ncd (ok_sumL (law := law) r) c1 hk).1
      · intro z
        rw [cdS_w] at z
        have h2 := ok_sumL (B := B) (N := N) (law := law) r (flS B N 2 (sumL B N law r s)) (fun y => absurd y (flS_w (by decide)))
        exact absurd (h2 z).1 (flS_w (by decide))
theorem ok_untL {law : Nat} : ∀ r, OkF B N (untL B N law r)
  | 0 => ok_un (fun z => absurd rfl z) (fun z => absurd rfl z)
  | r + 1 => ok_un (fun _ => ok_untL r) (fun _ => ok_lp (ok_lp (ok_untL r) (by decide)) (by decide))
theorem ok_boL {law r : Nat} : OkF B N (boS B N (untL B N law r)) := ok_lp (ok_untL r) (by decide)
theorem ok_truL {law r : Nat} : OkF B N (truL B N law r) := ok_lp ok_boL (by decide)
end
/-- a method of the reader does F -/
def Ct (B : Nat → Nat) (N law z : Nat) (args : List Value) (d : Nat) (F : PS → PS) : Prop := ∀ (i : Nat → Nat → Int32) (l : Nat → Nat → Int64) (s : PS), RP B N i s → TP i B N → i 0 15 = nI law → CB B N s → MR none (fun i' l' => l' = l ∧ Fx [4, 106, 107, 109, 110, 111, 112] i i' ∧ RP B N i' (F s)) (am_cl d z args (i, l, rM, kM))
section
variable {i : Nat → Nat → Int32} {l : Nat → Nat → Int64} {B : Nat → Nat} {N : Nat}
theorem s_M_wordOf (d : Nat) {law k : Nat} (hk : k < 100) (hl : law < 2) (h15 : i 0 15 = nI law) : am_cl (d + 1) mM_wordOf [.ref 0, .int (nI k)] (i, l, rM, kM) = some (some (.int (vW (wdO law k))), (i, l, rM, kM)) := by
  rw [c_M_wordOf, b_M_wordOf_0]
  unfold wdO
  by_cases k10 : k = 10
  · simp (disch := first | assumption | omega) only [b_M_wordOf_0, b_M_wordOf_62, b_M_wordOf_108, ↓Bool.cond_decide, ↓q_in, q_le, q_lt, q_eq, q_leT, q_leF, q_ltT, q_ltF, q_eqT, q_eqF, ↓reduceIte, not_true_eq_false, not_false_eq_true, true_and, and_true, and_self, false_and, and_false, Nat.zero_le, am_bd_some, q_app, q_app0, nI_add, pk_sub, pk_mul, q_dec, q_ix, q_m1, q_m1', ↓q_ret, q_bool, q_bool1, q_u2, q_u1, q_shl1, q_shr, q_and7, q_dg, fa_or, fa_and, decide_true, decide_false, Bool.or_false, Bool.or_true, Bool.true_or, Bool.false_or, cond_true, cond_false, ite_not, q_some, q_nn, q_xor, q_xorm, Bool.false_eq_true, decide_eq_true_eq, ne_eq, l_0, l_1, l_2, l_3, l_4, l_5, l_6, l_7, l_8, l_9, l_10, l_11, l_12, l_13, l_14, l_15, l_16, l_59, l_62, l_108, k10, q_vW1]
  by_cases k5 : k = 5
  · simp (disch := first | assumption | omega) only [b_M_wordOf_0, b_M_wordOf_62, b_M_wordOf_108, ↓Bool.cond_decide, ↓q_in, q_le, q_lt, q_eq, q_leT, q_leF, q_ltT, q_ltF, q_eqT, q_eqF, ↓reduceIte, not_true_eq_false, not_false_eq_true, true_and, and_true, and_self, false_and, and_false, Nat.zero_le, am_bd_some, q_app, q_app0, nI_add, pk_sub, pk_mul, q_dec, q_ix, q_m1, q_m1', ↓q_ret, q_bool, q_bool1, q_u2, q_u1, q_shl1, q_shr, q_and7, q_dg, fa_or, fa_and, decide_true, decide_false, Bool.or_false, Bool.or_true, Bool.true_or, Bool.false_or, cond_true, cond_false, ite_not, q_some, q_nn, q_xor, q_xorm, Bool.false_eq_true, decide_eq_true_eq, ne_eq, l_0, l_1, l_2, l_3, l_4, l_5, l_6, l_7, l_8, l_9, l_10, l_11, l_12, l_13, l_14, l_15, l_16, l_59, l_62, l_108, k5, q_vW1]
  by_cases hl0 : law = 0
  · by_cases k11 : k = 11
    · simp (disch := first | assumption | omega) only [b_M_wordOf_0, b_M_wordOf_62, b_M_wordOf_108, ↓Bool.cond_decide, ↓q_in, q_le, q_lt, q_eq, q_leT, q_leF, q_ltT, q_ltF, q_eqT, q_eqF, ↓reduceIte, not_true_eq_false, not_false_eq_true, true_and, and_true, and_self, false_and, and_false, Nat.zero_le, am_bd_some, q_app, q_app0, nI_add, pk_sub, pk_mul, q_dec, q_ix, q_m1, q_m1', ↓q_ret, q_bool, q_bool1, q_u2, q_u1, q_shl1, q_shr, q_and7, q_dg, fa_or, fa_and, decide_true, decide_false, Bool.or_false, Bool.or_true, Bool.true_or, Bool.false_or, cond_true, cond_false, ite_not, q_some, q_nn, q_xor, q_xorm, Bool.false_eq_true, decide_eq_true_eq, ne_eq, l_0, l_1, l_2, l_3, l_4, l_5, l_6, l_7, l_8, l_9, l_10, l_11, l_12, l_13, l_14, l_15, l_16, l_59, l_62, l_108, h15, hl0, k11, q_vW1]
    by_cases k1 : k = 1
    · simp (disch := first | assumption | omega) only [b_M_wordOf_0, b_M_wordOf_62, b_M_wordOf_108, ↓Bool.cond_decide, ↓q_in, q_le, q_lt, q_eq, q_leT, q_leF, q_ltT, q_ltF, q_eqT, q_eqF, ↓reduceIte, not_true_eq_false, not_false_eq_true, true_and, and_true, and_self, false_and, and_false, Nat.zero_le, am_bd_some, q_app, q_app0, nI_add, pk_sub, pk_mul, q_dec, q_ix, q_m1, q_m1', ↓q_ret, q_bool, q_bool1, q_u2, q_u1, q_shl1, q_shr, q_and7, q_dg, fa_or, fa_and, decide_true, decide_false, Bool.or_false, Bool.or_true, Bool.true_or, Bool.false_or, cond_true, cond_false, ite_not, q_some, q_nn, q_xor, q_xorm, Bool.false_eq_true, decide_eq_true_eq, ne_eq, l_0, l_1, l_2, l_3, l_4, l_5, l_6, l_7, l_8, l_9, l_10, l_11, l_12, l_13, l_14, l_15, l_16, l_59, l_62, l_108, h15, hl0, k1, q_vW1]
    by_cases k12 : k = 12
    · simp (disch := first | assumption | omega) only [b_M_wordOf_0, b_M_wordOf_62, b_M_wordOf_108, ↓Bool.cond_decide, ↓q_in, q_le, q_lt, q_eq, q_leT, q_leF, q_ltT, q_ltF, q_eqT, q_eqF, ↓reduceIte, not_true_eq_false, not_false_eq_true, true_and, and_true, and_self, false_and, and_false, Nat.zero_le, am_bd_some, q_app, q_app0, nI_add, pk_sub, pk_mul, q_dec, q_ix, q_m1, q_m1', ↓q_ret, q_bool, q_bool1, q_u2, q_u1, q_shl1, q_shr, q_and7, q_dg, fa_or, fa_and, decide_true, decide_false, Bool.or_false, Bool.or_true, Bool.true_or, Bool.false_or, cond_true, cond_false, ite_not, q_some, q_nn, q_xor, q_xorm, Bool.false_eq_true, decide_eq_true_eq, ne_eq, l_0, l_1, l_2, l_3, l_4, l_5, l_6, l_7, l_8, l_9, l_10, l_11, l_12, l_13, l_14, l_15, l_16, l_59, l_62, l_108, h15, hl0, k12, q_vW1]
    by_cases k13 : k = 13
    · simp (disch := first | assumption | omega) only [b_M_wordOf_0, b_M_wordOf_62, b_M_wordOf_108, ↓Bool.cond_decide, ↓q_in, q_le, q_lt, q_eq, q_leT, q_leF, q_ltT, q_ltF, q_eqT, q_eqF, ↓reduceIte, not_true_eq_false, not_false_eq_true, true_and, and_true, and_self, false_and, and_false, Nat.zero_le, am_bd_some, q_app, q_app0, nI_add, pk_sub, pk_mul, q_dec, q_ix, q_m1, q_m1', ↓q_ret, q_bool, q_bool1, q_u2, q_u1, q_shl1, q_shr, q_and7, q_dg, fa_or, fa_and, decide_true, decide_false, Bool.or_false, Bool.or_true, Bool.true_or, Bool.false_or, cond_true, cond_false, ite_not, q_some, q_nn, q_xor, q_xorm, Bool.false_eq_true, decide_eq_true_eq, ne_eq, l_0, l_1, l_2, l_3, l_4, l_5, l_6, l_7, l_8, l_9, l_10, l_11, l_12, l_13, l_14, l_15, l_16, l_59, l_62, l_108, h15, hl0, k13, q_vW1]
    · simp (disch := first | assumption | omega) only [b_M_wordOf_0, b_M_wordOf_62, b_M_wordOf_108, ↓Bool.cond_decide, ↓q_in, q_le, q_lt, q_eq, q_leT, q_leF, q_ltT, q_ltF, q_eqT, q_eqF, ↓reduceIte, not_true_eq_false, not_false_eq_true, true_and, and_true, and_self, false_and, and_false, Nat.zero_le, am_bd_some, q_app, q_app0, nI_add, pk_sub, pk_mul, q_dec, q_ix, q_m1, q_m1', ↓q_ret, q_bool, q_bool1, q_u2, q_u1, q_shl1, q_shr, q_and7, q_dg, fa_or, fa_and, decide_true, decide_false, Bool.or_false, Bool.or_true, Bool.true_or, Bool.false_or, cond_true, cond_false, ite_not, q_some, q_nn, q_xor, q_xorm, Bool.false_eq_true, decide_eq_true_eq, ne_eq, l_0, l_1, l_2, l_3, l_4, l_5, l_6, l_7, l_8, l_9, l_10, l_11, l_12, l_13, l_14, l_15, l_16, l_59, l_62, l_108, h15, hl0, q_vW0]
  · by_cases k6 : k = 6
    · simp (disch := first | assumption | omega) only [b_M_wordOf_0, b_M_wordOf_62, b_M_wordOf_108, ↓Bool.cond_decide, ↓q_in, q_le, q_lt, q_eq, q_leT, q_leF, q_ltT, q_ltF, q_eqT, q_eqF, ↓reduceIte, not_true_eq_false, not_false_eq_true, true_and, and_true, and_self, false_and, and_false, Nat.zero_le, am_bd_some, q_app, q_app0, nI_add, pk_sub, pk_mul, q_dec, q_ix, q_m1, q_m1', ↓q_ret, q_bool, q_bool1, q_u2, q_u1, q_shl1, q_shr, q_and7, q_dg, fa_or, fa_and, decide_true, decide_false, Bool.or_false, Bool.or_true, Bool.true_or, Bool.false_or, cond_true, cond_false, ite_not, q_some, q_nn, q_xor, q_xorm, Bool.false_eq_true, decide_eq_true_eq, ne_eq, l_0, l_1, l_2, l_3, l_4, l_5, l_6, l_7, l_8, l_9, l_10, l_11, l_12, l_13, l_14, l_15, l_16, l_59, l_62, l_108, h15, hl0, k6, q_vW1]
    by_cases k14 : k = 14
    · simp (disch := first | assumption | omega) only [b_M_wordOf_0, b_M_wordOf_62, b_M_wordOf_108, ↓Bool.cond_decide, ↓q_in, q_le, q_lt, q_eq, q_leT, q_leF, q_ltT, q_ltF, q_eqT, q_eqF, ↓reduceIte, not_true_eq_false, not_false_eq_true, true_and, and_true, and_self, false_and, and_false, Nat.zero_le, am_bd_some, q_app, q_app0, nI_add, pk_sub, pk_mul, q_dec, q_ix, q_m1, q_m1', ↓q_ret, q_bool, q_bool1, q_u2, q_u1, q_shl1, q_shr, q_and7, q_dg, fa_or, fa_and, decide_true, decide_false, Bool.or_false, Bool.or_true, Bool.true_or, Bool.false_or, cond_true, cond_false, ite_not, q_some, q_nn, q_xor, q_xorm, Bool.false_eq_true, decide_eq_true_eq, ne_eq, l_0, l_1, l_2, l_3, l_4, l_5, l_6, l_7, l_8, l_9, l_10, l_11, l_12, l_13, l_14, l_15, l_16, l_59, l_62, l_108, h15, hl0, k14, q_vW1]
    by_cases k15 : k = 15
    · simp (disch := first | assumption | omega) only [b_M_wordOf_0, b_M_wordOf_62, b_M_wordOf_108, ↓Bool.cond_decide, ↓q_in, q_le, q_lt, q_eq, q_leT, q_leF, q_ltT, q_ltF, q_eqT, q_eqF, ↓reduceIte, not_true_eq_false, not_false_eq_true, true_and, and_true, and_self, false_and, and_false, Nat.zero_le, am_bd_some, q_app, q_app0, nI_add, pk_sub, pk_mul, q_dec, q_ix, q_m1, q_m1', ↓q_ret, q_bool, q_bool1, q_u2, q_u1, q_shl1, q_shr, q_and7, q_dg, fa_or, fa_and, decide_true, decide_false, Bool.or_false, Bool.or_true, Bool.true_or, Bool.false_or, cond_true, cond_false, ite_not, q_some, q_nn, q_xor, q_xorm, Bool.false_eq_true, decide_eq_true_eq, ne_eq, l_0, l_1, l_2, l_3, l_4, l_5, l_6, l_7, l_8, l_9, l_10, l_11, l_12, l_13, l_14, l_15, l_16, l_59, l_62, l_108, h15, hl0, k15, q_vW1]
    by_cases k16 : k = 16
    · simp (disch := first | assumption | omega) only [b_M_wordOf_0, b_M_wordOf_62, b_M_wordOf_108, ↓Bool.cond_decide, ↓q_in, q_le, q_lt, q_eq, q_leT, q_leF, q_ltT, q_ltF, q_eqT, q_eqF, ↓reduceIte, not_true_eq_false, not_false_eq_true, true_and, and_true, and_self, false_and, and_false, Nat.zero_le, am_bd_some, q_app, q_app0, nI_add, pk_sub, pk_mul, q_dec, q_ix, q_m1, q_m1', ↓q_ret, q_bool, q_bool1, q_u2, q_u1, q_shl1, q_shr, q_and7, q_dg, fa_or, fa_and, decide_true, decide_false, Bool.or_false, Bool.or_true, Bool.true_or, Bool.false_or, cond_true, cond_false, ite_not, q_some, q_nn, q_xor, q_xorm, Bool.false_eq_true, decide_eq_true_eq, ne_eq, l_0, l_1, l_2, l_3, l_4, l_5, l_6, l_7, l_8, l_9, l_10, l_11, l_12, l_13, l_14, l_15, l_16, l_59, l_62, l_108, h15, hl0, k16, q_vW1]
    · simp (disch := first | assumption | omega) only [b_M_wordOf_0, b_M_wordOf_62, b_M_wordOf_108, ↓Bool.cond_decide, ↓q_in, q_le, q_lt, q_eq, q_leT, q_leF, q_ltT, q_ltF, q_eqT, q_eqF, ↓reduceIte, not_true_eq_false, not_false_eq_true, true_and, and_true, and_self, false_and, and_false, Nat.zero_le, am_bd_some, q_app, q_app0, nI_add, pk_sub, pk_mul, q_dec, q_ix, q_m1, q_m1', ↓q_ret, q_bool, q_bool1, q_u2, q_u1, q_shl1, q_shr, q_and7, q_dg, fa_or, fa_and, decide_true, decide_false, Bool.or_false, Bool.or_true, Bool.true_or, Bool.false_or, cond_true, cond_false, ite_not, q_some, q_nn, q_xor, q_xorm, Bool.false_eq_true, decide_eq_true_eq, ne_eq, l_0, l_1, l_2, l_3, l_4, l_5, l_6, l_7, l_8, l_9, l_10, l_11, l_12, l_13, l_14, l_15, l_16, l_59, l_62, l_108, h15, hl0, q_vW0]
theorem r_M_goesIn (d : Nat) {dp r : Nat} {s : PS} (hdr : dp + r = 6) (hT : TP i B N) (hR : RP B N i s) (h0 : s.1 = 0) : MR (some (.int (if (giS B N r s).1 = 0 then nI 1 else nI 0))) (fun i' l' => l' = l ∧ Fx [106, 107, 109, 110, 111, 112] i i' ∧ RP B N i' (giS B N r s)) (am_cl (d + 3) mM_goesIn [.ref 0, .int (nI dp)] (i, l, rM, kM)) := by
  have h11 := hR.1
  refine MR_q ?_
  intro Q hQ
  rw [c_M_goesIn, b_M_goesIn_0]
  by_cases hr : r = 0
  · have hd6 : dp = 6 := by omega
    have eg : giS B N r s = flS B N 4 s := by unfold giS; rw [if_pos h0, if_pos hr]
    have hw := flS_w (B := B) (N := N) (k := 4) (s := s) (by decide)
    rw [eg] at hQ ⊢
    simp (disch := first | assumption | omega) only [b_M_goesIn_0, b_M_goesIn_11, b_M_goesIn_22, b_M_goesIn_34, ↓Bool.cond_decide, ↓q_in, q_le, q_lt, q_eq, q_leT, q_leF, q_ltT, q_ltF, q_eqT, q_eqF, ↓reduceIte, not_true_eq_false, not_false_eq_true, true_and, and_true, and_self, false_and, and_false, Nat.zero_le, am_bd_some, q_app, q_app0, nI_add, pk_sub, pk_mul, q_dec, q_ix, q_m1, q_m1', ↓q_ret, q_bool, q_bool1, q_u2, q_u1, q_shl1, q_shr, q_and7, q_dg, fa_or, fa_and, decide_true, decide_false, Bool.or_false, Bool.or_true, Bool.true_or, Bool.false_or, cond_true, cond_false, ite_not, q_some, q_nn, q_xor, q_xorm, Bool.false_eq_true, decide_eq_true_eq, ne_eq, l_0, l_1, l_3, l_4, l_6, l_8, l_9, l_10, l_11, l_22, l_34, hd6]
    refine MR_bd (r_M_fails (d + 1) (by decide) (by decide) hT.1 hR) ?_
    intro i2 l2 ⟨hl2, hf2, hR2⟩
    subst hl2
    have h112 := hR2.1
    have h4 := hR2.2.1
    simp (disch := first | assumption | omega) only [b_M_goesIn_0, b_M_goesIn_11, b_M_goesIn_22, b_M_goesIn_34, ↓Bool.cond_decide, ↓q_in, q_le, q_lt, q_eq, q_leT, q_leF, q_ltT, q_ltF, q_eqT, q_eqF, ↓reduceIte, not_true_eq_false, not_false_eq_true, true_and, and_true, and_self, false_and, and_false, Nat.zero_le, am_bd_some, q_app, q_app0, nI_add, pk_sub, pk_mul, q_dec, q_ix, q_m1, q_m1', ↓q_ret, q_bool, q_bool1, q_u2, q_u1, q_shl1, q_shr, q_and7, q_dg, fa_or, fa_and, decide_true, decide_false, Bool.or_false, Bool.or_true, Bool.true_or, Bool.false_or, cond_true, cond_false, ite_not, q_some, q_nn, q_xor, q_xorm, Bool.false_eq_true, decide_eq_true_eq, ne_eq, l_0, l_1, l_3, l_4, l_6, l_8, l_9, l_10, l_11, l_22, l_34, h112, hw]
    exact MR_some (hQ _ _ ⟨rfl, by (repeat (first | exact Fx_refl _ _ | assumption | refine Fx_u2 rfl ?_ | refine Fx_u1 rfl (by decide) ?_ | refine Fx_step (by assumption) rfl ?_ | refine Fx_stepr (by assumption) rfl rfl ?_)), hR2⟩)
  · have eg : giS B N r s = nxS s := by unfold giS; rw [if_pos h0, if_neg hr]
    have hw : (nxS s).1 = 0 := h0
    rw [eg] at hQ ⊢
    simp (disch := first | assumption | omega) only [b_M_goesIn_0, b_M_goesIn_11, b_M_goesIn_22, b_M_goesIn_34, ↓Bool.cond_decide, ↓q_in, q_le, q_lt, q_eq, q_leT, q_leF, q_ltT, q_ltF, q_eqT, q_eqF, ↓reduceIte, not_true_eq_false, not_false_eq_true, true_and, and_true, and_self, false_and, and_false, Nat.zero_le, am_bd_some, q_app, q_app0, nI_add, pk_sub, pk_mul, q_dec, q_ix, q_m1, q_m1', ↓q_ret, q_bool, q_bool1, q_u2, q_u1, q_shl1, q_shr, q_and7, q_dg, fa_or, fa_and, decide_true, decide_false, Bool.or_false, Bool.or_true, Bool.true_or, Bool.false_or, cond_true, cond_false, ite_not, q_some, q_nn, q_xor, q_xorm, Bool.false_eq_true, decide_eq_true_eq, ne_eq, l_0, l_1, l_3, l_4, l_6, l_8, l_9, l_10, l_11, l_22, l_34, h11, h0]
    refine MR_bd (r_M_nx d hT hR h0) ?_
    intro i2 l2 ⟨hl2, hf2, hR2⟩
    subst hl2
    have h112 := hR2.1
    rw [hw] at h112
    simp (disch := first | assumption | omega) only [b_M_goesIn_0, b_M_goesIn_11, b_M_goesIn_22, b_M_goesIn_34, ↓Bool.cond_decide, ↓q_in, q_le, q_lt, q_eq, q_leT, q_leF, q_ltT, q_ltF, q_eqT, q_eqF, ↓reduceIte, not_true_eq_false, not_false_eq_true, true_and, and_true, and_self, false_and, and_false, Nat.zero_le, am_bd_some, q_app, q_app0, nI_add, pk_sub, pk_mul, q_dec, q_ix, q_m1, q_m1', ↓q_ret, q_bool, q_bool1, q_u2, q_u1, q_shl1, q_shr, q_and7, q_dg, fa_or, fa_and, decide_true, decide_false, Bool.or_false, Bool.or_true, Bool.true_or, Bool.false_or, cond_true, cond_false, ite_not, q_some, q_nn, q_xor, q_xorm, Bool.false_eq_true, decide_eq_true_eq, ne_eq, l_0, l_1, l_3, l_4, l_6, l_8, l_9, l_10, l_11, l_22, l_34, h112, hw]
    exact MR_some (hQ _ _ ⟨rfl, by (repeat (first | exact Fx_refl _ _ | assumption | refine Fx_u2 rfl ?_ | refine Fx_u1 rfl (by decide) ?_ | refine Fx_step (by assumption) rfl ?_ | refine Fx_stepr (by assumption) rfl rfl ?_)), hR2⟩)
theorem r_M_takes (d : Nat) {lo hi : Nat} {s : PS} (hlo : lo < 100) (hhi : hi < 100) (hT : TP i B N) (hR : RP B N i s) : ∃ v, ((tkS B N lo hi s).1 = 0 → v = nI (uj B N s.2.2.1)) ∧ MR (some (.int v)) (fun i' l' => l' = l ∧ Fx [106, 107, 109, 110, 111, 112] i i' ∧ RP B N i' (tkS B N lo hi s)) (am_cl (d + 3) mM_takes [.ref 0, .int (nI lo), .int (nI hi)] (i, l, rM, kM)) := by
  have h11 := hR.1
  have h114 := hR.2.1
  have his := s_M_is (i := i) (l := l) (d + 1) (k := 23) (by decide) hR
  have huj : uj B N s.2.2.1 < 1000 ∨ kj B N s.2.2.1 ≠ 23 := by
    by_cases h23 : kj B N s.2.2.1 = 23
    · left
      have hb := aj_le B N s.2.2.1
      have hte := te_le (B := B) hb.2
      unfold uj num
      have hm3 : mn 3 (bj B N s.2.2.1 - aj B N s.2.2.1) ≤ 3 := by unfold mn; split <;> omega
      have hm4 := mn_le 3 (bj B N s.2.2.1 - aj B N s.2.2.1)
      have hd : isD B (aj B N s.2.2.1) = true ∧ isL B (aj B N s.2.2.1) ≠ true ∧ ¬ N ≤ aj B N s.2.2.1 := by
        unfold kj knd at h23
        by_cases c1 : N ≤ aj B N s.2.2.1
        · rw [if_pos c1] at h23; cases h23
        · rw [if_neg c1] at h23
          by_cases c2 : isL B (aj B N s.2.2.1) = true
          · rw [if_pos c2] at h23
            have := key_le B (aj B N s.2.2.1) (te B N (aj B N s.2.2.1)); omega
          · rw [if_neg c2] at h23
            by_cases c3 : isD B (aj B N s.2.2.1) = true
            · exact ⟨c3, c2, c1⟩
            · rw [if_neg c3] at h23
              have := sgK_25 (B (aj B N s.2.2.1)) 12; omega
      have hrn : bj B N s.2.2.1 = rn (isD B) N (aj B N s.2.2.1) := by unfold bj te; rw [if_neg hd.2.2, if_neg hd.2.1, if_pos hd.1]
      have hq := (rn_is (P := isD B) hb.2).2.2.1
      rw [← hrn] at hq
      have := nm_lt (a := aj B N s.2.2.1) hT.2.2.2 _ hm3 (fun k hk => hq (aj B N s.2.2.1 + k) (by omega) (by omega))
      have hp : 10 ^ mn 3 (bj B N s.2.2.1 - aj B N s.2.2.1) ≤ 1000 := Nat.le_trans (Nat.pow_le_pow_right (by decide) hm3) (by decide)
      omega
    · exact Or.inr h23
  by_cases h0 : s.1 = 0
  · obtain ⟨q1, q2, q3, q4, q5⟩ := hR.2.2.2 h0
    by_cases h23 : kj B N s.2.2.1 = 23
    · have hu : uj B N s.2.2.1 < 1000 := huj.elim id (fun z => absurd h23 z)
      have h10 := q4 h23
      have hi23 : isS B N 23 s = true := decide_eq_true ⟨h0, h23⟩
      have ew : (Int32.toInt64 (nI lo) ≤ Int32.toInt64 (nI (uj B N s.2.2.1)) ∧ Int32.toInt64 (nI (uj B N s.2.2.1)) ≤ Int32.toInt64 (nI hi)) = (lo ≤ uj B N s.2.2.1 ∧ uj B N s.2.2.1 ≤ hi) := by
        rw [nI_l (by omega), nI_l (by omega), nI_l (by omega), propext (pk_lLE (a := lo) (b := uj B N s.2.2.1) (by omega) (by omega)), propext (pk_lLE (a := uj B N s.2.2.1) (b := hi) (by omega) (by omega))]
      by_cases hin : lo ≤ uj B N s.2.2.1 ∧ uj B N s.2.2.1 ≤ hi
      · have et : tkS B N lo hi s = nxS s := by unfold tkS; rw [if_pos h0, if_pos h23, if_pos hin]
        refine ⟨nI (uj B N s.2.2.1), fun _ => rfl, ?_⟩
        rw [et]
        refine MR_q ?_
        intro Q hQ
        rw [c_M_takes, b_M_takes_0]
        simp (disch := first | assumption | omega) only [b_M_takes_0, b_M_takes_6, b_M_takes_14, b_M_takes_29, b_M_takes_37, b_M_takes_53, s_M_within, ↓Bool.cond_decide, ↓q_in, q_le, q_lt, q_eq, q_leT, q_leF, q_ltT, q_ltF, q_eqT, q_eqF, ↓reduceIte, not_true_eq_false, not_false_eq_true, true_and, and_true, and_self, false_and, and_false, Nat.zero_le, am_bd_some, q_app, q_app0, nI_add, pk_sub, pk_mul, q_dec, q_ix, q_m1, q_m1', ↓q_ret, q_bool, q_bool1, q_u2, q_u1, q_shl1, q_shr, q_and7, q_dg, fa_or, fa_and, decide_true, decide_false, Bool.or_false, Bool.or_true, Bool.true_or, Bool.false_or, cond_true, cond_false, ite_not, q_some, q_nn, q_xor, q_xorm, Bool.false_eq_true, decide_eq_true_eq, ne_eq, l_0, l_1, l_2, l_3, l_4, l_5, l_6, l_7, l_10, l_11, l_14, l_23, l_29, l_37, l_53, his, hi23, h10, ew, hin, h11, h0]
        refine MR_bd (r_M_nx d hT hR h0) ?_
        intro i2 l2 ⟨hl2, hf2, hR2⟩
        subst hl2
        simp (disch := first | assumption | omega) only [b_M_takes_0, b_M_takes_6, b_M_takes_14, b_M_takes_29, b_M_takes_37, b_M_takes_53, s_M_is, s_M_within, ↓Bool.cond_decide, ↓q_in, q_le, q_lt, q_eq, q_leT, q_leF, q_ltT, q_ltF, q_eqT, q_eqF, ↓reduceIte, not_true_eq_false, not_false_eq_true, true_and, and_true, and_self, false_and, and_false, Nat.zero_le, am_bd_some, q_app, q_app0, nI_add, pk_sub, pk_mul, q_dec, q_ix, q_m1, q_m1', ↓q_ret, q_bool, q_bool1, q_u2, q_u1, q_shl1, q_shr, q_and7, q_dg, fa_or, fa_and, decide_true, decide_false, Bool.or_false, Bool.or_true, Bool.true_or, Bool.false_or, cond_true, cond_false, ite_not, q_some, q_nn, q_xor, q_xorm, Bool.false_eq_true, decide_eq_true_eq, ne_eq, l_0, l_1, l_2, l_3, l_4, l_5, l_6, l_7, l_10, l_11, l_14, l_23, l_29, l_37, l_53]
        exact MR_some (hQ _ _ ⟨rfl, by (repeat (first | exact Fx_refl _ _ | assumption | refine Fx_u2 rfl ?_ | refine Fx_u1 rfl (by decide) ?_ | refine Fx_step (by assumption) rfl ?_ | refine Fx_stepr (by assumption) rfl rfl ?_)), hR2⟩)
      · have et : tkS B N lo hi s = flS B N 3 s := by unfold tkS; rw [if_pos h0, if_pos h23, if_neg hin]
        have hw := flS_w (B := B) (N := N) (k := 3) (s := s) (by decide)
        refine ⟨nI (uj B N s.2.2.1), fun _ => rfl, ?_⟩
        rw [et]
        refine MR_q ?_
        intro Q hQ
        rw [c_M_takes, b_M_takes_0]
        simp (disch := first | assumption | omega) only [b_M_takes_0, b_M_takes_6, b_M_takes_14, b_M_takes_29, b_M_takes_37, b_M_takes_53, s_M_within, ↓Bool.cond_decide, ↓q_in, q_le, q_lt, q_eq, q_leT, q_leF, q_ltT, q_ltF, q_eqT, q_eqF, ↓reduceIte, not_true_eq_false, not_false_eq_true, true_and, and_true, and_self, false_and, and_false, Nat.zero_le, am_bd_some, q_app, q_app0, nI_add, pk_sub, pk_mul, q_dec, q_ix, q_m1, q_m1', ↓q_ret, q_bool, q_bool1, q_u2, q_u1, q_shl1, q_shr, q_and7, q_dg, fa_or, fa_and, decide_true, decide_false, Bool.or_false, Bool.or_true, Bool.true_or, Bool.false_or, cond_true, cond_false, ite_not, q_some, q_nn, q_xor, q_xorm, Bool.false_eq_true, decide_eq_true_eq, ne_eq, l_0, l_1, l_2, l_3, l_4, l_5, l_6, l_7, l_10, l_11, l_14, l_23, l_29, l_37, l_53, his, hi23, h10, ew, hin]
        refine MR_bd (r_M_fails (d + 1) (by decide) (by decide) hT.1 hR) ?_
        intro i2 l2 ⟨hl2, hf2, hR2⟩
        subst hl2
        have h112 := hR2.1
        have h4 := hR2.2.1
        have h102 : i2 0 10 = nI (uj B N s.2.2.1) := by rw [hf2 0 10 rfl]; exact h10
        simp (disch := first | assumption | omega) only [b_M_takes_0, b_M_takes_6, b_M_takes_14, b_M_takes_29, b_M_takes_37, b_M_takes_53, s_M_is, s_M_within, ↓Bool.cond_decide, ↓q_in, q_le, q_lt, q_eq, q_leT, q_leF, q_ltT, q_ltF, q_eqT, q_eqF, ↓reduceIte, not_true_eq_false, not_false_eq_true, true_and, and_true, and_self, false_and, and_false, Nat.zero_le, am_bd_some, q_app, q_app0, nI_add, pk_sub, pk_mul, q_dec, q_ix, q_m1, q_m1', ↓q_ret, q_bool, q_bool1, q_u2, q_u1, q_shl1, q_shr, q_and7, q_dg, fa_or, fa_and, decide_true, decide_false, Bool.or_false, Bool.or_true, Bool.true_or, Bool.false_or, cond_true, cond_false, ite_not, q_some, q_nn, q_xor, q_xorm, Bool.false_eq_true, decide_eq_true_eq, ne_eq, l_0, l_1, l_2, l_3, l_4, l_5, l_6, l_7, l_10, l_11, l_14, l_23, l_29, l_37, l_53, h112, hw, h102]
        exact MR_some (hQ _ _ ⟨rfl, by (repeat (first | exact Fx_refl _ _ | assumption | refine Fx_u2 rfl ?_ | refine Fx_u1 rfl (by decide) ?_ | refine Fx_step (by assumption) rfl ?_ | refine Fx_stepr (by assumption) rfl rfl ?_)), hR2⟩)
    · have hi23 : isS B N 23 s = false := decide_eq_false (fun z => h23 z.2)
      have et : tkS B N lo hi s = flS B N 2 s := by unfold tkS; rw [if_pos h0, if_neg h23]
      have hw := flS_w (B := B) (N := N) (k := 2) (s := s) (by decide)
      refine ⟨i 0 10, fun z => absurd z (by rw [et]; exact hw), ?_⟩
      rw [et]
      refine MR_q ?_
      intro Q hQ
      rw [c_M_takes, b_M_takes_0]
      simp (disch := first | assumption | omega) only [b_M_takes_0, b_M_takes_6, b_M_takes_14, b_M_takes_29, b_M_takes_37, b_M_takes_53, s_M_within, ↓Bool.cond_decide, ↓q_in, q_le, q_lt, q_eq, q_leT, q_leF, q_ltT, q_ltF, q_eqT, q_eqF, ↓reduceIte, not_true_eq_false, not_false_eq_true, true_and, and_true, and_self, false_and, and_false, Nat.zero_le, am_bd_some, q_app, q_app0, nI_add, pk_sub, pk_mul, q_dec, q_ix, q_m1, q_m1', ↓q_ret, q_bool, q_bool1, q_u2, q_u1, q_shl1, q_shr, q_and7, q_dg, fa_or, fa_and, decide_true, decide_false, Bool.or_false, Bool.or_true, Bool.true_or, Bool.false_or, cond_true, cond_false, ite_not, q_some, q_nn, q_xor, q_xorm, Bool.false_eq_true, decide_eq_true_eq, ne_eq, l_0, l_1, l_2, l_3, l_4, l_5, l_6, l_7, l_10, l_11, l_14, l_23, l_29, l_37, l_53, his, hi23]
      refine MR_bd (r_M_fails (d + 1) (by decide) (by decide) hT.1 hR) ?_
      intro i2 l2 ⟨hl2, hf2, hR2⟩
      subst hl2
      have h112 := hR2.1
      have h4 := hR2.2.1
      have h102 : i2 0 10 = i 0 10 := hf2 0 10 rfl
      simp (disch := first | assumption | omega) only [b_M_takes_0, b_M_takes_6, b_M_takes_14, b_M_takes_29, b_M_takes_37, b_M_takes_53, s_M_is, s_M_within, ↓Bool.cond_decide, ↓q_in, q_le, q_lt, q_eq, q_leT, q_leF, q_ltT, q_ltF, q_eqT, q_eqF, ↓reduceIte, not_true_eq_false, not_false_eq_true, true_and, and_true, and_self, false_and, and_false, Nat.zero_le, am_bd_some, q_app, q_app0, nI_add, pk_sub, pk_mul, q_dec, q_ix, q_m1, q_m1', ↓q_ret, q_bool, q_bool1, q_u2, q_u1, q_shl1, q_shr, q_and7, q_dg, fa_or, fa_and, decide_true, decide_false, Bool.or_false, Bool.or_true, Bool.true_or, Bool.false_or, cond_true, cond_false, ite_not, q_some, q_nn, q_xor, q_xorm, Bool.false_eq_true, decide_eq_true_eq, ne_eq, l_0, l_1, l_2, l_3, l_4, l_5, l_6, l_7, l_10, l_11, l_14, l_23, l_29, l_37, l_53, h112, hw, h102]
      exact MR_some (hQ _ _ ⟨rfl, by (repeat (first | exact Fx_refl _ _ | assumption | refine Fx_u2 rfl ?_ | refine Fx_u1 rfl (by decide) ?_ | refine Fx_step (by assumption) rfl ?_ | refine Fx_stepr (by assumption) rfl rfl ?_)), hR2⟩)
  · have hi23 : isS B N 23 s = false := decide_eq_false (fun z => h0 z.1)
    have et : tkS B N lo hi s = s := by unfold tkS; rw [if_neg h0]
    have ef : flS B N 2 s = s := by unfold flS; rw [if_neg h0]
    refine ⟨i 0 10, fun z => absurd z (by rw [et]; exact h0), ?_⟩
    rw [et]
    refine MR_q ?_
    intro Q hQ
    rw [c_M_takes, b_M_takes_0]
    simp (disch := first | assumption | omega) only [b_M_takes_0, b_M_takes_6, b_M_takes_14, b_M_takes_29, b_M_takes_37, b_M_takes_53, s_M_within, ↓Bool.cond_decide, ↓q_in, q_le, q_lt, q_eq, q_leT, q_leF, q_ltT, q_ltF, q_eqT, q_eqF, ↓reduceIte, not_true_eq_false, not_false_eq_true, true_and, and_true, and_self, false_and, and_false, Nat.zero_le, am_bd_some, q_app, q_app0, nI_add, pk_sub, pk_mul, q_dec, q_ix, q_m1, q_m1', ↓q_ret, q_bool, q_bool1, q_u2, q_u1, q_shl1, q_shr, q_and7, q_dg, fa_or, fa_and, decide_true, decide_false, Bool.or_false, Bool.or_true, Bool.true_or, Bool.false_or, cond_true, cond_false, ite_not, q_some, q_nn, q_xor, q_xorm, Bool.false_eq_true, decide_eq_true_eq, ne_eq, l_0, l_1, l_2, l_3, l_4, l_5, l_6, l_7, l_10, l_11, l_14, l_23, l_29, l_37, l_53, his, hi23]
    refine MR_bd (r_M_fails (d + 1) (by decide) (by decide) hT.1 hR) ?_
    intro i2 l2 ⟨hl2, hf2, hR2⟩
    rw [ef] at hR2
    subst hl2
    have h112 := hR2.1
    have h102 : i2 0 10 = i 0 10 := hf2 0 10 rfl
    simp (disch := first | assumption | omega) only [b_M_takes_0, b_M_takes_6, b_M_takes_14, b_M_takes_29, b_M_takes_37, b_M_takes_53, s_M_is, s_M_within, ↓Bool.cond_decide, ↓q_in, q_le, q_lt, q_eq, q_leT, q_leF, q_ltT, q_ltF, q_eqT, q_eqF, ↓reduceIte, not_true_eq_false, not_false_eq_true, true_and, and_true, and_self, false_and, and_false, Nat.zero_le, am_bd_some, q_app, q_app0, nI_add, pk_sub, pk_mul, q_dec, q_ix, q_m1, q_m1', ↓q_ret, q_bool, q_bool1, q_u2, q_u1, q_shl1, q_shr, q_and7, q_dg, fa_or, fa_and, decide_true, decide_false, Bool.or_false, Bool.or_true, Bool.true_or, Bool.false_or, cond_true, cond_false, ite_not, q_some, q_nn, q_xor, q_xorm, Bool.false_eq_true, decide_eq_true_eq, ne_eq, l_0, l_1, l_2, l_3, l_4, l_5, l_6, l_7, l_10, l_11, l_14, l_23, l_29, l_37, l_53, h112, h0, h102]
    exact MR_some (hQ _ _ ⟨rfl, by (repeat (first | exact Fx_refl _ _ | assumption | refine Fx_u2 rfl ?_ | refine Fx_u1 rfl (by decide) ?_ | refine Fx_step (by assumption) rfl ?_ | refine Fx_stepr (by assumption) rfl rfl ?_)), hR2⟩)
end
