/-! THE MODEL: flags, people, laws, lines are read -/
theorem tkS_0 {B : Nat → Nat} {N lo hi : Nat} {s : PS} (h : (tkS B N lo hi s).1 = 0) : s.1 = 0 ∧ tkS B N lo hi s = nxS s ∧ lo ≤ uj B N s.2.2.1 ∧ uj B N s.2.2.1 ≤ hi := by
  unfold tkS at h ⊢
  by_cases h01 : s.1 = 0
  · rw [if_pos h01] at h ⊢
    by_cases c1 : kj B N s.2.2.1 = 23
    · rw [if_pos c1] at h ⊢
      by_cases c2 : lo ≤ uj B N s.2.2.1 ∧ uj B N s.2.2.1 ≤ hi
      · rw [if_pos c2]; exact ⟨h01, rfl, c2.1, c2.2⟩
      · rw [if_neg c2] at h; exact absurd h (flS_w (by decide))
    · rw [if_neg c1] at h; exact absurd h (flS_w (by decide))
  · rw [if_neg h01] at h; exact absurd h h01
theorem xpS_0 {B : Nat → Nat} {N k : Nat} {s : PS} (h : (xpS B N k s).1 = 0) : s.1 = 0 ∧ xpS B N k s = nxS s := by
  unfold xpS at h ⊢
  by_cases c : isS B N k s = true
  · rw [if_pos c]; exact ⟨(isS_w c).1, rfl⟩
  · rw [if_neg c] at h; exact absurd h (flS_w (by decide))
theorem apS_0 {B : Nat → Nat} {N p : Nat} {s : PS} (h : (apS B N p s).1 = 0) : apS B N p s = s := by
  unfold apS at h ⊢
  by_cases c : isS B N 23 s = true ∧ tkn s.2.2.2 (uj B N s.2.2.1) p = true
  · rw [if_pos c] at h; exact absurd h (flS_w (by decide))
  · rw [if_neg c]
/-- spots and people while a text is read -/
def SQ (s : PS) : Prop := s.1 = 0 → s.2.2.2 1 ≤ 6 ∧ s.2.2.2 2 ≤ 4 ∧ ∀ k, k < 4 → s.2.2.2 (18 + k) ≤ 7
theorem SQ_st {k v : Nat} {s : PS} (h : SQ s) (h1 : k ≠ 1) (h2 : k ≠ 2) (h3 : 18 ≤ k → k < 22 → s.1 = 0 → v ≤ 7) : SQ (stF k v s) := fun z => by
  rw [stF_w] at z
  obtain ⟨a, b, c⟩ := h z
  rw [stF_0 z]
  refine ⟨?_, ?_, fun j hj => ?_⟩
  · show ug s.2.2.2 k v 1 ≤ 6
    unfold ug; rw [if_neg (Ne.symm h1)]; exact a
  · show ug s.2.2.2 k v 2 ≤ 4
    unfold ug; rw [if_neg (Ne.symm h2)]; exact b
  · show ug s.2.2.2 k v (18 + j) ≤ 7
    unfold ug
    by_cases e : 18 + j = k
    · rw [if_pos e]; exact h3 (by omega) (by omega) z
    · rw [if_neg e]; exact c j hj
theorem SQ_of {s t : PS} (h : SQ s) (he : t.1 = 0 → s.1 = 0 ∧ ∀ k, k < 173 → t.2.2.2 k = s.2.2.2 k) : SQ t := fun z => by
  obtain ⟨e1, e2⟩ := he z
  obtain ⟨a, b, c⟩ := h e1
  exact ⟨by rw [e2 1 (by decide)]; exact a, by rw [e2 2 (by decide)]; exact b, fun k hk => by rw [e2 _ (by omega)]; exact c k hk⟩
theorem SQ_tk {B : Nat → Nat} {N lo hi : Nat} {s : PS} (h : SQ s) : SQ (tkS B N lo hi s) := SQ_of h (fun z => by
  obtain ⟨q1, q2, _, _⟩ := tkS_0 z
  exact ⟨q1, fun k _ => by rw [q2]; rfl⟩)
theorem SQ_xp {B : Nat → Nat} {N k : Nat} {s : PS} (h : SQ s) : SQ (xpS B N k s) := SQ_of h (fun z => by
  obtain ⟨q1, q2⟩ := xpS_0 z
  exact ⟨q1, fun k _ => by rw [q2]; rfl⟩)
theorem SQ_fg {B : Nat → Nat} {N p : Nat} {s : PS} (hp : p < 4) (h : SQ s) : SQ (fgS B N p s) := by
  have hn : SQ (nxS s) := SQ_of h (fun z => ⟨z, fun _ _ => rfl⟩)
  unfold fgS
  split
  · exact SQ_st (SQ_tk hn) (by omega) (by omega) (fun a b => by omega)
  · split
    · exact SQ_st (SQ_tk hn) (by omega) (by omega) (fun a b => by omega)
    · split
      · refine SQ_st (SQ_tk (SQ_of hn (fun z => ?_))) (by omega) (by omega) (fun a b z => ?_)
        · have := apS_0 z
          rw [this] at z ⊢
          exact ⟨z, fun _ _ => rfl⟩
        · obtain ⟨q1, q2, q3, q4⟩ := tkS_0 z
          have e := apS_0 q1
          rw [e] at q1 q4
          have := (h q1).1
          have q4 : uj B N (s.2.2.1 + 1) ≤ s.2.2.2 1 + 1 := q4
          omega
      · exact h
theorem uj_lt {B : Nat → Nat} {N j : Nat} (hB : ∀ k, B k < 256) (h23 : kj B N j = 23) : uj B N j < 1000 := by
  have hb := aj_le B N j
  have hte := te_le (B := B) hb.2
  unfold uj num
  have hm3 : mn 3 (bj B N j - aj B N j) ≤ 3 := by unfold mn; split <;> omega
  have hm4 := mn_le 3 (bj B N j - aj B N j)
  have hd : isD B (aj B N j) = true ∧ isL B (aj B N j) ≠ true ∧ ¬ N ≤ aj B N j := by
    unfold kj knd at h23
    by_cases c1 : N ≤ aj B N j
    · rw [if_pos c1] at h23; cases h23
    · rw [if_neg c1] at h23
      by_cases c2 : isL B (aj B N j) = true
      · rw [if_pos c2] at h23
        have := key_le B (aj B N j) (te B N (aj B N j)); omega
      · rw [if_neg c2] at h23
        by_cases c3 : isD B (aj B N j) = true
        · exact ⟨c3, c2, c1⟩
        · rw [if_neg c3] at h23
          have := sgK_25 (B (aj B N j)) 12; omega
  have hrn : bj B N j = rn (isD B) N (aj B N j) := by unfold bj te; rw [if_neg hd.2.2, if_neg hd.2.1, if_pos hd.1]
  have hq := (rn_is (P := isD B) hb.2).2.2.1
  rw [← hrn] at hq
  have := nm_lt (a := aj B N j) hB _ hm3 (fun k hk => hq (aj B N j + k) (by omega) (by omega))
  have hp : 10 ^ mn 3 (bj B N j - aj B N j) ≤ 1000 := Nat.le_trans (Nat.pow_le_pow_right (by decide) hm3) (by decide)
  omega
section
variable {i : Nat → Nat → Int32} {l : Nat → Nat → Int64} {B : Nat → Nat} {N : Nat}
theorem et_1 {k : Nat} {s : PS} (h : isS B N k s = true) : etS B N k s = nxS s := by unfold etS; rw [if_pos h]
theorem et_0 {k : Nat} {s : PS} (h : isS B N k s = false) : etS B N k s = s := by unfold etS; rw [if_neg (by rw [h]; decide)]
theorem r_M_readFlag (d : Nat) {p : Nat} {s : PS} (hp : p < 4) (h0 : s.1 = 0) (hQs : SQ s) (hT : TP i B N) (hR : RP B N i s) : MR (some (.int (if fgB B N p s = true then nI 1 else nI 0))) (fun i' l' => l' = l ∧ Fx [4, 106, 107, 109, 110, 111, 112] i i' ∧ RP B N i' (fgS B N p s)) (am_cl (d + 4) mM_readFlag [.ref 0, .int (nI p)] (i, l, rM, kM)) := by
  have hN := hT.1
  obtain ⟨i2, l2, e2, hl2, hf2, hR2⟩ := r_M_eats (i := i) (l := l) d (k := 5) (by decide) hT hR
  subst hl2
  have hT2 : TP i2 B N := TP_fx hf2 hT rfl rfl
  refine MR_q ?_
  intro Q hQ
  rw [c_M_readFlag, b_M_readFlag_0]
  -- what comes behind a flag's number
  have tail : ∀ i5 z1, Fx [4, 106, 107, 109, 110, 111, 112] i i5 → RP B N i5 (fgS B N p s) → (isS B N 5 s || isS B N 6 s || isS B N 7 s) = true → MR (some (.int (if fgB B N p s = true then nI 1 else nI 0))) Q (am_Ex (d + 3) mM_readFlag 117 [.val (.ref 0), z1] [] (i5, l2, rM, kM)) := by
    intro i5 z1 hf5 hR5 hor
    have h11 := hR5.1
    have h4 := hR5.2.1
    have hfb : fgB B N p s = decide ((fgS B N p s).1 = 0) := by unfold fgB; rw [hor]; rfl
    rw [b_M_readFlag_117]
    by_cases hw : (fgS B N p s).1 = 0
    · simp (disch := first | assumption | omega) only [b_M_readFlag_0, b_M_readFlag_5, b_M_readFlag_23, b_M_readFlag_33, b_M_readFlag_51, b_M_readFlag_61, b_M_readFlag_70, b_M_readFlag_82, b_M_readFlag_90, b_M_readFlag_111, b_M_readFlag_117, b_M_readFlag_129, s_M_is, s_M_isTaken, ↓Bool.cond_decide, ↓q_in, q_le, q_lt, q_eq, q_leT, q_leF, q_ltT, q_ltF, q_eqT, q_eqF, ↓reduceIte, not_true_eq_false, not_false_eq_true, true_and, and_true, and_self, false_and, and_false, Nat.zero_le, am_bd_some, q_app, q_app0, nI_add, pk_sub, pk_mul, q_dec, q_ix, q_m1, q_m1', ↓q_ret, q_bool, q_bool1, q_u2, q_u1, q_shl1, q_shr, q_and7, q_dg, fa_or, fa_and, decide_true, decide_false, Bool.or_false, Bool.or_true, Bool.true_or, Bool.false_or, cond_true, cond_false, ite_not, q_some, q_nn, q_xor, q_xorm, Bool.false_eq_true, decide_eq_true_eq, ne_eq, l_0, l_1, l_3, l_4, l_5, l_6, l_7, l_8, l_9, l_10, l_11, l_14, l_15, l_16, l_18, l_22, l_23, l_33, l_51, l_61, l_70, l_82, l_90, l_111, l_117, l_129, l_1074, h11, hw, hfb]
      exact MR_some (hQ _ _ ⟨rfl, hf5, hR5⟩)
    · simp (disch := first | assumption | omega) only [b_M_readFlag_0, b_M_readFlag_5, b_M_readFlag_23, b_M_readFlag_33, b_M_readFlag_51, b_M_readFlag_61, b_M_readFlag_70, b_M_readFlag_82, b_M_readFlag_90, b_M_readFlag_111, b_M_readFlag_117, b_M_readFlag_129, s_M_is, s_M_isTaken, ↓Bool.cond_decide, ↓q_in, q_le, q_lt, q_eq, q_leT, q_leF, q_ltT, q_ltF, q_eqT, q_eqF, ↓reduceIte, not_true_eq_false, not_false_eq_true, true_and, and_true, and_self, false_and, and_false, Nat.zero_le, am_bd_some, q_app, q_app0, nI_add, pk_sub, pk_mul, q_dec, q_ix, q_m1, q_m1', ↓q_ret, q_bool, q_bool1, q_u2, q_u1, q_shl1, q_shr, q_and7, q_dg, fa_or, fa_and, decide_true, decide_false, Bool.or_false, Bool.or_true, Bool.true_or, Bool.false_or, cond_true, cond_false, ite_not, q_some, q_nn, q_xor, q_xorm, Bool.false_eq_true, decide_eq_true_eq, ne_eq, l_0, l_1, l_3, l_4, l_5, l_6, l_7, l_8, l_9, l_10, l_11, l_14, l_15, l_16, l_18, l_22, l_23, l_33, l_51, l_61, l_70, l_82, l_90, l_111, l_117, l_129, l_1074, h11, hw, hfb]
      exact MR_some (hQ _ _ ⟨rfl, hf5, hR5⟩)
  cases hb5 : isS B N 5 s with
  | true =>
    rw [et_1 hb5] at hR2
    rw [hb5] at e2
    obtain ⟨v, hv, i3, l3, e3, hl3, hf3, hR3⟩ := r_M_takes (i := i2) (l := l2) d (lo := 0) (hi := 9) (by decide) (by decide) hT2 hR2
    subst hl3
    have hfe : fgS B N p s = stF (22 + p) (uj B N (s.2.2.1 + 1)) (tkS B N 0 9 (nxS s)) := by unfold fgS; rw [if_pos hb5]
    simp (disch := first | assumption | omega) only [b_M_readFlag_0, b_M_readFlag_5, b_M_readFlag_23, b_M_readFlag_33, b_M_readFlag_51, b_M_readFlag_61, b_M_readFlag_70, b_M_readFlag_82, b_M_readFlag_90, b_M_readFlag_111, b_M_readFlag_129, s_M_is, s_M_isTaken, ↓Bool.cond_decide, ↓q_in, q_le, q_lt, q_eq, q_leT, q_leF, q_ltT, q_ltF, q_eqT, q_eqF, ↓reduceIte, not_true_eq_false, not_false_eq_true, true_and, and_true, and_self, false_and, and_false, Nat.zero_le, am_bd_some, q_app, q_app0, nI_add, pk_sub, pk_mul, q_dec, q_ix, q_m1, q_m1', ↓q_ret, q_bool, q_bool1, q_u1, q_shl1, q_shr, q_and7, q_dg, fa_or, fa_and, decide_true, decide_false, Bool.or_false, Bool.or_true, Bool.true_or, Bool.false_or, cond_true, cond_false, ite_not, q_some, q_nn, q_xor, q_xorm, Bool.false_eq_true, decide_eq_true_eq, ne_eq, l_0, l_1, l_3, l_4, l_5, l_6, l_7, l_8, l_9, l_10, l_11, l_14, l_15, l_16, l_18, l_22, l_23, l_33, l_51, l_61, l_70, l_82, l_90, l_111, l_117, l_129, l_1074, e2, e3]
    exact tail _ _ (by (repeat (first | exact Fx_refl _ _ | assumption | refine Fx_u2 rfl ?_ | refine Fx_u1 rfl (by decide) ?_ | refine Fx_step (by assumption) rfl ?_ | refine Fx_stepr (by assumption) rfl rfl ?_))) (by rw [hfe]; exact RP_st hR3 hv) (by rw [hb5]; rfl)
  | false =>
    rw [et_0 hb5] at hR2
    rw [hb5] at e2
    obtain ⟨i3, l3, e3, hl3, hf3, hR3⟩ := r_M_eats (i := i2) (l := l2) d (k := 6) (by decide) hT2 hR2
    subst hl3
    have hT3 : TP i3 B N := TP_fx hf3 hT2 rfl rfl
    cases hb6 : isS B N 6 s with
    | true =>
      rw [et_1 hb6] at hR3
      rw [hb6] at e3
      obtain ⟨v, hv, i4, l4, e4, hl4, hf4, hR4⟩ := r_M_takes (i := i3) (l := l3) d (lo := 0) (hi := 9) (by decide) (by decide) hT3 hR3
      subst hl4
      have hfe : fgS B N p s = stF (14 + p) (uj B N (s.2.2.1 + 1)) (tkS B N 0 9 (nxS s)) := by unfold fgS; rw [if_neg (by rw [hb5]; decide), if_pos hb6]
      simp (disch := first | assumption | omega) only [b_M_readFlag_0, b_M_readFlag_5, b_M_readFlag_23, b_M_readFlag_33, b_M_readFlag_51, b_M_readFlag_61, b_M_readFlag_70, b_M_readFlag_82, b_M_readFlag_90, b_M_readFlag_111, b_M_readFlag_129, s_M_is, s_M_isTaken, ↓Bool.cond_decide, ↓q_in, q_le, q_lt, q_eq, q_leT, q_leF, q_ltT, q_ltF, q_eqT, q_eqF, ↓reduceIte, not_true_eq_false, not_false_eq_true, true_and, and_true, and_self, false_and, and_false, Nat.zero_le, am_bd_some, q_app, q_app0, nI_add, pk_sub, pk_mul, q_dec, q_ix, q_m1, q_m1', ↓q_ret, q_bool, q_bool1, q_u1, q_shl1, q_shr, q_and7, q_dg, fa_or, fa_and, decide_true, decide_false, Bool.or_false, Bool.or_true, Bool.true_or, Bool.false_or, cond_true, cond_false, ite_not, q_some, q_nn, q_xor, q_xorm, Bool.false_eq_true, decide_eq_true_eq, ne_eq, l_0, l_1, l_3, l_4, l_5, l_6, l_7, l_8, l_9, l_10, l_11, l_14, l_15, l_16, l_18, l_22, l_23, l_33, l_51, l_61, l_70, l_82, l_90, l_111, l_117, l_129, l_1074, e2, e3, e4]
      exact tail _ _ (by (repeat (first | exact Fx_refl _ _ | assumption | refine Fx_u2 rfl ?_ | refine Fx_u1 rfl (by decide) ?_ | refine Fx_step (by assumption) rfl ?_ | refine Fx_stepr (by assumption) rfl rfl ?_))) (by rw [hfe]; exact RP_st hR4 hv) (by rw [hb5, hb6]; rfl)
    | false =>
      rw [et_0 hb6] at hR3
      rw [hb6] at e3
      obtain ⟨i4, l4, e4, hl4, hf4, hR4⟩ := r_M_eats (i := i3) (l := l3) d (k := 7) (by decide) hT3 hR3
      subst hl4
      have hT4 : TP i4 B N := TP_fx hf4 hT3 rfl rfl
      cases hb7 : isS B N 7 s with
      | true =>
        rw [et_1 hb7] at hR4
        rw [hb7] at e4
        have hfe : fgS B N p s = stF (18 + p) (uj B N (s.2.2.1 + 1)) (tkS B N 0 (s.2.2.2 1 + 1) (apS B N p (nxS s))) := by unfold fgS; rw [if_neg (by rw [hb5]; decide), if_neg (by rw [hb6]; decide), if_pos hb7]
        obtain ⟨s1, s2, s3⟩ := hQs h0
        have q4 := (hR4.2.2.2 h0).2.2.2.2
        have h41 : i4 4 1 = nI (s.2.2.2 1) := q4 1 (by decide)
        have i23 := s_M_is (i := i4) (l := l4) (d + 2) (k := 23) (by decide) hR4
        -- behind the look whether it is taken
        have fin : ∀ i5, Fx [111, 112] i4 i5 → RP B N i5 (apS B N p (nxS s)) → MR (some (.int (if fgB B N p s = true then nI 1 else nI 0))) Q (am_Ex (d + 3) mM_readFlag 90 [.val (.ref 0), .val (.int (nI p))] [] (i5, l4, rM, kM)) := by
          intro i5 hf5 hR5
          have h415 : i5 4 1 = nI (s.2.2.2 1) := by rw [Fx_row hf5 (by decide) rfl]; exact h41
          obtain ⟨v, hv, i6, l6, e6, hl6, hf6, hR6⟩ := r_M_takes (i := i5) (l := l4) d (lo := 0) (hi := s.2.2.2 1 + 1) (by decide) (by omega) (TP_fx hf5 hT4 rfl rfl) hR5
          subst hl6
          rw [b_M_readFlag_90]
          simp (disch := first | assumption | omega) only [b_M_readFlag_0, b_M_readFlag_5, b_M_readFlag_23, b_M_readFlag_33, b_M_readFlag_51, b_M_readFlag_61, b_M_readFlag_70, b_M_readFlag_82, b_M_readFlag_90, b_M_readFlag_111, b_M_readFlag_129, s_M_is, s_M_isTaken, ↓Bool.cond_decide, ↓q_in, q_le, q_lt, q_eq, q_leT, q_leF, q_ltT, q_ltF, q_eqT, q_eqF, ↓reduceIte, not_true_eq_false, not_false_eq_true, true_and, and_true, and_self, false_and, and_false, Nat.zero_le, am_bd_some, q_app, q_app0, nI_add, pk_sub, pk_mul, q_dec, q_ix, q_m1, q_m1', ↓q_ret, q_bool, q_bool1, q_u1, q_shl1, q_shr, q_and7, q_dg, fa_or, fa_and, decide_true, decide_false, Bool.or_false, Bool.or_true, Bool.true_or, Bool.false_or, cond_true, cond_false, ite_not, q_some, q_nn, q_xor, q_xorm, Bool.false_eq_true, decide_eq_true_eq, ne_eq, l_0, l_1, l_3, l_4, l_5, l_6, l_7, l_8, l_9, l_10, l_11, l_14, l_15, l_16, l_18, l_22, l_23, l_33, l_51, l_61, l_70, l_82, l_90, l_111, l_117, l_129, l_1074, h415, e6]
          refine tail _ _ (by (repeat (first | exact Fx_refl _ _ | assumption | refine Fx_u2 rfl ?_ | refine Fx_u1 rfl (by decide) ?_ | refine Fx_step (by assumption) rfl ?_ | refine Fx_stepr (by assumption) rfl rfl ?_))) ?_ (by rw [hb5, hb6, hb7]; rfl)
          rw [hfe]
          refine RP_st hR6 (fun z => ?_)
          rw [hv z, apS_0 (tkS_0 z).1]
          rfl
        by_cases c23 : isS B N 23 (nxS s) = true
        · obtain ⟨_, hk23⟩ := isS_w c23
          have hu := uj_lt hT.2.2.2 hk23
          have h10 := (hR4.2.2.2 h0).2.2.2.1 hk23
          have hu' : uj B N (nxS s).2.2.1 < 1000 := hu
          have htk := s_M_isTaken (i := i4) (l := l4) (d + 1) (f := s.2.2.2) (x := uj B N (nxS s).2.2.1) (p := p) hu' (by omega) s1 q4 (fun k hk => by have := s3 k (by omega); omega)
          rw [c23] at i23
          cases ht : tkn s.2.2.2 (uj B N (nxS s).2.2.1) p with
          | true =>
            obtain ⟨i5, l5, e5, hl5, hf5, hR5⟩ := r_M_fails (i := i4) (l := l4) (d + 2) (k := 3) (by decide) (by decide) hN hR4
            subst hl5
            have eap : apS B N p (nxS s) = flS B N 3 (nxS s) := by unfold apS; rw [if_pos ⟨c23, ht⟩]
            rw [ht] at htk
            simp (disch := first | assumption | omega) only [b_M_readFlag_0, b_M_readFlag_5, b_M_readFlag_23, b_M_readFlag_33, b_M_readFlag_51, b_M_readFlag_61, b_M_readFlag_70, b_M_readFlag_82, b_M_readFlag_111, b_M_readFlag_129, ↓Bool.cond_decide, ↓q_in, q_le, q_lt, q_eq, q_leT, q_leF, q_ltT, q_ltF, q_eqT, q_eqF, ↓reduceIte, not_true_eq_false, not_false_eq_true, true_and, and_true, and_self, false_and, and_false, Nat.zero_le, am_bd_some, q_app, q_app0, nI_add, pk_sub, pk_mul, q_dec, q_ix, q_m1, q_m1', ↓q_ret, q_bool, q_bool1, q_u2, q_u1, q_shl1, q_shr, q_and7, q_dg, fa_or, fa_and, decide_true, decide_false, Bool.or_false, Bool.or_true, Bool.true_or, Bool.false_or, cond_true, cond_false, ite_not, q_some, q_nn, q_xor, q_xorm, Bool.false_eq_true, decide_eq_true_eq, ne_eq, l_0, l_1, l_3, l_4, l_5, l_6, l_7, l_8, l_9, l_10, l_11, l_14, l_15, l_16, l_18, l_22, l_23, l_33, l_51, l_61, l_70, l_82, l_90, l_111, l_117, l_129, l_1074, e2, e3, e4, i23, h10, htk, e5]
            exact fin i5 hf5 (by rw [eap]; exact hR5)
          | false =>
            have eap : apS B N p (nxS s) = nxS s := by unfold apS; rw [if_neg (fun z => by have := z.2; rw [show tkn (nxS s).2.2.2 (uj B N (nxS s).2.2.1) p = false from ht] at this; cases this)]
            rw [ht] at htk
            simp (disch := first | assumption | omega) only [b_M_readFlag_0, b_M_readFlag_5, b_M_readFlag_23, b_M_readFlag_33, b_M_readFlag_51, b_M_readFlag_61, b_M_readFlag_70, b_M_readFlag_82, b_M_readFlag_111, b_M_readFlag_129, ↓Bool.cond_decide, ↓q_in, q_le, q_lt, q_eq, q_leT, q_leF, q_ltT, q_ltF, q_eqT, q_eqF, ↓reduceIte, not_true_eq_false, not_false_eq_true, true_and, and_true, and_self, false_and, and_false, Nat.zero_le, am_bd_some, q_app, q_app0, nI_add, pk_sub, pk_mul, q_dec, q_ix, q_m1, q_m1', ↓q_ret, q_bool, q_bool1, q_u2, q_u1, q_shl1, q_shr, q_and7, q_dg, fa_or, fa_and, decide_true, decide_false, Bool.or_false, Bool.or_true, Bool.true_or, Bool.false_or, cond_true, cond_false, ite_not, q_some, q_nn, q_xor, q_xorm, Bool.false_eq_true, decide_eq_true_eq, ne_eq, l_0, l_1, l_3, l_4, l_5, l_6, l_7, l_8, l_9, l_10, l_11, l_14, l_15, l_16, l_18, l_22, l_23, l_33, l_51, l_61, l_70, l_82, l_90, l_111, l_117, l_129, l_1074, e2, e3, e4, i23, h10, htk]
            exact fin i4 (Fx_refl _ _) (by rw [eap]; exact hR4)
        · have eap : apS B N p (nxS s) = nxS s := by unfold apS; rw [if_neg (fun z => c23 z.1)]
          rw [Bool.not_eq_true] at c23
          rw [c23] at i23
          simp (disch := first | assumption | omega) only [b_M_readFlag_0, b_M_readFlag_5, b_M_readFlag_23, b_M_readFlag_33, b_M_readFlag_51, b_M_readFlag_61, b_M_readFlag_70, b_M_readFlag_82, b_M_readFlag_111, b_M_readFlag_129, s_M_isTaken, ↓Bool.cond_decide, ↓q_in, q_le, q_lt, q_eq, q_leT, q_leF, q_ltT, q_ltF, q_eqT, q_eqF, ↓reduceIte, not_true_eq_false, not_false_eq_true, true_and, and_true, and_self, false_and, and_false, Nat.zero_le, am_bd_some, q_app, q_app0, nI_add, pk_sub, pk_mul, q_dec, q_ix, q_m1, q_m1', ↓q_ret, q_bool, q_bool1, q_u2, q_u1, q_shl1, q_shr, q_and7, q_dg, fa_or, fa_and, decide_true, decide_false, Bool.or_false, Bool.or_true, Bool.true_or, Bool.false_or, cond_true, cond_false, ite_not, q_some, q_nn, q_xor, q_xorm, Bool.false_eq_true, decide_eq_true_eq, ne_eq, l_0, l_1, l_3, l_4, l_5, l_6, l_7, l_8, l_9, l_10, l_11, l_14, l_15, l_16, l_18, l_22, l_23, l_33, l_51, l_61, l_70, l_82, l_90, l_111, l_117, l_129, l_1074, e2, e3, e4, i23]
          exact fin i4 (Fx_refl _ _) (by rw [eap]; exact hR4)
      | false =>
        rw [et_0 hb7] at hR4
        rw [hb7] at e4
        have hfe : fgS B N p s = s := by unfold fgS; rw [if_neg (by rw [hb5]; decide), if_neg (by rw [hb6]; decide), if_neg (by rw [hb7]; decide)]
        have hfb : fgB B N p s = false := by unfold fgB; rw [hb5, hb6, hb7]; rfl
        simp (disch := first | assumption | omega) only [b_M_readFlag_0, b_M_readFlag_5, b_M_readFlag_23, b_M_readFlag_33, b_M_readFlag_51, b_M_readFlag_61, b_M_readFlag_70, b_M_readFlag_82, b_M_readFlag_90, b_M_readFlag_111, b_M_readFlag_129, s_M_is, s_M_isTaken, ↓Bool.cond_decide, ↓q_in, q_le, q_lt, q_eq, q_leT, q_leF, q_ltT, q_ltF, q_eqT, q_eqF, ↓reduceIte, not_true_eq_false, not_false_eq_true, true_and, and_true, and_self, false_and, and_false, Nat.zero_le, am_bd_some, q_app, q_app0, nI_add, pk_sub, pk_mul, q_dec, q_ix, q_m1, q_m1', ↓q_ret, q_bool, q_bool1, q_u2, q_u1, q_shl1, q_shr, q_and7, q_dg, fa_or, fa_and, decide_true, decide_false, Bool.or_false, Bool.or_true, Bool.true_or, Bool.false_or, cond_true, cond_false, ite_not, q_some, q_nn, q_xor, q_xorm, Bool.false_eq_true, decide_eq_true_eq, ne_eq, l_0, l_1, l_3, l_4, l_5, l_6, l_7, l_8, l_9, l_10, l_11, l_14, l_15, l_16, l_18, l_22, l_23, l_33, l_51, l_61, l_70, l_82, l_90, l_111, l_117, l_129, l_1074, e2, e3, e4, hfb]
        exact MR_some (hQ _ _ ⟨rfl, by (repeat (first | exact Fx_refl _ _ | assumption | refine Fx_u2 rfl ?_ | refine Fx_u1 rfl (by decide) ?_ | refine Fx_step (by assumption) rfl ?_ | refine Fx_stepr (by assumption) rfl rfl ?_)), by rw [hfe]; exact hR4⟩)
end
