/-! THE MODEL: lines, the river -/
section
variable {B : Nat → Nat} {N : Nat}
theorem Pq_fl0 {k : Nat} {s t : PS} (hk : k ≠ 0) : Pq B N s (flS B N k t) := Pq_of (Pg_fl hk)
theorem pe_go {s : PS} (hC : CB B N s) (hQs : SQ s) (h0 : s.1 = 0) (hk : kj B N s.2.2.1 ≠ 24) : Pq B N s (peS B N s) ∧ SQ (peS B N s) := by
  obtain ⟨s1, s2, s3⟩ := hQs h0
  unfold peS
  by_cases hp4 : s.2.2.2 2 = 4
  · rw [if_pos hp4]
    exact ⟨Pq_fl0 (by decide), fun z => absurd z (flS_w (by decide))⟩
  · rw [if_neg hp4]
    have hp : s.2.2.2 2 < 4 := by omega
    generalize hP : s.2.2.2 2 = P at *
    have g1 := Pg_nx hC hk
    have c1 := Pg_cb g1 hC
    have g2 := Pg_xp (k := 4) c1 (by decide)
    have c2 := Pg_cb g2 c1
    have g3 := Pg_tk (lo := 1) (hi := 4) c2
    have q1 : SQ (nxS s) := SQ_of hQs (fun z => ⟨z, fun _ _ => rfl⟩)
    have q2 := SQ_xp (B := B) (N := N) (k := 4) q1
    have hq := Pq_st (k := 22 + P) (v := 5) (Pq_st (k := 10 + P) (v := uj B N (xpS B N 4 (nxS s)).2.2.1) (Pq_of (Pg_tr g1 (Pg_tr g2 g3))) (by omega)) (by omega)
    have hs : SQ (stF (22 + P) 5 (stF (10 + P) (uj B N (xpS B N 4 (nxS s)).2.2.1) (tkS B N 1 4 (xpS B N 4 (nxS s))))) := SQ_st (SQ_st (SQ_tk q2) (by omega) (by omega) (fun a b => by omega)) (by omega) (by omega) (fun a b => by omega)
    have h2 : (stF (22 + P) 5 (stF (10 + P) (uj B N (xpS B N 4 (nxS s)).2.2.1) (tkS B N 1 4 (xpS B N 4 (nxS s))))).1 = 0 → (stF (22 + P) 5 (stF (10 + P) (uj B N (xpS B N 4 (nxS s)).2.2.1) (tkS B N 1 4 (xpS B N 4 (nxS s))))).2.2.2 2 = P := fun z => by
      rw [stF_w, stF_w] at z
      rw [stF_0 (by rw [stF_w]; exact z), stF_0 z]
      obtain ⟨a1, a2, _, _⟩ := tkS_0 z
      show ug (ug (tkS B N 1 4 (xpS B N 4 (nxS s))).2.2.2 (10 + P) _) (22 + P) 5 2 = P
      unfold ug
      rw [if_neg (by omega), if_neg (by omega), a2]
      show (xpS B N 4 (nxS s)).2.2.2 2 = P
      rw [(xpS_0 a1).2]
      exact hP
    generalize stF (22 + P) 5 (stF (10 + P) (uj B N (xpS B N 4 (nxS s)).2.2.1) (tkS B N 1 4 (xpS B N 4 (nxS s)))) = t at hq hs h2
    have c3 := Pq_cb hq hC
    refine ⟨Pq_tr hq (Pq_st (Pq_flL (by omega) 1000 t c3) (by decide)), ?_⟩
    have h4 := SQ_flL (B := B) (N := N) hp 1000 t hs
    intro z
    have z' : (flL B N P 1000 t).1 = 0 := by unfold inP at z; rw [stF_w] at z; exact z
    obtain ⟨a, b, c⟩ := h4 z'
    obtain ⟨f1, f2⟩ := flL_2 (k := 2) hp (by decide) 1000 t z'
    unfold inP
    rw [stF_0 z']
    refine ⟨a, ?_, fun k hk => ?_⟩
    · show (flL B N P 1000 t).2.2.2 2 + 1 ≤ 4
      rw [f2, h2 f1]; omega
    · show ug (flL B N P 1000 t).2.2.2 2 _ (18 + k) ≤ 7
      unfold ug
      rw [if_neg (by omega)]
      exact c k hk
theorem lw_go {law : Nat} {s : PS} (hl : law < 2) (hC : CB B N s) (hQs : SQ s) (hk : kj B N s.2.2.1 ≠ 24) : Pq B N s (lwS B N law s) ∧ SQ (lwS B N law s) := by
  have g1 := Pg_nx hC hk
  have c1 := Pg_cb g1 hC
  have g2 := Pg_xp (k := 31) c1 (by decide)
  have c2 := Pg_cb g2 c1
  have g3 := ok_truL (law := law) (r := 6) _ c2
  have g := Pg_tr g1 (Pg_tr g2 g3)
  unfold lwS
  refine ⟨Pq_st (Pq_st (Pq_st (Pq_of g) (by omega)) (by omega)) (by omega), ?_⟩
  have q : SQ (truL B N law 6 (xpS B N 31 (nxS s))) := SQ_of hQs (fun z => ⟨(g z).1, (g z).2.2.2.2⟩)
  exact SQ_st (SQ_st (SQ_st q (by omega) (by omega) (fun a b => by omega)) (by omega) (by omega) (fun a b => by omega)) (by omega) (by omega) (fun a b => by omega)
theorem SQ_dp : ∀ n k s, k + n ≤ 6 → SQ s → SQ (dpS B N n k s)
  | 0, k, s, _, h => h
  | n + 1, k, s, hk, h => by
    rw [dpS]
    split
    · exact SQ_dp n (k + 1) _ (by omega) (SQ_st (SQ_tk h) (by omega) (by omega) (fun a b => by omega))
    · exact h
theorem ln_go {s : PS} (hC : CB B N s) (hQs : SQ s) : Pq B N s (lnS B N s) ∧ SQ (lnS B N s) := by
  unfold lnS
  by_cases h0 : s.1 = 0
  · obtain ⟨s1, s2, s3⟩ := hQs h0
    rw [if_pos h0]
    by_cases k1 : isS B N 1 s = true
    · rw [if_pos k1]
      have hk : kj B N s.2.2.1 ≠ 24 := by rw [(isS_w k1).2]; decide
      have g1 := Pg_nx hC hk
      exact ⟨Pq_tr (Pq_of g1) (Pq_dp _ 0 _ (by omega) (Pg_cb g1 hC)), SQ_dp _ 0 _ (by omega) (SQ_of hQs (fun z => ⟨z, fun _ _ => rfl⟩))⟩
    rw [if_neg k1]
    by_cases k2 : isS B N 2 s = true
    · rw [if_pos k2]
      have hk : kj B N s.2.2.1 ≠ 24 := by rw [(isS_w k2).2]; decide
      have g1 := Pg_nx hC hk
      have g2 := Pg_tk (lo := 0) (hi := 9) (Pg_cb g1 hC)
      exact ⟨Pq_st (Pq_of (Pg_tr g1 g2)) (by decide), SQ_st (SQ_tk (SQ_of hQs (fun z => ⟨z, fun _ _ => rfl⟩))) (by decide) (by decide) (fun a b => by omega)⟩
    rw [if_neg k2]
    by_cases k3 : isS B N 3 s = true
    · rw [if_pos k3]
      exact pe_go hC hQs h0 (by rw [(isS_w k3).2]; decide)
    rw [if_neg k3]
    by_cases k8 : isS B N 8 s = true
    · rw [if_pos k8]
      exact lw_go (by decide) hC hQs (by rw [(isS_w k8).2]; decide)
    rw [if_neg k8]
    by_cases k9 : isS B N 9 s = true
    · rw [if_pos k9]
      exact lw_go (by decide) hC hQs (by rw [(isS_w k9).2]; decide)
    rw [if_neg k9]
    exact ⟨Pq_fl0 (by decide), fun z => absurd z (flS_w (by decide))⟩
  · rw [if_neg h0]
    exact ⟨Pq_refl hC, hQs⟩
theorem en_go {s : PS} (hC : CB B N s) (hQs : SQ s) : Pq B N s (enS B N s) ∧ SQ (enS B N s) ∧ ((enS B N s).1 = 0 → s.2.2.1 < (enS B N s).2.2.1) := by
  have g := Pg_xp (k := 30) hC (by decide)
  unfold enS
  refine ⟨Pq_st (Pq_of g) (by decide), SQ_st (SQ_xp hQs) (by decide) (by decide) (fun a b => by omega), fun z => ?_⟩
  rw [stF_w] at z
  rw [stF_0 z]
  exact (g z).2.1
end
section
variable {i : Nat → Nat → Int32} {l : Nat → Nat → Int64} {B : Nat → Nat} {N : Nat}
theorem r_M_ends (d : Nat) {s : PS} (hT : TP i B N) (hR : RP B N i s) : MR none (fun i' l' => l' = l ∧ Fx [4, 106, 107, 109, 110, 111, 112] i i' ∧ RP B N i' (enS B N s)) (am_cl (d + 4) mM_ends [.ref 0] (i, l, rM, kM)) := by
  have hN := hT.1
  obtain ⟨i2, l2, e2, hl2, hf2, hR2⟩ := r_M_eats (i := i) (l := l) d (k := 30) (by decide) hT hR
  subst hl2
  refine MR_q ?_
  intro Q hQ
  rw [c_M_ends, b_M_ends_0]
  unfold enS at hQ
  have last : ∀ i3, Fx [106, 107, 109, 110, 111, 112] i i3 → RP B N i3 (xpS B N 30 s) → MR none Q (am_Ex (d + 3) mM_ends 14 [.val (.ref 0)] [] (i3, l2, rM, kM)) := by
    intro i3 hf3 hR3
    rw [b_M_ends_14]
    refine MR_some (hQ _ _ ⟨rfl, by (repeat (first | exact Fx_refl _ _ | assumption | refine Fx_u2 rfl ?_ | refine Fx_u1 rfl (by decide) ?_ | refine Fx_step (by assumption) rfl ?_ | refine Fx_stepr (by assumption) rfl rfl ?_)), RP_st hR3 (fun z => ?_)⟩)
    rw [(hR3.2.2.2 z).2.2.2.2 0 (by decide)]
    exact nI_add _ 1
  cases hb : isS B N 30 s with
  | true =>
    have ex : xpS B N 30 s = nxS s := by unfold xpS; rw [if_pos hb]
    rw [et_1 hb, ← ex] at hR2
    rw [hb] at e2
    simp (disch := first | assumption | omega) only [b_M_ends_0, b_M_ends_6, ↓Bool.cond_decide, ↓q_in, q_le, q_lt, q_eq, q_leT, q_leF, q_ltT, q_ltF, q_eqT, q_eqF, ↓reduceIte, not_true_eq_false, not_false_eq_true, true_and, and_true, and_self, false_and, and_false, Nat.zero_le, am_bd_some, q_app, q_app0, nI_add, pk_sub, pk_mul, q_dec, q_ix, q_m1, q_m1', ↓q_ret, q_bool, q_bool1, q_u2, q_u1, q_shl1, q_shr, q_and7, q_dg, fa_or, fa_and, decide_true, decide_false, Bool.or_false, Bool.or_true, Bool.true_or, Bool.false_or, cond_true, cond_false, ite_not, q_some, q_nn, q_xor, q_xorm, Bool.false_eq_true, decide_eq_true_eq, ne_eq, l_0, l_1, l_2, l_4, l_5, l_6, l_7, l_11, l_14, l_30, e2]
    exact last i2 (by (repeat (first | exact Fx_refl _ _ | assumption | refine Fx_u2 rfl ?_ | refine Fx_u1 rfl (by decide) ?_ | refine Fx_step (by assumption) rfl ?_ | refine Fx_stepr (by assumption) rfl rfl ?_))) hR2
  | false =>
    have ex : xpS B N 30 s = flS B N 2 s := by unfold xpS; rw [if_neg (by rw [hb]; decide)]
    rw [et_0 hb] at hR2
    rw [hb] at e2
    obtain ⟨i4, l4, e4, hl4, hf4, hR4⟩ := r_M_fails (i := i2) (l := l2) (d + 2) (k := 2) (by decide) (by decide) hN hR2
    subst hl4
    rw [← ex] at hR4
    simp (disch := first | assumption | omega) only [b_M_ends_0, b_M_ends_6, ↓Bool.cond_decide, ↓q_in, q_le, q_lt, q_eq, q_leT, q_leF, q_ltT, q_ltF, q_eqT, q_eqF, ↓reduceIte, not_true_eq_false, not_false_eq_true, true_and, and_true, and_self, false_and, and_false, Nat.zero_le, am_bd_some, q_app, q_app0, nI_add, pk_sub, pk_mul, q_dec, q_ix, q_m1, q_m1', ↓q_ret, q_bool, q_bool1, q_u2, q_u1, q_shl1, q_shr, q_and7, q_dg, fa_or, fa_and, decide_true, decide_false, Bool.or_false, Bool.or_true, Bool.true_or, Bool.false_or, cond_true, cond_false, ite_not, q_some, q_nn, q_xor, q_xorm, Bool.false_eq_true, decide_eq_true_eq, ne_eq, l_0, l_1, l_2, l_4, l_5, l_6, l_7, l_11, l_14, l_30, e2, e4]
    exact last i4 (by (repeat (first | exact Fx_refl _ _ | assumption | refine Fx_u2 rfl ?_ | refine Fx_u1 rfl (by decide) ?_ | refine Fx_step (by assumption) rfl ?_ | refine Fx_stepr (by assumption) rfl rfl ?_))) hR4
theorem r_M_readLine (d : Nat) {s : PS} (h0 : s.1 = 0) (hQs : SQ s) (hC : CB B N s) (hT : TP i B N) (hR : RP B N i s) : MR none (fun i' l' => l' = l ∧ Fx [4, 106, 107, 109, 110, 111, 112, 115] i i' ∧ RP B N i' (lnS B N s)) (am_cl (d + 29) mM_readLine [.ref 0] (i, l, rM, kM)) := by
  have hN := hT.1
  obtain ⟨s1, s2, s3⟩ := hQs h0
  have h11 := hR.1
  have h9 := (hR.2.2.2 h0).2.2.1
  have i1 := s_M_is (i := i) (l := l) (d + 27) (k := 1) (by decide) hR
  refine MR_q ?_
  intro Q hQ
  rw [c_M_readLine, b_M_readLine_0]
  unfold lnS at hQ
  rw [if_pos h0] at hQ
  cases k1 : isS B N 1 s with
  | true =>
    rw [k1, if_pos rfl] at hQ
    rw [k1] at i1
    obtain ⟨i2, l2, e2, hl2, hf2, hR2⟩ := r_M_readDepths (i := i) (l := l) (d + 24) s1 h0 hT hR
    subst hl2
    simp (disch := first | assumption | omega) only [b_M_readLine_0, b_M_readLine_13, b_M_readLine_20, b_M_readLine_28, b_M_readLine_43, b_M_readLine_52, b_M_readLine_59, b_M_readLine_68, b_M_readLine_77, b_M_readLine_80, b_M_readLine_91, b_M_readLine_99, ↓Bool.cond_decide, ↓q_in, q_le, q_lt, q_eq, q_leT, q_leF, q_ltT, q_ltF, q_eqT, q_eqF, ↓reduceIte, not_true_eq_false, not_false_eq_true, true_and, and_true, and_self, false_and, and_false, Nat.zero_le, am_bd_some, q_app, q_app0, nI_add, pk_sub, pk_mul, q_dec, q_ix, q_m1, q_m1', ↓q_ret, q_bool, q_bool1, q_u2, q_u1, q_shl1, q_shr, q_and7, q_dg, fa_or, fa_and, decide_true, decide_false, Bool.or_false, Bool.or_true, Bool.true_or, Bool.false_or, cond_true, cond_false, ite_not, q_some, q_nn, q_xor, q_xorm, Bool.false_eq_true, decide_eq_true_eq, ne_eq, l_0, l_1, l_2, l_3, l_4, l_5, l_7, l_8, l_9, l_11, l_13, l_20, l_28, l_43, l_52, l_59, l_68, l_77, l_80, l_91, l_99, l_1074, i1, h11, h0, e2]
    exact MR_some (hQ _ _ ⟨rfl, by (repeat (first | exact Fx_refl _ _ | assumption | refine Fx_u2 rfl ?_ | refine Fx_u1 rfl (by decide) ?_ | refine Fx_step (by assumption) rfl ?_ | refine Fx_stepr (by assumption) rfl rfl ?_)), hR2⟩)
  | false =>
  rw [k1, if_neg (by decide)] at hQ
  rw [k1] at i1
  obtain ⟨i2, l2, e2, hl2, hf2, hR2⟩ := r_M_eats (i := i) (l := l) (d + 25) (k := 2) (by decide) hT hR
  subst hl2
  cases k2 : isS B N 2 s with
  | true =>
    rw [k2, if_pos rfl] at hQ
    rw [k2] at e2
    rw [et_1 k2] at hR2
    obtain ⟨v, hv, i3, l3, e3, hl3, hf3, hR3⟩ := r_M_takes (i := i2) (l := l2) (d + 25) (lo := 0) (hi := 9) (by decide) (by decide) (TP_fx hf2 hT rfl rfl) hR2
    subst hl3
    simp (disch := first | assumption | omega) only [b_M_readLine_0, b_M_readLine_13, b_M_readLine_20, b_M_readLine_28, b_M_readLine_43, b_M_readLine_52, b_M_readLine_59, b_M_readLine_68, b_M_readLine_77, b_M_readLine_80, b_M_readLine_91, b_M_readLine_99, ↓Bool.cond_decide, ↓q_in, q_le, q_lt, q_eq, q_leT, q_leF, q_ltT, q_ltF, q_eqT, q_eqF, ↓reduceIte, not_true_eq_false, not_false_eq_true, true_and, and_true, and_self, false_and, and_false, Nat.zero_le, am_bd_some, q_app, q_app0, nI_add, pk_sub, pk_mul, q_dec, q_ix, q_m1, q_m1', ↓q_ret, q_bool, q_bool1, q_u1, q_shl1, q_shr, q_and7, q_dg, fa_or, fa_and, decide_true, decide_false, Bool.or_false, Bool.or_true, Bool.true_or, Bool.false_or, cond_true, cond_false, ite_not, q_some, q_nn, q_xor, q_xorm, Bool.false_eq_true, decide_eq_true_eq, ne_eq, l_0, l_1, l_2, l_3, l_4, l_5, l_7, l_8, l_9, l_11, l_13, l_20, l_28, l_43, l_52, l_59, l_68, l_77, l_80, l_91, l_99, l_1074, i1, h11, h0, e2, e3]
    exact MR_some (hQ _ _ ⟨rfl, by (repeat (first | exact Fx_refl _ _ | assumption | refine Fx_u2 rfl ?_ | refine Fx_u1 rfl (by decide) ?_ | refine Fx_step (by assumption) rfl ?_ | refine Fx_stepr (by assumption) rfl rfl ?_)), RP_st hR3 hv⟩)
  | false =>
  rw [k2, if_neg (by decide)] at hQ
  rw [k2] at e2
  rw [et_0 k2] at hR2
  have hT2 : TP i2 B N := TP_fx hf2 hT rfl rfl
  have i3 := s_M_is (i := i2) (l := l2) (d + 27) (k := 3) (by decide) hR2
  have i8 := s_M_is (i := i2) (l := l2) (d + 27) (k := 8) (by decide) hR2
  have i9 := s_M_is (i := i2) (l := l2) (d + 27) (k := 9) (by decide) hR2
  have h92 := (hR2.2.2.2 h0).2.2.1
  cases k3 : isS B N 3 s with
  | true =>
    rw [k3, if_pos rfl] at hQ
    rw [k3] at i3
    obtain ⟨i4, l4, e4, hl4, hf4, hR4⟩ := r_M_readPerson (i := i2) (l := l2) (d + 23) h0 (isS_w k3).2 hQs hC hT2 hR2
    subst hl4
    simp (disch := first | assumption | omega) only [b_M_readLine_0, b_M_readLine_13, b_M_readLine_20, b_M_readLine_28, b_M_readLine_43, b_M_readLine_52, b_M_readLine_59, b_M_readLine_68, b_M_readLine_77, b_M_readLine_80, b_M_readLine_91, b_M_readLine_99, ↓Bool.cond_decide, ↓q_in, q_le, q_lt, q_eq, q_leT, q_leF, q_ltT, q_ltF, q_eqT, q_eqF, ↓reduceIte, not_true_eq_false, not_false_eq_true, true_and, and_true, and_self, false_and, and_false, Nat.zero_le, am_bd_some, q_app, q_app0, nI_add, pk_sub, pk_mul, q_dec, q_ix, q_m1, q_m1', ↓q_ret, q_bool, q_bool1, q_u2, q_u1, q_shl1, q_shr, q_and7, q_dg, fa_or, fa_and, decide_true, decide_false, Bool.or_false, Bool.or_true, Bool.true_or, Bool.false_or, cond_true, cond_false, ite_not, q_some, q_nn, q_xor, q_xorm, Bool.false_eq_true, decide_eq_true_eq, ne_eq, l_0, l_1, l_2, l_3, l_4, l_5, l_7, l_8, l_9, l_11, l_13, l_20, l_28, l_43, l_52, l_59, l_68, l_77, l_80, l_91, l_99, l_1074, i1, h11, h0, e2, i3, e4]
    exact MR_some (hQ _ _ ⟨rfl, by (repeat (first | exact Fx_refl _ _ | assumption | refine Fx_u2 rfl ?_ | refine Fx_u1 rfl (by decide) ?_ | refine Fx_step (by assumption) rfl ?_ | refine Fx_stepr (by assumption) rfl rfl ?_)), hR4⟩)
  | false =>
  rw [k3, if_neg (by decide)] at hQ
  rw [k3] at i3
  cases k8 : isS B N 8 s with
  | true =>
    rw [k8, if_pos rfl] at hQ
    rw [k8] at i8
    have hk := (isS_w k8).2
    obtain ⟨i4, l4, e4, hl4, hf4, hR4⟩ := r_M_readLaw (i := i2) (l := l2) d (law := 0) (by decide) h0 (by rw [hk]; decide) hC hT2 hR2
    subst hl4
    rw [hk] at h92
    simp (disch := first | assumption | omega) only [b_M_readLine_0, b_M_readLine_13, b_M_readLine_20, b_M_readLine_28, b_M_readLine_43, b_M_readLine_52, b_M_readLine_59, b_M_readLine_68, b_M_readLine_77, b_M_readLine_80, b_M_readLine_91, b_M_readLine_99, ↓Bool.cond_decide, ↓q_in, q_le, q_lt, q_eq, q_leT, q_leF, q_ltT, q_ltF, q_eqT, q_eqF, ↓reduceIte, not_true_eq_false, not_false_eq_true, true_and, and_true, and_self, false_and, and_false, Nat.zero_le, am_bd_some, q_app, q_app0, nI_add, pk_sub, pk_mul, q_dec, q_ix, q_m1, q_m1', ↓q_ret, q_bool, q_bool1, q_u2, q_u1, q_shl1, q_shr, q_and7, q_dg, fa_or, fa_and, decide_true, decide_false, Bool.or_false, Bool.or_true, Bool.true_or, Bool.false_or, cond_true, cond_false, ite_not, q_some, q_nn, q_xor, q_xorm, Bool.false_eq_true, decide_eq_true_eq, ne_eq, l_0, l_1, l_2, l_3, l_4, l_5, l_7, l_8, l_9, l_11, l_13, l_20, l_28, l_43, l_52, l_59, l_68, l_77, l_80, l_91, l_99, l_1074, i1, h11, h0, e2, i3, i8, h92, e4]
    exact MR_some (hQ _ _ ⟨rfl, by (repeat (first | exact Fx_refl _ _ | assumption | refine Fx_u2 rfl ?_ | refine Fx_u1 rfl (by decide) ?_ | refine Fx_step (by assumption) rfl ?_ | refine Fx_stepr (by assumption) rfl rfl ?_)), hR4⟩)
  | false =>
  rw [k8, if_neg (by decide)] at hQ
  rw [k8] at i8
  cases k9 : isS B N 9 s with
  | true =>
    rw [k9, if_pos rfl] at hQ
    rw [k9] at i9
    have hk := (isS_w k9).2
    obtain ⟨i4, l4, e4, hl4, hf4, hR4⟩ := r_M_readLaw (i := i2) (l := l2) d (law := 1) (by decide) h0 (by rw [hk]; decide) hC hT2 hR2
    subst hl4
    rw [hk] at h92
    simp (disch := first | assumption | omega) only [b_M_readLine_0, b_M_readLine_13, b_M_readLine_20, b_M_readLine_28, b_M_readLine_43, b_M_readLine_52, b_M_readLine_59, b_M_readLine_68, b_M_readLine_77, b_M_readLine_80, b_M_readLine_91, b_M_readLine_99, ↓Bool.cond_decide, ↓q_in, q_le, q_lt, q_eq, q_leT, q_leF, q_ltT, q_ltF, q_eqT, q_eqF, ↓reduceIte, not_true_eq_false, not_false_eq_true, true_and, and_true, and_self, false_and, and_false, Nat.zero_le, am_bd_some, q_app, q_app0, nI_add, pk_sub, pk_mul, q_dec, q_ix, q_m1, q_m1', ↓q_ret, q_bool, q_bool1, q_u2, q_u1, q_shl1, q_shr, q_and7, q_dg, fa_or, fa_and, decide_true, decide_false, Bool.or_false, Bool.or_true, Bool.true_or, Bool.false_or, cond_true, cond_false, ite_not, q_some, q_nn, q_xor, q_xorm, Bool.false_eq_true, decide_eq_true_eq, ne_eq, l_0, l_1, l_2, l_3, l_4, l_5, l_7, l_8, l_9, l_11, l_13, l_20, l_28, l_43, l_52, l_59, l_68, l_77, l_80, l_91, l_99, l_1074, i1, h11, h0, e2, i3, i8, i9, h92, e4]
    exact MR_some (hQ _ _ ⟨rfl, by (repeat (first | exact Fx_refl _ _ | assumption | refine Fx_u2 rfl ?_ | refine Fx_u1 rfl (by decide) ?_ | refine Fx_step (by assumption) rfl ?_ | refine Fx_stepr (by assumption) rfl rfl ?_)), hR4⟩)
  | false =>
  rw [k9, if_neg (by decide)] at hQ
  rw [k9] at i9
  obtain ⟨i4, l4, e4, hl4, hf4, hR4⟩ := r_M_fails (i := i2) (l := l2) (d + 27) (k := 2) (by decide) (by decide) hN hR2
  subst hl4
  simp (disch := first | assumption | omega) only [b_M_readLine_0, b_M_readLine_13, b_M_readLine_20, b_M_readLine_28, b_M_readLine_43, b_M_readLine_52, b_M_readLine_59, b_M_readLine_68, b_M_readLine_77, b_M_readLine_80, b_M_readLine_91, b_M_readLine_99, ↓Bool.cond_decide, ↓q_in, q_le, q_lt, q_eq, q_leT, q_leF, q_ltT, q_ltF, q_eqT, q_eqF, ↓reduceIte, not_true_eq_false, not_false_eq_true, true_and, and_true, and_self, false_and, and_false, Nat.zero_le, am_bd_some, q_app, q_app0, nI_add, pk_sub, pk_mul, q_dec, q_ix, q_m1, q_m1', ↓q_ret, q_bool, q_bool1, q_u2, q_u1, q_shl1, q_shr, q_and7, q_dg, fa_or, fa_and, decide_true, decide_false, Bool.or_false, Bool.or_true, Bool.true_or, Bool.false_or, cond_true, cond_false, ite_not, q_some, q_nn, q_xor, q_xorm, Bool.false_eq_true, decide_eq_true_eq, ne_eq, l_0, l_1, l_2, l_3, l_4, l_5, l_7, l_8, l_9, l_11, l_13, l_20, l_28, l_43, l_52, l_59, l_68, l_77, l_80, l_91, l_99, l_1074, i1, h11, h0, e2, i3, i8, i9, e4]
  exact MR_some (hQ _ _ ⟨rfl, by (repeat (first | exact Fx_refl _ _ | assumption | refine Fx_u2 rfl ?_ | refine Fx_u1 rfl (by decide) ?_ | refine Fx_step (by assumption) rfl ?_ | refine Fx_stepr (by assumption) rfl rfl ?_)), hR4⟩)
end
