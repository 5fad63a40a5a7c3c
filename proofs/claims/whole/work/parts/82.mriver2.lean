/-! THE MODEL: people, laws, lines, the river -/
theorem xp_et {B : Nat → Nat} {N k : Nat} {s : PS} : xpS B N k s = if isS B N k s = true then etS B N k s else flS B N 2 (etS B N k s) := by
  unfold xpS
  by_cases h : isS B N k s = true
  · rw [if_pos h, if_pos h, et_1 h]
  · rw [if_neg h, if_neg h, et_0 (by rw [Bool.not_eq_true] at h; exact h)]
theorem SQ_flL {B : Nat → Nat} {N p : Nat} (hp : p < 4) : ∀ n s, SQ s → SQ (flL B N p n s)
  | 0, s, h => h
  | n + 1, s, h => by
    rw [flL]
    split
    · split
      · exact SQ_flL hp n _ (SQ_fg hp h)
      · exact SQ_fg hp h
    · exact h
section
variable {B : Nat → Nat} {N : Nat}
theorem fgS_2 {p k : Nat} {s : PS} (hp : p < 4) (hk : k ≤ 13) (z : (fgS B N p s).1 = 0) : (fgS B N p s).2.2.2 k = s.2.2.2 k := by
  have go : ∀ (c v lo hi : Nat) (u : PS), 14 ≤ c → (u.1 = 0 → u.2.2.2 k = s.2.2.2 k) → (stF c v (tkS B N lo hi u)).1 = 0 → (stF c v (tkS B N lo hi u)).2.2.2 k = s.2.2.2 k := by
    intro c v lo hi u hc hu z
    rw [stF_w] at z
    rw [stF_0 z]
    obtain ⟨q1, q2, _, _⟩ := tkS_0 z
    show ug (tkS B N lo hi u).2.2.2 c v k = _
    unfold ug
    rw [if_neg (by omega), q2]
    exact hu q1
  unfold fgS at z ⊢
  by_cases h5 : isS B N 5 s = true
  · rw [if_pos h5] at z ⊢; exact go _ _ _ _ _ (by omega) (fun _ => rfl) z
  · rw [if_neg h5] at z ⊢
    by_cases h6 : isS B N 6 s = true
    · rw [if_pos h6] at z ⊢; exact go _ _ _ _ _ (by omega) (fun _ => rfl) z
    · rw [if_neg h6] at z ⊢
      by_cases h7 : isS B N 7 s = true
      · rw [if_pos h7] at z ⊢; exact go _ _ _ _ _ (by omega) (fun y => by rw [apS_0 y]; rfl) z
      · rw [if_neg h7]
theorem flL_2 {p k : Nat} (hp : p < 4) (hk : k ≤ 13) : ∀ n s, (flL B N p n s).1 = 0 → s.1 = 0 ∧ (flL B N p n s).2.2.2 k = s.2.2.2 k
  | 0, s, z => ⟨z, rfl⟩
  | n + 1, s, z => by
    rw [flL] at z ⊢
    by_cases h0 : s.1 = 0
    · rw [if_pos h0] at z ⊢
      by_cases hb : fgB B N p s = true
      · rw [if_pos hb] at z ⊢
        obtain ⟨q1, q2⟩ := flL_2 hp hk n _ z
        exact ⟨h0, q2.trans (fgS_2 hp hk q1)⟩
      · rw [if_neg hb] at z ⊢
        exact ⟨h0, fgS_2 hp hk z⟩
    · rw [if_neg h0] at z; exact absurd z h0
end
section
variable {i : Nat → Nat → Int32} {l : Nat → Nat → Int64} {B : Nat → Nat} {N : Nat}
theorem r_M_readPerson (d : Nat) {s : PS} (h0 : s.1 = 0) (hk3 : kj B N s.2.2.1 = 3) (hQs : SQ s) (hC : CB B N s) (hT : TP i B N) (hR : RP B N i s) : MR none (fun i' l' => l' = l ∧ Fx [4, 106, 107, 109, 110, 111, 112] i i' ∧ RP B N i' (peS B N s)) (am_cl (d + 5) mM_readPerson [.ref 0] (i, l, rM, kM)) := by
  have hN := hT.1
  obtain ⟨s1, s2, s3⟩ := hQs h0
  have h11 := hR.1
  have h42 := (hR.2.2.2 h0).2.2.2.2 2 (by decide)
  refine MR_q ?_
  intro Q hQ
  rw [c_M_readPerson, b_M_readPerson_0]
  unfold peS at hQ
  by_cases hp4 : s.2.2.2 2 = 4
  · rw [if_pos hp4] at hQ
    obtain ⟨i2, l2, e2, hl2, hf2, hR2⟩ := r_M_fails (i := i) (l := l) (d + 3) (k := 4) (by decide) (by decide) hN hR
    subst hl2
    have h112 := hR2.1
    have h4 := hR2.2.1
    have hw := flS_w (B := B) (N := N) (k := 4) (s := s) (by decide)
    simp (disch := first | assumption | omega) only [b_M_readPerson_0, b_M_readPerson_17, b_M_readPerson_29, b_M_readPerson_34, b_M_readPerson_42, b_M_readPerson_56, b_M_readPerson_79, b_M_readPerson_85, b_M_readPerson_102, ↓Bool.cond_decide, ↓q_in, q_le, q_lt, q_eq, q_leT, q_leF, q_ltT, q_ltF, q_eqT, q_eqF, ↓reduceIte, not_true_eq_false, not_false_eq_true, true_and, and_true, and_self, false_and, and_false, Nat.zero_le, am_bd_some, q_app, q_app0, nI_add, pk_sub, pk_mul, q_dec, q_ix, q_m1, q_m1', ↓q_ret, q_bool, q_bool1, q_u2, q_u1, q_shl1, q_shr, q_and7, q_dg, fa_or, fa_and, decide_true, decide_false, Bool.or_false, Bool.or_true, Bool.true_or, Bool.false_or, cond_true, cond_false, ite_not, q_some, q_nn, q_xor, q_xorm, Bool.false_eq_true, decide_eq_true_eq, ne_eq, l_0, l_1, l_2, l_3, l_4, l_5, l_6, l_7, l_8, l_9, l_10, l_11, l_14, l_15, l_17, l_22, l_29, l_34, l_42, l_56, l_67, l_79, l_85, l_102, l_1074, h42, hp4, e2, h112, hw]
    exact MR_some (hQ _ _ ⟨rfl, by (repeat (first | exact Fx_refl _ _ | assumption | refine Fx_u2 rfl ?_ | refine Fx_u1 rfl (by decide) ?_ | refine Fx_step (by assumption) rfl ?_ | refine Fx_stepr (by assumption) rfl rfl ?_)), hR2⟩)
  · rw [if_neg hp4] at hQ
    have hp : s.2.2.2 2 < 4 := by omega
    obtain ⟨i2, l2, e2, hl2, hf2, hR2⟩ := r_M_nx (i := i) (l := l) (d + 2) hT hR h0
    subst hl2
    have hT2 : TP i2 B N := TP_fx hf2 hT rfl rfl
    have hC2 := Pg_cb (Pg_nx hC (by rw [hk3]; decide)) hC
    have hQ2 : SQ (nxS s) := SQ_of hQs (fun z => ⟨z, fun _ _ => rfl⟩)
    obtain ⟨i3, l3, e3, hl3, hf3, hR3⟩ := r_M_eats (i := i2) (l := l2) (d + 1) (k := 4) (by decide) hT2 hR2
    subst hl3
    have hT3 : TP i3 B N := TP_fx hf3 hT2 rfl rfl
    generalize hP : s.2.2.2 2 = P at *
    -- from the number on
    have body : ∀ i4, Fx [106, 107, 109, 110, 111, 112] i i4 → RP B N i4 (xpS B N 4 (nxS s)) → MR none Q (am_Ex (d + 4) mM_readPerson 42 [.val (.ref 0), .val (.int (nI P))] [] (i4, l3, rM, kM)) := by
      intro i4 hf4 hR4
      have hC4 := Pg_cb (Pg_xp hC2 (show 4 ≠ 24 by decide)) hC2
      have hQ4 := SQ_xp (B := B) (N := N) (k := 4) hQ2
      obtain ⟨v, hv, i5, l5, e5, hl5, hf5, hR5⟩ := r_M_takes (i := i4) (l := l3) (d + 1) (lo := 1) (hi := 4) (by decide) (by decide) (TP_fx hf4 hT rfl rfl) hR4
      subst hl5
      have hR6 := RP_st (k := 22 + P) (v := nI 5) (x := 5) (RP_st (k := 10 + P) (v := v) hR5 hv) (fun _ => rfl)
      have hC6 : CB B N (stF (22 + P) 5 (stF (10 + P) (uj B N (xpS B N 4 (nxS s)).2.2.1) (tkS B N 1 4 (xpS B N 4 (nxS s))))) := by
        refine Pq_cb (Pq_st (Pq_st (Pq_of (Pg_tk (lo := 1) (hi := 4) hC4)) (by omega)) (by omega)) hC4
      have hQ6 : SQ (stF (22 + P) 5 (stF (10 + P) (uj B N (xpS B N 4 (nxS s)).2.2.1) (tkS B N 1 4 (xpS B N 4 (nxS s))))) := SQ_st (SQ_st (SQ_tk hQ4) (by omega) (by omega) (fun a b => by omega)) (by omega) (by omega) (fun a b => by omega)
      generalize stF (22 + P) 5 (stF (10 + P) (uj B N (xpS B N 4 (nxS s)).2.2.1) (tkS B N 1 4 (xpS B N 4 (nxS s)))) = s6 at hR6 hC6 hQ6 hQ
      rw [b_M_readPerson_42]
      simp (disch := first | assumption | omega) only [b_M_readPerson_0, b_M_readPerson_17, b_M_readPerson_29, b_M_readPerson_34, b_M_readPerson_42, b_M_readPerson_56, b_M_readPerson_79, b_M_readPerson_85, b_M_readPerson_102, ↓Bool.cond_decide, ↓q_in, q_le, q_lt, q_eq, q_leT, q_leF, q_ltT, q_ltF, q_eqT, q_eqF, ↓reduceIte, not_true_eq_false, not_false_eq_true, true_and, and_true, and_self, false_and, and_false, Nat.zero_le, am_bd_some, q_app, q_app0, nI_add, pk_sub, pk_mul, q_dec, q_ix, q_m1, q_m1', ↓q_ret, q_bool, q_bool1, q_u1, q_shl1, q_shr, q_and7, q_dg, fa_or, fa_and, decide_true, decide_false, Bool.or_false, Bool.or_true, Bool.true_or, Bool.false_or, cond_true, cond_false, ite_not, q_some, q_nn, q_xor, q_xorm, Bool.false_eq_true, decide_eq_true_eq, ne_eq, l_0, l_1, l_2, l_3, l_4, l_5, l_6, l_7, l_8, l_9, l_10, l_11, l_14, l_15, l_17, l_22, l_29, l_34, l_42, l_56, l_67, l_79, l_85, l_102, l_1074, e5]
      -- flags
      have key : ∀ n t i7, RP B N i7 t → CB B N t → SQ t → Fx [4, 106, 107, 109, 110, 111, 112] i i7 → (t.1 = 0 → N < t.2.2.1 + n) → (∀ i' l', (l' = l5 ∧ Fx [4, 106, 107, 109, 110, 111, 112] i i' ∧ RP B N i' (inP (flL B N P n t))) → Q i' l') → MR none Q (am_Ex (d + 4) mM_readPerson 67 [.val (.ref 0), .val (.int (nI P))] [] (i7, l5, rM, kM)) := by
        have last : ∀ t i7 z1, RP B N i7 t → Fx [4, 106, 107, 109, 110, 111, 112] i i7 → (∀ i' l', (l' = l5 ∧ Fx [4, 106, 107, 109, 110, 111, 112] i i' ∧ RP B N i' (inP t)) → Q i' l') → MR none Q (am_Ex (d + 4) mM_readPerson 85 [.val (.ref 0), z1] [] (i7, l5, rM, kM)) := by
          intro t i7 z1 hR7 hf7 hQ
          have h117 := hR7.1
          have h47 := hR7.2.1
          rw [b_M_readPerson_85]
          by_cases ht0 : t.1 = 0
          · have h427 := (hR7.2.2.2 ht0).2.2.2.2 2 (by decide)
            simp (disch := first | assumption | omega) only [b_M_readPerson_0, b_M_readPerson_17, b_M_readPerson_29, b_M_readPerson_34, b_M_readPerson_42, b_M_readPerson_56, b_M_readPerson_79, b_M_readPerson_85, b_M_readPerson_102, ↓Bool.cond_decide, ↓q_in, q_le, q_lt, q_eq, q_leT, q_leF, q_ltT, q_ltF, q_eqT, q_eqF, ↓reduceIte, not_true_eq_false, not_false_eq_true, true_and, and_true, and_self, false_and, and_false, Nat.zero_le, am_bd_some, q_app, q_app0, nI_add, pk_sub, pk_mul, q_dec, q_ix, q_m1, q_m1', ↓q_ret, q_bool, q_bool1, q_u1, q_shl1, q_shr, q_and7, q_dg, fa_or, fa_and, decide_true, decide_false, Bool.or_false, Bool.or_true, Bool.true_or, Bool.false_or, cond_true, cond_false, ite_not, q_some, q_nn, q_xor, q_xorm, Bool.false_eq_true, decide_eq_true_eq, ne_eq, l_0, l_1, l_2, l_3, l_4, l_5, l_6, l_7, l_8, l_9, l_10, l_11, l_14, l_15, l_17, l_22, l_29, l_34, l_42, l_56, l_67, l_79, l_85, l_102, l_1074, h117, ht0, h427]
            exact MR_some (hQ _ _ ⟨rfl, by (repeat (first | exact Fx_refl _ _ | assumption | refine Fx_u2 rfl ?_ | refine Fx_u1 rfl (by decide) ?_ | refine Fx_step (by assumption) rfl ?_ | refine Fx_stepr (by assumption) rfl rfl ?_)), RP_st hR7 (fun _ => rfl)⟩)
          · have e : inP t = t := by unfold inP stF; rw [if_neg ht0]
            simp (disch := first | assumption | omega) only [b_M_readPerson_0, b_M_readPerson_17, b_M_readPerson_29, b_M_readPerson_34, b_M_readPerson_42, b_M_readPerson_56, b_M_readPerson_79, b_M_readPerson_85, b_M_readPerson_102, ↓Bool.cond_decide, ↓q_in, q_le, q_lt, q_eq, q_leT, q_leF, q_ltT, q_ltF, q_eqT, q_eqF, ↓reduceIte, not_true_eq_false, not_false_eq_true, true_and, and_true, and_self, false_and, and_false, Nat.zero_le, am_bd_some, q_app, q_app0, nI_add, pk_sub, pk_mul, q_dec, q_ix, q_m1, q_m1', ↓q_ret, q_bool, q_bool1, q_u2, q_u1, q_shl1, q_shr, q_and7, q_dg, fa_or, fa_and, decide_true, decide_false, Bool.or_false, Bool.or_true, Bool.true_or, Bool.false_or, cond_true, cond_false, ite_not, q_some, q_nn, q_xor, q_xorm, Bool.false_eq_true, decide_eq_true_eq, ne_eq, l_0, l_1, l_2, l_3, l_4, l_5, l_6, l_7, l_8, l_9, l_10, l_11, l_14, l_15, l_17, l_22, l_29, l_34, l_42, l_56, l_67, l_79, l_85, l_102, l_1074, h117, ht0]
            exact MR_some (hQ _ _ ⟨rfl, hf7, by rw [e]; exact hR7⟩)
        intro n
        induction n with
        | zero =>
          intro t i7 hR7 hC7 hQ7 hf7 hn hQ
          have h117 := hR7.1
          have h47 := hR7.2.1
          have ht0 : t.1 ≠ 0 := fun z => by
            have a1 := hn z
            have a2 := (hC7 z).2
            have a3 := pj_le B N t.2.2.1
            omega
          rw [b_M_readPerson_67]
          simp (disch := first | assumption | omega) only [b_M_readPerson_0, b_M_readPerson_17, b_M_readPerson_29, b_M_readPerson_34, b_M_readPerson_42, b_M_readPerson_56, b_M_readPerson_79, b_M_readPerson_102, ↓Bool.cond_decide, ↓q_in, q_le, q_lt, q_eq, q_leT, q_leF, q_ltT, q_ltF, q_eqT, q_eqF, ↓reduceIte, not_true_eq_false, not_false_eq_true, true_and, and_true, and_self, false_and, and_false, Nat.zero_le, am_bd_some, q_app, q_app0, nI_add, pk_sub, pk_mul, q_dec, q_ix, q_m1, q_m1', ↓q_ret, q_bool, q_bool1, q_u2, q_u1, q_shl1, q_shr, q_and7, q_dg, fa_or, fa_and, decide_true, decide_false, Bool.or_false, Bool.or_true, Bool.true_or, Bool.false_or, cond_true, cond_false, ite_not, q_some, q_nn, q_xor, q_xorm, Bool.false_eq_true, decide_eq_true_eq, ne_eq, l_0, l_1, l_2, l_3, l_4, l_5, l_6, l_7, l_8, l_9, l_10, l_11, l_14, l_15, l_17, l_22, l_29, l_34, l_42, l_56, l_67, l_79, l_85, l_102, l_1074, h117, ht0]
          exact last t i7 _ hR7 hf7 hQ
        | succ n ih =>
          intro t i7 hR7 hC7 hQ7 hf7 hn hQ
          have h117 := hR7.1
          have h47 := hR7.2.1
          rw [flL] at hQ
          rw [b_M_readPerson_67]
          by_cases ht0 : t.1 = 0
          · rw [if_pos ht0] at hQ
            obtain ⟨i8, l8, e8, hl8, hf8, hR8⟩ := r_M_readFlag (i := i7) (l := l5) d (p := P) hp ht0 hQ7 (TP_fx hf7 hT rfl rfl) hR7
            subst hl8
            obtain ⟨p1, p2⟩ := Pq_fg (p := P) (by omega) hC7
            cases hb : fgB B N P t with
            | true =>
              rw [hb, if_pos rfl] at hQ
              rw [hb] at e8
              simp (disch := first | assumption | omega) only [b_M_readPerson_0, b_M_readPerson_17, b_M_readPerson_29, b_M_readPerson_34, b_M_readPerson_42, b_M_readPerson_56, b_M_readPerson_79, b_M_readPerson_102, ↓Bool.cond_decide, ↓q_in, q_le, q_lt, q_eq, q_leT, q_leF, q_ltT, q_ltF, q_eqT, q_eqF, ↓reduceIte, not_true_eq_false, not_false_eq_true, true_and, and_true, and_self, false_and, and_false, Nat.zero_le, am_bd_some, q_app, q_app0, nI_add, pk_sub, pk_mul, q_dec, q_ix, q_m1, q_m1', ↓q_ret, q_bool, q_bool1, q_u2, q_u1, q_shl1, q_shr, q_and7, q_dg, fa_or, fa_and, decide_true, decide_false, Bool.or_false, Bool.or_true, Bool.true_or, Bool.false_or, cond_true, cond_false, ite_not, q_some, q_nn, q_xor, q_xorm, Bool.false_eq_true, decide_eq_true_eq, ne_eq, l_0, l_1, l_2, l_3, l_4, l_5, l_6, l_7, l_8, l_9, l_10, l_11, l_14, l_15, l_17, l_22, l_29, l_34, l_42, l_56, l_67, l_79, l_85, l_102, l_1074, h117, ht0, e8]
              refine ih _ i8 hR8 (Pq_cb p1 hC7) (SQ_fg hp hQ7) (by (repeat (first | exact Fx_refl _ _ | assumption | refine Fx_u2 rfl ?_ | refine Fx_u1 rfl (by decide) ?_ | refine Fx_step (by assumption) rfl ?_ | refine Fx_stepr (by assumption) rfl rfl ?_))) (fun z => ?_) hQ
              have a1 := hn ht0
              have a2 := p2 hb
              omega
            | false =>
              rw [hb, if_neg (by decide)] at hQ
              rw [hb] at e8
              simp (disch := first | assumption | omega) only [b_M_readPerson_0, b_M_readPerson_17, b_M_readPerson_29, b_M_readPerson_34, b_M_readPerson_42, b_M_readPerson_56, b_M_readPerson_79, b_M_readPerson_102, ↓Bool.cond_decide, ↓q_in, q_le, q_lt, q_eq, q_leT, q_leF, q_ltT, q_ltF, q_eqT, q_eqF, ↓reduceIte, not_true_eq_false, not_false_eq_true, true_and, and_true, and_self, false_and, and_false, Nat.zero_le, am_bd_some, q_app, q_app0, nI_add, pk_sub, pk_mul, q_dec, q_ix, q_m1, q_m1', ↓q_ret, q_bool, q_bool1, q_u2, q_u1, q_shl1, q_shr, q_and7, q_dg, fa_or, fa_and, decide_true, decide_false, Bool.or_false, Bool.or_true, Bool.true_or, Bool.false_or, cond_true, cond_false, ite_not, q_some, q_nn, q_xor, q_xorm, Bool.false_eq_true, decide_eq_true_eq, ne_eq, l_0, l_1, l_2, l_3, l_4, l_5, l_6, l_7, l_8, l_9, l_10, l_11, l_14, l_15, l_17, l_22, l_29, l_34, l_42, l_56, l_67, l_79, l_85, l_102, l_1074, h117, ht0, e8]
              exact last _ i8 _ hR8 (by (repeat (first | exact Fx_refl _ _ | assumption | refine Fx_u2 rfl ?_ | refine Fx_u1 rfl (by decide) ?_ | refine Fx_step (by assumption) rfl ?_ | refine Fx_stepr (by assumption) rfl rfl ?_))) hQ
          · rw [if_neg ht0] at hQ
            simp (disch := first | assumption | omega) only [b_M_readPerson_0, b_M_readPerson_17, b_M_readPerson_29, b_M_readPerson_34, b_M_readPerson_42, b_M_readPerson_56, b_M_readPerson_79, b_M_readPerson_102, ↓Bool.cond_decide, ↓q_in, q_le, q_lt, q_eq, q_leT, q_leF, q_ltT, q_ltF, q_eqT, q_eqF, ↓reduceIte, not_true_eq_false, not_false_eq_true, true_and, and_true, and_self, false_and, and_false, Nat.zero_le, am_bd_some, q_app, q_app0, nI_add, pk_sub, pk_mul, q_dec, q_ix, q_m1, q_m1', ↓q_ret, q_bool, q_bool1, q_u2, q_u1, q_shl1, q_shr, q_and7, q_dg, fa_or, fa_and, decide_true, decide_false, Bool.or_false, Bool.or_true, Bool.true_or, Bool.false_or, cond_true, cond_false, ite_not, q_some, q_nn, q_xor, q_xorm, Bool.false_eq_true, decide_eq_true_eq, ne_eq, l_0, l_1, l_2, l_3, l_4, l_5, l_6, l_7, l_8, l_9, l_10, l_11, l_14, l_15, l_17, l_22, l_29, l_34, l_42, l_56, l_67, l_79, l_85, l_102, l_1074, h117, ht0]
            exact last t i7 _ hR7 hf7 hQ
      exact key 1000 s6 _ hR6 hC6 hQ6 (by (repeat (first | exact Fx_refl _ _ | assumption | refine Fx_u2 rfl ?_ | refine Fx_u1 rfl (by decide) ?_ | refine Fx_step (by assumption) rfl ?_ | refine Fx_stepr (by assumption) rfl rfl ?_))) (fun _ => by omega) (fun i' l' q => hQ i' l' q)
    cases hb4 : isS B N 4 (nxS s) with
    | true =>
      have ex : xpS B N 4 (nxS s) = nxS (nxS s) := by unfold xpS; rw [if_pos hb4]
      rw [et_1 hb4, ← ex] at hR3
      rw [hb4] at e3
      simp (disch := first | assumption | omega) only [b_M_readPerson_0, b_M_readPerson_17, b_M_readPerson_29, b_M_readPerson_34, b_M_readPerson_56, b_M_readPerson_79, b_M_readPerson_85, b_M_readPerson_102, ↓Bool.cond_decide, ↓q_in, q_le, q_lt, q_eq, q_leT, q_leF, q_ltT, q_ltF, q_eqT, q_eqF, ↓reduceIte, not_true_eq_false, not_false_eq_true, true_and, and_true, and_self, false_and, and_false, Nat.zero_le, am_bd_some, q_app, q_app0, nI_add, pk_sub, pk_mul, q_dec, q_ix, q_m1, q_m1', ↓q_ret, q_bool, q_bool1, q_u2, q_u1, q_shl1, q_shr, q_and7, q_dg, fa_or, fa_and, decide_true, decide_false, Bool.or_false, Bool.or_true, Bool.true_or, Bool.false_or, cond_true, cond_false, ite_not, q_some, q_nn, q_xor, q_xorm, Bool.false_eq_true, decide_eq_true_eq, ne_eq, l_0, l_1, l_2, l_3, l_4, l_5, l_6, l_7, l_8, l_9, l_10, l_11, l_14, l_15, l_17, l_22, l_29, l_34, l_42, l_56, l_67, l_79, l_85, l_102, l_1074, h42, e2, e3, h11, h0]
      exact body i3 (by (repeat (first | exact Fx_refl _ _ | assumption | refine Fx_u2 rfl ?_ | refine Fx_u1 rfl (by decide) ?_ | refine Fx_step (by assumption) rfl ?_ | refine Fx_stepr (by assumption) rfl rfl ?_))) hR3
    | false =>
      have ex : xpS B N 4 (nxS s) = flS B N 2 (nxS s) := by unfold xpS; rw [if_neg (by rw [hb4]; decide)]
      rw [et_0 hb4] at hR3
      rw [hb4] at e3
      obtain ⟨i4, l4, e4, hl4, hf4, hR4⟩ := r_M_fails (i := i3) (l := l3) (d + 3) (k := 2) (by decide) (by decide) hN hR3
      subst hl4
      rw [← ex] at hR4
      simp (disch := first | assumption | omega) only [b_M_readPerson_0, b_M_readPerson_17, b_M_readPerson_29, b_M_readPerson_34, b_M_readPerson_56, b_M_readPerson_79, b_M_readPerson_85, b_M_readPerson_102, ↓Bool.cond_decide, ↓q_in, q_le, q_lt, q_eq, q_leT, q_leF, q_ltT, q_ltF, q_eqT, q_eqF, ↓reduceIte, not_true_eq_false, not_false_eq_true, true_and, and_true, and_self, false_and, and_false, Nat.zero_le, am_bd_some, q_app, q_app0, nI_add, pk_sub, pk_mul, q_dec, q_ix, q_m1, q_m1', ↓q_ret, q_bool, q_bool1, q_u2, q_u1, q_shl1, q_shr, q_and7, q_dg, fa_or, fa_and, decide_true, decide_false, Bool.or_false, Bool.or_true, Bool.true_or, Bool.false_or, cond_true, cond_false, ite_not, q_some, q_nn, q_xor, q_xorm, Bool.false_eq_true, decide_eq_true_eq, ne_eq, l_0, l_1, l_2, l_3, l_4, l_5, l_6, l_7, l_8, l_9, l_10, l_11, l_14, l_15, l_17, l_22, l_29, l_34, l_42, l_56, l_67, l_79, l_85, l_102, l_1074, h42, e2, e3, e4, h11, h0]
      exact body i4 (by (repeat (first | exact Fx_refl _ _ | assumption | refine Fx_u2 rfl ?_ | refine Fx_u1 rfl (by decide) ?_ | refine Fx_step (by assumption) rfl ?_ | refine Fx_stepr (by assumption) rfl rfl ?_))) hR4
theorem r_M_readLaw (d : Nat) {law : Nat} {s : PS} (hl : law < 2) (h0 : s.1 = 0) (hk24 : kj B N s.2.2.1 ≠ 24) (hC : CB B N s) (hT : TP i B N) (hR : RP B N i s) : MR none (fun i' l' => l' = l ∧ Fx [4, 106, 107, 109, 110, 111, 112, 115] i i' ∧ RP B N i' (lwS B N law s)) (am_cl (d + 28) mM_readLaw [.ref 0, .int (nI law)] (i, l, rM, kM)) := by
  have hN := hT.1
  obtain ⟨i2, l2, e2, hl2, hf2, hR2⟩ := r_M_nx (i := i) (l := l) (d + 25) hT hR h0
  subst hl2
  have hT2 : TP i2 B N := TP_fx hf2 hT rfl rfl
  have hC2 := Pg_cb (Pg_nx hC hk24) hC
  obtain ⟨i3, l3, e3, hl3, hf3, hR3⟩ := r_M_eats (i := i2) (l := l2) (d + 24) (k := 31) (by decide) hT2 hR2
  subst hl3
  refine MR_q ?_
  intro Q hQ
  rw [c_M_readLaw, b_M_readLaw_0]
  unfold lwS at hQ
  have body : ∀ i4 z2, Fx [106, 107, 109, 110, 111, 112] i i4 → RP B N i4 (xpS B N 31 (nxS s)) → MR none Q (am_Ex (d + 27) mM_readLaw 18 [.val (.ref 0), .val (.int (nI law)), z2] [] (i4, l3, rM, kM)) := by
    intro i4 z2 hf4 hR4
    have hC4 := Pg_cb (Pg_xp hC2 (show 31 ≠ 24 by decide)) hC2
    have hf5 : Fx [106, 107, 109, 110, 111, 112, 115] i (am_u2 i4 0 15 (nI law)) := by (repeat (first | exact Fx_refl _ _ | assumption | refine Fx_u2 rfl ?_ | refine Fx_u1 rfl (by decide) ?_ | refine Fx_step (by assumption) rfl ?_ | refine Fx_stepr (by assumption) rfl rfl ?_))
    have hR5 : RP B N (am_u2 i4 0 15 (nI law)) (xpS B N 31 (nxS s)) := hR4
    have hpg := ok_truL (law := law) (r := 6) _ hC4
    obtain ⟨i6, l6, e6, hl6, hf6, hR6⟩ := ct_truL hl d (am_u2 i4 0 15 (nI law)) l3 _ hR5 (TP_fx hf5 hT rfl rfl) rfl hC4
    subst hl6
    have h116 := hR6.1
    have h46 := hR6.2.1
    rw [b_M_readLaw_18]
    by_cases hw : (truL B N law 6 (xpS B N 31 (nxS s))).1 = 0
    · have h173 := (hR6.2.2.2 hw).2.2.2.2 173 (by decide)
      obtain ⟨a1, a2, a3, a4, a5⟩ := hpg hw
      have hfrom := (hR4.2.2.2 a1).2.2.2.2 173 (by decide)
      have hle : (xpS B N 31 (nxS s)).2.2.2 173 ≤ (truL B N law 6 (xpS B N 31 (nxS s))).2.2.2 173 := a3.1
      have e173 : ∀ v w, am_u2 (am_u2 i6 4 (4 + law) v) 4 (6 + law) w 4 173 = nI ((truL B N law 6 (xpS B N 31 (nxS s))).2.2.2 173) := fun v w => by
        show (if 173 = 6 + law then w else (if 173 = 4 + law then v else i6 4 173)) = _
        rw [if_neg (by omega), if_neg (by omega)]; exact h173
      simp (disch := first | assumption | omega) only [b_M_readLaw_0, b_M_readLaw_4, b_M_readLaw_10, b_M_readLaw_18, b_M_readLaw_37, ↓Bool.cond_decide, ↓q_in, q_le, q_lt, q_eq, q_leT, q_leF, q_ltT, q_ltF, q_eqT, q_eqF, ↓reduceIte, not_true_eq_false, not_false_eq_true, true_and, and_true, and_self, false_and, and_false, Nat.zero_le, am_bd_some, q_app, q_app0, nI_add, pk_sub, pk_mul, q_dec, q_ix, q_m1, q_m1', ↓q_ret, q_bool, q_bool1, q_u1, q_shl1, q_shr, q_and7, q_dg, fa_or, fa_and, decide_true, decide_false, Bool.or_false, Bool.or_true, Bool.true_or, Bool.false_or, cond_true, cond_false, ite_not, q_some, q_nn, q_xor, q_xorm, Bool.false_eq_true, decide_eq_true_eq, ne_eq, l_0, l_1, l_2, l_4, l_5, l_6, l_7, l_8, l_10, l_11, l_13, l_15, l_18, l_31, l_33, l_37, l_173, l_1074, e6, h116, hw, hfrom, e173]
      exact MR_some (hQ _ _ ⟨rfl, by (repeat (first | exact Fx_refl _ _ | assumption | refine Fx_u2 rfl ?_ | refine Fx_u1 rfl (by decide) ?_ | refine Fx_step (by assumption) rfl ?_ | refine Fx_stepr (by assumption) rfl rfl ?_)), RP_st (RP_st (RP_st hR6 (fun _ => rfl)) (fun _ => rfl)) (fun _ => rfl)⟩)
    · have e1 : ∀ a b c d' e' f', stF a b (stF c d' (stF e' f' (truL B N law 6 (xpS B N 31 (nxS s))))) = truL B N law 6 (xpS B N 31 (nxS s)) := fun a b c d' e' f' => by
        have q1 : stF e' f' (truL B N law 6 (xpS B N 31 (nxS s))) = truL B N law 6 (xpS B N 31 (nxS s)) := by unfold stF; rw [if_neg hw]
        rw [q1]
        have q2 : stF c d' (truL B N law 6 (xpS B N 31 (nxS s))) = truL B N law 6 (xpS B N 31 (nxS s)) := by unfold stF; rw [if_neg hw]
        rw [q2]
        unfold stF; rw [if_neg hw]
      rw [e1] at hQ
      simp (disch := first | assumption | omega) only [b_M_readLaw_0, b_M_readLaw_4, b_M_readLaw_10, b_M_readLaw_18, b_M_readLaw_37, ↓Bool.cond_decide, ↓q_in, q_le, q_lt, q_eq, q_leT, q_leF, q_ltT, q_ltF, q_eqT, q_eqF, ↓reduceIte, not_true_eq_false, not_false_eq_true, true_and, and_true, and_self, false_and, and_false, Nat.zero_le, am_bd_some, q_app, q_app0, nI_add, pk_sub, pk_mul, q_dec, q_ix, q_m1, q_m1', ↓q_ret, q_bool, q_bool1, q_u1, q_shl1, q_shr, q_and7, q_dg, fa_or, fa_and, decide_true, decide_false, Bool.or_false, Bool.or_true, Bool.true_or, Bool.false_or, cond_true, cond_false, ite_not, q_some, q_nn, q_xor, q_xorm, Bool.false_eq_true, decide_eq_true_eq, ne_eq, l_0, l_1, l_2, l_4, l_5, l_6, l_7, l_8, l_10, l_11, l_13, l_15, l_18, l_31, l_33, l_37, l_173, l_1074, e6, h116, hw]
      exact MR_some (hQ _ _ ⟨rfl, by (repeat (first | exact Fx_refl _ _ | assumption | refine Fx_u2 rfl ?_ | refine Fx_u1 rfl (by decide) ?_ | refine Fx_step (by assumption) rfl ?_ | refine Fx_stepr (by assumption) rfl rfl ?_)), hR6⟩)
  cases hb : isS B N 31 (nxS s) with
  | true =>
    have ex : xpS B N 31 (nxS s) = nxS (nxS s) := by unfold xpS; rw [if_pos hb]
    rw [et_1 hb, ← ex] at hR3
    rw [hb] at e3
    simp (disch := first | assumption | omega) only [b_M_readLaw_0, b_M_readLaw_4, b_M_readLaw_10, b_M_readLaw_37, ↓Bool.cond_decide, ↓q_in, q_le, q_lt, q_eq, q_leT, q_leF, q_ltT, q_ltF, q_eqT, q_eqF, ↓reduceIte, not_true_eq_false, not_false_eq_true, true_and, and_true, and_self, false_and, and_false, Nat.zero_le, am_bd_some, q_app, q_app0, nI_add, pk_sub, pk_mul, q_dec, q_ix, q_m1, q_m1', ↓q_ret, q_bool, q_bool1, q_u2, q_u1, q_shl1, q_shr, q_and7, q_dg, fa_or, fa_and, decide_true, decide_false, Bool.or_false, Bool.or_true, Bool.true_or, Bool.false_or, cond_true, cond_false, ite_not, q_some, q_nn, q_xor, q_xorm, Bool.false_eq_true, decide_eq_true_eq, ne_eq, l_0, l_1, l_2, l_4, l_5, l_6, l_7, l_8, l_10, l_11, l_13, l_15, l_18, l_31, l_33, l_37, l_173, l_1074, e2, e3]
    exact body i3 _ (by (repeat (first | exact Fx_refl _ _ | assumption | refine Fx_u2 rfl ?_ | refine Fx_u1 rfl (by decide) ?_ | refine Fx_step (by assumption) rfl ?_ | refine Fx_stepr (by assumption) rfl rfl ?_))) hR3
  | false =>
    have ex : xpS B N 31 (nxS s) = flS B N 2 (nxS s) := by unfold xpS; rw [if_neg (by rw [hb]; decide)]
    rw [et_0 hb] at hR3
    rw [hb] at e3
    obtain ⟨i4, l4, e4, hl4, hf4, hR4⟩ := r_M_fails (i := i3) (l := l3) (d + 26) (k := 2) (by decide) (by decide) hN hR3
    subst hl4
    rw [← ex] at hR4
    simp (disch := first | assumption | omega) only [b_M_readLaw_0, b_M_readLaw_4, b_M_readLaw_10, b_M_readLaw_37, ↓Bool.cond_decide, ↓q_in, q_le, q_lt, q_eq, q_leT, q_leF, q_ltT, q_ltF, q_eqT, q_eqF, ↓reduceIte, not_true_eq_false, not_false_eq_true, true_and, and_true, and_self, false_and, and_false, Nat.zero_le, am_bd_some, q_app, q_app0, nI_add, pk_sub, pk_mul, q_dec, q_ix, q_m1, q_m1', ↓q_ret, q_bool, q_bool1, q_u2, q_u1, q_shl1, q_shr, q_and7, q_dg, fa_or, fa_and, decide_true, decide_false, Bool.or_false, Bool.or_true, Bool.true_or, Bool.false_or, cond_true, cond_false, ite_not, q_some, q_nn, q_xor, q_xorm, Bool.false_eq_true, decide_eq_true_eq, ne_eq, l_0, l_1, l_2, l_4, l_5, l_6, l_7, l_8, l_10, l_11, l_13, l_15, l_18, l_31, l_33, l_37, l_173, l_1074, e2, e3, e4]
    exact body i4 _ (by (repeat (first | exact Fx_refl _ _ | assumption | refine Fx_u2 rfl ?_ | refine Fx_u1 rfl (by decide) ?_ | refine Fx_step (by assumption) rfl ?_ | refine Fx_stepr (by assumption) rfl rfl ?_))) hR4
end
