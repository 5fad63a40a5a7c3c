/-! THE CLASS: floods -/
section
variable {i : Nat → Nat → Int32} {l : Nat → Nat → Int64} {q : Nat → Nat → Option Nat} {K : List (Nat × Nat)} {r : Nat} {g : Nat → Nat}
def swF (g : Nat → Nat) (w a p : Nat) : Bool := sSpot g (dg a p) && !sHold g a p (g (22 + p)) w
theorem sSw_e (w a : Nat) : sSw g w a = bs (swF g w a) (g 2) := rfl
theorem bs_s0 {f : Nat → Bool} {n : Nat} : (bs f (n + 1) = 0) ↔ (bs f n = 0 ∧ f n = false) := by
  rw [bs]
  constructor
  · intro h
    have h1 : bs f n = 0 := by
      apply Nat.eq_of_testBit_eq
      intro j
      have := congrArg (fun x => Nat.testBit x j) h
      simp only [Nat.testBit_or, Nat.zero_testBit, Bool.or_eq_false_iff] at this
      rw [this.1, Nat.zero_testBit]
    refine ⟨h1, ?_⟩
    cases hf : f n with
    | false => rfl
    | true =>
      rw [h1, hf, if_pos rfl, Nat.zero_or] at h
      exact absurd h (Nat.ne_of_gt (Nat.two_pow_pos n))
  · intro ⟨h1, h2⟩
    rw [h1, h2]; simp
theorem sBes_lt (a x : Nat) : sBes g a x < 4 := by
  unfold sBes
  split <;> split <;> omega
theorem r_Ford_flooded (d : Nat) {m a w : Nat} (hV : RV (i, l, rX q, kX K) r g) (hL : LW g 0) (hq : rX q 11 1 = some r) (hm : l 11 2 = lN m) (hM : RM m (gCur g)) (hS6 : g 1 ≤ 6) (h2 : g 2 ≤ 4) (hst : ∀ p, p < 4 → g (22 + p) ≤ 9) (ha : a < 4096) (hw : w < 16) (hv : ∀ p, p < 4 → dg a p ≤ g 1 + 1) (hH : HV i g) : XR q K (some (.int (nI (sFl g w a)))) (fun i' l' => l' = l ∧ Fr [11, 13, 14, 20, 21] i i' ∧ HV i' g ∧ i' 11 7 = nI (sLk g w a)) (am_cl (d + 4) mFord_flooded [.ref 11, .int (nI a), .int (nI w)] (i, l, rX q, kX K)) := by
  have hV0 := hV
  obtain ⟨a1, a2, a3, a4, a5, a6, _, _, _, _⟩ := hV
  have hk : ∀ i', Nat.beq (am_kd (i', l, rX q, kX K) r) 6 = true := fun i' => by rw [show am_kd (i', l, rX q, kX K) r = 6 from a2]; rfl
  refine XR_q ?_
  intro Q hQ
  have hHf : ∀ {i1 i2 : Nat → Nat → Int32}, i2 20 = i1 20 → i2 21 = i1 21 → HV i1 g → HV i2 g := fun e1 e2 h => by
    unfold HV at h ⊢
    rw [e1, e2]; exact h
  have loop : ∀ n t i1 (b : Nat) z1 z5 z6 z7 z8, t + n = 4 → b < 4096 → (∀ p, p < 4 → dg b p ≤ g 1 + 1) → Fr [11, 13, 14, 20, 21] i i1 → HV i1 g → i1 11 7 = nI t → (fl g w n b).1 = sFl g w a → t + (fl g w n b).2 = sLk g w a → XR q K (some (.int (nI (sFl g w a)))) Q (am_Ex (d + 3) mFord_flooded 10 [.val (.ref 11), z1, .val (.int (nI w)), .val (.int (nI b)), .val (.int (nI t)), z5, z6, z7, z8] [] (i1, l, rX q, kX K)) := by
    intro n
    induction n with
    | zero =>
      intro t i1 b z1 z5 z6 z7 z8 ht hb hvb hf1 hH1 h117 hfl hlk
      rw [b_Ford_flooded_10]
      simp (disch := first | assumption | omega) only [b_Ford_flooded_0, b_Ford_flooded_37, b_Ford_flooded_62, b_Ford_flooded_71, b_Ford_flooded_86, b_Ford_flooded_90, b_Ford_flooded_100, b_Ford_flooded_109, b_Ford_flooded_121, s_Ford_besideOf, s_River_spotsTaken, s_X_hasBit, s_X_hasBit', s_X_moved, s_X_moved', s_X_placeOf, ↓Bool.cond_decide, ↓q_in, q_le, q_lt, q_eq, q_leT, q_leF, q_ltT, q_ltF, q_eqT, q_eqF, ↓reduceIte, not_true_eq_false, not_false_eq_true, true_and, and_true, and_self, false_and, and_false, Nat.zero_le, am_bd_some, q_app, q_app0, nI_add, pk_sub, pk_mul, q_dec, q_ix, q_m1, q_m1', ↓q_ret, q_bool, q_bool1, q_u2, q_u1, q_shl1, q_shr, q_and7, q_dg, fa_or, fa_and, decide_true, decide_false, Bool.or_false, Bool.or_true, Bool.true_or, Bool.false_or, cond_true, cond_false, ite_not, q_some, q_nn, q_xor, q_xorm, Bool.false_eq_true, decide_eq_true_eq, ne_eq, l_0, l_1, l_4, l_5, l_6, l_7, l_8, l_9, l_10, l_11, l_15, l_19, l_37, l_42, l_62, l_71, l_86, l_90, l_100, l_109, l_121]
      rw [← hfl]
      exact XR_some (hQ _ _ ⟨rfl, hf1, hH1, by rw [h117, ← hlk]; rfl⟩)
    | succ n ih =>
      intro t i1 b z1 z5 z6 z7 z8 ht hb hvb hf1 hH1 h117 hfl hlk
      have hV1 := RV_fr (l' := l) hf1 rfl hV0
      have hst1 := s_River_spotsTaken (i := i1) (l := l) (q := rX q) (K := kX K) (d + 1) (g := g) hb (hk i1) hV1.2.2.1 hV1.2.2.2.1 hS6 h2 hvb
      have hl : Int32.toInt64 (nI b) = lN b := nI_l (by omega)
      rw [b_Ford_flooded_10, hq]
      simp (disch := first | assumption | omega) only [b_Ford_flooded_0, b_Ford_flooded_37, b_Ford_flooded_62, b_Ford_flooded_71, b_Ford_flooded_86, b_Ford_flooded_90, b_Ford_flooded_100, b_Ford_flooded_109, b_Ford_flooded_121, s_Ford_besideOf, s_X_hasBit, s_X_hasBit', s_X_moved, s_X_moved', s_X_placeOf, ↓Bool.cond_decide, ↓q_in, q_le, q_lt, q_eq, q_leT, q_leF, q_ltT, q_ltF, q_eqT, q_eqF, ↓reduceIte, not_true_eq_false, not_false_eq_true, true_and, and_true, and_self, false_and, and_false, Nat.zero_le, am_bd_some, q_app, q_app0, nI_add, pk_sub, pk_mul, q_dec, q_ix, q_m1, q_m1', ↓q_ret, q_bool, q_bool1, q_u2, q_u1, q_shl1, q_shr, q_and7, q_dg, fa_or, fa_and, decide_true, decide_false, Bool.or_false, Bool.or_true, Bool.true_or, Bool.false_or, cond_true, cond_false, ite_not, q_some, q_nn, q_xor, q_xorm, Bool.false_eq_true, decide_eq_true_eq, ne_eq, l_0, l_1, l_4, l_5, l_6, l_7, l_8, l_9, l_10, l_11, l_15, l_19, l_37, l_42, l_62, l_71, l_86, l_90, l_100, l_109, l_121, h117, hk, cond_true, Bool.and_true, hst1]
      have hbt : ∀ k, k < g 2 → (sSw g w b).testBit k = swF g w b k := fun k hk' => by
        rw [sSw_e, bs_bit, decide_eq_true hk', Bool.true_and]
      refine am_loop (d := d + 3) (y := mFord_flooded) (pc := 42) (fun k ls s => ∃ i2 z8, ls = [.val (.ref 11), z1, .val (.int (nI w)), .val (.int (nI (sSend b (sSw g w b) k))), .val (.int (nI t)), .val (.int (nI b)), .val (.int (nI (tkB g b))), .val (.int (nI k)), z8] ∧ s = (i2, l, rX q, kX K) ∧ Fr [11, 13, 14, 20, 21] i i2 ∧ HV i2 g ∧ i2 11 7 = nI (if bs (swF g w b) k = 0 then t else t + 1)) (g 2) _ (fun k ls s hk2 hI => ?_) (fun ls s hI => ?_) ⟨i1, _, rfl, rfl, hf1, hH1, by rw [h117]; rfl⟩
      · obtain ⟨i2, z8, e1, e2, hf2, hH2, h7⟩ := hI
        subst e1; subst e2
        have hV2 := RV_fr (l' := l) hf2 rfl hV0
        have h1 : i2 r 1 = nI (g 2) := hV2.2.2.2.1
        have hdg : dg b k < 8 := dg_lt b k
        have hpl := s_X_placeOf (m := b) (p := k) (d + 2) (by omega) (by omega) (i2, l, rX q, kX K)
        have htk := tkB_lt g b
        have hh := s_X_hasBit' (d + 2) (a := tkB g b) (k := dg b k) (by omega) (by omega) (i2, l, rX q, kX K)
        have hsp : (tkB g b).testBit (dg b k) = sSpot g (dg b k) := by
          rw [tkB_bit hdg, sWho_ex]
          have : ex (fun p => decide (dg b p = dg b k)) (g 2) = true := (ex_iff _ _).mpr ⟨k, hk2, decide_eq_true rfl⟩
          rw [this, Bool.and_true]
        rw [hsp] at hh
        have hsl := sSend_lt (a := b) (m := sSw g w b) hb k (by omega)
        have hss : sSend b (sSw g w b) (k + 1) = if swF g w b k = true then wp (sSend b (sSw g w b) k) k 0 else sSend b (sSw g w b) k := by
          rw [sSend, hbt k hk2]
        rw [b_Ford_flooded_42, hq]
        cases hs : sSpot g (dg b k) with
        | false =>
          rw [hs] at hh
          have hsw : swF g w b k = false := by unfold swF; rw [hs]; rfl
          simp (disch := first | assumption | omega) only [b_Ford_flooded_0, b_Ford_flooded_37, b_Ford_flooded_62, b_Ford_flooded_71, b_Ford_flooded_86, b_Ford_flooded_90, b_Ford_flooded_100, b_Ford_flooded_109, b_Ford_flooded_121, s_Ford_besideOf, s_River_spotsTaken, s_X_moved, s_X_moved', ↓Bool.cond_decide, ↓q_in, q_le, q_lt, q_eq, q_leT, q_leF, q_ltT, q_ltF, q_eqT, q_eqF, ↓reduceIte, not_true_eq_false, not_false_eq_true, true_and, and_true, and_self, false_and, and_false, Nat.zero_le, am_bd_some, q_app, q_app0, nI_add, pk_sub, pk_mul, q_dec, q_ix, q_m1, q_m1', ↓q_ret, q_bool, q_bool1, q_u2, q_u1, q_shl1, q_shr, q_and7, q_dg, fa_or, fa_and, decide_true, decide_false, Bool.or_false, Bool.or_true, Bool.true_or, Bool.false_or, cond_true, cond_false, ite_not, q_some, q_nn, q_xor, q_xorm, Bool.false_eq_true, decide_eq_true_eq, ne_eq, l_0, l_1, l_4, l_5, l_6, l_7, l_8, l_9, l_10, l_11, l_15, l_19, l_37, l_42, l_62, l_71, l_86, l_90, l_100, l_109, l_121, hk, h1, hl, hpl, hh, cond_true]
          refine Go_in ⟨i2, _, by rw [hss, hsw]; rfl, rfl, hf2, hH2, ?_⟩
          · rw [h7]
            by_cases c : bs (swF g w b) k = 0
            · rw [if_pos c, if_pos (bs_s0.mpr ⟨c, hsw⟩)]
            · rw [if_neg c, if_neg (fun z => c (bs_s0.mp z).1)]
        | true =>
          rw [hs] at hh
          have hs2 : 1 ≤ dg b k ∧ dg b k ≤ g 1 := by unfold sSpot at hs; exact of_decide_eq_true hs
          have hbe := s_Ford_besideOf (d + 2) (a := b) (x := dg b k) (g := g) hs2.1 (by omega) (i2, l, rX q, kX K)
          have hsb := sBes_lt (g := g) b (dg b k)
          obtain ⟨i3, l3, e3, hl3, hf3, hH3⟩ := r_Ford_holding (i := i2) (l := l) d (m := m) (p := k) (x := dg b k) (b := sBes g b (dg b k)) (w := w) hV2 hL hq hm hM (by omega) hs2.1 (by omega) hsb hw (by have := hst k (by omega); omega) hH2
          subst hl3
          have hf3' : Fr [11, 13, 14, 20, 21] i i3 := Fr_step hf3 rfl hf2
          have h37 : i3 11 7 = i2 11 7 := by rw [hf3 11 rfl]
          have hmv := s_X_moved' (d + 2) (p := k) (v := 0) hsl (by omega) (by decide) (i3, l3, rX q, kX K)
          simp (disch := first | assumption | omega) only [b_Ford_flooded_0, b_Ford_flooded_37, b_Ford_flooded_62, b_Ford_flooded_71, b_Ford_flooded_86, b_Ford_flooded_100, b_Ford_flooded_109, b_Ford_flooded_121, s_River_spotsTaken, s_X_moved, s_X_moved', ↓Bool.cond_decide, ↓q_in, q_le, q_lt, q_eq, q_leT, q_leF, q_ltT, q_ltF, q_eqT, q_eqF, ↓reduceIte, not_true_eq_false, not_false_eq_true, true_and, and_true, and_self, false_and, and_false, Nat.zero_le, am_bd_some, q_app, q_app0, nI_add, pk_sub, pk_mul, q_dec, q_ix, q_m1, q_m1', ↓q_ret, q_bool, q_bool1, q_u2, q_u1, q_shl1, q_shr, q_and7, q_dg, fa_or, fa_and, decide_true, decide_false, Bool.or_false, Bool.or_true, Bool.true_or, Bool.false_or, cond_true, cond_false, ite_not, q_some, q_nn, q_xor, q_xorm, Bool.false_eq_true, decide_eq_true_eq, ne_eq, l_0, l_1, l_4, l_5, l_6, l_7, l_8, l_9, l_10, l_11, l_15, l_19, l_37, l_42, l_62, l_71, l_86, l_90, l_100, l_109, l_121, hk, h1, hl, hpl, hh, hbe, e3, cond_true]
          rw [b_Ford_flooded_90]
          have hsh : swF g w b k = !sWould g k (g (22 + k)) (dg b k) (sBes g b (dg b k)) w := by unfold swF sHold; rw [hs]; rfl
          cases hh4 : sWould g k (g (22 + k)) (dg b k) (sBes g b (dg b k)) w with
          | true =>
            have hsw : swF g w b k = false := by rw [hsh, hh4]; rfl
            simp (disch := first | assumption | omega) only [b_Ford_flooded_0, b_Ford_flooded_37, b_Ford_flooded_62, b_Ford_flooded_71, b_Ford_flooded_86, b_Ford_flooded_90, b_Ford_flooded_100, b_Ford_flooded_109, b_Ford_flooded_121, s_Ford_besideOf, s_River_spotsTaken, s_X_hasBit, s_X_hasBit', s_X_moved, s_X_moved', s_X_placeOf, ↓Bool.cond_decide, ↓q_in, q_le, q_lt, q_eq, q_leT, q_leF, q_ltT, q_ltF, q_eqT, q_eqF, ↓reduceIte, not_true_eq_false, not_false_eq_true, true_and, and_true, and_self, false_and, and_false, Nat.zero_le, am_bd_some, q_app, q_app0, nI_add, pk_sub, pk_mul, q_dec, q_ix, q_m1, q_m1', ↓q_ret, q_bool, q_bool1, q_u2, q_u1, q_shl1, q_shr, q_and7, q_dg, fa_or, fa_and, decide_true, decide_false, Bool.or_false, Bool.or_true, Bool.true_or, Bool.false_or, cond_true, cond_false, ite_not, q_some, q_nn, q_xor, q_xorm, Bool.false_eq_true, decide_eq_true_eq, ne_eq, l_0, l_1, l_4, l_5, l_6, l_7, l_8, l_9, l_10, l_11, l_15, l_19, l_37, l_42, l_62, l_71, l_86, l_90, l_100, l_109, l_121, hh4]
            refine Go_in ⟨i3, _, by rw [hss, hsw]; rfl, rfl, hf3', hH3, ?_⟩
            · rw [h37, h7]
              by_cases c : bs (swF g w b) k = 0
              · rw [if_pos c, if_pos (bs_s0.mpr ⟨c, hsw⟩)]
              · rw [if_neg c, if_neg (fun z => c (bs_s0.mp z).1)]
          | false =>
            have hsw : swF g w b k = true := by rw [hsh, hh4]; rfl
            simp (disch := first | assumption | omega) only [b_Ford_flooded_0, b_Ford_flooded_37, b_Ford_flooded_62, b_Ford_flooded_71, b_Ford_flooded_86, b_Ford_flooded_90, b_Ford_flooded_100, b_Ford_flooded_109, b_Ford_flooded_121, s_Ford_besideOf, s_River_spotsTaken, s_X_hasBit, s_X_hasBit', s_X_placeOf, ↓Bool.cond_decide, ↓q_in, q_le, q_lt, q_eq, q_leT, q_leF, q_ltT, q_ltF, q_eqT, q_eqF, ↓reduceIte, not_true_eq_false, not_false_eq_true, true_and, and_true, and_self, false_and, and_false, Nat.zero_le, am_bd_some, q_app, q_app0, nI_add, pk_sub, pk_mul, q_dec, q_ix, q_m1, q_m1', ↓q_ret, q_bool, q_bool1, q_u1, q_shl1, q_shr, q_and7, q_dg, fa_or, fa_and, decide_true, decide_false, Bool.or_false, Bool.or_true, Bool.true_or, Bool.false_or, cond_true, cond_false, ite_not, q_some, q_nn, q_xor, q_xorm, Bool.false_eq_true, decide_eq_true_eq, ne_eq, l_0, l_1, l_4, l_5, l_6, l_7, l_8, l_9, l_10, l_11, l_15, l_19, l_37, l_42, l_62, l_71, l_86, l_90, l_100, l_109, l_121, hh4, hmv]
            refine Go_in ⟨_, _, by rw [hss, hsw]; rfl, rfl, Fr_u2 rfl hf3', hHf rfl rfl hH3, ?_⟩
            · rw [if_neg (fun z => by have := (bs_s0.mp z).2; rw [hsw] at this; cases this)]
              rfl
      · obtain ⟨i2, z8, e1, e2, hf2, hH2, h7⟩ := hI
        subst e1; subst e2
        have h1 : i2 r 1 = nI (g 2) := (RV_fr (l' := l) hf2 rfl hV0).2.2.2.1
        rw [b_Ford_flooded_42, hq]
        simp (disch := first | assumption | omega) only [b_Ford_flooded_0, b_Ford_flooded_37, b_Ford_flooded_62, b_Ford_flooded_71, b_Ford_flooded_86, b_Ford_flooded_90, b_Ford_flooded_100, b_Ford_flooded_109, b_Ford_flooded_121, s_Ford_besideOf, s_River_spotsTaken, s_X_hasBit, s_X_hasBit', s_X_moved, s_X_moved', s_X_placeOf, ↓Bool.cond_decide, ↓q_in, q_le, q_lt, q_eq, q_leT, q_leF, q_ltT, q_ltF, q_eqT, q_eqF, ↓reduceIte, not_true_eq_false, not_false_eq_true, true_and, and_true, and_self, false_and, and_false, Nat.zero_le, am_bd_some, q_app, q_app0, nI_add, pk_sub, pk_mul, q_dec, q_ix, q_m1, q_m1', ↓q_ret, q_bool, q_bool1, q_u2, q_u1, q_shl1, q_shr, q_and7, q_dg, fa_or, fa_and, decide_true, decide_false, Bool.or_false, Bool.or_true, Bool.true_or, Bool.false_or, cond_true, cond_false, ite_not, q_some, q_nn, q_xor, q_xorm, Bool.false_eq_true, decide_eq_true_eq, ne_eq, l_0, l_1, l_4, l_5, l_6, l_7, l_8, l_9, l_10, l_11, l_15, l_19, l_37, l_42, l_62, l_71, l_86, l_90, l_100, l_109, l_121, hk, h1, cond_true]
        rw [fl] at hfl hlk
        by_cases c : sSw g w b = 0
        · have c' : bs (swF g w b) (g 2) = 0 := c
          rw [if_pos c'] at h7
          rw [if_pos c] at hfl hlk
          have e0 : sSend b (sSw g w b) (g 2) = b := by
            refine dg_ext (sSend_lt hb _ (by omega)) hb (fun p hp => ?_)
            rw [dg_sSend hb _ (by omega) p hp, c]
            simp
          rw [e0, b_Ford_flooded_10, h7]
          have hfl : b = sFl g w a := hfl
          have hlk : t = sLk g w a := hlk
          have hx : ∀ z5 z6 z7 z8, XR q K (some (.int (nI (sFl g w a)))) Q (am_Ex (d + 3) mFord_flooded 121 [.val (.ref 11), z1, .val (.int (nI w)), .val (.int (nI b)), .val (.int (nI (t + 1))), z5, z6, z7, z8] [] (i2, l, rX q, kX K)) := fun z5 z6 z7 z8 => by
            rw [b_Ford_flooded_121, hfl]
            exact XR_some (hQ _ _ ⟨rfl, hf2, hH2, by rw [h7, hlk]⟩)
          have hne : ¬ (nI (t + 1) = nI t) := by rw [q_eq (by omega) (by omega)]; omega
          rw [decide_eq_true hne]
          cases decide (4 ≤ nI (t + 1)) with
          | true => exact hx _ _ _ _
          | false => exact hx _ _ _ _
        · have c' : ¬ bs (swF g w b) (g 2) = 0 := c
          rw [if_neg c'] at h7
          rw [if_neg c] at hfl hlk
          have hlt := sSend_lt (m := sSw g w b) hb (g 2) h2
          refine ih (t + 1) i2 (sSend b (sSw g w b) (g 2)) z1 _ _ _ _ (by omega) hlt (fun p hp => ?_) hf2 hH2 h7 hfl (by rw [← hlk]; omega)
          rw [dg_sSend hb _ h2 p hp]
          by_cases c3 : p < g 2 ∧ (sSw g w b).testBit p = true
          · rw [if_pos c3]; omega
          · rw [if_neg c3]; exact hvb p hp
  rw [c_Ford_flooded, b_Ford_flooded_0]
  exact loop 4 0 _ a _ _ _ _ _ rfl ha hv (Fr_u2 rfl (Fr_refl _ _)) (hHf rfl rfl hH) rfl rfl (by rw [Nat.zero_add]; rfl)
end
