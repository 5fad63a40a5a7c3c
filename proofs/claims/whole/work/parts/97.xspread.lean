/-! THE CLASS: on whom one trusts to step -/
theorem tb_lt {m n j : Nat} (h : m < 2 ^ n) (hj : n ≤ j) : m.testBit j = false := Nat.testBit_lt_two_pow (Nat.lt_of_lt_of_le h (Nat.pow_le_pow_right (by decide) hj))
def trQ (g : Nat → Nat) (p rr E k x : Nat) : Bool := ex (fun y => E.testBit y && decide (gp y x ≤ rr) && sTrust g p k (gp y x)) 8
def trF (g : Nat → Nat) (a p rr E x : Nat) : Bool := match sWho g a x with
  | some k => trQ g p rr E k x
  | none => false
def trB (g : Nat → Nat) (a p rr E st : Nat) : Nat := bs (fun x => st.testBit x && trF g a p rr E x) 8
def trK (g : Nat → Nat) (a p rr E st n : Nat) : Nat := bs (fun x => st.testBit x && ex (fun k => decide (dg a k = x) && trQ g p rr E k x) n) 8
theorem trK_lt (g : Nat → Nat) (a p rr E st n : Nat) : trK g a p rr E st n < 256 := bs_lt _ 8
theorem trK_0 (g : Nat → Nat) (a p rr E st : Nat) : trK g a p rr E st 0 = 0 := by
  apply Nat.eq_of_testBit_eq
  intro j
  unfold trK
  rw [bs_bit]
  simp [ex]
theorem trK_s (g : Nat → Nat) (a p rr E st n : Nat) : trK g a p rr E st (n + 1) = if (st.testBit (dg a n) && trQ g p rr E n (dg a n)) = true then trK g a p rr E st n ||| 2 ^ dg a n else trK g a p rr E st n := by
  have hd := dg_lt a n
  apply Nat.eq_of_testBit_eq
  intro j
  unfold trK
  by_cases c : (st.testBit (dg a n) && trQ g p rr E n (dg a n)) = true
  · rw [if_pos c, Nat.testBit_or, bs_bit, bs_bit, Nat.testBit_two_pow, ex]
    by_cases e : dg a n = j
    · subst e
      simp only [Bool.and_eq_true] at c
      simp [hd, c.1, c.2]
    · simp [e]
  · rw [if_neg c, bs_bit, bs_bit, ex]
    by_cases e : dg a n = j
    · subst e
      cases h1 : st.testBit (dg a n) with
      | false => simp
      | true =>
        rw [h1, Bool.true_and] at c
        simp [c]
    · simp [e]
theorem trK_e {g : Nat → Nat} {a p rr E st : Nat} (h2 : g 2 ≤ 4) (hd : ∀ p k, p < 4 → k < 4 → p ≠ k → sSpot g (dg a p) = true → dg a p ≠ dg a k) (hst : ∀ x, st.testBit x = true → (sWho g a x).isSome = true ∧ ∃ y, E.testBit y = true ∧ gp y x ≤ rr) : trK g a p rr E st (g 2) = trB g a p rr E st := by
  unfold trK trB
  apply bs_cong
  intro x hx
  cases hb : st.testBit x with
  | false => rfl
  | true =>
    rw [Bool.true_and, Bool.true_and]
    obtain ⟨h1, _⟩ := hst x hb
    unfold trF
    cases hw : sWho g a x with
    | none => rw [hw] at h1; cases h1
    | some k =>
      obtain ⟨k1, k2, k3⟩ := sWho_some hw
      apply Bool.eq_iff_iff.mpr
      rw [ex_iff]
      constructor
      · intro ⟨o, ho, h⟩
        rw [Bool.and_eq_true, decide_eq_true_eq] at h
        by_cases e : k = o
        · rw [e]; exact h.2
        · exact absurd (k2.trans h.1.symm) (hd k o (by omega) (by omega) e (by rw [k2]; exact k3))
      · intro h
        exact ⟨k, k1, by rw [decide_eq_true k2, Bool.true_and]; exact h⟩
theorem trB_st {g : Nat → Nat} {a p rr E st : Nat} (hE : E < 256) (hs : st < 256) (h5 : st = 0 ∨ g 5 = 0) (hst : ∀ x, st.testBit x = true → (sWho g a x).isSome = true ∧ ∃ y, E.testBit y = true ∧ gp y x ≤ rr) : trB g a p rr E st = st := by
  apply Nat.eq_of_testBit_eq
  intro j
  unfold trB
  rw [bs_bit]
  by_cases hj : j < 8
  · rw [decide_eq_true hj, Bool.true_and]
    cases hb : st.testBit j with
    | false => rfl
    | true =>
      rcases h5 with h5 | h5
      · rw [h5] at hb; simp at hb
      · obtain ⟨h1, y, h2, h3⟩ := hst j hb
        rw [Bool.true_and]
        unfold trF
        cases hw : sWho g a j with
        | none => rw [hw] at h1; cases h1
        | some k =>
          refine (ex_iff _ _).mpr ⟨y, ?_, ?_⟩
          · apply Classical.byContradiction
            intro h
            rw [tb_lt (n := 8) hE (by omega)] at h2; cases h2
          · unfold sTrust
            rw [h2, decide_eq_true h3, decide_eq_true (Or.inl h5)]; rfl
  · rw [decide_eq_false hj, Bool.false_and, tb_lt (n := 8) hs (by omega)]
theorem y_max {x rr : Nat} (hx : x < 100) (hr : rr < 100) : (if (0 : Int32) < nI x - nI rr then nI x - nI rr else 0) = nI (x - rr) := by
  by_cases c : rr < x
  · rw [pk_sub (by omega), if_pos]
    show nI 0 < nI (x - rr)
    rw [q_lt (by omega) (by omega)]; omega
  · have e : ¬ ((0 : Int32) < nI x - nI rr) := by
      rw [fa_lt, pk_sub_toInt (by omega) (by omega)]
      show ¬ ((0 : Int) < _)
      omega
    rw [if_neg e, show x - rr = 0 by omega]; rfl
theorem y_abs {x y : Nat} (hx : x < 100) (hy : y < 100) : (if (0 : Int32) ≤ nI x - nI y then nI x - nI y else 0 - (nI x - nI y)) = nI (gp y x) := by
  unfold gp
  by_cases c : y ≤ x
  · rw [pk_sub c, if_pos]
    · by_cases c2 : y < x
      · rw [if_pos c2]
      · rw [if_neg c2]; congr 1; omega
    · show nI 0 ≤ nI (x - y)
      rw [q_le (by omega) (by omega)]; omega
  · have e : ¬ ((0 : Int32) ≤ nI x - nI y) := by
      rw [fa_le, pk_sub_toInt (by omega) (by omega)]
      show ¬ ((0 : Int) ≤ _)
      omega
    rw [if_neg e, if_neg (by omega)]
    have e2 : nI x - nI y = -(nI y - nI x) := by rw [Int32.neg_sub]
    rw [e2, pk_sub (by omega), Int32.zero_sub, Int32.neg_neg]
section
variable {i : Nat → Nat → Int32} {l : Nat → Nat → Int64} {q : Nat → Nat → Option Nat} {K : List (Nat × Nat)} {r : Nat} {g : Nat → Nat}
theorem r_Ford_trustedOf (d : Nat) {m a p rr E st : Nat} (hV : RV (i, l, rX q, kX K) r g) (hL : LW g 1) (hq : rX q 11 1 = some r) (hm : l 11 2 = lN m) (hM : RM m (gCur g)) (h2 : g 2 ≤ 4) (hp : p < 4) (ha : a < 4096) (hr : rr ≤ 9) (hE : E < 256) (hs : st < 256) (hd : ∀ p k, p < 4 → k < 4 → p ≠ k → sSpot g (dg a p) = true → dg a p ≠ dg a k) (hst : ∀ x, st.testBit x = true → (sWho g a x).isSome = true ∧ ∃ y, E.testBit y = true ∧ gp y x ≤ rr) (hT : TV i g) : XR q K (some (.int (nI (trB g a p rr E st)))) (fun i' l' => l' = l ∧ Fr [13, 14, 18, 19] i i' ∧ TV i' g) (am_cl (d + 3) mFord_trustedOf [.ref 11, .int (nI a), .int (nI p), .int (nI st), .int (nI E), .int (nI rr)] (i, l, rX q, kX K)) := by
  have hV0 := hV
  obtain ⟨a1, a2, a3, a4, a5, a6, _, _, _, ⟨b1, b2⟩⟩ := hV
  have hk : ∀ i', Nat.beq (am_kd (i', l, rX q, kX K) r) 6 = true := fun i' => by rw [show am_kd (i', l, rX q, kX K) r = 6 from a2]; rfl
  have hl : Int32.toInt64 (nI a) = lN a := nI_l (by omega)
  refine XR_q ?_
  intro Q hQ
  rw [c_Ford_trustedOf, b_Ford_trustedOf_0, hq]
  by_cases h5 : st = 0 ∨ g 5 = 0
  · rw [trB_st hE hs h5 hst]
    by_cases hs0 : st = 0
    · simp (disch := first | assumption | omega) only [b_Ford_trustedOf_0, b_Ford_trustedOf_14, b_Ford_trustedOf_41, b_Ford_trustedOf_49, b_Ford_trustedOf_83, b_Ford_trustedOf_101, b_Ford_trustedOf_116, b_Ford_trustedOf_122, s_X_hasBit, s_X_hasBit', s_X_placeOf, ↓Bool.cond_decide, ↓q_in, q_le, q_lt, q_eq, q_leT, q_leF, q_ltT, q_ltF, q_eqT, q_eqF, ↓reduceIte, not_true_eq_false, not_false_eq_true, true_and, and_true, and_self, false_and, and_false, Nat.zero_le, am_bd_some, q_app, q_app0, nI_add, pk_sub, pk_mul, q_dec, q_ix, q_m1, q_m1', ↓q_ret, q_bool, q_bool1, q_u2, q_u1, q_shl1, q_shr, q_and7, q_dg, fa_or, fa_and, decide_true, decide_false, Bool.or_false, Bool.or_true, Bool.true_or, Bool.false_or, cond_true, cond_false, ite_not, q_some, q_nn, q_xor, q_xorm, Bool.false_eq_true, decide_eq_true_eq, ne_eq, l_0, l_1, l_4, l_5, l_6, l_8, l_11, l_12, l_14, l_17, l_22, l_31, l_41, l_49, l_66, l_83, l_101, l_116, l_122, hs0]
      exact XR_some (hQ _ _ ⟨rfl, Fr_refl _ _, hT⟩)
    · have h5 : g 5 = 0 := h5.resolve_left hs0
      have b1 : rX q r 8 = none := b1 h5
      simp (disch := first | assumption | omega) only [b_Ford_trustedOf_0, b_Ford_trustedOf_14, b_Ford_trustedOf_41, b_Ford_trustedOf_49, b_Ford_trustedOf_83, b_Ford_trustedOf_101, b_Ford_trustedOf_116, b_Ford_trustedOf_122, s_X_hasBit, s_X_hasBit', s_X_placeOf, ↓Bool.cond_decide, ↓q_in, q_le, q_lt, q_eq, q_leT, q_leF, q_ltT, q_ltF, q_eqT, q_eqF, ↓reduceIte, not_true_eq_false, not_false_eq_true, true_and, and_true, and_self, false_and, and_false, Nat.zero_le, am_bd_some, q_app, q_app0, nI_add, pk_sub, pk_mul, q_dec, q_ix, q_m1, q_m1', ↓q_ret, q_bool, q_bool1, q_u2, q_u1, q_shl1, q_shr, q_and7, q_dg, fa_or, fa_and, decide_true, decide_false, Bool.or_false, Bool.or_true, Bool.true_or, Bool.false_or, cond_true, cond_false, ite_not, q_some, q_nn, q_xor, q_xorm, Bool.false_eq_true, decide_eq_true_eq, ne_eq, l_0, l_1, l_4, l_5, l_6, l_8, l_11, l_12, l_14, l_17, l_22, l_31, l_41, l_49, l_66, l_83, l_101, l_116, l_122, hs0, hk, b1, cond_true]
      exact XR_some (hQ _ _ ⟨rfl, Fr_refl _ _, hT⟩)
  · have hs0 : st ≠ 0 := fun z => h5 (Or.inl z)
    have h5 : g 5 ≠ 0 := fun z => h5 (Or.inr z)
    obtain ⟨c, c1, _⟩ := b2 h5
    have c1 : rX q r 8 = some c := c1
    simp (disch := first | assumption | omega) only [b_Ford_trustedOf_0, b_Ford_trustedOf_14, b_Ford_trustedOf_41, b_Ford_trustedOf_49, b_Ford_trustedOf_83, b_Ford_trustedOf_101, b_Ford_trustedOf_116, b_Ford_trustedOf_122, s_X_hasBit, s_X_hasBit', s_X_placeOf, ↓Bool.cond_decide, ↓q_in, q_le, q_lt, q_eq, q_leT, q_leF, q_ltT, q_ltF, q_eqT, q_eqF, ↓reduceIte, not_true_eq_false, not_false_eq_true, true_and, and_true, and_self, false_and, and_false, Nat.zero_le, am_bd_some, q_app, q_app0, nI_add, pk_sub, pk_mul, q_dec, q_ix, q_m1, q_m1', ↓q_ret, q_bool, q_bool1, q_u2, q_u1, q_shl1, q_shr, q_and7, q_dg, fa_or, fa_and, decide_true, decide_false, Bool.or_false, Bool.or_true, Bool.true_or, Bool.false_or, cond_true, cond_false, ite_not, q_some, q_nn, q_xor, q_xorm, Bool.false_eq_true, decide_eq_true_eq, ne_eq, l_0, l_1, l_4, l_5, l_6, l_8, l_11, l_12, l_14, l_17, l_22, l_31, l_41, l_49, l_66, l_83, l_101, l_116, l_122, hs0, hk, c1, cond_true]
    have e0 := trK_0 g a p rr E st
    rw [← trK_e h2 hd hst]
    refine am_loop (d := d + 2) (y := mFord_trustedOf) (pc := 22) (fun k ls s => ∃ i' z8 z9, ls = [.val (.ref 11), .val (.int (nI a)), .val (.int (nI p)), .val (.int (nI st)), .val (.int (nI E)), .val (.int (nI rr)), .val (.int (nI (trK g a p rr E st k))), .val (.int (nI k)), z8, z9] ∧ s = (i', l, rX q, kX K) ∧ Fr [13, 14, 18, 19] i i' ∧ TV i' g) (g 2) _ (fun k ls s hk2 hI => ?_) (fun ls s hI => ?_) ⟨i, _, _, by rw [e0], rfl, Fr_refl _ _, hT⟩
    · obtain ⟨i1, z8, z9, e1, e2, hf1, hT1⟩ := hI
      subst e1; subst e2
      have h1 : i1 r 1 = nI (g 2) := by rw [Dyn_fr hf1 rfl a1]; exact a4
      have hdg : dg a k < 8 := Nat.mod_lt _ (by decide)
      have hpl := s_X_placeOf (m := a) (p := k) (d + 1) (by omega) (by omega) (i1, l, rX q, kX K)
      have hh := s_X_hasBit' (d + 1) (a := st) (k := dg a k) (by omega) (by omega) (i1, l, rX q, kX K)
      rw [b_Ford_trustedOf_22, hq]
      rw [trK_s]
      cases hb : st.testBit (dg a k) with
      | false =>
        rw [hb] at hh
        simp (disch := first | assumption | omega) only [b_Ford_trustedOf_0, b_Ford_trustedOf_14, b_Ford_trustedOf_41, b_Ford_trustedOf_49, b_Ford_trustedOf_83, b_Ford_trustedOf_101, b_Ford_trustedOf_116, b_Ford_trustedOf_122, ↓Bool.cond_decide, ↓q_in, q_le, q_lt, q_eq, q_leT, q_leF, q_ltT, q_ltF, q_eqT, q_eqF, ↓reduceIte, not_true_eq_false, not_false_eq_true, true_and, and_true, and_self, false_and, and_false, Nat.zero_le, am_bd_some, q_app, q_app0, nI_add, pk_sub, pk_mul, q_dec, q_ix, q_m1, q_m1', ↓q_ret, q_bool, q_bool1, q_u2, q_u1, q_shl1, q_shr, q_and7, q_dg, fa_or, fa_and, decide_true, decide_false, Bool.or_false, Bool.or_true, Bool.true_or, Bool.false_or, cond_true, cond_false, ite_not, q_some, q_nn, q_xor, q_xorm, Bool.false_eq_true, decide_eq_true_eq, ne_eq, l_0, l_1, l_4, l_5, l_6, l_8, l_11, l_12, l_14, l_17, l_22, l_31, l_41, l_49, l_66, l_83, l_101, l_116, l_122, hk, h1, hl, hpl, hh, cond_true, Bool.false_and]
        exact Go_in ⟨i1, _, _, rfl, rfl, hf1, hT1⟩
      | true =>
        rw [hb] at hh
        have hmx := y_max (x := dg a k) (rr := rr) (by omega) (by omega)
        simp (disch := first | assumption | omega) only [b_Ford_trustedOf_0, b_Ford_trustedOf_14, b_Ford_trustedOf_41, b_Ford_trustedOf_83, b_Ford_trustedOf_101, b_Ford_trustedOf_116, b_Ford_trustedOf_122, ↓Bool.cond_decide, ↓q_in, q_le, q_lt, q_eq, q_leT, q_leF, q_ltT, q_ltF, q_eqT, q_eqF, ↓reduceIte, not_true_eq_false, not_false_eq_true, true_and, and_true, and_self, false_and, and_false, Nat.zero_le, am_bd_some, q_app, q_app0, nI_add, pk_sub, pk_mul, q_dec, q_ix, q_m1, q_m1', ↓q_ret, q_bool, q_bool1, q_u2, q_u1, q_shl1, q_shr, q_and7, q_dg, fa_or, fa_and, decide_true, decide_false, Bool.or_false, Bool.or_true, Bool.true_or, Bool.false_or, cond_true, cond_false, ite_not, q_some, q_nn, q_xor, q_xorm, Bool.false_eq_true, decide_eq_true_eq, ne_eq, l_0, l_1, l_4, l_5, l_6, l_8, l_11, l_12, l_14, l_17, l_22, l_31, l_41, l_49, l_66, l_83, l_101, l_116, l_122, hk, h1, hl, hpl, hh, cond_true]
        rw [b_Ford_trustedOf_49, hmx]
        rw [show (decide (¬ (nI 1 : Int32) = 0)) = true from rfl, cond_true, Bool.true_and]
        refine fa_post (P := Go (d + 2) mFord_trustedOf 22 _) (y := am_Ex (d + 2) mFord_trustedOf 66 _ [] (i1, l, rX q, kX K)) rfl ?_
        have key := am_find (d := d + 2) (y := mFord_trustedOf) (pc := 66) (fun t ls s => ∃ i', ls = [.val (.ref 11), .val (.int (nI a)), .val (.int (nI p)), .val (.int (nI st)), .val (.int (nI E)), .val (.int (nI rr)), .val (.int (nI (trK g a p rr E st k))), .val (.int (nI k)), .val (.int (nI (dg a k))), .val (.int (nI t))] ∧ s = (i', l, rX q, kX K) ∧ Fr [13, 14, 18, 19] i i' ∧ TV i' g) (fun y => E.testBit y && sTrust g p k (gp y (dg a k))) (fun o rs => ∃ i' z9, rs = am_Ex (d + 2) mFord_trustedOf 22 [.val (.ref 11), .val (.int (nI a)), .val (.int (nI p)), .val (.int (nI st)), .val (.int (nI E)), .val (.int (nI rr)), .val (.int (nI (if o.isSome = true then trK g a p rr E st k ||| 2 ^ dg a k else trK g a p rr E st k))), .val (.int (nI (k + 1))), .val (.int (nI (dg a k))), z9] [] (i', l, rX q, kX K) ∧ Fr [13, 14, 18, 19] i i' ∧ TV i' g) (dg a k + rr + 1 - (dg a k - rr)) (dg a k - rr) (fun t ls s ht1 ht2 hI => by
          obtain ⟨i2, e1, e2, hf2, hT2⟩ := hI
          subst e1; subst e2
          have ht3 : t < 100 := by omega
          have hgp : gp t (dg a k) < 16 := by unfold gp; split <;> omega
          have hh2 := s_X_hasBit' (d + 1) (a := E) (k := t) (by omega) (by omega) (i2, l, rX q, kX K)
          have hab := y_abs (x := dg a k) (y := t) (by omega) ht3
          have hV2 : RV (i2, l, rX q, kX K) r g := RV_fr hf2 rfl hV0
          obtain ⟨i3, l3, e3, hl3, hf3, hT3⟩ := r_Ford_trusting (i := i2) (l := l) d (p := p) (o := k) (gap := gp t (dg a k)) hV2 hL hq hm hM hp (by omega) hgp hT2
          subst hl3
          have hf3' := Fr_step hf3 rfl hf2
          cases hbE : E.testBit t with
          | false =>
            rw [hbE] at hh2
            refine ⟨fun z => absurd z (by simp), fun _ => ?_⟩
            rw [b_Ford_trustedOf_66]
            simp (disch := first | assumption | omega) only [b_Ford_trustedOf_0, b_Ford_trustedOf_14, b_Ford_trustedOf_41, b_Ford_trustedOf_49, b_Ford_trustedOf_83, b_Ford_trustedOf_101, b_Ford_trustedOf_116, b_Ford_trustedOf_122, s_X_placeOf, ↓Bool.cond_decide, ↓q_in, q_le, q_lt, q_eq, q_leT, q_leF, q_ltT, q_ltF, q_eqT, q_eqF, ↓reduceIte, not_true_eq_false, not_false_eq_true, true_and, and_true, and_self, false_and, and_false, Nat.zero_le, am_bd_some, q_app, q_app0, nI_add, pk_sub, pk_mul, q_dec, q_ix, q_m1, q_m1', ↓q_ret, q_bool, q_bool1, q_u2, q_u1, q_shl1, q_shr, q_and7, q_dg, fa_or, fa_and, decide_true, decide_false, Bool.or_false, Bool.or_true, Bool.true_or, Bool.false_or, cond_true, cond_false, ite_not, q_some, q_nn, q_xor, q_xorm, Bool.false_eq_true, decide_eq_true_eq, ne_eq, l_0, l_1, l_4, l_5, l_6, l_8, l_11, l_12, l_14, l_17, l_22, l_31, l_41, l_49, l_66, l_83, l_101, l_116, l_122, hh2]
            exact Go_in ⟨i2, rfl, rfl, hf2, hT2⟩
          | true =>
            rw [hbE] at hh2
            rw [Bool.true_and]
            rw [b_Ford_trustedOf_66]
            simp (disch := first | assumption | omega) only [b_Ford_trustedOf_0, b_Ford_trustedOf_14, b_Ford_trustedOf_41, b_Ford_trustedOf_49, b_Ford_trustedOf_101, b_Ford_trustedOf_116, b_Ford_trustedOf_122, s_X_placeOf, ↓Bool.cond_decide, ↓q_in, q_le, q_lt, q_eq, q_leT, q_leF, q_ltT, q_ltF, q_eqT, q_eqF, ↓reduceIte, not_true_eq_false, not_false_eq_true, true_and, and_true, and_self, false_and, and_false, Nat.zero_le, am_bd_some, q_app, q_app0, nI_add, pk_sub, pk_mul, q_dec, q_ix, q_m1, q_m1', ↓q_ret, q_bool, q_bool1, q_u2, q_u1, q_shl1, q_shr, q_and7, q_dg, fa_or, fa_and, decide_true, decide_false, Bool.or_false, Bool.or_true, Bool.true_or, Bool.false_or, cond_true, cond_false, ite_not, q_some, q_nn, q_xor, q_xorm, Bool.false_eq_true, decide_eq_true_eq, ne_eq, l_0, l_1, l_4, l_5, l_6, l_8, l_11, l_12, l_14, l_17, l_22, l_31, l_41, l_49, l_66, l_83, l_101, l_116, l_122, hh2]
            rw [b_Ford_trustedOf_83, hab, e3]
            refine ⟨fun z => ?_, fun z => ?_⟩
            · rw [z]
              simp (disch := first | assumption | omega) only [b_Ford_trustedOf_0, b_Ford_trustedOf_14, b_Ford_trustedOf_41, b_Ford_trustedOf_49, b_Ford_trustedOf_83, b_Ford_trustedOf_101, b_Ford_trustedOf_116, b_Ford_trustedOf_122, s_X_hasBit, s_X_hasBit', s_X_placeOf, ↓Bool.cond_decide, ↓q_in, q_le, q_lt, q_eq, q_leT, q_leF, q_ltT, q_ltF, q_eqT, q_eqF, ↓reduceIte, not_true_eq_false, not_false_eq_true, true_and, and_true, and_self, false_and, and_false, Nat.zero_le, am_bd_some, q_app, q_app0, nI_add, pk_sub, pk_mul, q_dec, q_ix, q_m1, q_m1', ↓q_ret, q_bool, q_bool1, q_u2, q_u1, q_shl1, q_shr, q_and7, q_dg, fa_or, fa_and, decide_true, decide_false, Bool.or_false, Bool.or_true, Bool.true_or, Bool.false_or, cond_true, cond_false, ite_not, q_some, q_nn, q_xor, q_xorm, Bool.false_eq_true, decide_eq_true_eq, ne_eq, l_0, l_1, l_4, l_5, l_6, l_8, l_11, l_12, l_14, l_17, l_22, l_31, l_41, l_49, l_66, l_83, l_101, l_116, l_122]
              exact ⟨i3, _, rfl, hf3', hT3⟩
            · rw [z]
              simp (disch := first | assumption | omega) only [b_Ford_trustedOf_0, b_Ford_trustedOf_14, b_Ford_trustedOf_41, b_Ford_trustedOf_49, b_Ford_trustedOf_83, b_Ford_trustedOf_101, b_Ford_trustedOf_116, b_Ford_trustedOf_122, s_X_hasBit, s_X_hasBit', s_X_placeOf, ↓Bool.cond_decide, ↓q_in, q_le, q_lt, q_eq, q_leT, q_leF, q_ltT, q_ltF, q_eqT, q_eqF, ↓reduceIte, not_true_eq_false, not_false_eq_true, true_and, and_true, and_self, false_and, and_false, Nat.zero_le, am_bd_some, q_app, q_app0, nI_add, pk_sub, pk_mul, q_dec, q_ix, q_m1, q_m1', ↓q_ret, q_bool, q_bool1, q_u2, q_u1, q_shl1, q_shr, q_and7, q_dg, fa_or, fa_and, decide_true, decide_false, Bool.or_false, Bool.or_true, Bool.true_or, Bool.false_or, cond_true, cond_false, ite_not, q_some, q_nn, q_xor, q_xorm, Bool.false_eq_true, decide_eq_true_eq, ne_eq, l_0, l_1, l_4, l_5, l_6, l_8, l_11, l_12, l_14, l_17, l_22, l_31, l_41, l_49, l_66, l_83, l_101, l_116, l_122]
              exact Go_in ⟨i3, rfl, rfl, hf3', hT3⟩) (fun ls s hI => by
          obtain ⟨i2, e1, e2, hf2, hT2⟩ := hI
          subst e1; subst e2
          rw [b_Ford_trustedOf_66]
          simp (disch := first | assumption | omega) only [b_Ford_trustedOf_0, b_Ford_trustedOf_14, b_Ford_trustedOf_41, b_Ford_trustedOf_49, b_Ford_trustedOf_83, b_Ford_trustedOf_101, b_Ford_trustedOf_116, b_Ford_trustedOf_122, s_X_hasBit, s_X_hasBit', s_X_placeOf, ↓Bool.cond_decide, ↓q_in, q_le, q_lt, q_eq, q_leT, q_leF, q_ltT, q_ltF, q_eqT, q_eqF, ↓reduceIte, not_true_eq_false, not_false_eq_true, true_and, and_true, and_self, false_and, and_false, Nat.zero_le, am_bd_some, q_app, q_app0, nI_add, pk_sub, pk_mul, q_dec, q_ix, q_m1, q_m1', ↓q_ret, q_bool, q_bool1, q_u2, q_u1, q_shl1, q_shr, q_and7, q_dg, fa_or, fa_and, decide_true, decide_false, Bool.or_false, Bool.or_true, Bool.true_or, Bool.false_or, cond_true, cond_false, ite_not, q_some, q_nn, q_xor, q_xorm, Bool.false_eq_true, decide_eq_true_eq, ne_eq, l_0, l_1, l_4, l_5, l_6, l_8, l_11, l_12, l_14, l_17, l_22, l_31, l_41, l_49, l_66, l_83, l_101, l_116, l_122]
          exact ⟨i2, _, rfl, hf2, hT2⟩) _ _ ⟨i1, rfl, rfl, hf1, hT1⟩
        obtain ⟨i2, z9', e2, hf2, hT2⟩ := key
        rw [e2]
        have eo : (ff (fun y => E.testBit y && sTrust g p k (gp y (dg a k))) (dg a k + rr + 1 - (dg a k - rr)) (dg a k - rr)).isSome = trQ g p rr E k (dg a k) := by
          apply Bool.eq_iff_iff.mpr
          unfold trQ
          rw [ff_sm, ex_iff]
          constructor
          · intro ⟨y, y1, y2, y3⟩
            rw [Bool.and_eq_true] at y3
            have y8 : y < 8 := by
              apply Classical.byContradiction
              intro h
              rw [tb_lt (n := 8) hE (by omega)] at y3; cases y3.1
            refine ⟨y, y8, ?_⟩
            rw [y3.1, y3.2, decide_eq_true (show gp y (dg a k) ≤ rr by unfold gp; split <;> omega)]; rfl
          · intro ⟨y, y8, y3⟩
            rw [Bool.and_eq_true, Bool.and_eq_true, decide_eq_true_eq] at y3
            have y4 := y3.1.2
            unfold gp at y4
            refine ⟨y, by split at y4 <;> omega, by split at y4 <;> omega, ?_⟩
            rw [y3.1.1, y3.2]; rfl
        rw [eo]
        exact Go_in ⟨i2, _, _, rfl, rfl, hf2, hT2⟩
    · obtain ⟨i1, z8, z9, e1, e2, hf1, hT1⟩ := hI
      subst e1; subst e2
      have h1 : i1 r 1 = nI (g 2) := by rw [Dyn_fr hf1 rfl a1]; exact a4
      rw [b_Ford_trustedOf_22, hq]
      simp (disch := first | assumption | omega) only [b_Ford_trustedOf_0, b_Ford_trustedOf_14, b_Ford_trustedOf_41, b_Ford_trustedOf_49, b_Ford_trustedOf_83, b_Ford_trustedOf_101, b_Ford_trustedOf_116, b_Ford_trustedOf_122, s_X_hasBit, s_X_hasBit', s_X_placeOf, ↓Bool.cond_decide, ↓q_in, q_le, q_lt, q_eq, q_leT, q_leF, q_ltT, q_ltF, q_eqT, q_eqF, ↓reduceIte, not_true_eq_false, not_false_eq_true, true_and, and_true, and_self, false_and, and_false, Nat.zero_le, am_bd_some, q_app, q_app0, nI_add, pk_sub, pk_mul, q_dec, q_ix, q_m1, q_m1', ↓q_ret, q_bool, q_bool1, q_u2, q_u1, q_shl1, q_shr, q_and7, q_dg, fa_or, fa_and, decide_true, decide_false, Bool.or_false, Bool.or_true, Bool.true_or, Bool.false_or, cond_true, cond_false, ite_not, q_some, q_nn, q_xor, q_xorm, Bool.false_eq_true, decide_eq_true_eq, ne_eq, l_0, l_1, l_4, l_5, l_6, l_8, l_11, l_12, l_14, l_17, l_22, l_31, l_41, l_49, l_66, l_83, l_101, l_116, l_122, hk, h1, cond_true]
      exact XR_some (hQ _ _ ⟨rfl, hf1, hT1⟩)
end
