/-! THE CLASS: spread -/
section
variable {i : Nat → Nat → Int32} {l : Nat → Nat → Int64} {q : Nat → Nat → Option Nat} {K : List (Nat × Nat)} {r : Nat} {g : Nat → Nat}
theorem r_Ford_spread (d : Nat) {m a p rr most : Nat} (hV : RV (i, l, rX q, kX K) r g) (hL : LW g 1) (hq : rX q 11 1 = some r) (hm : l 11 2 = lN m) (hM : RM m (gCur g)) (hS6 : g 1 ≤ 6) (h2 : g 2 ≤ 4) (hp : p < g 2) (ha : a < 4096) (hr : rr ≤ 9) (hmo : most ≤ 8) (hvs : VS g a) (hT : TV i g) : XR q K (some (.int (nI (sEn g a p rr most)))) (fun i' l' => l' = l ∧ Fr [13, 14, 18, 19] i i' ∧ TV i' g) (am_cl (d + 4) mFord_spread [.ref 11, .int (nI a), .int (nI p), .int (nI rr), .int (nI most)] (i, l, rX q, kX K)) := by
  have hV0 := hV
  obtain ⟨a1, a2, a3, a4, a5, a6, _, _, _, _⟩ := hV
  have hk : ∀ i', Nat.beq (am_kd (i', l, rX q, kX K) r) 6 = true := fun i' => by rw [show am_kd (i', l, rX q, kX K) r = 6 from a2]; rfl
  have hl : Int32.toInt64 (nI a) = lN a := nI_l (by omega)
  have hdp := hvs.1 p (by omega)
  have hd8 : dg a p < 8 := dg_lt a p
  have hfb := s_River_farBank (i := i) (l := l) (q := rX q) (K := kX K) (d + 2) (hk i) a3
  have hst := s_River_spotsTaken (i := i) (l := l) (q := rX q) (K := kX K) (d + 1) (g := g) ha (hk i) a3 a4 hS6 h2 hvs.1
  have hpl := s_X_placeOf (m := a) (p := p) (d + 2) (by omega) (by omega) (i, l, rX q, kX K)
  refine XR_q ?_
  intro Q hQ
  have loop : ∀ j n i1 z11 z12, n + j = most → Fr [13, 14, 18, 19] i i1 → TV i1 g → XR q K (some (.int (nI (sEn g a p rr most)))) Q (am_Ex (d + 3) mFord_spread 39 [.val (.ref 11), .val (.int (nI a)), .val (.int (nI p)), .val (.int (nI rr)), .val (.int (nI most)), .val (.int (nI (g 1 + 1))), .val (.int (nI (tkB g a))), .val (.int (nI (sE g a p rr n))), .val (.int (nI (sS g a p rr n))), .val (.int (nI (sEn g a p rr n))), .val (.int (nI n)), z11, z12] [] (i1, l, rX q, kX K)) := by
    intro j
    induction j with
    | zero =>
      intro n i1 z11 z12 hn hf1 hT1
      have hn : n = most := by omega
      subst hn
      rw [b_Ford_spread_39]
      simp (disch := first | assumption | omega) only [b_Ford_spread_0, b_Ford_spread_7, b_Ford_spread_17, b_Ford_spread_26, b_Ford_spread_136, b_Ford_spread_152, s_River_farBank, s_River_spotsTaken, s_X_placeOf, ↓Bool.cond_decide, ↓q_in, q_le, q_lt, q_eq, q_leT, q_leF, q_ltT, q_ltF, q_eqT, q_eqF, ↓reduceIte, not_true_eq_false, not_false_eq_true, true_and, and_true, and_self, false_and, and_false, Nat.zero_le, am_bd_some, q_app, q_app0, nI_add, pk_sub, pk_mul, q_dec, q_ix, q_m1, q_m1', ↓q_ret, q_bool, q_bool1, q_u2, q_u1, q_shl1, q_shr, q_and7, q_dg, fa_or, fa_and, decide_true, decide_false, Bool.or_false, Bool.or_true, Bool.true_or, Bool.false_or, cond_true, cond_false, ite_not, q_some, q_nn, q_xor, q_xorm, Bool.false_eq_true, decide_eq_true_eq, ne_eq, l_0, l_1, l_2, l_4, l_6, l_7, l_8, l_9, l_11, l_14, l_17, l_26, l_31, l_39, l_54, l_57, l_136, l_152]
      exact XR_some (hQ _ _ ⟨rfl, hf1, hT1⟩)
    | succ j ih =>
      intro n i1 z11 z12 hn hf1 hT1
      have hE : sE g a p rr n < 256 := sE_lt
      have hSl : sS g a p rr n < 256 := sS_lt
      rw [b_Ford_spread_39]
      by_cases c : sE g a p rr n = 0
      · simp (disch := first | assumption | omega) only [b_Ford_spread_0, b_Ford_spread_7, b_Ford_spread_17, b_Ford_spread_26, b_Ford_spread_136, b_Ford_spread_152, s_River_farBank, s_River_spotsTaken, s_X_placeOf, ↓Bool.cond_decide, ↓q_in, q_le, q_lt, q_eq, q_leT, q_leF, q_ltT, q_ltF, q_eqT, q_eqF, ↓reduceIte, not_true_eq_false, not_false_eq_true, true_and, and_true, and_self, false_and, and_false, Nat.zero_le, am_bd_some, q_app, q_app0, nI_add, pk_sub, pk_mul, q_dec, q_ix, q_m1, q_m1', ↓q_ret, q_bool, q_bool1, q_u2, q_u1, q_shl1, q_shr, q_and7, q_dg, fa_or, fa_and, decide_true, decide_false, Bool.or_false, Bool.or_true, Bool.true_or, Bool.false_or, cond_true, cond_false, ite_not, q_some, q_nn, q_xor, q_xorm, Bool.false_eq_true, decide_eq_true_eq, ne_eq, l_0, l_1, l_2, l_4, l_6, l_7, l_8, l_9, l_11, l_14, l_17, l_26, l_31, l_39, l_54, l_57, l_136, l_152, c]
        rw [show most = n + (j + 1) by omega, sEn_z hdp hS6 c (by omega)]
        exact XR_some (hQ _ _ ⟨rfl, hf1, hT1⟩)
      · simp (disch := first | assumption | omega) only [b_Ford_spread_0, b_Ford_spread_7, b_Ford_spread_17, b_Ford_spread_26, b_Ford_spread_136, b_Ford_spread_152, s_River_farBank, s_River_spotsTaken, s_X_placeOf, ↓Bool.cond_decide, ↓q_in, q_le, q_lt, q_eq, q_leT, q_leF, q_ltT, q_ltF, q_eqT, q_eqF, ↓reduceIte, not_true_eq_false, not_false_eq_true, true_and, and_true, and_self, false_and, and_false, Nat.zero_le, am_bd_some, q_app, q_app0, nI_add, pk_sub, pk_mul, q_dec, q_ix, q_m1, q_m1', ↓q_ret, q_bool, q_bool1, q_u2, q_u1, q_shl1, q_shr, q_and7, q_dg, fa_or, fa_and, decide_true, decide_false, Bool.or_false, Bool.or_true, Bool.true_or, Bool.false_or, cond_true, cond_false, ite_not, q_some, q_nn, q_xor, q_xorm, Bool.false_eq_true, decide_eq_true_eq, ne_eq, l_0, l_1, l_2, l_4, l_6, l_7, l_8, l_9, l_11, l_14, l_17, l_26, l_31, l_39, l_54, l_57, l_136, l_152, c]
        have hfar : 2 ^ (g 1 + 1) ≤ 2 ^ 7 := Nat.pow_le_pow_right (by decide) (by omega)
        have hfar0 := Nat.two_pow_pos (g 1 + 1)
        have hE2 : sE g a p rr (n + 1) < 256 := sE_lt
        have ht : tE g a p rr n < 256 := tE_lt hS6
        have hmask : nI (toB (sE g a p rr n) rr) &&& ((((2 : Int32) <<< (nI (g 1 + 1) &&& 31)) - (1 : Int32)) &&& (nI (sS g a p rr n) ^^^ (-1))) = nI (tE g a p rr n) := by
          rw [show nI (g 1 + 1) &&& (31 : Int32) = nI ((g 1 + 1) &&& 31) from fa_and (g 1 + 1) 31, show (2 : Int32) <<< nI ((g 1 + 1) &&& 31) = nI (2 * 2 ^ (g 1 + 1)) from q_shl (a := 2) (by omega) (by omega), show nI (2 * 2 ^ (g 1 + 1)) - (1 : Int32) = nI (2 * 2 ^ (g 1 + 1) - 1) from pk_sub (a := 2 * 2 ^ (g 1 + 1)) (b := 1) (by omega), show nI (sS g a p rr n) ^^^ (-1 : Int32) = nI (sS g a p rr n ^^^ 4294967295) from q_xorm _, fa_and, fa_and]
          rfl
        have hbank : nI (tE g a p rr n) &&& ((1 : Int32) ||| ((1 : Int32) <<< (nI (g 1 + 1) &&& 31))) = nI (tE g a p rr n &&& (1 ||| 2 ^ (g 1 + 1))) := by
          rw [k_shl1 (by omega), show (1 : Int32) ||| nI (2 ^ (g 1 + 1)) = nI (1 ||| 2 ^ (g 1 + 1)) from fa_or 1 _, fa_and]
        have hends : nI (sEn g a p rr n) ||| (nI (tE g a p rr n) &&& (nI (tkB g a) ^^^ (-1))) = nI (sEn g a p rr (n + 1)) := by
          rw [show nI (tkB g a) ^^^ (-1 : Int32) = nI (tkB g a ^^^ 4294967295) from q_xorm _, fa_and, fa_or, sEn_s hS6 hdp (by omega)]
        refine am_loop (d := d + 3) (y := mFord_spread) (pc := 57) (fun k ls s => ls = [.val (.ref 11), .val (.int (nI a)), .val (.int (nI p)), .val (.int (nI rr)), .val (.int (nI most)), .val (.int (nI (g 1 + 1))), .val (.int (nI (tkB g a))), .val (.int (nI (sE g a p rr n))), .val (.int (nI (sS g a p rr n))), .val (.int (nI (sEn g a p rr n))), .val (.int (nI n)), .val (.int (nI (toB (sE g a p rr n) k))), .val (.int (nI (k + 1)))] ∧ s = (i1, l, rX q, kX K)) rr _ (fun k ls s hk2 hI => ?_) (fun ls s hI => ?_) ⟨rfl, rfl⟩
        · obtain ⟨e1, e2⟩ := hI
          subst e1; subst e2
          have h9 : 2 ^ (k + 1) ≤ 2 ^ 9 := Nat.pow_le_pow_right (by decide) (by omega)
          have h3 : sE g a p rr n * 2 ^ (k + 1) ≤ 255 * 2 ^ 9 := Nat.mul_le_mul (by omega) h9
          have h4 : sE g a p rr n * 2 ^ (k + 1) < 4294967296 := by omega
          rw [b_Ford_spread_57]
          simp (disch := first | assumption | omega) only [b_Ford_spread_0, b_Ford_spread_7, b_Ford_spread_17, b_Ford_spread_26, b_Ford_spread_136, b_Ford_spread_152, s_River_farBank, s_River_spotsTaken, s_X_placeOf, ↓Bool.cond_decide, ↓q_in, q_le, q_lt, q_eq, q_leT, q_leF, q_ltT, q_ltF, q_eqT, q_eqF, ↓reduceIte, not_true_eq_false, not_false_eq_true, true_and, and_true, and_self, false_and, and_false, Nat.zero_le, am_bd_some, q_app, q_app0, nI_add, pk_sub, pk_mul, q_dec, q_ix, q_m1, q_m1', ↓q_ret, q_bool, q_bool1, q_u2, q_u1, q_shl1, q_shr, q_and7, q_dg, fa_or, fa_and, decide_true, decide_false, Bool.or_false, Bool.or_true, Bool.true_or, Bool.false_or, cond_true, cond_false, ite_not, q_some, q_nn, q_xor, q_xorm, Bool.false_eq_true, decide_eq_true_eq, ne_eq, l_0, l_1, l_2, l_4, l_6, l_7, l_8, l_9, l_11, l_14, l_17, l_26, l_31, l_39, l_54, l_57, l_136, l_152, q_shl]
          exact Go_in ⟨rfl, rfl⟩
        · obtain ⟨e1, e2⟩ := hI
          subst e1; subst e2
          have hstn : tE g a p rr n &&& tkB g a < 256 := Nat.lt_of_le_of_lt Nat.and_le_left ht
          obtain ⟨i2, l2, e2, hl2, hf2, hT2⟩ := r_Ford_trustedOf (i := i1) (l := l) d (m := m) (a := a) (p := p) (rr := rr) (E := sE g a p rr n) (st := tE g a p rr n &&& tkB g a) (RV_fr hf1 rfl hV0) hL hq hm hM h2 (by omega) ha hr hE hstn hvs.2.1 (fun x hx => by
            rw [Nat.testBit_and, Bool.and_eq_true] at hx
            obtain ⟨m1, m2, y, y1, y8, y2, y3⟩ := (tE_bit hS6).mp hx.1
            refine ⟨?_, y, ?_, y3⟩
            · rw [tkB_bit (by omega)] at hx; exact hx.2
            · unfold sE; rw [bs_bit, decide_eq_true y8, y1]; rfl) hT1
          subst hl2
          rw [b_Ford_spread_57, decide_eq_true (show nI rr < nI (rr + 1) by rw [q_lt (by omega) (by omega)]; omega), cond_true, hmask, fa_and, hbank, hends, e2, am_bd_some, q_app, b_Ford_spread_136, fa_or, sE_s hS6 (by omega) hp hdp (by omega), fa_or, sS_s (by omega), show nI n + (1 : Int32) = nI (n + 1) from nI_add n 1]
          exact ih (n + 1) i2 _ _ (by omega) (Fr_step hf2 rfl hf1) hT2
  rw [c_Ford_spread, b_Ford_spread_0, hq]
  have h10 : (1 : Int32) <<< (nI (dg a p) &&& 31) = nI (2 ^ dg a p) := k_shl1 (by omega)
  have := loop most 0 i .unset .unset (by omega) (Fr_refl _ _) hT
  rw [sE_0 hd8, sS_0 hd8, sEn_0] at this
  dsimp only
  rw [hk i, Bool.true_and, cond_true, hfb, am_bd_some, q_app, b_Ford_spread_7, hq]
  dsimp only
  rw [hk i, Bool.true_and, cond_true, hst, am_bd_some, q_app, b_Ford_spread_17, hl, hpl, am_bd_some, q_app, b_Ford_spread_26, h10]
  exact this
end
