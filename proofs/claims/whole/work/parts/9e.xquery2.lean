/-! THE CLASS: more calls that ask by the ford -/
section
variable {g : Nat → Nat} {a p r : Nat}
theorem sD_more {n x : Nat} (h : sD g a p r n x < FARN) : ∀ k, sD g a p r (n + k) x = sD g a p r n x
  | 0 => rfl
  | k + 1 => by
    have := sD_more h k
    rw [show n + (k + 1) = (n + k) + 1 from rfl, sD_keep (by rw [this]; exact h), this]
theorem sD_own : ∀ {n x : Nat}, n < 100 → sD g a p r n x < FARN → sD g a p r (sD g a p r n x) x < FARN
  | 0, x, _, h => by
    have : sD g a p r 0 x = 0 := by
      rw [sD] at h ⊢
      by_cases e : x = dg a p
      · rw [if_pos e]
      · rw [if_neg e] at h; omega
    rw [this]; rw [this] at h ⊢; exact h
  | n + 1, x, hn, h => by
    by_cases c : sD g a p r (n + 1) x = n + 1
    · rw [c]; exact h
    · rw [sD_k (by omega) c] at h ⊢
      exact sD_own (by omega) h
theorem steps_e {y : Nat} (hy : y < g 1 + 2) : vW (ff (fun n => (sEn g a p r n).testBit y) 8 1) = if (sGo g a p r).testBit y = true then nI (sD g a p r 8 y) else -nI 1 := by
  have bit : ∀ n, (sEn g a p r n).testBit y = true ↔ (y ≠ dg a p ∧ sD g a p r n y < FARN ∧ (sWho g a y).isNone = true) := by
    intro n
    unfold sEn
    rw [bs_bit, decide_eq_true hy, Bool.true_and, Bool.and_eq_true, Bool.and_eq_true, decide_eq_true_eq, decide_eq_true_eq, and_assoc]
  cases hf : ff (fun n => (sEn g a p r n).testBit y) 8 1 with
  | none =>
    have h8 := ff_none hf 8 (by omega) (by omega)
    have h8 : (sEn g a p r 8).testBit y = false := h8
    rw [sEn8] at h8
    rw [if_neg (by rw [h8]; decide)]
    rfl
  | some j =>
    obtain ⟨j1, j2, j3, j4⟩ := ff_some hf
    have j3 : (sEn g a p r j).testBit y = true := j3
    obtain ⟨k1, k2, k3⟩ := (bit j).mp j3
    have e8 : sD g a p r 8 y = sD g a p r j y := by
      have := sD_more k2 (8 - j)
      rw [show j + (8 - j) = 8 by omega] at this
      exact this
    have hb : (sGo g a p r).testBit y = true := by
      rw [← sEn8]
      exact (bit 8).mpr ⟨k1, by rw [e8]; exact k2, k3⟩
    rw [if_pos hb]
    have ht0 : sD g a p r j y ≠ 0 := fun z => k1 (sD_0 z)
    have htj : sD g a p r j y ≤ j := by
      rcases sD_le g a p r j y with h | h
      · exact h
      · omega
    have htj2 : ¬ sD g a p r j y < j := fun z => by
      have := j4 (sD g a p r j y) (by omega) z
      have this : (sEn g a p r (sD g a p r j y)).testBit y = false := this
      rw [(bit _).mpr ⟨k1, sD_own (by omega) k2, k3⟩] at this
      cases this
    rw [e8, show sD g a p r j y = j by omega]
    rfl
theorem ff_f {f : Nat → Bool} : ∀ {n k : Nat}, (∀ m, f m = false) → ff f n k = none
  | 0, _, _ => rfl
  | n + 1, k, h => by rw [ff, if_neg (by rw [h]; decide), ff_f h]
end
section
variable {i i' : Nat → Nat → Int32} {l l' : Nat → Nat → Int64} {q q' : Nat → Nat → Option Nat} {K : List (Nat × Nat)} {r m : Nat} {g : Nat → Nat} {ρ : Nat → Nat → Nat}
theorem y_X_steps (d : Nat) (x y : Int32) (hC : CV ρ r g m i l q K) (hF : XF ρ i l q K) : YR ρ K i l q (some (.int (v_steps g x y))) (am_cl (d + 6) mX_steps [.ref 0, .int x, .int y] (i, l, rX q, kX K)) := by
  obtain ⟨a1, a2, hW, a4, a5, a6⟩ := id hC
  have a1 : rX q 0 2 = some r := a1
  obtain ⟨fP, fS, fL, fE, fF, fB, fU, fV, fK, fW, hk, ra, ra1, ra2, ra3⟩ := CV_f a2 hW
  obtain ⟨fN, fO, fT, fD⟩ := RM_f a6 hW
  have h1 : g 1 ≤ 6 := hW.1.2
  have h2 : g 2 ≤ 4 := hW.2.1
  have hR : ∀ p, p < 4 → g (10 + p) ≤ 4 := hW.2.2.2.1
  have hP : ∀ p, p < 4 → g (18 + p) < 8 := hW.2.2.2.2.2.1
  have hSt : ∀ p, p < 4 → g (22 + p) ≤ 9 := hW.2.2.2.2.2.2.1
  have hn := sNow_lt g hP 4 (by decide)
  have hvs : VS g (sNow g 4) := hW.2.2.2.2.2.2.2.2.2.2
  rw [c_X_steps, b_X_steps_0, v_steps]
  by_cases hx : iB x (g 2) = true
  · by_cases hy : iB y (g 1 + 2) = true
    · have hx' := hx
      obtain ⟨p, hp, rfl⟩ := iB_T hx'
      have hp4 : p < 4 := by omega
      have hy' := hy
      obtain ⟨y, hy2, rfl⟩ := iB_T hy'
      have hR4 := hR p hp4
      obtain ⟨i1, l1, q1, e1, hf1, hA1⟩ := y_fordAt (d + 2) hC hF (gE_refl g) a6
      simp (disch := first | assumption | omega) only [b_X_steps_0, b_X_steps_8, b_X_steps_19, b_X_steps_22, b_X_steps_33, b_X_steps_53, b_X_steps_67, b_X_steps_71, s_X_hasBit, s_X_hasBit', ↓Bool.cond_decide, ↓q_in, q_le, q_lt, q_eq, q_leT, q_leF, q_ltT, q_ltF, q_eqT, q_eqF, ↓reduceIte, not_true_eq_false, not_false_eq_true, true_and, and_true, and_self, false_and, and_false, Nat.zero_le, am_bd_some, q_app, q_app0, nI_add, pk_sub, pk_mul, q_dec, q_ix, q_m1, q_m1', ↓q_ret, q_bool, q_bool1, q_u2, q_u1, q_shl1, q_shr, q_and7, q_dg, fa_or, fa_and, decide_true, decide_false, Bool.or_false, Bool.or_true, Bool.true_or, Bool.false_or, cond_true, cond_false, ite_not, q_some, q_nn, q_xor, q_xorm, Bool.false_eq_true, decide_eq_true_eq, ne_eq, l_0, l_1, l_2, l_3, l_4, l_5, l_6, l_8, l_10, l_11, l_12, l_13, l_19, l_22, l_33, l_36, l_53, l_67, l_71, l_100, hx, hy, e1, a1, a5, hk, fP, fS, fL, fE, fF, fB, fU, fV, fK, fW, fN, fO, fT, fD, ra1, ra2, cond_true, Bool.and_true, kd11]
      rw [← steps_e hy2]
      refine am_find (d := d + 5) (y := mX_steps) (pc := 36) (fun k ls s => ∃ i2, ls = [.val (.ref 0), .val (.int (nI p)), .val (.int (nI y)), .val (.int (nI k))] ∧ s = (i2, l1, rX q1, kX K) ∧ Fr RF i1 i2 ∧ FA r g m i2 l1 q1) (fun n => (sEn g (sNow g 4) p (g (10 + p)) n).testBit y) (fun o rs => YR ρ K i l q (some (.int (vW o))) rs) 8 1 (fun k ls s hk1 hk2 hI => ?_) (fun ls s hI => ?_) _ _ ⟨i1, rfl, rfl, Fr_refl _ _, hA1⟩
      · obtain ⟨i2, e1, e2, hf2, hA2⟩ := hI
        subst e1; subst e2
        have hff := FG_i hf1 hf2 rfl
        obtain ⟨a1, a2, _, a4, a5, _⟩ := CV_ff hff hC
        have a1 : rX q1 0 2 = some r := a1
        obtain ⟨fP, fS, fL, fE, fF, fB, fU, fV, fK, fW, hk, ra, ra1, ra2, ra3⟩ := CV_f a2 hW
        have e5 := ra3 p hp4
        obtain ⟨i3, e3, hf3, hA3⟩ := y_spread (d + 1) a2 hW hA2 hp hn (show g (10 + p) ≤ 9 by omega) (show k ≤ 8 by omega) hvs
        have hb := s_X_hasBit' (d + 4) (a := sEn g (sNow g 4) p (g (10 + p)) k) (k := y) (by have := sEn_lt (g := g) (a := sNow g 4) (p := p) (r := g (10 + p)) (n := k) h1; omega) (by omega) (i3, l1, rX q1, kX K)
        refine ⟨fun z => ?_, fun z => ?_⟩
        · rw [z] at hb
          rw [b_X_steps_36]
          simp (disch := first | assumption | omega) only [b_X_steps_0, b_X_steps_8, b_X_steps_19, b_X_steps_22, b_X_steps_33, b_X_steps_53, b_X_steps_67, b_X_steps_71, ↓Bool.cond_decide, ↓q_in, q_le, q_lt, q_eq, q_leT, q_leF, q_ltT, q_ltF, q_eqT, q_eqF, ↓reduceIte, not_true_eq_false, not_false_eq_true, true_and, and_true, and_self, false_and, and_false, Nat.zero_le, am_bd_some, q_app, q_app0, nI_add, pk_sub, pk_mul, q_dec, q_ix, q_m1, q_m1', ↓q_ret, q_bool, q_bool1, q_u2, q_u1, q_shl1, q_shr, q_and7, q_dg, fa_or, fa_and, decide_true, decide_false, Bool.or_false, Bool.or_true, Bool.true_or, Bool.false_or, cond_true, cond_false, ite_not, q_some, q_nn, q_xor, q_xorm, Bool.false_eq_true, decide_eq_true_eq, ne_eq, l_0, l_1, l_2, l_3, l_4, l_5, l_6, l_8, l_10, l_11, l_12, l_13, l_19, l_22, l_33, l_36, l_53, l_67, l_71, l_100, e5, e3, hb, a1, a5, hk, fP, fS, fL, fE, fF, fB, fU, fV, fK, fW, fN, fO, fT, fD, ra1, ra2, cond_true, Bool.and_true, kd11]
          exact YR_some (FG_i hff hf3 rfl) (XF_of (CV_ff (FG_i hff hf3 rfl) hC) hA3 (gE_refl g) hW)
        · rw [z] at hb
          rw [b_X_steps_36]
          simp (disch := first | assumption | omega) only [b_X_steps_0, b_X_steps_8, b_X_steps_19, b_X_steps_22, b_X_steps_33, b_X_steps_53, b_X_steps_67, b_X_steps_71, ↓Bool.cond_decide, ↓q_in, q_le, q_lt, q_eq, q_leT, q_leF, q_ltT, q_ltF, q_eqT, q_eqF, ↓reduceIte, not_true_eq_false, not_false_eq_true, true_and, and_true, and_self, false_and, and_false, Nat.zero_le, am_bd_some, q_app, q_app0, nI_add, pk_sub, pk_mul, q_dec, q_ix, q_m1, q_m1', ↓q_ret, q_bool, q_bool1, q_u2, q_u1, q_shl1, q_shr, q_and7, q_dg, fa_or, fa_and, decide_true, decide_false, Bool.or_false, Bool.or_true, Bool.true_or, Bool.false_or, cond_true, cond_false, ite_not, q_some, q_nn, q_xor, q_xorm, Bool.false_eq_true, decide_eq_true_eq, ne_eq, l_0, l_1, l_2, l_3, l_4, l_5, l_6, l_8, l_10, l_11, l_12, l_13, l_19, l_22, l_33, l_36, l_53, l_67, l_71, l_100, e5, e3, hb, a1, a5, hk, fP, fS, fL, fE, fF, fB, fU, fV, fK, fW, fN, fO, fT, fD, ra1, ra2, cond_true, Bool.and_true, kd11]
          exact Go_in ⟨i3, rfl, rfl, Fr_step hf3 rfl hf2, hA3⟩
      · obtain ⟨i2, e1, e2, hf2, hA2⟩ := hI
        subst e1; subst e2
        have hff := FG_i hf1 hf2 rfl
        rw [b_X_steps_36]
        simp (disch := first | assumption | omega) only [b_X_steps_0, b_X_steps_8, b_X_steps_19, b_X_steps_22, b_X_steps_33, b_X_steps_53, b_X_steps_67, b_X_steps_71, s_X_hasBit, s_X_hasBit', ↓Bool.cond_decide, ↓q_in, q_le, q_lt, q_eq, q_leT, q_leF, q_ltT, q_ltF, q_eqT, q_eqF, ↓reduceIte, not_true_eq_false, not_false_eq_true, true_and, and_true, and_self, false_and, and_false, Nat.zero_le, am_bd_some, q_app, q_app0, nI_add, pk_sub, pk_mul, q_dec, q_ix, q_m1, q_m1', ↓q_ret, q_bool, q_bool1, q_u2, q_u1, q_shl1, q_shr, q_and7, q_dg, fa_or, fa_and, decide_true, decide_false, Bool.or_false, Bool.or_true, Bool.true_or, Bool.false_or, cond_true, cond_false, ite_not, q_some, q_nn, q_xor, q_xorm, Bool.false_eq_true, decide_eq_true_eq, ne_eq, l_0, l_1, l_2, l_3, l_4, l_5, l_6, l_8, l_10, l_11, l_12, l_13, l_19, l_22, l_33, l_36, l_53, l_67, l_71, l_100, a1, a5, hk, fP, fS, fL, fE, fF, fB, fU, fV, fK, fW, fN, fO, fT, fD, ra1, ra2, cond_true, Bool.and_true, kd11]
        exact YR_some hff (XF_of (CV_ff hff hC) hA2 (gE_refl g) hW)
    · simp (disch := first | assumption | omega) only [b_X_steps_0, b_X_steps_8, b_X_steps_19, b_X_steps_22, b_X_steps_33, b_X_steps_53, b_X_steps_67, b_X_steps_71, s_X_hasBit, s_X_hasBit', ↓Bool.cond_decide, ↓q_in, q_le, q_lt, q_eq, q_leT, q_leF, q_ltT, q_ltF, q_eqT, q_eqF, ↓reduceIte, not_true_eq_false, not_false_eq_true, true_and, and_true, and_self, false_and, and_false, Nat.zero_le, am_bd_some, q_app, q_app0, nI_add, pk_sub, pk_mul, q_dec, q_ix, q_m1, q_m1', ↓q_ret, q_bool, q_bool1, q_u2, q_u1, q_shl1, q_shr, q_and7, q_dg, fa_or, fa_and, decide_true, decide_false, Bool.or_false, Bool.or_true, Bool.true_or, Bool.false_or, cond_true, cond_false, ite_not, q_some, q_nn, q_xor, q_xorm, Bool.false_eq_true, decide_eq_true_eq, ne_eq, l_0, l_1, l_2, l_3, l_4, l_5, l_6, l_8, l_10, l_11, l_12, l_13, l_19, l_22, l_33, l_36, l_53, l_67, l_71, l_100, hx, hy, a1, a5, hk, fP, fS, fL, fE, fF, fB, fU, fV, fK, fW, fN, fO, fT, fD, ra1, ra2, cond_true, Bool.and_true, kd11]
      exact YR_0 hF
  · simp (disch := first | assumption | omega) only [b_X_steps_0, b_X_steps_8, b_X_steps_19, b_X_steps_22, b_X_steps_33, b_X_steps_53, b_X_steps_67, b_X_steps_71, s_X_hasBit, s_X_hasBit', ↓Bool.cond_decide, ↓q_in, q_le, q_lt, q_eq, q_leT, q_leF, q_ltT, q_ltF, q_eqT, q_eqF, ↓reduceIte, not_true_eq_false, not_false_eq_true, true_and, and_true, and_self, false_and, and_false, Nat.zero_le, am_bd_some, q_app, q_app0, nI_add, pk_sub, pk_mul, q_dec, q_ix, q_m1, q_m1', ↓q_ret, q_bool, q_bool1, q_u2, q_u1, q_shl1, q_shr, q_and7, q_dg, fa_or, fa_and, decide_true, decide_false, Bool.or_false, Bool.or_true, Bool.true_or, Bool.false_or, cond_true, cond_false, ite_not, q_some, q_nn, q_xor, q_xorm, Bool.false_eq_true, decide_eq_true_eq, ne_eq, l_0, l_1, l_2, l_3, l_4, l_5, l_6, l_8, l_10, l_11, l_12, l_13, l_19, l_22, l_33, l_36, l_53, l_67, l_71, l_100, hx, a1, a5, hk, fP, fS, fL, fE, fF, fB, fU, fV, fK, fW, fN, fO, fT, fD, ra1, ra2, cond_true, Bool.and_true, kd11]
    exact YR_0 hF
theorem y_X_stride (d : Nat) (x : Int32) (hC : CV ρ r g m i l q K) (hF : XF ρ i l q K) : YR ρ K i l q (some (.int (v_stride g x))) (am_cl (d + 6) mX_stride [.ref 0, .int x] (i, l, rX q, kX K)) := by
  obtain ⟨a1, a2, hW, a4, a5, a6⟩ := id hC
  have a1 : rX q 0 2 = some r := a1
  obtain ⟨fP, fS, fL, fE, fF, fB, fU, fV, fK, fW, hk, ra, ra1, ra2, ra3⟩ := CV_f a2 hW
  obtain ⟨fN, fO, fT, fD⟩ := RM_f a6 hW
  have h1 : g 1 ≤ 6 := hW.1.2
  have h2 : g 2 ≤ 4 := hW.2.1
  have hR : ∀ p, p < 4 → g (10 + p) ≤ 4 := hW.2.2.2.1
  have hP : ∀ p, p < 4 → g (18 + p) < 8 := hW.2.2.2.2.2.1
  have hSt : ∀ p, p < 4 → g (22 + p) ≤ 9 := hW.2.2.2.2.2.2.1
  have hn := sNow_lt g hP 4 (by decide)
  have hvs : VS g (sNow g 4) := hW.2.2.2.2.2.2.2.2.2.2
  rw [c_X_stride, b_X_stride_0, v_stride]
  by_cases hx : iB x (g 2) = true
  · have hx' := hx
    obtain ⟨p, hp, rfl⟩ := iB_T hx'
    have hp4 : p < 4 := by omega
    have hp8 := hP p hp4
    by_cases hf : g (18 + p) = g 1 + 1
    · have e : ff (fun rr => (sGo g (sNow g 4) p rr).testBit (g 1 + 1)) 9 1 = none := ff_f (fun t => by
        unfold sGo
        rw [bs_bit]
        unfold sGB
        rw [dg_sNow hP p hp4, hf]
        simp)
      simp (disch := first | assumption | omega) only [b_X_stride_0, b_X_stride_8, b_X_stride_22, b_X_stride_29, b_X_stride_42, b_X_stride_62, b_X_stride_69, b_X_stride_76, b_X_stride_79, s_X_hasBit, s_X_hasBit', ↓Bool.cond_decide, ↓q_in, q_le, q_lt, q_eq, q_leT, q_leF, q_ltT, q_ltF, q_eqT, q_eqF, ↓reduceIte, not_true_eq_false, not_false_eq_true, true_and, and_true, and_self, false_and, and_false, Nat.zero_le, am_bd_some, q_app, q_app0, nI_add, pk_sub, pk_mul, q_dec, q_ix, q_m1, q_m1', ↓q_ret, q_bool, q_bool1, q_u2, q_u1, q_shl1, q_shr, q_and7, q_dg, fa_or, fa_and, decide_true, decide_false, Bool.or_false, Bool.or_true, Bool.true_or, Bool.false_or, cond_true, cond_false, ite_not, q_some, q_nn, q_xor, q_xorm, Bool.false_eq_true, decide_eq_true_eq, ne_eq, l_0, l_1, l_2, l_3, l_6, l_8, l_9, l_11, l_12, l_22, l_29, l_42, l_45, l_62, l_69, l_76, l_79, hx, hf, e, a1, a5, hk, fP, fS, fL, fE, fF, fB, fU, fV, fK, fW, fN, fO, fT, fD, ra1, ra2, cond_true, Bool.and_true, kd11]
      exact YR_0 hF
    · obtain ⟨i1, l1, q1, e1, hf1, hA1⟩ := y_fordAt (d + 2) hC hF (gE_refl g) a6
      simp (disch := first | assumption | omega) only [b_X_stride_0, b_X_stride_8, b_X_stride_22, b_X_stride_29, b_X_stride_42, b_X_stride_62, b_X_stride_69, b_X_stride_76, b_X_stride_79, s_X_hasBit, s_X_hasBit', ↓Bool.cond_decide, ↓q_in, q_le, q_lt, q_eq, q_leT, q_leF, q_ltT, q_ltF, q_eqT, q_eqF, ↓reduceIte, not_true_eq_false, not_false_eq_true, true_and, and_true, and_self, false_and, and_false, Nat.zero_le, am_bd_some, q_app, q_app0, nI_add, pk_sub, pk_mul, q_dec, q_ix, q_m1, q_m1', ↓q_ret, q_bool, q_bool1, q_u2, q_u1, q_shl1, q_shr, q_and7, q_dg, fa_or, fa_and, decide_true, decide_false, Bool.or_false, Bool.or_true, Bool.true_or, Bool.false_or, cond_true, cond_false, ite_not, q_some, q_nn, q_xor, q_xorm, Bool.false_eq_true, decide_eq_true_eq, ne_eq, l_0, l_1, l_2, l_3, l_6, l_8, l_9, l_11, l_12, l_22, l_29, l_42, l_45, l_62, l_69, l_76, l_79, hx, hf, e1, a1, a5, hk, fP, fS, fL, fE, fF, fB, fU, fV, fK, fW, fN, fO, fT, fD, ra1, ra2, cond_true, Bool.and_true, kd11]
      refine am_find (d := d + 5) (y := mX_stride) (pc := 45) (fun k ls s => ∃ i2, ls = [.val (.ref 0), .val (.int (nI p)), .val (.int (nI k))] ∧ s = (i2, l1, rX q1, kX K) ∧ Fr RF i1 i2 ∧ FA r g m i2 l1 q1) (fun rr => (sGo g (sNow g 4) p rr).testBit (g 1 + 1)) (fun o rs => YR ρ K i l q (some (.int (vW o))) rs) 9 1 (fun k ls s hk1 hk2 hI => ?_) (fun ls s hI => ?_) _ _ ⟨i1, rfl, rfl, Fr_refl _ _, hA1⟩
      · obtain ⟨i2, e1, e2, hf2, hA2⟩ := hI
        subst e1; subst e2
        have hff := FG_i hf1 hf2 rfl
        obtain ⟨a1, a2, _, a4, a5, _⟩ := CV_ff hff hC
        have a1 : rX q1 0 2 = some r := a1
        obtain ⟨fP, fS, fL, fE, fF, fB, fU, fV, fK, fW, hk, ra, ra1, ra2, ra3⟩ := CV_f a2 hW
        obtain ⟨i3, e3, hf3, hA3⟩ := y_spread (d + 1) a2 hW hA2 hp hn (show k ≤ 9 by omega) (show 8 ≤ 8 by omega) hvs
        rw [sEn8] at e3
        have hff3 := FG_i hff hf3 rfl
        have hb := s_X_hasBit' (d + 4) (a := sGo g (sNow g 4) p k) (k := g 1 + 1) (by have := sGo_lt (g := g) (a := sNow g 4) (p := p) (r := k) h1; omega) (by omega) (i3, l1, rX q1, kX K)
        refine ⟨fun z => ?_, fun z => ?_⟩
        · rw [z] at hb
          rw [b_X_stride_45]
          simp (disch := first | assumption | omega) only [b_X_stride_0, b_X_stride_8, b_X_stride_22, b_X_stride_29, b_X_stride_42, b_X_stride_62, b_X_stride_69, b_X_stride_76, b_X_stride_79, s_X_hasBit, s_X_hasBit', ↓Bool.cond_decide, ↓q_in, q_le, q_lt, q_eq, q_leT, q_leF, q_ltT, q_ltF, q_eqT, q_eqF, ↓reduceIte, not_true_eq_false, not_false_eq_true, true_and, and_true, and_self, false_and, and_false, Nat.zero_le, am_bd_some, q_app, q_app0, nI_add, pk_sub, pk_mul, q_dec, q_ix, q_m1, q_m1', ↓q_ret, q_bool, q_bool1, q_u2, q_u1, q_shl1, q_shr, q_and7, q_dg, fa_or, fa_and, decide_true, decide_false, Bool.or_false, Bool.or_true, Bool.true_or, Bool.false_or, cond_true, cond_false, ite_not, q_some, q_nn, q_xor, q_xorm, Bool.false_eq_true, decide_eq_true_eq, ne_eq, l_0, l_1, l_2, l_3, l_6, l_8, l_9, l_11, l_12, l_22, l_29, l_42, l_45, l_62, l_69, l_76, l_79, e3, a1, a5, hk, fP, fS, fL, fE, fF, fB, fU, fV, fK, fW, fN, fO, fT, fD, ra1, ra2, cond_true, Bool.and_true, kd11]
          obtain ⟨a1, a2, _, a4, a5, _⟩ := CV_ff hff3 hC
          have a1 : rX q1 0 2 = some r := a1
          obtain ⟨fP, fS, fL, fE, fF, fB, fU, fV, fK, fW, hk, ra, ra1, ra2, ra3⟩ := CV_f a2 hW
          simp (disch := first | assumption | omega) only [b_X_stride_0, b_X_stride_8, b_X_stride_22, b_X_stride_29, b_X_stride_42, b_X_stride_62, b_X_stride_69, b_X_stride_76, b_X_stride_79, ↓Bool.cond_decide, ↓q_in, q_le, q_lt, q_eq, q_leT, q_leF, q_ltT, q_ltF, q_eqT, q_eqF, ↓reduceIte, not_true_eq_false, not_false_eq_true, true_and, and_true, and_self, false_and, and_false, Nat.zero_le, am_bd_some, q_app, q_app0, nI_add, pk_sub, pk_mul, q_dec, q_ix, q_m1, q_m1', ↓q_ret, q_bool, q_bool1, q_u2, q_u1, q_shl1, q_shr, q_and7, q_dg, fa_or, fa_and, decide_true, decide_false, Bool.or_false, Bool.or_true, Bool.true_or, Bool.false_or, cond_true, cond_false, ite_not, q_some, q_nn, q_xor, q_xorm, Bool.false_eq_true, decide_eq_true_eq, ne_eq, l_0, l_1, l_2, l_3, l_6, l_8, l_9, l_11, l_12, l_22, l_29, l_42, l_45, l_62, l_69, l_76, l_79, hb, a1, a5, hk, fP, fS, fL, fE, fF, fB, fU, fV, fK, fW, fN, fO, fT, fD, ra1, ra2, cond_true, Bool.and_true, kd11]
          exact YR_some hff3 (XF_of (CV_ff hff3 hC) hA3 (gE_refl g) hW)
        · rw [z] at hb
          rw [b_X_stride_45]
          simp (disch := first | assumption | omega) only [b_X_stride_0, b_X_stride_8, b_X_stride_22, b_X_stride_29, b_X_stride_42, b_X_stride_62, b_X_stride_69, b_X_stride_76, b_X_stride_79, s_X_hasBit, s_X_hasBit', ↓Bool.cond_decide, ↓q_in, q_le, q_lt, q_eq, q_leT, q_leF, q_ltT, q_ltF, q_eqT, q_eqF, ↓reduceIte, not_true_eq_false, not_false_eq_true, true_and, and_true, and_self, false_and, and_false, Nat.zero_le, am_bd_some, q_app, q_app0, nI_add, pk_sub, pk_mul, q_dec, q_ix, q_m1, q_m1', ↓q_ret, q_bool, q_bool1, q_u2, q_u1, q_shl1, q_shr, q_and7, q_dg, fa_or, fa_and, decide_true, decide_false, Bool.or_false, Bool.or_true, Bool.true_or, Bool.false_or, cond_true, cond_false, ite_not, q_some, q_nn, q_xor, q_xorm, Bool.false_eq_true, decide_eq_true_eq, ne_eq, l_0, l_1, l_2, l_3, l_6, l_8, l_9, l_11, l_12, l_22, l_29, l_42, l_45, l_62, l_69, l_76, l_79, e3, a1, a5, hk, fP, fS, fL, fE, fF, fB, fU, fV, fK, fW, fN, fO, fT, fD, ra1, ra2, cond_true, Bool.and_true, kd11]
          obtain ⟨a1, a2, _, a4, a5, _⟩ := CV_ff hff3 hC
          have a1 : rX q1 0 2 = some r := a1
          obtain ⟨fP, fS, fL, fE, fF, fB, fU, fV, fK, fW, hk, ra, ra1, ra2, ra3⟩ := CV_f a2 hW
          simp (disch := first | assumption | omega) only [b_X_stride_0, b_X_stride_8, b_X_stride_22, b_X_stride_29, b_X_stride_42, b_X_stride_62, b_X_stride_69, b_X_stride_76, b_X_stride_79, ↓Bool.cond_decide, ↓q_in, q_le, q_lt, q_eq, q_leT, q_leF, q_ltT, q_ltF, q_eqT, q_eqF, ↓reduceIte, not_true_eq_false, not_false_eq_true, true_and, and_true, and_self, false_and, and_false, Nat.zero_le, am_bd_some, q_app, q_app0, nI_add, pk_sub, pk_mul, q_dec, q_ix, q_m1, q_m1', ↓q_ret, q_bool, q_bool1, q_u2, q_u1, q_shl1, q_shr, q_and7, q_dg, fa_or, fa_and, decide_true, decide_false, Bool.or_false, Bool.or_true, Bool.true_or, Bool.false_or, cond_true, cond_false, ite_not, q_some, q_nn, q_xor, q_xorm, Bool.false_eq_true, decide_eq_true_eq, ne_eq, l_0, l_1, l_2, l_3, l_6, l_8, l_9, l_11, l_12, l_22, l_29, l_42, l_45, l_62, l_69, l_76, l_79, hb, a1, a5, hk, fP, fS, fL, fE, fF, fB, fU, fV, fK, fW, fN, fO, fT, fD, ra1, ra2, cond_true, Bool.and_true, kd11]
          exact Go_in ⟨i3, rfl, rfl, Fr_step hf3 rfl hf2, hA3⟩
      · obtain ⟨i2, e1, e2, hf2, hA2⟩ := hI
        subst e1; subst e2
        have hff := FG_i hf1 hf2 rfl
        rw [b_X_stride_45]
        simp (disch := first | assumption | omega) only [b_X_stride_0, b_X_stride_8, b_X_stride_22, b_X_stride_29, b_X_stride_42, b_X_stride_62, b_X_stride_69, b_X_stride_76, b_X_stride_79, s_X_hasBit, s_X_hasBit', ↓Bool.cond_decide, ↓q_in, q_le, q_lt, q_eq, q_leT, q_leF, q_ltT, q_ltF, q_eqT, q_eqF, ↓reduceIte, not_true_eq_false, not_false_eq_true, true_and, and_true, and_self, false_and, and_false, Nat.zero_le, am_bd_some, q_app, q_app0, nI_add, pk_sub, pk_mul, q_dec, q_ix, q_m1, q_m1', ↓q_ret, q_bool, q_bool1, q_u2, q_u1, q_shl1, q_shr, q_and7, q_dg, fa_or, fa_and, decide_true, decide_false, Bool.or_false, Bool.or_true, Bool.true_or, Bool.false_or, cond_true, cond_false, ite_not, q_some, q_nn, q_xor, q_xorm, Bool.false_eq_true, decide_eq_true_eq, ne_eq, l_0, l_1, l_2, l_3, l_6, l_8, l_9, l_11, l_12, l_22, l_29, l_42, l_45, l_62, l_69, l_76, l_79, a1, a5, hk, fP, fS, fL, fE, fF, fB, fU, fV, fK, fW, fN, fO, fT, fD, ra1, ra2, cond_true, Bool.and_true, kd11]
        exact YR_some hff (XF_of (CV_ff hff hC) hA2 (gE_refl g) hW)
  · simp (disch := first | assumption | omega) only [b_X_stride_0, b_X_stride_8, b_X_stride_22, b_X_stride_29, b_X_stride_42, b_X_stride_62, b_X_stride_69, b_X_stride_76, b_X_stride_79, s_X_hasBit, s_X_hasBit', ↓Bool.cond_decide, ↓q_in, q_le, q_lt, q_eq, q_leT, q_leF, q_ltT, q_ltF, q_eqT, q_eqF, ↓reduceIte, not_true_eq_false, not_false_eq_true, true_and, and_true, and_self, false_and, and_false, Nat.zero_le, am_bd_some, q_app, q_app0, nI_add, pk_sub, pk_mul, q_dec, q_ix, q_m1, q_m1', ↓q_ret, q_bool, q_bool1, q_u2, q_u1, q_shl1, q_shr, q_and7, q_dg, fa_or, fa_and, decide_true, decide_false, Bool.or_false, Bool.or_true, Bool.true_or, Bool.false_or, cond_true, cond_false, ite_not, q_some, q_nn, q_xor, q_xorm, Bool.false_eq_true, decide_eq_true_eq, ne_eq, l_0, l_1, l_2, l_3, l_6, l_8, l_9, l_11, l_12, l_22, l_29, l_42, l_45, l_62, l_69, l_76, l_79, hx, a1, a5, hk, fP, fS, fL, fE, fF, fB, fU, fV, fK, fW, fN, fO, fT, fD, ra1, ra2, cond_true, Bool.and_true, kd11]
    exact YR_0 hF
theorem y_sweptNow (d : Nat) {w : Nat} (hC : CV ρ r g m i l q K) (hF : XF ρ i l q K) (hw : w < 16) : YR ρ K i l q (some (.int (nI (sBy g w)))) (am_cl (d + 5) mX_sweptNow [.ref 0, .int (nI w)] (i, l, rX q, kX K)) := by
  obtain ⟨a1, a2, hW, a4, a5, a6⟩ := id hC
  have a1 : rX q 0 2 = some r := a1
  obtain ⟨fP, fS, fL, fE, fF, fB, fU, fV, fK, fW, hk, ra, ra1, ra2, ra3⟩ := CV_f a2 hW
  obtain ⟨fN, fO, fT, fD⟩ := RM_f a6 hW
  have h1 : g 1 ≤ 6 := hW.1.2
  have h2 : g 2 ≤ 4 := hW.2.1
  have hR : ∀ p, p < 4 → g (10 + p) ≤ 4 := hW.2.2.2.1
  have hP : ∀ p, p < 4 → g (18 + p) < 8 := hW.2.2.2.2.2.1
  have hSt : ∀ p, p < 4 → g (22 + p) ≤ 9 := hW.2.2.2.2.2.2.1
  have hn := sNow_lt g hP 4 (by decide)
  have hvs : VS g (sNow g 4) := hW.2.2.2.2.2.2.2.2.2.2
  obtain ⟨i1, l1, q1, e1, hf1, hA1⟩ := y_fordAt (d + 1) hC hF (gE_refl g) a6
  rw [c_X_sweptNow, b_X_sweptNow_0]
  simp (disch := first | assumption | omega) only [b_X_sweptNow_0, b_X_sweptNow_7, b_X_sweptNow_21, b_X_sweptNow_30, b_X_sweptNow_38, ↓Bool.cond_decide, ↓q_in, q_le, q_lt, q_eq, q_leT, q_leF, q_ltT, q_ltF, q_eqT, q_eqF, ↓reduceIte, not_true_eq_false, not_false_eq_true, true_and, and_true, and_self, false_and, and_false, Nat.zero_le, am_bd_some, q_app, q_app0, nI_add, pk_sub, pk_mul, q_dec, q_ix, q_m1, q_m1', ↓q_ret, q_bool, q_bool1, q_u2, q_u1, q_shl1, q_shr, q_and7, q_dg, fa_or, fa_and, decide_true, decide_false, Bool.or_false, Bool.or_true, Bool.true_or, Bool.false_or, cond_true, cond_false, ite_not, q_some, q_nn, q_xor, q_xorm, Bool.false_eq_true, decide_eq_true_eq, ne_eq, l_0, l_1, l_2, l_3, l_5, l_6, l_7, l_8, l_9, l_16, l_21, l_30, l_38, e1, a1, a5, hk, fP, fS, fL, fE, fF, fB, fU, fV, fK, fW, fN, fO, fT, fD, ra1, ra2, cond_true, Bool.and_true, kd11]
  obtain ⟨a1, a2, _, a4, a5, _⟩ := CV_ff hf1 hC
  have a1 : rX q1 0 2 = some r := a1
  obtain ⟨fP, fS, fL, fE, fF, fB, fU, fV, fK, fW, hk, ra, ra1, ra2, ra3⟩ := CV_f a2 hW
  obtain ⟨i2, e2, hf2, hA2, _⟩ := y_flooded d (a := sNow g 4) (w := w) a2 hW hA1 hn hw hvs.1
  have hff := FG_i hf1 hf2 rfl
  have hfl := sFl_lt (g := g) (w := w) h2 hn
  rw [b_X_sweptNow_16]
  simp (disch := first | assumption | omega) only [b_X_sweptNow_0, b_X_sweptNow_7, b_X_sweptNow_16, b_X_sweptNow_30, b_X_sweptNow_38, ↓Bool.cond_decide, ↓q_in, q_le, q_lt, q_eq, q_leT, q_leF, q_ltT, q_ltF, q_eqT, q_eqF, ↓reduceIte, not_true_eq_false, not_false_eq_true, true_and, and_true, and_self, false_and, and_false, Nat.zero_le, am_bd_some, q_app, q_app0, nI_add, pk_sub, pk_mul, q_dec, q_ix, q_m1, q_m1', ↓q_ret, q_bool, q_bool1, q_u2, q_u1, q_shl1, q_shr, q_and7, q_dg, fa_or, fa_and, decide_true, decide_false, Bool.or_false, Bool.or_true, Bool.true_or, Bool.false_or, cond_true, cond_false, ite_not, q_some, q_nn, q_xor, q_xorm, Bool.false_eq_true, decide_eq_true_eq, ne_eq, l_0, l_1, l_2, l_3, l_5, l_6, l_7, l_8, l_9, l_16, l_21, l_30, l_38, e2, a1, a5, hk, fP, fS, fL, fE, fF, fB, fU, fV, fK, fW, fN, fO, fT, fD, ra1, ra2, cond_true, Bool.and_true, kd11]
  obtain ⟨a1, a2, _, a4, a5, _⟩ := CV_ff hff hC
  have a1 : rX q1 0 2 = some r := a1
  obtain ⟨fP, fS, fL, fE, fF, fB, fU, fV, fK, fW, hk, ra, ra1, ra2, ra3⟩ := CV_f a2 hW
  rw [b_X_sweptNow_21]
  simp (disch := first | assumption | omega) only [b_X_sweptNow_0, b_X_sweptNow_7, b_X_sweptNow_16, b_X_sweptNow_21, b_X_sweptNow_30, b_X_sweptNow_38, ↓Bool.cond_decide, ↓q_in, q_le, q_lt, q_eq, q_leT, q_leF, q_ltT, q_ltF, q_eqT, q_eqF, ↓reduceIte, not_true_eq_false, not_false_eq_true, true_and, and_true, and_self, false_and, and_false, Nat.zero_le, am_bd_some, q_app, q_app0, nI_add, pk_sub, pk_mul, q_dec, q_ix, q_m1, q_m1', ↓q_ret, q_bool, q_bool1, q_u2, q_u1, q_shl1, q_shr, q_and7, q_dg, fa_or, fa_and, decide_true, decide_false, Bool.or_false, Bool.or_true, Bool.true_or, Bool.false_or, cond_true, cond_false, ite_not, q_some, q_nn, q_xor, q_xorm, Bool.false_eq_true, decide_eq_true_eq, ne_eq, l_0, l_1, l_2, l_3, l_5, l_6, l_7, l_8, l_9, l_16, l_21, l_30, l_38, a1, a5, hk, fP, fS, fL, fE, fF, fB, fU, fV, fK, fW, fN, fO, fT, fD, ra1, ra2, cond_true, Bool.and_true, kd11]
  exact YR_some hff (XF_of (CV_ff hff hC) hA2 (gE_refl g) hW)
theorem y_X_swept (d : Nat) (x : Int32) (hC : CV ρ r g m i l q K) (hF : XF ρ i l q K) : YR ρ K i l q (some (.int (v_swept g x))) (am_cl (d + 6) mX_swept [.ref 0, .int x] (i, l, rX q, kX K)) := by
  obtain ⟨a1, a2, hW, a4, a5, a6⟩ := id hC
  have a1 : rX q 0 2 = some r := a1
  obtain ⟨fP, fS, fL, fE, fF, fB, fU, fV, fK, fW, hk, ra, ra1, ra2, ra3⟩ := CV_f a2 hW
  obtain ⟨fN, fO, fT, fD⟩ := RM_f a6 hW
  have h1 : g 1 ≤ 6 := hW.1.2
  have h2 : g 2 ≤ 4 := hW.2.1
  have hR : ∀ p, p < 4 → g (10 + p) ≤ 4 := hW.2.2.2.1
  have hP : ∀ p, p < 4 → g (18 + p) < 8 := hW.2.2.2.2.2.1
  have hSt : ∀ p, p < 4 → g (22 + p) ≤ 9 := hW.2.2.2.2.2.2.1
  have hn := sNow_lt g hP 4 (by decide)
  have hvs : VS g (sNow g 4) := hW.2.2.2.2.2.2.2.2.2.2
  have hI := iR10 x
  rw [c_X_swept, b_X_swept_0, v_swept]
  by_cases hx : iB x 10 = true
  · have hx' := hx
    obtain ⟨w, hw, rfl⟩ := iB_T hx'
    obtain ⟨i1, l1, q1, e1, hf1, hF1⟩ := y_sweptNow d (w := w) hC hF (by omega)
    simp (disch := first | assumption | omega) only [b_X_swept_0, b_X_swept_4, b_X_swept_12, b_X_swept_17, s_X_isDigit, ↓Bool.cond_decide, ↓q_in, q_le, q_lt, q_eq, q_leT, q_leF, q_ltT, q_ltF, q_eqT, q_eqF, ↓reduceIte, not_true_eq_false, not_false_eq_true, true_and, and_true, and_self, false_and, and_false, Nat.zero_le, am_bd_some, q_app, q_app0, nI_add, pk_sub, pk_mul, q_dec, q_ix, q_m1, q_m1', ↓q_ret, q_bool, q_bool1, q_u2, q_u1, q_shl1, q_shr, q_and7, q_dg, fa_or, fa_and, decide_true, decide_false, Bool.or_false, Bool.or_true, Bool.true_or, Bool.false_or, cond_true, cond_false, ite_not, q_some, q_nn, q_xor, q_xorm, Bool.false_eq_true, decide_eq_true_eq, ne_eq, l_0, l_1, l_3, l_4, l_8, l_12, l_17, hx, hI, e1, a1, a5, hk, fP, fS, fL, fE, fF, fB, fU, fV, fK, fW, fN, fO, fT, fD, ra1, ra2, cond_true, Bool.and_true, kd11]
    exact YR_some hf1 hF1
  · simp (disch := first | assumption | omega) only [b_X_swept_0, b_X_swept_4, b_X_swept_12, b_X_swept_17, s_X_isDigit, ↓Bool.cond_decide, ↓q_in, q_le, q_lt, q_eq, q_leT, q_leF, q_ltT, q_ltF, q_eqT, q_eqF, ↓reduceIte, not_true_eq_false, not_false_eq_true, true_and, and_true, and_self, false_and, and_false, Nat.zero_le, am_bd_some, q_app, q_app0, nI_add, pk_sub, pk_mul, q_dec, q_ix, q_m1, q_m1', ↓q_ret, q_bool, q_bool1, q_u2, q_u1, q_shl1, q_shr, q_and7, q_dg, fa_or, fa_and, decide_true, decide_false, Bool.or_false, Bool.or_true, Bool.true_or, Bool.false_or, cond_true, cond_false, ite_not, q_some, q_nn, q_xor, q_xorm, Bool.false_eq_true, decide_eq_true_eq, ne_eq, l_0, l_1, l_3, l_4, l_8, l_12, l_17, hx, hI, a1, a5, hk, fP, fS, fL, fE, fF, fB, fU, fV, fK, fW, fN, fO, fT, fD, ra1, ra2, cond_true, Bool.and_true, kd11]
    exact YR_0 hF
theorem y_X_looks (d : Nat) (x : Int32) (hC : CV ρ r g m i l q K) (hF : XF ρ i l q K) : YR ρ K i l q (some (.int (v_looks g x))) (am_cl (d + 6) mX_looks [.ref 0, .int x] (i, l, rX q, kX K)) := by
  obtain ⟨a1, a2, hW, a4, a5, a6⟩ := id hC
  have a1 : rX q 0 2 = some r := a1
  obtain ⟨fP, fS, fL, fE, fF, fB, fU, fV, fK, fW, hk, ra, ra1, ra2, ra3⟩ := CV_f a2 hW
  obtain ⟨fN, fO, fT, fD⟩ := RM_f a6 hW
  have h1 : g 1 ≤ 6 := hW.1.2
  have h2 : g 2 ≤ 4 := hW.2.1
  have hR : ∀ p, p < 4 → g (10 + p) ≤ 4 := hW.2.2.2.1
  have hP : ∀ p, p < 4 → g (18 + p) < 8 := hW.2.2.2.2.2.1
  have hSt : ∀ p, p < 4 → g (22 + p) ≤ 9 := hW.2.2.2.2.2.2.1
  have hn := sNow_lt g hP 4 (by decide)
  have hvs : VS g (sNow g 4) := hW.2.2.2.2.2.2.2.2.2.2
  have hI := iR10 x
  rw [c_X_looks, b_X_looks_0, v_looks]
  by_cases hx : iB x 10 = true
  · have hx' := hx
    obtain ⟨w, hw, rfl⟩ := iB_T hx'
    obtain ⟨i1, l1, q1, e1, hf1, hA1⟩ := y_fordAt (d + 2) hC hF (gE_refl g) a6
    simp (disch := first | assumption | omega) only [b_X_looks_0, b_X_looks_4, b_X_looks_18, b_X_looks_25, b_X_looks_29, s_X_isDigit, ↓Bool.cond_decide, ↓q_in, q_le, q_lt, q_eq, q_leT, q_leF, q_ltT, q_ltF, q_eqT, q_eqF, ↓reduceIte, not_true_eq_false, not_false_eq_true, true_and, and_true, and_self, false_and, and_false, Nat.zero_le, am_bd_some, q_app, q_app0, nI_add, pk_sub, pk_mul, q_dec, q_ix, q_m1, q_m1', ↓q_ret, q_bool, q_bool1, q_u2, q_u1, q_shl1, q_shr, q_and7, q_dg, fa_or, fa_and, decide_true, decide_false, Bool.or_false, Bool.or_true, Bool.true_or, Bool.false_or, cond_true, cond_false, ite_not, q_some, q_nn, q_xor, q_xorm, Bool.false_eq_true, decide_eq_true_eq, ne_eq, l_0, l_1, l_2, l_3, l_4, l_5, l_7, l_9, l_11, l_18, l_25, l_29, hx, hI, e1, a1, a5, hk, fP, fS, fL, fE, fF, fB, fU, fV, fK, fW, fN, fO, fT, fD, ra1, ra2, cond_true, Bool.and_true, kd11]
    obtain ⟨a1, a2, _, a4, a5, _⟩ := CV_ff hf1 hC
    have a1 : rX q1 0 2 = some r := a1
    obtain ⟨fP, fS, fL, fE, fF, fB, fU, fV, fK, fW, hk, ra, ra1, ra2, ra3⟩ := CV_f a2 hW
    obtain ⟨i2, e2, hf2, hA2, h7⟩ := y_flooded (d + 1) (a := sNow g 4) (w := w) a2 hW hA1 hn (by omega) hvs.1
    have hff := FG_i hf1 hf2 rfl
    simp (disch := first | assumption | omega) only [b_X_looks_0, b_X_looks_4, b_X_looks_18, b_X_looks_25, b_X_looks_29, s_X_isDigit, ↓Bool.cond_decide, ↓q_in, q_le, q_lt, q_eq, q_leT, q_leF, q_ltT, q_ltF, q_eqT, q_eqF, ↓reduceIte, not_true_eq_false, not_false_eq_true, true_and, and_true, and_self, false_and, and_false, Nat.zero_le, am_bd_some, q_app, q_app0, nI_add, pk_sub, pk_mul, q_dec, q_ix, q_m1, q_m1', ↓q_ret, q_bool, q_bool1, q_u2, q_u1, q_shl1, q_shr, q_and7, q_dg, fa_or, fa_and, decide_true, decide_false, Bool.or_false, Bool.or_true, Bool.true_or, Bool.false_or, cond_true, cond_false, ite_not, q_some, q_nn, q_xor, q_xorm, Bool.false_eq_true, decide_eq_true_eq, ne_eq, l_0, l_1, l_2, l_3, l_4, l_5, l_7, l_9, l_11, l_18, l_25, l_29, e2, h7, a1, a5, hk, fP, fS, fL, fE, fF, fB, fU, fV, fK, fW, fN, fO, fT, fD, ra1, ra2, cond_true, Bool.and_true, kd11]
    exact YR_some hff (XF_of (CV_ff hff hC) hA2 (gE_refl g) hW)
  · simp (disch := first | assumption | omega) only [b_X_looks_0, b_X_looks_4, b_X_looks_18, b_X_looks_25, b_X_looks_29, s_X_isDigit, ↓Bool.cond_decide, ↓q_in, q_le, q_lt, q_eq, q_leT, q_leF, q_ltT, q_ltF, q_eqT, q_eqF, ↓reduceIte, not_true_eq_false, not_false_eq_true, true_and, and_true, and_self, false_and, and_false, Nat.zero_le, am_bd_some, q_app, q_app0, nI_add, pk_sub, pk_mul, q_dec, q_ix, q_m1, q_m1', ↓q_ret, q_bool, q_bool1, q_u2, q_u1, q_shl1, q_shr, q_and7, q_dg, fa_or, fa_and, decide_true, decide_false, Bool.or_false, Bool.or_true, Bool.true_or, Bool.false_or, cond_true, cond_false, ite_not, q_some, q_nn, q_xor, q_xorm, Bool.false_eq_true, decide_eq_true_eq, ne_eq, l_0, l_1, l_2, l_3, l_4, l_5, l_7, l_9, l_11, l_18, l_25, l_29, hx, hI, a1, a5, hk, fP, fS, fL, fE, fF, fB, fU, fV, fK, fW, fN, fO, fT, fD, ra1, ra2, cond_true, Bool.and_true, kd11]
    exact YR_0 hF
theorem y_X_least (d : Nat) (x : Int32) (hC : CV ρ r g m i l q K) (hF : XF ρ i l q K) : YR ρ K i l q (some (.int (v_least g x))) (am_cl (d + 6) mX_least [.ref 0, .int x] (i, l, rX q, kX K)) := by
  obtain ⟨a1, a2, hW, a4, a5, a6⟩ := id hC
  have a1 : rX q 0 2 = some r := a1
  obtain ⟨fP, fS, fL, fE, fF, fB, fU, fV, fK, fW, hk, ra, ra1, ra2, ra3⟩ := CV_f a2 hW
  obtain ⟨fN, fO, fT, fD⟩ := RM_f a6 hW
  have h1 : g 1 ≤ 6 := hW.1.2
  have h2 : g 2 ≤ 4 := hW.2.1
  have hR : ∀ p, p < 4 → g (10 + p) ≤ 4 := hW.2.2.2.1
  have hP : ∀ p, p < 4 → g (18 + p) < 8 := hW.2.2.2.2.2.1
  have hSt : ∀ p, p < 4 → g (22 + p) ≤ 9 := hW.2.2.2.2.2.2.1
  have hn := sNow_lt g hP 4 (by decide)
  have hvs : VS g (sNow g 4) := hW.2.2.2.2.2.2.2.2.2.2
  rw [c_X_least, b_X_least_0, v_least]
  by_cases hx : iB x (g 2) = true
  · have hx' := hx
    obtain ⟨p, hp, rfl⟩ := iB_T hx'
    have hp4 : p < 4 := by omega
    have hpp := hP p hp4
    have hiS := iS_nI (g := g) (p := g (18 + p)) (by omega)
    cases hsp : sSpot g (g (18 + p)) with
    | true =>
      simp (disch := first | assumption | omega) only [b_X_least_0, b_X_least_8, b_X_least_26, b_X_least_29, b_X_least_48, b_X_least_52, s_X_hasBit, s_X_hasBit', ↓Bool.cond_decide, ↓q_in, q_le, q_lt, q_eq, q_leT, q_leF, q_ltT, q_ltF, q_eqT, q_eqF, ↓reduceIte, not_true_eq_false, not_false_eq_true, true_and, and_true, and_self, false_and, and_false, Nat.zero_le, am_bd_some, q_app, q_app0, nI_add, pk_sub, pk_mul, q_dec, q_ix, q_m1, q_m1', ↓q_ret, q_bool, q_bool1, q_u2, q_u1, q_shl1, q_shr, q_and7, q_dg, fa_or, fa_and, decide_true, decide_false, Bool.or_false, Bool.or_true, Bool.true_or, Bool.false_or, cond_true, cond_false, ite_not, q_some, q_nn, q_xor, q_xorm, Bool.false_eq_true, decide_eq_true_eq, ne_eq, l_0, l_1, l_2, l_3, l_4, l_5, l_6, l_8, l_9, l_10, l_15, l_26, l_29, l_37, l_48, l_52, hx, hiS, hsp, a1, a5, hk, fP, fS, fL, fE, fF, fB, fU, fV, fK, fW, fN, fO, fT, fD, ra1, ra2, cond_true, Bool.and_true, kd11]
      refine am_find (d := d + 5) (y := mX_least) (pc := 37) (fun k ls s => ∃ i1 l1 q1, ls = [.val (.ref 0), .val (.int (nI p)), .val (.int (nI k))] ∧ s = (i1, l1, rX q1, kX K) ∧ FG RF [11] [11] i i1 l l1 q q1 ∧ XF ρ i1 l1 q1 K) (fun w => (sBy g w).testBit p) (fun o rs => YR ρ K i l q (some (.int (vW o))) rs) 10 0 (fun k ls s hk1 hk2 hI => ?_) (fun ls s hI => ?_) _ _ ⟨i, l, q, rfl, rfl, FG_refl _ _ _ _ _ _, hF⟩
      · obtain ⟨i1, l1, q1, e1, e2, hf1, hF1⟩ := hI
        subst e1; subst e2
        obtain ⟨i2, l2, q2, e2, hf2, hF2⟩ := y_sweptNow d (w := k) (CV_ff hf1 hC) hF1 (by omega)
        have hb := s_X_hasBit' (d + 4) (a := sBy g k) (k := p) (by have := sBy_lt (g := g) (w := k) h2; omega) (by omega) (i2, l2, rX q2, kX K)
        refine ⟨fun z => ?_, fun z => ?_⟩
        · rw [z] at hb
          rw [b_X_least_37]
          simp (disch := first | assumption | omega) only [b_X_least_0, b_X_least_8, b_X_least_26, b_X_least_29, b_X_least_48, b_X_least_52, ↓Bool.cond_decide, ↓q_in, q_le, q_lt, q_eq, q_leT, q_leF, q_ltT, q_ltF, q_eqT, q_eqF, ↓reduceIte, not_true_eq_false, not_false_eq_true, true_and, and_true, and_self, false_and, and_false, Nat.zero_le, am_bd_some, q_app, q_app0, nI_add, pk_sub, pk_mul, q_dec, q_ix, q_m1, q_m1', ↓q_ret, q_bool, q_bool1, q_u2, q_u1, q_shl1, q_shr, q_and7, q_dg, fa_or, fa_and, decide_true, decide_false, Bool.or_false, Bool.or_true, Bool.true_or, Bool.false_or, cond_true, cond_false, ite_not, q_some, q_nn, q_xor, q_xorm, Bool.false_eq_true, decide_eq_true_eq, ne_eq, l_0, l_1, l_2, l_3, l_4, l_5, l_6, l_8, l_9, l_10, l_15, l_26, l_29, l_37, l_48, l_52, e2, hb, a1, a5, hk, fP, fS, fL, fE, fF, fB, fU, fV, fK, fW, fN, fO, fT, fD, ra1, ra2, cond_true, Bool.and_true, kd11]
          exact YR_some (FG_tr hf1 hf2 rfl rfl rfl) hF2
        · rw [z] at hb
          rw [b_X_least_37]
          simp (disch := first | assumption | omega) only [b_X_least_0, b_X_least_8, b_X_least_26, b_X_least_29, b_X_least_48, b_X_least_52, ↓Bool.cond_decide, ↓q_in, q_le, q_lt, q_eq, q_leT, q_leF, q_ltT, q_ltF, q_eqT, q_eqF, ↓reduceIte, not_true_eq_false, not_false_eq_true, true_and, and_true, and_self, false_and, and_false, Nat.zero_le, am_bd_some, q_app, q_app0, nI_add, pk_sub, pk_mul, q_dec, q_ix, q_m1, q_m1', ↓q_ret, q_bool, q_bool1, q_u2, q_u1, q_shl1, q_shr, q_and7, q_dg, fa_or, fa_and, decide_true, decide_false, Bool.or_false, Bool.or_true, Bool.true_or, Bool.false_or, cond_true, cond_false, ite_not, q_some, q_nn, q_xor, q_xorm, Bool.false_eq_true, decide_eq_true_eq, ne_eq, l_0, l_1, l_2, l_3, l_4, l_5, l_6, l_8, l_9, l_10, l_15, l_26, l_29, l_37, l_48, l_52, e2, hb, a1, a5, hk, fP, fS, fL, fE, fF, fB, fU, fV, fK, fW, fN, fO, fT, fD, ra1, ra2, cond_true, Bool.and_true, kd11]
          exact Go_in ⟨i2, l2, q2, rfl, rfl, FG_tr hf1 hf2 rfl rfl rfl, hF2⟩
      · obtain ⟨i1, l1, q1, e1, e2, hf1, hF1⟩ := hI
        subst e1; subst e2
        rw [b_X_least_37]
        simp (disch := first | assumption | omega) only [b_X_least_0, b_X_least_8, b_X_least_26, b_X_least_29, b_X_least_48, b_X_least_52, s_X_hasBit, s_X_hasBit', ↓Bool.cond_decide, ↓q_in, q_le, q_lt, q_eq, q_leT, q_leF, q_ltT, q_ltF, q_eqT, q_eqF, ↓reduceIte, not_true_eq_false, not_false_eq_true, true_and, and_true, and_self, false_and, and_false, Nat.zero_le, am_bd_some, q_app, q_app0, nI_add, pk_sub, pk_mul, q_dec, q_ix, q_m1, q_m1', ↓q_ret, q_bool, q_bool1, q_u2, q_u1, q_shl1, q_shr, q_and7, q_dg, fa_or, fa_and, decide_true, decide_false, Bool.or_false, Bool.or_true, Bool.true_or, Bool.false_or, cond_true, cond_false, ite_not, q_some, q_nn, q_xor, q_xorm, Bool.false_eq_true, decide_eq_true_eq, ne_eq, l_0, l_1, l_2, l_3, l_4, l_5, l_6, l_8, l_9, l_10, l_15, l_26, l_29, l_37, l_48, l_52, a1, a5, hk, fP, fS, fL, fE, fF, fB, fU, fV, fK, fW, fN, fO, fT, fD, ra1, ra2, cond_true, Bool.and_true, kd11]
        exact YR_some hf1 hF1
    | false =>
      simp (disch := first | assumption | omega) only [b_X_least_0, b_X_least_8, b_X_least_26, b_X_least_29, b_X_least_48, b_X_least_52, s_X_hasBit, s_X_hasBit', ↓Bool.cond_decide, ↓q_in, q_le, q_lt, q_eq, q_leT, q_leF, q_ltT, q_ltF, q_eqT, q_eqF, ↓reduceIte, not_true_eq_false, not_false_eq_true, true_and, and_true, and_self, false_and, and_false, Nat.zero_le, am_bd_some, q_app, q_app0, nI_add, pk_sub, pk_mul, q_dec, q_ix, q_m1, q_m1', ↓q_ret, q_bool, q_bool1, q_u2, q_u1, q_shl1, q_shr, q_and7, q_dg, fa_or, fa_and, decide_true, decide_false, Bool.or_false, Bool.or_true, Bool.true_or, Bool.false_or, cond_true, cond_false, ite_not, q_some, q_nn, q_xor, q_xorm, Bool.false_eq_true, decide_eq_true_eq, ne_eq, l_0, l_1, l_2, l_3, l_4, l_5, l_6, l_8, l_9, l_10, l_15, l_26, l_29, l_37, l_48, l_52, hx, hiS, hsp, a1, a5, hk, fP, fS, fL, fE, fF, fB, fU, fV, fK, fW, fN, fO, fT, fD, ra1, ra2, cond_true, Bool.and_true, kd11]
      exact YR_0 hF
  · simp (disch := first | assumption | omega) only [b_X_least_0, b_X_least_8, b_X_least_26, b_X_least_29, b_X_least_48, b_X_least_52, s_X_hasBit, s_X_hasBit', ↓Bool.cond_decide, ↓q_in, q_le, q_lt, q_eq, q_leT, q_leF, q_ltT, q_ltF, q_eqT, q_eqF, ↓reduceIte, not_true_eq_false, not_false_eq_true, true_and, and_true, and_self, false_and, and_false, Nat.zero_le, am_bd_some, q_app, q_app0, nI_add, pk_sub, pk_mul, q_dec, q_ix, q_m1, q_m1', ↓q_ret, q_bool, q_bool1, q_u2, q_u1, q_shl1, q_shr, q_and7, q_dg, fa_or, fa_and, decide_true, decide_false, Bool.or_false, Bool.or_true, Bool.true_or, Bool.false_or, cond_true, cond_false, ite_not, q_some, q_nn, q_xor, q_xorm, Bool.false_eq_true, decide_eq_true_eq, ne_eq, l_0, l_1, l_2, l_3, l_4, l_5, l_6, l_8, l_9, l_10, l_15, l_26, l_29, l_37, l_48, l_52, hx, a1, a5, hk, fP, fS, fL, fE, fF, fB, fU, fV, fK, fW, fN, fO, fT, fD, ra1, ra2, cond_true, Bool.and_true, kd11]
    exact YR_0 hF
theorem y_X_calm (d : Nat) (hC : CV ρ r g m i l q K) (hF : XF ρ i l q K) : YR ρ K i l q (some (.int (v_calm g))) (am_cl (d + 6) mX_calm [.ref 0] (i, l, rX q, kX K)) := by
  obtain ⟨a1, a2, hW, a4, a5, a6⟩ := id hC
  have a1 : rX q 0 2 = some r := a1
  obtain ⟨fP, fS, fL, fE, fF, fB, fU, fV, fK, fW, hk, ra, ra1, ra2, ra3⟩ := CV_f a2 hW
  obtain ⟨fN, fO, fT, fD⟩ := RM_f a6 hW
  have h1 : g 1 ≤ 6 := hW.1.2
  have h2 : g 2 ≤ 4 := hW.2.1
  have hR : ∀ p, p < 4 → g (10 + p) ≤ 4 := hW.2.2.2.1
  have hP : ∀ p, p < 4 → g (18 + p) < 8 := hW.2.2.2.2.2.1
  have hSt : ∀ p, p < 4 → g (22 + p) ≤ 9 := hW.2.2.2.2.2.2.1
  have hn := sNow_lt g hP 4 (by decide)
  have hvs : VS g (sNow g 4) := hW.2.2.2.2.2.2.2.2.2.2
  rw [c_X_calm, b_X_calm_0, v_calm]
  refine am_findD (d := d + 5) (y := mX_calm) (pc := 3) (fun k ls s => ∃ i1 l1 q1, ls = [.val (.ref 0), .val (.int (if k = 0 then -nI 1 else nI (k - 1)))] ∧ s = (i1, l1, rX q1, kX K) ∧ FG RF [11] [11] i i1 l l1 q q1 ∧ XF ρ i1 l1 q1 K) (fun w => decide (sBy g w = 0)) (fun o rs => YR ρ K i l q (some (.int (vW o))) rs) 10 (fun k ls s hk2 hI => ?_) (fun ls s hI => ?_) _ _ ⟨i, l, q, rfl, rfl, FG_refl _ _ _ _ _ _, hF⟩
  · obtain ⟨i1, l1, q1, e1, e2, hf1, hF1⟩ := hI
    subst e1; subst e2
    rw [if_neg (by omega), Nat.add_sub_cancel]
    obtain ⟨i2, l2, q2, e2, hf2, hF2⟩ := y_sweptNow d (w := k) (CV_ff hf1 hC) hF1 (by omega)
    have hbl := sBy_lt (g := g) (w := k) h2
    refine ⟨fun z => ?_, fun z => ?_⟩
    · have z := of_decide_eq_true z
      rw [z] at e2
      rw [b_X_calm_3]
      simp (disch := first | assumption | omega) only [b_X_calm_0, b_X_calm_12, b_X_calm_20, ↓Bool.cond_decide, ↓q_in, q_le, q_lt, q_eq, q_leT, q_leF, q_ltT, q_ltF, q_eqT, q_eqF, ↓reduceIte, not_true_eq_false, not_false_eq_true, true_and, and_true, and_self, false_and, and_false, Nat.zero_le, am_bd_some, q_app, q_app0, nI_add, pk_sub, pk_mul, q_dec, q_ix, q_m1, q_m1', ↓q_ret, q_bool, q_bool1, q_u2, q_u1, q_shl1, q_shr, q_and7, q_dg, fa_or, fa_and, decide_true, decide_false, Bool.or_false, Bool.or_true, Bool.true_or, Bool.false_or, cond_true, cond_false, ite_not, q_some, q_nn, q_xor, q_xorm, Bool.false_eq_true, decide_eq_true_eq, ne_eq, l_0, l_1, l_3, l_4, l_5, l_7, l_9, l_12, l_20, e2, a1, a5, hk, fP, fS, fL, fE, fF, fB, fU, fV, fK, fW, fN, fO, fT, fD, ra1, ra2, cond_true, Bool.and_true, kd11]
      exact YR_some (FG_tr hf1 hf2 rfl rfl rfl) hF2
    · have z := of_decide_eq_false z
      rw [b_X_calm_3]
      have e3 : nI k + (-1 : Int32) = if k = 0 then -nI 1 else nI (k - 1) := by
        by_cases c : k = 0
        · rw [if_pos c, c]; rfl
        · rw [if_neg c]; exact q_dec (by omega)
      rw [decide_eq_false (show ¬ nI k < (0 : Int32) from fun w => by
        have w : nI k < nI 0 := w
        rw [q_lt (by omega) (by omega)] at w; omega), cond_false, e2, am_bd_some, q_app, b_X_calm_12, decide_eq_true (show ¬ nI (sBy g k) = (0 : Int32) from fun w => by
        have w : nI (sBy g k) = nI 0 := w
        rw [q_eq (by omega) (by omega)] at w; exact z w), cond_true, e3, b_X_calm_20]
      exact Go_in ⟨i2, l2, q2, rfl, rfl, FG_tr hf1 hf2 rfl rfl rfl, hF2⟩
  · obtain ⟨i1, l1, q1, e1, e2, hf1, hF1⟩ := hI
    subst e1; subst e2
    rw [if_pos rfl, b_X_calm_3]
    rw [show decide (-nI 1 < (0 : Int32)) = true from rfl, cond_true]
    exact YR_some hf1 hF1
theorem y_allStrengths (d : Nat) (hC : CV ρ r g m i l q K) : am_cl (d + 2) mX_allStrengths [.ref 0] (i, l, rX q, kX K) = some (some (.int (nI (sSum (fun p => g (22 + p)) (g 2)))), (i, l, rX q, kX K)) := by
  obtain ⟨a1, a2, hW, a4, a5, a6⟩ := id hC
  have a1 : rX q 0 2 = some r := a1
  obtain ⟨fP, fS, fL, fE, fF, fB, fU, fV, fK, fW, hk, ra, ra1, ra2, ra3⟩ := CV_f a2 hW
  obtain ⟨fN, fO, fT, fD⟩ := RM_f a6 hW
  have h1 : g 1 ≤ 6 := hW.1.2
  have h2 : g 2 ≤ 4 := hW.2.1
  have hR : ∀ p, p < 4 → g (10 + p) ≤ 4 := hW.2.2.2.1
  have hP : ∀ p, p < 4 → g (18 + p) < 8 := hW.2.2.2.2.2.1
  have hSt : ∀ p, p < 4 → g (22 + p) ≤ 9 := hW.2.2.2.2.2.2.1
  have hn := sNow_lt g hP 4 (by decide)
  have hvs : VS g (sNow g 4) := hW.2.2.2.2.2.2.2.2.2.2
  have hr1 := a2.2.2.2.1
  have hr1 : i r 1 = nI (g 2) := hr1
  rw [c_X_allStrengths, b_X_allStrengths_0]
  refine am_loop (d := d + 1) (y := mX_allStrengths) (pc := 4) (fun k ls s => ls = [.val (.ref 0), .val (.int (nI (sSum (fun p => g (22 + p)) k))), .val (.int (nI k))] ∧ s = (i, l, rX q, kX K)) (g 2) (fun rs => rs = some (some (.int (nI (sSum (fun p => g (22 + p)) (g 2)))), (i, l, rX q, kX K))) (fun k ls s hk2 hI => ?_) (fun ls s hI => ?_) ⟨rfl, rfl⟩
  · obtain ⟨e1, e2⟩ := hI
    subst e1; subst e2
    rw [b_X_allStrengths_4]
    simp (disch := first | assumption | omega) only [b_X_allStrengths_0, b_X_allStrengths_24, ↓Bool.cond_decide, ↓q_in, q_le, q_lt, q_eq, q_leT, q_leF, q_ltT, q_ltF, q_eqT, q_eqF, ↓reduceIte, not_true_eq_false, not_false_eq_true, true_and, and_true, and_self, false_and, and_false, Nat.zero_le, am_bd_some, q_app, q_app0, nI_add, pk_sub, pk_mul, q_dec, q_ix, q_m1, q_m1', ↓q_ret, q_bool, q_bool1, q_u2, q_u1, q_shl1, q_shr, q_and7, q_dg, fa_or, fa_and, decide_true, decide_false, Bool.or_false, Bool.or_true, Bool.true_or, Bool.false_or, cond_true, cond_false, ite_not, q_some, q_nn, q_xor, q_xorm, Bool.false_eq_true, decide_eq_true_eq, ne_eq, l_0, l_1, l_2, l_3, l_4, l_6, l_7, l_15, l_24, hr1, a1, a5, hk, fP, fS, fL, fE, fF, fB, fU, fV, fK, fW, fN, fO, fT, fD, ra1, ra2, cond_true, Bool.and_true, kd11]
    exact Go_in ⟨rfl, rfl⟩
  · obtain ⟨e1, e2⟩ := hI
    subst e1; subst e2
    rw [b_X_allStrengths_4]
    simp (disch := first | assumption | omega) only [b_X_allStrengths_0, b_X_allStrengths_24, ↓Bool.cond_decide, ↓q_in, q_le, q_lt, q_eq, q_leT, q_leF, q_ltT, q_ltF, q_eqT, q_eqF, ↓reduceIte, not_true_eq_false, not_false_eq_true, true_and, and_true, and_self, false_and, and_false, Nat.zero_le, am_bd_some, q_app, q_app0, nI_add, pk_sub, pk_mul, q_dec, q_ix, q_m1, q_m1', ↓q_ret, q_bool, q_bool1, q_u2, q_u1, q_shl1, q_shr, q_and7, q_dg, fa_or, fa_and, decide_true, decide_false, Bool.or_false, Bool.or_true, Bool.true_or, Bool.false_or, cond_true, cond_false, ite_not, q_some, q_nn, q_xor, q_xorm, Bool.false_eq_true, decide_eq_true_eq, ne_eq, l_0, l_1, l_2, l_3, l_4, l_6, l_7, l_15, l_24, hr1, a1, a5, hk, fP, fS, fL, fE, fF, fB, fU, fV, fK, fW, fN, fO, fT, fD, ra1, ra2, cond_true, Bool.and_true, kd11]
end
