/-! THE CLASS: deeds -/
/-- the river told, and some moment -/
def CW (ρ : Nat → Nat → Nat) (r : Nat) (g : Nat → Nat) (m : Nat) (i : Nat → Nat → Int32) (l : Nat → Nat → Int64) (q : Nat → Nat → Option Nat) (K : List (Nat × Nat)) : Prop := q 0 2 = some r ∧ RV (i, l, rX q, kX K) r g ∧ WG g ∧ gE (ρ r) g ∧ RM m (gCur g)
theorem x_l2i (a : Nat) : Int64.toInt32 (lN a) = nI a := by
  apply Int32.toBitVec_inj.mp
  apply BitVec.eq_of_toNat_eq
  rw [x_32]
  show _ = (BitVec.ofNat 32 a).toNat
  rw [BitVec.toNat_ofNat]
theorem gE_do {g : Nat → Nat} {n : Nat} (hW : WG g) (h0 : dWhy g n = 0) : gE g (dDo g n) := fun j _ hj => dDo_out hW h0 (by omega)
theorem x_fl {m b : Nat} (hb : b < 4096) : (lN m &&& (-4096 : Int64)) ||| Int32.toInt64 (nI b) = lN (wb m 0 12 b) := by
  rw [nI_l (by omega)]
  apply x_ext
  intro j hj
  have e1 : (-4096 : Int64).toBitVec.getLsbD j = decide (12 ≤ j) := by
    have : ∀ j, j < 64 → (-4096 : Int64).toBitVec.getLsbD j = decide (12 ≤ j) := by decide
    exact this j hj
  rw [x_bit hj, wb_bit (k := 12) hb, Int64.toBitVec_or, Int64.toBitVec_and, BitVec.getLsbD_or, BitVec.getLsbD_and, e1, x_bit hj, x_bit hj]
  by_cases c : 12 ≤ j
  · rw [decide_eq_true c, if_neg (by omega), tb_lt (n := 12) hb c]; simp
  · rw [decide_eq_false c, if_pos (by omega)]; simp
theorem RM_stand {m b : Nat} {g : Nat → Nat} (h : RM m (gCur g)) (hb : b < 4096) : RM (wb m 0 12 b) (gCur (gStand g b)) := by
  obtain ⟨h0, h1, h2, h3⟩ := h
  refine ⟨wb_lt (n := 52) (k := 12) hb h0 (by omega), fun p hp => ?_, fun p hp => ?_, fun t ht => ?_⟩
  · unfold gCur gStand
    rw [if_pos (by omega), show 18 + p - 18 = p by omega, dg_fld, dg_fld]
    apply Nat.eq_of_testBit_eq
    intro j
    rw [fld_bit, fld_bit, wb_bit (k := 12) hb]
    by_cases c : j < 3
    · rw [if_pos (by omega)]; rfl
    · rw [decide_eq_false c]; rfl
  · unfold gCur gStand
    rw [if_neg (by omega), stm_fld, fld_off (k := 12) hb (by omega)]
    exact h2 p hp
  · unfold gCur gStand
    rw [if_neg (by omega), dpm_fld, fld_off (k := 12) hb (by omega)]
    exact h3 t ht
section
variable {i i' : Nat → Nat → Int32} {l l' : Nat → Nat → Int64} {q q' : Nat → Nat → Option Nat} {K : List (Nat × Nat)} {r m : Nat} {g : Nat → Nat} {ρ : Nat → Nat → Nat}
theorem CW_of {g2 : Nat → Nat} {m2 : Nat} (hC : CV ρ r g m i l q K) (he : gE g g2) (hW2 : WG g2) (hM2 : RM m2 (gCur g2)) : CW ρ r g2 m2 i l q K :=
  ⟨hC.1, RV_E hC.2.1 he hC.2.2.1.2.2.2.2.2.2.2.2.1 hC.2.2.1.2.2.2.2.2.2.2.2.2.1, hW2, gE_tr hC.2.2.2.1 he, hM2⟩
theorem CW_ff (h : FG RF [11] [11] i i' l l' q q') (hC : CW ρ r g m i l q K) : CW ρ r g m i' l' q' K := by
  obtain ⟨a1, a2, a3, a4, a6⟩ := hC
  exact ⟨by rw [h.2.2 0 rfl]; exact a1, RV_fg h rfl rfl a2, a3, a4, a6⟩
theorem CW_do {n m2 : Nat} (hC : CW ρ r g m i l q K) (h0 : dWhy g n = 0) (hM2 : RM m2 (gCur (dDo g n))) : CW ρ r (dDo g n) m2 i l q K := by
  obtain ⟨a1, a2, a3, a4, a6⟩ := hC
  exact ⟨a1, RV_E a2 (gE_do a3 h0) a3.2.2.2.2.2.2.2.2.1 a3.2.2.2.2.2.2.2.2.2.1, WG_do a3 h0, gE_tr a4 (gE_do a3 h0), hM2⟩
theorem XF_ofW (hC : CW ρ r g m i l q K) (hA : FA r g m i l q) : XF ρ i l q K :=
  ⟨r, m, g, hA, hC.2.1.2.1, hC.2.2.2.1, hC.2.2.1.2.2.2.2.2.2.2.2.1, hC.2.2.1.2.2.2.2.2.2.2.2.2.1⟩
theorem y_fordW (d : Nat) (hC : CW ρ r g m i l q K) (hF : XF ρ i l q K) : ∃ i' l' q', am_cl (d + 3) mX_fordAt [.ref 0, .long (lN m)] (i, l, rX q, kX K) = some (some (.ref 11), (i', l', rX q', kX K)) ∧ FG RF [11] [11] i i' l l' q q' ∧ FA r g m i' l' q' := by
  obtain ⟨rf, mf, gf, ⟨f1, f2, f3, f4, f5⟩, f6, f7, f8, f9⟩ := hF
  obtain ⟨a1, a2, a3, a4, a6⟩ := hC
  obtain ⟨i', e, hf, hT, hH⟩ := r_Ford_attune (g := g) (gf := gf) (r := r) (rf := rf) d (by rw [a2.2.1]; rfl) (by rw [f6]; rfl) f1 f2 a6 f3 f8 f9 (fun z => by rw [z] at f7; exact gE_tr (gE_sy f7) a4) f4 f5
  have a1' : rX q 0 2 = some r := a1
  rw [c_X_fordAt, b_X_fordAt_0, a1']
  dsimp only
  rw [e, am_bd_some, q_app0, b_X_fordAt_12]
  refine ⟨_, _, _, rfl, ⟨Fr_step hf rfl (Fr_refl _ _), fun c hc => ?_, fun c hc => ?_⟩, ⟨rfl, rfl, a6, hT, hH⟩⟩
  · funext k
    have : c ≠ 11 := fun z => by rw [z] at hc; cases hc
    unfold am_u2
    rw [if_neg this]
  · funext k
    have : c ≠ 11 := fun z => by rw [z] at hc; cases hc
    unfold am_u2
    rw [if_neg this]
theorem y_whyNotGo (d : Nat) (x y : Int32) (hC : CW ρ r g m i l q K) (hF : XF ρ i l q K) : YR ρ K i l q (some (.int (nI (sWhy g x y)))) (am_cl (d + 6) mX_whyNotGo [.ref 0, .long (lN m), .int x, .int y] (i, l, rX q, kX K)) := by
  obtain ⟨a1, a2, hW, a4, a6⟩ := id hC
  have a1 : rX q 0 2 = some r := a1
  obtain ⟨fP, fS, fL, fE, fF, fB, fU, fV, fK, fW, hk, ra, ra1, ra2, ra3⟩ := CV_f a2 hW
  obtain ⟨fN, fO, fT, fD⟩ := RM_f a6 hW
  have h1 : g 1 ≤ 6 := hW.1.2
  have h2 : g 2 ≤ 4 := hW.2.1
  have hR : ∀ p, p < 4 → g (10 + p) ≤ 4 := hW.2.2.2.1
  have hP : ∀ p, p < 4 → g (18 + p) < 8 := hW.2.2.2.2.2.1
  have hSt : ∀ p, p < 4 → g (22 + p) ≤ 9 := hW.2.2.2.2.2.2.1
  have hn := sNow_lt g hP 4 (by decide)
  have hvs : VS g (sNow g 4) := hW.2.2.2.2.2.2.2.2.2.2
  rw [c_X_whyNotGo, b_X_whyNotGo_0, sWhy]
  by_cases hx : iB x (g 2) = true
  · by_cases hy : iB y (g 1 + 2) = true
    · have hx' := hx
      obtain ⟨p, hp, rfl⟩ := iB_T hx'
      have hp4 : p < 4 := by omega
      have hp8 := hP p hp4
      have hy' := hy
      obtain ⟨y, hy2, rfl⟩ := iB_T hy'
      have hR4 := hR p hp4
      have hiS := iS_nI (g := g) (p := y) (by omega)
      by_cases he : g (18 + p) = y
      · simp (disch := first | assumption | omega) only [b_X_whyNotGo_0, b_X_whyNotGo_8, b_X_whyNotGo_20, b_X_whyNotGo_23, b_X_whyNotGo_29, b_X_whyNotGo_36, b_X_whyNotGo_50, b_X_whyNotGo_64, b_X_whyNotGo_68, b_X_whyNotGo_70, b_X_whyNotGo_75, b_X_whyNotGo_92, b_X_whyNotGo_101, b_X_whyNotGo_109, s_X_hasBit, s_X_hasBit', ↓Bool.cond_decide, ↓q_in, q_le, q_lt, q_eq, q_leT, q_leF, q_ltT, q_ltF, q_eqT, q_eqF, ↓reduceIte, not_true_eq_false, not_false_eq_true, true_and, and_true, and_self, false_and, and_false, Nat.zero_le, am_bd_some, q_app, q_app0, nI_add, pk_sub, pk_mul, q_dec, q_ix, q_m1, q_m1', ↓q_ret, q_bool, q_bool1, q_u2, q_u1, q_shl1, q_shr, q_and7, q_dg, fa_or, fa_and, decide_true, decide_false, Bool.or_false, Bool.or_true, Bool.true_or, Bool.false_or, cond_true, cond_false, ite_not, q_some, q_nn, q_xor, q_xorm, Bool.false_eq_true, decide_eq_true_eq, ne_eq, l_0, l_1, l_2, l_3, l_4, l_5, l_6, l_8, l_10, l_11, l_12, l_14, l_20, l_23, l_29, l_36, l_50, l_64, l_68, l_70, l_75, l_92, l_100, l_101, l_109, hx, hy, he, true_or, a1, hk, fP, fS, fL, fE, fF, fB, fU, fV, fK, fW, fN, fO, fT, fD, ra1, ra2, cond_true, Bool.and_true, kd11]
        exact YR_0 hF
      · have go : ∀ z6, sWho g (sNow g 4) y = none → YR ρ K i l q (some (.int (nI (if (sGo g (sNow g 4) p (g (10 + p))).testBit y = true then 0 else 3)))) (am_Ex (d + 5) mX_whyNotGo 70 [.val (.ref 0), .val (.long (lN m)), .second, .val (.int (nI p)), .val (.int (nI y)), .val (.int (nI (sNow g 4))), z6] [] (i, l, rX q, kX K)) := by
          intro z6 hw
          obtain ⟨i1, l1, q1, e1, hf1, hA1⟩ := y_fordW (d + 2) hC hF
          rw [b_X_whyNotGo_70, e1, am_bd_some, q_app]
          obtain ⟨a1, a2, _, a4, _⟩ := CW_ff hf1 hC
          have a1 : rX q1 0 2 = some r := a1
          obtain ⟨fP, fS, fL, fE, fF, fB, fU, fV, fK, fW, hk, ra, ra1, ra2, ra3⟩ := CV_f a2 hW
          have e5 := ra3 p hp4
          obtain ⟨i2, e2, hf2, hA2⟩ := y_spread (d + 1) a2 hW hA1 hp hn (show g (10 + p) ≤ 9 by omega) (show 8 ≤ 8 by decide) hvs
          rw [sEn8] at e2
          have hff := FG_i hf1 hf2 rfl
          have hb := s_X_hasBit' (d + 4) (a := sGo g (sNow g 4) p (g (10 + p))) (k := y) (by have := sGo_lt (g := g) (a := sNow g 4) (p := p) (r := g (10 + p)) h1; omega) (by omega) (i2, l1, rX q1, kX K)
          have done : ∀ v, YR ρ K i l q v (some (v, (i2, l1, rX q1, kX K))) := fun v => YR_some hff (XF_ofW (CW_ff hff hC) hA2)
          rw [b_X_whyNotGo_75]
          cases ht : (sGo g (sNow g 4) p (g (10 + p))).testBit y with
          | true =>
            rw [ht] at hb
            simp (disch := first | assumption | omega) only [b_X_whyNotGo_0, b_X_whyNotGo_8, b_X_whyNotGo_20, b_X_whyNotGo_23, b_X_whyNotGo_29, b_X_whyNotGo_36, b_X_whyNotGo_50, b_X_whyNotGo_64, b_X_whyNotGo_68, b_X_whyNotGo_70, b_X_whyNotGo_75, b_X_whyNotGo_92, b_X_whyNotGo_101, b_X_whyNotGo_109, ↓Bool.cond_decide, ↓q_in, q_le, q_lt, q_eq, q_leT, q_leF, q_ltT, q_ltF, q_eqT, q_eqF, ↓reduceIte, not_true_eq_false, not_false_eq_true, true_and, and_true, and_self, false_and, and_false, Nat.zero_le, am_bd_some, q_app, q_app0, nI_add, pk_sub, pk_mul, q_dec, q_ix, q_m1, q_m1', ↓q_ret, q_bool, q_bool1, q_u2, q_u1, q_shl1, q_shr, q_and7, q_dg, fa_or, fa_and, decide_true, decide_false, Bool.or_false, Bool.or_true, Bool.true_or, Bool.false_or, cond_true, cond_false, ite_not, q_some, q_nn, q_xor, q_xorm, Bool.false_eq_true, decide_eq_true_eq, ne_eq, l_0, l_1, l_2, l_3, l_4, l_5, l_6, l_8, l_10, l_11, l_12, l_14, l_20, l_23, l_29, l_36, l_50, l_64, l_68, l_70, l_75, l_92, l_100, l_101, l_109, e5, e2, hb, a1, hk, fP, fS, fL, fE, fF, fB, fU, fV, fK, fW, fN, fO, fT, fD, ra1, ra2, cond_true, Bool.and_true, kd11]
            exact done _
          | false =>
            rw [ht] at hb
            simp (disch := first | assumption | omega) only [b_X_whyNotGo_0, b_X_whyNotGo_8, b_X_whyNotGo_20, b_X_whyNotGo_23, b_X_whyNotGo_29, b_X_whyNotGo_36, b_X_whyNotGo_50, b_X_whyNotGo_64, b_X_whyNotGo_68, b_X_whyNotGo_70, b_X_whyNotGo_75, b_X_whyNotGo_92, b_X_whyNotGo_101, b_X_whyNotGo_109, ↓Bool.cond_decide, ↓q_in, q_le, q_lt, q_eq, q_leT, q_leF, q_ltT, q_ltF, q_eqT, q_eqF, ↓reduceIte, not_true_eq_false, not_false_eq_true, true_and, and_true, and_self, false_and, and_false, Nat.zero_le, am_bd_some, q_app, q_app0, nI_add, pk_sub, pk_mul, q_dec, q_ix, q_m1, q_m1', ↓q_ret, q_bool, q_bool1, q_u2, q_u1, q_shl1, q_shr, q_and7, q_dg, fa_or, fa_and, decide_true, decide_false, Bool.or_false, Bool.or_true, Bool.true_or, Bool.false_or, cond_true, cond_false, ite_not, q_some, q_nn, q_xor, q_xorm, Bool.false_eq_true, decide_eq_true_eq, ne_eq, l_0, l_1, l_2, l_3, l_4, l_5, l_6, l_8, l_10, l_11, l_12, l_14, l_20, l_23, l_29, l_36, l_50, l_64, l_68, l_70, l_75, l_92, l_100, l_101, l_109, e5, e2, hb, a1, hk, fP, fS, fL, fE, fF, fB, fU, fV, fK, fW, fN, fO, fT, fD, ra1, ra2, cond_true, Bool.and_true, kd11]
            exact done _
        cases hs : sSpot g y with
        | false =>
          have hw := sWho_nb (g := g) (a := sNow g 4) hs
          simp (disch := first | assumption | omega) only [b_X_whyNotGo_0, b_X_whyNotGo_8, b_X_whyNotGo_20, b_X_whyNotGo_23, b_X_whyNotGo_29, b_X_whyNotGo_36, b_X_whyNotGo_50, b_X_whyNotGo_64, b_X_whyNotGo_68, b_X_whyNotGo_75, b_X_whyNotGo_92, b_X_whyNotGo_101, b_X_whyNotGo_109, s_X_hasBit, s_X_hasBit', ↓Bool.cond_decide, ↓q_in, q_le, q_lt, q_eq, q_leT, q_leF, q_ltT, q_ltF, q_eqT, q_eqF, ↓reduceIte, not_true_eq_false, not_false_eq_true, true_and, and_true, and_self, false_and, and_false, Nat.zero_le, am_bd_some, q_app, q_app0, nI_add, pk_sub, pk_mul, q_dec, q_ix, q_m1, q_m1', ↓q_ret, q_bool, q_bool1, q_u2, q_u1, q_shl1, q_shr, q_and7, q_dg, fa_or, fa_and, decide_true, decide_false, Bool.or_false, Bool.or_true, Bool.true_or, Bool.false_or, cond_true, cond_false, ite_not, q_some, q_nn, q_xor, q_xorm, Bool.false_eq_true, decide_eq_true_eq, ne_eq, l_0, l_1, l_2, l_3, l_4, l_5, l_6, l_8, l_10, l_11, l_12, l_14, l_20, l_23, l_29, l_36, l_50, l_64, l_68, l_70, l_75, l_92, l_100, l_101, l_109, hx, hy, he, hiS, hs, hw, not_true, or_false, false_or, a1, hk, fP, fS, fL, fE, fF, fB, fU, fV, fK, fW, fN, fO, fT, fD, ra1, ra2, cond_true, Bool.and_true, kd11]
          exact go _ hw
        | true =>
          cases hw : sWho g (sNow g 4) y with
          | none =>
            simp (disch := first | assumption | omega) only [b_X_whyNotGo_0, b_X_whyNotGo_8, b_X_whyNotGo_20, b_X_whyNotGo_23, b_X_whyNotGo_29, b_X_whyNotGo_36, b_X_whyNotGo_50, b_X_whyNotGo_64, b_X_whyNotGo_68, b_X_whyNotGo_75, b_X_whyNotGo_92, b_X_whyNotGo_101, b_X_whyNotGo_109, s_X_hasBit, s_X_hasBit', ↓Bool.cond_decide, ↓q_in, q_le, q_lt, q_eq, q_leT, q_leF, q_ltT, q_ltF, q_eqT, q_eqF, ↓reduceIte, not_true_eq_false, not_false_eq_true, true_and, and_true, and_self, false_and, and_false, Nat.zero_le, am_bd_some, q_app, q_app0, nI_add, pk_sub, pk_mul, q_dec, q_ix, q_m1, q_m1', ↓q_ret, q_bool, q_bool1, q_u2, q_u1, q_shl1, q_shr, q_and7, q_dg, fa_or, fa_and, decide_true, decide_false, Bool.or_false, Bool.or_true, Bool.true_or, Bool.false_or, cond_true, cond_false, ite_not, q_some, q_nn, q_xor, q_xorm, Bool.false_eq_true, decide_eq_true_eq, ne_eq, l_0, l_1, l_2, l_3, l_4, l_5, l_6, l_8, l_10, l_11, l_12, l_14, l_20, l_23, l_29, l_36, l_50, l_64, l_68, l_70, l_75, l_92, l_100, l_101, l_109, hx, hy, he, hiS, hs, hw, q_vW0, not_true, or_false, false_or, a1, hk, fP, fS, fL, fE, fF, fB, fU, fV, fK, fW, fN, fO, fT, fD, ra1, ra2, cond_true, Bool.and_true, kd11]
            exact go _ hw
          | some k =>
            have hk2 := (sWho_some hw).1
            simp (disch := first | assumption | omega) only [b_X_whyNotGo_0, b_X_whyNotGo_8, b_X_whyNotGo_20, b_X_whyNotGo_23, b_X_whyNotGo_29, b_X_whyNotGo_36, b_X_whyNotGo_50, b_X_whyNotGo_64, b_X_whyNotGo_68, b_X_whyNotGo_75, b_X_whyNotGo_92, b_X_whyNotGo_101, b_X_whyNotGo_109, s_X_hasBit, s_X_hasBit', ↓Bool.cond_decide, ↓q_in, q_le, q_lt, q_eq, q_leT, q_leF, q_ltT, q_ltF, q_eqT, q_eqF, ↓reduceIte, not_true_eq_false, not_false_eq_true, true_and, and_true, and_self, false_and, and_false, Nat.zero_le, am_bd_some, q_app, q_app0, nI_add, pk_sub, pk_mul, q_dec, q_ix, q_m1, q_m1', ↓q_ret, q_bool, q_bool1, q_u2, q_u1, q_shl1, q_shr, q_and7, q_dg, fa_or, fa_and, decide_true, decide_false, Bool.or_false, Bool.or_true, Bool.true_or, Bool.false_or, cond_true, cond_false, ite_not, q_some, q_nn, q_xor, q_xorm, Bool.false_eq_true, decide_eq_true_eq, ne_eq, l_0, l_1, l_2, l_3, l_4, l_5, l_6, l_8, l_10, l_11, l_12, l_14, l_20, l_23, l_29, l_36, l_50, l_64, l_68, l_70, l_75, l_92, l_100, l_101, l_109, hx, hy, he, hiS, hs, hw, q_vW1, reduceCtorEq, or_true, a1, hk, fP, fS, fL, fE, fF, fB, fU, fV, fK, fW, fN, fO, fT, fD, ra1, ra2, cond_true, Bool.and_true, kd11]
            exact YR_0 hF
    · simp (disch := first | assumption | omega) only [b_X_whyNotGo_0, b_X_whyNotGo_8, b_X_whyNotGo_20, b_X_whyNotGo_23, b_X_whyNotGo_29, b_X_whyNotGo_36, b_X_whyNotGo_50, b_X_whyNotGo_64, b_X_whyNotGo_68, b_X_whyNotGo_70, b_X_whyNotGo_75, b_X_whyNotGo_92, b_X_whyNotGo_101, b_X_whyNotGo_109, s_X_hasBit, s_X_hasBit', ↓Bool.cond_decide, ↓q_in, q_le, q_lt, q_eq, q_leT, q_leF, q_ltT, q_ltF, q_eqT, q_eqF, ↓reduceIte, not_true_eq_false, not_false_eq_true, true_and, and_true, and_self, false_and, and_false, Nat.zero_le, am_bd_some, q_app, q_app0, nI_add, pk_sub, pk_mul, q_dec, q_ix, q_m1, q_m1', ↓q_ret, q_bool, q_bool1, q_u2, q_u1, q_shl1, q_shr, q_and7, q_dg, fa_or, fa_and, decide_true, decide_false, Bool.or_false, Bool.or_true, Bool.true_or, Bool.false_or, cond_true, cond_false, ite_not, q_some, q_nn, q_xor, q_xorm, Bool.false_eq_true, decide_eq_true_eq, ne_eq, l_0, l_1, l_2, l_3, l_4, l_5, l_6, l_8, l_10, l_11, l_12, l_14, l_20, l_23, l_29, l_36, l_50, l_64, l_68, l_70, l_75, l_92, l_100, l_101, l_109, hx, hy, a1, hk, fP, fS, fL, fE, fF, fB, fU, fV, fK, fW, fN, fO, fT, fD, ra1, ra2, cond_true, Bool.and_true, kd11]
      exact YR_0 hF
  · simp (disch := first | assumption | omega) only [b_X_whyNotGo_0, b_X_whyNotGo_8, b_X_whyNotGo_20, b_X_whyNotGo_23, b_X_whyNotGo_29, b_X_whyNotGo_36, b_X_whyNotGo_50, b_X_whyNotGo_64, b_X_whyNotGo_68, b_X_whyNotGo_70, b_X_whyNotGo_75, b_X_whyNotGo_92, b_X_whyNotGo_101, b_X_whyNotGo_109, s_X_hasBit, s_X_hasBit', ↓Bool.cond_decide, ↓q_in, q_le, q_lt, q_eq, q_leT, q_leF, q_ltT, q_ltF, q_eqT, q_eqF, ↓reduceIte, not_true_eq_false, not_false_eq_true, true_and, and_true, and_self, false_and, and_false, Nat.zero_le, am_bd_some, q_app, q_app0, nI_add, pk_sub, pk_mul, q_dec, q_ix, q_m1, q_m1', ↓q_ret, q_bool, q_bool1, q_u2, q_u1, q_shl1, q_shr, q_and7, q_dg, fa_or, fa_and, decide_true, decide_false, Bool.or_false, Bool.or_true, Bool.true_or, Bool.false_or, cond_true, cond_false, ite_not, q_some, q_nn, q_xor, q_xorm, Bool.false_eq_true, decide_eq_true_eq, ne_eq, l_0, l_1, l_2, l_3, l_4, l_5, l_6, l_8, l_10, l_11, l_12, l_14, l_20, l_23, l_29, l_36, l_50, l_64, l_68, l_70, l_75, l_92, l_100, l_101, l_109, hx, a1, hk, fP, fS, fL, fE, fF, fB, fU, fV, fK, fW, fN, fO, fT, fD, ra1, ra2, cond_true, Bool.and_true, kd11]
    exact YR_0 hF
theorem y_whyNot (d : Nat) (v : Int64) (hC : CW ρ r g m i l q K) (hF : XF ρ i l q K) : YR ρ K i l q (some (.int (nI (lWhy g v)))) (am_cl (d + 7) mX_whyNot [.ref 0, .long (lN m), .long v] (i, l, rX q, kX K)) := by
  obtain ⟨a1, a2, hW, a4, a6⟩ := id hC
  have a1 : rX q 0 2 = some r := a1
  obtain ⟨fP, fS, fL, fE, fF, fB, fU, fV, fK, fW, hk, ra, ra1, ra2, ra3⟩ := CV_f a2 hW
  obtain ⟨fN, fO, fT, fD⟩ := RM_f a6 hW
  have h1 : g 1 ≤ 6 := hW.1.2
  have h2 : g 2 ≤ 4 := hW.2.1
  have hR : ∀ p, p < 4 → g (10 + p) ≤ 4 := hW.2.2.2.1
  have hP : ∀ p, p < 4 → g (18 + p) < 8 := hW.2.2.2.2.2.1
  have hSt : ∀ p, p < 4 → g (22 + p) ≤ 9 := hW.2.2.2.2.2.2.1
  have hn := sNow_lt g hP 4 (by decide)
  have hvs : VS g (sNow g 4) := hW.2.2.2.2.2.2.2.2.2.2
  rw [c_X_whyNot, b_X_whyNot_0]
  by_cases hv : 0 ≤ v.toInt ∧ v.toInt < 400
  · obtain ⟨n, hn4, rfl⟩ : ∃ n, n < 400 ∧ v = lN n := by
      refine ⟨v.toInt.toNat, by omega, ?_⟩
      rw [fa_eq64, pk_lT (by omega)]
      omega
    rw [lWhy_n hn4]
    have c1 : decide (lg_cmp (lN n) 0 < 0) = false := by
      apply decide_eq_false
      rw [k_cmp_lt, fa_lt64, pk_lT (by omega)]
      show ¬ (_ < (0 : Int))
      omega
    have c2 : decide (lg_cmp (lN n) 399 ≤ 0) = true := by
      apply decide_eq_true
      show lg_cmp (lN n) 399 ≤ nI 0
      rw [q_cle, fa_lt64, pk_lT (by omega)]
      show ¬ ((399 : Int) < _)
      omega
    have e100 : nI n / (100 : Int32) = nI (n / 100) := pk_div (d := 100) (by omega) (by decide) (by decide)
    have e10 : nI n / (10 : Int32) = nI (n / 10) := pk_div (d := 10) (by omega) (by decide) (by decide)
    have r100 : nI n - nI (n / 100) * (100 : Int32) = nI (n % 100) := by rw [← e100]; exact pk_rem (d := 100) (by omega) (by decide) (by decide)
    have r10 : nI n - nI (n / 10) * (10 : Int32) = nI (n % 10) := by rw [← e10]; exact pk_rem (d := 10) (by omega) (by decide) (by decide)
    have e101 : nI (n % 100) / (10 : Int32) = nI (n % 100 / 10) := pk_div (d := 10) (by omega) (by decide) (by decide)
    rw [c1, c2, cond_false, cond_true]
    simp only [x_l2i, e100, e10, r100, r10, e101]
    unfold dWhy
    rcases (show n / 100 = 0 ∨ n / 100 = 1 ∨ n / 100 = 2 ∨ n / 100 = 3 by omega) with h | h | h | h
    · have e : n % 100 / 10 = n / 10 := by omega
      obtain ⟨i1, l1, q1, e1, hf1, hF1⟩ := y_whyNotGo d (nI (n / 10)) (nI (n % 10)) hC hF
      rw [if_pos (show n < 100 by omega), h, e]
      simp (disch := first | assumption | omega) only [b_X_whyNot_0, b_X_whyNot_14, b_X_whyNot_73, b_X_whyNot_84, b_X_whyNot_98, b_X_whyNot_112, b_X_whyNot_114, b_X_whyNot_124, ↓Bool.cond_decide, ↓q_in, q_le, q_lt, q_eq, q_leT, q_leF, q_ltT, q_ltF, q_eqT, q_eqF, ↓reduceIte, not_true_eq_false, not_false_eq_true, true_and, and_true, and_self, false_and, and_false, Nat.zero_le, am_bd_some, q_app, q_app0, nI_add, pk_sub, pk_mul, q_dec, q_ix, q_m1, q_m1', ↓q_ret, q_bool, q_bool1, q_u2, q_u1, q_shl1, q_shr, q_and7, q_dg, fa_or, fa_and, decide_true, decide_false, Bool.or_false, Bool.or_true, Bool.true_or, Bool.false_or, cond_true, cond_false, ite_not, q_some, q_nn, q_xor, q_xorm, Bool.false_eq_true, decide_eq_true_eq, ne_eq, l_0, l_1, l_2, l_3, l_4, l_5, l_6, l_9, l_10, l_14, l_53, l_73, l_84, l_98, l_100, l_112, l_114, l_124, l_399, e1, a1, hk, fP, fS, fL, fE, fF, fB, fU, fV, fK, fW, fN, fO, fT, fD, ra1, ra2, cond_true, Bool.and_true, kd11]
      exact YR_some hf1 hF1
    · rw [if_neg (show ¬ n < 100 by omega), h]
      by_cases c : n % 100 / 10 = 0
      · rw [if_pos (show n < 110 by omega), c]
        simp (disch := first | assumption | omega) only [b_X_whyNot_0, b_X_whyNot_14, b_X_whyNot_73, b_X_whyNot_84, b_X_whyNot_98, b_X_whyNot_112, b_X_whyNot_114, b_X_whyNot_124, ↓Bool.cond_decide, ↓q_in, q_le, q_lt, q_eq, q_leT, q_leF, q_ltT, q_ltF, q_eqT, q_eqF, ↓reduceIte, not_true_eq_false, not_false_eq_true, true_and, and_true, and_self, false_and, and_false, Nat.zero_le, am_bd_some, q_app, q_app0, nI_add, pk_sub, pk_mul, q_dec, q_ix, q_m1, q_m1', ↓q_ret, q_bool, q_bool1, q_u2, q_u1, q_shl1, q_shr, q_and7, q_dg, fa_or, fa_and, decide_true, decide_false, Bool.or_false, Bool.or_true, Bool.true_or, Bool.false_or, cond_true, cond_false, ite_not, q_some, q_nn, q_xor, q_xorm, Bool.false_eq_true, decide_eq_true_eq, ne_eq, l_0, l_1, l_2, l_3, l_4, l_5, l_6, l_9, l_10, l_14, l_53, l_73, l_84, l_98, l_100, l_112, l_114, l_124, l_399, a1, hk, fP, fS, fL, fE, fF, fB, fU, fV, fK, fW, fN, fO, fT, fD, ra1, ra2, cond_true, Bool.and_true, kd11]
        exact YR_0 hF
      · rw [if_neg (show ¬ n < 110 by omega), if_pos (show n < 200 by omega)]
        simp (disch := first | assumption | omega) only [b_X_whyNot_0, b_X_whyNot_14, b_X_whyNot_73, b_X_whyNot_84, b_X_whyNot_98, b_X_whyNot_112, b_X_whyNot_114, b_X_whyNot_124, ↓Bool.cond_decide, ↓q_in, q_le, q_lt, q_eq, q_leT, q_leF, q_ltT, q_ltF, q_eqT, q_eqF, ↓reduceIte, not_true_eq_false, not_false_eq_true, true_and, and_true, and_self, false_and, and_false, Nat.zero_le, am_bd_some, q_app, q_app0, nI_add, pk_sub, pk_mul, q_dec, q_ix, q_m1, q_m1', ↓q_ret, q_bool, q_bool1, q_u2, q_u1, q_shl1, q_shr, q_and7, q_dg, fa_or, fa_and, decide_true, decide_false, Bool.or_false, Bool.or_true, Bool.true_or, Bool.false_or, cond_true, cond_false, ite_not, q_some, q_nn, q_xor, q_xorm, Bool.false_eq_true, decide_eq_true_eq, ne_eq, l_0, l_1, l_2, l_3, l_4, l_5, l_6, l_9, l_10, l_14, l_53, l_73, l_84, l_98, l_100, l_112, l_114, l_124, l_399, c, a1, hk, fP, fS, fL, fE, fF, fB, fU, fV, fK, fW, fN, fO, fT, fD, ra1, ra2, cond_true, Bool.and_true, kd11]
        exact YR_0 hF
    · rw [if_neg (show ¬ n < 100 by omega), if_neg (show ¬ n < 110 by omega), if_neg (show ¬ n < 200 by omega), if_pos (show n < 300 by omega), h]
      have hb := iB_nI (p := n % 100 / 10) (n := g 2) (by omega)
      by_cases c : n % 100 / 10 < g 2
      · rw [decide_eq_true c] at hb
        simp (disch := first | assumption | omega) only [b_X_whyNot_0, b_X_whyNot_14, b_X_whyNot_73, b_X_whyNot_84, b_X_whyNot_98, b_X_whyNot_112, b_X_whyNot_114, b_X_whyNot_124, ↓Bool.cond_decide, ↓q_in, q_le, q_lt, q_eq, q_leT, q_leF, q_ltT, q_ltF, q_eqT, q_eqF, ↓reduceIte, not_true_eq_false, not_false_eq_true, true_and, and_true, and_self, false_and, and_false, Nat.zero_le, am_bd_some, q_app, q_app0, nI_add, pk_sub, pk_mul, q_dec, q_ix, q_m1, q_m1', ↓q_ret, q_bool, q_bool1, q_u2, q_u1, q_shl1, q_shr, q_and7, q_dg, fa_or, fa_and, decide_true, decide_false, Bool.or_false, Bool.or_true, Bool.true_or, Bool.false_or, cond_true, cond_false, ite_not, q_some, q_nn, q_xor, q_xorm, Bool.false_eq_true, decide_eq_true_eq, ne_eq, l_0, l_1, l_2, l_3, l_4, l_5, l_6, l_9, l_10, l_14, l_53, l_73, l_84, l_98, l_100, l_112, l_114, l_124, l_399, hb, c, a1, hk, fP, fS, fL, fE, fF, fB, fU, fV, fK, fW, fN, fO, fT, fD, ra1, ra2, cond_true, Bool.and_true, kd11]
        exact YR_0 hF
      · rw [decide_eq_false c] at hb
        simp (disch := first | assumption | omega) only [b_X_whyNot_0, b_X_whyNot_14, b_X_whyNot_73, b_X_whyNot_84, b_X_whyNot_98, b_X_whyNot_112, b_X_whyNot_114, b_X_whyNot_124, ↓Bool.cond_decide, ↓q_in, q_le, q_lt, q_eq, q_leT, q_leF, q_ltT, q_ltF, q_eqT, q_eqF, ↓reduceIte, not_true_eq_false, not_false_eq_true, true_and, and_true, and_self, false_and, and_false, Nat.zero_le, am_bd_some, q_app, q_app0, nI_add, pk_sub, pk_mul, q_dec, q_ix, q_m1, q_m1', ↓q_ret, q_bool, q_bool1, q_u2, q_u1, q_shl1, q_shr, q_and7, q_dg, fa_or, fa_and, decide_true, decide_false, Bool.or_false, Bool.or_true, Bool.true_or, Bool.false_or, cond_true, cond_false, ite_not, q_some, q_nn, q_xor, q_xorm, Bool.false_eq_true, decide_eq_true_eq, ne_eq, l_0, l_1, l_2, l_3, l_4, l_5, l_6, l_9, l_10, l_14, l_53, l_73, l_84, l_98, l_100, l_112, l_114, l_124, l_399, hb, c, a1, hk, fP, fS, fL, fE, fF, fB, fU, fV, fK, fW, fN, fO, fT, fD, ra1, ra2, cond_true, Bool.and_true, kd11]
        exact YR_0 hF
    · rw [if_neg (show ¬ n < 100 by omega), if_neg (show ¬ n < 110 by omega), if_neg (show ¬ n < 200 by omega), if_neg (show ¬ n < 300 by omega), if_pos (show n < 400 by omega), h]
      have hb := iS_nI (g := g) (p := n % 100 / 10) (by omega)
      unfold sSpot at hb
      by_cases c : 1 ≤ n % 100 / 10 ∧ n % 100 / 10 ≤ g 1
      · rw [decide_eq_true c] at hb
        rw [if_pos c]
        simp (disch := first | assumption | omega) only [b_X_whyNot_0, b_X_whyNot_14, b_X_whyNot_73, b_X_whyNot_84, b_X_whyNot_98, b_X_whyNot_112, b_X_whyNot_114, b_X_whyNot_124, ↓Bool.cond_decide, ↓q_in, q_le, q_lt, q_eq, q_leT, q_leF, q_ltT, q_ltF, q_eqT, q_eqF, ↓reduceIte, not_true_eq_false, not_false_eq_true, true_and, and_true, and_self, false_and, and_false, Nat.zero_le, am_bd_some, q_app, q_app0, nI_add, pk_sub, pk_mul, q_dec, q_ix, q_m1, q_m1', ↓q_ret, q_bool, q_bool1, q_u2, q_u1, q_shl1, q_shr, q_and7, q_dg, fa_or, fa_and, decide_true, decide_false, Bool.or_false, Bool.or_true, Bool.true_or, Bool.false_or, cond_true, cond_false, ite_not, q_some, q_nn, q_xor, q_xorm, Bool.false_eq_true, decide_eq_true_eq, ne_eq, l_0, l_1, l_2, l_3, l_4, l_5, l_6, l_9, l_10, l_14, l_53, l_73, l_84, l_98, l_100, l_112, l_114, l_124, l_399, hb, a1, hk, fP, fS, fL, fE, fF, fB, fU, fV, fK, fW, fN, fO, fT, fD, ra1, ra2, cond_true, Bool.and_true, kd11]
        exact YR_0 hF
      · rw [decide_eq_false c] at hb
        rw [if_neg c]
        simp (disch := first | assumption | omega) only [b_X_whyNot_0, b_X_whyNot_14, b_X_whyNot_73, b_X_whyNot_84, b_X_whyNot_98, b_X_whyNot_112, b_X_whyNot_114, b_X_whyNot_124, ↓Bool.cond_decide, ↓q_in, q_le, q_lt, q_eq, q_leT, q_leF, q_ltT, q_ltF, q_eqT, q_eqF, ↓reduceIte, not_true_eq_false, not_false_eq_true, true_and, and_true, and_self, false_and, and_false, Nat.zero_le, am_bd_some, q_app, q_app0, nI_add, pk_sub, pk_mul, q_dec, q_ix, q_m1, q_m1', ↓q_ret, q_bool, q_bool1, q_u2, q_u1, q_shl1, q_shr, q_and7, q_dg, fa_or, fa_and, decide_true, decide_false, Bool.or_false, Bool.or_true, Bool.true_or, Bool.false_or, cond_true, cond_false, ite_not, q_some, q_nn, q_xor, q_xorm, Bool.false_eq_true, decide_eq_true_eq, ne_eq, l_0, l_1, l_2, l_3, l_4, l_5, l_6, l_9, l_10, l_14, l_53, l_73, l_84, l_98, l_100, l_112, l_114, l_124, l_399, hb, a1, hk, fP, fS, fL, fE, fF, fB, fU, fV, fK, fW, fN, fO, fT, fD, ra1, ra2, cond_true, Bool.and_true, kd11]
        exact YR_0 hF
  · have e : lWhy g v = 1 := by unfold lWhy; rw [if_neg hv]
    rw [e]
    by_cases c : v.toInt < 0
    · have c1 : decide (lg_cmp v 0 < 0) = true := by
        apply decide_eq_true
        rw [k_cmp_lt, fa_lt64]; exact c
      rw [c1, cond_true, b_X_whyNot_14]
      exact YR_0 hF
    · have c1 : decide (lg_cmp v 0 < 0) = false := by
        apply decide_eq_false
        rw [k_cmp_lt, fa_lt64]; exact c
      have c2 : decide (lg_cmp v 399 ≤ 0) = false := by
        apply decide_eq_false
        show ¬ lg_cmp v 399 ≤ nI 0
        rw [q_cle, fa_lt64]
        show ¬ ¬ ((399 : Int) < _)
        omega
      rw [c1, c2, cond_false, cond_false, b_X_whyNot_14]
      exact YR_0 hF
theorem gCur_ug (g : Nat → Nat) (k v : Nat) : gCur (ug g (18 + k) v) = ug (gCur g) k v := by
  funext j
  unfold gCur ug
  by_cases c : j = k
  · rw [if_pos c, if_pos (by omega)]
  · rw [if_neg c, if_neg (by omega)]
theorem y_done (d : Nat) {n : Nat} (hC : CW ρ r g m i l q K) (hF : XF ρ i l q K) (h0 : dWhy g n = 0) : ∃ m2, YR ρ K i l q (some (.long (lN m2))) (am_cl (d + 5) mX_done [.ref 0, .long (lN m), .long (lN n)] (i, l, rX q, kX K)) ∧ RM m2 (gCur (dDo g n)) := by
  obtain ⟨a1, a2, hW, a4, a6⟩ := id hC
  have a1 : rX q 0 2 = some r := a1
  obtain ⟨fP, fS, fL, fE, fF, fB, fU, fV, fK, fW, hk, ra, ra1, ra2, ra3⟩ := CV_f a2 hW
  obtain ⟨fN, fO, fT, fD⟩ := RM_f a6 hW
  have h1 : g 1 ≤ 6 := hW.1.2
  have h2 : g 2 ≤ 4 := hW.2.1
  have hR : ∀ p, p < 4 → g (10 + p) ≤ 4 := hW.2.2.2.1
  have hP : ∀ p, p < 4 → g (18 + p) < 8 := hW.2.2.2.2.2.1
  have hSt : ∀ p, p < 4 → g (22 + p) ≤ 9 := hW.2.2.2.2.2.2.1
  have hn := sNow_lt g hP 4 (by decide)
  have hvs : VS g (sNow g 4) := hW.2.2.2.2.2.2.2.2.2.2
  have hn4 : n < 400 := by
    apply Classical.byContradiction
    intro z
    unfold dWhy at h0
    rw [if_neg (by omega), if_neg (by omega), if_neg (by omega), if_neg (by omega), if_neg (by omega)] at h0
    cases h0
  have e100 : lN n / (100 : Int64) = lN (n / 100) := q_lDiv (b := 100) (by omega) (by decide) (by decide)
  have e10 : lN n / (10 : Int64) = lN (n / 10) := q_lDiv (b := 10) (by omega) (by decide) (by decide)
  have r100 : lN n - lN (n / 100) * (100 : Int64) = lN (n % 100) := by rw [← e100]; exact q_lRem (b := 100) (by omega) (by decide) (by decide)
  have r10 : lN n - lN (n / 10) * (10 : Int64) = lN (n % 10) := by rw [← e10]; exact q_lRem (b := 10) (by omega) (by decide) (by decide)
  have e101 : nI (n % 100) / (10 : Int32) = nI (n % 100 / 10) := pk_div (d := 10) (by omega) (by decide) (by decide)
  rw [c_X_done, b_X_done_0]
  simp only [e100, e10, r100, r10, x_l2i, e101]
  unfold dWhy at h0
  unfold dDo
  rcases (show n / 100 = 0 ∨ n / 100 = 1 ∨ n / 100 = 2 ∨ n / 100 = 3 by omega) with h | h | h | h
  · have e : n % 100 / 10 = n / 10 := by omega
    rw [if_pos (show n < 100 by omega)] at h0 ⊢
    obtain ⟨p, t, hp, ht, e1, e2, _⟩ := sWhy_0 h0
    have e1 : n / 10 = p := by rw [nI_eq (by omega) (by omega)] at e1; exact e1
    have e2 : n % 10 = t := by rw [nI_eq (by omega) (by omega)] at e2; exact e2
    rw [h, e, e1, e2]
    have hw := fun s => s_X_withPlace (d + 2) (m := m) (p := p) (v := t) (by omega) (by omega) s
    refine ⟨wb m (3 * p) 3 t, ?_, ?_⟩
    · simp (disch := first | assumption | omega) only [b_X_done_0, b_X_done_60, b_X_done_71, b_X_done_75, b_X_done_80, b_X_done_91, b_X_done_100, s_X_withDepth, s_X_withStrength, ↓Bool.cond_decide, ↓q_in, q_le, q_lt, q_eq, q_leT, q_leF, q_ltT, q_ltF, q_eqT, q_eqF, ↓reduceIte, not_true_eq_false, not_false_eq_true, true_and, and_true, and_self, false_and, and_false, Nat.zero_le, am_bd_some, q_app, q_app0, nI_add, pk_sub, pk_mul, q_dec, q_ix, q_m1, q_m1', ↓q_ret, q_bool, q_bool1, q_u2, q_u1, q_shl1, q_shr, q_and7, q_dg, fa_or, fa_and, decide_true, decide_false, Bool.or_false, Bool.or_true, Bool.true_or, Bool.false_or, cond_true, cond_false, ite_not, q_some, q_nn, q_xor, q_xorm, Bool.false_eq_true, decide_eq_true_eq, ne_eq, l_0, l_1, l_2, l_3, l_4, l_5, l_10, l_37, l_60, l_71, l_75, l_80, l_91, l_100, l_4096, hw, a1, hk, fP, fS, fL, fE, fF, fB, fU, fV, fK, fW, fN, fO, fT, fD, ra1, ra2, cond_true, Bool.and_true, kd11]
      exact YR_0 hF
    · rw [gCur_ug]
      exact RM_place a6 (by omega) (by omega)
  · rw [if_neg (show ¬ n < 100 by omega)] at h0 ⊢
    have h11 : n < 110 := by
      apply Classical.byContradiction
      intro z
      rw [if_neg z, if_pos (by omega)] at h0; cases h0
    rw [if_pos (show n < 200 by omega), h, show n - 100 = n % 10 by omega]
    obtain ⟨i1, l1, q1, e1, hf1, hA1⟩ := y_fordW (d + 1) hC hF
    have hfl := sFl_lt (g := g) (w := n % 10) h2 hn
    refine ⟨wb m 0 12 (sFl g (n % 10) (sNow g 4)), ?_, RM_stand a6 hfl⟩
    simp (disch := first | assumption | omega) only [b_X_done_0, b_X_done_60, b_X_done_71, b_X_done_80, b_X_done_91, b_X_done_100, s_X_withDepth, s_X_withPlace, s_X_withStrength, ↓Bool.cond_decide, ↓q_in, q_le, q_lt, q_eq, q_leT, q_leF, q_ltT, q_ltF, q_eqT, q_eqF, ↓reduceIte, not_true_eq_false, not_false_eq_true, true_and, and_true, and_self, false_and, and_false, Nat.zero_le, am_bd_some, q_app, q_app0, nI_add, pk_sub, pk_mul, q_dec, q_ix, q_m1, q_m1', ↓q_ret, q_bool, q_bool1, q_u2, q_u1, q_shl1, q_shr, q_and7, q_dg, fa_or, fa_and, decide_true, decide_false, Bool.or_false, Bool.or_true, Bool.true_or, Bool.false_or, cond_true, cond_false, ite_not, q_some, q_nn, q_xor, q_xorm, Bool.false_eq_true, decide_eq_true_eq, ne_eq, l_0, l_1, l_2, l_3, l_4, l_5, l_10, l_37, l_60, l_71, l_75, l_80, l_91, l_100, l_4096, e1, a1, hk, fP, fS, fL, fE, fF, fB, fU, fV, fK, fW, fN, fO, fT, fD, ra1, ra2, cond_true, Bool.and_true, kd11]
    obtain ⟨a1, a2, _, a4, _⟩ := CW_ff hf1 hC
    have a1 : rX q1 0 2 = some r := a1
    obtain ⟨fP, fS, fL, fE, fF, fB, fU, fV, fK, fW, hk, ra, ra1, ra2, ra3⟩ := CV_f a2 hW
    obtain ⟨i2, e2, hf2, hA2, _⟩ := y_flooded d (a := sNow g 4) (w := n % 10) a2 hW hA1 hn (by omega) hvs.1
    have hff := FG_i hf1 hf2 rfl
    rw [b_X_done_75, kd11, Bool.true_and, cond_true, e2, am_bd_some, q_app, b_X_done_80, x_fl hfl]
    exact YR_some hff (XF_ofW (CW_ff hff hC) hA2)
  · rw [if_neg (show ¬ n < 100 by omega), if_neg (show ¬ n < 110 by omega), if_neg (show ¬ n < 200 by omega), if_pos (show n < 300 by omega)] at h0
    rw [if_neg (show ¬ n < 100 by omega), if_neg (show ¬ n < 200 by omega), if_pos (show n < 300 by omega), h]
    have hp : n % 100 / 10 < g 2 := by
      apply Classical.byContradiction
      intro z
      rw [if_neg z] at h0; cases h0
    have hw := fun s => s_X_withStrength (d + 2) (m := m) (p := n % 100 / 10) (v := n % 10) (by omega) (by omega) s
    refine ⟨wb m (12 + 4 * (n % 100 / 10)) 4 (n % 10), ?_, ?_⟩
    · simp (disch := first | assumption | omega) only [b_X_done_0, b_X_done_60, b_X_done_71, b_X_done_75, b_X_done_80, b_X_done_91, b_X_done_100, s_X_withDepth, s_X_withPlace, ↓Bool.cond_decide, ↓q_in, q_le, q_lt, q_eq, q_leT, q_leF, q_ltT, q_ltF, q_eqT, q_eqF, ↓reduceIte, not_true_eq_false, not_false_eq_true, true_and, and_true, and_self, false_and, and_false, Nat.zero_le, am_bd_some, q_app, q_app0, nI_add, pk_sub, pk_mul, q_dec, q_ix, q_m1, q_m1', ↓q_ret, q_bool, q_bool1, q_u2, q_u1, q_shl1, q_shr, q_and7, q_dg, fa_or, fa_and, decide_true, decide_false, Bool.or_false, Bool.or_true, Bool.true_or, Bool.false_or, cond_true, cond_false, ite_not, q_some, q_nn, q_xor, q_xorm, Bool.false_eq_true, decide_eq_true_eq, ne_eq, l_0, l_1, l_2, l_3, l_4, l_5, l_10, l_37, l_60, l_71, l_75, l_80, l_91, l_100, l_4096, hw, a1, hk, fP, fS, fL, fE, fF, fB, fU, fV, fK, fW, fN, fO, fT, fD, ra1, ra2, cond_true, Bool.and_true, kd11]
      exact YR_0 hF
    · rw [show 22 + n % 100 / 10 = 18 + (4 + n % 100 / 10) by omega, gCur_ug]
      exact RM_strength a6 (by omega) (by omega)
  · rw [if_neg (show ¬ n < 100 by omega), if_neg (show ¬ n < 110 by omega), if_neg (show ¬ n < 200 by omega), if_neg (show ¬ n < 300 by omega), if_pos hn4] at h0
    rw [if_neg (show ¬ n < 100 by omega), if_neg (show ¬ n < 200 by omega), if_neg (show ¬ n < 300 by omega), h]
    have hp : 1 ≤ n % 100 / 10 ∧ n % 100 / 10 ≤ g 1 := by
      apply Classical.byContradiction
      intro z
      rw [if_neg z] at h0; cases h0
    obtain ⟨t, ht⟩ : ∃ t, n % 100 / 10 = t + 1 := ⟨n % 100 / 10 - 1, by omega⟩
    have hw := fun s => s_X_withDepth (d + 2) (m := m) (t := t) (v := n % 10) (by omega) (by omega) s
    rw [ht]
    refine ⟨wb m (28 + 4 * t) 4 (n % 10), ?_, ?_⟩
    · simp (disch := first | assumption | omega) only [b_X_done_0, b_X_done_60, b_X_done_71, b_X_done_75, b_X_done_80, b_X_done_91, b_X_done_100, s_X_withPlace, s_X_withStrength, ↓Bool.cond_decide, ↓q_in, q_le, q_lt, q_eq, q_leT, q_leF, q_ltT, q_ltF, q_eqT, q_eqF, ↓reduceIte, not_true_eq_false, not_false_eq_true, true_and, and_true, and_self, false_and, and_false, Nat.zero_le, am_bd_some, q_app, q_app0, nI_add, pk_sub, pk_mul, q_dec, q_ix, q_m1, q_m1', ↓q_ret, q_bool, q_bool1, q_u2, q_u1, q_shl1, q_shr, q_and7, q_dg, fa_or, fa_and, decide_true, decide_false, Bool.or_false, Bool.or_true, Bool.true_or, Bool.false_or, cond_true, cond_false, ite_not, q_some, q_nn, q_xor, q_xorm, Bool.false_eq_true, decide_eq_true_eq, ne_eq, l_0, l_1, l_2, l_3, l_4, l_5, l_10, l_37, l_60, l_71, l_75, l_80, l_91, l_100, l_4096, hw, a1, hk, fP, fS, fL, fE, fF, fB, fU, fV, fK, fW, fN, fO, fT, fD, ra1, ra2, cond_true, Bool.and_true, kd11]
      exact YR_0 hF
    · rw [show 25 + (t + 1) = 18 + (8 + t) by omega, gCur_ug]
      exact RM_depth a6 (by omega) (by omega)
end
