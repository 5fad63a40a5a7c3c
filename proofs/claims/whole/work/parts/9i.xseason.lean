/-! THE CLASS: told deeds done; seasons -/
section
variable {i i' : Nat → Nat → Int32} {l l' : Nat → Nat → Int64} {q q' : Nat → Nat → Option Nat} {K : List (Nat × Nat)} {r m : Nat} {ρ : Nat → Nat → Nat} {σ : St}
theorem y_X_perform (d : Nat) (x : Int32) (hC : CV ρ r σ.1 m i l q K) (hF : XF ρ i l q K) (hPH : PH σ.1 i l) (hY : TY σ i l) (hI : SI σ) : DR ρ r K i l q (some (.int (v_perform σ x))) (a_perform σ x).1 (am_cl (d + 9) mX_perform [.ref 0, .int x] (i, l, rX q, kX K)) := by
  have hSI := SI_perform x hI
  have hWT := hI.2.2.2.1
  have h32 := hI.2.1.1
  rw [c_X_perform, b_X_perform_0, v_perform]
  unfold a_perform at hSI ⊢
  by_cases hx : iB x 4 = true
  · have hx' := hx
    obtain ⟨t, ht, rfl⟩ := iB_T hx'
    have h47 := tr47 q ht
    have hk50 : ∀ i1 l1 q1, Nat.beq (am_kd (i1, l1, rX q1, kX K) (50 + 2 * t)) 10 = true := fun _ _ _ => tk50 ht
    have hmi := s_Tray_isMissing (i := i) (l := l) (q := rX q) (K := K) (d + 7) ht
    have hm := TY_m hY hWT ht
    have hv : vNo σ (nI t) = if σ.2.2.2.2.2.2.1 t = -nI 1 then -nI 6 else nI 0 := by
      unfold vNo
      rw [if_pos hx, nI_clamp (by omega)]
    by_cases c : σ.2.2.2.2.2.2.1 t = -nI 1
    · rw [if_pos (hm.mpr c)] at hmi
      rw [if_pos c] at hv
      have hv0 : ¬ (-nI 6 = nI 0) := by decide
      rw [hv, if_neg hv0, if_neg (fun z => hv0 z.1)]
      simp (disch := first | assumption | omega) only [b_X_perform_0, b_X_perform_4, b_X_perform_21, b_X_perform_32, b_X_perform_44, b_X_perform_47, s_X_isTray, ↓Bool.cond_decide, ↓q_in, q_le, q_lt, q_eq, q_leT, q_leF, q_ltT, q_ltF, q_eqT, q_eqF, ↓reduceIte, not_true_eq_false, not_false_eq_true, true_and, and_true, and_self, false_and, and_false, Nat.zero_le, am_bd_some, q_app, q_app0, nI_add, pk_sub, pk_mul, q_dec, q_ix, q_m1, q_m1', ↓q_ret, q_bool, q_bool1, q_u2, q_u1, q_shl1, q_shr, q_and7, q_dg, fa_or, fa_and, decide_true, decide_false, Bool.or_false, Bool.or_true, Bool.true_or, Bool.false_or, cond_true, cond_false, ite_not, q_some, q_nn, q_xor, q_xorm, Bool.false_eq_true, decide_eq_true_eq, ne_eq, l_0, l_1, l_2, l_3, l_4, l_6, l_8, l_10, l_11, l_15, l_21, l_32, l_44, l_47, hx, h47, hk50, hmi, cond_true, Bool.and_true]
      exact DR_0 hC hF hPH
    · rw [if_neg (fun z => c (hm.mp z))] at hmi
      rw [if_neg c] at hv
      obtain ⟨_, hTF⟩ := (hY t ht).2 c
      have hsz := (hWT t ht).1
      rw [hv, nI_clamp (by omega)] at hSI
      rw [hv, if_pos rfl, nI_clamp (by omega)]
      obtain ⟨f, hf⟩ : ∃ f, (fun k => σ.2.2.2.2.2.2.2.2 (40 * t + k)) = f := ⟨_, rfl⟩
      obtain ⟨n, hn⟩ : ∃ n, σ.2.2.2.2.2.2.2.1 t = n := ⟨_, rfl⟩
      unfold tlS at hSI ⊢
      rw [hf, hn] at hTF hSI ⊢
      rw [hn] at hsz
      obtain ⟨i1, l1, q1, e1, hf1, hF1⟩ := y_doable d hC hF ht hsz hTF
      obtain ⟨m2, ⟨i2, l2, q2, e2, hf2, hF2⟩, hM2⟩ := y_behind (d + 2) (CV_ff hf1 hC) hF1 ht hsz (TF_ff hf1 rfl rfl ht hTF)
      have hff := FG_tr hf1 hf2 rfl rfl rfl
      have hge := tl_ge (f := f) n 0 σ.1
      have hok := tl_ok (f := f) n 0 σ.1 hC.2.2.1
      obtain ⟨T, hTe⟩ : ∃ T, tl f n 0 σ.1 = T := ⟨_, rfl⟩
      rw [hTe] at e1 e2 hM2 hge hok hSI ⊢
      by_cases c0 : 0 < T.1
      · rw [if_pos ⟨rfl, c0⟩] at hSI
        rw [if_pos ⟨rfl, c0⟩]
        obtain ⟨i3, l3, e4, hD⟩ := DR_be (d + 7) (m2 := m2) (g1 := T.2.2) hC hPH h32 (FG_tr (FG_refl _ _ _ _ _ _) hff rfl rfl rfl) hF2 (by rw [hff.1 0 rfl]) hM2 hok.2.1 hSI.1
        simp (disch := first | assumption | omega) only [b_X_perform_0, b_X_perform_4, b_X_perform_21, b_X_perform_32, b_X_perform_44, b_X_perform_47, s_X_isTray, ↓Bool.cond_decide, ↓q_in, q_le, q_lt, q_eq, q_leT, q_leF, q_ltT, q_ltF, q_eqT, q_eqF, ↓reduceIte, not_true_eq_false, not_false_eq_true, true_and, and_true, and_self, false_and, and_false, Nat.zero_le, am_bd_some, q_app, q_app0, nI_add, pk_sub, pk_mul, q_dec, q_ix, q_m1, q_m1', ↓q_ret, q_bool, q_bool1, q_u2, q_u1, q_shl1, q_shr, q_and7, q_dg, fa_or, fa_and, decide_true, decide_false, Bool.or_false, Bool.or_true, Bool.true_or, Bool.false_or, cond_true, cond_false, ite_not, q_some, q_nn, q_xor, q_xorm, Bool.false_eq_true, decide_eq_true_eq, ne_eq, l_0, l_1, l_2, l_3, l_4, l_6, l_8, l_10, l_11, l_15, l_21, l_32, l_44, l_47, hx, h47, hk50, hmi, e1, e2, e4, cond_true, Bool.and_true]
        exact hD _
      · rw [if_neg (fun z => c0 z.2)]
        have c00 : T.1 = 0 := by omega
        rw [c00] at e1 ⊢
        simp (disch := first | assumption | omega) only [b_X_perform_0, b_X_perform_4, b_X_perform_21, b_X_perform_32, b_X_perform_44, b_X_perform_47, s_X_isTray, ↓Bool.cond_decide, ↓q_in, q_le, q_lt, q_eq, q_leT, q_leF, q_ltT, q_ltF, q_eqT, q_eqF, ↓reduceIte, not_true_eq_false, not_false_eq_true, true_and, and_true, and_self, false_and, and_false, Nat.zero_le, am_bd_some, q_app, q_app0, nI_add, pk_sub, pk_mul, q_dec, q_ix, q_m1, q_m1', ↓q_ret, q_bool, q_bool1, q_u2, q_u1, q_shl1, q_shr, q_and7, q_dg, fa_or, fa_and, decide_true, decide_false, Bool.or_false, Bool.or_true, Bool.true_or, Bool.false_or, cond_true, cond_false, ite_not, q_some, q_nn, q_xor, q_xorm, Bool.false_eq_true, decide_eq_true_eq, ne_eq, l_0, l_1, l_2, l_3, l_4, l_6, l_8, l_10, l_11, l_15, l_21, l_32, l_44, l_47, hx, h47, hk50, hmi, e1, cond_true, Bool.and_true]
        exact DR_y hC hPH hf1 hF1
  · have hv : vNo σ x = -nI 2 := by unfold vNo; rw [if_neg hx]
    have hv0 : ¬ (-nI 2 = nI 0) := by decide
    rw [hv, if_neg hv0, if_neg (fun z => hv0 z.1)]
    simp (disch := first | assumption | omega) only [b_X_perform_0, b_X_perform_4, b_X_perform_21, b_X_perform_32, b_X_perform_44, b_X_perform_47, s_Tray_isMissing, s_X_isTray, ↓Bool.cond_decide, ↓q_in, q_le, q_lt, q_eq, q_leT, q_leF, q_ltT, q_ltF, q_eqT, q_eqF, ↓reduceIte, not_true_eq_false, not_false_eq_true, true_and, and_true, and_self, false_and, and_false, Nat.zero_le, am_bd_some, q_app, q_app0, nI_add, pk_sub, pk_mul, q_dec, q_ix, q_m1, q_m1', ↓q_ret, q_bool, q_bool1, q_u2, q_u1, q_shl1, q_shr, q_and7, q_dg, fa_or, fa_and, decide_true, decide_false, Bool.or_false, Bool.or_true, Bool.true_or, Bool.false_or, cond_true, cond_false, ite_not, q_some, q_nn, q_xor, q_xorm, Bool.false_eq_true, decide_eq_true_eq, ne_eq, l_0, l_1, l_2, l_3, l_4, l_6, l_8, l_10, l_11, l_15, l_21, l_32, l_44, l_47, hx]
    exact DR_0 hC hF hPH
theorem s_X_draw (d : Nat) {x : Int32} (hx : i 0 15 = x) : am_cl (d + 1) mX_draw [.ref 0] (i, l, rX q, kX K) = some (some (.int (nI (dv (dr x)))), (am_u2 i 0 15 (dr x), l, rX q, kX K)) := by
  rw [c_X_draw, b_X_draw_0, hx]
  exact congrArg (fun v => some (some (Value.int v), (am_u2 i 0 15 (dr x), l, rX q, kX K))) (q_dv (dr x))
theorem y_drawDeed (d : Nat) {x : Int32} (hx : i 0 15 = x) : ∃ i', am_cl (d + 2) mX_drawDeed [.ref 0] (i, l, rX q, kX K) = some (some (.int (nI (dN x).1)), (i', l, rX q, kX K)) ∧ Fr [0] i i' ∧ i' 0 5 = i 0 5 ∧ i' 0 15 = (dN x).2 := by
  have h1 := dv_lt (dr x)
  have h2 := dv_lt (dr (dr x))
  have h3 := dv_lt (dr (dr (dr x)))
  have d1 := s_X_draw (i := i) (l := l) (q := q) (K := K) d hx
  have d2 := s_X_draw (i := am_u2 i 0 15 (dr x)) (l := l) (q := q) (K := K) (x := dr x) d rfl
  have d3 := s_X_draw (i := am_u2 (am_u2 i 0 15 (dr x)) 0 15 (dr (dr x))) (l := l) (q := q) (K := K) (x := dr (dr x)) d rfl
  have r6 : nI (dv (dr x)) - nI (dv (dr x)) / (6 : Int32) * (6 : Int32) = nI (dv (dr x) % 6) := pk_rem (d := 6) (by omega) (by decide) (by decide)
  have r10 : nI (dv (dr (dr x))) - nI (dv (dr (dr x))) / (10 : Int32) * (10 : Int32) = nI (dv (dr (dr x)) % 10) := pk_rem (d := 10) (by omega) (by decide) (by decide)
  have r4 : nI (dv (dr (dr x))) - nI (dv (dr (dr x))) / (4 : Int32) * (4 : Int32) = nI (dv (dr (dr x)) % 4) := pk_rem (d := 4) (by omega) (by decide) (by decide)
  have s10 : nI (dv (dr (dr (dr x)))) - nI (dv (dr (dr (dr x)))) / (10 : Int32) * (10 : Int32) = nI (dv (dr (dr (dr x))) % 10) := pk_rem (d := 10) (by omega) (by decide) (by decide)
  have s8 : nI (dv (dr (dr (dr x)))) - nI (dv (dr (dr (dr x)))) / (8 : Int32) * (8 : Int32) = nI (dv (dr (dr (dr x))) % 8) := pk_rem (d := 8) (by omega) (by decide) (by decide)
  rw [c_X_drawDeed, b_X_drawDeed_0, d1, am_bd_some, q_app, b_X_drawDeed_4, r6]
  unfold dN
  by_cases c4 : dv (dr x) % 6 = 4
  · rw [if_pos c4, c4, show decide (¬ nI 4 = (4 : Int32)) = false from rfl, cond_false, d2, am_bd_some, q_app, b_X_drawDeed_19, r10, show (100 : Int32) + nI (dv (dr (dr x)) % 10) = nI (100 + dv (dr (dr x)) % 10) from nI_add 100 _]
    exact ⟨_, rfl, Fr_u2 rfl (Fr_u2 rfl (Fr_refl _ _)), rfl, rfl⟩
  · have c4' : ¬ nI (dv (dr x) % 6) = (4 : Int32) := by
      show ¬ nI (dv (dr x) % 6) = nI 4
      rw [q_eq (by omega) (by omega)]; exact c4
    rw [if_neg c4, decide_eq_true c4', cond_true, d2, am_bd_some, q_app, b_X_drawDeed_28, r4]
    by_cases c5 : dv (dr x) % 6 = 5
    · rw [if_pos c5, c5, show decide (¬ nI 5 = (5 : Int32)) = false from rfl, cond_false, d3, am_bd_some, q_app, b_X_drawDeed_48, s10, show (10 : Int32) * nI (dv (dr (dr x)) % 4) = nI (10 * (dv (dr (dr x)) % 4)) from pk_mul 10 _, show (200 : Int32) + nI (10 * (dv (dr (dr x)) % 4)) = nI (200 + 10 * (dv (dr (dr x)) % 4)) from nI_add 200 _, nI_add, b_X_drawDeed_67]
      exact ⟨_, rfl, Fr_u2 rfl (Fr_u2 rfl (Fr_u2 rfl (Fr_refl _ _))), rfl, rfl⟩
    · have c5' : ¬ nI (dv (dr x) % 6) = (5 : Int32) := by
        show ¬ nI (dv (dr x) % 6) = nI 5
        rw [q_eq (by omega) (by omega)]; exact c5
      rw [if_neg c5, decide_eq_true c5', cond_true, d3, am_bd_some, q_app, b_X_drawDeed_63, s8, show (10 : Int32) * nI (dv (dr (dr x)) % 4) = nI (10 * (dv (dr (dr x)) % 4)) from pk_mul 10 _, nI_add, b_X_drawDeed_67]
      exact ⟨_, rfl, Fr_u2 rfl (Fr_u2 rfl (Fr_u2 rfl (Fr_refl _ _))), rfl, rfl⟩
theorem XF_i {Ri : List Nat} (h : Fr Ri i i') (h18 : Ri.contains 18 = false) (h19 : Ri.contains 19 = false) (h20 : Ri.contains 20 = false) (h21 : Ri.contains 21 = false) (hF : XF ρ i l q K) : XF ρ i' l q K := by
  obtain ⟨rf, mf, gf, ⟨f1, f2, f3, f4, f5⟩, f6, f7, f8, f9⟩ := hF
  refine ⟨rf, mf, gf, ⟨f1, f2, f3, ?_, ?_⟩, f6, f7, f8, f9⟩
  · unfold TV at f4 ⊢
    rw [h 18 h18, h 19 h19]; exact f4
  · unfold HV at f5 ⊢
    rw [h 20 h20, h 21 h21]; exact f5
theorem y_X_season (d : Nat) (x y : Int32) (hC : CV ρ r σ.1 m i l q K) (hF : XF ρ i l q K) (hPH : PH σ.1 i l) (hI : SI σ) : DR ρ r K i l q (some (.int (v_season σ.1 x y))) (a_season σ x y).1 (am_cl (d + 9) mX_season [.ref 0, .int x, .int y] (i, l, rX q, kX K)) := by
  have hSI := SI_season x y hI
  have h32 := hI.2.1.1
  have a5 := hC.2.2.2.2.1
  have hyr := rg_z 1 40 y (by decide) (by decide)
  rw [c_X_season, b_X_season_0, v_season]
  unfold a_season at hSI ⊢
  by_cases hy : iR 1 40 y = true
  · obtain ⟨y1, y2⟩ := hyr.mp hy
    rw [if_pos hy]
    have hy' := hy
    obtain ⟨N, hN1, hN2, rfl⟩ := iR_T hy'
    rw [nI_clamp (by omega)] at hSI ⊢
    have hok := ssn_ok N x σ.1 0 hC.2.2.1
    have loop : ∀ j k c x1 g1 m1 i1 l1 q1 z1 z4 z7, k + j = N → c ≤ k → ssn j x1 g1 c = ssn N x σ.1 0 → CW ρ r g1 m1 i1 l1 q1 K → FG (0 :: RF) [11] [11] i i1 l l1 q q1 → XF ρ i1 l1 q1 K → i1 0 5 = i 0 5 → i1 0 15 = x1 → DR ρ r K i l q (some (.int (nI (ssn N x σ.1 0).1))) (if iR 1 40 (nI N) = true ∧ 0 < (ssn N x σ.1 0).1 then (gNote (ssn N x σ.1 0).2 (gCur σ.1), σ.2) else σ).1 (am_Ex (d + 8) mX_season 30 [.val (.ref 0), z1, .val (.int (nI N)), .val (.long (lN m1)), z4, .val (.int (nI c)), .val (.int (nI k)), z7] [] (i1, l1, rX q1, kX K)) := by
      intro j
      induction j with
      | zero =>
        intro k c x1 g1 m1 i1 l1 q1 z1 z4 z7 hk hck he hC1 hf1 hF1 h05 h15
        rw [ssn] at he
        have he1 : (ssn N x σ.1 0).1 = c := by rw [← he]
        have he2 : (ssn N x σ.1 0).2 = g1 := by rw [← he]
        rw [he1, he2] at hSI hok ⊢
        rw [b_X_season_30]
        by_cases c0 : 0 < c
        · rw [if_pos ⟨hy, c0⟩] at hSI ⊢
          obtain ⟨i3, l3, e4, hD⟩ := DR_be (d + 7) (m2 := m1) (g1 := g1) hC hPH h32 hf1 hF1 h05 hC1.2.2.2.2 hok.2.1 hSI.1
          simp (disch := first | assumption | omega) only [b_X_season_0, b_X_season_11, b_X_season_40, b_X_season_50, b_X_season_61, b_X_season_65, b_X_season_81, ↓Bool.cond_decide, ↓q_in, q_le, q_lt, q_eq, q_leT, q_leF, q_ltT, q_ltF, q_eqT, q_eqF, ↓reduceIte, not_true_eq_false, not_false_eq_true, true_and, and_true, and_self, false_and, and_false, Nat.zero_le, am_bd_some, q_app, q_app0, nI_add, pk_sub, pk_mul, q_dec, q_ix, q_m1, q_m1', ↓q_ret, q_bool, q_bool1, q_u2, q_u1, q_shl1, q_shr, q_and7, q_dg, fa_or, fa_and, decide_true, decide_false, Bool.or_false, Bool.or_true, Bool.true_or, Bool.false_or, cond_true, cond_false, ite_not, q_some, q_nn, q_xor, q_xorm, Bool.false_eq_true, decide_eq_true_eq, ne_eq, l_0, l_1, l_3, l_4, l_5, l_8, l_9, l_11, l_13, l_15, l_21, l_30, l_40, l_50, l_61, l_65, l_81, e4]
          exact hD _
        · rw [if_neg (fun z => c0 z.2)]
          simp (disch := first | assumption | omega) only [b_X_season_0, b_X_season_11, b_X_season_40, b_X_season_50, b_X_season_61, b_X_season_65, b_X_season_81, ↓Bool.cond_decide, ↓q_in, q_le, q_lt, q_eq, q_leT, q_leF, q_ltT, q_ltF, q_eqT, q_eqF, ↓reduceIte, not_true_eq_false, not_false_eq_true, true_and, and_true, and_self, false_and, and_false, Nat.zero_le, am_bd_some, q_app, q_app0, nI_add, pk_sub, pk_mul, q_dec, q_ix, q_m1, q_m1', ↓q_ret, q_bool, q_bool1, q_u2, q_u1, q_shl1, q_shr, q_and7, q_dg, fa_or, fa_and, decide_true, decide_false, Bool.or_false, Bool.or_true, Bool.true_or, Bool.false_or, cond_true, cond_false, ite_not, q_some, q_nn, q_xor, q_xorm, Bool.false_eq_true, decide_eq_true_eq, ne_eq, l_0, l_1, l_3, l_4, l_5, l_8, l_9, l_11, l_13, l_15, l_21, l_30, l_40, l_50, l_61, l_65, l_81]
          refine ⟨i1, l1, q1, m, rfl, FG_tr (FG_refl _ _ _ _ _ _) hf1 rfl rfl rfl, hF1, ?_, ?_⟩
          · obtain ⟨b1, b2, b3, b4, b5, b6⟩ := hC
            exact ⟨by rw [hf1.2.2 0 rfl]; exact b1, RV_fg hf1 rfl rfl b2, b3, b4, by rw [hf1.2.1 0 rfl]; exact b5, b6⟩
          · exact ⟨h05.trans hPH.1, by rw [hf1.2.1 10 rfl]; exact hPH.2⟩
      | succ j ih =>
        intro k c x1 g1 m1 i1 l1 q1 z1 z4 z7 hk hck he hC1 hf1 hF1 h05 h15
        obtain ⟨i2, e2, hf2, h25, h215⟩ := y_drawDeed (i := i1) (l := l1) (q := q1) (K := K) (d + 6) h15
        have hlt := dN_lt x1
        have hfi2 : FG [0] [11] [11] i1 i2 l1 l1 q1 q1 := ⟨hf2, fun _ _ => rfl, fun _ _ => rfl⟩
        have hC2 := CW_fg hfi2 rfl rfl rfl hC1
        have hF2 := XF_i hf2 rfl rfl rfl rfl hF1
        have hff2 := FG_tr hf1 hfi2 rfl rfl rfl
        obtain ⟨i3, l3, q3, e3, hf3, hF3⟩ := y_whyNot (d + 1) (lN (dN x1).1) hC2 hF2
        rw [lWhy_n hlt] at e3
        have hC3 := CW_ff hf3 hC2
        have hff3 := FG_tr hff2 hf3 rfl rfl rfl
        have hl : Int32.toInt64 (nI (dN x1).1) = lN (dN x1).1 := nI_l (by omega)
        have h35 : i3 0 5 = i 0 5 := by rw [hf3.1 0 rfl, h25, h05]
        have h315 : i3 0 15 = (dN x1).2 := by rw [hf3.1 0 rfl, h215]
        rw [ssn] at he
        rw [b_X_season_30]
        by_cases c0 : dWhy g1 (dN x1).1 = 0
        · rw [if_pos c0] at he
          rw [c0] at e3
          obtain ⟨m4, ⟨i4, l4, q4, e4, hf4, hF4⟩, hM4⟩ := y_done (d + 3) (n := (dN x1).1) hC3 hF3 c0
          simp (disch := first | assumption | omega) only [b_X_season_0, b_X_season_11, b_X_season_40, b_X_season_50, b_X_season_61, b_X_season_65, b_X_season_81, ↓Bool.cond_decide, ↓q_in, q_le, q_lt, q_eq, q_leT, q_leF, q_ltT, q_ltF, q_eqT, q_eqF, ↓reduceIte, not_true_eq_false, not_false_eq_true, true_and, and_true, and_self, false_and, and_false, Nat.zero_le, am_bd_some, q_app, q_app0, nI_add, pk_sub, pk_mul, q_dec, q_ix, q_m1, q_m1', ↓q_ret, q_bool, q_bool1, q_u2, q_u1, q_shl1, q_shr, q_and7, q_dg, fa_or, fa_and, decide_true, decide_false, Bool.or_false, Bool.or_true, Bool.true_or, Bool.false_or, cond_true, cond_false, ite_not, q_some, q_nn, q_xor, q_xorm, Bool.false_eq_true, decide_eq_true_eq, ne_eq, l_0, l_1, l_3, l_4, l_5, l_8, l_9, l_11, l_13, l_15, l_21, l_30, l_40, l_50, l_61, l_65, l_81, e2, hl, e3, e4]
          exact ih (k + 1) (c + 1) _ _ m4 i4 l4 q4 _ _ _ (by omega) (by omega) he (CW_do (CW_ff hf4 hC3) c0 hM4) (FG_tr hff3 hf4 rfl rfl rfl) hF4 (by rw [hf4.1 0 rfl, h35]) (by rw [hf4.1 0 rfl, h315])
        · rw [if_neg c0] at he
          have hle : dWhy g1 (dN x1).1 < 2147483648 := by
            have := (tl_ok (f := fun _ => lN (dN x1).1) 1 0 g1 hC1.2.2.1).2.2.1
            rw [tl, lWhy_n hlt, if_neg c0] at this
            have this : dWhy g1 (dN x1).1 ≤ 3 := this
            omega
          simp (disch := first | assumption | omega) only [b_X_season_0, b_X_season_11, b_X_season_40, b_X_season_50, b_X_season_61, b_X_season_65, b_X_season_81, ↓Bool.cond_decide, ↓q_in, q_le, q_lt, q_eq, q_leT, q_leF, q_ltT, q_ltF, q_eqT, q_eqF, ↓reduceIte, not_true_eq_false, not_false_eq_true, true_and, and_true, and_self, false_and, and_false, Nat.zero_le, am_bd_some, q_app, q_app0, nI_add, pk_sub, pk_mul, q_dec, q_ix, q_m1, q_m1', ↓q_ret, q_bool, q_bool1, q_u2, q_u1, q_shl1, q_shr, q_and7, q_dg, fa_or, fa_and, decide_true, decide_false, Bool.or_false, Bool.or_true, Bool.true_or, Bool.false_or, cond_true, cond_false, ite_not, q_some, q_nn, q_xor, q_xorm, Bool.false_eq_true, decide_eq_true_eq, ne_eq, l_0, l_1, l_3, l_4, l_5, l_8, l_9, l_11, l_13, l_15, l_21, l_30, l_40, l_50, l_61, l_65, l_81, e2, hl, e3, c0]
          exact ih (k + 1) c _ _ m1 i3 l3 q3 _ _ _ (by omega) (by omega) he hC3 hff3 hF3 h35 h315
    rw [decide_eq_false (show ¬ nI N < (1 : Int32) from y1), cond_false, decide_eq_true (show nI N ≤ (40 : Int32) from y2), cond_true, a5]
    exact loop N 0 0 x σ.1 m _ l q _ _ _ (by omega) (by omega) rfl (CW_fg (Ri := [0]) (Rl := []) (Rq := []) ⟨Fr_u2 rfl (Fr_refl _ _), fun _ _ => rfl, fun _ _ => rfl⟩ rfl rfl rfl (CW_of hC (gE_refl _) hC.2.2.1 hC.2.2.2.2.2)) ⟨Fr_u2 rfl (Fr_refl _ _), fun _ _ => rfl, fun _ _ => rfl⟩ (XF_i (Ri := [0]) (Fr_u2 rfl (Fr_refl _ _)) rfl rfl rfl rfl hF) rfl rfl
  · rw [if_neg hy, if_neg (fun z => hy z.1)]
    by_cases y1 : y < nI 1
    · rw [decide_eq_true (show y < (1 : Int32) from y1), cond_true, b_X_season_11]
      exact DR_0 hC hF hPH
    · have y2 : ¬ y ≤ nI 40 := fun z => hy (hyr.mpr ⟨y1, z⟩)
      rw [decide_eq_false (show ¬ y < (1 : Int32) from y1), cond_false, decide_eq_false (show ¬ y ≤ (40 : Int32) from y2), cond_false, b_X_season_11]
      exact DR_0 hC hF hPH
end
