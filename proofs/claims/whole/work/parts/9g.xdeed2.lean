/-! THE CLASS: deeds are done and noted -/
/-- the past -/
def PH (g : Nat → Nat) (i : Nat → Nat → Int32) (l : Nat → Nat → Int64) : Prop := i 0 5 = nI (g 32) ∧ ∀ n, n < g 32 → ∃ m, l 10 n = lN m ∧ RM m (fun k => g (33 + 14 * n + k))
/-- a deed's run -/
def DR (ρ : Nat → Nat → Nat) (r : Nat) (K : List (Nat × Nat)) (i : Nat → Nat → Int32) (l : Nat → Nat → Int64) (q : Nat → Nat → Option Nat) (v : Option Value) (g' : Nat → Nat) (o : Option aR) : Prop := ∃ i' l' q' m', o = some (v, (i', l', rX q', kX K)) ∧ FG (0 :: RF) [0, 10, 11] [11] i i' l l' q q' ∧ XF ρ i' l' q' K ∧ CV ρ r g' m' i' l' q' K ∧ PH g' i' l'
section
variable {i i' : Nat → Nat → Int32} {l l' : Nat → Nat → Int64} {q q' : Nat → Nat → Option Nat} {K : List (Nat × Nat)} {r m : Nat} {g : Nat → Nat} {ρ : Nat → Nat → Nat}
theorem y_become (d : Nat) {m2 : Nat} {g1 : Nat → Nat} (hm : l 0 3 = lN m) (hM : RM m (gCur g)) (hPH : PH g i l) (h32 : g 32 ≤ 10) (ho : ∀ j, 32 ≤ j → g1 j = g j) : ∃ i' l', am_cl (d + 1) mX_become [.ref 0, .long (lN m2)] (i, l, rX q, kX K) = some (none, (i', l', rX q, kX K)) ∧ FG [0] [0, 10] [] i i' l l' q q ∧ l' 0 3 = lN m2 ∧ PH (gNote g1 (gCur g)) i' l' := by
  obtain ⟨h5, hp⟩ := hPH
  have e32 : g1 32 = g 32 := ho 32 (by omega)
  obtain ⟨n1, n2, n3, n4⟩ := gNote_e (g := g1) (w := gCur g) (by omega)
  rw [e32] at n2
  rw [c_X_become, b_X_become_0, h5]
  by_cases c : g 32 = 10
  · rw [c]
    rw [show decide (¬ nI 10 = (10 : Int32)) = false from rfl, cond_false, b_X_become_34]
    rw [if_pos c] at n2
    refine ⟨_, _, rfl, ⟨Fr_u2 rfl (Fr_u2 rfl (Fr_refl _ _)), fun x hx => ?_, fun x _ => rfl⟩, rfl, ?_, fun n hn => ?_⟩
    · have x0 : x ≠ 0 := fun z => by rw [z] at hx; cases hx
      have x10 : x ≠ 10 := fun z => by rw [z] at hx; cases hx
      funext k
      simp only [am_u2, am_cpyl, am_u1, if_neg x0, if_neg x10]
    · rw [n2]; rfl
    · rw [n2] at hn
      by_cases c2 : n = 9
      · subst c2
        refine ⟨m, hm, RM_cg hM (fun k hk => n4 9 k (by rw [n2]) hk)⟩
      · obtain ⟨m', hm', hM'⟩ := hp (n + 1) (by omega)
        refine ⟨m', ?_, RM_cg hM' (fun k hk => ?_)⟩
        · rw [← hm']
          show (if n = 9 then l 0 3 else va_cpy (l 10) (l 10) 1 0 9 n) = _
          rw [if_neg c2]
          unfold va_cpy
          rw [if_pos (by omega)]
          congr 1; omega
        · rw [n3 n k (by rw [n2]; omega) hk, e32, if_pos c]
          exact ho _ (by omega)
  · rw [if_neg c] at n2
    have c' : ¬ nI (g 32) = (10 : Int32) := by
      show ¬ nI (g 32) = nI 10
      rw [q_eq (by omega) (by omega)]; exact c
    rw [decide_eq_true c', cond_true, b_X_become_34, h5]
    have hin : am_in (nI (g 32)) 10 = true := by
      unfold am_in
      rw [nI_clamp (by omega), decide_eq_true (show (0 : Int32) ≤ nI (g 32) from by
        show nI 0 ≤ nI (g 32)
        rw [q_le (by omega) (by omega)]; omega), decide_eq_true (by omega)]; rfl
    rw [hin, cond_true, nI_clamp (by omega), show nI (g 32) + (1 : Int32) = nI (g 32 + 1) from nI_add _ 1]
    refine ⟨_, _, rfl, ⟨Fr_u2 rfl (Fr_refl _ _), fun x hx => ?_, fun x _ => rfl⟩, rfl, ?_, fun n hn => ?_⟩
    · have x0 : x ≠ 0 := fun z => by rw [z] at hx; cases hx
      have x10 : x ≠ 10 := fun z => by rw [z] at hx; cases hx
      funext k
      simp only [am_u2, if_neg x0, if_neg x10]
    · rw [n2]; rfl
    · rw [n2] at hn
      by_cases c2 : n = g 32
      · refine ⟨m, ?_, RM_cg hM (fun k hk => n4 n k (by rw [n2, c2]) hk)⟩
        show (if n = g 32 then l 0 3 else l 10 n) = _
        rw [if_pos c2]; exact hm
      · obtain ⟨m', hm', hM'⟩ := hp n (by omega)
        refine ⟨m', ?_, RM_cg hM' (fun k hk => ?_)⟩
        · show (if n = g 32 then l 0 3 else l 10 n) = _
          rw [if_neg c2]; exact hm'
        · rw [n3 n k (by rw [n2]; omega) hk, e32, if_neg c]
          exact ho _ (by omega)
theorem DR_0 {v : Option Value} (hC : CV ρ r g m i l q K) (hF : XF ρ i l q K) (hPH : PH g i l) : DR ρ r K i l q v g (some (v, (i, l, rX q, kX K))) := ⟨i, l, q, m, rfl, FG_refl _ _ _ _ _ _, hF, hC, hPH⟩
theorem PH_ff {Ri Rl Rq : List Nat} (h : FG Ri Rl Rq i i' l l' q q') (h0 : Ri.contains 0 = false) (h10 : Rl.contains 10 = false) (hPH : PH g i l) : PH g i' l' := by
  unfold PH at hPH ⊢
  rw [h.1 0 h0, h.2.1 10 h10]; exact hPH
theorem DR_y {v : Option Value} (hC : CV ρ r g m i l q K) (hPH : PH g i l) (hf : FG RF [11] [11] i i' l l' q q') (hF : XF ρ i' l' q' K) : DR ρ r K i l q v g (some (v, (i', l', rX q', kX K))) := ⟨i', l', q', m, rfl, FG_tr (FG_refl _ _ _ _ _ _) hf rfl rfl rfl, hF, CV_ff hf hC, PH_ff hf rfl rfl hPH⟩
/-- a deed is done and noted -/
theorem DR_be (d : Nat) {i1 : Nat → Nat → Int32} {l1 : Nat → Nat → Int64} {q1 : Nat → Nat → Option Nat} {m2 : Nat} {g1 : Nat → Nat} (hC : CV ρ r g m i l q K) (hPH : PH g i l) (h32 : g 32 ≤ 10) (hf : FG (0 :: RF) [11] [11] i i1 l l1 q q1) (hF : XF ρ i1 l1 q1 K) (h05 : i1 0 5 = i 0 5) (hM2 : RM m2 (gCur g1)) (ho : ∀ j, (j < 18 ∨ 32 ≤ j) → g1 j = g j) (hW : WG (gNote g1 (gCur g))) : ∃ i2 l2, am_cl (d + 1) mX_become [.ref 0, .long (lN m2)] (i1, l1, rX q1, kX K) = some (none, (i2, l2, rX q1, kX K)) ∧ ∀ v, DR ρ r K i l q v (gNote g1 (gCur g)) (some (v, (i2, l2, rX q1, kX K))) := by
  have hPH1 : PH g i1 l1 := by
    obtain ⟨p1, p2⟩ := hPH
    exact ⟨h05.trans p1, by rw [hf.2.1 10 rfl]; exact p2⟩
  obtain ⟨i2, l2, e, hf2, h03, hPH2⟩ := y_become (i := i1) (l := l1) (q := q1) (K := K) d (m2 := m2) (g1 := g1) (by rw [hf.2.1 0 rfl]; exact hC.2.2.2.2.1) hC.2.2.2.2.2 hPH1 h32 (fun j hj => ho j (Or.inr hj))
  refine ⟨i2, l2, e, fun v => ⟨i2, l2, q1, m2, rfl, FG_tr (FG_tr (FG_refl _ _ _ _ _ _) hf rfl rfl rfl) hf2 rfl rfl rfl, ?_, ?_, hPH2⟩⟩
  · obtain ⟨rf, mf, gf, ⟨f1, f2, f3, f4, f5⟩, f6, f7, f8, f9⟩ := hF
    refine ⟨rf, mf, gf, ⟨f1, by rw [hf2.2.1 11 rfl]; exact f2, f3, ?_, ?_⟩, f6, f7, f8, f9⟩
    · unfold TV at f4 ⊢
      rw [hf2.1 18 rfl, hf2.1 19 rfl]; exact f4
    · unfold HV at f5 ⊢
      rw [hf2.1 20 rfl, hf2.1 21 rfl]; exact f5
  · obtain ⟨a1, a2, a3, a4, a5, a6⟩ := hC
    have n1 := (gNote_e (g := g1) (w := gCur g) (by rw [ho 32 (by omega)]; exact h32)).1
    have he : gE g (gNote g1 (gCur g)) := fun j _ hj => by
      rw [n1 j (by omega), ho j (by omega)]
    refine ⟨by rw [hf.2.2 0 rfl]; exact a1, RV_E (RV_fg hf2 rfl rfl (RV_fg hf rfl rfl a2)) he a3.2.2.2.2.2.2.2.2.1 a3.2.2.2.2.2.2.2.2.2.1, hW, gE_tr a4 he, h03, RM_cg hM2 (fun k hk => ?_)⟩
    show gNote g1 (gCur g) (18 + k) = g1 (18 + k)
    exact n1 _ (by omega)
end
section
variable {i : Nat → Nat → Int32} {l : Nat → Nat → Int64} {q : Nat → Nat → Option Nat} {K : List (Nat × Nat)} {r m : Nat} {ρ : Nat → Nat → Nat} {σ : St}
theorem y_X_go (d : Nat) (x y : Int32) (hC : CV ρ r σ.1 m i l q K) (hF : XF ρ i l q K) (hPH : PH σ.1 i l) (hI : SI σ) : DR ρ r K i l q (some (.int (v_go σ.1 x y))) (a_go σ x y).1 (am_cl (d + 7) mX_go [.ref 0, .int x, .int y] (i, l, rX q, kX K)) := by
  have hSI := SI_go x y hI
  obtain ⟨g, σ⟩ := σ
  have hC : CV ρ r g m i l q K := hC
  obtain ⟨a1, a2, hW, a4, a5, a6⟩ := id hC
  have a1 : rX q 0 2 = some r := a1
  obtain ⟨fP, fS, fL, fE, fF, fB, fU, fV, fK, fW, hk, ra, ra1, ra2, ra3⟩ := CV_f a2 hW
  obtain ⟨fN, fO, fT, fD⟩ := RM_f a6 hW
  have h1 : g 1 ≤ 6 := hW.1.2
  have h2 : g 2 ≤ 4 := hW.2.1
  have hR : ∀ p, p < 4 → g (10 + p) ≤ 4 := hW.2.2.2.1
  have hP : ∀ p, p < 4 → g (18 + p) < 8 := hW.2.2.2.2.2.1
  have hSt : ∀ p, p < 4 → g (22 + p) ≤ 9 := hW.2.2.2.2.2.2.1
  have hn := sNow_lt g hP 4 (by decide)
  have hvs : VS g (sNow g 4) := hW.2.2.2.2.2.2.2.2.2.2
  obtain ⟨i1, l1, q1, e1, hf1, hF1⟩ := y_whyNotGo d x y (CW_of hC (gE_refl g) hW a6) hF
  have a51 : l1 0 3 = lN m := by rw [hf1.2.1 0 rfl]; exact a5
  rw [c_X_go, b_X_go_0, v_go]
  unfold a_go at hSI ⊢
  dsimp only at hSI ⊢
  by_cases h0 : sWhy g x y = 0
  · rw [if_pos h0] at hSI
    rw [if_pos h0, if_pos h0]
    rw [h0] at e1
    obtain ⟨p, t, hp, ht, rfl, rfl, _⟩ := sWhy_0 h0
    have hp4 : p < 4 := by omega
    rw [nI_clamp (by omega), nI_clamp (by omega)] at hSI
    rw [nI_clamp (by omega), nI_clamp (by omega)]
    have hw := fun s => s_X_withPlace (d + 4) (m := m) (p := p) (v := t) (by omega) (by omega) s
    obtain ⟨i2, l2, e2, hD⟩ := DR_be (d + 5) (m2 := wb m (3 * p) 3 t) (g1 := ug g (18 + p) t) hC hPH hI.2.1.1 (FG_tr (FG_refl _ _ _ _ _ _) hf1 rfl rfl rfl) hF1 (by rw [hf1.1 0 rfl]) (by rw [gCur_ug]; exact RM_place a6 (by omega) (by omega)) (fun j hj => by unfold ug; rw [if_neg (by omega)]) hSI.1
    simp (disch := first | assumption | omega) only [b_X_go_0, b_X_go_10, b_X_go_28, b_X_go_40, b_X_go_43, ↓Bool.cond_decide, ↓q_in, q_le, q_lt, q_eq, q_leT, q_leF, q_ltT, q_ltF, q_eqT, q_eqF, ↓reduceIte, not_true_eq_false, not_false_eq_true, true_and, and_true, and_self, false_and, and_false, Nat.zero_le, am_bd_some, q_app, q_app0, nI_add, pk_sub, pk_mul, q_dec, q_ix, q_m1, q_m1', ↓q_ret, q_bool, q_bool1, q_u2, q_u1, q_shl1, q_shr, q_and7, q_dg, fa_or, fa_and, decide_true, decide_false, Bool.or_false, Bool.or_true, Bool.true_or, Bool.false_or, cond_true, cond_false, ite_not, q_some, q_nn, q_xor, q_xorm, Bool.false_eq_true, decide_eq_true_eq, ne_eq, l_0, l_1, l_3, l_4, l_8, l_9, l_10, l_13, l_28, l_40, l_43, e1, a51, hw, e2, a1, a5, hk, fP, fS, fL, fE, fF, fB, fU, fV, fK, fW, fN, fO, fT, fD, ra1, ra2, cond_true, Bool.and_true, kd11]
    exact hD _
  · rw [if_neg h0, if_neg h0]
    have hle : sWhy g x y < 2147483648 := by unfold sWhy; split <;> (try split) <;> (try split) <;> omega
    simp (disch := first | assumption | omega) only [b_X_go_0, b_X_go_10, b_X_go_28, b_X_go_40, b_X_go_43, s_X_withPlace, ↓Bool.cond_decide, ↓q_in, q_le, q_lt, q_eq, q_leT, q_leF, q_ltT, q_ltF, q_eqT, q_eqF, ↓reduceIte, not_true_eq_false, not_false_eq_true, true_and, and_true, and_self, false_and, and_false, Nat.zero_le, am_bd_some, q_app, q_app0, nI_add, pk_sub, pk_mul, q_dec, q_ix, q_m1, q_m1', ↓q_ret, q_bool, q_bool1, q_u2, q_u1, q_shl1, q_shr, q_and7, q_dg, fa_or, fa_and, decide_true, decide_false, Bool.or_false, Bool.or_true, Bool.true_or, Bool.false_or, cond_true, cond_false, ite_not, q_some, q_nn, q_xor, q_xorm, Bool.false_eq_true, decide_eq_true_eq, ne_eq, l_0, l_1, l_3, l_4, l_8, l_9, l_10, l_13, l_28, l_40, l_43, e1, h0, a1, a5, hk, fP, fS, fL, fE, fF, fB, fU, fV, fK, fW, fN, fO, fT, fD, ra1, ra2, cond_true, Bool.and_true, kd11]
    exact DR_y hC hPH hf1 hF1
theorem y_X_flood (d : Nat) (x : Int32) (hC : CV ρ r σ.1 m i l q K) (hF : XF ρ i l q K) (hPH : PH σ.1 i l) (hI : SI σ) : DR ρ r K i l q (some (.int (v_flood σ.1 x))) (a_flood σ x).1 (am_cl (d + 6) mX_flood [.ref 0, .int x] (i, l, rX q, kX K)) := by
  have hSI := SI_flood x hI
  obtain ⟨g, σ⟩ := σ
  have hC : CV ρ r g m i l q K := hC
  obtain ⟨a1, a2, hW, a4, a5, a6⟩ := id hC
  have a1 : rX q 0 2 = some r := a1
  obtain ⟨fP, fS, fL, fE, fF, fB, fU, fV, fK, fW, hk, ra, ra1, ra2, ra3⟩ := CV_f a2 hW
  obtain ⟨fN, fO, fT, fD⟩ := RM_f a6 hW
  have h1 : g 1 ≤ 6 := hW.1.2
  have h2 : g 2 ≤ 4 := hW.2.1
  have hR : ∀ p, p < 4 → g (10 + p) ≤ 4 := hW.2.2.2.1
  have hP : ∀ p, p < 4 → g (18 + p) < 8 := hW.2.2.2.2.2.1
  have hSt : ∀ p, p < 4 → g (22 + p) ≤ 9 := hW.2.2.2.2.2.2.1
  have hn := sNow_lt g hP 4 (by decide)
  have hvs : VS g (sNow g 4) := hW.2.2.2.2.2.2.2.2.2.2
  have hII := iR10 x
  rw [c_X_flood, b_X_flood_0, v_flood]
  unfold a_flood at hSI ⊢
  dsimp only at hSI ⊢
  by_cases hx : iB x 10 = true
  · rw [if_pos hx] at hSI
    have hx' := hx
    obtain ⟨w, hw, rfl⟩ := iB_T hx'
    rw [if_pos hx, if_pos hx]
    rw [nI_clamp (by omega)] at hSI
    rw [nI_clamp (by omega)]
    obtain ⟨i1, l1, q1, e1, hf1, hF1⟩ := y_sweptNow d (w := w) hC hF (by omega)
    have a51 : l1 0 3 = lN m := by rw [hf1.2.1 0 rfl]; exact a5
    have hC1 := CV_ff hf1 hC
    have h0 : dWhy g (100 + w) = 0 := by
      unfold dWhy
      rw [if_neg (by omega), if_pos (by omega)]
    have eD : dDo g (100 + w) = gStand g (sFl g w (sNow g 4)) := by
      unfold dDo
      rw [if_neg (by omega), if_pos (by omega), Nat.add_sub_cancel_left]
    obtain ⟨m2, ⟨i2, l2, q2, e2, hf2, hF2⟩, hM2⟩ := y_done d (n := 100 + w) (CW_of hC1 (gE_refl g) hW a6) hF1 h0
    rw [eD] at hM2
    have e3 : Int32.toInt64 ((100 : Int32) + nI w) = lN (100 + w) := by
      rw [show (100 : Int32) + nI w = nI (100 + w) from nI_add 100 w, nI_l (by omega)]
    have hf12 := FG_tr hf1 hf2 rfl rfl rfl
    obtain ⟨i3, l3, e4, hD⟩ := DR_be (d + 4) (m2 := m2) (g1 := gStand g (sFl g w (sNow g 4))) hC hPH hI.2.1.1 (FG_tr (FG_refl _ _ _ _ _ _) hf12 rfl rfl rfl) hF2 (by rw [hf12.1 0 rfl]) hM2 (fun j hj => by unfold gStand; rw [if_neg (by omega)]) hSI.1
    simp (disch := first | assumption | omega) only [b_X_flood_0, b_X_flood_4, b_X_flood_30, b_X_flood_33, s_X_isDigit, ↓Bool.cond_decide, ↓q_in, q_le, q_lt, q_eq, q_leT, q_leF, q_ltT, q_ltF, q_eqT, q_eqF, ↓reduceIte, not_true_eq_false, not_false_eq_true, true_and, and_true, and_self, false_and, and_false, Nat.zero_le, am_bd_some, q_app, q_app0, nI_add, pk_sub, pk_mul, q_dec, q_ix, q_m1, q_m1', ↓q_ret, q_bool, q_bool1, q_u2, q_u1, q_shl1, q_shr, q_and7, q_dg, fa_or, fa_and, decide_true, decide_false, Bool.or_false, Bool.or_true, Bool.true_or, Bool.false_or, cond_true, cond_false, ite_not, q_some, q_nn, q_xor, q_xorm, Bool.false_eq_true, decide_eq_true_eq, ne_eq, l_0, l_1, l_3, l_4, l_8, l_11, l_12, l_15, l_30, l_33, l_100, hx, hII, e1, a1, a5, hk, fP, fS, fL, fE, fF, fB, fU, fV, fK, fW, fN, fO, fT, fD, ra1, ra2, cond_true, Bool.and_true, kd11]
    rw [b_X_flood_15, a51, e3, e2, am_bd_some, q_app, b_X_flood_30, e4, am_bd_some, q_app0, b_X_flood_33]
    exact hD _
  · rw [if_neg hx, if_neg hx]
    simp (disch := first | assumption | omega) only [b_X_flood_0, b_X_flood_4, b_X_flood_15, b_X_flood_30, b_X_flood_33, s_X_isDigit, ↓Bool.cond_decide, ↓q_in, q_le, q_lt, q_eq, q_leT, q_leF, q_ltT, q_ltF, q_eqT, q_eqF, ↓reduceIte, not_true_eq_false, not_false_eq_true, true_and, and_true, and_self, false_and, and_false, Nat.zero_le, am_bd_some, q_app, q_app0, nI_add, pk_sub, pk_mul, q_dec, q_ix, q_m1, q_m1', ↓q_ret, q_bool, q_bool1, q_u2, q_u1, q_shl1, q_shr, q_and7, q_dg, fa_or, fa_and, decide_true, decide_false, Bool.or_false, Bool.or_true, Bool.true_or, Bool.false_or, cond_true, cond_false, ite_not, q_some, q_nn, q_xor, q_xorm, Bool.false_eq_true, decide_eq_true_eq, ne_eq, l_0, l_1, l_3, l_4, l_8, l_11, l_12, l_15, l_30, l_33, l_100, hx, hII, a1, a5, hk, fP, fS, fL, fE, fF, fB, fU, fV, fK, fW, fN, fO, fT, fD, ra1, ra2, cond_true, Bool.and_true, kd11]
    exact DR_0 hC hF hPH
theorem y_X_strength (d : Nat) (x y : Int32) (hC : CV ρ r σ.1 m i l q K) (hF : XF ρ i l q K) (hPH : PH σ.1 i l) (hI : SI σ) : DR ρ r K i l q (some (.int (v_strength σ.1 x y))) (a_strength σ x y).1 (am_cl (d + 3) mX_strength [.ref 0, .int x, .int y] (i, l, rX q, kX K)) := by
  have hSI := SI_strength x y hI
  obtain ⟨g, σ⟩ := σ
  have hC : CV ρ r g m i l q K := hC
  obtain ⟨a1, a2, hW, a4, a5, a6⟩ := id hC
  have a1 : rX q 0 2 = some r := a1
  obtain ⟨fP, fS, fL, fE, fF, fB, fU, fV, fK, fW, hk, ra, ra1, ra2, ra3⟩ := CV_f a2 hW
  obtain ⟨fN, fO, fT, fD⟩ := RM_f a6 hW
  have h1 : g 1 ≤ 6 := hW.1.2
  have h2 : g 2 ≤ 4 := hW.2.1
  have hR : ∀ p, p < 4 → g (10 + p) ≤ 4 := hW.2.2.2.1
  have hP : ∀ p, p < 4 → g (18 + p) < 8 := hW.2.2.2.2.2.1
  have hSt : ∀ p, p < 4 → g (22 + p) ≤ 9 := hW.2.2.2.2.2.2.1
  have hn := sNow_lt g hP 4 (by decide)
  have hvs : VS g (sNow g 4) := hW.2.2.2.2.2.2.2.2.2.2
  rw [c_X_strength, b_X_strength_0, v_strength]
  unfold a_strength at hSI ⊢
  dsimp only at hSI ⊢
  by_cases hx : iB x (g 2) = true
  · by_cases hy : iR 0 9 y = true
    · rw [if_pos ⟨hx, hy⟩] at hSI
      rw [if_pos ⟨hx, hy⟩, if_pos ⟨hx, hy⟩]
      have hx' := hx
      obtain ⟨p, hp, rfl⟩ := iB_T hx'
      have hy' := hy
      obtain ⟨t, _, ht, rfl⟩ := iR_T hy'
      have hp4 : p < 4 := by omega
      rw [nI_clamp (by omega), nI_clamp (by omega)] at hSI
      rw [nI_clamp (by omega), nI_clamp (by omega)]
      have hw := fun s => s_X_withStrength d (m := m) (p := p) (v := t) (by omega) (by omega) s
      obtain ⟨i2, l2, e2, hD⟩ := DR_be (d + 1) (m2 := wb m (12 + 4 * p) 4 t) (g1 := ug g (22 + p) t) hC hPH hI.2.1.1 (FG_refl _ _ _ _ _ _) hF rfl (by rw [show 22 + p = 18 + (4 + p) by omega, gCur_ug]; exact RM_strength a6 (by omega) (by omega)) (fun j hj => by unfold ug; rw [if_neg (by omega)]) hSI.1
      simp (disch := first | assumption | omega) only [b_X_strength_0, b_X_strength_8, b_X_strength_15, b_X_strength_18, b_X_strength_29, b_X_strength_40, b_X_strength_43, s_X_isDigit, ↓Bool.cond_decide, ↓q_in, q_le, q_lt, q_eq, q_leT, q_leF, q_ltT, q_ltF, q_eqT, q_eqF, ↓reduceIte, not_true_eq_false, not_false_eq_true, true_and, and_true, and_self, false_and, and_false, Nat.zero_le, am_bd_some, q_app, q_app0, nI_add, pk_sub, pk_mul, q_dec, q_ix, q_m1, q_m1', ↓q_ret, q_bool, q_bool1, q_u2, q_u1, q_shl1, q_shr, q_and7, q_dg, fa_or, fa_and, decide_true, decide_false, Bool.or_false, Bool.or_true, Bool.true_or, Bool.false_or, cond_true, cond_false, ite_not, q_some, q_nn, q_xor, q_xorm, Bool.false_eq_true, decide_eq_true_eq, ne_eq, l_0, l_1, l_2, l_3, l_4, l_6, l_8, l_9, l_11, l_15, l_18, l_29, l_40, l_43, hx, hy, hw, e2, a1, a5, hk, fP, fS, fL, fE, fF, fB, fU, fV, fK, fW, fN, fO, fT, fD, ra1, ra2, cond_true, Bool.and_true, kd11]
      exact hD _
    · rw [if_neg (fun z => hy z.2), if_neg (fun z => hy z.2)]
      simp (disch := first | assumption | omega) only [b_X_strength_0, b_X_strength_8, b_X_strength_15, b_X_strength_18, b_X_strength_29, b_X_strength_40, b_X_strength_43, s_X_isDigit, s_X_withStrength, ↓Bool.cond_decide, ↓q_in, q_le, q_lt, q_eq, q_leT, q_leF, q_ltT, q_ltF, q_eqT, q_eqF, ↓reduceIte, not_true_eq_false, not_false_eq_true, true_and, and_true, and_self, false_and, and_false, Nat.zero_le, am_bd_some, q_app, q_app0, nI_add, pk_sub, pk_mul, q_dec, q_ix, q_m1, q_m1', ↓q_ret, q_bool, q_bool1, q_u2, q_u1, q_shl1, q_shr, q_and7, q_dg, fa_or, fa_and, decide_true, decide_false, Bool.or_false, Bool.or_true, Bool.true_or, Bool.false_or, cond_true, cond_false, ite_not, q_some, q_nn, q_xor, q_xorm, Bool.false_eq_true, decide_eq_true_eq, ne_eq, l_0, l_1, l_2, l_3, l_4, l_6, l_8, l_9, l_11, l_15, l_18, l_29, l_40, l_43, hx, hy, a1, a5, hk, fP, fS, fL, fE, fF, fB, fU, fV, fK, fW, fN, fO, fT, fD, ra1, ra2, cond_true, Bool.and_true, kd11]
      exact DR_0 hC hF hPH
  · rw [if_neg (fun z => hx z.1), if_neg (fun z => hx z.1)]
    simp (disch := first | assumption | omega) only [b_X_strength_0, b_X_strength_8, b_X_strength_15, b_X_strength_18, b_X_strength_29, b_X_strength_40, b_X_strength_43, s_X_isDigit, s_X_withStrength, ↓Bool.cond_decide, ↓q_in, q_le, q_lt, q_eq, q_leT, q_leF, q_ltT, q_ltF, q_eqT, q_eqF, ↓reduceIte, not_true_eq_false, not_false_eq_true, true_and, and_true, and_self, false_and, and_false, Nat.zero_le, am_bd_some, q_app, q_app0, nI_add, pk_sub, pk_mul, q_dec, q_ix, q_m1, q_m1', ↓q_ret, q_bool, q_bool1, q_u2, q_u1, q_shl1, q_shr, q_and7, q_dg, fa_or, fa_and, decide_true, decide_false, Bool.or_false, Bool.or_true, Bool.true_or, Bool.false_or, cond_true, cond_false, ite_not, q_some, q_nn, q_xor, q_xorm, Bool.false_eq_true, decide_eq_true_eq, ne_eq, l_0, l_1, l_2, l_3, l_4, l_6, l_8, l_9, l_11, l_15, l_18, l_29, l_40, l_43, hx, a1, a5, hk, fP, fS, fL, fE, fF, fB, fU, fV, fK, fW, fN, fO, fT, fD, ra1, ra2, cond_true, Bool.and_true, kd11]
    exact DR_0 hC hF hPH
theorem y_X_depth (d : Nat) (x y : Int32) (hC : CV ρ r σ.1 m i l q K) (hF : XF ρ i l q K) (hPH : PH σ.1 i l) (hI : SI σ) : DR ρ r K i l q (some (.int (v_depth σ.1 x y))) (a_depth σ x y).1 (am_cl (d + 3) mX_depth [.ref 0, .int x, .int y] (i, l, rX q, kX K)) := by
  have hSI := SI_depth x y hI
  obtain ⟨g, σ⟩ := σ
  have hC : CV ρ r g m i l q K := hC
  obtain ⟨a1, a2, hW, a4, a5, a6⟩ := id hC
  have a1 : rX q 0 2 = some r := a1
  obtain ⟨fP, fS, fL, fE, fF, fB, fU, fV, fK, fW, hk, ra, ra1, ra2, ra3⟩ := CV_f a2 hW
  obtain ⟨fN, fO, fT, fD⟩ := RM_f a6 hW
  have h1 : g 1 ≤ 6 := hW.1.2
  have h2 : g 2 ≤ 4 := hW.2.1
  have hR : ∀ p, p < 4 → g (10 + p) ≤ 4 := hW.2.2.2.1
  have hP : ∀ p, p < 4 → g (18 + p) < 8 := hW.2.2.2.2.2.1
  have hSt : ∀ p, p < 4 → g (22 + p) ≤ 9 := hW.2.2.2.2.2.2.1
  have hn := sNow_lt g hP 4 (by decide)
  have hvs : VS g (sNow g 4) := hW.2.2.2.2.2.2.2.2.2.2
  rw [c_X_depth, b_X_depth_0, v_depth]
  unfold a_depth at hSI ⊢
  dsimp only at hSI ⊢
  by_cases hx : iS g x = true
  · by_cases hy : iR 0 9 y = true
    · rw [if_pos ⟨hx, hy⟩] at hSI
      rw [if_pos ⟨hx, hy⟩, if_pos ⟨hx, hy⟩]
      have hx' := hx
      obtain ⟨p, hp1, hp2, rfl⟩ := iS_T hx'
      have hy' := hy
      obtain ⟨t, _, ht, rfl⟩ := iR_T hy'
      rw [nI_clamp (by omega), nI_clamp (by omega)] at hSI
      rw [nI_clamp (by omega), nI_clamp (by omega)]
      obtain ⟨p, rfl⟩ : ∃ p', p = p' + 1 := ⟨p - 1, by omega⟩
      have hw := fun s => s_X_withDepth d (m := m) (t := p) (v := t) (by omega) (by omega) s
      obtain ⟨i2, l2, e2, hD⟩ := DR_be (d + 1) (m2 := wb m (28 + 4 * p) 4 t) (g1 := ug g (25 + (p + 1)) t) hC hPH hI.2.1.1 (FG_refl _ _ _ _ _ _) hF rfl (by rw [show 25 + (p + 1) = 18 + (8 + p) by omega, gCur_ug]; exact RM_depth a6 (by omega) (by omega)) (fun j hj => by unfold ug; rw [if_neg (by omega)]) hSI.1
      simp (disch := first | assumption | omega) only [b_X_depth_0, b_X_depth_8, b_X_depth_15, b_X_depth_18, b_X_depth_29, b_X_depth_40, b_X_depth_43, s_X_isDigit, ↓Bool.cond_decide, ↓q_in, q_le, q_lt, q_eq, q_leT, q_leF, q_ltT, q_ltF, q_eqT, q_eqF, ↓reduceIte, not_true_eq_false, not_false_eq_true, true_and, and_true, and_self, false_and, and_false, Nat.zero_le, am_bd_some, q_app, q_app0, nI_add, pk_sub, pk_mul, q_dec, q_ix, q_m1, q_m1', ↓q_ret, q_bool, q_bool1, q_u2, q_u1, q_shl1, q_shr, q_and7, q_dg, fa_or, fa_and, decide_true, decide_false, Bool.or_false, Bool.or_true, Bool.true_or, Bool.false_or, cond_true, cond_false, ite_not, q_some, q_nn, q_xor, q_xorm, Bool.false_eq_true, decide_eq_true_eq, ne_eq, l_0, l_1, l_2, l_3, l_4, l_6, l_8, l_9, l_11, l_15, l_18, l_29, l_40, l_43, hx, hy, hw, e2, a1, a5, hk, fP, fS, fL, fE, fF, fB, fU, fV, fK, fW, fN, fO, fT, fD, ra1, ra2, cond_true, Bool.and_true, kd11]
      exact hD _
    · rw [if_neg (fun z => hy z.2), if_neg (fun z => hy z.2)]
      simp (disch := first | assumption | omega) only [b_X_depth_0, b_X_depth_8, b_X_depth_15, b_X_depth_18, b_X_depth_29, b_X_depth_40, b_X_depth_43, s_X_isDigit, s_X_withDepth, ↓Bool.cond_decide, ↓q_in, q_le, q_lt, q_eq, q_leT, q_leF, q_ltT, q_ltF, q_eqT, q_eqF, ↓reduceIte, not_true_eq_false, not_false_eq_true, true_and, and_true, and_self, false_and, and_false, Nat.zero_le, am_bd_some, q_app, q_app0, nI_add, pk_sub, pk_mul, q_dec, q_ix, q_m1, q_m1', ↓q_ret, q_bool, q_bool1, q_u2, q_u1, q_shl1, q_shr, q_and7, q_dg, fa_or, fa_and, decide_true, decide_false, Bool.or_false, Bool.or_true, Bool.true_or, Bool.false_or, cond_true, cond_false, ite_not, q_some, q_nn, q_xor, q_xorm, Bool.false_eq_true, decide_eq_true_eq, ne_eq, l_0, l_1, l_2, l_3, l_4, l_6, l_8, l_9, l_11, l_15, l_18, l_29, l_40, l_43, hx, hy, a1, a5, hk, fP, fS, fL, fE, fF, fB, fU, fV, fK, fW, fN, fO, fT, fD, ra1, ra2, cond_true, Bool.and_true, kd11]
      exact DR_0 hC hF hPH
  · rw [if_neg (fun z => hx z.1), if_neg (fun z => hx z.1)]
    simp (disch := first | assumption | omega) only [b_X_depth_0, b_X_depth_8, b_X_depth_15, b_X_depth_18, b_X_depth_29, b_X_depth_40, b_X_depth_43, s_X_isDigit, s_X_withDepth, ↓Bool.cond_decide, ↓q_in, q_le, q_lt, q_eq, q_leT, q_leF, q_ltT, q_ltF, q_eqT, q_eqF, ↓reduceIte, not_true_eq_false, not_false_eq_true, true_and, and_true, and_self, false_and, and_false, Nat.zero_le, am_bd_some, q_app, q_app0, nI_add, pk_sub, pk_mul, q_dec, q_ix, q_m1, q_m1', ↓q_ret, q_bool, q_bool1, q_u2, q_u1, q_shl1, q_shr, q_and7, q_dg, fa_or, fa_and, decide_true, decide_false, Bool.or_false, Bool.or_true, Bool.true_or, Bool.false_or, cond_true, cond_false, ite_not, q_some, q_nn, q_xor, q_xorm, Bool.false_eq_true, decide_eq_true_eq, ne_eq, l_0, l_1, l_2, l_3, l_4, l_6, l_8, l_9, l_11, l_15, l_18, l_29, l_40, l_43, hx, a1, a5, hk, fP, fS, fL, fE, fF, fB, fU, fV, fK, fW, fN, fO, fT, fD, ra1, ra2, cond_true, Bool.and_true, kd11]
    exact DR_0 hC hF hPH
theorem y_X_undo (d : Nat) (x : Int32) (hC : CV ρ r σ.1 m i l q K) (hF : XF ρ i l q K) (hPH : PH σ.1 i l) (hI : SI σ) : DR ρ r K i l q (some (.int (v_undo σ.1 x))) (a_undo σ x).1 (am_cl (d + 1) mX_undo [.ref 0, .int x] (i, l, rX q, kX K)) := by
  have hSI := SI_undo x hI
  have h32 := hI.2.1.1
  obtain ⟨g, σ⟩ := σ
  have hC : CV ρ r g m i l q K := hC
  have h32 : g 32 ≤ 10 := h32
  obtain ⟨h5, hp⟩ := id hPH
  dsimp only at h5 hp
  rw [c_X_undo, b_X_undo_0, v_undo, h5]
  unfold a_undo at hSI ⊢
  dsimp only at hSI ⊢
  have hxc : (iR 1 10 x = true ∧ x.toNatClampNeg ≤ g 32) ↔ (¬ x < nI 1 ∧ x ≤ nI (g 32)) := by
    constructor
    · intro ⟨z1, z2⟩
      obtain ⟨n, n1, n2, rfl⟩ := iR_T z1
      rw [nI_clamp (by omega)] at z2
      rw [q_lt (by omega) (by omega), q_le (by omega) (by omega)]
      omega
    · intro ⟨z1, z2⟩
      rw [fa_lt, nI_toInt (by omega)] at z1
      rw [fa_le, nI_toInt (by omega)] at z2
      have e : iR 1 10 x = true := by unfold iR; rw [decide_eq_true_eq]; omega
      refine ⟨e, ?_⟩
      obtain ⟨n, n1, n2, rfl⟩ := iR_T e
      rw [nI_clamp (by omega)]
      rw [nI_toInt (by omega)] at z2
      omega
  by_cases hx : iR 1 10 x = true ∧ x.toNatClampNeg ≤ g 32
  · obtain ⟨z1, z2⟩ := hxc.mp hx
    rw [if_pos hx] at hSI
    rw [if_pos hx, if_pos hx]
    obtain ⟨n, n1, n2, rfl⟩ := iR_T hx.1
    have hx2 := hx.2
    rw [nI_clamp (by omega)] at hx2 hSI
    rw [nI_clamp (by omega)]
    have hin : am_in (nI (g 32 - n)) 10 = true := by
      unfold am_in
      rw [nI_clamp (by omega), decide_eq_true (show (0 : Int32) ≤ nI (g 32 - n) from by
        show nI 0 ≤ nI (g 32 - n)
        rw [q_le (by omega) (by omega)]; omega), decide_eq_true (by omega)]; rfl
    rw [decide_eq_false (show ¬ nI n < (1 : Int32) from z1), cond_false, decide_eq_true z2, cond_true, pk_sub hx2, hin, cond_true, nI_clamp (by omega)]
    obtain ⟨m', hm', hM'⟩ := hp (g 32 - n) (by omega)
    rw [hm']
    obtain ⟨a1, a2, a3, a4, a5, a6⟩ := hC
    have he : gE g (gBack g n) := fun j _ hj => by
      unfold gBack
      rw [if_neg (by omega), if_neg (by omega)]
    have e32 : gBack g n 32 = g 32 - n := rfl
    show DR ρ r K i l q _ (gBack g n) _
    refine ⟨_, _, q, m', rfl, ⟨Fr_u2 rfl (Fr_refl _ _), fun c hc => ?_, fun c _ => rfl⟩, ?_, ⟨a1, ?_, hSI.1, gE_tr a4 he, rfl, RM_cg hM' (fun k hk => ?_)⟩, ?_, fun t ht => ?_⟩
    · have x0 : c ≠ 0 := fun z => by rw [z] at hc; cases hc
      funext k
      simp only [am_u2, if_neg x0]
    · obtain ⟨rf, mf, gf, ⟨f1, f2, f3, f4, f5⟩, f6, f7, f8, f9⟩ := hF
      exact ⟨rf, mf, gf, ⟨f1, f2, f3, f4, f5⟩, f6, f7, f8, f9⟩
    · exact RV_E (RV_fr (R := [0]) (Fr_u2 rfl (Fr_refl _ _)) rfl a2) he a3.2.2.2.2.2.2.2.2.1 a3.2.2.2.2.2.2.2.2.2.1
    · unfold gCur gBack
      rw [if_neg (by omega), if_pos (by omega), show 18 + k - 18 = k by omega]
    · rw [e32]; rfl
    · rw [e32] at ht
      obtain ⟨m2, hm2, hM2⟩ := hp t (by omega)
      refine ⟨m2, hm2, RM_cg hM2 (fun k hk => ?_)⟩
      unfold gBack
      rw [if_neg (by omega), if_neg (by omega)]
  · have hx2 : ¬ (¬ x < nI 1 ∧ x ≤ nI (g 32)) := fun z => hx (hxc.mpr z)
    rw [if_neg hx, if_neg hx]
    by_cases z1 : x < nI 1
    · rw [decide_eq_true (show x < (1 : Int32) from z1), cond_true, b_X_undo_13]
      exact DR_0 hC hF hPH
    · rw [decide_eq_false (show ¬ x < (1 : Int32) from z1), cond_false, decide_eq_false (fun z2 => hx2 ⟨z1, z2⟩), cond_false, b_X_undo_13]
      exact DR_0 hC hF hPH
end
