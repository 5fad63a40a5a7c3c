/-! THE CLASS: forces, best -/
section
variable {i i' : Nat → Nat → Int32} {l l' : Nat → Nat → Int64} {q q' : Nat → Nat → Option Nat} {K K' : List (Nat × Nat)} {r m v v' : Nat} {g h : Nat → Nat} {ρ : Nat → Nat → Nat} {W W' : Nat → Nat}
/-- explored, and the turns told -/
theorem y_turns (d : Nat) {w : Nat} (hw : w < 4) (hM : MD ρ r g m W v i l q K) : ∃ i1 l1 q1 K1 W1 n i2 N, am_cl (d + 7) mForcing_explore [.ref 35, .int (nI (sNow g 4))] (i, l, rX q, kX K) = some (none, (i1, l1, rX q1, kX K1)) ∧ am_cl (d + 7) mForcing_turnsFor [.ref 35, .int (nI (sNow g 4)), .int (nI w)] (i1, l1, rX q1, kX K1) = some (some (.int (if fc g (evb g) w (sNow g 4) = FARN then -nI 1 else nI (fc g (evb g) w (sNow g 4)))), (i2, l1, rX q1, kX K1)) ∧ l1 0 3 = lN m ∧ MD ρ r g m W1 v i2 l1 q1 K1 ∧ GFx W i i2 l l1 q q1 K K1 ∧ MQx K W W1 ∧ FQs W1 n q1 K1 ∧ FL g n (stds g (evb g) true (sNow g 4)) ∧ FTs g W1 (stds g (evb g) true (sNow g 4)) (TL g (evb g) w N) i2 ∧ N ≤ 4096 ∧ (fc g (evb g) w (sNow g 4) ≠ FARN → fc g (evb g) w (sNow g 4) ≤ N) := by
  have hW := hM.1.2.2.1
  have h2 : g 2 ≤ 4 := hW.2.1
  have hn := sNow_lt g hW.2.2.2.2.2.1 4 (by decide)
  have hvs : VS g (sNow g 4) := hW.2.2.2.2.2.2.2.2.2.2
  obtain ⟨i1, l1, q1, K1, W1, n, e1, hM1, hQ1, h8, hS1, hE1, hG1, hMQ1⟩ := y_fexplore d hM hn hvs
  obtain ⟨hC1, hGA1, ⟨n0, hSS1⟩, hRw1, hFo1, hO1, hN1⟩ := id hM1
  obtain ⟨⟨s1, s1'⟩, s2, s3, s4, s5, s6⟩ := hS1
  have hnn : n ≤ 4096 := hQ1.2.2.2
  have hst := stds_start (g := g) (m := evb g) (t := true) h2 hn
  have hL : FL g n (stds g (evb g) true (sNow g 4)) := ⟨fun x hx => ⟨(s6 x hx).1, (s6 x hx).2, Nat.lt_of_lt_of_le (VS_lt h2 (s6 x hx).2 (s6 x hx).1) h8⟩, fun x hx => (stds_step h2 hn hx).1, fun x hx => (stds_step h2 hn hx).2 rfl, s2, s1', hnn⟩
  have hT : FTs g W1 (stds g (evb g) true (sNow g 4)) (fun _ => 1000000) i1 := ⟨s1, s3, fun x hx => (s4 x (hL.1 x hx).2.2).1 hx, fun x hx => s5 x (hL.1 x hx).2.2, fun x hx => by
    obtain ⟨k, hk, e⟩ := mem_getD.mp hx
    have := hE1 k (by omega) hk
    rw [e] at this
    exact this⟩
  obtain ⟨f, q1', q3, i4, i2', ⟨we, ke, le1, le2⟩, hGV⟩ := id hGA1
  obtain ⟨i2, N, e2, ho, hT2, hN2, hfc⟩ := y_turnsFor (l := l1) (d + 2) hw hC1.2.1 hW (hN1 8 (by decide)) hO1 hQ1 hL q1' q3 ⟨ke, le1, le2⟩ hst hT
  have hF2' : FK [] [W1 8] [] [] i1 i2 l1 l1 q1 q1 K1 K1 := ⟨⟨[], by rw [List.append_nil]⟩, fun c _ => ⟨fun _ z => ho c (fun e => by rw [e] at z; simp at z), fun _ _ => rfl, fun _ => rfl⟩⟩
  have hF2 : FK RFx [W1 0, W1 7, W1 8, W1 9] [] [] i1 i2 l1 l1 q1 q1 K1 K1 := FK_tr (FK_refl _ _ _ _ _ _ _ _) hF2' rfl rfl rfl (fun w hw => Or.inl (by rw [List.mem_singleton.mp hw]; simp))
  have hGA2 := GA_fk hF2' rfl rfl rfl rfl rfl (fun w hw => by
    rw [List.mem_singleton.mp hw]
    exact ⟨hO1.1 8 (by decide), fun z => by have := hO1.2 8 0 (by decide) (by decide) z; omega⟩) hGA1
  exact ⟨i1, l1, q1, K1, W1, n, i2, N, e1, e2, hC1.2.2.2.2.1, MD_ff hM1 hF2 hGA2, GFx_tr hG1 hMQ1 (GFx_ff hF2), hMQ1, hQ1, hL, hT2, hN2, hfc⟩
theorem y_X_forces (d : Nat) (x : Int32) (hA : XA ρ r g m W v i l q K) : GR ρ W v i l q K (some (.int (v_forces g x))) (am_cl (d + 9) mX_forces [.ref 0, .int x] (i, l, rX q, kX K)) := by
  obtain ⟨a1, a2, hW, a4, a5, a6⟩ := id hA.1
  have a1 : rX q 0 2 = some r := a1
  obtain ⟨fP, fS, fL, fE, fF, fB, fU, fV, fK, fW, hk, ra, ra1, ra2, ra3⟩ := CV_f a2 hW
  have h2 : g 2 ≤ 4 := hW.2.1
  rw [c_X_forces, b_X_forces_0, a1]
  dsimp only
  rw [hk, Bool.true_and, cond_true, fP, am_bd_some, q_app, b_X_forces_8, v_forces]
  by_cases hx : iB x (g 2) = true
  · rw [if_pos hx, if_pos hx, show decide (¬ nI 1 = (0 : Int32)) = true from rfl, cond_true]
    obtain ⟨p, hp, rfl⟩ := iB_T hx
    obtain ⟨i1, l1, q1, K1, W1, v1, e1, hM1, hG1, hQ1, hv1⟩ := y_tune (d + 5) hA.1 hA.2.1 hA.2.2.1 hA.2.2.2.1 hA.2.2.2.2
    have b5 := hM1.1.2.2.2.2.1
    have gN := (RM_f hM1.1.2.2.2.2.2 hW).1
    obtain ⟨i2, l2, q2, K2, W2, n, i3, N, e2, e3, b6, hM2, hG2, hQ2, _⟩ := y_turns (d + 1) (show p < 4 by omega) hM1
    rw [a1]
    dsimp only
    rw [a5, e1, am_bd_some, q_app0, b_X_forces_29, b5, gN, am_bd_some]
    show GR ρ W v i l q K _ (am_Ex _ _ _ _ [.int (nI (sNow g 4)), .ref 35] _)
    rw [b_X_forces_40, e2, am_bd_some, q_app0, b_X_forces_43, b6, gN, am_bd_some]
    show GR ρ W v i l q K _ (am_Ex _ _ _ _ [.int (nI (sNow g 4)), .ref 35] _)
    rw [b_X_forces_54, nI_clamp (by omega), e3, am_bd_some, q_app, b_X_forces_58]
    exact GR_md (GFx_tr hG1 hQ1 hG2) (MQx_tr (fk_len hG1.1) hQ1 hQ2) hM2 hv1
  · rw [if_neg hx, if_neg hx, show decide (¬ nI 0 = (0 : Int32)) = false from rfl, cond_false]
    exact GR_same hA
theorem ff_uq {f : Nat → Bool} {n j : Nat} (hj : j < n) (h1 : f j = true) (h2 : ∀ m, m < j → f m = false) : ff f n 0 = some j := by
  cases h : ff f n 0 with
  | none => rw [ff_none h j (by omega) (by omega)] at h1; cases h1
  | some k =>
    obtain ⟨_, k2, k3, k4⟩ := ff_some h
    by_cases c : k < j
    · rw [h2 k c] at k3; cases k3
    · by_cases c2 : j < k
      · rw [k4 j (by omega) c2] at h1; cases h1
      · rw [show k = j by omega]
theorem rf_is {w a j N : Nat} (hF : fc g (evb g) w a < FARN) (h1 : 1 ≤ fc g (evb g) w a) (hN : fc g (evb g) w a ≤ N) (hN2 : N ≤ 4096) (hj : j < 32) (hav : avl g (evb g) a j = true) : wth g (TL g (evb g) w N) (fc g (evb g) w a) (tgt a j) = decide (rf g (evb g) w (tgt a j) = fc g (evb g) w a - 1) := by
  have hFF : FARN = 268435456 := rfl
  obtain ⟨v1, v2⟩ := fc_v hF
  unfold wth
  apply decide_eq_decide.mpr
  rw [TL_lt (show fc g (evb g) w a ≤ N + 1 by omega) (by omega) h1, TL_lt (show fc g (evb g) w a ≤ N + 1 by omega) (by omega) h1]
  constructor
  · rintro ⟨z1, z2⟩
    have hle : rf g (evb g) w (tgt a j) ≤ fc g (evb g) w a - 1 := lst_min (P := fun n => VF g (evb g) w n (tgt a j) && VF g (evb g) w n (sFl g (g 3) (tgt a j))) (by rw [z1, z2]; rfl) (by omega)
    by_cases c : rf g (evb g) w (tgt a j) = fc g (evb g) w a - 1
    · exact c
    · have hlt : rf g (evb g) w (tgt a j) < FARN := by omega
      have := (lst_lt (P := fun n => VF g (evb g) w n (tgt a j) && VF g (evb g) w n (sFl g (g 3) (tgt a j))) hlt).1
      rw [Bool.and_eq_true] at this
      have h3 : VF g (evb g) w (rf g (evb g) w (tgt a j) + 1) a = true := VF_s.mpr (Or.inr ⟨j, hj, hav, this.1, this.2⟩)
      rw [v2 _ (by omega)] at h3
      cases h3
  · intro z
    have hlt : rf g (evb g) w (tgt a j) < FARN := by omega
    have := (lst_lt (P := fun n => VF g (evb g) w n (tgt a j) && VF g (evb g) w n (sFl g (g 3) (tgt a j))) hlt).1
    rw [Bool.and_eq_true] at this
    rw [← z]
    exact this
theorem y_X_best (d : Nat) (x : Int32) (hA : XA ρ r g m W v i l q K) : GR ρ W v i l q K (some (.int (v_best g x))) (am_cl (d + 9) mX_best [.ref 0, .int x] (i, l, rX q, kX K)) := by
  have hFF : FARN = 268435456 := rfl
  obtain ⟨a1, a2, hW, a4, a5, a6⟩ := id hA.1
  have a1 : rX q 0 2 = some r := a1
  obtain ⟨fP, fS, fL, fE, fF, fB, fU, fV, fK, fW, hk, ra, ra1, ra2, ra3⟩ := CV_f a2 hW
  have h2 : g 2 ≤ 4 := hW.2.1
  have hn := sNow_lt g hW.2.2.2.2.2.1 4 (by decide)
  have hst := stds_start (g := g) (m := evb g) (t := true) h2 hn
  rw [c_X_best, b_X_best_0, a1]
  dsimp only
  rw [hk, Bool.true_and, cond_true, fP, am_bd_some, q_app, b_X_best_8, v_best]
  by_cases hx : iB x (g 2) = true
  · rw [if_pos hx, if_pos hx, show decide (¬ nI 1 = (0 : Int32)) = true from rfl, cond_true]
    obtain ⟨p, hp, rfl⟩ := iB_T hx
    obtain ⟨i1, l1, q1, K1, W1, v1, e1, hM1, hG1, hQ1, hv1⟩ := y_tune (d + 5) hA.1 hA.2.1 hA.2.2.1 hA.2.2.2.1 hA.2.2.2.2
    have b5 := hM1.1.2.2.2.2.1
    have gN := (RM_f hM1.1.2.2.2.2.2 hW).1
    obtain ⟨i2, l2, q2, K2, W2, n, i3, N, e2, e3, b6, hM2, hG2, hQ2, hFQ, hFL, hFT, hN, hfc⟩ := y_turns (d + 1) (show p < 4 by omega) hM1
    have hG := GFx_tr hG1 hQ1 hG2
    have hQ := MQx_tr (fk_len hG1.1) hQ1 hQ2
    rw [a1]
    dsimp only
    rw [a5, e1, am_bd_some, q_app0, b_X_best_29, b5, gN, am_bd_some]
    show GR ρ W v i l q K _ (am_Ex _ _ _ _ [.int (nI (sNow g 4)), .ref 35] _)
    rw [b_X_best_40, e2, am_bd_some, q_app0, b_X_best_43, b6, gN, am_bd_some]
    show GR ρ W v i l q K _ (am_Ex _ _ _ _ [.int (nI (sNow g 4)), .ref 35] _)
    rw [b_X_best_54, nI_clamp (by omega), e3, am_bd_some, q_app, b_X_best_58]
    by_cases c : fc g (evb g) p (sNow g 4) = FARN
    · rw [if_pos c, if_pos (Or.inl c), show decide ((1 : Int32) ≤ -nI 1) = false from rfl, cond_false, b_X_best_83]
      exact GR_md hG hQ hM2 hv1
    · have hle := hfc c
      rw [if_neg c]
      by_cases c0 : fc g (evb g) p (sNow g 4) = 0
      · rw [if_pos (Or.inr c0), c0, show decide ((1 : Int32) ≤ nI 0) = false from rfl, cond_false, b_X_best_83]
        exact GR_md hG hQ hM2 hv1
      · have hfF : fc g (evb g) p (sNow g 4) < FARN := by omega
        obtain ⟨v2, v3⟩ := fc_v hfF
        obtain ⟨f, qq1, qq3, ii4, ii2, ⟨we, ke, le1, le2⟩, hGV⟩ := id hM2.2.1
        rw [if_neg (fun z => by rcases z with z | z; (· exact c z); (· exact c0 z)), decide_eq_true (show (1 : Int32) ≤ nI (fc g (evb g) p (sNow g 4)) from by
          show nI 1 ≤ _
          rw [q_le (by omega) (by omega)]; omega), cond_true, b6, gN, am_bd_some]
        show GR ρ W v i l q K _ (am_Ex _ _ _ _ [.int (nI (sNow g 4)), .ref 35] _)
        rw [b_X_best_79, s_firstGoing (l := l2) (d + 5) (e := 0) h2 hFQ hFL hFT (fun y => TL_b (by omega)) hst (by omega) qq3 ⟨ke, le1, le2⟩, am_bd_some, q_app, b_X_best_83]
        have hsame : ∀ j, j < 32 → (avl g (evb g) (sNow g 4) j && wth g (TL g (evb g) p N) (fc g (evb g) p (sNow g 4)) (tgt (sNow g 4) j)) = (avl g (evb g) (sNow g 4) j && decide (rf g (evb g) p (tgt (sNow g 4) j) = fc g (evb g) p (sNow g 4) - 1)) := fun j hj => by
          cases hav : avl g (evb g) (sNow g 4) j with
          | false => rfl
          | true => rw [rf_is hfF (by omega) hle hN hj hav]
        cases hff : ff (fun j => avl g (evb g) (sNow g 4) j && wth g (TL g (evb g) p N) (fc g (evb g) p (sNow g 4)) (tgt (sNow g 4) j)) 32 0 with
        | none =>
          exfalso
          have hv1' : VF g (evb g) p (fc g (evb g) p (sNow g 4) - 1 + 1) (sNow g 4) = true := by rw [show fc g (evb g) p (sNow g 4) - 1 + 1 = fc g (evb g) p (sNow g 4) by omega]; exact v2
          rcases VF_s.mp hv1' with z | ⟨j, hj, ha, z1, z2⟩
          · rw [v3 _ (by omega)] at z; cases z
          · have := ff_none hff j (by omega) (by omega)
            have this : (avl g (evb g) (sNow g 4) j && wth g (TL g (evb g) p N) (fc g (evb g) p (sNow g 4)) (tgt (sNow g 4) j)) = false := this
            rw [ha, show wth g (TL g (evb g) p N) (fc g (evb g) p (sNow g 4)) (tgt (sNow g 4) j) = true from decide_eq_true ⟨(TL_lt (show fc g (evb g) p (sNow g 4) ≤ N + 1 by omega) (by omega) (by omega)).mpr z1, (TL_lt (show fc g (evb g) p (sNow g 4) ≤ N + 1 by omega) (by omega) (by omega)).mpr z2⟩] at this
            cases this
        | some j =>
          obtain ⟨_, j2, j3, j4⟩ := ff_some hff
          have j3 : (avl g (evb g) (sNow g 4) j && wth g (TL g (evb g) p N) (fc g (evb g) p (sNow g 4)) (tgt (sNow g 4) j)) = true := j3
          have hav : avl g (evb g) (sNow g 4) j = true := (Bool.and_eq_true _ _ ▸ j3 : _ ∧ _).1
          have hb : bstF g p = some j := by
            unfold bstF
            refine ff_uq (avl_lt hav) ?_ (fun k hk => ?_)
            · rw [← hsame j (by omega)]; exact j3
            · rw [← hsame k (by omega)]; exact j4 k (by omega) hk
          rw [hb]
          exact GR_md hG hQ hM2 hv1
  · rw [if_neg hx, if_neg hx, show decide (¬ nI 0 = (0 : Int32)) = false from rfl, cond_false]
    exact GR_same hA
end
