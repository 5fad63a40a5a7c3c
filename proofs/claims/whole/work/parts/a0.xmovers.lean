/-! THE CLASS: most, reach, needed, movers -/
section
variable {g : Nat → Nat}
theorem mvB_none {can : Nat → Bool} : ∀ {n : Nat}, mvB can n = none → ∀ y, y < n → can y = false
  | 0, _, y, hy => absurd hy (Nat.not_lt_zero _)
  | n + 1, h, y, hy => by
    rw [mvB] at h
    cases hq : mvB can n with
    | none =>
      rw [hq] at h
      dsimp only at h
      split at h
      · cases h
      · rename_i hc
        by_cases e : y = n
        · subst e
          cases hb : can y with
          | false => rfl
          | true => exact absurd hb hc
        · exact mvB_none hq y (by omega)
    | some c =>
      rw [hq] at h
      dsimp only at h
      split at h <;> cases h
theorem mvB_some {can : Nat → Bool} : ∀ {n b : Nat}, mvB can n = some b → can b = true ∧ b < n ∧ ∀ y, y < n → can y = true → bc b 10 < bc y 10 ∨ (bc b 10 = bc y 10 ∧ b ≤ y)
  | 0, b, h => by cases h
  | n + 1, b, h => by
    rw [mvB] at h
    cases hq : mvB can n with
    | none =>
      rw [hq] at h
      dsimp only at h
      split at h
      · rename_i hc
        have hb := Option.some.inj h
        subst hb
        refine ⟨hc, by omega, fun y hy hcy => ?_⟩
        by_cases e : y = n
        · subst e; exact Or.inr ⟨rfl, Nat.le_refl _⟩
        · rw [mvB_none hq y (by omega)] at hcy; cases hcy
      · cases h
    | some c =>
      rw [hq] at h
      dsimp only at h
      obtain ⟨h1, h2, h3⟩ := mvB_some hq
      split at h
      · rename_i hc
        have hb := Option.some.inj h
        subst hb
        refine ⟨hc.2, by omega, fun y hy hcy => ?_⟩
        by_cases e : y = n
        · subst e; exact Or.inr ⟨rfl, Nat.le_refl _⟩
        · have := h3 y (by omega) hcy
          omega
      · rename_i hc
        have hb := Option.some.inj h
        subst hb
        refine ⟨h1, by omega, fun y hy hcy => ?_⟩
        by_cases e : y = n
        · subst e
          have : ¬ bc y 10 < bc c 10 := fun z => hc ⟨z, hcy⟩
          omega
        · exact h3 y (by omega) hcy
theorem mvB_is {can : Nat → Bool} {n s : Nat} (hs : s < n) (h1 : can s = true) (h2 : ∀ y, y < n → can y = true → bc s 10 < bc y 10 ∨ (bc s 10 = bc y 10 ∧ s ≤ y)) : mvB can n = some s := by
  cases h : mvB can n with
  | none => rw [mvB_none h s hs] at h1; cases h1
  | some b =>
    obtain ⟨b1, b2, b3⟩ := mvB_some h
    have e1 := b3 s hs h1
    have e2 := h2 b b2 b1
    rw [show b = s by omega]
theorem bc16 : ∀ P, P ≤ 4 → ∀ x, x < 2 ^ P → bc x 10 ≤ P := by decide +kernel
end
section
variable {i i' : Nat → Nat → Int32} {l l' : Nat → Nat → Int64} {q q' : Nat → Nat → Option Nat} {K K' : List (Nat × Nat)} {r m v v' : Nat} {g h : Nat → Nat} {ρ : Nat → Nat → Nat} {W W' : Nat → Nat}
theorem y_X_most (d : Nat) (hA : XA ρ r g m W v i l q K) : GR ρ W v i l q K (some (.int (v_most g))) (am_cl (d + 9) mX_most [.ref 0] (i, l, rX q, kX K)) := by
  obtain ⟨i1, l1, q1, K1, W1, v1, n, e1, hM1, hG1, hQ1, hv1, hSC, hSL⟩ := y_all d hA
  obtain ⟨a1, a2, hW, a4, a5, a6⟩ := id hM1.1
  have a1 : rX q1 0 2 = some r := a1
  obtain ⟨fP, fS, fL, fE, fF, fB, fU, fV, fK, fW, hk, ra, ra1, ra2, ra3⟩ := CV_f a2 hW
  have h2 : g 2 ≤ 4 := hW.2.1
  have hn := sNow_lt g hW.2.2.2.2.2.1 4 (by decide)
  rw [c_X_most, b_X_most_0, e1, am_bd_some, q_app0, b_X_most_4, v_most]
  have hlt : ∀ s, s ∈ stds g (evb g) false (sNow g 4) → s < 4096 := fun s hs => stds_lt h2 hn hs
  have hlen := stds_len (g := g) (m := evb g) (t := false) h2 hn
  obtain ⟨L, hL⟩ : ∃ L, stds g (evb g) false (sNow g 4) = L := ⟨_, rfl⟩
  rw [hL] at hSL hlt hlen ⊢
  have main : ∀ f c, c + f = L.length → am_Ex (d + 8) mX_most 8 [.val (.ref 0), .val (.int (nI (mst g L c))), .val (.int (nI c))] [] (i1, l1, rX q1, kX K1) = some (some (.int (nI (mst g L L.length))), (i1, l1, rX q1, kX K1)) := by
    intro f
    induction f with
    | zero =>
      intro c hc
      have hc : c = L.length := by omega
      subst hc
      rw [b_X_most_8, hSL.1, decide_eq_true (show nI L.length ≤ nI L.length from by rw [q_le (by omega) (by omega)]; exact Nat.le_refl _), cond_true]
    | succ f ih =>
      intro c hc
      have hs4 := hlt (L.getD c 0) (mem_getD.mpr ⟨c, by omega, rfl⟩)
      have hml := mst_le g L c
      have hbl := bc_le (sOver g (L.getD c 0)) 10
      have hov := sOver_lt (g := g) (a := L.getD c 0) h2
      rw [b_X_most_8, hSL.1, decide_eq_false (show ¬ nI L.length ≤ nI c from by rw [q_le (by omega) (by omega)]; omega), cond_false, a1]
      dsimp only
      rw [s_placingAt (a := 0) (mv := 0) (κ := fun _ => 0) (pb := 0) (l := l1) (d + 7) hSC hSL (show c < L.length by omega), am_bd_some]
      show am_Ex _ _ _ _ [.int (nI (L.getD c 0)), .ref r, .int (nI (mst g L c))] _ = _
      rw [b_X_most_32, hk, Bool.true_and, cond_true, fV (d + 6) _ hs4, am_bd_some]
      show am_Ex _ _ _ _ [.int (nI (sOver g (L.getD c 0))), .int (nI (mst g L c))] _ = _
      rw [b_X_most_35, s_J_bitCount (d + 7) (by omega), am_bd_some]
      show am_Ex _ _ _ _ [.int (nI (bc (sOver g (L.getD c 0)) 10)), .int (nI (mst g L c))] _ = _
      rw [b_X_most_38, show nI c + (1 : Int32) = nI (c + 1) from nI_add c 1]
      have := ih (c + 1) (by omega)
      rw [mst] at this
      have hif : (if nI (mst g L c) < nI (bc (sOver g (L.getD c 0)) 10) then nI (bc (sOver g (L.getD c 0)) 10) else nI (mst g L c)) = nI (if mst g L c < bc (sOver g (L.getD c 0)) 10 then bc (sOver g (L.getD c 0)) 10 else mst g L c) := by
        by_cases e : mst g L c < bc (sOver g (L.getD c 0)) 10
        · rw [if_pos e, if_pos (show nI (mst g L c) < nI (bc (sOver g (L.getD c 0)) 10) from by rw [q_lt (by omega) (by omega)]; exact e)]
        · rw [if_neg e, if_neg (show ¬ nI (mst g L c) < nI (bc (sOver g (L.getD c 0)) 10) from by rw [q_lt (by omega) (by omega)]; exact e)]
      rw [hif]
      exact this
  have := main L.length 0 (by omega)
  rw [show am_Ex (d + 8) mX_most 8 [.val (.ref 0), .val (.int 0), .val (.int 0)] [] (i1, l1, rX q1, kX K1) = _ from this]
  exact GR_md hG1 hQ1 hM1 hv1
theorem y_X_reach (d : Nat) (x : Int32) (hA : XA ρ r g m W v i l q K) : GR ρ W v i l q K (some (.int (v_reach g x))) (am_cl (d + 9) mX_reach [.ref 0, .int x] (i, l, rX q, kX K)) := by
  obtain ⟨a1, a2, hW, a4, a5, a6⟩ := id hA.1
  have a1 : rX q 0 2 = some r := a1
  obtain ⟨fP, fS, fL, fE, fF, fB, fU, fV, fK, fW, hk, ra, ra1, ra2, ra3⟩ := CV_f a2 hW
  have h2 : g 2 ≤ 4 := hW.2.1
  have hn := sNow_lt g hW.2.2.2.2.2.1 4 (by decide)
  rw [c_X_reach, b_X_reach_0, a1]
  dsimp only
  rw [hk, Bool.true_and, cond_true, fP, am_bd_some, q_app, b_X_reach_8, v_reach]
  by_cases hx : iB x (g 2) = true
  · rw [if_pos hx, if_pos hx, show decide (¬ nI 1 = (0 : Int32)) = true from rfl, cond_true]
    obtain ⟨p, hp, rfl⟩ := iB_T hx
    obtain ⟨i1, l1, q1, K1, W1, v1, n, e1, hM1, hG1, hQ1, hv1, hSC, hSL⟩ := y_all d hA
    rw [e1, am_bd_some, q_app0, b_X_reach_18, nI_clamp (by omega)]
    have hlt : ∀ s, s ∈ stds g (evb g) false (sNow g 4) → s < 4096 := fun s hs => stds_lt h2 hn hs
    have hlen := stds_len (g := g) (m := evb g) (t := false) h2 hn
    obtain ⟨L, hL⟩ : ∃ L, stds g (evb g) false (sNow g 4) = L := ⟨_, rfl⟩
    rw [hL] at hSL hlt hlen ⊢
    have main : ∀ f c, c + f = L.length → am_Ex (d + 8) mX_reach 22 [.val (.ref 0), .val (.int (nI p)), .val (.int (nI (rcL p L c))), .val (.int (nI c))] [] (i1, l1, rX q1, kX K1) = some (some (.int (nI (rcL p L L.length))), (i1, l1, rX q1, kX K1)) := by
      intro f
      induction f with
      | zero =>
        intro c hc
        have hc : c = L.length := by omega
        subst hc
        rw [b_X_reach_22, hSL.1, decide_eq_true (show nI L.length ≤ nI L.length from by rw [q_le (by omega) (by omega)]; exact Nat.le_refl _), cond_true]
      | succ f ih =>
        intro c hc
        have hs4 := hlt (L.getD c 0) (mem_getD.mpr ⟨c, by omega, rfl⟩)
        have hd8 : dg (L.getD c 0) p < 8 := by unfold dg; omega
        rw [b_X_reach_22, hSL.1, decide_eq_false (show ¬ nI L.length ≤ nI c from by rw [q_le (by omega) (by omega)]; omega), cond_false, s_placingAt (a := 0) (mv := 0) (κ := fun _ => 0) (pb := 0) (l := l1) (d + 7) hSC hSL (show c < L.length by omega), am_bd_some]
        show am_Ex _ _ _ _ [.int (nI (L.getD c 0)), .int 1, .int (nI (rcL p L c))] _ = _
        rw [b_X_reach_43, nI_l (show L.getD c 0 < 2147483648 by omega), s_X_placeOf (d + 7) (by omega) (by omega), am_bd_some]
        show am_Ex _ _ _ _ [.int (nI (dg (L.getD c 0) p)), .int 1, .int (nI (rcL p L c))] _ = _
        rw [b_X_reach_48, k_shl1 (show dg (L.getD c 0) p < 31 by omega), fa_or, show nI c + (1 : Int32) = nI (c + 1) from nI_add c 1]
        have := ih (c + 1) (by omega)
        rw [rcL] at this
        exact this
    have := main L.length 0 (by omega)
    rw [show am_Ex (d + 8) mX_reach 22 [.val (.ref 0), .val (.int (nI p)), .val (.int 0), .val (.int 0)] [] (i1, l1, rX q1, kX K1) = _ from this]
    exact GR_md hG1 hQ1 hM1 hv1
  · rw [if_neg hx, if_neg hx, show decide (¬ nI 0 = (0 : Int32)) = false from rfl, cond_false]
    exact GR_same hA
/-- whether somebody comes over by these -/
theorem y_can (d : Nat) {mv z : Nat} (hz : z < 16) (hmv : mv < 16) (hM : MD ρ r g m W v i l q K) : ∃ i' l' q' K' W' x, am_cl (d + 7) mSearch_explore [.ref 27, .int (nI (sNow g 4)), .int (nI mv), .int (nI z)] (i, l, rX q, kX K) = some (some (.int x), (i', l', rX q', kX K')) ∧ MD ρ r g m W' v i' l' q' K' ∧ GFx W i i' l l' q q' K K' ∧ MQx K W W' ∧ decide (x = (-1 : Int32)) = !sCan g mv z := by
  obtain ⟨a1, a2, hW, a4, a5, a6⟩ := id hM.1
  have h2 : g 2 ≤ 4 := hW.2.1
  have hn := sNow_lt g hW.2.2.2.2.2.1 4 (by decide)
  have hvs : VS g (sNow g 4) := hW.2.2.2.2.2.2.2.2.2.2
  obtain ⟨i2, l2, q2, K2, W2, n, L, κ, pb, e2, hM2, hG2, hQ2, hSC, hSR⟩ := y_ex d (z := some z) hM (fun zz hzz => by rw [← Option.some.inj hzz]; exact hz) hn hvs hmv
  refine ⟨i2, l2, q2, K2, W2, _, e2, hM2, hG2, hQ2, ?_⟩
  unfold sCan
  rcases sr_out h2 hn hSC.2.2.2.2.2 hSR with ⟨h5, hd, hs⟩ | ⟨T, h5, h54, t1, t2, t3, t4, hd, _, hs⟩
  · rw [h5, hs]; rfl
  · rw [h5, hs]
    exact decide_eq_false (by
      show ¬ nI (L.getD (L.length - 1) 0) = -nI 1
      rw [q_m1 (by omega)]; exact id)
theorem y_cm (d : Nat) {z : Nat} (hz : z < 16) (hA : XA ρ r g m W v i l q K) : ∃ i' l' q' K' W' v' x, am_cl (d + 8) mX_comingOver [.ref 0, .int (nI z)] (i, l, rX q, kX K) = some (some (.int x), (i', l', rX q', kX K')) ∧ MD ρ r g m W' v' i' l' q' K' ∧ GFx W i i' l l' q q' K K' ∧ MQx K W W' ∧ v' ≤ v + 1 ∧ decide (x = (-1 : Int32)) = !sCan g (evb g) z := by
  obtain ⟨i2, l2, q2, K2, W2, v2, n, L, κ, pb, e2, hM2, hG2, hQ2, hv2, hSC, hSR⟩ := y_coming d hz hA
  have hW := hA.1.2.2.1
  have h2 : g 2 ≤ 4 := hW.2.1
  have hn := sNow_lt g hW.2.2.2.2.2.1 4 (by decide)
  refine ⟨i2, l2, q2, K2, W2, v2, _, e2, hM2, hG2, hQ2, hv2, ?_⟩
  unfold sCan
  rcases sr_out h2 hn hSC.2.2.2.2.2 hSR with ⟨h5, hd, hs⟩ | ⟨T, h5, h54, t1, t2, t3, t4, hd, _, hs⟩
  · rw [h5, hs]; rfl
  · rw [h5, hs]
    exact decide_eq_false (by
      show ¬ nI (L.getD (L.length - 1) 0) = -nI 1
      rw [q_m1 (by omega)]; exact id)
theorem dec_not {p : Prop} [Decidable p] {b : Bool} (h : decide p = !b) : decide (¬ p) = b := by
  rw [decide_not, h, Bool.not_not]
theorem y_X_needed (d : Nat) (x : Int32) (hA : XA ρ r g m W v i l q K) : GR ρ W v i l q K (some (.int (v_needed g x))) (am_cl (d + 9) mX_needed [.ref 0, .int x] (i, l, rX q, kX K)) := by
  obtain ⟨a1, a2, hW, a4, a5, a6⟩ := id hA.1
  have a1 : rX q 0 2 = some r := a1
  obtain ⟨fP, fS, fL, fE, fF, fB, fU, fV, fK, fW, hk, ra, ra1, ra2, ra3⟩ := CV_f a2 hW
  have h2 : g 2 ≤ 4 := hW.2.1
  have hn := sNow_lt g hW.2.2.2.2.2.1 4 (by decide)
  rw [c_X_needed, b_X_needed_0, a1]
  dsimp only
  rw [hk, Bool.true_and, cond_true, fE, am_bd_some, q_app, b_X_needed_8, v_needed]
  by_cases hx : iB x (2 ^ g 2) = true
  · rw [if_pos hx, if_pos hx, show decide (¬ nI 1 = (0 : Int32)) = true from rfl, cond_true]
    obtain ⟨z, hz, rfl⟩ := iB_T hx
    have hz16 := p16 h2 hz
    obtain ⟨i1, l1, q1, K1, W1, v1, x1, e1, hM1, hG1, hQ1, hv1, hx1⟩ := y_cm d hz16 hA
    rw [e1, am_bd_some, q_app, b_X_needed_19, dec_not hx1, nI_clamp (by omega)]
    cases hc : sCan g (evb g) z with
    | false => rw [cond_false, if_neg (by decide)]; exact GR_md hG1 hQ1 hM1 hv1
    | true =>
      rw [cond_true, if_pos rfl]
      obtain ⟨F, hF⟩ : ∃ F, (fun p => !sCan g (evb g &&& (2 ^ p ^^^ 4294967295)) z) = F := ⟨_, rfl⟩
      have hFp : ∀ p, F p = !sCan g (evb g &&& (2 ^ p ^^^ 4294967295)) z := fun p => by rw [← hF]
      rw [hF]
      have main : ∀ f p z4 i2 l2 q2 K2 W2, p + f = g 2 → MD ρ r g m W2 v1 i2 l2 q2 K2 → GFx W i i2 l l2 q q2 K K2 → MQx K W W2 → GR ρ W v i l q K (some (.int (nI (bs F (g 2))))) (am_Ex (d + 8) mX_needed 29 [.val (.ref 0), .val (.int (nI z)), .val (.int (nI (bs F p))), .val (.int (nI p)), z4] [] (i2, l2, rX q2, kX K2)) := by
        intro f
        induction f with
        | zero =>
          intro p z4 i2 l2 q2 K2 W2 hp hM2 hG2 hQ2
          have hp : p = g 2 := by omega
          subst hp
          obtain ⟨b1, b2, _, _, b5, _⟩ := id hM2.1
          have b1 : rX q2 0 2 = some r := b1
          rw [b_X_needed_29, b1]
          dsimp only
          rw [show Nat.beq (am_kd (i2, l2, rX q2, kX K2) r) 6 = true from by rw [b2.2.1]; rfl, cond_true, show i2 r 1 = nI (g 2) from b2.2.2.2.1, decide_eq_true (show nI (g 2) ≤ nI (g 2) from by rw [q_le (by omega) (by omega)]; exact Nat.le_refl _), cond_true]
          exact GR_md hG2 hQ2 hM2 hv1
        | succ f ih =>
          intro p z4 i2 l2 q2 K2 W2 hp hM2 hG2 hQ2
          obtain ⟨b1, b2, _, _, b5, b6⟩ := id hM2.1
          have b1 : rX q2 0 2 = some r := b1
          have gB := (CV_f b2 hW).2.2.2.2.2.1
          have gN := (RM_f b6 hW).1
          have hle : evb g &&& (2 ^ p ^^^ 4294967295) ≤ evb g := Nat.and_le_left
          have hev := evb_lt h2
          obtain ⟨i3, l3, q3, K3, W3, x3, e3, hM3, hG3, hQ3, hx3⟩ := y_can (d + 1) (mv := evb g &&& (2 ^ p ^^^ 4294967295)) hz16 (by omega) hM2
          rw [b_X_needed_29, b1]
          dsimp only
          rw [show Nat.beq (am_kd (i2, l2, rX q2, kX K2) r) 6 = true from by rw [b2.2.1]; rfl, cond_true, show i2 r 1 = nI (g 2) from b2.2.2.2.1, decide_eq_false (show ¬ nI (g 2) ≤ nI p from by rw [q_le (by omega) (by omega)]; omega), cond_false, Bool.true_and, cond_true, gB, am_bd_some, q_app, b_X_needed_47, b5, gN, am_bd_some, k_shl1 (show p < 31 by omega)]
          show GR ρ W v i l q K _ (am_Ex _ _ _ [_, _, _, _, .val (.int (nI (evb g) &&& (nI (2 ^ p) ^^^ -nI 1)))] [.int (nI (sNow g 4)), .ref 27] _)
          rw [q_xorm, fa_and, b_X_needed_66, e3, am_bd_some, q_app, b_X_needed_72, dec_not hx3]
          have hGn := GFx_tr hG2 hQ2 hG3
          have hQn := MQx_tr (fk_len hG2.1) hQ2 hQ3
          cases hcc : sCan g (evb g &&& (2 ^ p ^^^ 4294967295)) z with
          | true =>
            rw [cond_true, b_X_needed_82, show nI p + (1 : Int32) = nI (p + 1) from nI_add p 1]
            have := ih (p + 1) (.val (.int (nI (evb g &&& (2 ^ p ^^^ 4294967295))))) i3 l3 q3 K3 W3 (by omega) hM3 hGn hQn
            rw [show bs F (p + 1) = bs F p from by rw [bs, hFp, hcc]; simp] at this
            exact this
          | false =>
            rw [cond_false, k_shl1 (show p < 31 by omega), fa_or, b_X_needed_82, show nI p + (1 : Int32) = nI (p + 1) from nI_add p 1]
            have := ih (p + 1) (.val (.int (nI (evb g &&& (2 ^ p ^^^ 4294967295))))) i3 l3 q3 K3 W3 (by omega) hM3 hGn hQn
            rw [show bs F (p + 1) = bs F p ||| 2 ^ p from by rw [bs, hFp, hcc]; simp] at this
            exact this
      exact main (g 2) 0 _ i1 l1 q1 K1 W1 (by omega) hM1 hG1 hQ1
  · rw [if_neg hx, if_neg hx, show decide (¬ nI 0 = (0 : Int32)) = false from rfl, cond_false]
    exact GR_same hA
theorem y_X_movers (d : Nat) (x : Int32) (hA : XA ρ r g m W v i l q K) : GR ρ W v i l q K (some (.int (v_movers g x))) (am_cl (d + 9) mX_movers [.ref 0, .int x] (i, l, rX q, kX K)) := by
  obtain ⟨a1, a2, hW, a4, a5, a6⟩ := id hA.1
  have a1 : rX q 0 2 = some r := a1
  obtain ⟨fP, fS, fL, fE, fF, fB, fU, fV, fK, fW, hk, ra, ra1, ra2, ra3⟩ := CV_f a2 hW
  have h2 : g 2 ≤ 4 := hW.2.1
  have hn := sNow_lt g hW.2.2.2.2.2.1 4 (by decide)
  have hp16 : (2 : Nat) ^ g 2 ≤ 2 ^ 4 := Nat.pow_le_pow_right (by decide) h2
  have hp1 : 1 ≤ (2 : Nat) ^ g 2 := Nat.pow_pos (by decide)
  rw [c_X_movers, b_X_movers_0, a1]
  dsimp only
  rw [hk, Bool.true_and, cond_true, fE, am_bd_some, q_app, b_X_movers_8, v_movers]
  by_cases hx : iB x (2 ^ g 2) = true
  · rw [if_pos hx, if_pos hx, show decide (¬ nI 1 = (0 : Int32)) = true from rfl, cond_true]
    obtain ⟨z, hz, rfl⟩ := iB_T hx
    have hz16 := p16 h2 hz
    obtain ⟨i1, l1, q1, K1, W1, v1, x1, e1, hM1, hG1, hQ1, hv1, hx1⟩ := y_cm d hz16 hA
    rw [e1, am_bd_some, q_app, b_X_movers_19, dec_not hx1, nI_clamp (by omega)]
    cases hc : sCan g (evb g) z with
    | false =>
      rw [cond_false]
      have : mvB (fun m => sCan g m z) (2 ^ g 2) = none := by
        cases hb : mvB (fun m => sCan g m z) (2 ^ g 2) with
        | none => rfl
        | some b =>
          obtain ⟨c1, c2, _⟩ := mvB_some hb
          rw [sCan_mono h2 hn (fun p hp _ => by
            rw [evb_bit h2]
            by_cases e : p < g 2
            · exact Or.inl (decide_eq_true e)
            · exact Or.inr (by omega)) c1] at hc
          cases hc
      rw [this]
      exact GR_md hG1 hQ1 hM1 hv1
    | true =>
      rw [cond_true]
      have main : ∀ f1 n i2 l2 q2 K2 W2 z3, n + f1 = g 2 + 1 → (∀ y, y < 2 ^ g 2 → bc y 10 < n → sCan g y z = false) → MD ρ r g m W2 v1 i2 l2 q2 K2 → GFx W i i2 l l2 q q2 K K2 → MQx K W W2 → GR ρ W v i l q K (some (.int (vW (mvB (fun m => sCan g m z) (2 ^ g 2))))) (am_Ex (d + 8) mX_movers 27 [.val (.ref 0), .val (.int (nI z)), .val (.int (nI n)), z3] [] (i2, l2, rX q2, kX K2)) := by
        intro f1
        induction f1 with
        | zero =>
          intro n i2 l2 q2 K2 W2 z3 hnf hall hM2 hG2 hQ2
          obtain ⟨b1, b2, _, _, b5, _⟩ := id hM2.1
          have b1 : rX q2 0 2 = some r := b1
          rw [b_X_movers_27, b1]
          dsimp only
          rw [show Nat.beq (am_kd (i2, l2, rX q2, kX K2) r) 6 = true from by rw [b2.2.1]; rfl, cond_true, show i2 r 1 = nI (g 2) from b2.2.2.2.1, decide_eq_true (show nI (g 2) < nI n from by rw [q_lt (by omega) (by omega)]; omega), cond_true]
          have : mvB (fun m => sCan g m z) (2 ^ g 2) = none := by
            cases hb : mvB (fun m => sCan g m z) (2 ^ g 2) with
            | none => rfl
            | some b =>
              obtain ⟨c1, c2, _⟩ := mvB_some hb
              have := bc16 (g 2) h2 b c2
              have c1 : sCan g b z = true := c1
              rw [hall b c2 (by omega)] at c1
              cases c1
          rw [this]
          exact GR_md hG2 hQ2 hM2 hv1
        | succ f1 ih =>
          intro n i2 l2 q2 K2 W2 z3 hnf hall hM2 hG2 hQ2
          have inner : ∀ f s i3 l3 q3 K3 W3, s + f = 2 ^ g 2 → (∀ y, y < s → bc y 10 = n → sCan g y z = false) → MD ρ r g m W3 v1 i3 l3 q3 K3 → GFx W i i3 l l3 q q3 K K3 → MQx K W W3 → GR ρ W v i l q K (some (.int (vW (mvB (fun m => sCan g m z) (2 ^ g 2))))) (am_Ex (d + 8) mX_movers 40 [.val (.ref 0), .val (.int (nI z)), .val (.int (nI n)), .val (.int (nI s))] [] (i3, l3, rX q3, kX K3)) := by
            intro f
            induction f with
            | zero =>
              intro s i3 l3 q3 K3 W3 hsf hno hM3 hG3 hQ3
              have hsf : s = 2 ^ g 2 := by omega
              subst hsf
              obtain ⟨b1, b2, _, _, b5, _⟩ := id hM3.1
              have b1 : rX q3 0 2 = some r := b1
              have gB := (CV_f b2 hW).2.2.2.2.2.1
              have hev : evb g = 2 ^ g 2 - 1 := rfl
              rw [b_X_movers_40, b1]
              dsimp only
              rw [show Nat.beq (am_kd (i3, l3, rX q3, kX K3) r) 6 = true from by rw [b2.2.1]; rfl, Bool.true_and, cond_true, gB, am_bd_some]
              show GR ρ W v i l q K _ (am_Ex _ _ _ _ [.int (nI (evb g)), .int (nI (2 ^ g 2))] _)
              rw [b_X_movers_48, decide_eq_true (show nI (evb g) < nI (2 ^ g 2) from by rw [q_lt (by omega) (by omega)]; omega), cond_true, show nI n + (1 : Int32) = nI (n + 1) from nI_add n 1]
              refine ih (n + 1) i3 l3 q3 K3 W3 _ (by omega) (fun y hy hb => ?_) hM3 hG3 hQ3
              by_cases e : bc y 10 = n
              · exact hno y hy e
              · exact hall y hy (by omega)
            | succ f ihf =>
              intro s i3 l3 q3 K3 W3 hsf hno hM3 hG3 hQ3
              obtain ⟨b1, b2, _, _, b5, b6⟩ := id hM3.1
              have b1 : rX q3 0 2 = some r := b1
              have gB := (CV_f b2 hW).2.2.2.2.2.1
              have gN := (RM_f b6 hW).1
              have hev : evb g = 2 ^ g 2 - 1 := rfl
              have hbl := bc_le s 10
              rw [b_X_movers_40, b1]
              dsimp only
              rw [show Nat.beq (am_kd (i3, l3, rX q3, kX K3) r) 6 = true from by rw [b2.2.1]; rfl, Bool.true_and, cond_true, gB, am_bd_some]
              show GR ρ W v i l q K _ (am_Ex _ _ _ _ [.int (nI (evb g)), .int (nI s)] _)
              rw [b_X_movers_48, decide_eq_false (show ¬ nI (evb g) < nI s from by rw [q_lt (by omega) (by omega)]; omega), cond_false, s_J_bitCount (d + 7) (by omega), am_bd_some, q_app, b_X_movers_55]
              by_cases e : bc s 10 = n
              · rw [show decide (¬ nI (bc s 10) = nI n) = false from decide_eq_false (by rw [e]; exact fun z => z rfl), cond_false, b5, gN, am_bd_some]
                show GR ρ W v i l q K _ (am_Ex _ _ _ _ [.int (nI (sNow g 4)), .ref 27] _)
                obtain ⟨i4, l4, q4, K4, W4, x4, e4, hM4, hG4, hQ4, hx4⟩ := y_can (d + 1) (mv := s) hz16 (by omega) hM3
                rw [b_X_movers_70, e4, am_bd_some, q_app, b_X_movers_75, hx4]
                have hGn := GFx_tr hG3 hQ3 hG4
                have hQn := MQx_tr (fk_len hG3.1) hQ3 hQ4
                cases hcc : sCan g s z with
                | true =>
                  have hmv : mvB (fun m => sCan g m z) (2 ^ g 2) = some s := mvB_is (can := fun m => sCan g m z) (n := 2 ^ g 2) (s := s) (by omega) hcc (fun y hy hcy => by
                    have hcy : sCan g y z = true := hcy
                    by_cases c1 : bc y 10 < n
                    · rw [hall y hy c1] at hcy; cases hcy
                    · by_cases c2 : bc y 10 = n
                      · by_cases c3 : y < s
                        · rw [hno y c3 c2] at hcy; cases hcy
                        · omega
                      · omega)
                  rw [show (!true) = false from rfl, cond_false, hmv]
                  exact GR_md hGn hQn hM4 hv1
                | false =>
                  rw [show (!false) = true from rfl, cond_true, b_X_movers_81, show nI s + (1 : Int32) = nI (s + 1) from nI_add s 1]
                  refine ihf (s + 1) i4 l4 q4 K4 W4 (by omega) (fun y hy hb => ?_) hM4 hGn hQn
                  by_cases c3 : y = s
                  · rw [c3]; exact hcc
                  · exact hno y (by omega) hb
              · rw [show decide (¬ nI (bc s 10) = nI n) = true from decide_eq_true (by rw [q_eq (by omega) (by omega)]; exact e), cond_true, b_X_movers_81, show nI s + (1 : Int32) = nI (s + 1) from nI_add s 1]
                refine ihf (s + 1) i3 l3 q3 K3 W3 (by omega) (fun y hy hb => ?_) hM3 hG3 hQ3
                by_cases c3 : y = s
                · rw [c3] at hb; exact absurd hb e
                · exact hno y (by omega) hb
          obtain ⟨b1, b2, _, _, b5, _⟩ := id hM2.1
          have b1 : rX q2 0 2 = some r := b1
          rw [b_X_movers_27, b1]
          dsimp only
          rw [show Nat.beq (am_kd (i2, l2, rX q2, kX K2) r) 6 = true from by rw [b2.2.1]; rfl, cond_true, show i2 r 1 = nI (g 2) from b2.2.2.2.1, decide_eq_false (show ¬ nI (g 2) < nI n from by rw [q_lt (by omega) (by omega)]; omega), cond_false]
          exact inner (2 ^ g 2) 0 i2 l2 q2 K2 W2 (by omega) (fun y hy => absurd hy (Nat.not_lt_zero _)) hM2 hG2 hQ2
      exact main (g 2 + 1) 0 i1 l1 q1 K1 W1 _ (by omega) (fun y _ hb => absurd hb (Nat.not_lt_zero _)) hM1 hG1 hQ1
  · rw [if_neg hx, if_neg hx, show decide (¬ nI 0 = (0 : Int32)) = false from rfl, cond_false]
    exact GR_same hA
end
