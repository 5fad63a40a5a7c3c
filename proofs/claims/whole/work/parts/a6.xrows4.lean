/-! THE CLASS: rows, the call -/
section
variable {i i' : Nat → Nat → Int32} {l l' : Nat → Nat → Int64} {q q' : Nat → Nat → Option Nat} {K K' : List (Nat × Nat)} {r m v v' : Nat} {g h : Nat → Nat} {ρ : Nat → Nat → Nat} {W W' : Nat → Nat}
theorem y_rowsTo (d : Nat) {w : Nat → Nat} {M : List Nat} {n z : Nat} (hz : z < 16) (hM : MD ρ r g m W v i l q K) (hR : RWs g W w M n i l) (hln : lK K (W 3) = n) (h8 : 8 ^ g 2 ≤ n) (hMl : M.length ≤ n) : am_cl (d + 3) mRows_rowsTo [.ref 30, .int (nI z)] (i, l, rX q, kX K) = some (some (.long (lN (sSum (fun k => if gl g z (M.getD k 0) = true then w (M.getD k 0) else 0) M.length))), (i, l, rX q, kX K)) := by
  obtain ⟨hC, hG, ⟨n0, hS⟩, hRw, hFo, hO, hN⟩ := hM
  obtain ⟨r1, r2, r3, r4, r5, r6⟩ := hR
  obtain ⟨⟨x1, x2, x3, x4⟩, ⟨k3, k4, k5, k6⟩, n', hn', ⟨l3, l4, l5, l6⟩, hzz⟩ := id hRw
  have hnn : n' = n := l3.symm.trans hln
  subst hnn
  have h2 : g 2 ≤ 4 := hC.2.2.1.2.1
  have y1 : rX q 30 1 = some (W 3) := x1
  have y3 : rX q 30 3 = some (W 5) := x3
  have y22 : rX q 22 1 = some r := hG.2.1
  obtain ⟨fP, fS, fL, fE, fF, fB, fU, fV, fK, fW, hk, ra, ra1, ra2, ra3⟩ := CV_f hC.2.1 hC.2.2.1
  have main : ∀ f c z3, c + f = M.length → am_Ex (d + 2) mRows_rowsTo 5 [.val (.ref 30), .val (.int (nI z)), .val (.long (lN (sSum (fun k => if gl g z (M.getD k 0) = true then w (M.getD k 0) else 0) c))), z3, .val (.int (nI c))] [] (i, l, rX q, kX K) = some (some (.long (lN (sSum (fun k => if gl g z (M.getD k 0) = true then w (M.getD k 0) else 0) M.length))), (i, l, rX q, kX K)) := by
    intro f
    induction f with
    | zero =>
      intro c z3 hc
      have hc : c = M.length := by omega
      subst hc
      rw [b_Rows_rowsTo_5, r1, decide_eq_true (show nI M.length ≤ nI M.length from by rw [q_le (by omega) (by omega)]; exact Nat.le_refl _), cond_true]
    | succ f ih =>
      intro c z3 hc
      have hcM : c < M.length := by omega
      obtain ⟨hvs, hs4⟩ := r6 (M.getD c 0) (mem_getD.mpr ⟨c, hcM, rfl⟩)
      have hsn : M.getD c 0 < n' := Nat.lt_of_lt_of_le (VS_lt h2 hs4 hvs) h8
      have hov := sOver_lt (g := g) (a := M.getD c 0) h2
      rw [b_Rows_rowsTo_5, r1, decide_eq_false (show ¬ nI M.length ≤ nI c from by rw [q_le (by omega) (by omega)]; omega), cond_false, y22, y3]
      dsimp only
      rw [in100 k5 l5 hn' (show c < n' by omega), cond_true, hk, Bool.true_and, cond_true, nI_clamp (by omega), r3 c hcM, fV d _ hs4, am_bd_some, q_app, b_Rows_rowsTo_31, fa_and]
      have hgl : gl g z (M.getD c 0) = decide (sOver g (M.getD c 0) &&& z = z) := rfl
      have hal : sOver g (M.getD c 0) &&& z ≤ z := Nat.and_le_right
      by_cases e : sOver g (M.getD c 0) &&& z = z
      · rw [show decide (¬ nI (sOver g (M.getD c 0) &&& z) = nI z) = false from decide_eq_false (by rw [e]; exact fun z => z rfl), cond_false, y1, y3]
        dsimp only
        rw [in100 k5 l5 hn' (show c < n' by omega), cond_true, nI_clamp (by omega), r3 c hcM, in101 k3 l3 hn' hsn, cond_true, nI_clamp (by omega), r4 _ hsn, lN_p, b_Rows_rowsTo_52, show nI c + (1 : Int32) = nI (c + 1) from nI_add c 1]
        have := ih (c + 1) (am_k1 .unset) (by omega)
        rw [sSum, if_pos (show gl g z (M.getD c 0) = true from by rw [hgl]; exact decide_eq_true e)] at this
        exact this
      · rw [show decide (¬ nI (sOver g (M.getD c 0) &&& z) = nI z) = true from decide_eq_true (by rw [q_eq (by omega) (by omega)]; exact e), cond_true, b_Rows_rowsTo_52, show nI c + (1 : Int32) = nI (c + 1) from nI_add c 1]
        have := ih (c + 1) (am_k1 z3) (by omega)
        rw [sSum, if_neg (show ¬ gl g z (M.getD c 0) = true from by rw [hgl, decide_eq_false e]; decide), Nat.add_zero] at this
        exact this
  rw [c_Rows_rowsTo, b_Rows_rowsTo_0]
  exact main M.length 0 .unset (by omega)
theorem inj_len {M : List Nat} {n : Nat} (r2 : ∀ a b, a < M.length → b < M.length → M.getD a 0 = M.getD b 0 → a = b) (hl : ∀ x, x ∈ M → x < n) : M.length ≤ n := by
  apply Classical.byContradiction
  intro hc
  have hx := nd_len (L := M.take n) (n := n) (x := M.getD n 0) (fun a b ha hb e => by
    rw [List.length_take] at ha hb
    have e1 : ∀ a, a < n → (M.take n).getD a 0 = M.getD a 0 := fun a ha => by
      rw [List.getD_eq_getElem?_getD, List.getD_eq_getElem?_getD, List.getElem?_take_of_lt ha]
    rw [e1 a (by omega), e1 b (by omega)] at e
    exact r2 a b (by omega) (by omega) e) (fun y hy => hl y (List.mem_of_mem_take hy)) (hl _ (mem_getD.mpr ⟨n, by omega, rfl⟩)) (fun z => by
      obtain ⟨a, ha, e⟩ := mem_getD.mp z
      rw [List.length_take] at ha
      have e1 : (M.take n).getD a 0 = M.getD a 0 := by
        rw [List.getD_eq_getElem?_getD, List.getD_eq_getElem?_getD, List.getElem?_take_of_lt (show a < n by omega)]
      rw [e1] at e
      have := r2 a n (by omega) (by omega) e
      omega)
  rw [List.length_take] at hx
  omega
theorem RWs_len {w : Nat → Nat} {M : List Nat} {n : Nat} (h2 : g 2 ≤ 4) (h8 : 8 ^ g 2 ≤ n) (hR : RWs g W w M n i l) : M.length ≤ n := inj_len hR.2.1 (fun x hx => Nat.lt_of_lt_of_le (VS_lt h2 (hR.2.2.2.2.2 x hx).2 (hR.2.2.2.2.2 x hx).1) h8)
theorem y_X_rows (d : Nat) (x y : Int32) (hA : XA ρ r g m W v i l q K) : GR ρ W v i l q K (some (.long (v_rows g x y))) (am_cl (d + 9) mX_rows [.ref 0, .int x, .int y] (i, l, rX q, kX K)) := by
  obtain ⟨a1, a2, hW, a4, a5, a6⟩ := id hA.1
  have a1 : rX q 0 2 = some r := a1
  obtain ⟨fP, fS, fL, fE, fF, fB, fU, fV, fK, fW, hk, ra, ra1, ra2, ra3⟩ := CV_f a2 hW
  have h2 : g 2 ≤ 4 := hW.2.1
  have hn := sNow_lt g hW.2.2.2.2.2.1 4 (by decide)
  have hvs : VS g (sNow g 4) := hW.2.2.2.2.2.2.2.2.2.2
  have hyr := rg_z 0 10 y (by decide) (by decide)
  rw [c_X_rows, b_X_rows_0, a1]
  dsimp only
  rw [hk, Bool.true_and, cond_true, fE, am_bd_some, q_app, b_X_rows_8, v_rows]
  by_cases hx : iB x (2 ^ g 2) = true
  · rw [if_pos hx, show decide (nI 1 = (0 : Int32)) = false from rfl, cond_false]
    by_cases hy : iR 0 10 y = true
    · obtain ⟨y1, y2⟩ := hyr.mp hy
      obtain ⟨z, hz, rfl⟩ := iB_T hx
      have hz16 := p16 h2 hz
      obtain ⟨Y, hY, rfl⟩ := nI_of (show ¬ y < 0 from y1)
      have hY10 : Y ≤ 10 := by rw [q_le (by omega) (by omega)] at y2; exact y2
      obtain ⟨i1, l1, q1, K1, W1, v1, e1, hM1, hG1, hQ1, hv1⟩ := y_tune (d + 5) hA.1 hA.2.1 hA.2.2.1 hA.2.2.2.1 hA.2.2.2.2
      have b5 := hM1.1.2.2.2.2.1
      have gN := (RM_f hM1.1.2.2.2.2.2 hW).1
      obtain ⟨i2, l2, q2, K2, W2, n, e2, hM2, hR2, hl2, h82, hG2, hQ2⟩ := y_begin (d + 6) hM1 hn hvs
      have hG12 := GFx_tr hG1 hQ1 hG2
      have hQ12 := MQx_tr (fk_len hG1.1) hQ1 hQ2
      rw [if_pos ⟨hx, hy⟩, decide_eq_false (show ¬ nI Y < 0 from y1), cond_false, decide_eq_true (show nI Y ≤ 10 from y2), cond_true, a1]
      dsimp only
      rw [a5, e1, am_bd_some, q_app0, b_X_rows_40, b5, gN, am_bd_some]
      show GR ρ W v i l q K _ (am_Ex _ _ _ _ [.int (nI (sNow g 4)), .ref 30] _)
      rw [b_X_rows_51, e2, am_bd_some, q_app0, b_X_rows_54, nI_clamp (by omega), nI_clamp (by omega)]
      have hlt : ∀ s, s ∈ stds g (evb g) false (sNow g 4) → s < 4096 := fun s hs => stds_lt h2 hn hs
      have hst := stds_start (g := g) (m := evb g) (t := false) h2 hn
      have hcl : ∀ s, s ∈ stds g (evb g) false (sNow g 4) → ∀ j, j < 32 → avl g (evb g) s j = true → tgt s j ∈ stds g (evb g) false (sNow g 4) := fun s hs => (stds_step h2 hn hs).1
      have hnd := stds_nodup (g := g) (m := evb g) (t := false) (a := sNow g 4)
      obtain ⟨L, hL⟩ : ∃ L, stds g (evb g) false (sNow g 4) = L := ⟨_, rfl⟩
      rw [hL] at hlt hst hcl hnd ⊢
      have main : ∀ f c i3 l3 q3 K3 W3 M, c + f = Y → MD ρ r g m W3 v1 i3 l3 q3 K3 → RWs g W3 (wk g (evb g) L (sNow g 4) c) M n i3 l3 → lK K3 (W3 3) = n → GFx W i i3 l l3 q q3 K K3 → MQx K W W3 → GR ρ W v i l q K (some (.long (lN (rwN g (evb g) L (sNow g 4) z Y)))) (am_Ex (d + 8) mX_rows 56 [.val (.ref 0), .val (.int (nI z)), .val (.int (nI Y)), .val (.int (nI c))] [] (i3, l3, rX q3, kX K3)) := by
        intro f
        induction f with
        | zero =>
          intro c i3 l3 q3 K3 W3 M hc hM3 hR3 hl3 hG3 hQ3
          have hc : c = Y := by omega
          subst hc
          rw [b_X_rows_56, decide_eq_true (show nI c ≤ nI c from by rw [q_le (by omega) (by omega)]; exact Nat.le_refl _), cond_true, y_rowsTo (d + 5) hz16 hM3 hR3 hl3 h82 (RWs_len h2 h82 hR3), am_bd_some, q_app, b_X_rows_82, rw_supp hnd hlt hst hcl hR3.2.1 hR3.2.2.2.2.1]
          exact GR_md hG3 hQ3 hM3 hv1
        | succ f ih =>
          intro c i3 l3 q3 K3 W3 M hc hM3 hR3 hl3 hG3 hQ3
          have hnw : ∀ t, nw g (wk g (evb g) L (sNow g 4) c) M M.length t = wk g (evb g) L (sNow g 4) (c + 1) t := fun t => wk_supp hnd hlt hst hcl hR3.2.1 hR3.2.2.2.2.1 t
          have hbd : ∀ t, nw g (wk g (evb g) L (sNow g 4) c) M M.length t < 2 ^ 62 := fun t => by
            rw [hnw]
            have h1 := wk_lt (g := g) (m := evb g) hnd hst hcl (c + 1) t
            have h2 : (32 : Nat) ^ (c + 1) ≤ 32 ^ 10 := Nat.pow_le_pow_right (by decide) (by omega)
            have h3 : (32 : Nat) ^ 10 < 2 ^ 62 := by decide
            omega
          obtain ⟨i4, l4, q4, M4, e4, hM4, hR4, hG4, hl4⟩ := y_goOn (d + 2) hM3 hR3 hl3 h82 hbd
          rw [b_X_rows_56, decide_eq_false (show ¬ nI Y ≤ nI c from by rw [q_le (by omega) (by omega)]; omega), cond_false, e4, am_bd_some, q_app0, b_X_rows_68, show nI c + (1 : Int32) = nI (c + 1) from nI_add c 1]
          refine ih (c + 1) i4 l4 q4 K3 (sw W3) M4 (by omega) hM4 ?_ hl4 (GFx_tr hG3 hQ3 hG4) (MQx_tr (fk_len hG3.1) hQ3 MQx_sw)
          rw [show wk g (evb g) L (sNow g 4) (c + 1) = nw g (wk g (evb g) L (sNow g 4) c) M M.length from funext fun t => (hnw t).symm]
          exact hR4
      refine main Y 0 i2 l2 q2 K2 W2 [sNow g 4] (by omega) hM2 ?_ hl2 hG12 hQ12
      rw [show wk g (evb g) L (sNow g 4) 0 = fun t => if t = sNow g 4 then 1 else 0 from funext fun t => by rw [wk]]
      exact hR2
    · rw [if_neg (fun z => hy z.2)]
      by_cases y1 : y < nI 0
      · rw [decide_eq_true (show y < 0 from y1), cond_true, b_X_rows_21]
        exact GR_same hA
      · have y2 : ¬ y ≤ nI 10 := fun z => hy (hyr.mpr ⟨y1, z⟩)
        rw [decide_eq_false (show ¬ y < 0 from y1), cond_false, decide_eq_false (show ¬ y ≤ 10 from y2), cond_false, b_X_rows_21]
        exact GR_same hA
  · rw [if_neg hx, if_neg (fun z => hx z.1), show decide (nI 0 = (0 : Int32)) = true from rfl, cond_true, b_X_rows_21]
    exact GR_same hA
end
