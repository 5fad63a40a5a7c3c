/-! THE CLASS: calls that ask by a search -/
section
variable {g : Nat → Nat}
theorem bfs_ind {m a : Nat} {P : Nat → Prop} (h0 : P a) (hc : ∀ s, P s → ∀ j, j < 32 → avl g m s j = true → P (tgt s j)) : ∀ k y, y ∈ bfs g m false a k → P y
  | 0, y, hy => by
    rw [bfs, List.mem_singleton] at hy
    subst hy; exact h0
  | k + 1, y, hy => by
    rw [bfs] at hy
    unfold stepL at hy
    split at hy
    · rename_i s hs
      have hs4 := bfs_ind h0 hc k s (List.mem_of_getElem? hs)
      rw [tideL_mem, sweepL_mem] at hy
      rcases hy with (h | ⟨j, h1, h2', h3⟩) | ⟨h, _⟩
      · exact bfs_ind h0 hc k y h
      · subst h3; exact hc s hs4 j h1 h2'
      · cases h
    · exact bfs_ind h0 hc k y hy
theorem avl_mono {m m' s j : Nat} (h : ∀ p, p < 4 → m.testBit p = true → m'.testBit p = true ∨ g 2 ≤ p) (hj : j < 32) (ha : avl g m s j = true) : avl g m' s j = true := by
  unfold avl gBit at ha ⊢
  by_cases c : j / 8 < g 2 ∧ m.testBit (j / 8) = true
  · rw [if_pos c] at ha
    have hm : m'.testBit (j / 8) = true := by
      rcases h (j / 8) (by omega) c.2 with h | h
      · exact h
      · omega
    rw [if_pos ⟨c.1, hm⟩]; exact ha
  · rw [if_neg c, Nat.zero_testBit] at ha
    cases ha
theorem sCan_mono {m m' z : Nat} (h2 : g 2 ≤ 4) (hn : sNow g 4 < 4096) (h : ∀ p, p < 4 → m.testBit p = true → m'.testBit p = true ∨ g 2 ≤ p) (hc : sCan g m z = true) : sCan g m' z = true := by
  unfold sCan at hc ⊢
  rw [List.any_eq_true] at hc ⊢
  obtain ⟨x, hx, hg⟩ := hc
  refine ⟨x, ?_, hg⟩
  exact bfs_ind (P := fun y => y ∈ stds g m' false (sNow g 4)) (stds_start h2 hn) (fun s hs j hj ha => (stds_step h2 hn hs).1 j hj (avl_mono h hj ha)) 4096 x hx
theorem evb_bit (h2 : g 2 ≤ 4) {p : Nat} : (evb g).testBit p = decide (p < g 2) := by
  unfold evb
  rw [Nat.testBit_two_pow_sub_one]
/-- what a search with a goal tells -/
theorem sr_out {mv a v cm qu n z : Nat} {L : List Nat} {κ : Nat → Nat} {pb : Nat} {i : Nat → Nat → Int32} (h2 : g 2 ≤ 4) (ha : a < 4096) (hn : n ≤ 4096) (hR : SR g mv a v (some z) cm qu n L κ pb i) : (i 27 5 = -nI 1 ∧ dst g mv z a = FARN ∧ (stds g mv false a).any (gl g z) = false) ∨ ∃ T, i 27 5 = nI (L.getD (L.length - 1) 0) ∧ L.getD (L.length - 1) 0 < 4096 ∧ upk κ (L.length - 1) T = 0 ∧ (∀ k', k' < T → upk κ (L.length - 1) k' ≠ 0) ∧ T ≤ L.length - 1 ∧ T < 4096 ∧ dst g mv z a = T ∧ (∀ n, n < T → gAt g mv z a n = nI (deed (κ (upk κ (L.length - 1) (T - 1 - n)) % 32))) ∧ (stds g mv false a).any (gl g z) = true := by
  obtain ⟨hL, hX, _, hO⟩ := hR
  rcases hO with ⟨h5, hs, hng⟩ | ⟨h5, hg, hng, hin⟩
  · refine Or.inl ⟨h5, ?_, ?_⟩
    · have : ∀ n, Rch g mv z n a = false := fun n => bt_far (P := fun s => s ∈ stds g mv false a) (fun s hs j hj ha' => (stds_step h2 ha hs).1 j hj ha') (fun s hs' => hng s (by rw [hs]; exact hs')) n a (stds_start h2 ha)
      exact (lst_eq (P := fun n => Rch g mv z n a) (Nat.le_refl _) (fun z => absurd z (Nat.lt_irrefl _)) (fun n _ => this n)).symm
    · rw [List.any_eq_false]
      intro x hx
      rw [show gl g z x = false from hng x (by rw [hs]; exact hx)]; decide
  · obtain ⟨T, t1, t2, t3⟩ := up_end hX.1
    have hN := hX.1.1.2
    have hLn := hL.2.1
    have hm := mem_getD.mpr ⟨L.length - 1, (show L.length - 1 < L.length by omega), rfl⟩
    obtain ⟨e1, e2⟩ := bt_gAt hX.1 (by omega) hng hg t1 t2
    refine Or.inr ⟨T, h5, (hX.2.1 _ hm).2, t1, t2, t3, by omega, e1, e2, ?_⟩
    rw [List.any_eq_true]
    exact ⟨_, hin _ hm, hg⟩
end
section
variable {i i' : Nat → Nat → Int32} {l l' : Nat → Nat → Int64} {q q' : Nat → Nat → Option Nat} {K K' : List (Nat × Nat)} {r m v v' : Nat} {g h : Nat → Nat} {ρ : Nat → Nat → Nat} {W W' : Nat → Nat}
/-- how the class lies ahead of a call -/
def XA (ρ : Nat → Nat → Nat) (r : Nat) (g : Nat → Nat) (m : Nat) (W : Nat → Nat) (v : Nat) (i : Nat → Nat → Int32) (l : Nat → Nat → Int64) (q : Nat → Nat → Option Nat) (K : List (Nat × Nat)) : Prop := CV ρ r g m i l q K ∧ XF ρ i l q K ∧ XGs ρ W v i l q K ∧ (∀ k, k < 10 → RNc q r (W k)) ∧ v + 1 < 2 ^ 31
/-- how it lies behind one -/
def GR (ρ : Nat → Nat → Nat) (W : Nat → Nat) (v : Nat) (i : Nat → Nat → Int32) (l : Nat → Nat → Int64) (q : Nat → Nat → Option Nat) (K : List (Nat × Nat)) (vv : Option Value) (o : Option aR) : Prop := ∃ i' l' q' K' W' v', o = some (vv, (i', l', rX q', kX K')) ∧ GFx W i i' l l' q q' K K' ∧ MQx K W W' ∧ XGs ρ W' v' i' l' q' K' ∧ XF ρ i' l' q' K' ∧ v' ≤ v + 1
theorem GR_same {vv : Option Value} (hA : XA ρ r g m W v i l q K) : GR ρ W v i l q K vv (some (vv, (i, l, rX q, kX K))) := ⟨i, l, q, K, W, v, rfl, GFx_refl, MQx_refl _ _, hA.2.2.1, hA.2.1, by omega⟩
theorem GR_md {vv : Option Value} (hG : GFx W i i' l l' q q' K K') (hQ : MQx K W W') (hM : MD ρ r g m W' v' i' l' q' K') (hv : v' ≤ v + 1) : GR ρ W v i l q K vv (some (vv, (i', l', rX q', kX K'))) := ⟨i', l', q', K', W', v', rfl, hG, hQ, (MD_out hM).1, (MD_out hM).2, hv⟩
theorem y_coming (d : Nat) {z : Nat} (hz : z < 16) (hA : XA ρ r g m W v i l q K) : ∃ i' l' q' K' W' v' n L κ pb, am_cl (d + 8) mX_comingOver [.ref 0, .int (nI z)] (i, l, rX q, kX K) = some (some (.int (i' 27 5)), (i', l', rX q', kX K')) ∧ MD ρ r g m W' v' i' l' q' K' ∧ GFx W i i' l l' q q' K K' ∧ MQx K W W' ∧ v' ≤ v + 1 ∧ SC (W' 1) (W' 2) n q' K' ∧ SR g (evb g) (sNow g 4) v' (some z) (W' 1) (W' 2) n L κ pb i' := by
  obtain ⟨hC, hF, hX, hN, hv⟩ := hA
  obtain ⟨i1, l1, q1, K1, W1, v1, e1, hM1, hG1, hQ1, hv1⟩ := y_tune (d + 4) hC hF hX hN hv
  have hC1 := hM1.1
  obtain ⟨b1, b2, hW, b4, b5, b6⟩ := id hC1
  have b1 : rX q1 0 2 = some r := b1
  obtain ⟨fP, fS, fL, fE, fF, fB, fU, fV, fK, fW, hk, ra, ra1, ra2, ra3⟩ := CV_f b2 hW
  obtain ⟨fN, fO, fT, fD⟩ := RM_f b6 hW
  have h2 : g 2 ≤ 4 := hW.2.1
  have hn := sNow_lt g hW.2.2.2.2.2.1 4 (by decide)
  have hvs : VS g (sNow g 4) := hW.2.2.2.2.2.2.2.2.2.2
  obtain ⟨i2, l2, q2, K2, W2, n, L, κ, pb, e2, hM2, hG2, hQ2, hSC, hSR⟩ := y_ex d (z := some z) hM1 (fun zz hzz => by rw [← Option.some.inj hzz]; exact hz) hn hvs (evb_lt h2)
  have a1 : rX q 0 2 = some r := hC.1
  have a5 := hC.2.2.2.2.1
  refine ⟨i2, l2, q2, K2, W2, v1, n, L, κ, pb, ?_, hM2, GFx_tr hG1 hQ1 hG2, MQx_tr (fk_len hG1.1) hQ1 hQ2, hv1, hSC, hSR⟩
  rw [c_X_comingOver, b_X_comingOver_0, a1]
  dsimp only
  rw [a5, e1, am_bd_some, q_app0, b_X_comingOver_15, b5, fN, am_bd_some]
  show am_Ex _ _ _ _ [.int (nI (sNow g 4)), .ref 27] _ = _
  rw [b_X_comingOver_26, b1]
  dsimp only
  rw [hk, Bool.true_and, cond_true, fB, am_bd_some]
  show am_Ex _ _ _ _ [.int (nI (evb g)), .int (nI (sNow g 4)), .ref 27] _ = _
  rw [b_X_comingOver_33, show nI z = vW (some z) from rfl, e2, am_bd_some, q_app, b_X_comingOver_37]
theorem y_all (d : Nat) (hA : XA ρ r g m W v i l q K) : ∃ i' l' q' K' W' v' n, am_cl (d + 8) mX_exploreAll [.ref 0] (i, l, rX q, kX K) = some (none, (i', l', rX q', kX K')) ∧ MD ρ r g m W' v' i' l' q' K' ∧ GFx W i i' l l' q q' K K' ∧ MQx K W W' ∧ v' ≤ v + 1 ∧ SC (W' 1) (W' 2) n q' K' ∧ SL (W' 1) (W' 2) n (stds g (evb g) false (sNow g 4)) i' := by
  obtain ⟨hC, hF, hX, hN, hv⟩ := hA
  obtain ⟨i1, l1, q1, K1, W1, v1, e1, hM1, hG1, hQ1, hv1⟩ := y_tune (d + 4) hC hF hX hN hv
  have hC1 := hM1.1
  obtain ⟨b1, b2, hW, b4, b5, b6⟩ := id hC1
  have b1 : rX q1 0 2 = some r := b1
  obtain ⟨fP, fS, fL, fE, fF, fB, fU, fV, fK, fW, hk, ra, ra1, ra2, ra3⟩ := CV_f b2 hW
  obtain ⟨fN, fO, fT, fD⟩ := RM_f b6 hW
  have h2 : g 2 ≤ 4 := hW.2.1
  have hn := sNow_lt g hW.2.2.2.2.2.1 4 (by decide)
  have hvs : VS g (sNow g 4) := hW.2.2.2.2.2.2.2.2.2.2
  obtain ⟨i2, l2, q2, K2, W2, n, L, κ, pb, e2, hM2, hG2, hQ2, hSC, hSR⟩ := y_ex d (z := none) hM1 (fun zz hzz => by cases hzz) hn hvs (evb_lt h2)
  have a1 : rX q 0 2 = some r := hC.1
  have a5 := hC.2.2.2.2.1
  have hLs : L = stds g (evb g) false (sNow g 4) := by
    rcases hSR.2.2.2 with h | h
    · exact h.2.1
    · have := h.2.1
      unfold gz at this
      cases this
  refine ⟨i2, l2, q2, K2, W2, v1, n, ?_, hM2, GFx_tr hG1 hQ1 hG2, MQx_tr (fk_len hG1.1) hQ1 hQ2, hv1, hSC, by rw [← hLs]; exact hSR.1⟩
  rw [c_X_exploreAll, b_X_exploreAll_0, a1]
  dsimp only
  rw [a5, e1, am_bd_some, q_app0, b_X_exploreAll_15, b5, fN, am_bd_some]
  show am_Ex _ _ _ _ [.int (nI (sNow g 4)), .ref 27] _ = _
  rw [b_X_exploreAll_26, b1]
  dsimp only
  rw [hk, Bool.true_and, cond_true, fB, am_bd_some]
  show am_Ex _ _ _ _ [.int (nI (evb g)), .int (nI (sNow g 4)), .ref 27] _ = _
  rw [b_X_exploreAll_33, show (-1 : Int32) = vW none from rfl, e2, am_bd_some, q_app, b_X_exploreAll_37]
theorem p16 (h2 : g 2 ≤ 4) {z : Nat} (hz : z < 2 ^ g 2) : z < 16 := by
  have : (2 : Nat) ^ g 2 ≤ 2 ^ 4 := Nat.pow_le_pow_right (by decide) h2
  omega
theorem y_X_soonest (d : Nat) (x : Int32) (hA : XA ρ r g m W v i l q K) : GR ρ W v i l q K (some (.int (v_soonest g x))) (am_cl (d + 9) mX_soonest [.ref 0, .int x] (i, l, rX q, kX K)) := by
  obtain ⟨a1, a2, hW, a4, a5, a6⟩ := id hA.1
  have a1 : rX q 0 2 = some r := a1
  obtain ⟨fP, fS, fL, fE, fF, fB, fU, fV, fK, fW, hk, ra, ra1, ra2, ra3⟩ := CV_f a2 hW
  have h2 : g 2 ≤ 4 := hW.2.1
  have hn := sNow_lt g hW.2.2.2.2.2.1 4 (by decide)
  rw [c_X_soonest, b_X_soonest_0, a1]
  dsimp only
  rw [hk, Bool.true_and, cond_true, fE, am_bd_some, q_app, b_X_soonest_8, v_soonest]
  by_cases hx : iB x (2 ^ g 2) = true
  · rw [if_pos hx, if_pos hx]
    obtain ⟨z, hz, rfl⟩ := iB_T hx
    have hz16 := p16 h2 hz
    obtain ⟨i1, l1, q1, K1, W1, v1, n, L, κ, pb, e1, hM1, hG1, hQ1, hv1, hSC, hSR⟩ := y_coming d hz16 hA
    rw [show decide (¬ nI 1 = (0 : Int32)) = true from rfl, cond_true, e1, am_bd_some, q_app, b_X_soonest_19, nI_clamp (by omega)]
    rcases sr_out h2 hn hSC.2.2.2.2.2 hSR with ⟨h5, hd, _⟩ | ⟨T, h5, h54, t1, t2, t3, t4, hd, _, _⟩
    · rw [h5, show decide (¬ -nI 1 = (-1 : Int32)) = false from rfl, cond_false, b_X_soonest_34, if_pos hd]
      exact GR_md hG1 hQ1 hM1 hv1
    · rw [h5, show decide (¬ nI (L.getD (L.length - 1) 0) = (-1 : Int32)) = true from decide_eq_true (by
        show ¬ nI (L.getD (L.length - 1) 0) = -nI 1
        rw [q_m1 (by omega)]; exact id), cond_true, s_rowLength (l := l1) (d + 5) hSC hSR.1 hSR.2.1 h5 t1 t2 t3, am_bd_some, q_app, b_X_soonest_34, hd, if_neg (by unfold FARN; omega)]
      exact GR_md hG1 hQ1 hM1 hv1
  · rw [if_neg hx, if_neg hx, show decide (¬ nI 0 = (0 : Int32)) = false from rfl, cond_false]
    exact GR_same hA
theorem y_X_way (d : Nat) (x y : Int32) (hA : XA ρ r g m W v i l q K) : GR ρ W v i l q K (some (.int (v_way g x y))) (am_cl (d + 9) mX_way [.ref 0, .int x, .int y] (i, l, rX q, kX K)) := by
  obtain ⟨a1, a2, hW, a4, a5, a6⟩ := id hA.1
  have a1 : rX q 0 2 = some r := a1
  obtain ⟨fP, fS, fL, fE, fF, fB, fU, fV, fK, fW, hk, ra, ra1, ra2, ra3⟩ := CV_f a2 hW
  have h2 : g 2 ≤ 4 := hW.2.1
  have hn := sNow_lt g hW.2.2.2.2.2.1 4 (by decide)
  rw [c_X_way, b_X_way_0, a1]
  dsimp only
  rw [hk, Bool.true_and, cond_true, fE, am_bd_some, q_app, b_X_way_8, v_way]
  by_cases hx : iB x (2 ^ g 2) = true
  · rw [if_pos hx, show decide (nI 1 = (0 : Int32)) = false from rfl, cond_false]
    by_cases hy : nI 0 ≤ y
    · obtain ⟨z, hz, rfl⟩ := iB_T hx
      have hz16 := p16 h2 hz
      obtain ⟨Y, hY, rfl⟩ := nI_of (show ¬ y < 0 from by rw [← q_le32]; exact hy)
      obtain ⟨i1, l1, q1, K1, W1, v1, n, L, κ, pb, e1, hM1, hG1, hQ1, hv1, hSC, hSR⟩ := y_coming d hz16 hA
      rw [if_pos ⟨hx, hy⟩, decide_eq_true (show (0 : Int32) ≤ nI Y from hy), cond_true, e1, am_bd_some, q_app, b_X_way_23, nI_clamp (by omega), nI_clamp (by omega)]
      rcases sr_out h2 hn hSC.2.2.2.2.2 hSR with ⟨h5, hd, _⟩ | ⟨T, h5, h54, t1, t2, t3, t4, hd, hgo, _⟩
      · rw [h5, show decide (-nI 1 = (-1 : Int32)) = true from rfl, cond_true, b_X_way_38, gAt, if_neg (by rw [hd]; intro z; exact absurd z.1 (Nat.lt_irrefl _))]
        exact GR_md hG1 hQ1 hM1 hv1
      · rw [h5, show decide (nI (L.getD (L.length - 1) 0) = (-1 : Int32)) = false from decide_eq_false (by
          show ¬ nI (L.getD (L.length - 1) 0) = -nI 1
          rw [q_m1 (by omega)]; exact id), cond_false, s_rowLength (l := l1) (d + 5) hSC hSR.1 hSR.2.1 h5 t1 t2 t3, am_bd_some]
        show GR ρ W v i l q K _ (am_Ex _ _ _ _ [.int (nI T), .int (nI Y)] _)
        rw [b_X_way_35]
        by_cases c : Y < T
        · rw [decide_eq_true (show nI Y < nI T from by rw [q_lt (by omega) (by omega)]; exact c), cond_true, s_goingAt (l := l1) (d + 4) hSC hSR.1 hSR.2.1 h5 t1 t2 t3 c, am_bd_some, q_app, b_X_way_48, hgo Y c]
          exact GR_md hG1 hQ1 hM1 hv1
        · rw [decide_eq_false (show ¬ nI Y < nI T from by rw [q_lt (by omega) (by omega)]; exact c), cond_false, b_X_way_38, gAt, if_neg (by rw [hd]; intro z; exact c z.2)]
          exact GR_md hG1 hQ1 hM1 hv1
    · rw [if_neg (fun z => hy z.2), decide_eq_false (show ¬ (0 : Int32) ≤ y from hy), cond_false, b_X_way_15]
      exact GR_same hA
  · rw [if_neg hx, if_neg (fun z => hx z.1), show decide (nI 0 = (0 : Int32)) = true from rfl, cond_true, b_X_way_15]
    exact GR_same hA
theorem y_X_stands (d : Nat) (hA : XA ρ r g m W v i l q K) : GR ρ W v i l q K (some (.int (v_stands g))) (am_cl (d + 9) mX_stands [.ref 0] (i, l, rX q, kX K)) := by
  obtain ⟨i1, l1, q1, K1, W1, v1, n, e1, hM1, hG1, hQ1, hv1, hSC, hSL⟩ := y_all d hA
  rw [c_X_stands, b_X_stands_0, e1, am_bd_some, q_app0, b_X_stands_4, hSL.1]
  exact GR_md hG1 hQ1 hM1 hv1
end
