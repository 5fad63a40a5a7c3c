/-! THE CLASS: river -/
section
variable {i i' : Nat → Nat → Int32} {l l' : Nat → Nat → Int64} {q q' : Nat → Nat → Option Nat} {K K' : List (Nat × Nat)} {σ : St}
/-- what river leaves: the told river as it was, or a new one -/
def RVo (σ : St) (x : Int32) (i i' : Nat → Nat → Int32) (l l' : Nat → Nat → Int64) (q q' : Nat → Nat → Option Nat) (K K' : List (Nat × Nat)) : Prop :=
  ((a_river σ x).1 = σ.1 ∧ FK [1, 3, 4, 5, 6] [] [] [5] i i' l l' q q' K K') ∨
  (FK [0, 1, 3, 4, 5, 6] [] [0] [0, 5] i i' l l' q q' K K' ∧ (∃ f, (a_river σ x).1 = gRiv σ.1 f) ∧ q' 0 2 = some (58 + K.length) ∧ RV (i', l', rX q', kX K') (58 + K.length) (a_river σ x).1 ∧ (∃ m, l' 0 3 = lN m ∧ RM m (gCur (a_river σ x).1)) ∧ i' 0 5 = nI 0 ∧ (a_river σ x).1 32 = 0 ∧ ∀ w, w < 58 + K.length → RNc q' (58 + K.length) w)
theorem y_X_river (d : Nat) (x : Int32) (hB : TB σ i) (hI : SI σ) (h8 : ∃ c, c ≤ 900 ∧ i 5 8 = nI c) : ∃ i' l' q' K', am_cl (d + 31) mX_river [.ref 0, .int x] (i, l, rX q, kX K) = some (some (.int (v_river σ x)), (i', l', rX q', kX K')) ∧ TB (a_river σ x) i' ∧ (∃ c, c ≤ 900 ∧ i' 5 8 = nI c) ∧ RVo σ x i i' l l' q q' K K' ∧ am_sz K' ≤ am_sz K + 1817 ∧ K'.length ≤ K.length + 905 := by
  obtain ⟨t1, t2, t3, t4⟩ := id hB
  have h900 := hI.2.2.2.2.1
  rw [c_X_river, b_X_river_0, t1]
  by_cases c0 : iR 0 σ.2.2.2.1 x = true
  · have cx := of_decide_eq_true c0
    obtain ⟨N, hN, hx⟩ := inN (x := x) (n := σ.2.2.2.1 + 1) ⟨by omega, by omega⟩
    subst hx
    have hNF : N ≤ σ.2.2.2.1 := by omega
    have hb256 := rB_lt hI
    obtain ⟨i1, M, e1, hCK⟩ := y_cut (l := l) (q := q) (K := K) (B := rB σ) (d + 27) h900 hNF t1 (fun k hk => by unfold rB; rw [if_pos hk]; exact t2 k hk) hb256
    obtain ⟨k1, k2, k3, k4, k5, k6, k7, k8⟩ := hCK
    have hTK : TKs (rB σ) N M i1 := ⟨by omega, kj_24.mpr k3, k4, k6⟩
    obtain ⟨i2, l2, q2, K2, e2, hb2, hw2, hz⟩ := y_read (l := l) (q := q) (K := K) d k1 hTK (by rw [k8 5 (by decide) (by decide) (by decide)]; exact h8)
    obtain ⟨r, er⟩ : ∃ r, 58 + K.length = r := ⟨_, rfl⟩
    have eP : rP σ (nI N) = rvS (rB σ) N := by unfold rP; rw [nI_clamp (by omega)]
    rw [er] at e2 hb2 hw2
    rw [decide_eq_false (show ¬ nI N < (0 : Int32) from by
      show ¬ nI N < nI 0
      rw [q_lt (by omega) (by omega)]; omega), cond_false, decide_eq_true (show nI N ≤ nI σ.2.2.2.1 from by rw [q_le (by omega) (by omega)]; exact hNF), cond_true, e1, am_bd_some, q_app0, b_X_river_26, e2, am_bd_some]
    obtain ⟨⟨_, _, hR, _, hR4, hR8⟩, hS, hD⟩ := id hb2
    have h58 : 58 ≤ r := hS.1
    have io : ∀ c, c < r → c ≠ 1 → c ≠ 3 → c ≠ 4 → c ≠ 5 → c ≠ 6 → i2 c = i c := fun c hc x1 x3 x4 x5 x6 => ((hw2.2 c hc).1 x5 x6).trans (k8 c x1 x3 x4)
    have i11 : i2 1 1 = nI 0 := by rw [(hw2.2 1 (by omega)).1 (by decide) (by decide)]; exact k5
    by_cases c : (rvS (rB σ) N).1 = 0
    · have ea : a_river σ (nI N) = (gRiv σ.1 (rvS (rB σ) N).2.2.2, σ.2.1, σ.2.2.1, 0, 0, -nI 1, σ.2.2.2.2.2.2) := by
        unfold a_river; rw [if_pos c0, eP, if_pos c]
      obtain ⟨hWG, h32⟩ := WG_riv (g := σ.1) (N := N) hb256 (by omega) c
      have hDC := hD c
      have hV := RV_draft hS hDC
      have hgr : ∀ j, j < 1074 → gRiv σ.1 (rvS (rB σ) N).2.2.2 j = (rvS (rB σ) N).2.2.2 j := fun j hj => by unfold gRiv; rw [if_pos hj]
      have hWf : WG (rvS (rB σ) N).2.2.2 := WG_cg hWG (fun j hj _ => (hgr j hj).symm)
      have hV2 := RV_g hV hWf hgr
      obtain ⟨m, m1, m2⟩ := hDC.2.2.2.2
      have hk6 : ∀ i l q, Nat.beq (am_kd (i, l, q, kX K2) r) 6 = true := fun i l q => by rw [show am_kd (i, l, q, kX K2) r = 6 from hS.2.2.2.1.1]; rfl
      have hr3 := hDC.1.2.2.2
      rw [if_pos c]
      show ∃ i' l' q' K', am_Ex _ _ _ _ [.ref r] _ = _ ∧ _
      rw [b_X_river_33, hk6, cond_true, hk6, cond_true, rX_u2 q2 _ (show rX (fun _ _ => none) 0 2 = none from rfl), u2_o (show r ≠ 0 by omega), hr3]
      have ev : v_river σ (nI N) = nI ((rvS (rB σ) N).2.2.2 0) := by unfold v_river; rw [if_pos c0, eP, if_pos c]
      rw [ev]
      have hfg : FG [0] [0] [0] i2 (am_u2 i2 0 5 0) l2 (am_u2 l2 0 3 (l2 r 4)) q2 (am_u2 q2 0 2 (some r)) := ⟨fun c hc => u2_o (fun z => by rw [z] at hc; cases hc), fun c hc => u2_o (fun z => by rw [z] at hc; cases hc), fun c hc => u2_o (fun z => by rw [z] at hc; cases hc)⟩
      refine ⟨_, _, _, _, rfl, ?_, ?_, Or.inr ⟨⟨hw2.1, fun c hc => ⟨fun z _ => ?_, fun z _ => ?_, fun z => ?_⟩⟩, ⟨(rvS (rB σ) N).2.2.2, by rw [ea]⟩, by rw [u2_s, er], ?_, ⟨m, by rw [u2_s]; exact m1, ?_⟩, u2_s, ?_, fun w hw => ?_⟩, hz⟩
      · rw [ea]
        refine ⟨by rw [u2_o (by decide)]; exact i11, fun k hk => absurd hk (Nat.not_lt_zero _), ?_, ?_⟩
        · rw [u2_o (by decide), hR.1, c]
        · rw [u2_o (by decide)]; exact hR4 c
      · obtain ⟨c9, h9⟩ := hR8
        exact ⟨c9, h9.1, by rw [u2_o (by decide)]; exact h9.2⟩
      · have a0 : c ≠ 0 := fun y => by rw [y] at z; cases z
        rw [u2_o a0]
        exact io c (by omega) (fun y => by rw [y] at z; cases z) (fun y => by rw [y] at z; cases z) (fun y => by rw [y] at z; cases z) (fun y => by rw [y] at z; cases z) (fun y => by rw [y] at z; cases z)
      · rw [u2_o (fun y => by rw [y] at z; cases z)]
        exact (hw2.2 c (by omega)).2.1
      · rw [u2_o (fun y => by rw [y] at z; cases z)]
        exact (hw2.2 c (by omega)).2.2 (fun y => by rw [y] at z; cases z)
      · rw [ea, er]; exact RV_fg hfg rfl rfl hV2
      · rw [ea]
        exact RM_cg m2 (fun k hk => by unfold gCur; exact hgr _ (by omega))
      · rw [ea]; exact h32
      · rw [er] at hw ⊢
        refine ⟨by omega, fun k x hk5 hk8 hx => ?_⟩
        rw [rX_hi _ h58, u2_o (show r ≠ 0 by omega), ← rX_hi q2 h58] at hx
        have law : ∀ w', DLl i2 q2 K2 r w' (rvS (rB σ) N).2.2.2 → rX q2 r (7 + w') = some x → x ≠ w := fun w' hd hx => by
          by_cases z : (rvS (rB σ) N).2.2.2 (4 + w') = 0
          · rw [hd.1 z] at hx; cases hx
          · obtain ⟨c, c1, c2, _⟩ := hd.2 z
            rw [c2] at hx
            injection hx with hx
            omega
        rcases (show k = 5 ∨ k = 6 ∨ k = 7 ∨ k = 8 by omega) with rfl | rfl | rfl | rfl
        · rw [hS.2.2.1.1] at hx; injection hx with hx; omega
        · rw [hS.2.2.1.2] at hx; injection hx with hx; omega
        · exact law 0 hDC.2.2.2.1.1 hx
        · exact law 1 hDC.2.2.2.1.2 hx
    · have ea : a_river σ (nI N) = (σ.1, σ.2.1, σ.2.2.1, 0, (rvS (rB σ) N).1, nI (rvS (rB σ) N).2.1, σ.2.2.2.2.2.2) := by
        unfold a_river; rw [if_pos c0, eP, if_neg c]
      have ev : v_river σ (nI N) = -nI 30 - nI (rvS (rB σ) N).1 := by unfold v_river; rw [if_pos c0, eP, if_neg c]
      rw [if_neg c]
      show ∃ i' l' q' K', am_Ex _ _ _ _ [.null] _ = _ ∧ _
      rw [b_X_river_33n, hR.1, ev]
      refine ⟨_, _, _, _, rfl, ?_, hR8, Or.inl ⟨by rw [ea], hw2.1, fun c hc => ⟨fun z _ => ?_, fun z _ => (hw2.2 c (by omega)).2.1, fun z => (hw2.2 c (by omega)).2.2 (fun y => by rw [y] at z; cases z)⟩⟩, hz⟩
      · rw [ea]
        exact ⟨i11, fun k hk => absurd hk (Nat.not_lt_zero _), hR.1, (hR.2.2.1 c).1⟩
      · exact io c (by omega) (fun y => by rw [y] at z; cases z) (fun y => by rw [y] at z; cases z) (fun y => by rw [y] at z; cases z) (fun y => by rw [y] at z; cases z) (fun y => by rw [y] at z; cases z)
  · have ev : v_river σ x = -nI 3 := by unfold v_river; rw [if_neg c0]
    have ea : a_river σ x = σ := by unfold a_river; rw [if_neg c0]
    have ncx : ¬ (0 ≤ x.toInt ∧ x.toInt ≤ (σ.2.2.2.1 : Int)) := fun z => c0 (decide_eq_true z)
    have fin : ∃ i' l' q' K', am_Ex (d + 30) mX_river 15 [.val (.ref 0), .val (.int x), .unset] [] (i, l, rX q, kX K) = some (some (.int (v_river σ x)), (i', l', rX q', kX K')) ∧ TB (a_river σ x) i' ∧ (∃ c, c ≤ 900 ∧ i' 5 8 = nI c) ∧ RVo σ x i i' l l' q q' K K' ∧ am_sz K' ≤ am_sz K + 1817 ∧ K'.length ≤ K.length + 905 := by
      rw [b_X_river_15, ev]
      exact ⟨i, l, q, K, rfl, by rw [ea]; exact hB, h8, Or.inl ⟨by rw [ea], FK_refl _ _ _ _ _ _ _ _⟩, by omega, by omega⟩
    by_cases cn : x < 0
    · rw [decide_eq_true cn, cond_true]; exact fin
    · have hle : ¬ x ≤ nI σ.2.2.2.1 := fun z => by
        rw [fa_le, nI_toInt (by omega)] at z
        have z0 : ¬ x.toInt < (0 : Int32).toInt := fun y => cn ((fa_lt _ _).mpr y)
        rw [show (0 : Int32).toInt = 0 from rfl] at z0
        exact ncx ⟨by omega, z⟩
      rw [decide_eq_false cn, cond_false, decide_eq_false hle, cond_false]; exact fin
end
