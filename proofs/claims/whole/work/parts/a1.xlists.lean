/-! THE CLASS: ways into trays -/
section
variable {i i' : Nat → Nat → Int32} {l l' : Nat → Nat → Int64} {q q' : Nat → Nat → Option Nat} {K K' : List (Nat × Nat)} {r m v v' : Nat} {g h : Nat → Nat} {ρ : Nat → Nat → Nat} {W W' : Nat → Nat} {σ : St}
theorem cut37 : ∀ s, s < 4 → ∀ k, k < 38 → cutS (Int32.toInt64 (nI k)) (nI s) = Int32.toInt64 (nI k) := by decide +kernel
/-- what trays hold is not touched -/
theorem MD_l (hl : ∀ c, ([51, 53, 55, 57] : List Nat).contains c = false → l' c = l c) (hM : MD ρ r g m W v i l q K) : MD ρ r g m W v i l' q K := by
  have hF : FK [] [] [51, 53, 55, 57] [] i i l l' q q K K := ⟨⟨[], by rw [List.append_nil]⟩, fun c _ => ⟨fun _ _ => rfl, fun z _ => hl c z, fun _ => rfl⟩⟩
  obtain ⟨hC, hG, ⟨n, hS⟩, hR, hFo, hO, hN⟩ := hM
  refine ⟨CV_fk hF rfl rfl rfl rfl (fun w hw => by cases hw) (fun w hw => by cases hw) hC, GA_fk hF rfl rfl rfl rfl rfl (fun w hw => by cases hw) hG, ⟨n, SS_fk hF rfl rfl rfl rfl hS⟩, XRw_fk hF rfl (hl _ (wd_no (hO.1 4 (by decide)) rfl)) hR, XFo_fk hF rfl hFo, hO, hN⟩
theorem gf_row (hG : GFx W i i' l l' q q' K K') (hO : WO W) {c : Nat} (hc : c < 58) (h1 : RGx.contains c = false) (h2 : c ≠ 11) (h3 : ¬ (c = 26 ∨ c = 28 ∨ c = 29 ∨ c = 31 ∨ c = 32 ∨ c = 33 ∨ c = 34 ∨ c = 36 ∨ c = 37 ∨ c = 38)) : i' c = i c ∧ l' c = l c := by
  have hw : (WL W).contains c = false := nc_of (fun w hw z => by
    obtain ⟨k, hk, rfl⟩ := WL_mem.mp hw
    have := hO.1 k hk
    unfold WDc at this
    omega)
  have := hG.1.2 c (by omega)
  refine ⟨this.1 h1 hw, this.2.1 ?_ hw⟩
  simp [h2]
theorem TY_gf (hG : GFx W i i' l l' q q' K K') (hO : WO W) (hY : TY σ i l) : TY σ i' l' := by
  intro t ht
  have e1 : i' (50 + 2 * t) = i (50 + 2 * t) := by
    rcases c4 ht with rfl | rfl | rfl | rfl <;> exact (gf_row hG hO (by decide) rfl (by decide) (by decide)).1
  have e2 : l' (51 + 2 * t) = l (51 + 2 * t) := by
    rcases c4 ht with rfl | rfl | rfl | rfl <;> exact (gf_row hG hO (by decide) rfl (by decide) (by decide)).2
  have := hY t ht
  unfold TF at this ⊢
  rw [e1, e2]
  exact this
/-- how it lies behind a call that fills a tray -/
def GT (ρ : Nat → Nat → Nat) (W : Nat → Nat) (v : Nat) (σ' : St) (i : Nat → Nat → Int32) (l : Nat → Nat → Int64) (q : Nat → Nat → Option Nat) (K : List (Nat × Nat)) (vv : Option Value) (o : Option aR) : Prop := ∃ i' l' q' K' W' v', o = some (vv, (i', l', rX q', kX K')) ∧ (FK RGx (WL W) [11, 51, 53, 55, 57] RQx i i' l l' q q' K K' ∧ GW q q' K K') ∧ MQx K W W' ∧ XGs ρ W' v' i' l' q' K' ∧ XF ρ i' l' q' K' ∧ v' ≤ v + 1 ∧ TY σ' i' l'
theorem GT_gr {vv : Option Value} {o : Option aR} (hO : WO W) (hY : TY σ i l) (h : GR ρ W v i l q K vv o) : GT ρ W v σ i l q K vv o := by
  obtain ⟨i', l', q', K', W', v', e, hG, hQ, hX, hF, hv⟩ := h
  exact ⟨i', l', q', K', W', v', e, ⟨FK_tr (FK_refl _ _ _ _ _ _ _ _) hG.1 rfl rfl rfl (fun w hw => Or.inl hw), hG.2⟩, hQ, hX, hF, hv, TY_gf hG hO hY⟩
theorem y_X_lists (d : Nat) (x y : Int32) (hA : XA ρ r σ.1 m W v i l q K) (hY : TY σ i l) (hWT : WT σ) : GT ρ W v (a_lists σ x y) i l q K (some (.int (v_lists σ x y))) (am_cl (d + 9) mX_lists [.ref 0, .int x, .int y] (i, l, rX q, kX K)) := by
  obtain ⟨a1, a2, hW, a4, a5, a6⟩ := id hA.1
  have a1 : rX q 0 2 = some r := a1
  obtain ⟨fP, fS, fL, fE, fF, fB, fU, fV, fK, fW, hk, ra, ra1, ra2, ra3⟩ := CV_f a2 hW
  have h2 : σ.1 2 ≤ 4 := hW.2.1
  have hn := sNow_lt σ.1 hW.2.2.2.2.2.1 4 (by decide)
  have hO : WO W := hA.2.2.1.2.2.2
  rw [c_X_lists, b_X_lists_0, s_X_isTray, am_bd_some, q_app, b_X_lists_4, v_lists]
  unfold a_lists
  by_cases hx : iB x 4 = true
  · have hx' := hx
    obtain ⟨t, ht, rfl⟩ := iB_T hx'
    have hin : am_in (nI t) 4 = true := in16 ht (by decide)
    have h47 := tr47 q ht
    have hmi := s_Tray_isMissing (i := i) (l := l) (q := rX q) (K := K) (d + 7) ht
    have hm := TY_m hY hWT ht
    have hv : vNo σ (nI t) = if σ.2.2.2.2.2.2.1 t = -nI 1 then -nI 6 else nI 0 := by
      unfold vNo
      rw [if_pos hx, nI_clamp (by omega)]
    rw [if_pos hx, show decide (¬ nI 1 = (0 : Int32)) = true from rfl, cond_true, hin, cond_true, nI_clamp (show t < 2147483648 by omega), h47]
    dsimp only
    rw [tk50 ht, Bool.true_and, cond_true, hmi, am_bd_some, q_app, b_X_lists_19]
    by_cases c : σ.2.2.2.2.2.2.1 t = -nI 1
    · rw [if_pos c] at hv
      have hv0 : ¬ (-nI 6 = nI 0) := by decide
      rw [if_pos (hm.mpr c), hv, if_neg hv0, if_neg (fun z => hv0 z.1), show decide (nI 1 = (0 : Int32)) = false from rfl, cond_false]
      exact GT_gr hO hY (GR_same hA)
    · rw [if_neg c] at hv
      rw [if_neg (fun z => c (hm.mp z)), hv, if_pos rfl, show decide (nI 0 = (0 : Int32)) = true from rfl, cond_true, a1]
      dsimp only
      rw [hk, Bool.true_and, cond_true, fE, am_bd_some, q_app, b_X_lists_33]
      by_cases hy : iB y (2 ^ σ.1 2) = true
      · have hy' := hy
        obtain ⟨z, hz, rfl⟩ := iB_T hy'
        have hz16 := p16 h2 hz
        obtain ⟨i1, l1, q1, K1, W1, v1, n, L, κ, pb, e1, hM1, hG1, hQ1, hv1, hSC, hSR⟩ := y_coming d hz16 hA
        have hY1 := TY_gf hG1 hO hY
        rw [if_pos hy, if_pos hy, show decide (¬ nI 1 = (0 : Int32)) = true from rfl, cond_true, e1, am_bd_some, q_app, b_X_lists_44, nI_clamp (show z < 2147483648 by omega)]
        rcases sr_out h2 hn hSC.2.2.2.2.2 hSR with ⟨h5, hd, _⟩ | ⟨T, h5, h54, t1, t2, t3, t4, hd, hgo, _⟩
        · rw [h5, show decide (¬ -nI 1 = (-1 : Int32)) = false from rfl, cond_false, if_pos hd, if_neg (fun z => z.2.2 hd)]
          exact GT_gr hO hY (GR_md hG1 hQ1 hM1 hv1)
        · have hdF : dst σ.1 (evb σ.1) z (sNow σ.1 4) ≠ FARN := by rw [hd]; unfold FARN; omega
          obtain ⟨hso, hTF⟩ := (hY1 t ht).2 c
          obtain ⟨hsz, hsr⟩ := hWT t ht
          obtain ⟨s, hs, hse⟩ := hsr.resolve_left c
          have hn2 := hTF.1
          rw [hse] at hso
          have hls : lsN σ t z = if T < σ.2.2.2.2.2.2.2.1 t then T else σ.2.2.2.2.2.2.2.1 t := by unfold lsN; rw [hd]
          have hlsn : lsN σ t z ≤ T ∧ lsN σ t z ≤ σ.2.2.2.2.2.2.2.1 t := by rw [hls]; split <;> omega
          rw [h5, show decide (¬ nI (L.getD (L.length - 1) 0) = (-1 : Int32)) = true from decide_eq_true (by
            show ¬ nI (L.getD (L.length - 1) 0) = -nI 1
            rw [q_m1 (by omega)]; exact id), cond_true, s_rowLength (l := l1) (d + 5) hSC hSR.1 hSR.2.1 h5 t1 t2 t3, am_bd_some, q_app, b_X_lists_58, hin, cond_true, nI_clamp (show t < 2147483648 by omega), tr47 q1 ht]
          dsimp only
          rw [show Nat.beq (am_kd (i1, l1, rX q1, kX K1) (50 + 2 * t)) 10 = true from tk50 ht, cond_true, if_neg hdF, if_pos ⟨rfl, hy, hdF⟩, hn2]
          rw [show (if nI (σ.2.2.2.2.2.2.2.1 t) < nI T then nI (σ.2.2.2.2.2.2.2.1 t) else nI T) = nI (lsN σ t z) from by
            rw [hls]
            by_cases e : σ.2.2.2.2.2.2.2.1 t < T
            · rw [if_pos (show nI (σ.2.2.2.2.2.2.2.1 t) < nI T from by rw [q_lt (by omega) (by omega)]; exact e), if_neg (by omega)]
            · rw [if_neg (show ¬ nI (σ.2.2.2.2.2.2.2.1 t) < nI T from by rw [q_lt (by omega) (by omega)]; exact e)]
              by_cases e2 : T < σ.2.2.2.2.2.2.2.1 t
              · rw [if_pos e2]
              · rw [if_neg e2, show T = σ.2.2.2.2.2.2.2.1 t by omega]]
          have main : ∀ f c l3 z2, c + f = lsN σ t z → (∀ x, x ≠ 51 + 2 * t → l3 x = l1 x) → TY (σ.1, σ.2.1, σ.2.2.1, σ.2.2.2.1, σ.2.2.2.2.1, σ.2.2.2.2.2.1, σ.2.2.2.2.2.2.1, σ.2.2.2.2.2.2.2.1, (fun k => if 40 * t ≤ k ∧ k < 40 * t + c then Int32.toInt64 (gAt σ.1 (evb σ.1) z (sNow σ.1 4) (k - 40 * t)) else σ.2.2.2.2.2.2.2.2 k)) i1 l3 → GT ρ W v (σ.1, σ.2.1, σ.2.2.1, σ.2.2.2.1, σ.2.2.2.2.1, σ.2.2.2.2.2.1, σ.2.2.2.2.2.2.1, σ.2.2.2.2.2.2.2.1, (fun k => if 40 * t ≤ k ∧ k < 40 * t + lsN σ t z then Int32.toInt64 (gAt σ.1 (evb σ.1) z (sNow σ.1 4) (k - 40 * t)) else σ.2.2.2.2.2.2.2.2 k)) i l q K (some (.int (nI (lsN σ t z)))) (am_Ex (d + 8) mX_lists 74 [.val (.ref 0), .val (.int (nI t)), z2, .val (.int (nI (lsN σ t z))), .val (.int (nI c))] [] (i1, l3, rX q1, kX K1)) := by
            intro f
            induction f with
            | zero =>
              intro c l3 z2 hc hl3 hY3
              have hc : c = lsN σ t z := by omega
              subst hc
              rw [b_X_lists_74, decide_eq_true (show nI (lsN σ t z) ≤ nI (lsN σ t z) from by rw [q_le (by omega) (by omega)]; exact Nat.le_refl _), cond_true]
              have hl4 : ∀ x, ([51, 53, 55, 57] : List Nat).contains x = false → l3 x = l1 x := fun x hx => hl3 x (fun w => by
                rw [w] at hx
                rcases c4 ht with rfl | rfl | rfl | rfl <;> cases hx)
              have hM3 := MD_l hl4 hM1
              have hF3 : FK [] [] [51, 53, 55, 57] [] i1 i1 l1 l3 q1 q1 K1 K1 := ⟨⟨[], by rw [List.append_nil]⟩, fun c _ => ⟨fun _ _ => rfl, fun z _ => hl4 c z, fun _ => rfl⟩⟩
              have hF0 : FK RGx (WL W) [11, 51, 53, 55, 57] RQx i i1 l l1 q q1 K K1 := FK_tr (FK_refl _ _ _ _ _ _ _ _) hG1.1 rfl rfl rfl (fun w hw => Or.inl hw)
              exact ⟨i1, l3, q1, K1, W1, v1, rfl, ⟨FK_tr hF0 hF3 rfl rfl rfl (fun w hw => by cases hw), hG1.2⟩, hQ1, (MD_out hM3).1, (MD_out hM3).2, hv1, hY3⟩
            | succ f ih =>
              intro c l3 z2 hc hl3 hY3
              have hcT : c < T := by omega
              have hdl := deed_lt (j := κ (upk κ (L.length - 1) (T - 1 - c)) % 32) (by omega)
              have hga := s_goingAt (l := l3) (d + 4) hSC hSR.1 hSR.2.1 h5 t1 t2 t3 hcT
              have hcu := cut37 s hs (deed (κ (upk κ (L.length - 1) (T - 1 - c)) % 32)) (by omega)
              have hpu := s_Tray_put (i := i1) (l := l3) (q := q1) (K := K1) (d + 7) (Int32.toInt64 (nI (deed (κ (upk κ (L.length - 1) (T - 1 - c)) % 32)))) ht hs hso hn2 (show c < _ by omega) hsz
              rw [hcu] at hpu
              rw [b_X_lists_74, decide_eq_false (show ¬ nI (lsN σ t z) ≤ nI c from by rw [q_le (by omega) (by omega)]; omega), cond_false, hin, cond_true, nI_clamp (show t < 2147483648 by omega), tr47 q1 ht]
              dsimp only
              rw [hga, am_bd_some]
              show GT _ _ _ _ _ _ _ _ _ (am_Ex _ _ _ _ [.int (nI (deed (κ (upk κ (L.length - 1) (T - 1 - c)) % 32))), .int (nI c), .ref (50 + 2 * t)] _)
              rw [b_X_lists_97, show Nat.beq (am_kd (i1, l3, rX q1, kX K1) (50 + 2 * t)) 10 = true from tk50 ht, Bool.true_and, cond_true, hpu, am_bd_some, q_app0, b_X_lists_101, show nI c + (1 : Int32) = nI (c + 1) from nI_add c 1]
              refine ih (c + 1) _ z2 (by omega) (fun x hx => ?_) ?_
              · rw [← hl3 x hx]; funext j; unfold am_u2; rw [if_neg hx]
              · refine TY_put (σ := (σ.1, σ.2.1, σ.2.2.1, σ.2.2.2.1, σ.2.2.2.2.1, σ.2.2.2.2.2.1, σ.2.2.2.2.2.2.1, σ.2.2.2.2.2.2.2.1, (fun k => if 40 * t ≤ k ∧ k < 40 * t + c then Int32.toInt64 (gAt σ.1 (evb σ.1) z (sNow σ.1 4) (k - 40 * t)) else σ.2.2.2.2.2.2.2.2 k))) hY3 hWT ht (show c < σ.2.2.2.2.2.2.2.1 t by omega) (fun j => ?_)
                show (if 40 * t ≤ j ∧ j < 40 * t + (c + 1) then _ else _) = if j = 40 * t + c then _ else (if 40 * t ≤ j ∧ j < 40 * t + c then _ else _)
                by_cases e : j = 40 * t + c
                · rw [if_pos e, if_pos (by omega), e, show 40 * t + c - 40 * t = c by omega, hgo c hcT]
                · rw [if_neg e]
                  by_cases e2 : 40 * t ≤ j ∧ j < 40 * t + c
                  · rw [if_pos e2, if_pos (by omega)]
                  · rw [if_neg e2, if_neg (by omega)]
          refine main (lsN σ t z) 0 l1 _ (by omega) (fun _ _ => rfl) ?_
          have : (fun k => if 40 * t ≤ k ∧ k < 40 * t + 0 then Int32.toInt64 (gAt σ.1 (evb σ.1) z (sNow σ.1 4) (k - 40 * t)) else σ.2.2.2.2.2.2.2.2 k) = σ.2.2.2.2.2.2.2.2 := by
            funext k
            rw [if_neg (by omega)]
          rw [this]
          exact hY1
      · rw [if_neg hy, if_neg hy, if_neg (fun z => hy z.2.1), show decide (¬ nI 0 = (0 : Int32)) = false from rfl, cond_false]
        exact GT_gr hO hY (GR_same hA)
  · have hv : vNo σ x = -nI 2 := by unfold vNo; rw [if_neg hx]
    have hv0 : ¬ (-nI 2 = nI 0) := by decide
    rw [hv, if_neg hv0, if_neg (fun z => hv0 z.1), if_neg hx, show decide (¬ nI 0 = (0 : Int32)) = false from rfl, cond_false]
    exact GT_gr hO hY (GR_same hA)
end
