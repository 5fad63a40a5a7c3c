/-! THE CLASS: explore; the row that it found -/
section
variable {i i' : Nat → Nat → Int32} {l l' : Nat → Nat → Int64} {q q' : Nat → Nat → Option Nat} {K K' : List (Nat × Nat)} {r m : Nat} {g : Nat → Nat} {ρ : Nat → Nat → Nat}
theorem vW_inj {z z' : Option Nat} (h1 : ∀ zz, z = some zz → zz < 16) (h2 : ∀ zz, z' = some zz → zz < 16) (h : vW z = vW z') : z = z' := by
  cases z with
  | none =>
    cases z' with
    | none => rfl
    | some b =>
      have hb := h2 b rfl
      have h : -nI 1 = nI b := h
      rw [q_m1' (by omega)] at h; exact h.elim
  | some a =>
    have ha := h1 a rfl
    cases z' with
    | none =>
      have h : nI a = -nI 1 := h
      rw [q_m1 (by omega)] at h; exact h.elim
    | some b =>
      have hb := h2 b rfl
      have h : nI a = nI b := h
      rw [q_eq (by omega) (by omega)] at h
      rw [h]
theorem y_explore (d : Nat) {e v cm qu n mv a : Nat} {z : Option Nat} (hW : WG g) (hV : RV (i, l, rX q, kX K) r g) (hN : RNc q r e) (hN1 : RNc q r cm) (hN2 : RNc q r qu) (hG : GA r g m e v i l q K) (hS : SS g v cm qu n i q K) (hec : e ≠ cm) (heq : e ≠ qu) (hz : ∀ zz, z = some zz → zz < 16) (ha : a < 4096) (hva : VS g a) (hmv : mv < 16) : ∃ i' l' q' K' cm' qu' n' L κ pb, am_cl (d + 7) mSearch_explore [.ref 27, .int (nI a), .int (nI mv), .int (vW z)] (i, l, rX q, kX K) = some (some (.int (i' 27 5)), (i', l', rX q', kX K')) ∧ SC cm' qu' n' q' K' ∧ SR g mv a v z cm' qu' n' L κ pb i' ∧ GA r g m e v i' l' q' K' ∧ FK [13, 14, 18, 19, 27] [e, cm, qu] [] [27] i i' l l' q q' K K' ∧ ((cm' = cm ∧ qu' = qu) ∨ (58 + K.length ≤ cm' ∧ 58 + K.length ≤ qu')) ∧ ((K' = K ∧ n' = n) ∨ (K' = (K ++ [(100, 8 ^ g 2)]) ++ [(100, 8 ^ g 2)] ∧ n < 8 ^ g 2 ∧ n' = 8 ^ g 2)) := by
  obtain ⟨hSC, ⟨L0, hSL0, hcache⟩, _⟩ := hS
  have h2 := hW.2.1
  have i4 : i 22 4 = nI v := hG.2.2.2.1
  have anew : ∃ i' l' q' K' cm' qu' n' L κ pb, am_Ex (d + 6) mSearch_explore 43 [.val (.ref 27), .val (.int (nI a)), .val (.int (nI mv)), .val (.int (vW z)), .unset, .unset, .unset, .unset, .unset] [] (i, l, rX q, kX K) = some (some (.int (i' 27 5)), (i', l', rX q', kX K')) ∧ SC cm' qu' n' q' K' ∧ SR g mv a v z cm' qu' n' L κ pb i' ∧ GA r g m e v i' l' q' K' ∧ FK [13, 14, 18, 19, 27] [e, cm, qu] [] [27] i i' l l' q q' K K' ∧ ((cm' = cm ∧ qu' = qu) ∨ (58 + K.length ≤ cm' ∧ 58 + K.length ≤ qu')) ∧ ((K' = K ∧ n' = n) ∨ (K' = (K ++ [(100, 8 ^ g 2)]) ++ [(100, 8 ^ g 2)] ∧ n < 8 ^ g 2 ∧ n' = 8 ^ g 2)) := by
    obtain ⟨i1, l1, q1, K1, cm1, qu1, n1, e1, hSC1, hSL1, h15, h18, h1k, hF1, hcq, hgr⟩ := y_forget (d + 4) hW hV hG.2.1 hN1 hN2 hSC hSL0
    have hwc : WDc cm := hSC.2.1.1
    have hwq : WDc qu := hSC.2.1.2.1
    have hG1 := GA_fk hF1 rfl rfl rfl rfl rfl (fun w hw => by
      rcases List.mem_cons.mp hw with h | h
      · rw [h]; exact ⟨hwc, fun z => hec z.symm⟩
      · rw [List.mem_singleton.mp h]; exact ⟨hwq, fun z => heq z.symm⟩) hG
    have hV1 : RV (i1, l1, rX q1, kX K1) r g := RV_fk hF1 rfl rfl (fun w hw => by
      rcases List.mem_cons.mp hw with h | h
      · rw [h]; exact hN1
      · rw [List.mem_singleton.mp h]; exact hN2) hV
    have hNe1 := RNc_fk hF1 rfl hV hN
    have hNc1 : RNc q1 r cm1 := by
      rcases hcq with h | h
      · rw [h.1]; exact RNc_fk hF1 rfl hV hN1
      · exact RNc_fk hF1 rfl hV (RNc_new hV h.1)
    have hNq1 : RNc q1 r qu1 := by
      rcases hcq with h | h
      · rw [h.2]; exact RNc_fk hF1 rfl hV hN2
      · exact RNc_fk hF1 rfl hV (RNc_new hV h.2)
    have hel := kK_lt hG.2.2.2.2.2.1.2.1 (by decide)
    have hec1 : e ≠ cm1 := by
      rcases hcq with h | h
      · rw [h.1]; exact hec
      · omega
    have heq1 : e ≠ qu1 := by
      rcases hcq with h | h
      · rw [h.2]; exact heq
      · omega
    have i14 : i1 22 4 = nI v := hG1.2.2.2.1
    obtain ⟨i2, hi2⟩ : ∃ i2, am_u2 (am_u2 (am_u2 (am_u2 i1 27 4 (vW z)) 27 6 (nI a)) 27 7 (nI mv)) 27 8 (nI v) = i2 := ⟨_, rfl⟩
    have h2o : ∀ c, c ≠ 27 → i2 c = i1 c := fun c hc => by
      rw [← hi2]; funext t; simp only [am_u2]; rw [if_neg hc, if_neg hc, if_neg hc, if_neg hc]
    have w1 := (wd27 hSC1.2.1.1).1
    have w2 := (wd27 hSC1.2.1.2.1).1
    have h24 : i2 27 4 = vW z := by rw [← hi2]; simp [am_u2]
    have h26 : i2 27 6 = nI a := by rw [← hi2]; simp [am_u2]
    have h27 : i2 27 7 = nI mv := by rw [← hi2]; simp [am_u2]
    have h28 : i2 27 8 = nI v := by rw [← hi2]; simp [am_u2]
    have h23 : i2 27 3 = nI 0 := by rw [← hi2]; simp only [am_u2]; rw [if_pos trivial]; exact hSL1.1
    have h25 : i2 27 5 = -nI 1 := by rw [← hi2]; simp only [am_u2]; rw [if_pos trivial]; exact h15
    have hF12 : FK [27] [cm1, qu1] [] [] i1 i2 l1 l1 q1 q1 K1 K1 := ⟨⟨[], by rw [List.append_nil]⟩, fun c _ => ⟨fun z1 _ => h2o c (fun z => by rw [z] at z1; cases z1), fun _ _ => rfl, fun _ => rfl⟩⟩
    have hV2 : RV (i2, l1, rX q1, kX K1) r g := RV_fk (ws := []) ⟨⟨[], by rw [List.append_nil]⟩, fun c _ => ⟨fun z1 _ => h2o c (fun z => by rw [z] at z1; cases z1), fun _ _ => rfl, fun _ => rfl⟩⟩ (Ri := [27]) (Rl := []) (Rq := []) rfl rfl (fun w hw => by cases hw) hV1
    have han : a < n1 := by have := VS_lt h2 ha hva; omega
    have h2cm : ∀ x, x < n1 → i2 cm1 x = nI 0 := fun x hx => by
      rw [h2o cm1 (fun z => w1 z.symm)]
      apply Classical.byContradiction
      intro hne
      have := (hSL1.2.2.2.2 x hx).mp hne
      cases this
    obtain ⟨i3, e3, v1, v2, v3, v4, v5, v6⟩ := y_visit (i := i2) (l := l1) (q := q1) (K := K1) (d + 3) (N := 0) (-1) hV2 hW hG1.2.1 hNc1 hNq1 hSC1 han ha (h2cm a han) h23 (by omega) h24 hz
    have hSL2 : SL cm1 qu1 n1 [] i2 := ⟨h23, Nat.zero_le _, fun k hk => absurd hk (Nat.not_lt_zero _), fun x hx => (by cases hx), fun x hx => (by rw [h2cm x hx]; simp)⟩
    have hSL3 : SL cm1 qu1 n1 [a] i3 := SL_add (L := []) hSL2 han (by simp) (by simp; omega) (by decide) v1 v2 v3
    have hBT : BT g mv a [a].length 0 (fun k => [a].getD k 0) (fun _ => 0) := by
      refine ⟨⟨rfl, Nat.le_refl _⟩, fun j k hj hk _ => ?_, fun j h1 h2 => ?_, fun j k h1 h2 h3 => ?_, fun e he => absurd he (Nat.not_lt_zero _)⟩
      · have hj : j < 1 := hj
        have hk : k < 1 := hk
        omega
      · have h2 : j < 1 := h2
        omega
      · have h3 : k < 1 := h3
        omega
    have hSX3 : SX g mv a cm1 [a] (fun _ => 0) 0 i3 := ⟨hBT, fun x hx => by rw [List.mem_singleton.mp hx]; exact ⟨hva, ha⟩, by rw [v1, if_pos rfl]; rfl, fun j h1 h2 => by
      have h2 : j < 1 := h2
      omega⟩
    have hfl3 : i3 27 4 = vW z ∧ i3 27 6 = nI a ∧ i3 27 7 = nI mv ∧ i3 27 8 = nI v := ⟨by rw [v5 4 (by decide) (by decide)]; exact h24, by rw [v5 6 (by decide) (by decide)]; exact h26, by rw [v5 7 (by decide) (by decide)]; exact h27, by rw [v5 8 (by decide) (by decide)]; exact h28⟩
    have hF23 : FK [27] [cm1, qu1] [] [] i2 i3 l1 l1 q1 q1 K1 K1 := ⟨⟨[], by rw [List.append_nil]⟩, fun x _ => ⟨fun z1 z2 => v6 x (fun z => by rw [z] at z1; cases z1) (fun z => by rw [z] at z2; simp at z2) (fun z => by rw [z] at z2; simp at z2), fun _ _ => rfl, fun _ => rfl⟩⟩
    have hF13 : FK [27] [cm1, qu1] [] [] i1 i3 l1 l1 q1 q1 K1 K1 := FK_tr hF12 hF23 rfl rfl rfl (fun w hw => Or.inl hw)
    have hG3 := GA_fk hF13 rfl rfl rfl rfl rfl (fun w hw => by
      rcases List.mem_cons.mp hw with h | h
      · rw [h]; exact ⟨hSC1.2.1.1, fun z => hec1 z.symm⟩
      · rw [List.mem_singleton.mp h]; exact ⟨hSC1.2.1.2.1, fun z => heq1 z.symm⟩) hG1
    obtain ⟨y, ey, hmy⟩ := s_Goings_bitsOf (d + 4) hmv (i3, l1, rX q1, kX K1)
    have emb : ∀ {i' : Nat → Nat → Int32}, FK [13, 14, 18, 19, 27] [e, cm1, qu1] [] [] i1 i' l1 l1 q1 q1 K1 K1 → FK [13, 14, 18, 19, 27] [e, cm, qu] [] [27] i i' l l1 q q1 K K1 := fun hF => by
      have hF1' : FK [13, 14, 18, 19, 27] [e, cm, qu] [] [27] i i1 l l1 q q1 K K1 := FK_tr (FK_refl _ _ _ _ _ _ _ _) hF1 rfl rfl rfl (fun w hw => Or.inl (List.mem_cons_of_mem _ hw))
      refine FK_tr hF1' hF rfl rfl rfl (fun w hw => ?_)
      rcases List.mem_cons.mp hw with h | h
      · rw [h]; exact Or.inl (by simp)
      · rcases List.mem_cons.mp h with h | h
        · rw [h]
          rcases hcq with h' | h'
          · rw [h'.1]; exact Or.inl (by simp)
          · exact Or.inr h'.1
        · rw [List.mem_singleton.mp h]
          rcases hcq with h' | h'
          · rw [h'.2]; exact Or.inl (by simp)
          · exact Or.inr h'.2
    rw [b_Search_explore_43, e1, am_bd_some, q_app0, b_Search_explore_47, i14, hi2, e3, am_bd_some, q_app0, b_Search_explore_79, ey, am_bd_some, q_app, b_Search_explore_83]
    cases hgz : gz g z a with
    | false =>
      have hF13' : FK [13, 14, 18, 19, 27] [e, cm1, qu1] [] [] i1 i3 l1 l1 q1 q1 K1 K1 := FK_tr (FK_refl _ _ _ _ _ _ _ _) hF13 rfl rfl rfl (fun w hw => Or.inl (List.mem_cons_of_mem _ hw))
      obtain ⟨i4, L, κ, pb, e4, hR4, hG4, hF4⟩ := y_loop d hW hV1 hNe1 hNc1 hNq1 hSC1 h18 hec1 heq1 hz hmy ha n1 0 [a] (fun _ => 0) i3 (.val (.int (nI a))) (.val (.int (nI mv))) (am_k1 (.val (.int (vW z)))) .unset .unset .unset (by omega) rfl (Nat.zero_le _) hSL3 hSX3 (by rw [v4, hgz]; exact h25) (fun x hx => by rw [List.mem_singleton.mp hx]; exact hgz) hfl3 hG3 hF13'
      exact ⟨i4, l1, q1, K1, cm1, qu1, n1, L, κ, pb, e4, hSC1, hR4, hG4, emb hF4, hcq, hgr⟩
    | true =>
      have h35 : i3 27 5 = nI a := by rw [v4, hgz, if_pos rfl]
      have hneg : decide (¬ nI a = (-1 : Int32)) = true := decide_eq_true (by
        show ¬ nI a = -nI 1
        rw [q_m1 (by omega)]; exact id)
      have q12 : rX q1 27 2 = some qu1 := hSC1.1.2
      have hend : ∀ z1 z2 z3 z6 z7 z8, am_Ex (d + 6) mSearch_explore 88 [.val (.ref 27), z1, z2, z3, .val (.int y), .val (.int (nI 0)), z6, z7, z8] [] (i3, l1, rX q1, kX K1) = some (some (.int (i3 27 5)), (i3, l1, rX q1, kX K1)) := fun z1 z2 z3 z6 z7 z8 => by
        rw [b_Search_explore_88, q12]
        dsimp only
        rw [show (Nat.ble 100 (am_kd (i3, l1, rX q1, kX K1) qu1) && Nat.ble (am_kd (i3, l1, rX q1, kX K1) qu1) 105) = true from by rw [show am_kd (i3, l1, rX q1, kX K1) qu1 = 100 from hSC1.2.2.1.2]; rfl, cond_true, h35, hneg, cond_true]
        cases decide (i3 27 3 ≤ nI 0) with
        | true => rw [cond_true, b_Search_explore_202, h35]
        | false =>
          rw [cond_false]
          cases decide (Int32.ofNat (am_ln (i3, l1, rX q1, kX K1) qu1) ≤ nI 0) with
          | true => rw [cond_true, b_Search_explore_202, h35]
          | false => rw [cond_false, b_Search_explore_202, h35]
      have hF13' : FK [13, 14, 18, 19, 27] [e, cm1, qu1] [] [] i1 i3 l1 l1 q1 q1 K1 K1 := FK_tr (FK_refl _ _ _ _ _ _ _ _) hF13 rfl rfl rfl (fun w hw => Or.inl (List.mem_cons_of_mem _ hw))
      refine ⟨i3, l1, q1, K1, cm1, qu1, n1, [a], fun _ => 0, 0, hend _ _ _ _ _ _, hSC1, ⟨hSL3, hSX3, hfl3, Or.inr ⟨h35, hgz, fun j hj => ?_, fun x hx => ?_⟩⟩, hG3, emb hF13', hcq, hgr⟩
      · have hj : j < 0 := hj
        omega
      · rw [List.mem_singleton.mp hx]; exact stds_start h2 ha
  rw [c_Search_explore, b_Search_explore_0]
  by_cases c1 : vW z = i 27 4
  · by_cases c2 : nI a = i 27 6
    · by_cases c3 : nI mv = i 27 7
      · by_cases c4 : i 22 4 = i 27 8
        · rw [decide_eq_false (fun w => w c1), cond_false, decide_eq_false (fun w => w c2), cond_false, decide_eq_false (fun w => w c3), cond_false, decide_eq_false (fun w => w c4), cond_false]
          obtain ⟨a0, mv0, z0, κ, pb, h0a, h0m, h0z, hR⟩ := hcache (by rw [← c4]; exact i4)
          obtain ⟨r1, r2, ⟨y1, y2, y3, y4⟩, r4⟩ := hR
          have ez : z = z0 := vW_inj hz h0z (c1.trans y1)
          have ea : a = a0 := by
            rw [y2, q_eq (by omega) (by omega)] at c2; exact c2
          have em : mv = mv0 := by
            rw [y3, q_eq (by omega) (by omega)] at c3; exact c3
          subst ez; subst ea; subst em
          exact ⟨i, l, q, K, cm, qu, n, L0, κ, pb, rfl, hSC, ⟨r1, r2, ⟨y1, y2, y3, y4⟩, r4⟩, hG, FK_refl _ _ _ _ _ _ _ _, Or.inl ⟨rfl, rfl⟩, Or.inl ⟨rfl, rfl⟩⟩
        · rw [decide_eq_false (fun w => w c1), cond_false, decide_eq_false (fun w => w c2), cond_false, decide_eq_false (fun w => w c3), cond_false, decide_eq_true c4, cond_true]
          exact anew
      · rw [decide_eq_false (fun w => w c1), cond_false, decide_eq_false (fun w => w c2), cond_false, decide_eq_true c3, cond_true]
        exact anew
    · rw [decide_eq_false (fun w => w c1), cond_false, decide_eq_true c2, cond_true]
      exact anew
  · rw [decide_eq_true c1, cond_true]
    exact anew
end
