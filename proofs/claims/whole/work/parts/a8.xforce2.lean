/-! THE CLASS: the search of forcing, from its beginning -/
section
variable {i i' : Nat → Nat → Int32} {l l' : Nat → Nat → Int64} {q q' : Nat → Nat → Option Nat} {K K' : List (Nat × Nat)} {r m v v' : Nat} {g h : Nat → Nat} {ρ : Nat → Nat → Nat} {W W' : Nat → Nat}
def nf3 (W : Nat → Nat) (c k : Nat) : Nat := if k = 8 then c else if k = 7 then c + 1 else if k = 9 then c + 2 else W k
/-- frames of forcing keep the rest -/
theorem MD_ff (hM : MD ρ r g m W v i l q K) (hF : FK RFx [W 0, W 7, W 8, W 9] [] [] i i' l l q q K K) (hG : GA r g m (W 0) v i' l q K) : MD ρ r g m W v i' l q K := by
  obtain ⟨hC, _, ⟨n0, hS⟩, hRw, hFo, hO, hN⟩ := hM
  have ne : ∀ a b, a < 10 → b < 10 → a ≠ b → W a ≠ W b := fun a b ha hb hab z => hab (hO.2 a b ha hb z)
  have hin : ∀ w, w ∈ [W 0, W 7, W 8, W 9] → ∃ k, k < 10 ∧ w = W k ∧ k ≠ 1 ∧ k ≠ 2 := fun w hw => by
    simp only [List.mem_cons, List.not_mem_nil, or_false] at hw
    rcases hw with h | h | h | h
    · exact ⟨0, by decide, h, by decide, by decide⟩
    · exact ⟨7, by decide, h, by decide, by decide⟩
    · exact ⟨8, by decide, h, by decide, by decide⟩
    · exact ⟨9, by decide, h, by decide, by decide⟩
  have hlt := wkc_lt hRw hFo ⟨n0, hS.1⟩ hG.2.2.2.2.2.1.2.1
  have hrow : ∀ c, c < 58 + K.length → RFx.contains c = false → (∀ k, k < 10 → k ≠ 1 → k ≠ 2 → c ≠ W k) → i' c = i c := fun c hc h1 h2 => (hF.2 c hc).1 h1 (nc_of (fun w hw e => by
    obtain ⟨k, hk, rfl, k1, k2⟩ := hin w hw
    exact h2 k hk k1 k2 e.symm))
  refine ⟨CV_fk hF rfl rfl rfl rfl (fun w hw => by obtain ⟨k, hk, rfl, _⟩ := hin w hw; exact hN k hk) (fun w hw => by obtain ⟨k, hk, rfl, _⟩ := hin w hw; exact hO.1 k hk) hC, hG, ⟨n0, ?_⟩, XRw_fk hF rfl rfl hRw, hFo, hO, hN⟩
  exact SS_fk hF rfl (hrow 27 (by omega) rfl (fun k hk _ _ => (wd27 (hO.1 k hk)).1)) (hrow (W 1) (hlt 1 (by decide)) (wd_no (hO.1 1 (by decide)) rfl) (fun k hk k1 _ => ne 1 k (by decide) hk (fun e => k1 e.symm))) (hrow (W 2) (hlt 2 (by decide)) (wd_no (hO.1 2 (by decide)) rfl) (fun k hk _ k2 => ne 2 k (by decide) hk (fun e => k2 e.symm))) hS
theorem GFx_ff (hF : FK RFx [W 0, W 7, W 8, W 9] [] [] i i' l l q q K K) : GFx W i i' l l q q K K := GFx_of hF rfl rfl rfl (fun w hw => by
  simp only [List.mem_cons, List.not_mem_nil, or_false] at hw
  rcases hw with h | h | h | h
  · exact ⟨0, by decide, h⟩
  · exact ⟨7, by decide, h⟩
  · exact ⟨8, by decide, h⟩
  · exact ⟨9, by decide, h⟩) GW_refl
theorem y_ftail (d : Nat) {a n : Nat} (hM : MD ρ r g m W v i l q K) (hQ : FQs W n q K) (h8 : 8 ^ g 2 ≤ n) (ha : a < 4096) (hva : VS g a) : ∃ i', am_Ex (d + 6) mForcing_explore 54 [.val (.ref 35), .val (.int (nI a)), .unset, .unset, .unset, .unset] [] (i, l, rX q, kX K) = some (none, (i', l, rX q, kX K)) ∧ MD ρ r g m W v i' l q K ∧ FSt g W n (stds g (evb g) true a) i' ∧ EK g W n (stds g (evb g) true a) i' ∧ GFx W i i' l l q q K K := by
  obtain ⟨hC, hG, ⟨n0, hS⟩, hRw, hFo, hO, hN⟩ := id hM
  obtain ⟨⟨x1, x2, x3⟩, ⟨k7, k8, k9⟩, ⟨l7, l8, l9⟩, hn⟩ := id hQ
  have hW := hC.2.2.1
  have h2 : g 2 ≤ 4 := hW.2.1
  have y1 : rX q 35 1 = some (W 7) := x1
  have y2 : rX q 35 2 = some (W 8) := x2
  have ne : ∀ a b, a < 10 → b < 10 → a ≠ b → W a ≠ W b := fun a b ha hb hab z => hab (hO.2 a b ha hb z)
  have n35 : ∀ a, a < 10 → W a ≠ 35 := fun a ha z => by
    have := hO.1 a ha
    unfold WDc at this
    omega
  obtain ⟨i3, hi3⟩ : ∃ i3, am_u2 (am_u1 (am_u1 i (W 7) (fun k => if k < n then (-1 : Int32) else i (W 7) k)) (W 8) (fun k => if k < n then (1000000 : Int32) else (am_u1 i (W 7) (fun k => if k < n then (-1 : Int32) else i (W 7) k)) (W 8) k)) 35 4 0 = i3 := ⟨_, rfl⟩
  have o3 : ∀ c, c ≠ 35 → c ≠ W 7 → c ≠ W 8 → i3 c = i c := fun c c1 c2 c3 => by
    rw [← hi3]; funext t; unfold am_u2 am_u1; rw [if_neg c1, if_neg c3, if_neg c2]
  have h37 : ∀ x, x < n → i3 (W 7) x = -nI 1 := fun x hx => by
    rw [← hi3]; unfold am_u2 am_u1; rw [if_neg (n35 7 (by decide)), if_neg (ne 7 8 (by decide) (by decide) (by decide)), if_pos rfl]; dsimp only; rw [if_pos hx]; rfl
  have h38 : ∀ x, x < n → i3 (W 8) x = nI 1000000 := fun x hx => by
    rw [← hi3]; unfold am_u2 am_u1; rw [if_neg (n35 8 (by decide)), if_pos rfl]; dsimp only; rw [if_pos hx]; rfl
  have h335 : i3 35 4 = nI 0 := by rw [← hi3]; unfold am_u2; rw [if_pos rfl, if_pos rfl]; rfl
  have hF3' : FK [35] [W 7, W 8] [] [] i i3 l l q q K K := ⟨⟨[], by rw [List.append_nil]⟩, fun c _ => ⟨fun z1 z2 => o3 c (fun e => by rw [e] at z1; cases z1) (fun e => by rw [e] at z2; simp at z2) (fun e => by rw [e] at z2; simp at z2), fun _ _ => rfl, fun _ => rfl⟩⟩
  have hF3 : FK RFx [W 0, W 7, W 8, W 9] [] [] i i3 l l q q K K := FK_tr (FK_refl _ _ _ _ _ _ _ _) hF3' rfl rfl rfl (fun w hw => Or.inl (by
    rcases List.mem_cons.mp hw with h | h
    · rw [h]; simp
    · rw [List.mem_singleton.mp h]; simp))
  have hG3 : GA r g m (W 0) v i3 l q K := GA_fk hF3' rfl rfl rfl rfl rfl (fun w hw => by
    rcases List.mem_cons.mp hw with h | h
    · rw [h]; exact ⟨hO.1 7 (by decide), ne 7 0 (by decide) (by decide) (by decide)⟩
    · rw [List.mem_singleton.mp h]; exact ⟨hO.1 8 (by decide), ne 8 0 (by decide) (by decide) (by decide)⟩) hG
  have hM3 := MD_ff hM hF3 hG3
  have hS3 : FSt g W n [] i3 := ⟨⟨h335, Nat.zero_le _⟩, List.nodup_nil, fun k hk => absurd hk (Nat.not_lt_zero _), fun x hx => ⟨fun z => (by cases z), fun _ => h37 x hx⟩, h38, fun x hx => (by cases hx)⟩
  obtain ⟨i4, e4, hS4, hG4, hF4, _⟩ := y_fvisit (d + 1) hM3.1.2.1 hW hG3 hQ hO h8 hS3 ha hva
  have hal : addL [] a = [a] := by unfold addL; rw [if_neg (by simp)]; rfl
  rw [hal] at hS4
  have hF4' : FK RFx [W 0, W 7, W 8, W 9] [] [] i3 i4 l l q q K K := FK_tr (FK_refl _ _ _ _ _ _ _ _) hF4 rfl rfl rfl (fun w hw => Or.inl (by
    rcases List.mem_cons.mp hw with h | h
    · rw [h]; simp
    · rw [List.mem_singleton.mp h]; simp))
  have hM4 := MD_ff hM3 hF4' hG4
  obtain ⟨i5, e5, hS5, hE5, hG5, hF5⟩ := y_floop (i := i4) (l := l) (q := q) (K := K) (m := m) (v := v) (a := a) d hM4.1.2.1 hW hQ hO hN h8 n 0 [a] i4 (am_k1 (.val (.int (nI a)))) .unset .unset .unset (by omega) rfl (Nat.zero_le _) hS4 (fun x hx => absurd hx (Nat.not_lt_zero _)) hG4 (FK_refl _ _ _ _ _ _ _ _)
  have hF5' : FK RFx [W 0, W 7, W 8, W 9] [] [] i4 i5 l l q q K K := FK_tr (FK_refl _ _ _ _ _ _ _ _) hF5 rfl rfl rfl (fun w hw => Or.inl (by
    simp only [List.mem_cons, List.not_mem_nil, or_false] at hw
    rcases hw with h | h | h <;> rw [h] <;> simp))
  refine ⟨i5, ?_, MD_ff hM4 hF5' hG5, hS5, hE5, GFx_ff (FK_tr (FK_tr hF3 hF4' rfl rfl rfl (fun w hw => Or.inl hw)) hF5' rfl rfl rfl (fun w hw => Or.inl hw))⟩
  rw [b_Forcing_explore_54, y1]
  dsimp only
  rw [s_J_fill (d + 5) (n := n) (-1) (show am_kd (i, l, rX q, kX K) (W 7) = 100 from k7) (show am_ln (i, l, rX q, kX K) (W 7) = n from l7) (by omega), am_bd_some, q_app0, b_Forcing_explore_62, y2]
  dsimp only
  rw [s_J_fill (d + 5) (n := n) 1000000 (show am_kd (_, l, rX q, kX K) (W 8) = 100 from k8) (show am_ln (_, l, rX q, kX K) (W 8) = n from l8) (by omega), am_bd_some, q_app0, b_Forcing_explore_71, hi3, e4, am_bd_some, q_app0, b_Forcing_explore_81]
  exact e5
theorem y_fexplore (d : Nat) {a : Nat} (hM : MD ρ r g m W v i l q K) (ha : a < 4096) (hva : VS g a) : ∃ i' l' q' K' W' n, am_cl (d + 7) mForcing_explore [.ref 35, .int (nI a)] (i, l, rX q, kX K) = some (none, (i', l', rX q', kX K')) ∧ MD ρ r g m W' v i' l' q' K' ∧ FQs W' n q' K' ∧ 8 ^ g 2 ≤ n ∧ FSt g W' n (stds g (evb g) true a) i' ∧ EK g W' n (stds g (evb g) true a) i' ∧ GFx W i i' l l' q q' K K' ∧ MQx K W W' := by
  obtain ⟨hC, hG, ⟨n0, hS⟩, hRw, hFo, hO, hN⟩ := id hM
  obtain ⟨⟨x1, x2, x3⟩, ⟨k7, k8, k9⟩, n, hn, l7, l8, l9⟩ := id hFo
  have h2 : g 2 ≤ 4 := hC.2.2.1.2.1
  obtain ⟨p81, p82⟩ := p8 (g := g) h2
  have y2 : rX q 35 2 = some (W 8) := x2
  have hq22 : q 22 1 = some r := hG.2.1
  have hV := hC.2.1
  have hlt := wkc_lt hRw hFo ⟨n0, hS.1⟩ hG.2.2.2.2.2.1.2.1
  have pl : ∀ {i l q K}, RV (i, l, rX q, kX K) r g → q 22 1 = some r → am_cl (d + 6) mGoings_placings [.ref 22] (i, l, rX q, kX K) = some (some (.int (nI (8 ^ g 2))), (i, l, rX q, kX K)) := fun {i l q K} hV hq => s_Goings_placings (i := i) (l := l) (q := q) (K := K) (d + 5) hq (by rw [hV.2.1]; rfl) hV.2.2.2.1 h2
  have hcmp : (nI (8 ^ g 2) ≤ Int32.ofNat n) ↔ 8 ^ g 2 ≤ n := by
    show nI (8 ^ g 2) ≤ nI n ↔ _
    rw [q_le (by omega) (by omega)]
  rw [c_Forcing_explore, b_Forcing_explore_0, y2]
  dsimp only
  rw [bl100 k8, cond_true, pl hV hq22, am_bd_some]
  show ∃ i' l' q' K' W' n, am_Ex _ _ _ _ [.int (nI (8 ^ g 2)), .int (Int32.ofNat (am_ln (i, l, rX q, kX K) (W 8)))] _ = _ ∧ _
  rw [b_Forcing_explore_12, show am_ln (i, l, rX q, kX K) (W 8) = n from l8]
  by_cases c : 8 ^ g 2 ≤ n
  · rw [decide_eq_true (hcmp.mpr c), cond_true]
    have hQ : FQs W n q K := ⟨⟨x1, x2, x3⟩, ⟨k7, k8, k9⟩, ⟨l7, l8, l9⟩, hn⟩
    obtain ⟨i', e, hM', hS', hE', hG'⟩ := y_ftail d hM hQ c ha hva
    exact ⟨i', l, q, K, W, n, e, hM', hQ, c, hS', hE', hG', MQx_refl _ _⟩
  · have hin : (decide ((0 : Int32) ≤ nI (8 ^ g 2)) && Nat.ble (nI (8 ^ g 2)).toNatClampNeg 60000000) = true := by
      rw [nI_clamp (by omega), decide_eq_true (show (0 : Int32) ≤ nI (8 ^ g 2) from by
        show nI 0 ≤ nI (8 ^ g 2)
        rw [q_le (by omega) (by omega)]; omega), Bool.true_and]
      exact Nat.ble_eq_true_of_le (by omega)
    obtain ⟨i1, l1, q1, ei1, el1, eq1, F1, ⟨a1, b1⟩, ⟨c1, d1⟩, z1, V1, g1⟩ := al_ok (i := i) (l := l) (q := q) (K := K) (a := 35) (f := 2) (kd := 100) (n := 8 ^ g 2) rfl (by decide) (by decide) rfl hV hq22
    obtain ⟨K1, hK1⟩ : ∃ K1, K ++ [(100, 8 ^ g 2)] = K1 := ⟨_, rfl⟩
    rw [hK1] at F1 c1 d1 V1
    have L1 : K1.length = K.length + 1 := by rw [← hK1, List.length_append]; rfl
    obtain ⟨i2, l2, q2, ei2, el2, eq2, F2, ⟨a2, b2⟩, ⟨c2, d2⟩, z2, V2, g2⟩ := al_ok (i := i1) (l := l1) (q := q1) (K := K1) (a := 35) (f := 1) (kd := 100) (n := 8 ^ g 2) rfl (by decide) (by decide) rfl V1 g1
    obtain ⟨K2, hK2⟩ : ∃ K2, K1 ++ [(100, 8 ^ g 2)] = K2 := ⟨_, rfl⟩
    rw [hK2] at F2 c2 d2 V2
    have L2 : K2.length = K1.length + 1 := by rw [← hK2, List.length_append]; rfl
    obtain ⟨i3, l3, q3, ei3, el3, eq3, F3, ⟨a3, b3⟩, ⟨c3, d3⟩, z3, V3, g3⟩ := al_ok (i := i2) (l := l2) (q := q2) (K := K2) (a := 35) (f := 3) (kd := 100) (n := 8 ^ g 2) rfl (by decide) (by decide) rfl V2 g2
    obtain ⟨K3, hK3⟩ : ∃ K3, K2 ++ [(100, 8 ^ g 2)] = K3 := ⟨_, rfl⟩
    rw [hK3] at F3 c3 d3 V3
    have L3 : K3.length = K2.length + 1 := by rw [← hK3, List.length_append]; rfl
    have r35 : ∀ q, rX q 35 0 = some 22 := fun _ => rfl
    have kd22 : ∀ i l q K, Nat.beq (am_kd (i, l, q, kX K) 22) 3 = true := fun _ _ _ _ => rfl
    have F12 := FK_tr F1 F2 rfl rfl rfl (fun w hw => by cases hw)
    have F13 := FK_tr F12 F3 rfl rfl rfl (fun w hw => by cases hw)
    have F23 := FK_tr F2 F3 rfl rfl rfl (fun w hw => by cases hw)
    have k1' := kd_fk F23 (kK_lt c1 (by decide))
    have k2' := kd_fk F3 (kK_lt c2 (by decide))
    have hQ' : FQs (nf3 W (58 + K.length)) (8 ^ g 2) q3 K3 := by
      refine ⟨⟨?_, ?_, ?_⟩, ⟨?_, ?_, ?_⟩, ⟨?_, ?_, ?_⟩, p82⟩
      · rw [b3 1 (by decide), a2, L1]; rfl
      · rw [b3 2 (by decide), b2 2 (by decide), a1]; rfl
      · rw [a3, L2, L1]; rfl
      · show kK K3 (58 + K.length + 1) = 100
        rw [show 58 + K.length + 1 = 58 + K1.length by omega, k2'.1]; exact c2
      · show kK K3 (58 + K.length) = 100
        rw [k1'.1]; exact c1
      · show kK K3 (58 + K.length + 2) = 100
        rw [show 58 + K.length + 2 = 58 + K2.length by omega]; exact c3
      · show lK K3 (58 + K.length + 1) = _
        rw [show 58 + K.length + 1 = 58 + K1.length by omega, k2'.2]; exact d2
      · show lK K3 (58 + K.length) = _
        rw [k1'.2]; exact d1
      · show lK K3 (58 + K.length + 2) = _
        rw [show 58 + K.length + 2 = 58 + K2.length by omega]; exact d3
    have hW' : MD ρ r g m (nf3 W (58 + K.length)) v i3 l3 q3 K3 := by
      have old : ∀ k, k < 10 → W k < 58 + K.length := hlt
      have row : ∀ c, c < 58 + K.length → i3 c = i c ∧ l3 c = l c := fun c hc => ⟨(F13.2 c hc).1 rfl rfl, (F13.2 c hc).2.1 rfl rfl⟩
      refine ⟨CV_fk F13 rfl rfl rfl rfl (fun w hw => by cases hw) (fun w hw => by cases hw) hC, GA_fk F13 rfl rfl rfl rfl rfl (fun w hw => by cases hw) hG, ⟨n0, SS_fk F13 rfl (row 27 (by omega)).1 (row (W 1) (old 1 (by decide))).1 (row (W 2) (old 2 (by decide))).1 hS⟩, XRw_fk F13 rfl (row (W 4) (old 4 (by decide))).2 hRw, ⟨hQ'.1, hQ'.2.1, 8 ^ g 2, p82, hQ'.2.2.1⟩, ⟨fun k hk => ?_, fun x y hx hy hxy => ?_⟩, fun k hk => ?_⟩
      · have := hO.1 k hk
        unfold nf3 WDc at *
        split <;> (try split) <;> (try split) <;> omega
      · have ox := old x hx
        have oy := old y hy
        have := hO.2 x y hx hy
        unfold nf3 at hxy
        split at hxy <;> (try split at hxy) <;> (try split at hxy) <;> (try split at hxy) <;> (try split at hxy) <;> (try split at hxy) <;> omega
      · by_cases e : nf3 W (58 + K.length) k = W k
        · rw [e]; exact RNc_fk F13 rfl hV (hN k hk)
        · refine RNc_fk F13 rfl hV (RNc_new hV ?_)
          unfold nf3 at e ⊢
          split <;> (try split) <;> (try split) <;> (try omega)
          simp_all
    obtain ⟨i', e, hM', hS', hE', hG'⟩ := y_ftail d hW' hQ' (Nat.le_refl _) ha hva
    have hQQ : MQx K W (nf3 W (58 + K.length)) := MQx_s (fun k hk => by
      unfold nf3
      split
      · exact Or.inr (by omega)
      · split
        · exact Or.inr (by omega)
        · split
          · exact Or.inr (by omega)
          · exact Or.inl rfl)
    have hgw : GW q q3 K K3 := by
      have p1 := PHI_q (K := K) (QW_md hM)
      have p2 := PHI_q (K := K3) (QW_md hW')
      rw [show nf3 W (58 + K.length) 0 = W 0 from rfl, show nf3 W (58 + K.length) 1 = W 1 from rfl, show nf3 W (58 + K.length) 2 = W 2 from rfl, show nf3 W (58 + K.length) 3 = W 3 from rfl, show nf3 W (58 + K.length) 4 = W 4 from rfl, show nf3 W (58 + K.length) 5 = W 5 from rfl, show nf3 W (58 + K.length) 6 = W 6 from rfl, show nf3 W (58 + K.length) 7 = 58 + K.length + 1 from rfl, show nf3 W (58 + K.length) 8 = 58 + K.length from rfl, show nf3 W (58 + K.length) 9 = 58 + K.length + 2 from rfl] at p2
      have ek : ∀ k, k < 10 → lK K3 (W k) = lK K (W k) := fun k hk => (kd_fk F13 (hlt k hk)).2
      rw [ek 0 (by decide), ek 1 (by decide), ek 2 (by decide), ek 3 (by decide), ek 4 (by decide), ek 5 (by decide), ek 6 (by decide), show lK K3 (58 + K.length) = 8 ^ g 2 from by rw [k1'.2]; exact d1, show lK K3 (58 + K.length + 1) = 8 ^ g 2 from by rw [show 58 + K.length + 1 = 58 + K1.length by omega, k2'.2]; exact d2, show lK K3 (58 + K.length + 2) = 8 ^ g 2 from by rw [show 58 + K.length + 2 = 58 + K2.length by omega]; exact d3] at p2
      rw [l7, l8, l9] at p1
      obtain ⟨u1, u2⟩ := pw_up h2 (show n < 8 ^ g 2 by omega)
      have z1 : am_sz K3 = am_sz K + 8 ^ g 2 + 8 ^ g 2 + 8 ^ g 2 := by rw [← hK3, ← hK2, ← hK1, am_sz_app, am_sz_app, am_sz_app]; rfl
      unfold GW
      omega
    refine ⟨i', l3, q3, K3, nf3 W (58 + K.length), 8 ^ g 2, ?_, hM', hQ', Nat.le_refl _, hS', hE', GFx_tr (GFx_of F13 rfl rfl rfl (fun w hw => by cases hw) hgw) hQQ hG', hQQ⟩
    rw [decide_eq_false (fun z => c (hcmp.mp z)), cond_false, pl hV hq22, am_bd_some]
    show am_Ex _ _ _ _ [.int (nI (8 ^ g 2)), .ref 35] _ = _
    rw [b_Forcing_explore_23, hin, cond_true, al_r (by decide), r35]
    dsimp only
    rw [nI_clamp (by omega), ei1, el1, eq1, hK1, kd22, Bool.true_and, cond_true, pl V1 g1, am_bd_some]
    show am_Ex _ _ _ _ [.int (nI (8 ^ g 2)), .ref 35] _ = _
    rw [b_Forcing_explore_36, hin, cond_true, al_r (by decide), r35]
    dsimp only
    rw [nI_clamp (by omega), ei2, el2, eq2, hK2, kd22, Bool.true_and, cond_true, pl V2 g2, am_bd_some]
    show am_Ex _ _ _ _ [.int (nI (8 ^ g 2)), .ref 35] _ = _
    rw [b_Forcing_explore_49, hin, cond_true, nI_clamp (by omega), ei3, el3, eq3, hK3]
    exact e
end
