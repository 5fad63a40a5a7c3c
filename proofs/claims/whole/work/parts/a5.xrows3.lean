/-! THE CLASS: rows from their beginning -/
section
variable {i i' : Nat → Nat → Int32} {l l' : Nat → Nat → Int64} {q q' : Nat → Nat → Option Nat} {K K' : List (Nat × Nat)} {r m v v' : Nat} {g h : Nat → Nat} {ρ : Nat → Nat → Nat} {W W' : Nat → Nat}
theorem al_r {a f : Nat} (ha : a < 58) : am_u1 (rX q) (kX K).length (fun _ => none) a f = rX q a f := by
  unfold am_u1
  rw [if_neg (by rw [kX_len]; omega)]
/-- a new row -/
theorem al_ok {a f kd n : Nat} (hf : rX (fun _ _ => none) a f = none) (ha : a < 58) (h22 : a ≠ 22) (hRq : (([a] : List Nat).all fun x => Nat.blt x 58 && !(x == 7 || x == 8 || x == 9)) = true) (hV : RV (i, l, rX q, kX K) r g) (hq : q 22 1 = some r) : ∃ i1 l1 q1, am_u1 i (kX K).length (fun _ => (0 : Int32)) = i1 ∧ am_u1 l (kX K).length (fun _ => (0 : Int64)) = l1 ∧ am_u2 (am_u1 (rX q) (kX K).length (fun _ => none)) a f (some (kX K).length) = rX q1 ∧ FK [] [] [] [a] i i1 l l1 q q1 K (K ++ [(kd, n)]) ∧ (q1 a f = some (58 + K.length) ∧ ∀ f', f' ≠ f → q1 a f' = q a f') ∧ (kK (K ++ [(kd, n)]) (58 + K.length) = kd ∧ lK (K ++ [(kd, n)]) (58 + K.length) = n) ∧ (∀ x, l1 (58 + K.length) x = 0) ∧ RV (i1, l1, rX q1, kX (K ++ [(kd, n)])) r g ∧ q1 22 1 = some r := by
  rw [kX_len]
  have hF : FK [] [] [] [a] i (am_u1 i (58 + K.length) (fun _ => (0 : Int32))) l (am_u1 l (58 + K.length) (fun _ => (0 : Int64))) q (am_u2 (am_u1 q (58 + K.length) (fun _ => none)) a f (some (58 + K.length))) K (K ++ [(kd, n)]) := by
    refine ⟨⟨_, rfl⟩, fun x hx => ⟨fun _ _ => ?_, fun _ _ => ?_, fun z => ?_⟩⟩
    · funext t; unfold am_u1; rw [if_neg (by omega)]
    · funext t; unfold am_u1; rw [if_neg (by omega)]
    · have c : x ≠ a := fun e => by rw [e] at z; simp at z
      funext t; unfold am_u2 am_u1; rw [if_neg c, if_neg (by omega)]
  refine ⟨_, _, am_u2 (am_u1 q (58 + K.length) (fun _ => none)) a f (some (58 + K.length)), rfl, rfl, ?_, hF, ⟨?_, fun f' hf' => ?_⟩, ⟨?_, ?_⟩, fun x => ?_, RV_fk hF rfl hRq (fun w hw => by cases hw) hV, ?_⟩
  · rw [rX_u1 q _ (by omega)]
    exact rX_u2 _ _ hf
  · unfold am_u2; rw [if_pos rfl, if_pos rfl]
  · unfold am_u2 am_u1; rw [if_pos rfl, if_neg hf', if_neg (by omega)]
  · unfold kK am_kd
    rw [ln_new]
  · unfold lK am_ln
    rw [ln_new]
  · unfold am_u1; rw [if_pos rfl]
  · rw [(hF.2 22 (by omega)).2.2 (by simp [h22.symm])]; exact hq
def nw4 (W : Nat → Nat) (c k : Nat) : Nat := if k = 3 then c else if k = 4 then c + 1 else if k = 5 then c + 2 else if k = 6 then c + 3 else W k
theorem y_begin_tail (d : Nat) {a n : Nat} (hM : MD ρ r g m W v i l q K) (hln : lK K (W 3) = n) (h8 : 8 ^ g 2 ≤ n) (ha : a < 4096) (hva : VS g a) : ∃ i' l', am_Ex (d + 1) mRows_begin 67 [.val (.ref 30), .val (.int (nI a))] [] (i, l, rX q, kX K) = some (none, (i', l', rX q, kX K)) ∧ MD ρ r g m W v i' l' q K ∧ RWs g W (fun t => if t = a then 1 else 0) [a] n i' l' ∧ GFx W i i' l l' q q K K := by
  obtain ⟨hC, hG, ⟨n0, hS⟩, hRw, hFo, hO, hN⟩ := hM
  obtain ⟨⟨x1, x2, x3, x4⟩, ⟨k3, k4, k5, k6⟩, n', hn', ⟨l3, l4, l5, l6⟩, hz⟩ := id hRw
  have hnn : n' = n := l3.symm.trans hln
  subst hnn
  have h2 : g 2 ≤ 4 := hC.2.2.1.2.1
  have y1 : rX q 30 1 = some (W 3) := x1
  have y3 : rX q 30 3 = some (W 5) := x3
  have han : a < n' := Nat.lt_of_lt_of_le (VS_lt h2 ha hva) h8
  have ne : ∀ a b, a < 10 → b < 10 → a ≠ b → W a ≠ W b := fun a b ha hb hab z => hab (hO.2 a b ha hb z)
  have n30 : ∀ a, a < 10 → W a ≠ 30 := fun a ha z => by
    have := hO.1 a ha
    unfold WDc at this
    omega
  have hlt := wkc_lt hRw hFo ⟨n0, hS.1⟩ hG.2.2.2.2.2.1.2.1
  rw [b_Rows_begin_67, y1]
  dsimp only
  rw [s_J_fillL d (n := n') 0 (show am_kd (i, l, rX q, kX K) (W 3) = 101 from k3) (show am_ln (i, l, rX q, kX K) (W 3) = n' from l3) (by omega), am_bd_some, q_app0, b_Rows_begin_75, decide_eq_false (show ¬ nI a < 0 from by
    show ¬ nI a < nI 0
    rw [q_lt (by omega) (by omega)]; omega), cond_false, y1]
  dsimp only
  obtain ⟨l1, hl1⟩ : ∃ l1, am_u1 l (W 3) (fun k => if k < n' then (0 : Int64) else l (W 3) k) = l1 := ⟨_, rfl⟩
  rw [hl1, bl101 k3, cond_true, decide_eq_false (show ¬ Int32.ofNat (am_ln ((am_u2 i 30 5 0), l1, (rX q), (kX K)) (W 3)) ≤ nI a from by
    rw [show am_ln ((am_u2 i 30 5 0), l1, (rX q), (kX K)) (W 3) = n' from l3]
    show ¬ nI n' ≤ nI a
    rw [q_le (by omega) (by omega)]; omega), cond_false, in101 k3 l3 hn' han, cond_true, y3]
  dsimp only
  rw [show (0 : Int32) = nI 0 from rfl, in100 k5 l5 hn' (show 0 < n' by omega), cond_true, b_Rows_begin_112, nI_clamp (by omega)]
  obtain ⟨i2, hi2⟩ : ∃ i2, am_u2 (am_u2 (am_u2 i 30 5 (nI 0)) (W 5) 0 (nI a)) 30 5 1 = i2 := ⟨_, rfl⟩
  obtain ⟨l2, hl2⟩ : ∃ l2, am_u2 l1 (W 3) a 1 = l2 := ⟨_, rfl⟩
  rw [hi2, hl2]
  have hio : ∀ c, c ≠ 30 → c ≠ W 5 → i2 c = i c := fun c c1 c2 => by
    rw [← hi2]; funext t; unfold am_u2; rw [if_neg c1, if_neg c2, if_neg c1]
  have hlo : ∀ c, c ≠ W 3 → l2 c = l c := fun c c1 => by
    rw [← hl2, ← hl1]; funext t; unfold am_u2 am_u1; rw [if_neg c1, if_neg c1]
  have hF : FK [30] [W 3, W 5] [] [] i i2 l l2 q q K K := ⟨⟨[], by rw [List.append_nil]⟩, fun c _ => ⟨fun z1 z2 => hio c (fun e => by rw [e] at z1; cases z1) (fun e => by rw [e] at z2; simp at z2), fun _ z2 => hlo c (fun e => by rw [e] at z2; simp at z2), fun _ => rfl⟩⟩
  have hin : ∀ w, w ∈ [W 3, W 5] → ∃ k, k < 10 ∧ w = W k ∧ k ≠ 0 := fun w hw => by
    simp only [List.mem_cons, List.not_mem_nil, or_false] at hw
    rcases hw with h | h
    · exact ⟨3, by decide, h, by decide⟩
    · exact ⟨5, by decide, h, by decide⟩
  refine ⟨i2, l2, rfl, ⟨?_, ?_, ⟨n0, ?_⟩, ?_, hFo, hO, hN⟩, ⟨?_, fun x y hx hy _ => ?_, fun x hx => ?_, fun t ht => ?_, fun t => ?_, fun t ht => ?_⟩, ?_⟩
  · exact CV_fk hF rfl rfl rfl rfl (fun w hw => by obtain ⟨k, hk, rfl, _⟩ := hin w hw; exact hN k hk) (fun w hw => by obtain ⟨k, hk, rfl, _⟩ := hin w hw; exact hO.1 k hk) hC
  · exact GA_fk hF rfl rfl rfl rfl rfl (fun w hw => by obtain ⟨k, hk, rfl, k0⟩ := hin w hw; exact ⟨hO.1 k hk, ne k 0 hk (by decide) k0⟩) hG
  · exact SS_fk hF rfl (hio 27 (by decide) (wd27 (hO.1 5 (by decide))).1) (hio (W 1) (n30 1 (by decide)) (ne 1 5 (by decide) (by decide) (by decide))) (hio (W 2) (n30 2 (by decide)) (ne 2 5 (by decide) (by decide) (by decide))) hS
  · exact XRw_fk hF rfl (hlo (W 4) (ne 4 3 (by decide) (by decide) (by decide))) hRw
  · rw [← hi2]; unfold am_u2; rw [if_pos rfl, if_pos rfl]; rfl
  · have hx : x < 1 := hx
    have hy : y < 1 := hy
    omega
  · have hx : x < 1 := hx
    have hx0 : x = 0 := by omega
    subst hx0
    rw [← hi2]; unfold am_u2; rw [if_neg (n30 5 (by decide)), if_pos rfl, if_pos rfl]; rfl
  · rw [← hl2, ← hl1]; unfold am_u2 am_u1
    rw [if_pos rfl]
    dsimp only
    by_cases c : t = a
    · rw [if_pos c, if_pos c]; rfl
    · rw [if_neg c, if_neg c, if_pos rfl, if_pos ht]; rfl
  · rw [List.mem_singleton]
    dsimp only
    by_cases c : t = a
    · rw [if_pos c]; exact ⟨fun _ => by decide, fun _ => c⟩
    · rw [if_neg c]; exact ⟨fun z => absurd z c, fun z => absurd rfl z⟩
  · rw [List.mem_singleton.mp ht]; exact ⟨hva, ha⟩
  · exact GFx_of hF rfl rfl rfl (fun w hw => by obtain ⟨k, hk, rfl, _⟩ := hin w hw; exact ⟨k, hk, rfl⟩) GW_refl
theorem y_begin (d : Nat) {a : Nat} (hM : MD ρ r g m W v i l q K) (ha : a < 4096) (hva : VS g a) : ∃ i' l' q' K' W' n, am_cl (d + 2) mRows_begin [.ref 30, .int (nI a)] (i, l, rX q, kX K) = some (none, (i', l', rX q', kX K')) ∧ MD ρ r g m W' v i' l' q' K' ∧ RWs g W' (fun t => if t = a then 1 else 0) [a] n i' l' ∧ lK K' (W' 3) = n ∧ 8 ^ g 2 ≤ n ∧ GFx W i i' l l' q q' K K' ∧ MQx K W W' := by
  obtain ⟨hC, hG, ⟨n0, hS⟩, hRw, hFo, hO, hN⟩ := id hM
  obtain ⟨⟨x1, x2, x3, x4⟩, ⟨k3, k4, k5, k6⟩, n, hn, ⟨l3, l4, l5, l6⟩, hz⟩ := id hRw
  have h2 : g 2 ≤ 4 := hC.2.2.1.2.1
  obtain ⟨p81, p82⟩ := p8 (g := g) h2
  have y1 : rX q 30 1 = some (W 3) := x1
  have hq22 : q 22 1 = some r := hG.2.1
  have hV := hC.2.1
  have hlt := wkc_lt hRw hFo ⟨n0, hS.1⟩ hG.2.2.2.2.2.1.2.1
  have pl : ∀ {i l q K}, RV (i, l, rX q, kX K) r g → q 22 1 = some r → am_cl (d + 1) mGoings_placings [.ref 22] (i, l, rX q, kX K) = some (some (.int (nI (8 ^ g 2))), (i, l, rX q, kX K)) := fun {i l q K} hV hq => s_Goings_placings (i := i) (l := l) (q := q) (K := K) d hq (by rw [hV.2.1]; rfl) hV.2.2.2.1 h2
  have hcmp : (nI (8 ^ g 2) ≤ Int32.ofNat n) ↔ 8 ^ g 2 ≤ n := by
    show nI (8 ^ g 2) ≤ nI n ↔ _
    rw [q_le (by omega) (by omega)]
  rw [c_Rows_begin, b_Rows_begin_0, y1]
  dsimp only
  rw [bl101 k3, cond_true, pl hV hq22, am_bd_some]
  show ∃ i' l' q' K' W' n, am_Ex _ _ _ _ [.int (nI (8 ^ g 2)), .int (Int32.ofNat (am_ln (i, l, rX q, kX K) (W 3)))] _ = _ ∧ _
  rw [b_Rows_begin_12, show am_ln (i, l, rX q, kX K) (W 3) = n from l3]
  by_cases c : 8 ^ g 2 ≤ n
  · rw [decide_eq_true (hcmp.mpr c), cond_true]
    obtain ⟨i', l', e, hM', hR', hG'⟩ := y_begin_tail d hM l3 c ha hva
    exact ⟨i', l', q, K, W, n, e, hM', hR', l3, c, hG', MQx_refl _ _⟩
  · have hin : (decide ((0 : Int32) ≤ nI (8 ^ g 2)) && Nat.ble (nI (8 ^ g 2)).toNatClampNeg 60000000) = true := by
      rw [nI_clamp (by omega), decide_eq_true (show (0 : Int32) ≤ nI (8 ^ g 2) from by
        show nI 0 ≤ nI (8 ^ g 2)
        rw [q_le (by omega) (by omega)]; omega), Bool.true_and]
      exact Nat.ble_eq_true_of_le (by omega)
    obtain ⟨i1, l1, q1, ei1, el1, eq1, F1, ⟨a1, b1⟩, ⟨c1, d1⟩, z1, V1, g1⟩ := al_ok (i := i) (l := l) (q := q) (K := K) (a := 30) (f := 1) (kd := 101) (n := 8 ^ g 2) rfl (by decide) (by decide) rfl hV hq22
    obtain ⟨K1, hK1⟩ : ∃ K1, K ++ [(101, 8 ^ g 2)] = K1 := ⟨_, rfl⟩
    rw [hK1] at F1 c1 d1 V1
    have L1 : K1.length = K.length + 1 := by rw [← hK1, List.length_append]; rfl
    obtain ⟨i2, l2, q2, ei2, el2, eq2, F2, ⟨a2, b2⟩, ⟨c2, d2⟩, z2, V2, g2⟩ := al_ok (i := i1) (l := l1) (q := q1) (K := K1) (a := 30) (f := 2) (kd := 101) (n := 8 ^ g 2) rfl (by decide) (by decide) rfl V1 g1
    obtain ⟨K2, hK2⟩ : ∃ K2, K1 ++ [(101, 8 ^ g 2)] = K2 := ⟨_, rfl⟩
    rw [hK2] at F2 c2 d2 V2
    have L2 : K2.length = K1.length + 1 := by rw [← hK2, List.length_append]; rfl
    obtain ⟨i3, l3', q3, ei3, el3, eq3, F3, ⟨a3, b3⟩, ⟨c3, d3⟩, z3, V3, g3⟩ := al_ok (i := i2) (l := l2) (q := q2) (K := K2) (a := 30) (f := 3) (kd := 100) (n := 8 ^ g 2) rfl (by decide) (by decide) rfl V2 g2
    obtain ⟨K3, hK3⟩ : ∃ K3, K2 ++ [(100, 8 ^ g 2)] = K3 := ⟨_, rfl⟩
    rw [hK3] at F3 c3 d3 V3
    have L3 : K3.length = K2.length + 1 := by rw [← hK3, List.length_append]; rfl
    obtain ⟨i4, l4', q4, ei4, el4, eq4, F4, ⟨a4, b4⟩, ⟨c4, d4⟩, z4, V4, g4⟩ := al_ok (i := i3) (l := l3') (q := q3) (K := K3) (a := 30) (f := 4) (kd := 100) (n := 8 ^ g 2) rfl (by decide) (by decide) rfl V3 g3
    obtain ⟨K4, hK4⟩ : ∃ K4, K3 ++ [(100, 8 ^ g 2)] = K4 := ⟨_, rfl⟩
    rw [hK4] at F4 c4 d4 V4
    have L4 : K4.length = K3.length + 1 := by rw [← hK4, List.length_append]; rfl
    have r30 : ∀ q, rX q 30 0 = some 22 := fun _ => rfl
    have kd22 : ∀ i l q K, Nat.beq (am_kd (i, l, q, kX K) 22) 3 = true := fun _ _ _ _ => rfl
    have F12 := FK_tr F1 F2 rfl rfl rfl (fun w hw => by cases hw)
    have F13 := FK_tr F12 F3 rfl rfl rfl (fun w hw => by cases hw)
    have F14 := FK_tr F13 F4 rfl rfl rfl (fun w hw => by cases hw)
    have F24 := FK_tr F2 (FK_tr F3 F4 rfl rfl rfl (fun w hw => by cases hw)) rfl rfl rfl (fun w hw => by cases hw)
    have F34 := FK_tr F3 F4 rfl rfl rfl (fun w hw => by cases hw)
    have k1' := kd_fk F24 (kK_lt c1 (by decide))
    have k2' := kd_fk F34 (kK_lt c2 (by decide))
    have k3' := kd_fk F4 (kK_lt c3 (by decide))
    have hW' : MD ρ r g m (nw4 W (58 + K.length)) v i4 l4' q4 K4 := by
      have old : ∀ k, k < 10 → W k < 58 + K.length := hlt
      have row : ∀ c, c < 58 + K.length → i4 c = i c ∧ l4' c = l c := fun c hc => ⟨(F14.2 c hc).1 rfl rfl, (F14.2 c hc).2.1 rfl rfl⟩
      refine ⟨CV_fk F14 rfl rfl rfl rfl (fun w hw => by cases hw) (fun w hw => by cases hw) hC, GA_fk F14 rfl rfl rfl rfl rfl (fun w hw => by cases hw) hG, ⟨n0, SS_fk F14 rfl (row 27 (by omega)).1 (row (W 1) (old 1 (by decide))).1 (row (W 2) (old 2 (by decide))).1 hS⟩, ⟨⟨?_, ?_, ?_, ?_⟩, ⟨?_, ?_, ?_, ?_⟩, 8 ^ g 2, p82, ⟨?_, ?_, ?_, ?_⟩, fun k hk => ?_⟩, XFo_fk F14 rfl hFo, ⟨fun k hk => ?_, fun x y hx hy hxy => ?_⟩, fun k hk => ?_⟩
      · rw [b4 1 (by decide), b3 1 (by decide), b2 1 (by decide)]; exact a1
      · rw [b4 2 (by decide), b3 2 (by decide), a2, L1]; rfl
      · rw [b4 3 (by decide), a3, L2, L1]; rfl
      · rw [a4, L3, L2, L1]; rfl
      · show kK K4 (58 + K.length) = 101
        rw [k1'.1]; exact c1
      · show kK K4 (58 + K.length + 1) = 101
        rw [show 58 + K.length + 1 = 58 + K1.length by omega, k2'.1]; exact c2
      · show kK K4 (58 + K.length + 2) = 100
        rw [show 58 + K.length + 2 = 58 + K2.length by omega, k3'.1]; exact c3
      · show kK K4 (58 + K.length + 3) = 100
        rw [show 58 + K.length + 3 = 58 + K3.length by omega]; exact c4
      · show lK K4 (58 + K.length) = _
        rw [k1'.2]; exact d1
      · show lK K4 (58 + K.length + 1) = _
        rw [show 58 + K.length + 1 = 58 + K1.length by omega, k2'.2]; exact d2
      · show lK K4 (58 + K.length + 2) = _
        rw [show 58 + K.length + 2 = 58 + K2.length by omega, k3'.2]; exact d3
      · show lK K4 (58 + K.length + 3) = _
        rw [show 58 + K.length + 3 = 58 + K3.length by omega]; exact d4
      · show l4' (58 + K.length + 1) k = 0
        rw [show 58 + K.length + 1 = 58 + K1.length by omega, (F34.2 (58 + K1.length) (by omega)).2.1 rfl rfl]; exact z2 k
      · have := hO.1 k hk
        unfold nw4 WDc at *
        split <;> (try split) <;> (try split) <;> (try split) <;> omega
      · have ox := old x hx
        have oy := old y hy
        have := hO.2 x y hx hy
        unfold nw4 at hxy
        split at hxy <;> (try split at hxy) <;> (try split at hxy) <;> (try split at hxy) <;> (try split at hxy) <;> (try split at hxy) <;> (try split at hxy) <;> (try split at hxy) <;> omega
      · by_cases e : nw4 W (58 + K.length) k = W k
        · rw [e]; exact RNc_fk F14 rfl hV (hN k hk)
        · refine RNc_fk F14 rfl hV (RNc_new hV ?_)
          unfold nw4 at e ⊢
          split <;> (try split) <;> (try split) <;> (try split) <;> (try omega)
          simp_all
    obtain ⟨i', l', e, hM', hR', hG'⟩ := y_begin_tail d (n := 8 ^ g 2) hW' (by
      show lK K4 (58 + K.length) = _
      rw [k1'.2]; exact d1) (Nat.le_refl _) ha hva
    have hQ : MQx K W (nw4 W (58 + K.length)) := MQx_s (fun k hk => by
      unfold nw4
      split
      · exact Or.inr (by omega)
      · split
        · exact Or.inr (by omega)
        · split
          · exact Or.inr (by omega)
          · split
            · exact Or.inr (by omega)
            · exact Or.inl rfl)
    have hgw : GW q q4 K K4 := by
      have p1 := PHI_q (K := K) (QW_md hM)
      have p2 := PHI_q (K := K4) (QW_md hW')
      rw [show nw4 W (58 + K.length) 0 = W 0 from rfl, show nw4 W (58 + K.length) 1 = W 1 from rfl, show nw4 W (58 + K.length) 2 = W 2 from rfl, show nw4 W (58 + K.length) 3 = 58 + K.length from rfl, show nw4 W (58 + K.length) 4 = 58 + K.length + 1 from rfl, show nw4 W (58 + K.length) 5 = 58 + K.length + 2 from rfl, show nw4 W (58 + K.length) 6 = 58 + K.length + 3 from rfl, show nw4 W (58 + K.length) 7 = W 7 from rfl, show nw4 W (58 + K.length) 8 = W 8 from rfl, show nw4 W (58 + K.length) 9 = W 9 from rfl] at p2
      have ek : ∀ k, k < 10 → lK K4 (W k) = lK K (W k) := fun k hk => (kd_fk F14 (hlt k hk)).2
      rw [ek 0 (by decide), ek 1 (by decide), ek 2 (by decide), ek 7 (by decide), ek 8 (by decide), ek 9 (by decide), show lK K4 (58 + K.length) = 8 ^ g 2 from by rw [k1'.2]; exact d1, show lK K4 (58 + K.length + 1) = 8 ^ g 2 from by rw [show 58 + K.length + 1 = 58 + K1.length by omega, k2'.2]; exact d2, show lK K4 (58 + K.length + 2) = 8 ^ g 2 from by rw [show 58 + K.length + 2 = 58 + K2.length by omega, k3'.2]; exact d3, show lK K4 (58 + K.length + 3) = 8 ^ g 2 from by rw [show 58 + K.length + 3 = 58 + K3.length by omega]; exact d4] at p2
      rw [l3, l4, l5, l6] at p1
      obtain ⟨u1, u2⟩ := pw_up h2 (show n < 8 ^ g 2 by omega)
      have z1 : am_sz K4 = am_sz K + 8 ^ g 2 + 8 ^ g 2 + 8 ^ g 2 + 8 ^ g 2 := by rw [← hK4, ← hK3, ← hK2, ← hK1, am_sz_app, am_sz_app, am_sz_app, am_sz_app]; rfl
      unfold GW
      omega
    refine ⟨i', l', q4, K4, nw4 W (58 + K.length), 8 ^ g 2, ?_, hM', hR', ?_, Nat.le_refl _, GFx_tr (GFx_of F14 rfl rfl rfl (fun w hw => by cases hw) hgw) hQ hG', hQ⟩
    · rw [decide_eq_false (fun z => c (hcmp.mp z)), cond_false, pl hV hq22, am_bd_some]
      show am_Ex _ _ _ _ [.int (nI (8 ^ g 2)), .ref 30] _ = _
      rw [b_Rows_begin_23, hin, cond_true, al_r (by decide), r30]
      dsimp only
      rw [nI_clamp (by omega), ei1, el1, eq1, hK1, kd22, Bool.true_and, cond_true, pl V1 g1, am_bd_some]
      show am_Ex _ _ _ _ [.int (nI (8 ^ g 2)), .ref 30] _ = _
      rw [b_Rows_begin_36, hin, cond_true, al_r (by decide), r30]
      dsimp only
      rw [nI_clamp (by omega), ei2, el2, eq2, hK2, kd22, Bool.true_and, cond_true, pl V2 g2, am_bd_some]
      show am_Ex _ _ _ _ [.int (nI (8 ^ g 2)), .ref 30] _ = _
      rw [b_Rows_begin_49, hin, cond_true, al_r (by decide), r30]
      dsimp only
      rw [nI_clamp (by omega), ei3, el3, eq3, hK3, kd22, Bool.true_and, cond_true, pl V3 g3, am_bd_some]
      show am_Ex _ _ _ _ [.int (nI (8 ^ g 2)), .ref 30] _ = _
      rw [b_Rows_begin_62, hin, cond_true, nI_clamp (by omega), ei4, el4, eq4, hK4]
      exact e
    · show lK K4 (58 + K.length) = _
      rw [k1'.2]; exact d1
end
