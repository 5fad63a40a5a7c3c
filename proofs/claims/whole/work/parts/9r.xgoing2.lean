/-! THE CLASS: goings at a river -/
section
variable {i i' : Nat → Nat → Int32} {l l' : Nat → Nat → Int64} {q q' : Nat → Nat → Option Nat} {K K' : List (Nat × Nat)} {r m : Nat} {g h : Nat → Nat} {ρ : Nat → Nat → Nat}
/-- goings, wherever -/
def GS (ρ : Nat → Nat → Nat) (gg : Nat → Nat) (e v : Nat) (i : Nat → Nat → Int32) (l : Nat → Nat → Int64) (q : Nat → Nat → Option Nat) (K : List (Nat × Nat)) : Prop := ∃ rg, q 22 1 = some rg ∧ kK K rg = 6 ∧ q 22 3 = some e ∧ i 22 4 = nI v ∧ (WDc e ∧ kK K e = 100 ∧ lK K e ≤ 4096) ∧ (i 22 2 = -nI 1 ∨ ∃ mg, i 22 2 = nI (mg / 4096 % 65536) ∧ RM mg (gCur gg) ∧ gE (ρ rg) gg ∧ WG gg ∧ 8 ^ gg 2 ≤ lK K e ∧ GV i e gg)
theorem s_Goings_placings (d : Nat) (hq : rX q 22 1 = some r) (hk : Nat.beq (am_kd (i, l, rX q, kX K) r) 6 = true) (hr : i r 1 = nI (g 2)) (h2 : g 2 ≤ 4) : am_cl (d + 1) mGoings_placings [.ref 22] (i, l, rX q, kX K) = some (some (.int (nI (8 ^ g 2))), (i, l, rX q, kX K)) := by
  rw [c_Goings_placings, b_Goings_placings_0, hq]
  dsimp only
  rw [hk, cond_true, hr, show (3 : Int32) * nI (g 2) = nI (3 * g 2) from pk_mul 3 _, k_shl1 (by omega), show (2 : Nat) ^ (3 * g 2) = 8 ^ g 2 by rw [Nat.pow_mul]]
theorem p8 (h2 : g 2 ≤ 4) : 1 ≤ 8 ^ g 2 ∧ 8 ^ g 2 ≤ 4096 := by
  refine ⟨Nat.pow_pos (by decide), ?_⟩
  exact Nat.pow_le_pow_right (n := 8) (by decide) h2
/-- the same goings -/
def gS (g h : Nat → Nat) : Prop := gE g h ∧ ∀ p, p < 4 → h (22 + p) = g (22 + p)
theorem y_attune (d : Nat) {e v : Nat} {gg : Nat → Nat} (hC : CV ρ r g m i l q K) (hF : XF ρ i l q K) (hG : GS ρ gg e v i l q K) (hN : RNc q r e) : ∃ i' l' q' K' e' v', am_cl (d + 3) mGoings_attune [.ref 22, .ref r, .long (lN m)] (i, l, rX q, kX K) = some (none, (i', l', rX q', kX K')) ∧ GA r g m e' v' i' l' q' K' ∧ FK [18, 20, 22] [e] [11] [11, 22] i i' l l' q q' K K' ∧ (e' = e ∨ 58 + K.length ≤ e') ∧ ((v' = v + 1) ∨ (v' = v ∧ e' = e ∧ WG gg ∧ gS gg g)) ∧ ((K' = K ∧ e' = e) ∨ (K' = K ++ [(100, 8 ^ g 2)] ∧ lK K e < 8 ^ g 2 ∧ lK K' e' = 8 ^ g 2)) := by
  obtain ⟨rf, mf, gf, ⟨f1, f2, f3, f4, f5⟩, f6, f7, f8, f9⟩ := hF
  obtain ⟨a1, a2, a3, a4, a5, a6⟩ := hC
  obtain ⟨i1, e1, hf1, hT1, hH1⟩ := r_Ford_attune (g := g) (gf := gf) (r := r) (rf := rf) d (by rw [a2.2.1]; rfl) (by rw [f6]; rfl) f1 f2 a6 f3 f8 f9 (fun z => by rw [z] at f7; exact gE_tr (gE_sy f7) a4) f4 f5
  obtain ⟨rg, g1, g2, g3, g4, ⟨gw, gk, gl4⟩, g5⟩ := hG
  obtain ⟨l1, hl1⟩ : ∃ l1, am_u2 l 11 2 (lN m) = l1 := ⟨_, rfl⟩
  obtain ⟨q1, hq1⟩ : ∃ q1, am_u2 q 11 1 (some r) = q1 := ⟨_, rfl⟩
  have hFA1 : FA r g m i1 l1 q1 := ⟨by rw [← hq1]; rfl, by rw [← hl1]; rfl, a6, hT1, hH1⟩
  have hq22 : ∀ k, q1 22 k = q 22 k := fun k => by rw [← hq1]; rfl
  have hi22 : i1 22 = i 22 := hf1 22 rfl
  have hff1 : FG [18, 20] [11] [11] i i1 l l1 q q1 := by
    refine ⟨hf1, fun c hc => ?_, fun c hc => ?_⟩
    · have : c ≠ 11 := fun z => by rw [z] at hc; cases hc
      rw [← hl1]; funext k; unfold am_u2; rw [if_neg this]
    · have : c ≠ 11 := fun z => by rw [z] at hc; cases hc
      rw [← hq1]; funext k; unfold am_u2; rw [if_neg this]
  have hV1 : RV (i1, l1, rX q1, kX K) r g := RV_fg hff1 rfl rfl a2
  have hwe : ([18, 20, 22] : List Nat).contains e = false := wd_no gw rfl
  have hie : i1 e = i e := hf1 e (sub_c (R := [18, 20, 22]) rfl hwe)
  have h2 := a3.2.1
  obtain ⟨p81, p82⟩ := p8 (g := g) h2
  have hst : Int64.toInt32 ((Int64.toUInt64 (lN m) >>> ((Int32.toInt64 (12 : Int32)).toUInt64 &&& Int64.toUInt64 63)).toInt64 &&& (65535 : Int64)) = nI (m / 4096 % 65536) := by
    have hm := a6.1
    rw [show (Int64.toUInt64 (lN m) >>> ((Int32.toInt64 (12 : Int32)).toUInt64 &&& Int64.toUInt64 63)).toInt64 = lN (m / 2 ^ 12) from x_ushr (s := 12) (by omega) (by decide), show (65535 : Int64) = lN (2 ^ 16 - 1) from rfl, x_andL, Nat.and_two_pow_sub_one_eq_mod, x_l2i]
  have hmo : m / 4096 % 65536 < 65536 := Nat.mod_lt _ (by decide)
  -- anew
  have anew : ∀ z2 z3, ∃ i' l' q' K' e' v', am_Ex (d + 2) mGoings_attune 38 [.val (.ref 22), .val (.ref r), z2, z3, .val (.int (nI (m / 4096 % 65536)))] [] (i1, l1, rX q1, kX K) = some (none, (i', l', rX q', kX K')) ∧ GA r g m e' v' i' l' q' K' ∧ FK [18, 20, 22] [e] [11] [11, 22] i i' l l' q q' K K' ∧ (e' = e ∨ 58 + K.length ≤ e') ∧ ((v' = v + 1) ∨ (v' = v ∧ e' = e ∧ WG gg ∧ gS gg g)) ∧ ((K' = K ∧ e' = e) ∨ (K' = K ++ [(100, 8 ^ g 2)] ∧ lK K e < 8 ^ g 2 ∧ lK K' e' = 8 ^ g 2)) := by
    intro z2 z3
    obtain ⟨i2, hi2⟩ : ∃ i2, am_u2 (am_u2 i1 22 2 (nI (m / 4096 % 65536))) 22 4 (nI (v + 1)) = i2 := ⟨_, rfl⟩
    obtain ⟨q2, hq2⟩ : ∃ q2, am_u2 q1 22 1 (some r) = q2 := ⟨_, rfl⟩
    have hu : am_u2 (rX q1) 22 1 (some r) = rX q2 := by rw [← hq2]; exact rX_u2 q1 _ rfl
    have hff2 : FG [18, 20, 22] [11] [11, 22] i i2 l l1 q q2 := by
      refine ⟨by rw [← hi2]; exact Fr_u2 rfl (Fr_u2 rfl (Fr_step hf1 rfl (Fr_refl _ _))), hff1.2.1, fun c hc => ?_⟩
      have c11 : c ≠ 11 := fun z => by rw [z] at hc; cases hc
      have c22 : c ≠ 22 := fun z => by rw [z] at hc; cases hc
      rw [← hq2, ← hq1]
      funext k; unfold am_u2; rw [if_neg c22, if_neg c11]
    have hV2 : RV (i2, l1, rX q2, kX K) r g := RV_fg hff2 rfl rfl a2
    have hk2 : Nat.beq (am_kd (i2, l1, rX q2, kX K) r) 6 = true := by rw [hV2.2.1]; rfl
    have hr2 : i2 r 1 = nI (g 2) := hV2.2.2.2.1
    have q21 : rX q2 22 1 = some r := by
      show q2 22 1 = some r
      rw [← hq2]; rfl
    have q23 : rX q2 22 3 = some e := by
      show q2 22 3 = some e
      rw [← hq2, ← hq1]; exact g3
    have hpl := s_Goings_placings (i := i2) (l := l1) (q := q2) (K := K) (d + 1) q21 hk2 hr2 h2
    have hFA2 : FA r g m i2 l1 q2 := by
      obtain ⟨b1, b2, b3, b4, b5⟩ := hFA1
      have e18 : ∀ t, t = 18 ∨ t = 19 ∨ t = 20 ∨ t = 21 → i2 t = i1 t := fun t ht => by
        rw [← hi2]
        funext k
        simp only [am_u2]
        rw [if_neg (by omega), if_neg (by omega)]
      refine ⟨by rw [← hq2]; exact b1, b2, b3, ?_, ?_⟩
      · unfold TV at b4 ⊢
        rw [e18 18 (by omega), e18 19 (by omega)]; exact b4
      · unfold HV at b5 ⊢
        rw [e18 20 (by omega), e18 21 (by omega)]; exact b5
    have h224 : i2 22 4 = nI (v + 1) := by rw [← hi2]; rfl
    have h222 : i2 22 2 = nI (m / 4096 % 65536) := by rw [← hi2]; rfl
    -- the row is filled
    have fill : ∀ i3 l3 q3 K3 e3 z1 z2 z3 z4, FA r g m i3 l3 q3 → q3 22 1 = some r → q3 22 3 = some e3 → i3 22 4 = nI (v + 1) → i3 22 2 = nI (m / 4096 % 65536) → WDc e3 → kK K3 e3 = 100 → 8 ^ g 2 ≤ lK K3 e3 → lK K3 e3 ≤ 4096 → ∃ i4, am_Ex (d + 2) mGoings_attune 81 [.val (.ref 22), z1, z2, z3, z4] [] (i3, l3, rX q3, kX K3) = some (none, (i4, l3, rX q3, kX K3)) ∧ GA r g m e3 (v + 1) i4 l3 q3 K3 ∧ ∀ c, c ≠ e3 → i4 c = i3 c := by
      intro i3 l3 q3 K3 e3 z1 z2 z3 z4 hA3 h31 h33 h34 h32 hw3 hk3 hl3 hl4
      have h33' : rX q3 22 3 = some e3 := h33
      have hfill := s_J_fill (i := i3) (l := l3) (q := rX q3) (K := kX K3) (d + 1) (r0 := e3) (n := lK K3 e3) (-1) hk3 rfl (by omega)
      rw [b_Goings_attune_81, h33']
      dsimp only
      rw [hfill, am_bd_some, q_app0, b_Goings_attune_89]
      have hoth : ∀ c, c ≠ e3 → am_u1 i3 e3 (fun k => if k < lK K3 e3 then -1 else i3 e3 k) c = i3 c := fun c hc => by
        funext k
        simp only [am_u1]
        rw [if_neg hc]
      have n22 : (22 : Nat) ≠ e3 := by rcases hw3 with h | h | h | h | h | h | h | h | h | h | h <;> omega
      refine ⟨_, rfl, ⟨?_, h31, h33, by rw [hoth 22 n22]; exact h34, by rw [hoth 22 n22]; exact h32, ⟨hw3, hk3, hl3, hl4⟩, fun b hb hvb => Or.inl ?_⟩, hoth⟩
      · obtain ⟨b1, b2, b3, b4, b5⟩ := hA3
        have e18 : ∀ t, t = 18 ∨ t = 19 ∨ t = 20 ∨ t = 21 → t ≠ e3 := fun t ht => by rcases hw3 with h | h | h | h | h | h | h | h | h | h | h <;> omega
        refine ⟨b1, b2, b3, ?_, ?_⟩
        · unfold TV at b4 ⊢
          rw [hoth 18 (e18 18 (by omega)), hoth 19 (e18 19 (by omega))]; exact b4
        · unfold HV at b5 ⊢
          rw [hoth 20 (e18 20 (by omega)), hoth 21 (e18 21 (by omega))]; exact b5
      · have := VS_lt h2 hb hvb
        simp only [am_u1]
        rw [if_pos trivial, if_pos (by omega)]; rfl
    have q13 : rX q1 22 3 = some e := by
      show q1 22 3 = some e
      rw [hq22]; exact g3
    have i14 : i1 22 4 + 1 = nI (v + 1) := by rw [hi22, g4]; exact nI_add v 1
    have kd2 : (Nat.ble 100 (am_kd (i2, l1, rX q2, kX K) e) && Nat.ble (am_kd (i2, l1, rX q2, kX K) e) 105) = true := by
      rw [show am_kd (i2, l1, rX q2, kX K) e = 100 from gk]; rfl
    rw [b_Goings_attune_38, q13]
    dsimp only
    rw [i14, hi2, hu, kd2, cond_true, hpl, am_bd_some, q_app, b_Goings_attune_68]
    have hcmp : (nI (8 ^ g 2) ≤ Int32.ofNat (am_ln (i2, l1, rX q2, kX K) e)) ↔ 8 ^ g 2 ≤ lK K e := by
      show nI (8 ^ g 2) ≤ nI (lK K e) ↔ _
      rw [q_le (by omega) (by omega)]
    by_cases c : 8 ^ g 2 ≤ lK K e
    · rw [decide_eq_true (hcmp.mpr c), cond_true]
      obtain ⟨i4, e4, hG4, ho4⟩ := fill i2 l1 q2 K e (.val (.ref r)) z2 z3 (.val (.int (nI (m / 4096 % 65536)))) hFA2 (by rw [← hq2]; rfl) (by rw [← hq2, ← hq1]; exact g3) h224 h222 gw gk c gl4
      refine ⟨i4, l1, q2, K, e, v + 1, e4, hG4, ⟨⟨[], by rw [List.append_nil]⟩, fun x _ => ⟨fun z1 z2 => ?_, fun z1 _ => hff2.2.1 x z1, fun z1 => hff2.2.2 x z1⟩⟩, Or.inl rfl, Or.inl rfl, Or.inl ⟨rfl, rfl⟩⟩
      have : x ≠ e := fun z => by rw [z] at z2; simp at z2
      rw [ho4 x this]; exact hff2.1 x z1
    · rw [decide_eq_false (fun z => c (hcmp.mp z)), cond_false, hpl, am_bd_some, q_app, b_Goings_attune_76]
      have hin : (decide ((0 : Int32) ≤ nI (8 ^ g 2)) && Nat.ble (nI (8 ^ g 2)).toNatClampNeg 60000000) = true := by
        rw [nI_clamp (by omega), decide_eq_true (show (0 : Int32) ≤ nI (8 ^ g 2) from by
          show nI 0 ≤ nI (8 ^ g 2)
          rw [q_le (by omega) (by omega)]; omega), Bool.true_and]
        exact Nat.ble_eq_true_of_le (by omega)
      rw [hin, cond_true, nI_clamp (by omega), kX_len]
      have eq3 : am_u2 (am_u1 (rX q2) (58 + K.length) (fun _ => none)) 22 3 (some (58 + K.length)) = rX (am_u2 (am_u1 q2 (58 + K.length) (fun _ => none)) 22 3 (some (58 + K.length))) := by
        rw [rX_u1 q2 _ (by omega)]
        exact rX_u2 _ _ rfl
      rw [eq3]
      have n58 : ∀ t, t < 58 → t ≠ 58 + K.length := fun t ht => by omega
      have hlast : (kX (K ++ [(100, 8 ^ g 2)]))[58 + K.length]? = some (100, 8 ^ g 2) := by
        rw [← kX_app, ← kX_len]
        simp
      obtain ⟨i4, e4, hG4, ho4⟩ := fill (am_u1 i2 (58 + K.length) (fun _ => 0)) (am_u1 l1 (58 + K.length) (fun _ => 0)) (am_u2 (am_u1 q2 (58 + K.length) (fun _ => none)) 22 3 (some (58 + K.length))) (K ++ [(100, 8 ^ g 2)]) (58 + K.length) (.val (.ref r)) z2 z3 (.val (.int (nI (m / 4096 % 65536)))) (by
        obtain ⟨b1, b2, b3, b4, b5⟩ := hFA2
        have e18 : ∀ t, t < 58 → am_u1 i2 (58 + K.length) (fun _ => 0) t = i2 t := fun t ht => by
          funext k
          simp only [am_u1]
          rw [if_neg (n58 t ht)]
        refine ⟨?_, ?_, b3, ?_, ?_⟩
        · simp only [am_u2, am_u1]
          rw [if_neg (by decide), if_neg (n58 11 (by decide))]; exact b1
        · simp only [am_u1]
          rw [if_neg (n58 11 (by decide))]; exact b2
        · unfold TV at b4 ⊢
          rw [e18 18 (by omega), e18 19 (by omega)]; exact b4
        · unfold HV at b5 ⊢
          rw [e18 20 (by omega), e18 21 (by omega)]; exact b5) (by
        simp only [am_u2, am_u1]
        rw [if_pos trivial, if_neg (by decide), if_neg (n58 22 (by decide)), ← hq2]; rfl) (by
        simp only [am_u2]
        rw [if_pos trivial, if_pos trivial]) (by
        simp only [am_u1]
        rw [if_neg (n58 22 (by decide))]; exact h224) (by
        simp only [am_u1]
        rw [if_neg (n58 22 (by decide))]; exact h222) (by unfold WDc; omega) (by
        unfold kK am_kd
        dsimp only
        rw [hlast]) (by
        unfold lK am_ln
        dsimp only
        rw [hlast]; exact Nat.le_refl _) (by
        unfold lK am_ln
        dsimp only
        rw [hlast]; exact p82)
      refine ⟨i4, _, _, _, 58 + K.length, v + 1, e4, hG4, ⟨⟨[(100, 8 ^ g 2)], rfl⟩, fun x hx => ⟨fun z1 z2 => ?_, fun z1 _ => ?_, fun z1 => ?_⟩⟩, Or.inr (Nat.le_refl _), Or.inl rfl, Or.inr ⟨rfl, by omega, by unfold lK am_ln; dsimp only; rw [hlast]⟩⟩
      · rw [ho4 x (by omega)]
        have : am_u1 i2 (58 + K.length) (fun _ => 0) x = i2 x := by
          funext k
          simp only [am_u1]
          rw [if_neg (by omega)]
        rw [this]; exact hff2.1 x z1
      · have : am_u1 l1 (58 + K.length) (fun _ => 0) x = l1 x := by
          funext k
          simp only [am_u1]
          rw [if_neg (by omega)]
        rw [this]; exact hff2.2.1 x z1
      · have c22 : x ≠ 22 := fun z => by rw [z] at z1; cases z1
        have : am_u2 (am_u1 q2 (58 + K.length) (fun _ => none)) 22 3 (some (58 + K.length)) x = q2 x := by
          funext k
          simp only [am_u2, am_u1]
          rw [if_neg c22, if_neg (by omega)]
        rw [this]; exact hff2.2.2 x z1
  have q11 : rX q1 22 1 = some rg := by
    show q1 22 1 = some rg
    rw [hq22]; exact g1
  have hkr : Nat.ble (am_kd (i1, l1, rX q1, kX K) r) 105 = true := by rw [hV1.2.1]; rfl
  have hkg : Nat.ble (am_kd (i1, l1, rX q1, kX K) rg) 105 = true := by rw [show am_kd (i1, l1, rX q1, kX K) rg = 6 from g2]; rfl
  rw [c_Goings_attune, b_Goings_attune_0, e1, hl1, hq1, am_bd_some, q_app0, b_Goings_attune_9, q11]
  dsimp only
  rw [hkr, hkg, Bool.true_and, cond_true, hst, hi22]
  by_cases cr : rg = r
  · by_cases cs : i 22 2 = nI (m / 4096 % 65536)
    · rw [decide_eq_true (congrArg some cr), show (!true) = false from rfl, cond_false, decide_eq_false (fun z => z cs), cond_false]
      rcases g5 with g5 | ⟨mg, g51, g52, g53, g54, g55, g56⟩
      · exfalso
        rw [g5] at cs
        have := q_m1' (a := m / 4096 % 65536) (by omega)
        rw [this] at cs; exact cs
      · have hmg := g52.1
        have hm := a6.1
        have eb : m / 4096 % 65536 = mg / 4096 % 65536 := by
          have hmo2 : mg / 4096 % 65536 < 65536 := Nat.mod_lt _ (by decide)
          rw [g51, q_eq (by omega) (by omega)] at cs
          exact cs.symm
        have hstr : ∀ p, p < 4 → g (22 + p) = gg (22 + p) := by
          intro p hp
          have e1 : stm m p = g (22 + p) := by rw [a6.2.2.1 p hp]; unfold gCur; congr 1; omega
          have e2 : stm mg p = gg (22 + p) := by rw [g52.2.2.1 p hp]; unfold gCur; congr 1; omega
          rw [← e1, ← e2, stm_fld, stm_fld]
          apply fld_c
          intro j h1 h2
          have := congrArg (fun x => Nat.testBit x (j - 12)) eb
          rw [show (65536 : Nat) = 2 ^ 16 from rfl, show (4096 : Nat) = 2 ^ 12 from rfl, Nat.testBit_mod_two_pow, Nat.testBit_mod_two_pow, Nat.testBit_div_two_pow, Nat.testBit_div_two_pow, decide_eq_true (show j - 12 < 16 by omega), Bool.true_and, Bool.true_and, show j - 12 + 12 = j by omega] at this
          exact this
        have hge : gE gg g := by
          rw [cr] at g53
          exact gE_tr (gE_sy g53) a4
        have hg1 : GV i1 e gg := by unfold GV at g56 ⊢; rw [hie]; exact g56
        refine ⟨i1, l1, q1, K, e, v, rfl, ⟨hFA1, by rw [hq22, ← cr]; exact g1, by rw [hq22]; exact g3, by rw [hi22]; exact g4, by rw [hi22]; exact cs, ⟨gw, gk, by rw [hge 2 (by decide) (by decide)]; exact g55, gl4⟩, GV_E hge g54.2.2.2.2.2.2.2.2.2.1 g54.2.1 hstr hg1⟩, FK_fg ⟨Fr_step hff1.1 rfl (Fr_refl _ _), hff1.2.1, fun c hc => hff1.2.2 c (sub_c (R := [11, 22]) rfl hc)⟩, Or.inl rfl, Or.inr ⟨rfl, rfl, g54, hge, hstr⟩, Or.inl ⟨rfl, rfl⟩⟩
    · rw [decide_eq_true (congrArg some cr), show (!true) = false from rfl, cond_false, decide_eq_true cs, cond_true]
      exact anew _ _
  · rw [decide_eq_false (fun z => cr (Option.some.inj z)), show (!false) = true from rfl, cond_true]
    exact anew _ _
end
