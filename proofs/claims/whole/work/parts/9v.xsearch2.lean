/-! THE CLASS: searches kept, and asked -/
section
variable {g h : Nat → Nat}
theorem avl_S (hS : gS g h) (hW : WG g) : avl h = avl g := by
  funext m a j
  exact avl_E hS.1 hW.2.2.2.2.2.2.2.2.2.1 hW.2.1 hS.2 m a j
theorem gz_S (hS : gS g h) : gz h = gz g := by
  funext z x
  unfold gz
  cases z with
  | none => rfl
  | some zz =>
    show gl h zz x = gl g zz x
    unfold gl sOver
    rw [hS.1 1 (by decide) (by decide), hS.1 2 (by decide) (by decide)]
theorem sweep_S (hS : gS g h) (hW : WG g) (m s : Nat) : ∀ n L, sweepL h m s n L = sweepL g m s n L
  | 0, L => rfl
  | n + 1, L => by rw [sweepL, sweepL, avl_S hS hW, sweep_S hS hW m s n L]
theorem stds_S (hS : gS g h) (hW : WG g) (m a : Nat) : stds h m false a = stds g m false a := by
  unfold stds
  have : ∀ k, bfs h m false a k = bfs g m false a k := by
    intro k
    induction k with
    | zero => rfl
    | succ k ih =>
      rw [bfs, bfs, ih]
      unfold stepL
      cases (bfs g m false a k)[k]? with
      | none => rfl
      | some s =>
        dsimp only
        unfold tideL
        rw [if_neg (by decide), if_neg (by decide), sweep_S hS hW]
  exact this 4096
theorem VS_S (hS : gS g h) {a : Nat} : VS h a ↔ VS g a := by
  constructor
  · exact VS_E hS.1
  · exact VS_E (gE_sy hS.1)
theorem SR_S {mv a v cm qu n : Nat} {z : Option Nat} {L : List Nat} {κ : Nat → Nat} {pb : Nat} {i : Nat → Nat → Int32} (hS : gS g h) (hW : WG g) (hR : SR g mv a v z cm qu n L κ pb i) : SR h mv a v z cm qu n L κ pb i := by
  obtain ⟨r1, r2, r3, r4⟩ := hR
  refine ⟨r1, ?_, r3, ?_⟩
  · unfold SX BT at r2 ⊢
    rw [avl_S hS hW]
    obtain ⟨s1, s2, s3⟩ := r2
    exact ⟨s1, fun x hx => ⟨(VS_S hS).mpr (s2 x hx).1, (s2 x hx).2⟩, s3⟩
  · unfold OUT at r4 ⊢
    rw [gz_S hS, stds_S hS hW]
    exact r4
end
section
variable {i i' : Nat → Nat → Int32} {l l' : Nat → Nat → Int64} {q q' : Nat → Nat → Option Nat} {K K' : List (Nat × Nat)} {r m : Nat} {g : Nat → Nat} {ρ : Nat → Nat → Nat}
/-- a search, wherever -/
def SS (g : Nat → Nat) (v cm qu n : Nat) (i : Nat → Nat → Int32) (q : Nat → Nat → Option Nat) (K : List (Nat × Nat)) : Prop := SC cm qu n q K ∧ (∃ L, SL cm qu n L i ∧ (i 27 8 = nI v → ∃ a mv z κ pb, a < 4096 ∧ mv < 16 ∧ (∀ zz, z = some zz → zz < 16) ∧ SR g mv a v z cm qu n L κ pb i)) ∧ (i 27 8 = -nI 1 ∨ ∃ u, u ≤ v ∧ i 27 8 = nI u)
theorem ln_new (K : List (Nat × Nat)) (x : Nat × Nat) : (kX (K ++ [x]))[58 + K.length]? = some x := by
  rw [← kX_app, ← kX_len]
  simp
theorem y_forget (d : Nat) {cm qu n : Nat} {L : List Nat} (hW : WG g) (hV : RV (i, l, rX q, kX K) r g) (hq : q 22 1 = some r) (hN1 : RNc q r cm) (hN2 : RNc q r qu) (hS : SC cm qu n q K) (hL : SL cm qu n L i) : ∃ i' l' q' K' cm' qu' n', am_cl (d + 2) mSearch_forget [.ref 27] (i, l, rX q, kX K) = some (none, (i', l', rX q', kX K')) ∧ SC cm' qu' n' q' K' ∧ SL cm' qu' n' [] i' ∧ i' 27 5 = -nI 1 ∧ 8 ^ g 2 ≤ n' ∧ (∀ k, k ≠ 3 → k ≠ 5 → i' 27 k = i 27 k) ∧ FK [27] [cm, qu] [] [27] i i' l l' q q' K K' ∧ ((cm' = cm ∧ qu' = qu) ∨ (58 + K.length ≤ cm' ∧ 58 + K.length ≤ qu')) ∧ ((K' = K ∧ n' = n) ∨ (K' = (K ++ [(100, 8 ^ g 2)]) ++ [(100, 8 ^ g 2)] ∧ n < 8 ^ g 2 ∧ n' = 8 ^ g 2)) := by
  obtain ⟨⟨q1, q2⟩, ⟨w1, w2, w3⟩, ⟨k1, k2⟩, l1, l2, hn⟩ := id hS
  obtain ⟨s1, s2, s3, s4, s5⟩ := hL
  have q1' : rX q 27 1 = some cm := q1
  have q2' : rX q 27 2 = some qu := q2
  have n1 := (wd27 w1).1
  have n2 := (wd27 w2).1
  have h2 := hW.2.1
  obtain ⟨p81, p82⟩ := p8 (g := g) h2
  have hcml := kK_lt k1 (by decide)
  have hqul := kK_lt k2 (by decide)
  rw [c_Search_forget, b_Search_forget_0]
  refine am_loop (d := d + 1) (y := mSearch_forget) (pc := 2) (fun k ls s => ∃ i1, ls = [.val (.ref 27), .val (.int (nI k))] ∧ s = (i1, l, rX q, kX K) ∧ (∀ c, c ≠ cm → i1 c = i c) ∧ ∀ x, x < n → i1 cm x ≠ nI 0 → ∃ j, k ≤ j ∧ j < L.length ∧ L.getD j 0 = x) L.length (fun rs => ∃ i' l' q' K' cm' qu' n', rs = some (none, (i', l', rX q', kX K')) ∧ SC cm' qu' n' q' K' ∧ SL cm' qu' n' [] i' ∧ i' 27 5 = -nI 1 ∧ 8 ^ g 2 ≤ n' ∧ (∀ k, k ≠ 3 → k ≠ 5 → i' 27 k = i 27 k) ∧ FK [27] [cm, qu] [] [27] i i' l l' q q' K K' ∧ ((cm' = cm ∧ qu' = qu) ∨ (58 + K.length ≤ cm' ∧ 58 + K.length ≤ qu')) ∧ ((K' = K ∧ n' = n) ∨ (K' = (K ++ [(100, 8 ^ g 2)]) ++ [(100, 8 ^ g 2)] ∧ n < 8 ^ g 2 ∧ n' = 8 ^ g 2))) (fun k ls s hk hI => ?_) (fun ls s hI => ?_) ⟨i, rfl, rfl, fun _ _ => rfl, fun x hx hne => by
    obtain ⟨j, hj, he⟩ := mem_getD.mp ((s5 x hx).mp hne)
    exact ⟨j, by omega, hj, he⟩⟩
  · obtain ⟨i1, e1, e2, ho, hx⟩ := hI
    subst e1; subst e2
    have hkn : k < n := by omega
    have hSk := s4 (L.getD k 0) (mem_getD.mpr ⟨k, hk, rfl⟩)
    have hqk : i1 qu k = nI (L.getD k 0) := by rw [ho qu (fun z => w3 z.symm)]; exact s3 k hk
    rw [b_Search_forget_2, ho 27 n1, s1, decide_eq_false (show ¬ nI L.length ≤ nI k from by rw [q_le (by omega) (by omega)]; omega), cond_false, q1', q2']
    dsimp only
    rw [show (Nat.beq (am_kd (i1, l, rX q, kX K) qu) 100 && am_in (nI k) (am_ln (i1, l, rX q, kX K) qu)) = true from by
      rw [show am_kd (i1, l, rX q, kX K) qu = 100 from k2, show am_ln (i1, l, rX q, kX K) qu = n from l2, in16 hkn (by omega)]; rfl, cond_true, nI_clamp (by omega), hqk, show (Nat.beq (am_kd (i1, l, rX q, kX K) cm) 100 && am_in (nI (L.getD k 0)) (am_ln (i1, l, rX q, kX K) cm)) = true from by
      rw [show am_kd (i1, l, rX q, kX K) cm = 100 from k1, show am_ln (i1, l, rX q, kX K) cm = n from l1, in16 hSk (by omega)]; rfl, cond_true, nI_clamp (by omega), show nI k + (1 : Int32) = nI (k + 1) from nI_add k 1]
    refine Go_in ⟨_, rfl, rfl, fun c hc => ?_, fun x hxn hne => ?_⟩
    · funext t
      simp only [am_u2]
      rw [if_neg hc, ho c hc]
    · simp only [am_u2] at hne
      rw [if_pos trivial] at hne
      by_cases c : x = L.getD k 0
      · rw [if_pos c] at hne; exact absurd rfl hne
      · rw [if_neg c] at hne
        obtain ⟨j, j1, j2, j3⟩ := hx x hxn hne
        refine ⟨j, ?_, j2, j3⟩
        by_cases cj : j = k
        · rw [cj] at j3; exact absurd j3.symm c
        · omega
  · obtain ⟨i1, e1, e2, ho, hx⟩ := hI
    subst e1; subst e2
    obtain ⟨i2, hi2⟩ : ∃ i2, am_u2 (am_u2 i1 27 3 (0 : Int32)) 27 5 (-1 : Int32) = i2 := ⟨_, rfl⟩
    have h2o : ∀ c, c ≠ cm → c ≠ 27 → i2 c = i c := fun c c1 c2 => by
      rw [← hi2]
      funext t
      simp only [am_u2]
      rw [if_neg c2, if_neg c2, ho c c1]
    have h2cm : ∀ x, x < n → i2 cm x = nI 0 := fun x hxn => by
      have e : i2 cm x = i1 cm x := by
        rw [← hi2]; simp only [am_u2]; rw [if_neg (fun z => n1 z.symm), if_neg (fun z => n1 z.symm)]
      rw [e]
      apply Classical.byContradiction
      intro hne
      obtain ⟨j, j1, j2, _⟩ := hx x hxn hne
      omega
    have h23 : i2 27 3 = nI 0 := by rw [← hi2]; rfl
    have h25 : i2 27 5 = -nI 1 := by rw [← hi2]; rfl
    have h2k : ∀ k, k ≠ 3 → k ≠ 5 → i2 27 k = i 27 k := fun k k3 k5 => by
      rw [← hi2]
      simp only [am_u2]
      rw [if_pos trivial, if_neg k5, if_pos trivial, if_neg k3, ho 27 n1]
    have hV2 : RV (i2, l, rX q, kX K) r g := RV_mv hV (fun c hc hd _ => ⟨h2o c (by
      rcases hc with hc | ⟨k, k5, k8, hc⟩
      · rw [hc]; exact hN1.1
      · exact hN1.2 k c k5 k8 hc) (by rcases hd with h | h | h | h <;> omega), rfl, rfl⟩) rfl
    have hpl := s_Goings_placings (i := i2) (l := l) (q := q) (K := K) d hq (by rw [hV2.2.1]; rfl) hV2.2.2.2.1 h2
    have hF2 : FK [27] [cm, qu] [] [27] i i2 l l q q K K := ⟨⟨[], by rw [List.append_nil]⟩, fun c _ => ⟨fun z1 z2 => h2o c (fun z => by rw [z] at z2; simp at z2) (fun z => by rw [z] at z1; cases z1), fun _ _ => rfl, fun _ => rfl⟩⟩
    rw [b_Search_forget_2, ho 27 n1, s1, decide_eq_true (show nI L.length ≤ nI L.length from by rw [q_le (by omega) (by omega)]; exact Nat.le_refl _), cond_true, q1']
    dsimp only
    rw [hi2, show (Nat.ble 100 (am_kd (i2, l, rX q, kX K) cm) && Nat.ble (am_kd (i2, l, rX q, kX K) cm) 105) = true from by rw [show am_kd (i2, l, rX q, kX K) cm = 100 from k1]; rfl, cond_true, hpl, am_bd_some, q_app, b_Search_forget_50, show am_ln (i2, l, rX q, kX K) cm = n from l1]
    have hcmp : (nI (8 ^ g 2) ≤ Int32.ofNat n) ↔ 8 ^ g 2 ≤ n := by
      show nI (8 ^ g 2) ≤ nI n ↔ _
      rw [q_le (by omega) (by omega)]
    by_cases c : 8 ^ g 2 ≤ n
    · rw [decide_eq_true (hcmp.mpr c), cond_true, b_Search_forget_79]
      exact ⟨i2, l, q, K, cm, qu, n, rfl, hS, ⟨h23, Nat.zero_le _, fun k hk => absurd hk (Nat.not_lt_zero _), fun x hx => (by cases hx), fun x hxn => (by rw [h2cm x hxn]; simp)⟩, h25, c, h2k, hF2, Or.inl ⟨rfl, rfl⟩, Or.inl ⟨rfl, rfl⟩⟩
    · have hin : (decide ((0 : Int32) ≤ nI (8 ^ g 2)) && Nat.ble (nI (8 ^ g 2)).toNatClampNeg 60000000) = true := by
        rw [nI_clamp (by omega), decide_eq_true (show (0 : Int32) ≤ nI (8 ^ g 2) from by
          show nI 0 ≤ nI (8 ^ g 2)
          rw [q_le (by omega) (by omega)]; omega), Bool.true_and]
        exact Nat.ble_eq_true_of_le (by omega)
      obtain ⟨N0, hN0⟩ : ∃ N0, 58 + K.length = N0 := ⟨_, rfl⟩
      rw [decide_eq_false (fun z => c (hcmp.mp z)), cond_false, hpl, am_bd_some, q_app, b_Search_forget_61, hin, cond_true, nI_clamp (by omega), kX_len, hN0]
      have e270 : am_u1 (rX q) N0 (fun _ => none) 27 0 = some 22 := by
        simp only [am_u1]
        rw [if_neg (by omega)]; rfl
      rw [e270]
      dsimp only
      obtain ⟨i3, hi3⟩ : ∃ i3, am_u1 i2 N0 (fun _ => (0 : Int32)) = i3 := ⟨_, rfl⟩
      obtain ⟨l3, hl3⟩ : ∃ l3, am_u1 l N0 (fun _ => (0 : Int64)) = l3 := ⟨_, rfl⟩
      obtain ⟨q3, hq3⟩ : ∃ q3, am_u2 (am_u1 q N0 (fun _ => none)) 27 1 (some N0) = q3 := ⟨_, rfl⟩
      have eq3 : am_u2 (am_u1 (rX q) N0 (fun _ => none)) 27 1 (some N0) = rX q3 := by
        rw [rX_u1 q _ (by omega), ← hq3]
        exact rX_u2 _ _ rfl
      have hF3 : FK [27] [cm, qu] [] [27] i i3 l l3 q q3 K (K ++ [(100, 8 ^ g 2)]) := by
        refine ⟨⟨_, rfl⟩, fun x hx => ⟨fun z1 z2 => ?_, fun _ _ => ?_, fun z1 => ?_⟩⟩
        · rw [← hi3]
          have : am_u1 i2 N0 (fun _ => (0 : Int32)) x = i2 x := by funext t; simp only [am_u1]; rw [if_neg (by omega)]
          rw [this]; exact (hF2.2 x hx).1 z1 z2
        · rw [← hl3]; funext t; simp only [am_u1]; rw [if_neg (by omega)]
        · have c27 : x ≠ 27 := fun z => by rw [z] at z1; cases z1
          rw [← hq3]; funext t; simp only [am_u2, am_u1]; rw [if_neg c27, if_neg (by omega)]
      have hV3 : RV (i3, l3, rX q3, kX (K ++ [(100, 8 ^ g 2)])) r g := RV_fk hF3 rfl rfl (fun w hw => by
        rcases List.mem_cons.mp hw with h | h
        · rw [h]; exact hN1
        · rw [List.mem_singleton.mp h]; exact hN2) hV
      have hq31 : q3 22 1 = some r := by
        rw [← hq3]; simp only [am_u2, am_u1]; rw [if_neg (by decide), if_neg (by omega)]; exact hq
      have hpl3 := s_Goings_placings (i := i3) (l := l3) (q := q3) (K := K ++ [(100, 8 ^ g 2)]) d hq31 (by rw [hV3.2.1]; rfl) hV3.2.2.2.1 h2
      have hlen2 : 58 + (K ++ [((100 : Nat), 8 ^ g 2)]).length = N0 + 1 := by rw [List.length_append]; simp; omega
      have hkd22 : Nat.beq (am_kd (i3, l3, rX q3, kX (K ++ [(100, 8 ^ g 2)])) 22) 3 = true := rfl
      rw [hi3, hl3, eq3, hkd22, Bool.true_and, cond_true, hpl3, am_bd_some, q_app, b_Search_forget_74, hin, cond_true, nI_clamp (by omega), kX_len, hlen2]
      obtain ⟨i4, hi4⟩ : ∃ i4, am_u1 i3 (N0 + 1) (fun _ => (0 : Int32)) = i4 := ⟨_, rfl⟩
      obtain ⟨q4, hq4⟩ : ∃ q4, am_u2 (am_u1 q3 (N0 + 1) (fun _ => none)) 27 2 (some (N0 + 1)) = q4 := ⟨_, rfl⟩
      have eq4 : am_u2 (am_u1 (rX q3) (N0 + 1) (fun _ => none)) 27 2 (some (N0 + 1)) = rX q4 := by
        rw [rX_u1 q3 _ (by omega), ← hq4]
        exact rX_u2 _ _ rfl
      rw [hi4, eq4, b_Search_forget_79]
      have i4o : ∀ x, x < N0 → i4 x = i2 x := fun x hx => by
        rw [← hi4, ← hi3]
        funext t
        simp only [am_u1]
        rw [if_neg (by omega), if_neg (by omega)]
      have hlast1 : (kX ((K ++ [(100, 8 ^ g 2)]) ++ [(100, 8 ^ g 2)]))[N0]? = some (100, 8 ^ g 2) := by
        rw [← kX_app, List.getElem?_append_left (by rw [kX_len, List.length_append]; simp; omega), ← hN0]
        exact ln_new K _
      have hlast2 : (kX ((K ++ [(100, 8 ^ g 2)]) ++ [(100, 8 ^ g 2)]))[N0 + 1]? = some (100, 8 ^ g 2) := by
        have := ln_new (K ++ [(100, 8 ^ g 2)]) (100, 8 ^ g 2)
        rw [hlen2] at this
        exact this
      refine ⟨i4, _, q4, (K ++ [(100, 8 ^ g 2)]) ++ [(100, 8 ^ g 2)], N0, N0 + 1, 8 ^ g 2, rfl, ⟨⟨?_, ?_⟩, ⟨by unfold WDc; omega, by unfold WDc; omega, by omega⟩, ⟨by unfold kK am_kd; dsimp only; rw [hlast1], by unfold kK am_kd; dsimp only; rw [hlast2]⟩, by unfold lK am_ln; dsimp only; rw [hlast1], by unfold lK am_ln; dsimp only; rw [hlast2], p82⟩, ⟨?_, Nat.zero_le _, fun k hk => absurd hk (Nat.not_lt_zero _), fun x hx => (by cases hx), fun x hxn => ?_⟩, ?_, Nat.le_refl _, fun k k3 k5 => ?_, ⟨⟨[(100, 8 ^ g 2), (100, 8 ^ g 2)], by rw [List.append_assoc]; rfl⟩, fun x hx => ⟨fun z1 z2 => ?_, fun _ _ => ?_, fun z1 => ?_⟩⟩, Or.inr ⟨by omega, by omega⟩, Or.inr ⟨rfl, by omega, rfl⟩⟩
      · rw [← hq4, ← hq3]; simp only [am_u2, am_u1]; rw [if_pos trivial, if_neg (by decide), if_neg (by omega), if_pos trivial, if_pos trivial]
      · rw [← hq4]; simp only [am_u2]; rw [if_pos trivial, if_pos trivial]
      · rw [i4o 27 (by omega)]; exact h23
      · have : i4 N0 x = 0 := by
          rw [← hi4, ← hi3]; simp only [am_u1]; rw [if_neg (by omega), if_pos trivial]
        rw [this]
        exact ⟨fun z => absurd rfl z, fun z => by cases z⟩
      · rw [i4o 27 (by omega)]; exact h25
      · rw [i4o 27 (by omega)]; exact h2k k k3 k5
      · rw [i4o x (by omega)]; exact (hF2.2 x hx).1 z1 z2
      · rw [← hl3]; funext t; simp only [am_u1]; rw [if_neg (by omega), if_neg (by omega)]
      · have c27 : x ≠ 27 := fun z => by rw [z] at z1; cases z1
        rw [← hq4, ← hq3]; funext t; simp only [am_u2, am_u1]; rw [if_neg c27, if_neg (by omega), if_neg c27, if_neg (by omega)]
end
