/-! BOTH: at the start -/
def st0 : St := (pln, fun _ => false, fun _ => 0, 0, 0, -nI 1, fun _ => -nI 1, fun _ => 0, fun _ => 0)
theorem pln_0 {k : Nat} (h1 : k ≠ 1) (h3 : k ≠ 3) : pln k = 0 := by unfold pln; rw [if_neg h1, if_neg h3]
theorem LW_0 (law : Nat) (hl : law < 2) : LW pln law := by
  have e : pln (4 + law) = 0 := pln_0 (by omega) (by omega)
  exact ⟨by rw [e]; decide, fun z => absurd e z⟩
theorem WG_0 : WG pln := by
  have hn : sNow pln 4 = 0 := by decide
  have hd : ∀ p, p < 4 → dg 0 p = 0 := by decide
  refine ⟨by decide, by decide, by decide, fun p hp => ?_, fun p hp => ?_, fun p hp => ?_, fun p hp => ?_, fun p hp => ?_, LW_0 0 (by decide), LW_0 1 (by decide), ?_⟩
  · rw [pln_0 (by omega) (by omega)]; decide
  · rw [pln_0 (by omega) (by omega)]; decide
  · rw [pln_0 (by omega) (by omega)]; decide
  · rw [pln_0 (by omega) (by omega)]; decide
  · rw [pln_0 (by omega) (by omega)]; decide
  · rw [hn]
    refine ⟨fun p hp => by rw [hd p hp]; exact Nat.zero_le _, fun p q hp hq hne hs => ?_, fun p _ hp => hd p hp⟩
    rw [hd p hp] at hs
    exact absurd hs (by decide)
theorem SI_0 : SI st0 := by
  have e32 : pln 32 = 0 := pln_0 (by decide) (by decide)
  refine ⟨WG_0, ⟨by show pln 32 ≤ 10; rw [e32]; decide, fun n hn => ?_⟩, fun x hx h => (by cases h), fun t ht => ⟨by show (0 : Nat) ≤ 40; decide, Or.inl rfl⟩, by show (0 : Nat) ≤ 900; decide, fun k hk => absurd hk (Nat.not_lt_zero _)⟩
  have hn : n < pln 32 := hn
  rw [e32] at hn
  exact absurd hn (Nat.not_lt_zero _)
theorem RM_0 {w : Nat → Nat} (h : ∀ k, k < 14 → w k = 0) : RM 0 w := by
  refine ⟨by decide, fun p hp => ?_, fun p hp => ?_, fun p hp => ?_⟩
  · rw [h p (by omega)]; unfold dg; rw [Nat.zero_div]
  · rw [h _ (by omega), stm_fld]; unfold fld; simp
  · rw [h _ (by omega), dpm_fld]; unfold fld; simp
section
variable {i : Nat → Nat → Int32} {l : Nat → Nat → Int64} {q : Nat → Nat → Option Nat}
theorem ms0 (h : mok i l q = true) (h1 : ∀ k, k < 3222 → i 1 k = nI (pln k)) : MS i l st0 ∧ ∀ a k, a < 25 → k < 44 → rM a k = q a k := by
  unfold mok at h
  simp only [Bool.and_eq_true, List.all_eq_true, List.mem_range, decide_eq_true_eq] at h
  obtain ⟨⟨⟨⟨a1, a2⟩, ⟨a3, a4⟩, a5⟩, a6⟩, a7⟩ := h
  exact ⟨⟨h1, a2, fun k _ hk => absurd hk (Nat.not_lt_zero _), a3, a4, a5, fun t ht => (a6 t ht).1, fun t ht => (a6 t ht).2, a7⟩, fun a k ha hk => a1 a ha k hk⟩
theorem xs0 (h : xok i l q = true) : XS 0 st0 i l q [] ∧ ∀ a k, a < 58 → k < 16 → rX q a k = q a k := by
  unfold xok at h
  simp only [Bool.and_eq_true, List.all_eq_true, List.mem_range, decide_eq_true_eq] at h
  obtain ⟨⟨⟨⟨⟨⟨⟨⟨⟨⟨⟨a1, ⟨⟨⟨b1, b2⟩, b3⟩, b4⟩, b5⟩, ⟨⟨c1, c2⟩, c3⟩, c4⟩, d1⟩, ⟨⟨e1, e2⟩, e3⟩, e4⟩, f1⟩, ⟨⟨g1, g2⟩, g3⟩, g4⟩, ⟨⟨h1, h2⟩, h3⟩, h4⟩, ⟨⟨k1, k2⟩, k3⟩, k4⟩, ⟨⟨m1, m2⟩, m3⟩, m4⟩, ⟨⟨n1, n2⟩, n3⟩, n4⟩, ⟨p1, p2⟩, p3⟩ := h
  refine ⟨?_, fun a k ha hk => a1 a ha k hk⟩
  have e32 : pln 32 = 0 := pln_0 (by decide) (by decide)
  have hcur : ∀ k, k < 14 → gCur pln k = 0 := fun k hk => by unfold gCur; exact pln_0 (by omega) (by omega)
  have hV : RV (i, l, rX q, kX []) 7 pln := by
    refine ⟨Or.inl rfl, rfl, c1, c2, c3, c4, ⟨8, b2, rfl, rfl, Or.inr (Or.inl rfl), fun p hp => ?_⟩, ⟨9, b3, rfl, rfl, Or.inr (Or.inr (Or.inl rfl)), fun p hp => ?_⟩, ⟨fun _ => b4, fun z => absurd (pln_0 (by decide) (by decide)) z⟩, ⟨fun _ => b5, fun z => absurd (pln_0 (by decide) (by decide)) z⟩⟩
    · rw [pln_0 (by omega) (by omega)]; exact (d1 p hp).1
    · rw [pln_0 (by omega) (by omega)]; exact (d1 p hp).2
  obtain ⟨W, hW⟩ : ∃ W : Nat → Nat, W = fun k => if k = 0 then 26 else if k = 1 then 28 else if k = 2 then 29 else if k < 7 then 28 + k else 29 + k := ⟨_, rfl⟩
  have w0 : W 0 = 26 := by rw [hW]; rfl
  have w1 : W 1 = 28 := by rw [hW]; rfl
  have w2 : W 2 = 29 := by rw [hW]; rfl
  have w3 : W 3 = 31 := by rw [hW]; rfl
  have w4 : W 4 = 32 := by rw [hW]; rfl
  have w5 : W 5 = 33 := by rw [hW]; rfl
  have w6 : W 6 = 34 := by rw [hW]; rfl
  have w7 : W 7 = 36 := by rw [hW]; rfl
  have w8 : W 8 = 37 := by rw [hW]; rfl
  have w9 : W 9 = 38 := by rw [hW]; rfl
  have hO : WO W := by
    constructor
    · intro k hk
      rcases (show k = 0 ∨ k = 1 ∨ k = 2 ∨ k = 3 ∨ k = 4 ∨ k = 5 ∨ k = 6 ∨ k = 7 ∨ k = 8 ∨ k = 9 by omega) with rfl | rfl | rfl | rfl | rfl | rfl | rfl | rfl | rfl | rfl <;> unfold WDc <;> omega
    · intro a b ha hb hab
      rw [hW] at hab
      dsimp only at hab
      have key : ∀ a, a < 10 → ∀ b, b < 10 → (if a = 0 then 26 else if a = 1 then 28 else if a = 2 then 29 else if a < 7 then 28 + a else 29 + a) = (if b = 0 then 26 else if b = 1 then 28 else if b = 2 then 29 else if b < 7 then 28 + b else 29 + b) → a = b := by decide
      exact key a ha b hb hab
  have hXG : XGs (fun _ => pln) W 0 i l q [] := by
    refine ⟨⟨pln, ⟨23, k1, rfl, by rw [w0]; exact k2, k4, ⟨hO.1 0 (by decide), by rw [w0]; rfl, by rw [w0]; decide⟩, Or.inl k3⟩, 0, ⟨⟨by rw [w1, w2]; exact ⟨m1, m2⟩, ⟨hO.1 1 (by decide), hO.1 2 (by decide), by rw [w1, w2]; decide⟩, by rw [w1, w2]; exact ⟨rfl, rfl⟩, by rw [w1]; rfl, by rw [w2]; rfl, by decide⟩, ⟨[], ⟨m3, Nat.le_refl _, fun k hk => absurd hk (Nat.not_lt_zero _), fun x hx => (by cases hx), fun x hx => absurd hx (Nat.not_lt_zero _)⟩, fun z => ?_⟩, Or.inl m4⟩⟩, ?_, ?_, hO⟩
    · rw [m4] at z
      exact absurd z (by decide)
    · rw [XRw, w3, w4, w5, w6]
      exact ⟨⟨n1, n2, n3, n4⟩, ⟨rfl, rfl, rfl, rfl⟩, 0, by decide, ⟨rfl, rfl, rfl, rfl⟩, fun k hk => absurd hk (Nat.not_lt_zero _)⟩
    · rw [XFo, w7, w8, w9]
      exact ⟨⟨p1, p2, p3⟩, ⟨rfl, rfl, rfl⟩, 0, by decide, rfl, rfl, rfl⟩
  have hq7 : ∀ k x, 5 ≤ k → k ≤ 8 → rX q 7 k = some x → x = 8 ∨ x = 9 := fun k x hk5 hk8 hx => by
    rcases (show k = 5 ∨ k = 6 ∨ k = 7 ∨ k = 8 by omega) with rfl | rfl | rfl | rfl
    · rw [show rX q 7 5 = some 8 from b2] at hx; injection hx with hx; omega
    · rw [show rX q 7 6 = some 9 from b3] at hx; injection hx with hx; omega
    · rw [show rX q 7 7 = none from b4] at hx; cases hx
    · rw [show rX q 7 8 = none from b5] at hx; cases hx
  have z0 : (0 : Int32).toBitVec.getLsbD = fun _ => false := by funext j; simp
  refine ⟨fun _ => pln, W, 0, 7, 0, ⟨b1, hV, WG_0, gE_refl _, e1, RM_0 hcur⟩, ⟨by show i 0 5 = nI (pln 32); rw [e32]; exact e2, fun n hn => ?_⟩, fun x hx => ⟨fun _ => ?_, fun z => (by cases z)⟩, fun t ht => ⟨fun _ => f1 t ht, fun z => absurd rfl z⟩, ⟨g1, fun k hk => absurd hk (Nat.not_lt_zero _), g2, g3⟩, ⟨15, 0, pln, ⟨h1, h2, RM_0 hcur, fun z => absurd (pln_0 (by decide) (by decide)) z, fun p x b w hp hx1 hx6 hb hw hbit => ?_⟩, rfl, gE_refl _, LW_0 0 (by decide), LW_0 1 (by decide)⟩, hXG, fun k hk => ⟨?_, fun j x hj5 hj8 hx => ?_⟩, fun x r' hx hq => ?_, Nat.le_refl _, ⟨0, by decide, g4⟩, SI_0, ⟨Nat.zero_le _, Nat.zero_le _⟩⟩
  · have hn : n < pln 32 := hn
    rw [e32] at hn; exact absurd hn (Nat.not_lt_zero _)
  · rcases (show x = 0 ∨ x = 1 by omega) with rfl | rfl
    · exact e3
    · exact e4
  · rw [h4 _ (by omega), z0] at hbit
    cases hbit
  · have := hO.1 k hk
    unfold WDc at this
    omega
  · have := hO.1 k hk
    have := hq7 j x hj5 hj8 hx
    unfold WDc at *
    omega
  · exfalso
    rcases (show x = 0 ∨ x = 1 by omega) with rfl | rfl
    · rw [e3] at hq; cases hq
    · rw [e4] at hq; cases hq
end
