/-! THE CLASS: the reader as a whole, small steps -/
section
variable {i i' i'' : Nat → Nat → Int32} {l l' : Nat → Nat → Int64} {q q' : Nat → Nat → Option Nat} {K K' : List (Nat × Nat)} {B : Nat → Nat} {N M w o : Nat} {s : PS}
/-- all that the reader keeps -/
def RB (B : Nat → Nat) (N M w o : Nat) (i : Nat → Nat → Int32) (s : PS) : Prop := BY B N i ∧ TKs B N M i ∧ RD B N M i s ∧ RC o i s ∧ CB B N s ∧ i 5 6 = nI (143 + w)
/-- what it touches -/
def RFz (i i' : Nat → Nat → Int32) : Prop := (∀ c, c ≠ 5 → c ≠ 6 → i' c = i c) ∧ ∀ k, k ≠ 1 → k ≠ 2 → k ≠ 3 → k ≠ 4 → k ≠ 8 → i' 5 k = i 5 k
/-- codes less tokens grow by no more than k -/
def Bu (k : Int) (i i' : Nat → Nat → Int32) : Prop := (i' 5 8).toInt - (i' 5 1).toInt ≤ (i 5 8).toInt - (i 5 1).toInt + k ∧ ((i 5 1).toInt ≤ 900 → (i' 5 1).toInt ≤ 900)
def RFr (k : Int) (i i' : Nat → Nat → Int32) : Prop := RFz i i' ∧ Bu k i i'
theorem Bu_same (h8 : i' 5 8 = i 5 8) (h1 : i' 5 1 = i 5 1) : Bu 0 i i' := by unfold Bu; rw [h8, h1]; omega
theorem RFr_refl : RFr 0 i i := ⟨⟨fun _ _ _ => rfl, fun _ _ _ _ _ _ => rfl⟩, Bu_same rfl rfl⟩
theorem RFr_tr {a b : Int} (h1 : RFr a i i') (h2 : RFr b i' i'') : RFr (a + b) i i'' := ⟨⟨fun c a b => (h2.1.1 c a b).trans (h1.1.1 c a b), fun k a b c d e => (h2.1.2 k a b c d e).trans (h1.1.2 k a b c d e)⟩, by have := h1.2.1; have := h2.2.1; omega, fun z => h2.2.2 (h1.2.2 z)⟩
theorem RFr_mo {a b : Int} (h1 : RFr a i i') (h : a ≤ b) : RFr b i i' := ⟨h1.1, by have := h1.2.1; omega, h1.2.2⟩
theorem RB_fr (h : RFz i i') (hB : BY B N i) (hT : TKs B N M i) (h6 : i 5 6 = nI (143 + w)) : BY B N i' ∧ TKs B N M i' ∧ i' 5 6 = nI (143 + w) := by
  obtain ⟨a, b⟩ := h
  unfold BY TKs at *
  rw [a 1 (by decide) (by decide), a 2 (by decide) (by decide), a 3 (by decide) (by decide), a 4 (by decide) (by decide), b 6 (by decide) (by decide) (by decide) (by decide) (by decide)]
  exact ⟨hB, hT, h6⟩
theorem RC_of {t : PS} (h5 : i' 5 8 = i 5 8) (h6 : i' 6 = i 6) (e1 : t.1 = 0 → s.1 = 0 ∧ t.2.2.2 = s.2.2.2) (h4 : t.1 = 0 → i' 5 4 = i 5 4) (h : RC o i s) : RC o i' t := by
  obtain ⟨a, b, c⟩ := h
  refine ⟨by rw [h5]; exact a, fun z => ?_, fun z => by rw [h4 z]; exact c (e1 z).1⟩
  obtain ⟨z1, z2⟩ := e1 z
  rw [z2, h5, h6]
  exact b z1
theorem Bu_adv (hT : TKs B N M i) (hR : RD B N M i s) (h0 : s.1 = 0) (hR1 : RD B N M i' (nxS s)) (h8 : i' 5 8 = i 5 8) : Bu (-1) i i' := by
  have hM := hT.1
  have e1 := (hR.2.2.2 h0).2.1
  have e2 : i' 5 1 = nI (s.2.2.1 + 1) := (hR1.2.2.2 h0).2.1
  have e3 : s.2.2.1 + 1 ≤ M := (hR1.2.2.2 h0).1
  unfold Bu
  rw [h8, e1, e2, nI_toInt (by omega), nI_toInt (by omega)]
  omega
/-- one on -/
theorem b_adv (d : Nat) (h : RB B N M w o i s) (h0 : s.1 = 0) (hk : kj B N s.2.2.1 ≠ 24) : ∃ i', am_cl (d + 1) mReader_advance [.ref 5] (i, l, rX q, kX K) = some (none, (i', l, rX q, kX K)) ∧ RB B N M w o i' (nxS s) ∧ RFr (-1) i i' := by
  obtain ⟨hB, hT, hR, hC, hc, h6⟩ := h
  obtain ⟨i1, e1, hR1, ho, hk1⟩ := y_adv (l := l) (q := q) (K := K) d hT hR h0 hk
  have hf : RFz i i1 := ⟨fun c a _ => ho c a, fun k a b _ _ _ => hk1 k a b⟩
  obtain ⟨b1, b2, b3⟩ := RB_fr hf hB hT h6
  exact ⟨i1, e1, ⟨b1, b2, hR1, RC_of (hk1 8 (by decide) (by decide)) (ho 6 (by decide)) (fun z => ⟨z, rfl⟩) (fun _ => hk1 4 (by decide) (by decide)) hC, Pg_cb (Pg_nx hc hk) hc, b3⟩, hf, Bu_adv hT hR h0 hR1 (hk1 8 (by decide) (by decide))⟩
/-- a fault -/
theorem b_ref (d : Nat) {k : Nat} (hk1 : 1 ≤ k) (hk4 : k ≤ 4) (h : RB B N M w o i s) : ∃ i', am_cl (d + 1) mReader_refuse [.ref 5, .int (nI k)] (i, l, rX q, kX K) = some (none, (i', l, rX q, kX K)) ∧ RB B N M w o i' (flS B N k s) ∧ RFr 0 i i' := by
  obtain ⟨hB, hT, hR, hC, hc, h6⟩ := h
  obtain ⟨i1, e1, hR1, ho, hk'⟩ := y_ref (l := l) (q := q) (K := K) d hk1 hk4 hT hR
  have hf : RFz i i1 := ⟨fun c a _ => ho c a, fun k _ b c d _ => hk' k b c d⟩
  obtain ⟨b1, b2, b3⟩ := RB_fr hf hB hT h6
  have hne : (flS B N k s).1 ≠ 0 := by
    unfold flS
    by_cases h0 : s.1 = 0
    · rw [if_pos h0]
      show (if kj B N s.2.2.1 = 25 then 1 else k) ≠ 0
      split <;> omega
    · rw [if_neg h0]; exact h0
  exact ⟨i1, e1, ⟨b1, b2, hR1, RC_of (hk' 8 (by decide) (by decide) (by decide)) (ho 6 (by decide)) (fun z => absurd z hne) (fun z => absurd z hne) hC, fun z => absurd z hne, b3⟩, hf, Bu_same (hk' 8 (by decide) (by decide) (by decide)) (hk' 1 (by decide) (by decide) (by decide))⟩
theorem Bu_em (hcc : ∃ c c', c' ≤ c + 1 ∧ c ≤ 900 ∧ c' ≤ 900 ∧ i 5 8 = nI c ∧ i' 5 8 = nI c') (h1 : i' 5 1 = i 5 1) : Bu 1 i i' := by
  obtain ⟨c, c', a1, a2, a3, a4, a5⟩ := hcc
  unfold Bu
  rw [a4, a5, h1, nI_toInt (by omega), nI_toInt (by omega)]
  omega
/-- a code, and one on -/
theorem b_ea (d : Nat) {c : Nat} (h : RB B N M w o i s) (h0 : s.1 = 0) (hk : kj B N s.2.2.1 ≠ 24) : ∃ i1 i2, am_cl (d + 1) mReader_emit [.ref 5, .int (tc c)] (i, l, rX q, kX K) = some (none, (i1, l, rX q, kX K)) ∧ am_cl (d + 1) mReader_advance [.ref 5] (i1, l, rX q, kX K) = some (none, (i2, l, rX q, kX K)) ∧ RB B N M w o i2 (nxS (cdS c s)) ∧ RFr 0 i i2 := by
  obtain ⟨hB, hT, hR, hC, hc, h6⟩ := h
  have hN := hB.1
  obtain ⟨i1, e1, hC1, ho1, hk1, hcc⟩ := y_emit (l := l) (q := q) (K := K) (c := c) d hC (fun z => by
    have h1 := hc z
    have h2 := (nx_pj hc h0 hk).2
    omega)
  have hf1 : RFz i i1 := ⟨fun c a b => ho1 c a b, fun k _ _ _ _ e => hk1 k e⟩
  obtain ⟨b1, b2, b3⟩ := RB_fr hf1 hB hT h6
  have es : (cdS c s).1 = s.1 ∧ (cdS c s).2.1 = s.2.1 ∧ (cdS c s).2.2.1 = s.2.2.1 := by
    unfold cdS; rw [if_pos h0]; exact ⟨rfl, rfl, rfl⟩
  have hR1 : RD B N M i1 (cdS c s) := by
    unfold RD at hR ⊢
    rw [es.1, es.2.1, es.2.2, hk1 1 (by decide), hk1 2 (by decide), hk1 3 (by decide), hk1 4 (by decide)]
    exact hR
  obtain ⟨i2, e2, hR2, ho2, hk2⟩ := y_adv (l := l) (q := q) (K := K) d b2 hR1 (by rw [es.1]; exact h0) (by rw [es.2.2]; exact hk)
  have hf2 : RFz i1 i2 := ⟨fun c a _ => ho2 c a, fun k a b _ _ _ => hk2 k a b⟩
  obtain ⟨c1, c2, c3⟩ := RB_fr hf2 b1 b2 b3
  exact ⟨i1, i2, e1, e2, ⟨c1, c2, hR2, RC_of (hk2 8 (by decide) (by decide)) (ho2 6 (by decide)) (fun z => ⟨z, rfl⟩) (fun _ => hk2 4 (by decide) (by decide)) hC1, Pg_cb (Pg_cn hc hk) hc, c3⟩, RFr_tr (a := 1) (b := -1) ⟨hf1, Bu_em hcc (hk1 1 (by decide))⟩ ⟨hf2, Bu_adv b2 hR1 (by rw [es.1]; exact h0) hR2 (hk2 8 (by decide) (by decide))⟩⟩
end
