/-! THE CLASS: the reader's small steps -/
/-- kinds that there are -/
def okK (k : Nat) : Bool := decide (k < 20 ∨ (22 ≤ k ∧ k < 26) ∨ (30 ≤ k ∧ k < 42))
theorem ct_inj : ∀ k, k < 42 → ∀ j, j < 42 → okK k = true → okK j = true → ct k = ct j → k = j := by decide +kernel
theorem ct_lt : ∀ k, k < 42 → ct k < 200 := by decide +kernel
theorem sgK_ok (c : Nat) : ∀ n, n ≤ 12 → okK (sgK c n) = true
  | 0, _ => rfl
  | n + 1, h => by
    rw [sgK]
    split
    · exact decide_eq_true (Or.inr (Or.inr ⟨by omega, by omega⟩))
    · exact sgK_ok c n (by omega)
section
variable {i i' : Nat → Nat → Int32} {l l' : Nat → Nat → Int64} {q q' : Nat → Nat → Option Nat} {K K' : List (Nat × Nat)} {B : Nat → Nat} {N M : Nat} {s : PS}
theorem kj_ok (B : Nat → Nat) (N j : Nat) : okK (kj B N j) = true := by
  unfold kj knd
  split
  · rfl
  · split
    · unfold key
      cases h : ff (mtc B (aj B N j) (te B N (aj B N j))) 20 0 with
      | none => rfl
      | some n =>
        obtain ⟨_, k2, _, _⟩ := ff_some h
        exact decide_eq_true (Or.inl (by show n < 20; omega))
    · split
      · split <;> rfl
      · exact sgK_ok _ 12 (Nat.le_refl _)
theorem ok_lt {k : Nat} (h : okK k = true) : k < 42 := by
  have := of_decide_eq_true h
  omega
theorem ct_eq {k j : Nat} (hk : okK k = true) (hj : okK j = true) : (nI (ct k) = nI (ct j)) = (k = j) := by
  have h1 := ct_lt k (ok_lt hk)
  have h2 := ct_lt j (ok_lt hj)
  rw [q_eq (by omega) (by omega)]
  exact propext ⟨ct_inj k (ok_lt hk) j (ok_lt hj) hk hj, fun e => by rw [e]⟩
/-- the tokens as they lie -/
def TKs (B : Nat → Nat) (N M : Nat) (i : Nat → Nat → Int32) : Prop := M ≤ 900 ∧ kj B N M = 24 ∧ i 1 5 = nI (M + 1) ∧ ∀ j, j < M + 1 → i 3 j = nI (ct (kj B N j)) ∧ i 4 j = nI (aj B N j)
/-- where the reader is -/
def RD (B : Nat → Nat) (N M : Nat) (i : Nat → Nat → Int32) (s : PS) : Prop := i 5 3 = nI s.1 ∧ s.1 ≤ 4 ∧ (s.1 ≠ 0 → i 5 4 = nI s.2.1 ∧ i 5 2 = nI 1) ∧ (s.1 = 0 → s.2.2.1 ≤ M ∧ i 5 1 = nI s.2.2.1 ∧ i 5 2 = nI (ct (kj B N s.2.2.1)))
theorem y_adv (d : Nat) (hT : TKs B N M i) (hR : RD B N M i s) (h0 : s.1 = 0) (hk : kj B N s.2.2.1 ≠ 24) : ∃ i', am_cl (d + 1) mReader_advance [.ref 5] (i, l, rX q, kX K) = some (none, (i', l, rX q, kX K)) ∧ RD B N M i' (nxS s) ∧ (∀ c, c ≠ 5 → i' c = i c) ∧ ∀ k, k ≠ 1 → k ≠ 2 → i' 5 k = i 5 k := by
  obtain ⟨hM, hkM, h15, htk⟩ := hT
  obtain ⟨r1, r2, r3, r4⟩ := hR
  obtain ⟨hj, r5, r6⟩ := r4 h0
  have hlt : s.2.2.1 < M := by
    by_cases c : s.2.2.1 = M
    · rw [c] at hk; exact absurd hkM hk
    · omega
  rw [c_Reader_advance, b_Reader_advance_0, r1, h0, show decide (¬ nI 0 = (0 : Int32)) = false from rfl, cond_false, h15, r5, show nI s.2.2.1 + (1 : Int32) = nI (s.2.2.1 + 1) from nI_add _ 1, decide_eq_false (show ¬ nI (M + 1) ≤ nI (s.2.2.1 + 1) from by rw [q_le (by omega) (by omega)]; omega), cond_false, in16 (show s.2.2.1 + 1 < 901 by omega) (by decide), cond_true, nI_clamp (by omega), (htk _ (by omega)).1, b_Reader_advance_49]
  refine ⟨_, rfl, ⟨?_, r2, fun z => absurd h0 z, fun _ => ⟨by show s.2.2.1 + 1 ≤ M; omega, ?_, ?_⟩⟩, fun c hc => ?_, fun k k1 k2 => ?_⟩
  · simp [am_u2]; exact r1
  · simp [am_u2]; rfl
  · simp [am_u2]; rfl
  · funext t; unfold am_u2; rw [if_neg hc, if_neg hc]
  · unfold am_u2; rw [if_pos rfl, if_neg k2, if_pos rfl, if_neg k1]
theorem y_adv_f (d : Nat) (hR : RD B N M i s) (h0 : s.1 ≠ 0) : am_cl (d + 1) mReader_advance [.ref 5] (i, l, rX q, kX K) = some (none, (i, l, rX q, kX K)) := by
  obtain ⟨r1, r2, r3, r4⟩ := hR
  rw [c_Reader_advance, b_Reader_advance_0, r1, decide_eq_true (show ¬ nI s.1 = (0 : Int32) from by
    show ¬ nI s.1 = nI 0
    rw [q_eq (by omega) (by omega)]; exact h0), cond_true, b_Reader_advance_49]
theorem y_ref (d : Nat) {k : Nat} (hk1 : 1 ≤ k) (hk4 : k ≤ 4) (hT : TKs B N M i) (hR : RD B N M i s) : ∃ i', am_cl (d + 1) mReader_refuse [.ref 5, .int (nI k)] (i, l, rX q, kX K) = some (none, (i', l, rX q, kX K)) ∧ RD B N M i' (flS B N k s) ∧ (∀ c, c ≠ 5 → i' c = i c) ∧ ∀ k, k ≠ 2 → k ≠ 3 → k ≠ 4 → i' 5 k = i 5 k := by
  obtain ⟨hM, hkM, h15, htk⟩ := hT
  obtain ⟨r1, r2, r3, r4⟩ := id hR
  rw [c_Reader_refuse, b_Reader_refuse_0, r1]
  unfold flS
  by_cases h0 : s.1 = 0
  · obtain ⟨hj, r5, r6⟩ := r4 h0
    have e1 : ¬ (nI (ct (kj B N s.2.2.1)) = (1 : Int32)) ↔ ¬ kj B N s.2.2.1 = 25 := by
      have := ct_eq (kj_ok B N s.2.2.1) (show okK 25 = true from rfl)
      show ¬ (nI (ct (kj B N s.2.2.1)) = nI (ct 25)) ↔ _
      rw [this]
    have fin : ∀ x, x = (if kj B N s.2.2.1 = 25 then 1 else k) → ∃ i', am_Ex d mReader_refuse 21 [.val (.ref 5), .val (.int (nI k))] [.int (nI x), .ref 5] (i, l, rX q, kX K) = some (none, (i', l, rX q, kX K)) ∧ RD B N M i' (if kj B N s.2.2.1 = 25 then 1 else k, aj B N s.2.2.1, s.2.2) ∧ (∀ c, c ≠ 5 → i' c = i c) ∧ ∀ k, k ≠ 2 → k ≠ 3 → k ≠ 4 → i' 5 k = i 5 k := fun x hx => by
      have hx1 : 1 ≤ x ∧ x ≤ 4 := by rw [hx]; split <;> omega
      rw [← hx, b_Reader_refuse_21, r5, in16 (show s.2.2.1 < 901 by omega) (by decide), cond_true, nI_clamp (by omega), (htk _ (by omega)).2, b_Reader_refuse_40]
      refine ⟨_, rfl, ⟨?_, hx1.2, fun _ => ⟨?_, ?_⟩, fun z => ?_⟩, fun c hc => ?_, fun k k2 k3 k4 => ?_⟩
      · simp [am_u2]
      · simp [am_u2]
      · simp [am_u2]; rfl
      · have z : x = 0 := z
        omega
      · funext t; unfold am_u2; rw [if_neg hc, if_neg hc, if_neg hc]
      · unfold am_u2; rw [if_pos rfl, if_neg k2, if_pos rfl, if_neg k4, if_pos rfl, if_neg k3]
    rw [if_pos h0, h0, show decide (¬ nI 0 = (0 : Int32)) = false from rfl, cond_false, r6]
    by_cases c : kj B N s.2.2.1 = 25
    · rw [decide_eq_false (fun z => e1.mp z c), cond_false]
      exact fin 1 (by rw [if_pos c])
    · rw [decide_eq_true (e1.mpr c), cond_true]
      exact fin k (by rw [if_neg c])
  · rw [if_neg h0, decide_eq_true (show ¬ nI s.1 = (0 : Int32) from by
      show ¬ nI s.1 = nI 0
      rw [q_eq (by omega) (by omega)]; exact h0), cond_true, b_Reader_refuse_40]
    refine ⟨_, rfl, ⟨?_, r2, fun z => ⟨?_, ?_⟩, fun z => absurd z h0⟩, fun c hc => ?_, fun k k2 k3 k4 => ?_⟩
    · simp [am_u2]; exact r1
    · simp [am_u2]; exact (r3 z).1
    · simp [am_u2]; rfl
    · funext t; unfold am_u2; rw [if_neg hc]
    · unfold am_u2; rw [if_pos rfl, if_neg k2]
/-- one token is wanted -/
theorem y_exp (d : Nat) {k0 : Nat} (hk0 : okK k0 = true) (h24 : k0 ≠ 24) (h25 : k0 ≠ 25) (hT : TKs B N M i) (hR : RD B N M i s) : ∃ i', am_cl (d + 2) mReader_expect [.ref 5, .int (nI (ct k0))] (i, l, rX q, kX K) = some (none, (i', l, rX q, kX K)) ∧ RD B N M i' (if isS B N k0 s = true then nxS s else flS B N 2 s) ∧ (∀ c, c ≠ 5 → i' c = i c) ∧ ∀ k, k ≠ 1 → k ≠ 2 → k ≠ 3 → k ≠ 4 → i' 5 k = i 5 k := by
  obtain ⟨r1, r2, r3, r4⟩ := id hR
  have htok : decide (¬ i 5 2 = nI (ct k0)) = !isS B N k0 s := by
    unfold isS
    by_cases h0 : s.1 = 0
    · rw [(r4 h0).2.2, decide_not]
      congr 1
      apply decide_eq_decide.mpr
      rw [ct_eq (kj_ok B N s.2.2.1) hk0]
      exact ⟨fun z => ⟨h0, z⟩, fun z => z.2⟩
    · rw [(r3 h0).2, decide_eq_false (show ¬ (s.1 = 0 ∧ _) from fun z => h0 z.1)]
      apply decide_eq_true
      show ¬ nI (ct 25) = nI (ct k0)
      rw [ct_eq rfl hk0]
      exact fun z => h25 z.symm
  rw [c_Reader_expect, b_Reader_expect_0, htok]
  cases hs : isS B N k0 s with
  | true =>
    have hss := of_decide_eq_true hs
    obtain ⟨i1, e1, hR1, ho, hk⟩ := y_adv (l := l) (q := q) (K := K) d hT hR hss.1 (by rw [hss.2]; exact h24)
    rw [show (!true) = false from rfl, cond_false, e1, am_bd_some, q_app0, b_Reader_expect_12, b_Reader_expect_20, if_pos rfl]
    exact ⟨i1, rfl, hR1, ho, fun k k1 k2 _ _ => hk k k1 k2⟩
  | false =>
    obtain ⟨i1, e1, hR1, ho, hk⟩ := y_ref (l := l) (q := q) (K := K) d (k := 2) (by decide) (by decide) hT hR
    rw [show (!false) = true from rfl, cond_true, show (2 : Int32) = nI 2 from rfl, e1, am_bd_some, q_app0, b_Reader_expect_20, if_neg (by decide)]
    exact ⟨i1, rfl, hR1, ho, fun k _ k2 k3 k4 => hk k k2 k3 k4⟩
end
