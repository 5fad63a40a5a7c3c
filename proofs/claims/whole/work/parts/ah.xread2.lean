/-! THE CLASS: numbers of the tape, codes -/
section
variable {i i' : Nat → Nat → Int32} {l l' : Nat → Nat → Int64} {q q' : Nat → Nat → Option Nat} {K K' : List (Nat × Nat)} {B : Nat → Nat} {N M : Nat} {s : PS}
theorem sb_num : ∀ b, b < 58 → 48 ≤ b → sb b = nI b := by decide +kernel
theorem s_numberAt (d : Nat) {j : Nat} (hB : BY B N i) (hT : TKs B N M i) (hj : j < M + 1) (hk : kj B N j = 23) : am_cl (d + 2) mTape_numberAt [.ref 1, .int (nI j)] (i, l, rX q, kX K) = some (some (.int (nI (uj B N j))), (i, l, rX q, kX K)) := by
  obtain ⟨hM, hkM, h15, htk⟩ := hT
  have hN := hB.1
  obtain ⟨a, ha⟩ : ∃ a, aj B N j = a := ⟨_, rfl⟩
  have h4 := (htk j hj).2
  rw [ha] at h4
  -- a number begins there
  have hknd : knd B N a = 23 := by rw [← ha]; exact hk
  have haN : a < N := by
    unfold knd at hknd
    by_cases c : N ≤ a
    · rw [if_pos c] at hknd; cases hknd
    · omega
  have hte := te_le (B := B) (N := N) (a := a) (by omega)
  have hnl : ¬ isL B a = true := fun z => by
    unfold knd at hknd
    rw [if_neg (by omega), if_pos z] at hknd
    unfold key at hknd
    cases h : ff (mtc B a (te B N a)) 20 0 with
    | none => rw [h] at hknd; cases hknd
    | some n =>
      obtain ⟨_, k2, _, _⟩ := ff_some h
      rw [h] at hknd
      have : n = 23 := hknd
      omega
  have hd : isD B a = true := by
    cases h : isD B a with
    | true => rfl
    | false =>
      exfalso
      unfold knd at hknd
      rw [if_neg (by omega), if_neg hnl, if_neg (by rw [h]; decide)] at hknd
      have h1 := sgK_ok (B a) 12 (Nat.le_refl _)
      have : ∀ c n, sgK c n = 25 ∨ 30 ≤ sgK c n := fun c n => by
        induction n with
        | zero => exact Or.inl rfl
        | succ n ih => rw [sgK]; split
                       · exact Or.inr (by omega)
                       · exact ih
      have := this (B a) 12
      omega
  have hteD : te B N a = rn (isD B) N a := by unfold te; rw [if_neg (by omega), if_neg hnl, if_pos hd]
  have h3 : te B N a - a ≤ 3 := by
    unfold knd at hknd
    rw [if_neg (by omega), if_neg hnl, if_pos hd] at hknd
    by_cases c : 3 < te B N a - a
    · rw [if_pos c] at hknd; cases hknd
    · omega
  obtain ⟨n1, n2, n3, n4⟩ := rn_is (P := isD B) (N := N) (k := a) (by omega)
  rw [← hteD] at n1 n2 n3 n4
  have hu : uj B N j = nm B a (te B N a - a) := by
    unfold uj bj num mn
    rw [ha]
    by_cases c : 3 < te B N a - a
    · omega
    · rw [if_neg c]
  have hnm : ∀ k, k ≤ 3 → (∀ z, z < k → 48 ≤ B (a + z) ∧ B (a + z) ≤ 57) → nm B a k < 10 ^ k := by
    intro k
    induction k with
    | zero => intro _ _; rw [nm]; decide
    | succ k ih =>
      intro h1 h2
      have := ih (by omega) (fun z hz => h2 z (by omega))
      have := h2 k (by omega)
      rw [nm, Nat.pow_succ]; omega
  have main : ∀ f k z1, k + f = te B N a - a → am_Ex (d + 1) mTape_numberAt 12 [.val (.ref 1), z1, .val (.int (nI (nm B a k))), .val (.int (nI a)), .val (.int (nI (a + k)))] [] (i, l, rX q, kX K) = some (some (.int (nI (nm B a (te B N a - a)))), (i, l, rX q, kX K)) := by
    intro f
    induction f with
    | zero =>
      intro k z1 hk'
      have hk' : k = te B N a - a := by omega
      subst hk'
      rw [b_Tape_numberAt_12, hB.2.1, show a + (te B N a - a) = te B N a by omega]
      by_cases c : N ≤ te B N a
      · rw [decide_eq_true (show nI N ≤ nI (te B N a) from by rw [q_le (by omega) (by omega)]; exact c), cond_true, b_Tape_numberAt_60]
      · rw [decide_eq_false (show ¬ nI N ≤ nI (te B N a) from by rw [q_le (by omega) (by omega)]; exact c), cond_false, show nI a + (3 : Int32) = nI (a + 3) from nI_add a 3]
        by_cases c2 : a + 3 ≤ te B N a
        · rw [decide_eq_true (show nI (a + 3) ≤ nI (te B N a) from by rw [q_le (by omega) (by omega)]; exact c2), cond_true, b_Tape_numberAt_60]
        · rw [decide_eq_false (show ¬ nI (a + 3) ≤ nI (te B N a) from by rw [q_le (by omega) (by omega)]; exact c2), cond_false, s_isNumeral d hB (show te B N a < N by omega), n4 (by omega), if_neg (by decide), am_bd_some, q_app, b_Tape_numberAt_35, show decide (nI 0 = (0 : Int32)) = true from rfl, cond_true, b_Tape_numberAt_60]
    | succ f ih =>
      intro k z1 hk'
      have hdk := n3 (a + k) (by omega) (by omega)
      have hdr := of_decide_eq_true hdk
      rw [b_Tape_numberAt_12, hB.2.1, decide_eq_false (show ¬ nI N ≤ nI (a + k) from by rw [q_le (by omega) (by omega)]; omega), cond_false, show nI a + (3 : Int32) = nI (a + 3) from nI_add a 3, decide_eq_false (show ¬ nI (a + 3) ≤ nI (a + k) from by rw [q_le (by omega) (by omega)]; omega), cond_false, s_isNumeral d hB (show a + k < N by omega), hdk, if_pos rfl, am_bd_some, q_app, b_Tape_numberAt_35, show decide (nI 1 = (0 : Int32)) = false from rfl, cond_false, in16 (show a + k < 900 by omega) (by decide), cond_true, nI_clamp (by omega), hB.2.2.1 (a + k) (by omega), sb_num (B (a + k)) (by omega) hdr.1, show nI (a + k) + (1 : Int32) = nI (a + (k + 1)) from nI_add _ 1]
      have e : (10 : Int32) * nI (nm B a k) + nI (B (a + k)) - 48 = nI (nm B a (k + 1)) := by
        rw [show (10 : Int32) * nI (nm B a k) = nI (10 * nm B a k) from pk_mul 10 _, nI_add, nm, show 10 * nm B a k + B (a + k) = 10 * nm B a k + (B (a + k) - 48) + 48 by omega, ← nI_add]
        exact Int32.add_sub_cancel _ _
      rw [e]
      exact ih (k + 1) _ (by omega)
  rw [c_Tape_numberAt, b_Tape_numberAt_0, in16 (show j < 901 by omega) (by decide), cond_true, nI_clamp (by omega), h4, hu]
  exact main (te B N a - a) 0 _ (by omega)
/-- codes as they lie -/
def RC (o : Nat) (i : Nat → Nat → Int32) (s : PS) : Prop := (∃ c, c ≤ 900 ∧ i 5 8 = nI c) ∧ (s.1 = 0 → o ≤ s.2.2.2 173 ∧ i 5 8 = nI (s.2.2.2 173 - o) ∧ ∀ k, o + k < s.2.2.2 173 → i 6 k = tc (s.2.2.2 (174 + (o + k)))) ∧ (s.1 = 0 → i 5 4 = -nI 1)
theorem y_emit (d : Nat) {c o : Nat} (hC : RC o i s) (h9 : s.1 = 0 → s.2.2.2 173 < 900) : ∃ i', am_cl (d + 1) mReader_emit [.ref 5, .int (tc c)] (i, l, rX q, kX K) = some (none, (i', l, rX q, kX K)) ∧ RC o i' (cdS c s) ∧ (∀ x, x ≠ 5 → x ≠ 6 → i' x = i x) ∧ (∀ k, k ≠ 8 → i' 5 k = i 5 k) ∧ ∃ c c', c' ≤ c + 1 ∧ c ≤ 900 ∧ c' ≤ 900 ∧ i 5 8 = nI c ∧ i' 5 8 = nI c' := by
  obtain ⟨⟨c0, hc0, e0⟩, hs, h4⟩ := hC
  rw [c_Reader_emit, b_Reader_emit_0, e0]
  by_cases c1 : 900 ≤ c0
  · have hs0 : ¬ s.1 = 0 := fun z => by
      have := h9 z
      have e := (hs z).2.1
      rw [e0, q_eq (by omega) (by omega)] at e
      omega
    rw [decide_eq_true (show (900 : Int32) ≤ nI c0 from by
      show nI 900 ≤ nI c0
      rw [q_le (by omega) (by omega)]; exact c1), cond_true, b_Reader_emit_32]
    refine ⟨i, rfl, ?_, fun _ _ _ => rfl, fun _ _ => rfl, c0, c0, by omega, hc0, hc0, rfl, e0⟩
    unfold cdS
    rw [if_neg hs0]
    exact ⟨⟨c0, hc0, e0⟩, hs, h4⟩
  · rw [decide_eq_false (show ¬ (900 : Int32) ≤ nI c0 from by
      show ¬ nI 900 ≤ nI c0
      rw [q_le (by omega) (by omega)]; exact c1), cond_false, in16 (show c0 < 900 by omega) (by decide), cond_true, nI_clamp (by omega), b_Reader_emit_32, show nI c0 + (1 : Int32) = nI (c0 + 1) from nI_add _ 1]
    refine ⟨_, rfl, ⟨⟨c0 + 1, by omega, by simp [am_u2]⟩, fun z => ?_, fun z => ?_⟩, fun x x5 x6 => ?_, fun k k8 => ?_, c0, c0 + 1, by omega, by omega, by omega, rfl, by simp [am_u2]⟩
    · by_cases hs0 : s.1 = 0
      · obtain ⟨hol, e, hcd⟩ := hs hs0
        have ec : c0 = s.2.2.2 173 - o := by rw [e0, q_eq (by omega) (by have := h9 hs0; omega)] at e; exact e
        unfold cdS
        rw [if_pos hs0]
        have g173 : ug (ug s.2.2.2 (174 + s.2.2.2 173) c) 173 (s.2.2.2 173 + 1) 173 = s.2.2.2 173 + 1 := by unfold ug; rw [if_pos rfl]
        refine ⟨?_, ?_, fun k hk => ?_⟩
        · show o ≤ ug (ug s.2.2.2 (174 + s.2.2.2 173) c) 173 (s.2.2.2 173 + 1) 173
          rw [g173]; omega
        · show _ = nI (ug (ug s.2.2.2 (174 + s.2.2.2 173) c) 173 (s.2.2.2 173 + 1) 173 - o)
          rw [g173, show s.2.2.2 173 + 1 - o = c0 + 1 by omega]; simp [am_u2]
        · have hk : o + k < ug (ug s.2.2.2 (174 + s.2.2.2 173) c) 173 (s.2.2.2 173 + 1) 173 := hk
          rw [g173] at hk
          show _ = tc (ug (ug s.2.2.2 (174 + s.2.2.2 173) c) 173 (s.2.2.2 173 + 1) (174 + (o + k)))
          unfold ug
          rw [if_neg (by omega)]
          by_cases ck : k = c0
          · rw [if_pos (by omega), ck]; simp [am_u2]
          · rw [if_neg (by omega)]
            rw [← hcd k (by omega)]
            simp [am_u2, ck]
      · unfold cdS at z
        rw [if_neg hs0] at z
        exact absurd z hs0
    · rw [cdS_w] at z
      rw [← h4 z]; simp [am_u2]
    · funext t; unfold am_u2; rw [if_neg x5, if_neg x6]
    · simp [am_u2, k8]
end
