/-! THE CLASS: truths joined -/
section
variable {i i' i'' : Nat → Nat → Int32} {l l' : Nat → Nat → Int64} {q q' : Nat → Nat → Option Nat} {K K' : List (Nat × Nat)} {B : Nat → Nat} {N M w o : Nat} {s : PS}
theorem y_both (d : Nat) {x : Int32} {F : PS → PS} (hO : OkF B N F) (hF : ∀ i s, RB B N M w o i s → ∃ i', am_cl (d + 4) mReader_readUnit [.ref 5, .int x] (i, l, rX q, kX K) = some (none, (i', l, rX q, kX K)) ∧ RB B N M w o i' (F s) ∧ RFr 0 i i') (h : RB B N M w o i s) : ∃ i', am_cl (d + 5) mReader_readBoth [.ref 5, .int x] (i, l, rX q, kX K) = some (none, (i', l, rX q, kX K)) ∧ RB B N M w o i' (boS B N F s) ∧ RFr 0 i i' := by
  have loop : ∀ n k i s, n + k = 1000 → k ≤ 901 → RB B N M w o i s → (s.1 = 0 → k ≤ s.2.2.1) → ∃ i', am_Ex (d + 4) mReader_readBoth 7 [.val (.ref 5), .val (.int x), .val (.int (nI k))] [] (i, l, rX q, kX K) = some (none, (i', l, rX q, kX K)) ∧ RB B N M w o i' (lpS B N 17 3007 F n s) ∧ RFr 0 i i' := by
    intro n
    induction n with
    | zero => intro k i s hnk hk; omega
    | succ n ih =>
      intro k i s hnk hk hb hks
      obtain ⟨hB, hT, hR, hC, hc, h6⟩ := id hb
      have hM := hT.1
      rw [b_Reader_readBoth_7, hT.2.2.1, lpS]
      by_cases c1 : M + 1 ≤ k
      · have hno : ¬ isS B N 17 s = true := fun z => by
          have hss := of_decide_eq_true z
          have := hks hss.1
          have := (hR.2.2.2 hss.1).1
          omega
        rw [decide_eq_true (show nI (M + 1) ≤ nI k from by rw [q_le (by omega) (by omega)]; exact c1), cond_true, b_Reader_readBoth_50, if_neg hno]
        exact ⟨i, rfl, hb, RFr_refl⟩
      · rw [decide_eq_false (show ¬ nI (M + 1) ≤ nI k from by rw [q_le (by omega) (by omega)]; exact c1), cond_false, decide_not, show decide (i 5 2 = (146 : Int32)) = isS B N 17 s from tok_is (k0 := 17) rfl (by decide) hR]
        cases hs : isS B N 17 s with
        | false =>
          rw [show (!false) = true from rfl, cond_true, b_Reader_readBoth_50, if_neg (show ¬ (false = true) from by decide)]
          exact ⟨i, rfl, hb, RFr_refl⟩
        | true =>
          have hss := of_decide_eq_true hs
          have hk24 : kj B N s.2.2.1 ≠ 24 := by rw [hss.2]; decide
          obtain ⟨i1, e1, hb1, hf1⟩ := b_adv (l := l) (q := q) (K := K) (d + 3) hb hss.1 hk24
          obtain ⟨i2, e2, hb2, hf2⟩ := hF i1 (nxS s) hb1
          obtain ⟨hpg, hlt⟩ := Pg_ncd (c := 3007) hO hc hk24
          obtain ⟨i3, e3, hb3, hf3⟩ := b_em (l := l) (q := q) (K := K) (d + 3) (c := 3007) hb2 hlt (Pg_cb hpg hc)
          have hle := hO (nxS s) hb1.2.2.2.2.1
          rw [show (!true) = false from rfl, cond_false, e1, am_bd_some, q_app0, b_Reader_readBoth_32, e2, am_bd_some, q_app0, b_Reader_readBoth_37, show (1146 : Int32) = tc 3007 from rfl, e3, am_bd_some, q_app0, b_Reader_readBoth_44, show nI k + (1 : Int32) = nI (k + 1) from nI_add k 1, if_pos (show true = true from rfl)]
          obtain ⟨i4, e4, hb4, hf4⟩ := ih (k + 1) i3 (cdS 3007 (F (nxS s))) (by omega) (by omega) hb3 (fun z => by
            have es : (cdS 3007 (F (nxS s))).1 = (F (nxS s)).1 ∧ (cdS 3007 (F (nxS s))).2.2.1 = (F (nxS s)).2.2.1 := by
              unfold cdS; split <;> exact ⟨rfl, rfl⟩
            rw [es.1] at z
            rw [es.2]
            obtain ⟨a1, a2, a3, _, _⟩ := hle z
            have h5 : (nxS s).2.2.1 = s.2.2.1 + 1 := rfl
            have := hks hss.1
            omega)
          exact ⟨i4, e4, hb4, RFr_tr hf1 (RFr_tr hf2 (RFr_tr hf3 hf4))⟩
  obtain ⟨i1, e1, hb1, hf1⟩ := hF i s h
  obtain ⟨i2, e2, hb2, hf2⟩ := loop 1000 0 i1 (F s) (by omega) (by omega) hb1 (fun _ => Nat.zero_le _)
  rw [c_Reader_readBoth, b_Reader_readBoth_0, e1, am_bd_some, q_app0, b_Reader_readBoth_5]
  exact ⟨i2, e2, hb2, RFr_tr hf1 hf2⟩
theorem y_truth (d : Nat) {x : Int32} {F : PS → PS} (hO : OkF B N F) (hF : ∀ i s, RB B N M w o i s → ∃ i', am_cl (d + 4) mReader_readBoth [.ref 5, .int x] (i, l, rX q, kX K) = some (none, (i', l, rX q, kX K)) ∧ RB B N M w o i' (F s) ∧ RFr 0 i i') (h : RB B N M w o i s) : ∃ i', am_cl (d + 5) mReader_readTruth [.ref 5, .int x] (i, l, rX q, kX K) = some (none, (i', l, rX q, kX K)) ∧ RB B N M w o i' (trS B N F s) ∧ RFr 0 i i' := by
  have loop : ∀ n k i s, n + k = 1000 → k ≤ 901 → RB B N M w o i s → (s.1 = 0 → k ≤ s.2.2.1) → ∃ i', am_Ex (d + 4) mReader_readTruth 7 [.val (.ref 5), .val (.int x), .val (.int (nI k))] [] (i, l, rX q, kX K) = some (none, (i', l, rX q, kX K)) ∧ RB B N M w o i' (lpS B N 18 3008 F n s) ∧ RFr 0 i i' := by
    intro n
    induction n with
    | zero => intro k i s hnk hk; omega
    | succ n ih =>
      intro k i s hnk hk hb hks
      obtain ⟨hB, hT, hR, hC, hc, h6⟩ := id hb
      have hM := hT.1
      rw [b_Reader_readTruth_7, hT.2.2.1, lpS]
      by_cases c1 : M + 1 ≤ k
      · have hno : ¬ isS B N 18 s = true := fun z => by
          have hss := of_decide_eq_true z
          have := hks hss.1
          have := (hR.2.2.2 hss.1).1
          omega
        rw [decide_eq_true (show nI (M + 1) ≤ nI k from by rw [q_le (by omega) (by omega)]; exact c1), cond_true, b_Reader_readTruth_50, if_neg hno]
        exact ⟨i, rfl, hb, RFr_refl⟩
      · rw [decide_eq_false (show ¬ nI (M + 1) ≤ nI k from by rw [q_le (by omega) (by omega)]; exact c1), cond_false, decide_not, show decide (i 5 2 = (145 : Int32)) = isS B N 18 s from tok_is (k0 := 18) rfl (by decide) hR]
        cases hs : isS B N 18 s with
        | false =>
          rw [show (!false) = true from rfl, cond_true, b_Reader_readTruth_50, if_neg (show ¬ (false = true) from by decide)]
          exact ⟨i, rfl, hb, RFr_refl⟩
        | true =>
          have hss := of_decide_eq_true hs
          have hk24 : kj B N s.2.2.1 ≠ 24 := by rw [hss.2]; decide
          obtain ⟨i1, e1, hb1, hf1⟩ := b_adv (l := l) (q := q) (K := K) (d + 3) hb hss.1 hk24
          obtain ⟨i2, e2, hb2, hf2⟩ := hF i1 (nxS s) hb1
          obtain ⟨hpg, hlt⟩ := Pg_ncd (c := 3008) hO hc hk24
          obtain ⟨i3, e3, hb3, hf3⟩ := b_em (l := l) (q := q) (K := K) (d + 3) (c := 3008) hb2 hlt (Pg_cb hpg hc)
          have hle := hO (nxS s) hb1.2.2.2.2.1
          rw [show (!true) = false from rfl, cond_false, e1, am_bd_some, q_app0, b_Reader_readTruth_32, e2, am_bd_some, q_app0, b_Reader_readTruth_37, show (1145 : Int32) = tc 3008 from rfl, e3, am_bd_some, q_app0, b_Reader_readTruth_44, show nI k + (1 : Int32) = nI (k + 1) from nI_add k 1, if_pos (show true = true from rfl)]
          obtain ⟨i4, e4, hb4, hf4⟩ := ih (k + 1) i3 (cdS 3008 (F (nxS s))) (by omega) (by omega) hb3 (fun z => by
            have es : (cdS 3008 (F (nxS s))).1 = (F (nxS s)).1 ∧ (cdS 3008 (F (nxS s))).2.2.1 = (F (nxS s)).2.2.1 := by
              unfold cdS; split <;> exact ⟨rfl, rfl⟩
            rw [es.1] at z
            rw [es.2]
            obtain ⟨a1, a2, a3, _, _⟩ := hle z
            have h5 : (nxS s).2.2.1 = s.2.2.1 + 1 := rfl
            have := hks hss.1
            omega)
          exact ⟨i4, e4, hb4, RFr_tr hf1 (RFr_tr hf2 (RFr_tr hf3 hf4))⟩
  obtain ⟨i1, e1, hb1, hf1⟩ := hF i s h
  obtain ⟨i2, e2, hb2, hf2⟩ := loop 1000 0 i1 (F s) (by omega) (by omega) hb1 (fun _ => Nat.zero_le _)
  rw [c_Reader_readTruth, b_Reader_readTruth_0, e1, am_bd_some, q_app0, b_Reader_readTruth_5]
  exact ⟨i2, e2, hb2, RFr_tr hf1 hf2⟩
end
