/-! THE CLASS: sums -/
section
variable {i i' i'' : Nat → Nat → Int32} {l l' : Nat → Nat → Int64} {q q' : Nat → Nat → Option Nat} {K K' : List (Nat × Nat)} {B : Nat → Nat} {N M w o : Nat} {s : PS}
theorem y_sum (d : Nat) {x : Int32} {F : PS → PS} (hO : OkF B N F) (hF : ∀ i s, RB B N M w o i s → ∃ i', am_cl (d + 4) mReader_readTerm [.ref 5, .int x] (i, l, rX q, kX K) = some (none, (i', l, rX q, kX K)) ∧ RB B N M w o i' (F s) ∧ RFr 0 i i') (h : RB B N M w o i s) : ∃ i', am_cl (d + 5) mReader_readSum [.ref 5, .int x] (i, l, rX q, kX K) = some (none, (i', l, rX q, kX K)) ∧ RB B N M w o i' (smS B N F s) ∧ RFr 0 i i' := by
  have loop : ∀ n k i s z3, n + k = 1000 → k ≤ 901 → RB B N M w o i s → (s.1 = 0 → k ≤ s.2.2.1) → ∃ i', am_Ex (d + 4) mReader_readSum 7 [.val (.ref 5), .val (.int x), .val (.int (nI k)), z3] [] (i, l, rX q, kX K) = some (none, (i', l, rX q, kX K)) ∧ RB B N M w o i' (plS B N F n s) ∧ RFr 0 i i' := by
    intro n
    induction n with
    | zero => intro k i s z3 hnk hk; omega
    | succ n ih =>
      intro k i s z3 hnk hk hb hks
      obtain ⟨hB, hT, hR, hC, hc, h6⟩ := id hb
      have hM := hT.1
      have go : ∀ k0 c t, kj B N s.2.2.1 = k0 → s.1 = 0 → k0 ≠ 24 → i 5 2 = nI t → (1000 : Int32) + nI t = tc c → ∃ i', am_Ex (d + 4) mReader_readSum 36 [.val (.ref 5), .val (.int x), .val (.int (nI k)), z3] [] (i, l, rX q, kX K) = some (none, (i', l, rX q, kX K)) ∧ RB B N M w o i' (plS B N F n (cdS c (F (nxS s)))) ∧ RFr 0 i i' := fun k0 c t hk0 h0 h24 ht htc => by
        have hk24 : kj B N s.2.2.1 ≠ 24 := by rw [hk0]; exact h24
        obtain ⟨i1, e1, hb1, hf1⟩ := b_adv (l := l) (q := q) (K := K) (d + 3) hb h0 hk24
        obtain ⟨i2, e2, hb2, hf2⟩ := hF i1 (nxS s) hb1
        obtain ⟨hpg, hlt⟩ := Pg_ncd (c := c) hO hc hk24
        obtain ⟨i3, e3, hb3, hf3⟩ := b_em (l := l) (q := q) (K := K) (d + 3) (c := c) hb2 hlt (Pg_cb hpg hc)
        have hle := hO (nxS s) hb1.2.2.2.2.1
        have hkk := hks h0
        have hjM := (hR.2.2.2 h0).1
        rw [b_Reader_readSum_36, e1, am_bd_some, q_app0, ht, b_Reader_readSum_45, e2, am_bd_some, q_app0, b_Reader_readSum_50, htc, e3, am_bd_some, q_app0, b_Reader_readSum_59, show nI k + (1 : Int32) = nI (k + 1) from nI_add k 1]
        obtain ⟨i4, e4, hb4, hf4⟩ := ih (k + 1) i3 (cdS c (F (nxS s))) (.val (.int (nI t))) (by omega) (by omega) hb3 (fun z => by
          have es : (cdS c (F (nxS s))).1 = (F (nxS s)).1 ∧ (cdS c (F (nxS s))).2.2.1 = (F (nxS s)).2.2.1 := by
            unfold cdS; split <;> exact ⟨rfl, rfl⟩
          rw [es.1] at z
          rw [es.2]
          obtain ⟨a1, a2, a3, _, _⟩ := hle z
          have h5 : (nxS s).2.2.1 = s.2.2.1 + 1 := rfl
          omega)
        exact ⟨i4, e4, hb4, RFr_tr hf1 (RFr_tr hf2 (RFr_tr hf3 hf4))⟩
      rw [b_Reader_readSum_7, hT.2.2.1, plS]
      by_cases c1 : M + 1 ≤ k
      · have hno : ∀ k0, ¬ isS B N k0 s = true := fun k0 z => by
          have hss := of_decide_eq_true z
          have := hks hss.1
          have := (hR.2.2.2 hss.1).1
          omega
        rw [decide_eq_true (show nI (M + 1) ≤ nI k from by rw [q_le (by omega) (by omega)]; exact c1), cond_true, b_Reader_readSum_65, if_neg (hno 32), if_neg (hno 33)]
        exact ⟨i, rfl, hb, RFr_refl⟩
      · rw [decide_eq_false (show ¬ nI (M + 1) ≤ nI k from by rw [q_le (by omega) (by omega)]; exact c1), cond_false, show decide (i 5 2 = (43 : Int32)) = isS B N 32 s from tok_is (k0 := 32) rfl (by decide) hR]
        cases hs : isS B N 32 s with
        | true =>
          have hss := of_decide_eq_true hs
          rw [cond_true, if_pos (show true = true from rfl)]
          exact go 32 3000 (ct 32) hss.2 hss.1 (by decide) (by rw [(hR.2.2.2 hss.1).2.2, hss.2]) rfl
        | false =>
          rw [cond_false, if_neg (show ¬ (false = true) from by decide), decide_not, show decide (i 5 2 = (45 : Int32)) = isS B N 33 s from tok_is (k0 := 33) rfl (by decide) hR]
          cases hs2 : isS B N 33 s with
          | true =>
            have hss := of_decide_eq_true hs2
            rw [show (!true) = false from rfl, cond_false, if_pos (show true = true from rfl)]
            exact go 33 3001 (ct 33) hss.2 hss.1 (by decide) (by rw [(hR.2.2.2 hss.1).2.2, hss.2]) rfl
          | false =>
            rw [show (!false) = true from rfl, cond_true, b_Reader_readSum_65, if_neg (show ¬ (false = true) from by decide)]
            exact ⟨i, rfl, hb, RFr_refl⟩
  obtain ⟨i1, e1, hb1, hf1⟩ := hF i s h
  obtain ⟨i2, e2, hb2, hf2⟩ := loop 1000 0 i1 (F s) .unset (by omega) (by omega) hb1 (fun _ => Nat.zero_le _)
  rw [c_Reader_readSum, b_Reader_readSum_0, e1, am_bd_some, q_app0, b_Reader_readSum_5]
  exact ⟨i2, e2, hb2, RFr_tr hf1 hf2⟩
end
