/-! THE CLASS: numbers wanted, words asked, nesting -/
def askT (t law : Nat) : Bool := decide (t = 128 ∨ t = 129 ∨ (law = 0 ∧ 130 ≤ t ∧ t ≤ 133) ∨ (law = 1 ∧ 134 ≤ t ∧ t ≤ 137))
theorem ask_k : ∀ k, k < 42 → okK k = true → ∀ w, w < 2 → askT (ct k) w = (wdO w k).isSome := by decide +kernel
theorem ask_c : ∀ k, k < 42 → ∀ w, w < 2 → (wdO w k).isSome = true → (127 : Int32) - nI (ct k) = tc (1000 + (wdO w k).getD 0) := by decide +kernel
section
variable {i i' : Nat → Nat → Int32} {l l' : Nat → Nat → Int64} {q q' : Nat → Nat → Option Nat} {K K' : List (Nat × Nat)} {B : Nat → Nat} {N M : Nat} {s : PS}
theorem y_enter (d : Nat) {r : Nat} (hr : r ≤ 6) (hT : TKs B N M i) (hR : RD B N M i s) (h0 : s.1 = 0) (hk : kj B N s.2.2.1 ≠ 24) : ∃ i', am_cl (d + 2) mReader_canEnter [.ref 5, .int (nI (6 - r))] (i, l, rX q, kX K) = some (some (.int (if r = 0 then nI 0 else nI 1)), (i', l, rX q, kX K)) ∧ RD B N M i' (giS B N r s) ∧ (∀ c, c ≠ 5 → i' c = i c) ∧ ∀ k, k ≠ 1 → k ≠ 2 → k ≠ 3 → k ≠ 4 → i' 5 k = i 5 k := by
  rw [c_Reader_canEnter, b_Reader_canEnter_0]
  unfold giS
  rw [if_pos h0]
  by_cases c : r = 0
  · obtain ⟨i1, e1, hR1, ho, hk1⟩ := y_ref (l := l) (q := q) (K := K) d (k := 4) (by decide) (by decide) hT hR
    rw [decide_eq_false (show ¬ nI (6 - r) < (6 : Int32) from by
      show ¬ nI (6 - r) < nI 6
      rw [q_lt (by omega) (by omega)]; omega), cond_false, show (4 : Int32) = nI 4 from rfl, e1, am_bd_some, q_app0, b_Reader_canEnter_11, if_pos c, if_pos c]
    exact ⟨i1, rfl, hR1, ho, fun k _ k2 k3 k4 => hk1 k k2 k3 k4⟩
  · obtain ⟨i1, e1, hR1, ho, hk1⟩ := y_adv (l := l) (q := q) (K := K) d hT hR h0 hk
    rw [decide_eq_true (show nI (6 - r) < (6 : Int32) from by
      show nI (6 - r) < nI 6
      rw [q_lt (by omega) (by omega)]; omega), cond_true, e1, am_bd_some, q_app0, b_Reader_canEnter_17, if_neg c, if_neg c]
    exact ⟨i1, rfl, hR1, ho, fun k k1 k2 _ _ => hk1 k k1 k2⟩
theorem s_asked (d : Nat) {w : Nat} (hw : w < 2) (h6 : i 5 6 = nI (143 + w)) (hR : RD B N M i s) : am_cl (d + 1) mReader_isAskedByLaw [.ref 5] (i, l, rX q, kX K) = some (some (.int (if s.1 = 0 ∧ (wdO w (kj B N s.2.2.1)).isSome = true then nI 1 else nI 0)), (i, l, rX q, kX K)) := by
  obtain ⟨r1, r2, r3, r4⟩ := hR
  obtain ⟨t, ht, h52, hat⟩ : ∃ t, t < 200 ∧ i 5 2 = nI t ∧ (askT t w = true ↔ s.1 = 0 ∧ (wdO w (kj B N s.2.2.1)).isSome = true) := by
    by_cases h0 : s.1 = 0
    · have hok := kj_ok B N s.2.2.1
      refine ⟨ct (kj B N s.2.2.1), ct_lt _ (ok_lt hok), (r4 h0).2.2, ?_⟩
      rw [ask_k _ (ok_lt hok) hok w hw]
      exact ⟨fun z => ⟨h0, z⟩, fun z => z.2⟩
    · refine ⟨1, by decide, (r3 h0).2, ⟨fun z => ?_, fun z => absurd z.1 h0⟩⟩
      have := of_decide_eq_true z
      omega
  have hres : (if s.1 = 0 ∧ (wdO w (kj B N s.2.2.1)).isSome = true then nI 1 else nI 0) = if askT t w = true then nI 1 else nI 0 := by
    by_cases c : askT t w = true
    · rw [if_pos c, if_pos (hat.mp c)]
    · rw [if_neg c, if_neg (fun z => c (hat.mpr z))]
  rw [hres, c_Reader_isAskedByLaw, b_Reader_isAskedByLaw_0, h52, h6]
  have eqd : ∀ n, n < 1000 → decide (nI t = nI n) = decide (t = n) := fun n hn => decide_eq_decide.mpr (by rw [q_eq (by omega) (by omega)])
  have ltd : ∀ n, n < 1000 → decide (nI t < nI n) = decide (t < n) := fun n hn => decide_eq_decide.mpr (by rw [q_lt (by omega) (by omega)])
  have gtd : ∀ n, n < 1000 → decide (nI n < nI t) = decide (n < t) := fun n hn => decide_eq_decide.mpr (by rw [q_lt (by omega) (by omega)])
  by_cases c1 : t = 128
  · rw [show decide (nI t = (128 : Int32)) = true from by rw [show (128 : Int32) = nI 128 from rfl, eqd 128 (by decide)]; exact decide_eq_true c1, cond_true, b_Reader_isAskedByLaw_20, if_pos (show askT t w = true from decide_eq_true (Or.inl c1))]
    rfl
  · rw [show decide (nI t = (128 : Int32)) = false from by rw [show (128 : Int32) = nI 128 from rfl, eqd 128 (by decide)]; exact decide_eq_false c1, cond_false]
    by_cases c2 : t = 129
    · rw [show decide (¬ nI t = (129 : Int32)) = false from by rw [decide_not, show (129 : Int32) = nI 129 from rfl, eqd 129 (by decide), decide_eq_true c2]; rfl, cond_false, b_Reader_isAskedByLaw_20, if_pos (show askT t w = true from decide_eq_true (Or.inr (Or.inl c2)))]
      rfl
    · rw [show decide (¬ nI t = (129 : Int32)) = true from by rw [decide_not, show (129 : Int32) = nI 129 from rfl, eqd 129 (by decide), decide_eq_false c2]; rfl, cond_true]
      by_cases cw : w = 0
      · subst cw
        rw [show decide (¬ nI (143 + 0) = (143 : Int32)) = false from rfl, cond_false, show (130 : Int32) = nI 130 from rfl, ltd 130 (by decide), show (133 : Int32) = nI 133 from rfl, gtd 133 (by decide)]
        by_cases c3 : t < 130
        · rw [decide_eq_true c3, cond_true, b_Reader_isAskedByLaw_56, b_Reader_isAskedByLaw_57, if_neg (show ¬ askT t 0 = true from fun z => by have := of_decide_eq_true z; omega)]; rfl
        · rw [decide_eq_false c3, cond_false]
          by_cases c4 : 133 < t
          · rw [decide_eq_true c4, cond_true, b_Reader_isAskedByLaw_56, b_Reader_isAskedByLaw_57, if_neg (show ¬ askT t 0 = true from fun z => by have := of_decide_eq_true z; omega)]; rfl
          · rw [decide_eq_false c4, cond_false, b_Reader_isAskedByLaw_57, if_pos (show askT t 0 = true from decide_eq_true (Or.inr (Or.inr (Or.inl ⟨rfl, by omega, by omega⟩))))]; rfl
      · have cw : w = 1 := by omega
        subst cw
        rw [show decide (¬ nI (143 + 1) = (143 : Int32)) = true from rfl, cond_true, show (134 : Int32) = nI 134 from rfl, ltd 134 (by decide), show (137 : Int32) = nI 137 from rfl, gtd 137 (by decide)]
        by_cases c3 : t < 134
        · rw [decide_eq_true c3, cond_true, b_Reader_isAskedByLaw_82, b_Reader_isAskedByLaw_83, if_neg (show ¬ askT t 1 = true from fun z => by have := of_decide_eq_true z; omega)]; rfl
        · rw [decide_eq_false c3, cond_false]
          by_cases c4 : 137 < t
          · rw [decide_eq_true c4, cond_true, b_Reader_isAskedByLaw_82, b_Reader_isAskedByLaw_83, if_neg (show ¬ askT t 1 = true from fun z => by have := of_decide_eq_true z; omega)]; rfl
          · rw [decide_eq_false c4, cond_false, b_Reader_isAskedByLaw_83, if_pos (show askT t 1 = true from decide_eq_true (Or.inr (Or.inr (Or.inr ⟨rfl, by omega, by omega⟩))))]; rfl
theorem y_number (d : Nat) {lo hi : Nat} (hlo : lo < 1000) (hhi : hi < 1000) (hB : BY B N i) (hT : TKs B N M i) (hR : RD B N M i s) : ∃ i', am_cl (d + 3) mReader_readNumber [.ref 5, .int (nI lo), .int (nI hi)] (i, l, rX q, kX K) = some (some (.int (nI (if s.1 = 0 ∧ kj B N s.2.2.1 = 23 ∧ lo ≤ uj B N s.2.2.1 ∧ uj B N s.2.2.1 ≤ hi then uj B N s.2.2.1 else lo))), (i', l, rX q, kX K)) ∧ RD B N M i' (tkS B N lo hi s) ∧ (∀ c, c ≠ 5 → i' c = i c) ∧ (∀ k, k ≠ 1 → k ≠ 2 → k ≠ 3 → k ≠ 4 → i' 5 k = i 5 k) ∧ ((tkS B N lo hi s).1 = 0 → i' 5 4 = i 5 4) := by
  obtain ⟨r1, r2, r3, r4⟩ := id hR
  rw [c_Reader_readNumber, b_Reader_readNumber_0]
  unfold tkS
  by_cases h0 : s.1 = 0
  · obtain ⟨hj, r5, r6⟩ := r4 h0
    have htok : decide (i 5 2 = (2 : Int32)) = decide (kj B N s.2.2.1 = 23) := by
      rw [r6]
      apply decide_eq_decide.mpr
      show nI (ct (kj B N s.2.2.1)) = nI (ct 23) ↔ _
      rw [ct_eq (kj_ok B N s.2.2.1) rfl]
    rw [htok, if_pos h0]
    by_cases c : kj B N s.2.2.1 = 23
    · have hu : uj B N s.2.2.1 < 1000000 := by
        have := uj_lt hB.2.2.2 c
        omega
      rw [decide_eq_true c, cond_true, r5, s_numberAt d hB hT (by omega) c, am_bd_some, q_app, b_Reader_readNumber_26, if_pos c]
      by_cases c1 : uj B N s.2.2.1 < lo
      · obtain ⟨i1, e1, hR1, ho, hk1⟩ := y_ref (l := l) (q := q) (K := K) (d + 1) (k := 3) (by decide) (by decide) hT hR
        rw [decide_eq_true (show nI (uj B N s.2.2.1) < nI lo from by rw [q_lt (by omega) (by omega)]; exact c1), cond_true, b_Reader_readNumber_37, show (3 : Int32) = nI 3 from rfl, e1, am_bd_some, q_app0, b_Reader_readNumber_42, if_neg (by omega), if_neg (by omega)]
        exact ⟨i1, rfl, hR1, ho, fun k _ k2 k3 k4 => hk1 k k2 k3 k4, fun z => absurd z (flS_w (by decide))⟩
      · rw [decide_eq_false (show ¬ nI (uj B N s.2.2.1) < nI lo from by rw [q_lt (by omega) (by omega)]; exact c1), cond_false]
        by_cases c2 : uj B N s.2.2.1 ≤ hi
        · obtain ⟨i1, e1, hR1, ho, hk1⟩ := y_adv (l := l) (q := q) (K := K) (d + 1) hT hR h0 (by rw [c]; decide)
          rw [decide_eq_true (show nI (uj B N s.2.2.1) ≤ nI hi from by rw [q_le (by omega) (by omega)]; exact c2), cond_true, e1, am_bd_some, q_app0, b_Reader_readNumber_48, if_pos ⟨h0, c, by omega, c2⟩, if_pos ⟨by omega, c2⟩]
          exact ⟨i1, rfl, hR1, ho, fun k k1 k2 _ _ => hk1 k k1 k2, fun _ => hk1 4 (by decide) (by decide)⟩
        · obtain ⟨i1, e1, hR1, ho, hk1⟩ := y_ref (l := l) (q := q) (K := K) (d + 1) (k := 3) (by decide) (by decide) hT hR
          rw [decide_eq_false (show ¬ nI (uj B N s.2.2.1) ≤ nI hi from by rw [q_le (by omega) (by omega)]; exact c2), cond_false, b_Reader_readNumber_37, show (3 : Int32) = nI 3 from rfl, e1, am_bd_some, q_app0, b_Reader_readNumber_42, if_neg (by omega), if_neg (by omega)]
          exact ⟨i1, rfl, hR1, ho, fun k _ k2 k3 k4 => hk1 k k2 k3 k4, fun z => absurd z (flS_w (by decide))⟩
    · obtain ⟨i1, e1, hR1, ho, hk1⟩ := y_ref (l := l) (q := q) (K := K) (d + 1) (k := 2) (by decide) (by decide) hT hR
      rw [decide_eq_false c, cond_false, show (2 : Int32) = nI 2 from rfl, e1, am_bd_some, q_app0, b_Reader_readNumber_13, if_neg (fun z => c z.2.1), if_neg c]
      exact ⟨i1, rfl, hR1, ho, fun k _ k2 k3 k4 => hk1 k k2 k3 k4, fun z => absurd z (flS_w (by decide))⟩
  · obtain ⟨i1, e1, hR1, ho, hk1⟩ := y_ref (l := l) (q := q) (K := K) (d + 1) (k := 2) (by decide) (by decide) hT hR
    rw [(r3 h0).2, show decide (nI 1 = (2 : Int32)) = false from rfl, cond_false, show (2 : Int32) = nI 2 from rfl, e1, am_bd_some, q_app0, b_Reader_readNumber_13, if_neg (fun z => h0 z.1), if_neg h0]
    unfold flS at hR1
    rw [if_neg h0] at hR1
    exact ⟨i1, rfl, hR1, ho, fun k _ k2 k3 k4 => hk1 k k2 k3 k4, fun z => absurd z h0⟩
end
