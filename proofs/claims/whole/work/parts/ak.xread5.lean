/-! THE CLASS: atoms -/
section
variable {i i' i'' : Nat → Nat → Int32} {l l' : Nat → Nat → Int64} {q q' : Nat → Nat → Option Nat} {K K' : List (Nat × Nat)} {B : Nat → Nat} {N M w o : Nat} {s : PS}
theorem fl_ne {k : Nat} (hk : 1 ≤ k) : (flS B N k s).1 ≠ 0 := by
  unfold flS
  by_cases h0 : s.1 = 0
  · rw [if_pos h0]
    show (if kj B N s.2.2.1 = 25 then 1 else k) ≠ 0
    split <;> omega
  · rw [if_neg h0]; exact h0
theorem tok_is {k0 : Nat} (ho : okK k0 = true) (h25 : k0 ≠ 25) (hR : RD B N M i s) : decide (i 5 2 = nI (ct k0)) = isS B N k0 s := by
  obtain ⟨r1, r2, r3, r4⟩ := hR
  unfold isS
  by_cases h0 : s.1 = 0
  · rw [(r4 h0).2.2]
    apply decide_eq_decide.mpr
    rw [ct_eq (kj_ok B N s.2.2.1) ho]
    exact ⟨fun z => ⟨h0, z⟩, fun z => z.2⟩
  · rw [(r3 h0).2, decide_eq_false (show ¬ (s.1 = 0 ∧ _) from fun z => h0 z.1)]
    apply decide_eq_false
    show ¬ nI (ct 25) = nI (ct k0)
    rw [ct_eq rfl ho]
    exact fun z => h25 z.symm
theorem b_exp (d : Nat) {k0 : Nat} (hk0 : okK k0 = true) (h24 : k0 ≠ 24) (h25 : k0 ≠ 25) (h : RB B N M w o i s) : ∃ i', am_cl (d + 2) mReader_expect [.ref 5, .int (nI (ct k0))] (i, l, rX q, kX K) = some (none, (i', l, rX q, kX K)) ∧ RB B N M w o i' (if isS B N k0 s = true then nxS s else flS B N 2 s) ∧ RFr 0 i i' := by
  rw [c_Reader_expect, b_Reader_expect_0, decide_not, tok_is hk0 h25 h.2.2.1]
  cases hs : isS B N k0 s with
  | true =>
    have hss := of_decide_eq_true hs
    obtain ⟨i1, e1, hb, hf⟩ := b_adv (l := l) (q := q) (K := K) d h hss.1 (by rw [hss.2]; exact h24)
    rw [show (!true) = false from rfl, cond_false, e1, am_bd_some, q_app0, b_Reader_expect_12, b_Reader_expect_20, if_pos rfl]
    exact ⟨i1, rfl, hb, RFr_mo hf (by decide)⟩
  | false =>
    obtain ⟨i1, e1, hb, hf⟩ := b_ref (l := l) (q := q) (K := K) d (k := 2) (by decide) (by decide) h
    rw [show (!false) = true from rfl, cond_true, show (2 : Int32) = nI 2 from rfl, e1, am_bd_some, q_app0, b_Reader_expect_20, if_neg (by decide)]
    exact ⟨i1, rfl, hb, hf⟩
theorem b_enter (d : Nat) {r : Nat} (hr : r ≤ 6) (h : RB B N M w o i s) (h0 : s.1 = 0) (hk24 : kj B N s.2.2.1 ≠ 24) : ∃ i', am_cl (d + 2) mReader_canEnter [.ref 5, .int (nI (6 - r))] (i, l, rX q, kX K) = some (some (.int (if r = 0 then nI 0 else nI 1)), (i', l, rX q, kX K)) ∧ RB B N M w o i' (giS B N r s) ∧ RFr (if r = 0 then 0 else -1) i i' := by
  rw [c_Reader_canEnter, b_Reader_canEnter_0]
  unfold giS
  rw [if_pos h0]
  by_cases c : r = 0
  · obtain ⟨i1, e1, hb, hf⟩ := b_ref (l := l) (q := q) (K := K) d (k := 4) (by decide) (by decide) h
    rw [decide_eq_false (show ¬ nI (6 - r) < (6 : Int32) from by
      show ¬ nI (6 - r) < nI 6
      rw [q_lt (by omega) (by omega)]; omega), cond_false, show (4 : Int32) = nI 4 from rfl, e1, am_bd_some, q_app0, b_Reader_canEnter_11, if_pos c, if_pos c, if_pos c]
    exact ⟨i1, rfl, hb, hf⟩
  · obtain ⟨i1, e1, hb, hf⟩ := b_adv (l := l) (q := q) (K := K) d h h0 hk24
    rw [decide_eq_true (show nI (6 - r) < (6 : Int32) from by
      show nI (6 - r) < nI 6
      rw [q_lt (by omega) (by omega)]; omega), cond_true, e1, am_bd_some, q_app0, b_Reader_canEnter_17, if_neg c, if_neg c, if_neg c]
    exact ⟨i1, rfl, hb, hf⟩
theorem tcn_u {u : Nat} (h : u < 1000) : tc u = nI u := by unfold tc; rw [if_pos h]
theorem y_atom (d : Nat) {r : Nat} {sub : PS → PS} (hw : w < 2) (hr : r ≤ 6) (hsub : r ≠ 0 → ∀ i s, RB B N M w o i s → ∃ i', am_cl (d + 3) mReader_readSum [.ref 5, .int (nI (6 - (r - 1)))] (i, l, rX q, kX K) = some (none, (i', l, rX q, kX K)) ∧ RB B N M w o i' (sub s) ∧ RFr 0 i i') (h : RB B N M w o i s) : ∃ i', am_cl (d + 4) mReader_readAtom [.ref 5, .int (nI (6 - r))] (i, l, rX q, kX K) = some (none, (i', l, rX q, kX K)) ∧ RB B N M w o i' (atS B N w r sub s) ∧ RFr 0 i i' := by
  obtain ⟨hB, hT, hR, hC, hc, h6⟩ := id h
  obtain ⟨r1, r2, r3, r4⟩ := id hR
  rw [c_Reader_readAtom, b_Reader_readAtom_0]
  unfold atS
  have tk : ∀ k0, okK k0 = true → k0 ≠ 25 → decide (i 5 2 = nI (ct k0)) = isS B N k0 s := fun k0 ho h25 => by
    unfold isS
    by_cases h0 : s.1 = 0
    · rw [(r4 h0).2.2]
      apply decide_eq_decide.mpr
      rw [ct_eq (kj_ok B N s.2.2.1) ho]
      exact ⟨fun z => ⟨h0, z⟩, fun z => z.2⟩
    · rw [(r3 h0).2, decide_eq_false (show ¬ (s.1 = 0 ∧ _) from fun z => h0 z.1)]
      apply decide_eq_false
      show ¬ nI (ct 25) = nI (ct k0)
      rw [ct_eq rfl ho]
      exact fun z => h25 z.symm
  rw [decide_not, show decide (i 5 2 = (2 : Int32)) = isS B N 23 s from tk 23 rfl (by decide)]
  cases c23 : isS B N 23 s with
  | true =>
    have hss := of_decide_eq_true c23
    have hu := uj_lt hB.2.2.2 hss.2
    obtain ⟨i1, i2, e1, e2, hb, hf⟩ := b_ea (l := l) (q := q) (K := K) (d + 2) (c := uj B N s.2.2.1) h hss.1 (by rw [hss.2]; decide)
    rw [tcn_u hu] at e1
    rw [show (!true) = false from rfl, cond_false, (r4 hss.1).2.1, s_numberAt (d + 1) hB hT (by have := (r4 hss.1).1; omega) hss.2, am_bd_some]
    show ∃ i', am_Ex _ _ _ _ [.int (nI (uj B N s.2.2.1)), .ref 5] _ = _ ∧ _
    rw [b_Reader_readAtom_20, e1, am_bd_some, q_app0, b_Reader_readAtom_23, e2, am_bd_some, q_app0, b_Reader_readAtom_27, b_Reader_readAtom_93, if_pos rfl]
    exact ⟨i2, rfl, hb, hf⟩
  | false =>
    rw [show (!false) = true from rfl, cond_true, s_asked (d + 2) hw h6 hR, am_bd_some, q_app, b_Reader_readAtom_34, if_neg (show ¬ (false = true) from by decide)]
    by_cases cw : s.1 = 0 ∧ (wdO w (kj B N s.2.2.1)).isSome = true
    · have hok := kj_ok B N s.2.2.1
      have hk24 : kj B N s.2.2.1 ≠ 24 := fun z => by
        rw [z] at cw
        rcases (show w = 0 ∨ w = 1 by omega) with rfl | rfl <;> exact absurd cw.2 (by decide)
      obtain ⟨i1, i2, e1, e2, hb, hf⟩ := b_ea (l := l) (q := q) (K := K) (d + 2) (c := 1000 + (wdO w (kj B N s.2.2.1)).getD 0) h cw.1 hk24
      rw [← ask_c _ (ok_lt hok) w hw cw.2] at e1
      rw [if_pos cw, if_pos cw, show decide (nI 1 = (0 : Int32)) = false from rfl, cond_false, (r4 cw.1).2.2, e1, am_bd_some, q_app0, b_Reader_readAtom_48, e2, am_bd_some, q_app0, b_Reader_readAtom_52, b_Reader_readAtom_93]
      exact ⟨i2, rfl, hb, hf⟩
    · rw [if_neg cw, if_neg cw, show decide (nI 0 = (0 : Int32)) = true from rfl, cond_true, show decide (i 5 2 = (40 : Int32)) = isS B N 35 s from tk 35 rfl (by decide)]
      cases c35 : isS B N 35 s with
      | false =>
        obtain ⟨i1, e1, hb, hf⟩ := b_ref (l := l) (q := q) (K := K) (d + 2) (k := 2) (by decide) (by decide) h
        rw [cond_false, show (2 : Int32) = nI 2 from rfl, e1, am_bd_some, q_app0, b_Reader_readAtom_69, b_Reader_readAtom_93, if_neg (show ¬ (false = true) from by decide)]
        exact ⟨i1, rfl, hb, hf⟩
      | true =>
        have hss := of_decide_eq_true c35
        have hk24 : kj B N s.2.2.1 ≠ 24 := by rw [hss.2]; decide
        obtain ⟨i1, e1, hb1, hf1⟩ := b_enter (l := l) (q := q) (K := K) (d + 1) hr h hss.1 hk24
        have hgi : giS B N r s = if r = 0 then flS B N 4 s else nxS s := by unfold giS; rw [if_pos hss.1]
        rw [cond_true, e1, am_bd_some, q_app, b_Reader_readAtom_77, if_pos (show true = true from rfl)]
        by_cases c : r = 0
        · have hne : ¬ (giS B N r s).1 = 0 := by rw [hgi, if_pos c]; exact fl_ne (by decide)
          rw [if_pos c, show decide (nI 0 = (0 : Int32)) = true from rfl, cond_true, b_Reader_readAtom_93, if_neg hne]
          rw [if_pos c] at hf1
          exact ⟨i1, rfl, hb1, hf1⟩
        · have hz : (giS B N r s).1 = 0 := by rw [hgi, if_neg c]; exact hss.1
          obtain ⟨i2, e2, hb2, hf2⟩ := hsub c i1 (giS B N r s) hb1
          obtain ⟨i3, e3, hb3, hf3⟩ := b_exp (l := l) (q := q) (K := K) (d + 1) (k0 := 36) rfl (by decide) (by decide) hb2
          rw [if_neg c, show decide (nI 1 = (0 : Int32)) = false from rfl, cond_false, show nI (6 - r) + (1 : Int32) = nI (6 - (r - 1)) from by rw [show 6 - (r - 1) = 6 - r + 1 by omega]; exact nI_add _ 1, e2, am_bd_some, q_app0, b_Reader_readAtom_87, show (41 : Int32) = nI (ct 36) from rfl, e3, am_bd_some, q_app0, b_Reader_readAtom_93, if_pos hz]
          rw [if_neg c] at hf1
          exact ⟨i3, rfl, hb3, RFr_mo (RFr_tr hf1 (RFr_tr hf2 hf3)) (by decide)⟩
end
