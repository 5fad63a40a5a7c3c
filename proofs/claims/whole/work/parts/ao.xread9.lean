/-! THE CLASS: units, and laws at any depth -/
section
variable {i i' i'' : Nat → Nat → Int32} {l l' : Nat → Nat → Int64} {q q' : Nat → Nat → Option Nat} {K K' : List (Nat × Nat)} {B : Nat → Nat} {N M w o : Nat} {s : PS}
theorem isS_f {k : Nat} (h : s.1 ≠ 0) : isS B N k s = false := decide_eq_false (fun z => h z.1)
theorem flS_f {k : Nat} (h : s.1 ≠ 0) : flS B N k s = s := by unfold flS; rw [if_neg h]
theorem cdS_f {c : Nat} (h : s.1 ≠ 0) : cdS c s = s := by unfold cdS; rw [if_neg h]
theorem atS_f {law r : Nat} {sub : PS → PS} (h : s.1 ≠ 0) : atS B N law r sub s = s := by
  unfold atS
  rw [isS_f (k := 23) h, isS_f (k := 35) h, if_neg (by decide), if_neg (fun z => h z.1), if_neg (by decide), flS_f h]
theorem lpS_f {k c n : Nat} {F : PS → PS} (h : s.1 ≠ 0) : lpS B N k c F n s = s := by
  cases n with
  | zero => rfl
  | succ n => rw [lpS, isS_f h, if_neg (by decide)]
theorem plS_f {n : Nat} {F : PS → PS} (h : s.1 ≠ 0) : plS B N F n s = s := by
  cases n with
  | zero => rfl
  | succ n => rw [plS, isS_f (k := 32) h, isS_f (k := 33) h, if_neg (by decide), if_neg (by decide)]
theorem sm_f {law r : Nat} {sub : PS → PS} (h : s.1 ≠ 0) : smS B N (tmS B N (atS B N law r sub)) s = s := by
  have e : tmS B N (atS B N law r sub) s = s := by
    show lpS B N 34 3002 _ 1000 (atS B N law r sub s) = s
    rw [atS_f h, lpS_f h]
  show plS B N _ 1000 (tmS B N (atS B N law r sub) s) = s
  rw [e, plS_f h]
theorem sumL_f {law : Nat} (h : s.1 ≠ 0) : ∀ r, sumL B N law r s = s
  | 0 => sm_f h
  | _ + 1 => sm_f h
/-- a method of the class's reader does F -/
def Dt (B : Nat → Nat) (N M w o z : Nat) (x : Int32) (d : Nat) (l : Nat → Nat → Int64) (q : Nat → Nat → Option Nat) (K : List (Nat × Nat)) (F : PS → PS) : Prop := ∀ i s, RB B N M w o i s → ∃ i', am_cl d z [.ref 5, .int x] (i, l, rX q, kX K) = some (none, (i', l, rX q, kX K)) ∧ RB B N M w o i' (F s) ∧ RFr 0 i i'
theorem y_unit (d : Nat) {r : Nat} {sU sT : PS → PS} (hr : r ≤ 6) (hS : Dt B N M w o mReader_readSum (nI (6 - r)) (d + 4) l q K (sumL B N w r)) (hoU : r ≠ 0 → OkF B N sU) (hU : r ≠ 0 → Dt B N M w o mReader_readUnit (nI (6 - (r - 1))) (d + 4) l q K sU) (hTr : r ≠ 0 → Dt B N M w o mReader_readTruth (nI (6 - (r - 1))) (d + 4) l q K sT) : Dt B N M w o mReader_readUnit (nI (6 - r)) (d + 5) l q K (unS B N w r sU sT) := by
  intro i s h
  obtain ⟨hB, hT, hR, hC, hc, h6⟩ := id h
  have eN : r ≠ 0 → nI (6 - r) + (1 : Int32) = nI (6 - (r - 1)) := fun c => by rw [show 6 - (r - 1) = 6 - r + 1 by omega]; exact nI_add _ 1
  rw [c_Reader_readUnit, b_Reader_readUnit_0, decide_not, decide_not, show decide (i 5 2 = (147 : Int32)) = isS B N 19 s from tok_is (k0 := 19) rfl (by decide) hR, show decide (i 5 2 = (91 : Int32)) = isS B N 37 s from tok_is (k0 := 37) rfl (by decide) hR]
  unfold unS
  cases c19 : isS B N 19 s with
  | true =>
    have hss := of_decide_eq_true c19
    have hk24 : kj B N s.2.2.1 ≠ 24 := by rw [hss.2]; decide
    obtain ⟨i1, e1, hb1, hf1⟩ := b_enter (l := l) (q := q) (K := K) (d + 2) hr h hss.1 hk24
    rw [show (!true) = false from rfl, cond_false, e1, am_bd_some, q_app, b_Reader_readUnit_15, if_pos (show true = true from rfl)]
    by_cases c : r = 0
    · have hne : ¬ (giS B N r s).1 = 0 := fun z => (gi_0 z).1 c
      rw [if_pos c, show decide (nI 0 = (0 : Int32)) = true from rfl, cond_true, b_Reader_readUnit_32, if_neg hne]
      rw [if_pos c] at hf1
      exact ⟨i1, rfl, hb1, hf1⟩
    · have hgi : giS B N r s = nxS s := by unfold giS; rw [if_pos hss.1, if_neg c]
      have hz : (giS B N r s).1 = 0 := by rw [hgi]; exact hss.1
      obtain ⟨i2, e2, hb2, hf2⟩ := hU c i1 _ hb1
      obtain ⟨hpg, hlt⟩ := Pg_ncd (c := 3006) (hoU c) hc hk24
      obtain ⟨i3, e3, hb3, hf3⟩ := b_em (l := l) (q := q) (K := K) (d + 3) (c := 3006) hb2 (by rw [hgi]; exact hlt) (by rw [hgi]; exact Pg_cb hpg hc)
      rw [if_neg c, show decide (nI 1 = (0 : Int32)) = false from rfl, cond_false, eN c, e2, am_bd_some, q_app0, b_Reader_readUnit_25, show (1147 : Int32) = tc 3006 from rfl, e3, am_bd_some, q_app0, b_Reader_readUnit_32, if_pos hz]
      rw [if_neg c] at hf1
      exact ⟨i3, rfl, hb3, RFr_tr hf1 (RFr_tr hf2 hf3)⟩
  | false =>
    rw [show (!false) = true from rfl, cond_true, if_neg (show ¬ (false = true) from by decide)]
    cases c37 : isS B N 37 s with
    | true =>
      have hss := of_decide_eq_true c37
      have hk24 : kj B N s.2.2.1 ≠ 24 := by rw [hss.2]; decide
      obtain ⟨i1, e1, hb1, hf1⟩ := b_enter (l := l) (q := q) (K := K) (d + 2) hr h hss.1 hk24
      rw [show (!true) = false from rfl, cond_false, e1, am_bd_some, q_app, b_Reader_readUnit_47, if_pos (show true = true from rfl)]
      by_cases c : r = 0
      · have hne : ¬ (giS B N r s).1 = 0 := fun z => (gi_0 z).1 c
        rw [if_pos c, show decide (nI 0 = (0 : Int32)) = true from rfl, cond_true, b_Reader_readUnit_63, if_neg hne]
        rw [if_pos c] at hf1
        exact ⟨i1, rfl, hb1, hf1⟩
      · have hgi : giS B N r s = nxS s := by unfold giS; rw [if_pos hss.1, if_neg c]
        have hz : (giS B N r s).1 = 0 := by rw [hgi]; exact hss.1
        obtain ⟨i2, e2, hb2, hf2⟩ := hTr c i1 _ hb1
        obtain ⟨i3, e3, hb3, hf3⟩ := b_exp (l := l) (q := q) (K := K) (d + 2) (k0 := 38) rfl (by decide) (by decide) hb2
        rw [if_neg c, show decide (nI 1 = (0 : Int32)) = false from rfl, cond_false, eN c, e2, am_bd_some, q_app0, b_Reader_readUnit_57, show (93 : Int32) = nI (ct 38) from rfl, e3, am_bd_some, q_app0, b_Reader_readUnit_63, if_pos hz]
        rw [if_neg c] at hf1
        exact ⟨i3, rfl, hb3, RFr_mo (RFr_tr hf1 (RFr_tr hf2 hf3)) (by decide)⟩
    | false =>
      obtain ⟨i1, e1, hb1, hf1⟩ := hS i s h
      rw [show (!false) = true from rfl, cond_true, if_neg (show ¬ (false = true) from by decide), e1, am_bd_some, q_app0, b_Reader_readUnit_69]
      generalize sumL B N w r s = t at hb1 ⊢
      have hR1 := hb1.2.2.1
      have hc1 := hb1.2.2.2.2.1
      have go : ∀ k0, isS B N k0 t = true → k0 ≠ 24 → cmS B N t = nxS t → (1000 : Int32) + nI (ct k0) = tc (ccS B N t) → ∃ i', am_Ex (d + 4) mReader_readUnit 92 [.val (.ref 5), .val (.int (nI (6 - r))), .val (.int (i1 5 2))] [] (i1, l, rX q, kX K) = some (none, (i', l, rX q, kX K)) ∧ RB B N M w o i' (cdS (ccS B N t) (sumL B N w r (cmS B N t))) ∧ RFr 0 i i' := fun k0 hs0 h24 hcm htc => by
        have hss := of_decide_eq_true hs0
        have hk24 : kj B N t.2.2.1 ≠ 24 := by rw [hss.2]; exact h24
        obtain ⟨i2, e2, hb2, hf2⟩ := b_adv (l := l) (q := q) (K := K) (d + 3) hb1 hss.1 hk24
        obtain ⟨i3, e3, hb3, hf3⟩ := hS i2 _ hb2
        obtain ⟨hpg, hlt⟩ := Pg_ncd (c := ccS B N t) (ok_sumL (law := w) r) hc1 hk24
        obtain ⟨i4, e4, hb4, hf4⟩ := b_em (l := l) (q := q) (K := K) (d + 3) (c := ccS B N t) hb3 hlt (Pg_cb hpg hc1)
        rw [b_Reader_readUnit_92, e2, am_bd_some, q_app0, b_Reader_readUnit_96, e3, am_bd_some, q_app0, b_Reader_readUnit_101, (hR1.2.2.2 hss.1).2.2, hss.2, htc, e4, am_bd_some, q_app0, b_Reader_readUnit_110, b_Reader_readUnit_118, hcm]
        exact ⟨i4, rfl, hb4, RFr_tr hf1 (RFr_tr hf2 (RFr_tr hf3 hf4))⟩
      rw [decide_not, show decide (i1 5 2 = (61 : Int32)) = isS B N 39 t from tok_is (k0 := 39) rfl (by decide) hR1, show decide (i1 5 2 = (60 : Int32)) = isS B N 40 t from tok_is (k0 := 40) rfl (by decide) hR1, show decide (i1 5 2 = (62 : Int32)) = isS B N 41 t from tok_is (k0 := 41) rfl (by decide) hR1]
      cases c39 : isS B N 39 t with
      | true =>
        rw [cond_true]
        exact go 39 c39 (by decide) (by unfold cmS; rw [if_pos (Or.inl c39)]) (by unfold ccS; rw [if_pos c39]; rfl)
      | false =>
        have n39 : ¬ isS B N 39 t = true := by rw [c39]; decide
        rw [cond_false]
        cases c40 : isS B N 40 t with
        | true =>
          rw [cond_true]
          exact go 40 c40 (by decide) (by unfold cmS; rw [if_pos (Or.inr (Or.inl c40))]) (by unfold ccS; rw [if_neg n39, if_pos c40]; rfl)
        | false =>
          have n40 : ¬ isS B N 40 t = true := by rw [c40]; decide
          rw [cond_false]
          cases c41 : isS B N 41 t with
          | true =>
            rw [show (!true) = false from rfl, cond_false]
            exact go 41 c41 (by decide) (by unfold cmS; rw [if_pos (Or.inr (Or.inr c41))]) (by unfold ccS; rw [if_neg n39, if_neg n40]; rfl)
          | false =>
            have n41 : ¬ isS B N 41 t = true := by rw [c41]; decide
            have hcm : cmS B N t = flS B N 2 t := by unfold cmS; rw [if_neg (fun z => by rcases z with z | z | z; exact n39 z; exact n40 z; exact n41 z)]
            have hne : (flS B N 2 t).1 ≠ 0 := fl_ne (by decide)
            obtain ⟨i2, e2, hb2, hf2⟩ := b_ref (l := l) (q := q) (K := K) (d + 3) (k := 2) (by decide) (by decide) hb1
            rw [show (!false) = true from rfl, cond_true, show (2 : Int32) = nI 2 from rfl, e2, am_bd_some, q_app0, b_Reader_readUnit_118, hcm, sumL_f hne r, cdS_f hne]
            exact ⟨i2, rfl, hb2, RFr_tr hf1 hf2⟩
theorem y_sumL (hw : w < 2) : ∀ r, r ≤ 6 → ∀ d, Dt B N M w o mReader_readSum (nI (6 - r)) (d + 3 * r + 6) l q K (sumL B N w r)
  | 0, hr, d => by
    have a : Dt B N M w o mReader_readAtom (nI (6 - 0)) (d + 4) l q K (atS B N w 0 id) := fun i s h => y_atom d hw hr (fun z => absurd rfl z) h
    have b : Dt B N M w o mReader_readTerm (nI (6 - 0)) (d + 5) l q K (tmS B N (atS B N w 0 id)) := fun i s h => y_term d (ok_at (fun z => absurd rfl z)) a h
    exact fun i s h => y_sum (d + 1) (ok_lp (ok_at (fun z => absurd rfl z)) (by decide)) b h
  | r + 1, hr, d => by
    have ih := y_sumL hw r (by omega) d
    have a : Dt B N M w o mReader_readAtom (nI (6 - (r + 1))) (d + 3 * r + 3 + 4) l q K (atS B N w (r + 1) (sumL B N w r)) := fun i s h => y_atom (d + 3 * r + 3) hw hr (fun _ => ih) h
    have b : Dt B N M w o mReader_readTerm (nI (6 - (r + 1))) (d + 3 * r + 3 + 5) l q K (tmS B N (atS B N w (r + 1) (sumL B N w r))) := fun i s h => y_term (d + 3 * r + 3) (ok_at (fun _ => ok_sumL r)) a h
    rw [show d + 3 * (r + 1) + 6 = d + 3 * r + 4 + 5 by omega]
    exact fun i s h => y_sum (d + 3 * r + 4) (ok_lp (ok_at (fun _ => ok_sumL r)) (by decide)) b h
theorem y_untL (hw : w < 2) : ∀ r, r ≤ 6 → ∀ d, Dt B N M w o mReader_readUnit (nI (6 - r)) (d + 3 * r + 7) l q K (untL B N w r)
  | 0, hr, d => y_unit (d + 2) hr (y_sumL hw 0 hr d) (fun z => absurd rfl z) (fun z => absurd rfl z) (fun z => absurd rfl z)
  | r + 1, hr, d => by
    have ih := y_untL hw r (by omega) d
    have ih2 := y_untL hw r (by omega) (d + 2)
    have a : Dt B N M w o mReader_readBoth (nI (6 - r)) (d + 3 * r + 3 + 5) l q K (boS B N (untL B N w r)) := fun i s h => y_both (d + 3 * r + 3) (ok_untL r) ih h
    have b : Dt B N M w o mReader_readTruth (nI (6 - r)) (d + 3 * r + 4 + 5) l q K (trS B N (boS B N (untL B N w r))) := fun i s h => y_truth (d + 3 * r + 4) ok_boL a h
    have c := y_sumL (B := B) (N := N) (M := M) (o := o) (l := l) (q := q) (K := K) hw (r + 1) hr d
    rw [show d + 3 * (r + 1) + 6 = d + 3 * r + 5 + 4 by omega] at c
    rw [show d + 2 + 3 * r + 7 = d + 3 * r + 5 + 4 by omega] at ih2
    rw [show d + 3 * (r + 1) + 7 = d + 3 * r + 5 + 5 by omega]
    exact y_unit (d + 3 * r + 5) hr c (fun _ => ok_untL r) (fun _ => ih2) (fun _ => b)
theorem y_truL (hw : w < 2) (d : Nat) : Dt B N M w o mReader_readTruth (nI 0) (d + 27) l q K (truL B N w 6) := by
  have a : Dt B N M w o mReader_readBoth (nI 0) (d + 21 + 5) l q K (boS B N (untL B N w 6)) := fun i s h => y_both (d + 21) (ok_untL 6) (y_untL hw 6 (by decide) d) h
  exact fun i s h => y_truth (d + 22) ok_boL a h
end
