/-! PAIRS; THE MODEL -/
def itN {α : Type} (h : Nat → α → α) : Nat → α → α
  | 0, s => s
  | n + 1, s => h n (itN h n s)
/-- with whom each is, and 1; 0: with none -/
def gP (F : Nat → Nat → Bool) (P : Nat) : Nat → Nat → Nat → (Nat → Nat) → Nat × (Nat → Int32) → Nat × (Nat → Int32)
  | 0, _, _, _, s => s
  | f + 1, p, n, w, s => if p = P then (if s.1 ≤ n then (n + 1, fun k => mI (w k)) else s) else if w p ≠ 0 then gP F P f (p + 1) n w s
    else gP F P f (p + 1) n w (itN (fun k s => if w (p + 1 + k) ≠ 0 ∨ F p (p + 1 + k) = false then s else gP F P f (p + 1) (n + 1) (ug (ug w p (p + 1 + k + 1)) (p + 1 + k) (p + 1)) s) (P - (p + 1)) s)
def sFr (g : Nat → Nat) (p q : Nat) : Bool := sTrust g p q 1 && sTrust g q p 1
def prS (g : Nat → Nat) : Nat × (Nat → Int32) := gP (sFr g) (g 2) 5 0 0 (fun _ => 0) (0, fun _ => 0)
def v_pairs (g : Nat → Nat) (x : Int32) : Int32 := if x = nI 0 then mI (prS g).1 else if nI 10 ≤ x ∧ iB (x - nI 10) (g 2) = true then (prS g).2 (x - nI 10).toNatClampNeg else -nI 2
theorem q_mI {c : Nat} (hc : c < 1000) : (mI c = -nI 1) = (c = 0) := by
  unfold mI
  by_cases h : c = 0
  · rw [if_pos h]; exact propext ⟨fun _ => h, fun _ => rfl⟩
  · rw [if_neg h, q_m1 (by omega)]
    exact propext ⟨fun z => z.elim, fun z => absurd z h⟩
theorem itN_le {α : Type} {h : Nat → Nat × α → Nat × α} (hh : ∀ k s, s.1 ≤ 5 → (h k s).1 ≤ 5) : ∀ n s, s.1 ≤ 5 → (itN h n s).1 ≤ 5
  | 0, s, hs => hs
  | n + 1, s, hs => hh n _ (itN_le hh n s hs)
theorem gP_le {F : Nat → Nat → Bool} {P : Nat} (hP : P ≤ 4) : ∀ f p n w s, n ≤ p → p ≤ P → s.1 ≤ 5 → (gP F P f p n w s).1 ≤ 5
  | 0, p, n, w, s, _, _, hs => hs
  | f + 1, p, n, w, s, hn, hp, hs => by
    rw [gP]
    by_cases e : p = P
    · rw [if_pos e]
      split
      · show n + 1 ≤ 5; omega
      · exact hs
    · rw [if_neg e]
      by_cases hw : w p ≠ 0
      · rw [if_pos hw]; exact gP_le hP f _ _ _ _ (by omega) (by omega) hs
      · rw [if_neg hw]
        refine gP_le hP f _ _ _ _ (by omega) (by omega) (itN_le (fun k s hs => ?_) _ _ hs)
        split
        · exact hs
        · exact gP_le hP f _ _ _ _ (by omega) (by omega) hs
section
variable {l : Nat → Nat → Int64} {g : Nat → Nat}
theorem r_M_goesPairs (hW : WG g) : ∀ (f d : Nat) {i : Nat → Nat → Int32} {p n : Nat} {w : Nat → Nat} {s : Nat × (Nat → Int32)}, g 2 < p + f → p ≤ g 2 → n ≤ p → s.1 ≤ 5 → (∀ k, k < 4 → w k ≤ 4) → MA i g → (∀ k, k < 4 → i 18 k = mI (w k)) → i 0 38 = mI s.1 → (∀ k, k < 4 → i 19 k = s.2 k) → MR none (fun i' l' => l' = l ∧ Fx [5, 6, 18, 19, 138] i i' ∧ (∀ k, k < 4 → i' 18 k = mI (w k)) ∧ i' 0 38 = mI (gP (sFr g) (g 2) f p n w s).1 ∧ ∀ k, k < 4 → i' 19 k = (gP (sFr g) (g 2) f p n w s).2 k) (am_cl (d + f + 3) mM_goesPairs [.ref 0, .int (nI p), .int (nI n)] (i, l, rM, kM)) := by
  have hW' := hW
  obtain ⟨⟨h1', h1⟩, h2, h3, hR, hF', hP, hSt, hD', hL0, hL1, hV⟩ := hW
  intro f
  induction f with
  | zero => intro d i p n w s hf; omega
  | succ f ih =>
    intro d i p n w s hf hp hn hs hw hA h18 h38 h19
    have hA' : ∀ k, k < 3222 → i 1 k = nI (g k) := hA
    have hlt := mI_lt (a := s.1) (b := n) (by omega) (by omega)
    rw [gP]
    refine MR_q ?_
    intro Q hQ
    rw [show d + (f + 1) + 3 = d + f + 3 + 1 by omega, c_M_goesPairs, b_M_goesPairs_0]
    by_cases e : p = g 2
    · rw [if_pos e] at hQ
      by_cases hb : s.1 ≤ n
      · rw [if_pos hb] at hQ
        simp (disch := first | assumption | omega) only [b_M_goesPairs_0, b_M_goesPairs_68, b_M_goesPairs_100, b_M_goesPairs_110, b_M_goesPairs_140, b_M_goesPairs_154, b_M_goesPairs_168, ↓Bool.cond_decide, ↓q_in, q_le, q_lt, q_eq, q_leT, q_leF, q_ltT, q_ltF, q_eqT, q_eqF, ↓reduceIte, not_true_eq_false, not_false_eq_true, true_and, and_true, and_self, false_and, and_false, Nat.zero_le, am_bd_some, q_app, q_app0, nI_add, pk_sub, pk_mul, q_dec, q_ix, q_m1, q_m1', ↓q_ret, q_bool, q_bool1, q_u1, q_shl1, q_shr, q_and7, q_dg, fa_or, fa_and, decide_true, decide_false, Bool.or_false, Bool.or_true, Bool.true_or, Bool.false_or, cond_true, cond_false, ite_not, q_some, q_nn, q_xor, q_xorm, Bool.false_eq_true, decide_eq_true_eq, ne_eq, l_0, l_1, l_2, l_3, l_4, l_5, l_9, l_13, l_17, l_18, l_19, l_23, l_26, l_36, l_38, l_68, l_73, l_100, l_110, l_140, l_154, l_168, hA', h38, hlt, hb]
        refine am_loop (fun k ls st => ∃ i' z1 z2, ls = [.val (.ref 0), z1, z2, .val (.int (nI k))] ∧ st = (i', l, rM, kM) ∧ Fx [19, 138] i i' ∧ i' 0 38 = nI n ∧ ∀ j, j < k → i' 19 j = mI (w j)) 4 _ (fun k ls st hk hI => ?_) (fun ls st hI => ?_) ⟨_, _, _, rfl, rfl, by (repeat (first | exact Fx_refl _ _ | assumption | refine Fx_u2 rfl ?_ | refine Fx_u1 rfl (by decide) ?_ | refine Fx_step (by assumption) rfl ?_ | refine Fx_stepr (by assumption) rfl rfl ?_)), rfl, fun j hj => by omega⟩
        · obtain ⟨i2, z1, z2, e1, e2, hf2, h38', h19'⟩ := hI
          subst e1; subst e2
          have h18k : i2 18 k = mI (w k) := by rw [Fx_row hf2 (by decide) rfl]; exact h18 k hk
          rw [b_M_goesPairs_26]
          simp (disch := first | assumption | omega) only [b_M_goesPairs_0, b_M_goesPairs_68, b_M_goesPairs_100, b_M_goesPairs_110, b_M_goesPairs_140, b_M_goesPairs_154, b_M_goesPairs_168, ↓Bool.cond_decide, ↓q_in, q_le, q_lt, q_eq, q_leT, q_leF, q_ltT, q_ltF, q_eqT, q_eqF, ↓reduceIte, not_true_eq_false, not_false_eq_true, true_and, and_true, and_self, false_and, and_false, Nat.zero_le, am_bd_some, q_app, q_app0, nI_add, pk_sub, pk_mul, q_dec, q_ix, q_m1, q_m1', ↓q_ret, q_bool, q_bool1, q_u1, q_shl1, q_shr, q_and7, q_dg, fa_or, fa_and, decide_true, decide_false, Bool.or_false, Bool.or_true, Bool.true_or, Bool.false_or, cond_true, cond_false, ite_not, q_some, q_nn, q_xor, q_xorm, Bool.false_eq_true, decide_eq_true_eq, ne_eq, l_0, l_1, l_2, l_3, l_4, l_5, l_9, l_13, l_17, l_18, l_19, l_23, l_26, l_36, l_38, l_68, l_73, l_100, l_110, l_140, l_154, l_168, h18k]
          refine Go_in ⟨_, _, _, rfl, rfl, by (repeat (first | exact Fx_refl _ _ | assumption | refine Fx_u2 rfl ?_ | refine Fx_u1 rfl (by decide) ?_ | refine Fx_step (by assumption) rfl ?_ | refine Fx_stepr (by assumption) rfl rfl ?_)), h38', fun j hj => ?_⟩
          show (if j = k then mI (w k) else i2 19 j) = _
          by_cases ej : j = k
          · rw [if_pos ej, ej]
          · rw [if_neg ej]; exact h19' j (by omega)
        · obtain ⟨i2, z1, z2, e1, e2, hf2, h38', h19'⟩ := hI
          subst e1; subst e2
          rw [b_M_goesPairs_26]
          simp (disch := first | assumption | omega) only [b_M_goesPairs_0, b_M_goesPairs_68, b_M_goesPairs_100, b_M_goesPairs_110, b_M_goesPairs_140, b_M_goesPairs_154, b_M_goesPairs_168, ↓Bool.cond_decide, ↓q_in, q_le, q_lt, q_eq, q_leT, q_leF, q_ltT, q_ltF, q_eqT, q_eqF, ↓reduceIte, not_true_eq_false, not_false_eq_true, true_and, and_true, and_self, false_and, and_false, Nat.zero_le, am_bd_some, q_app, q_app0, nI_add, pk_sub, pk_mul, q_dec, q_ix, q_m1, q_m1', ↓q_ret, q_bool, q_bool1, q_u2, q_u1, q_shl1, q_shr, q_and7, q_dg, fa_or, fa_and, decide_true, decide_false, Bool.or_false, Bool.or_true, Bool.true_or, Bool.false_or, cond_true, cond_false, ite_not, q_some, q_nn, q_xor, q_xorm, Bool.false_eq_true, decide_eq_true_eq, ne_eq, l_0, l_1, l_2, l_3, l_4, l_5, l_9, l_13, l_17, l_18, l_19, l_23, l_26, l_36, l_38, l_68, l_73, l_100, l_110, l_140, l_154, l_168]
          exact MR_some (hQ _ _ ⟨rfl, by (repeat (first | exact Fx_refl _ _ | assumption | refine Fx_u2 rfl ?_ | refine Fx_u1 rfl (by decide) ?_ | refine Fx_step (by assumption) rfl ?_ | refine Fx_stepr (by assumption) rfl rfl ?_)), fun k hk => by rw [Fx_row hf2 (by decide) rfl]; exact h18 k hk, h38', h19'⟩)
      · rw [if_neg hb] at hQ
        simp (disch := first | assumption | omega) only [b_M_goesPairs_0, b_M_goesPairs_68, b_M_goesPairs_100, b_M_goesPairs_110, b_M_goesPairs_140, b_M_goesPairs_154, b_M_goesPairs_168, ↓Bool.cond_decide, ↓q_in, q_le, q_lt, q_eq, q_leT, q_leF, q_ltT, q_ltF, q_eqT, q_eqF, ↓reduceIte, not_true_eq_false, not_false_eq_true, true_and, and_true, and_self, false_and, and_false, Nat.zero_le, am_bd_some, q_app, q_app0, nI_add, pk_sub, pk_mul, q_dec, q_ix, q_m1, q_m1', ↓q_ret, q_bool, q_bool1, q_u2, q_u1, q_shl1, q_shr, q_and7, q_dg, fa_or, fa_and, decide_true, decide_false, Bool.or_false, Bool.or_true, Bool.true_or, Bool.false_or, cond_true, cond_false, ite_not, q_some, q_nn, q_xor, q_xorm, Bool.false_eq_true, decide_eq_true_eq, ne_eq, l_0, l_1, l_2, l_3, l_4, l_5, l_9, l_13, l_17, l_18, l_19, l_23, l_26, l_36, l_38, l_68, l_73, l_100, l_110, l_140, l_154, l_168, hA', h38, hlt, hb]
        exact MR_some (hQ _ _ ⟨rfl, Fx_refl _ _, h18, h38, h19⟩)
    · rw [if_neg e] at hQ
      have hp4 : p < 4 := by omega
      have h18p := h18 p hp4
      have hwp := hw p hp4
      have hmi := q_mI (c := w p) (by omega)
      by_cases hwz : w p ≠ 0
      · rw [if_pos hwz] at hQ
        obtain ⟨i2, l2, e2, hl2, hf2, a1, a2, a3⟩ := ih d (i := i) (p := p + 1) (n := n) (w := w) (s := s) (by omega) (by omega) (by omega) hs hw hA h18 h38 h19
        subst hl2
        have hwz' : (w p = 0) = False := eq_false hwz
        simp (disch := first | assumption | omega) only [b_M_goesPairs_0, b_M_goesPairs_68, b_M_goesPairs_100, b_M_goesPairs_110, b_M_goesPairs_140, b_M_goesPairs_154, b_M_goesPairs_168, ↓Bool.cond_decide, ↓q_in, q_le, q_lt, q_eq, q_leT, q_leF, q_ltT, q_ltF, q_eqT, q_eqF, ↓reduceIte, not_true_eq_false, not_false_eq_true, true_and, and_true, and_self, false_and, and_false, Nat.zero_le, am_bd_some, q_app, q_app0, nI_add, pk_sub, pk_mul, q_dec, q_ix, q_m1, q_m1', ↓q_ret, q_bool, q_bool1, q_u2, q_u1, q_shl1, q_shr, q_and7, q_dg, fa_or, fa_and, decide_true, decide_false, Bool.or_false, Bool.or_true, Bool.true_or, Bool.false_or, cond_true, cond_false, ite_not, q_some, q_nn, q_xor, q_xorm, Bool.false_eq_true, decide_eq_true_eq, ne_eq, l_0, l_1, l_2, l_3, l_4, l_5, l_9, l_13, l_17, l_18, l_19, l_23, l_26, l_36, l_38, l_68, l_73, l_100, l_110, l_140, l_154, l_168, hA', h18p, hmi, hwz', e2]
        exact MR_some (hQ _ _ ⟨rfl, hf2, a1, a2, a3⟩)
      · rw [if_neg hwz] at hQ
        have hw0 : w p = 0 := Classical.byContradiction hwz
        have hw0' : (w p = 0) = True := eq_true hw0
        simp (disch := first | assumption | omega) only [b_M_goesPairs_0, b_M_goesPairs_68, b_M_goesPairs_100, b_M_goesPairs_110, b_M_goesPairs_140, b_M_goesPairs_154, b_M_goesPairs_168, ↓Bool.cond_decide, ↓q_in, q_le, q_lt, q_eq, q_leT, q_leF, q_ltT, q_ltF, q_eqT, q_eqF, ↓reduceIte, not_true_eq_false, not_false_eq_true, true_and, and_true, and_self, false_and, and_false, Nat.zero_le, am_bd_some, q_app, q_app0, nI_add, pk_sub, pk_mul, q_dec, q_ix, q_m1, q_m1', ↓q_ret, q_bool, q_bool1, q_u2, q_u1, q_shl1, q_shr, q_and7, q_dg, fa_or, fa_and, decide_true, decide_false, Bool.or_false, Bool.or_true, Bool.true_or, Bool.false_or, cond_true, cond_false, ite_not, q_some, q_nn, q_xor, q_xorm, Bool.false_eq_true, decide_eq_true_eq, ne_eq, l_0, l_1, l_2, l_3, l_4, l_5, l_9, l_13, l_17, l_18, l_19, l_23, l_26, l_36, l_38, l_68, l_73, l_100, l_110, l_140, l_154, l_168, hA', h18p, hmi, hw0']
        have e0 : p + 1 = p + 1 + 0 := rfl
        let H : Nat → Nat × (Nat → Int32) → Nat × (Nat → Int32) := fun k s => if w (p + 1 + k) ≠ 0 ∨ sFr g p (p + 1 + k) = false then s else gP (sFr g) (g 2) f (p + 1) (n + 1) (ug (ug w p (p + 1 + k + 1)) (p + 1 + k) (p + 1)) s
        have hH : ∀ k s, H k s = if w (p + 1 + k) ≠ 0 ∨ sFr g p (p + 1 + k) = false then s else gP (sFr g) (g 2) f (p + 1) (n + 1) (ug (ug w p (p + 1 + k + 1)) (p + 1 + k) (p + 1)) s := fun _ _ => rfl
        have hHl : ∀ n s, s.1 ≤ 5 → (itN H n s).1 ≤ 5 := fun m s hs => itN_le (fun k s hs => by
          rw [hH]
          split
          · exact hs
          · exact gP_le h2 f _ _ _ _ (by omega) (by omega) hs) m s hs
        have hQ : ∀ i' l', (l' = l ∧ Fx [5, 6, 18, 19, 138] i i' ∧ (∀ k, k < 4 → i' 18 k = mI (w k)) ∧ i' 0 38 = mI (gP (sFr g) (g 2) f (p + 1) n w (itN H (g 2 - (p + 1)) s)).1 ∧ ∀ k, k < 4 → i' 19 k = (gP (sFr g) (g 2) f (p + 1) n w (itN H (g 2 - (p + 1)) s)).2 k) → Q i' l' := hQ
        clear_value H
        refine am_loop (fun k ls st => ∃ i', ls = [.val (.ref 0), .val (.int (nI p)), .val (.int (nI n)), .val (.int (nI (p + 1 + k)))] ∧ st = (i', l, rM, kM) ∧ Fx [5, 6, 18, 19, 138] i i' ∧ (∀ k, k < 4 → i' 18 k = mI (w k)) ∧ i' 0 38 = mI (itN H k s).1 ∧ ∀ j, j < 4 → i' 19 j = (itN H k s).2 j) (g 2 - (p + 1)) _ (fun k ls st hk hI => ?_) (fun ls st hI => ?_) ⟨i, rfl, rfl, Fx_refl _ _, h18, h38, h19⟩
        · obtain ⟨i1, e1, e2, hf1, a1, a2, a3⟩ := hI
          subst e1; subst e2
          have hA1 : ∀ k, k < 3222 → i1 1 k = nI (g k) := MA_fx hf1 hA rfl
          have hM1 : MA i1 g := hA1
          have hq4 : p + 1 + k < 4 := by omega
          have h18q := a1 (p + 1 + k) hq4
          have hwq := hw (p + 1 + k) hq4
          have hmiq := q_mI (c := w (p + 1 + k)) (by omega)
          have eI : itN H (k + 1) s = H k (itN H k s) := rfl
          have same : ∀ i2, Fx [5, 6] i1 i2 → H k (itN H k s) = itN H k s → Go (d + f + 3) mM_goesPairs 73 (fun ls st => ∃ i', ls = [.val (.ref 0), .val (.int (nI p)), .val (.int (nI n)), .val (.int (nI (p + 1 + (k + 1))))] ∧ st = (i', l, rM, kM) ∧ Fx [5, 6, 18, 19, 138] i i' ∧ (∀ k, k < 4 → i' 18 k = mI (w k)) ∧ i' 0 38 = mI (itN H (k + 1) s).1 ∧ ∀ j, j < 4 → i' 19 j = (itN H (k + 1) s).2 j) (am_Ex (d + f + 3) mM_goesPairs 73 [.val (.ref 0), .val (.int (nI p)), .val (.int (nI n)), .val (.int (nI (p + 1 + k + 1)))] [] (i2, l, rM, kM)) := by
            intro i2 hf2 hh
            rw [eI, hh]
            refine Go_in ⟨i2, rfl, rfl, by (repeat (first | exact Fx_refl _ _ | assumption | refine Fx_u2 rfl ?_ | refine Fx_u1 rfl (by decide) ?_ | refine Fx_step (by assumption) rfl ?_ | refine Fx_stepr (by assumption) rfl rfl ?_)), fun j hj => ?_, ?_, fun j hj => ?_⟩
            · rw [Fx_row hf2 (by decide) rfl]; exact a1 j hj
            · rw [hf2 0 38 rfl]; exact a2
            · rw [Fx_row hf2 (by decide) rfl]; exact a3 j hj
          rw [b_M_goesPairs_73]
          by_cases hwz2 : w (p + 1 + k) ≠ 0
          · have hwz' : (w (p + 1 + k) = 0) = False := eq_false hwz2
            simp (disch := first | assumption | omega) only [b_M_goesPairs_0, b_M_goesPairs_68, b_M_goesPairs_100, b_M_goesPairs_110, b_M_goesPairs_140, b_M_goesPairs_154, b_M_goesPairs_168, ↓Bool.cond_decide, ↓q_in, q_le, q_lt, q_eq, q_leT, q_leF, q_ltT, q_ltF, q_eqT, q_eqF, ↓reduceIte, not_true_eq_false, not_false_eq_true, true_and, and_true, and_self, false_and, and_false, Nat.zero_le, am_bd_some, q_app, q_app0, nI_add, pk_sub, pk_mul, q_dec, q_ix, q_m1, q_m1', ↓q_ret, q_bool, q_bool1, q_u2, q_u1, q_shl1, q_shr, q_and7, q_dg, fa_or, fa_and, decide_true, decide_false, Bool.or_false, Bool.or_true, Bool.true_or, Bool.false_or, cond_true, cond_false, ite_not, q_some, q_nn, q_xor, q_xorm, Bool.false_eq_true, decide_eq_true_eq, ne_eq, l_0, l_1, l_2, l_3, l_4, l_5, l_9, l_13, l_17, l_18, l_19, l_23, l_26, l_36, l_38, l_68, l_73, l_100, l_110, l_140, l_154, l_168, hA1, h18q, hmiq, hwz']
            exact same i1 (Fx_refl _ _) (by rw [hH, if_pos (Or.inl hwz2)])
          · have hwq0 : w (p + 1 + k) = 0 := Classical.byContradiction hwz2
            have hwz' : (w (p + 1 + k) = 0) = True := eq_true hwq0
            obtain ⟨i2, l2, e2, hl2, hf2⟩ := r_M_trustsFor (i := i1) (l := l) (d + f) (p := p) (q := p + 1 + k) (gap := 1) hp4 hq4 hM1 hL1
            subst hl2
            have hf2x : Fx [5, 6] i1 i2 := by (repeat (first | exact Fx_refl _ _ | assumption | refine Fx_u2 rfl ?_ | refine Fx_u1 rfl (by decide) ?_ | refine Fx_step (by assumption) rfl ?_ | refine Fx_stepr (by assumption) rfl rfl ?_))
            have hM2 : MA i2 g := MA_fx hf2x hM1 rfl
            cases ht : sTrust g p (p + 1 + k) 1 with
            | false =>
              simp (disch := first | assumption | omega) only [b_M_goesPairs_0, b_M_goesPairs_68, b_M_goesPairs_100, b_M_goesPairs_110, b_M_goesPairs_140, b_M_goesPairs_154, b_M_goesPairs_168, ↓Bool.cond_decide, ↓q_in, q_le, q_lt, q_eq, q_leT, q_leF, q_ltT, q_ltF, q_eqT, q_eqF, ↓reduceIte, not_true_eq_false, not_false_eq_true, true_and, and_true, and_self, false_and, and_false, Nat.zero_le, am_bd_some, q_app, q_app0, nI_add, pk_sub, pk_mul, q_dec, q_ix, q_m1, q_m1', ↓q_ret, q_bool, q_bool1, q_u2, q_u1, q_shl1, q_shr, q_and7, q_dg, fa_or, fa_and, decide_true, decide_false, Bool.or_false, Bool.or_true, Bool.true_or, Bool.false_or, cond_true, cond_false, ite_not, q_some, q_nn, q_xor, q_xorm, Bool.false_eq_true, decide_eq_true_eq, ne_eq, l_0, l_1, l_2, l_3, l_4, l_5, l_9, l_13, l_17, l_18, l_19, l_23, l_26, l_36, l_38, l_68, l_73, l_100, l_110, l_140, l_154, l_168, hA1, h18q, hmiq, hwz', e2, ht]
              exact same i2 hf2x (by rw [hH, if_pos (Or.inr (by unfold sFr; rw [ht]; rfl))])
            | true =>
              obtain ⟨i3, l3, e3, hl3, hf3⟩ := r_M_trustsFor (i := i2) (l := l2) (d + f) (p := p + 1 + k) (q := p) (gap := 1) hq4 hp4 hM2 hL1
              subst hl3
              have hf3x : Fx [5, 6] i1 i3 := by (repeat (first | exact Fx_refl _ _ | assumption | refine Fx_u2 rfl ?_ | refine Fx_u1 rfl (by decide) ?_ | refine Fx_step (by assumption) rfl ?_ | refine Fx_stepr (by assumption) rfl rfl ?_))
              have hM3 : MA i3 g := MA_fx hf3x hM1 rfl
              cases ht2 : sTrust g (p + 1 + k) p 1 with
              | false =>
                simp (disch := first | assumption | omega) only [b_M_goesPairs_0, b_M_goesPairs_68, b_M_goesPairs_100, b_M_goesPairs_110, b_M_goesPairs_140, b_M_goesPairs_154, b_M_goesPairs_168, ↓Bool.cond_decide, ↓q_in, q_le, q_lt, q_eq, q_leT, q_leF, q_ltT, q_ltF, q_eqT, q_eqF, ↓reduceIte, not_true_eq_false, not_false_eq_true, true_and, and_true, and_self, false_and, and_false, Nat.zero_le, am_bd_some, q_app, q_app0, nI_add, pk_sub, pk_mul, q_dec, q_ix, q_m1, q_m1', ↓q_ret, q_bool, q_bool1, q_u2, q_u1, q_shl1, q_shr, q_and7, q_dg, fa_or, fa_and, decide_true, decide_false, Bool.or_false, Bool.or_true, Bool.true_or, Bool.false_or, cond_true, cond_false, ite_not, q_some, q_nn, q_xor, q_xorm, Bool.false_eq_true, decide_eq_true_eq, ne_eq, l_0, l_1, l_2, l_3, l_4, l_5, l_9, l_13, l_17, l_18, l_19, l_23, l_26, l_36, l_38, l_68, l_73, l_100, l_110, l_140, l_154, l_168, hA1, h18q, hmiq, hwz', e2, ht, e3, ht2]
                exact same i3 hf3x (by rw [hH, if_pos (Or.inr (by unfold sFr; rw [ht, ht2]; rfl))])
              | true =>
                have hfr : sFr g p (p + 1 + k) = true := by unfold sFr; rw [ht, ht2]; rfl
                have hf4 : Fx [5, 6, 18] i1 (am_u2 (am_u2 i3 18 p (nI (p + 1 + k))) 18 (p + 1 + k) (nI p)) := by (repeat (first | exact Fx_refl _ _ | assumption | refine Fx_u2 rfl ?_ | refine Fx_u1 rfl (by decide) ?_ | refine Fx_step (by assumption) rfl ?_ | refine Fx_stepr (by assumption) rfl rfl ?_))
                have hw4 : ∀ j, j < 4 → ug (ug w p (p + 1 + k + 1)) (p + 1 + k) (p + 1) j ≤ 4 := fun j hj => by
                  unfold ug; repeat' split
                  · omega
                  · omega
                  · exact hw j hj
                have h184 : ∀ j, j < 4 → am_u2 (am_u2 i3 18 p (nI (p + 1 + k))) 18 (p + 1 + k) (nI p) 18 j = mI (ug (ug w p (p + 1 + k + 1)) (p + 1 + k) (p + 1) j) := fun j hj => by
                  show (if j = p + 1 + k then nI p else (if j = p then nI (p + 1 + k) else i3 18 j)) = mI (if j = p + 1 + k then p + 1 else (if j = p then p + 1 + k + 1 else w j))
                  by_cases c1 : j = p + 1 + k
                  · rw [if_pos c1, if_pos c1]; rfl
                  · rw [if_neg c1, if_neg c1]
                    by_cases c2 : j = p
                    · rw [if_pos c2, if_pos c2]; rfl
                    · rw [if_neg c2, if_neg c2, Fx_row hf3x (by decide) rfl]; exact a1 j hj
                obtain ⟨i5, l5, e5, hl5, hf5, c1, c2, c3⟩ := ih d (i := am_u2 (am_u2 i3 18 p (nI (p + 1 + k))) 18 (p + 1 + k) (nI p)) (p := p + 1) (n := n + 1) (w := ug (ug w p (p + 1 + k + 1)) (p + 1 + k) (p + 1)) (s := itN H k s) (by omega) (by omega) (by omega) (hHl k s hs) hw4 (MA_fx hf4 hM1 rfl) h184 (by rw [hf4 0 38 rfl]; exact a2) (fun j hj => by rw [Fx_row hf4 (by decide) rfl]; exact a3 j hj)
                subst hl5
                simp (disch := first | assumption | omega) only [b_M_goesPairs_0, b_M_goesPairs_68, b_M_goesPairs_100, b_M_goesPairs_110, b_M_goesPairs_140, b_M_goesPairs_154, b_M_goesPairs_168, ↓Bool.cond_decide, ↓q_in, q_le, q_lt, q_eq, q_leT, q_leF, q_ltT, q_ltF, q_eqT, q_eqF, ↓reduceIte, not_true_eq_false, not_false_eq_true, true_and, and_true, and_self, false_and, and_false, Nat.zero_le, am_bd_some, q_app, q_app0, nI_add, pk_sub, pk_mul, q_dec, q_ix, q_m1, q_m1', ↓q_ret, q_bool, q_bool1, q_u1, q_shl1, q_shr, q_and7, q_dg, fa_or, fa_and, decide_true, decide_false, Bool.or_false, Bool.or_true, Bool.true_or, Bool.false_or, cond_true, cond_false, ite_not, q_some, q_nn, q_xor, q_xorm, Bool.false_eq_true, decide_eq_true_eq, ne_eq, l_0, l_1, l_2, l_3, l_4, l_5, l_9, l_13, l_17, l_18, l_19, l_23, l_26, l_36, l_38, l_68, l_73, l_100, l_110, l_140, l_154, l_168, hA1, h18q, hmiq, hwz', e2, ht, e3, ht2, e5]
                have eIH : itN H (k + 1) s = gP (sFr g) (g 2) f (p + 1) (n + 1) (ug (ug w p (p + 1 + k + 1)) (p + 1 + k) (p + 1)) (itN H k s) := by
                  rw [eI, hH, if_neg]
                  rintro (z | z)
                  · exact z hwq0
                  · rw [hfr] at z; cases z
                rw [← eIH] at c2 c3
                refine Go_in ⟨_, rfl, rfl, by (repeat (first | exact Fx_refl _ _ | assumption | refine Fx_u2 rfl ?_ | refine Fx_u1 rfl (by decide) ?_ | refine Fx_step (by assumption) rfl ?_ | refine Fx_stepr (by assumption) rfl rfl ?_)), fun j hj => ?_, c2, c3⟩
                show (if j = p + 1 + k then -nI 1 else (if j = p then -nI 1 else i5 18 j)) = mI (w j)
                by_cases d1 : j = p + 1 + k
                · rw [if_pos d1, d1, hwq0]; rfl
                · rw [if_neg d1]
                  by_cases d2 : j = p
                  · rw [if_pos d2, d2, hw0]; rfl
                  · rw [if_neg d2, c1 j hj]
                    unfold ug
                    rw [if_neg d1, if_neg d2]
        · obtain ⟨i1, e1, e2, hf1, a1, a2, a3⟩ := hI
          subst e1; subst e2
          have hA1 : ∀ k, k < 3222 → i1 1 k = nI (g k) := MA_fx hf1 hA rfl
          obtain ⟨i2, l2, e2, hl2, hf2, c1, c2, c3⟩ := ih d (i := i1) (p := p + 1) (n := n) (w := w) (s := itN H (g 2 - (p + 1)) s) (by omega) (by omega) (by omega) (hHl _ s hs) hw (MA_fx hf1 hA rfl) a1 a2 a3
          subst hl2
          rw [b_M_goesPairs_73]
          simp (disch := first | assumption | omega) only [b_M_goesPairs_0, b_M_goesPairs_68, b_M_goesPairs_100, b_M_goesPairs_110, b_M_goesPairs_140, b_M_goesPairs_154, b_M_goesPairs_168, ↓Bool.cond_decide, ↓q_in, q_le, q_lt, q_eq, q_leT, q_leF, q_ltT, q_ltF, q_eqT, q_eqF, ↓reduceIte, not_true_eq_false, not_false_eq_true, true_and, and_true, and_self, false_and, and_false, Nat.zero_le, am_bd_some, q_app, q_app0, nI_add, pk_sub, pk_mul, q_dec, q_ix, q_m1, q_m1', ↓q_ret, q_bool, q_bool1, q_u2, q_u1, q_shl1, q_shr, q_and7, q_dg, fa_or, fa_and, decide_true, decide_false, Bool.or_false, Bool.or_true, Bool.true_or, Bool.false_or, cond_true, cond_false, ite_not, q_some, q_nn, q_xor, q_xorm, Bool.false_eq_true, decide_eq_true_eq, ne_eq, l_0, l_1, l_2, l_3, l_4, l_5, l_9, l_13, l_17, l_18, l_19, l_23, l_26, l_36, l_38, l_68, l_73, l_100, l_110, l_140, l_154, l_168, hA1, e2]
          exact MR_some (hQ _ _ ⟨rfl, by (repeat (first | exact Fx_refl _ _ | assumption | refine Fx_u2 rfl ?_ | refine Fx_u1 rfl (by decide) ?_ | refine Fx_step (by assumption) rfl ?_ | refine Fx_stepr (by assumption) rfl rfl ?_)), c1, c2, c3⟩)
end
section
variable {i : Nat → Nat → Int32} {l : Nat → Nat → Int64} {g : Nat → Nat}
theorem gP_pos {F : Nat → Nat → Bool} {P : Nat} : ∀ f p n w s, P < p + f → p ≤ P → 0 < (gP F P f p n w s).1
  | 0, p, n, w, s, h, h2 => by omega
  | f + 1, p, n, w, s, h, h2 => by
    rw [gP]
    by_cases e : p = P
    · rw [if_pos e]
      split
      · exact Nat.succ_pos _
      · omega
    · rw [if_neg e]
      by_cases hw : w p ≠ 0
      · rw [if_pos hw]; exact gP_pos f _ _ _ _ (by omega) (by omega)
      · rw [if_neg hw]; exact gP_pos f _ _ _ _ (by omega) (by omega)
theorem gP_w {F : Nat → Nat → Bool} {P : Nat} : ∀ f p n w s s', (s.1 = s'.1 ∧ (s.1 ≠ 0 → s.2 = s'.2)) → ((gP F P f p n w s).1 = (gP F P f p n w s').1 ∧ ((gP F P f p n w s).1 ≠ 0 → (gP F P f p n w s).2 = (gP F P f p n w s').2))
  | 0, p, n, w, s, s', h => h
  | f + 1, p, n, w, s, s', h => by
    rw [gP, gP]
    by_cases e : p = P
    · rw [if_pos e, if_pos e, ← h.1]
      split
      · exact ⟨rfl, fun _ => rfl⟩
      · exact ⟨h.1, h.2⟩
    · rw [if_neg e, if_neg e]
      by_cases hw : w p ≠ 0
      · rw [if_pos hw, if_pos hw]; exact gP_w f _ _ _ _ _ h
      · rw [if_neg hw, if_neg hw]
        refine gP_w f _ _ _ _ _ ?_
        generalize P - (p + 1) = m
        induction m with
        | zero => exact h
        | succ m ih =>
          simp only [itN]
          split
          · exact ih
          · exact gP_w f _ _ _ _ _ ih
theorem r_M_pairs (d : Nat) (x : Int32) {σ : St} (hS : MS i l σ) (hW : WG σ.1) : MR (some (.int (v_pairs σ.1 x))) (fun i' l' => MS i' l' (σ)) (am_cl (d + 9) mM_pairs [.ref 0, .int x] (i, l, rM, kM)) := by
  have hW' := hW
  obtain ⟨g, σ⟩ := σ
  obtain ⟨⟨h1', h1⟩, h2, h3, hR, hF, hP, hSt, hD, hL0, hL1, hV⟩ := hW
  have h1 : g 1 ≤ 6 := h1
  have h2 : g 2 ≤ 4 := h2
  have hR : ∀ p, p < 4 → g (10 + p) ≤ 4 := hR
  have hP : ∀ p, p < 4 → g (18 + p) < 8 := hP
  have hSt : ∀ p, p < 4 → g (22 + p) ≤ 9 := hSt
  have hD : ∀ s, s < 6 → g (26 + s) ≤ 9 := hD
  have hA := hS.1
  have hn := sNow_lt g hP 4 (by decide)
  have hf0 : Fx [100] i (am_u2 i 0 0 (nI 0)) := by (repeat (first | exact Fx_refl _ _ | assumption | refine Fx_u2 rfl ?_ | refine Fx_u1 rfl (by decide) ?_ | refine Fx_step (by assumption) rfl ?_ | refine Fx_stepr (by assumption) rfl rfl ?_))
  have hM0 : MA (am_u2 i 0 0 (nI 0)) g := MA_fx hf0 hA rfl
  have hM0' : ∀ k, k < 3222 → am_u2 i 0 0 (nI 0) 1 k = nI (g k) := hM0
  have body : ∀ i1, Fx [100] i i1 → MA i1 g → ∀ z2, ∃ i2, am_Ex (d + 8) mM_pairs 30 [.val (.ref 0), .val (.int x), z2] [] (i1, l, rM, kM) = am_Ex (d + 8) mM_pairs 61 [.val (.ref 0), .val (.int x), .val (.int (nI 4))] [] (i2, l, rM, kM) ∧ Fx [5, 6, 18, 19, 100, 138] i i2 ∧ i2 0 38 = mI (prS g).1 ∧ (∀ k, k < 4 → i2 19 k = (prS g).2 k) := by
    intro i1 hf1 hM1 z2
    rw [b_M_pairs_30]
    obtain ⟨ls', s', e, i3, q1, q2, q3, q4, q5⟩ := am_forR (d := d + 8) (y := mM_pairs) (pc := 37) (fun k ls st => ∃ i', ls = [.val (.ref 0), .val (.int x), .val (.int (nI k))] ∧ st = (i', l, rM, kM) ∧ Fx [18, 100, 138] i i' ∧ i' 0 38 = -nI 1 ∧ ∀ j, j < k → i' 18 j = -nI 1) 4 (fun k ls st hk hI => by
      obtain ⟨i2, e1, e2, hf2, h38, h18⟩ := hI
      subst e1; subst e2
      rw [b_M_pairs_37]
      simp (disch := first | assumption | omega) only [b_M_pairs_0, b_M_pairs_24, b_M_pairs_27, b_M_pairs_30, b_M_pairs_61, b_M_pairs_81, s_M_isPerson, ↓Bool.cond_decide, ↓q_in, q_le, q_lt, q_eq, q_leT, q_leF, q_ltT, q_ltF, q_eqT, q_eqF, ↓reduceIte, not_true_eq_false, not_false_eq_true, true_and, and_true, and_self, false_and, and_false, Nat.zero_le, am_bd_some, q_app, q_app0, nI_add, pk_sub, pk_mul, q_dec, q_ix, q_m1, q_m1', ↓q_ret, q_bool, q_bool1, q_u1, q_shl1, q_shr, q_and7, q_dg, fa_or, fa_and, decide_true, decide_false, Bool.or_false, Bool.or_true, Bool.true_or, Bool.false_or, cond_true, cond_false, ite_not, q_some, q_nn, q_xor, q_xorm, Bool.false_eq_true, decide_eq_true_eq, ne_eq, l_0, l_1, l_2, l_3, l_4, l_5, l_8, l_10, l_15, l_17, l_18, l_19, l_24, l_27, l_30, l_37, l_38, l_61, l_81]
      refine ⟨_, _, rfl, _, rfl, rfl, by (repeat (first | exact Fx_refl _ _ | assumption | refine Fx_u2 rfl ?_ | refine Fx_u1 rfl (by decide) ?_ | refine Fx_step (by assumption) rfl ?_ | refine Fx_stepr (by assumption) rfl rfl ?_)), h38, fun j hj => ?_⟩
      show (if j = k then -nI 1 else i2 18 j) = _
      by_cases ej : j = k
      · rw [if_pos ej]
      · rw [if_neg ej]; exact h18 j (by omega)) [.val (.ref 0), .val (.int x), .val (.int (nI 0))] (am_u2 i1 0 38 (-nI 1), l, rM, kM) ⟨_, rfl, rfl, by (repeat (first | exact Fx_refl _ _ | assumption | refine Fx_u2 rfl ?_ | refine Fx_u1 rfl (by decide) ?_ | refine Fx_step (by assumption) rfl ?_ | refine Fx_stepr (by assumption) rfl rfl ?_)), rfl, fun j hj => by omega⟩
    subst q1; subst q2
    have hM3 : MA i3 g := MA_fx q3 hA rfl
    obtain ⟨i4, l4, e4, hl4, hf4, c1, c2, c3⟩ := r_M_goesPairs hW' 5 d (l := l) (i := i3) (p := 0) (n := 0) (w := fun _ => 0) (s := (0, i3 19)) (by show g 2 < 0 + 5; omega) (Nat.zero_le _) (Nat.le_refl _) (Nat.zero_le _) (fun _ _ => Nat.zero_le _) hM3 (fun k hk => q5 k hk) q4 (fun _ _ => rfl)
    subst hl4
    have hw := gP_w (F := sFr g) (P := g 2) 5 0 0 (fun _ => 0) (0, i3 19) (0, fun _ => 0) ⟨rfl, fun z => absurd rfl z⟩
    have hne : (gP (sFr g) (g 2) 5 0 0 (fun _ => 0) (0, i3 19)).1 ≠ 0 := Nat.ne_of_gt (gP_pos 5 0 0 _ _ (by show g 2 < 0 + 5; omega) (Nat.zero_le _))
    refine ⟨i4, ?_, by (repeat (first | exact Fx_refl _ _ | assumption | refine Fx_u2 rfl ?_ | refine Fx_u1 rfl (by decide) ?_ | refine Fx_step (by assumption) rfl ?_ | refine Fx_stepr (by assumption) rfl rfl ?_)), ?_, fun k hk => ?_⟩
    · rw [show am_Ex (d + 8) mM_pairs 37 [.val (.ref 0), .val (.int x), .val (.int 0)] [] (am_u2 i1 0 38 (-1), l4, rM, kM) = _ from e, b_M_pairs_37]
      simp (disch := first | assumption | omega) only [b_M_pairs_0, b_M_pairs_24, b_M_pairs_27, b_M_pairs_30, b_M_pairs_61, b_M_pairs_81, s_M_isPerson, ↓Bool.cond_decide, ↓q_in, q_le, q_lt, q_eq, q_leT, q_leF, q_ltT, q_ltF, q_eqT, q_eqF, ↓reduceIte, not_true_eq_false, not_false_eq_true, true_and, and_true, and_self, false_and, and_false, Nat.zero_le, am_bd_some, q_app, q_app0, nI_add, pk_sub, pk_mul, q_dec, q_ix, q_m1, q_m1', ↓q_ret, q_bool, q_bool1, q_u2, q_u1, q_shl1, q_shr, q_and7, q_dg, fa_or, fa_and, decide_true, decide_false, Bool.or_false, Bool.or_true, Bool.true_or, Bool.false_or, cond_true, cond_false, ite_not, q_some, q_nn, q_xor, q_xorm, Bool.false_eq_true, decide_eq_true_eq, ne_eq, l_0, l_1, l_2, l_3, l_4, l_5, l_8, l_10, l_15, l_17, l_18, l_19, l_24, l_27, l_30, l_37, l_38, l_61, l_81, e4]
    · rw [c2, hw.1]; rfl
    · rw [c3 k hk, hw.2 hne]; rfl
  rw [c_M_pairs, b_M_pairs_0, v_pairs]
  by_cases hx : x = nI 0
  · obtain ⟨i2, e2, hf2, h38, h19⟩ := body (am_u2 i 0 0 (nI 0)) hf0 hM0 .unset
    simp (disch := first | assumption | omega) only [b_M_pairs_0, b_M_pairs_24, b_M_pairs_27, b_M_pairs_61, b_M_pairs_81, s_M_isPerson, ↓Bool.cond_decide, ↓q_in, q_le, q_lt, q_eq, q_leT, q_leF, q_ltT, q_ltF, q_eqT, q_eqF, ↓reduceIte, not_true_eq_false, not_false_eq_true, true_and, and_true, and_self, false_and, and_false, Nat.zero_le, am_bd_some, q_app, q_app0, nI_add, pk_sub, pk_mul, q_dec, q_ix, q_m1, q_m1', ↓q_ret, q_bool, q_bool1, q_u1, q_shl1, q_shr, q_and7, q_dg, fa_or, fa_and, decide_true, decide_false, Bool.or_false, Bool.or_true, Bool.true_or, Bool.false_or, cond_true, cond_false, ite_not, q_some, q_nn, q_xor, q_xorm, Bool.false_eq_true, decide_eq_true_eq, ne_eq, l_0, l_1, l_2, l_3, l_4, l_5, l_8, l_10, l_15, l_17, l_18, l_19, l_24, l_27, l_30, l_37, l_38, l_61, l_81, hx]
    subst hx
    rw [e2]
    simp (disch := first | assumption | omega) only [b_M_pairs_0, b_M_pairs_24, b_M_pairs_27, b_M_pairs_30, b_M_pairs_61, b_M_pairs_81, s_M_isPerson, ↓Bool.cond_decide, ↓q_in, q_le, q_lt, q_eq, q_leT, q_leF, q_ltT, q_ltF, q_eqT, q_eqF, ↓reduceIte, not_true_eq_false, not_false_eq_true, true_and, and_true, and_self, false_and, and_false, Nat.zero_le, am_bd_some, q_app, q_app0, nI_add, pk_sub, pk_mul, q_dec, q_ix, q_m1, q_m1', ↓q_ret, q_bool, q_bool1, q_u2, q_u1, q_shl1, q_shr, q_and7, q_dg, fa_or, fa_and, decide_true, decide_false, Bool.or_false, Bool.or_true, Bool.true_or, Bool.false_or, cond_true, cond_false, ite_not, q_some, q_nn, q_xor, q_xorm, Bool.false_eq_true, decide_eq_true_eq, ne_eq, l_0, l_1, l_2, l_3, l_4, l_5, l_8, l_10, l_15, l_17, l_18, l_19, l_24, l_27, l_30, l_37, l_38, l_61, l_81, h38]
    exact MR_some (MS_fx (R := RQ) (by (repeat (first | exact Fx_refl _ _ | assumption | refine Fx_u2 rfl ?_ | refine Fx_u1 rfl (by decide) ?_ | refine Fx_step (by assumption) rfl ?_ | refine Fx_stepr (by assumption) rfl rfl ?_))) rfl rfl hS)
  · by_cases h10 : x < nI 10
    · have h10' : (nI 10 ≤ x) = False := by rw [q_le32]; exact eq_false (fun z => z h10)
      simp (disch := first | assumption | omega) only [b_M_pairs_0, b_M_pairs_24, b_M_pairs_27, b_M_pairs_30, b_M_pairs_61, b_M_pairs_81, s_M_isPerson, ↓Bool.cond_decide, ↓q_in, q_le, q_lt, q_eq, q_leT, q_leF, q_ltT, q_ltF, q_eqT, q_eqF, ↓reduceIte, not_true_eq_false, not_false_eq_true, true_and, and_true, and_self, false_and, and_false, Nat.zero_le, am_bd_some, q_app, q_app0, nI_add, pk_sub, pk_mul, q_dec, q_ix, q_m1, q_m1', ↓q_ret, q_bool, q_bool1, q_u2, q_u1, q_shl1, q_shr, q_and7, q_dg, fa_or, fa_and, decide_true, decide_false, Bool.or_false, Bool.or_true, Bool.true_or, Bool.false_or, cond_true, cond_false, ite_not, q_some, q_nn, q_xor, q_xorm, Bool.false_eq_true, decide_eq_true_eq, ne_eq, l_0, l_1, l_2, l_3, l_4, l_5, l_8, l_10, l_15, l_17, l_18, l_19, l_24, l_27, l_30, l_37, l_38, l_61, l_81, hx, h10, h10']
      exact MR_some (MS_fx (R := RQ) (by (repeat (first | exact Fx_refl _ _ | assumption | refine Fx_u2 rfl ?_ | refine Fx_u1 rfl (by decide) ?_ | refine Fx_step (by assumption) rfl ?_ | refine Fx_stepr (by assumption) rfl rfl ?_))) rfl rfl hS)
    · have h10' : (nI 10 ≤ x) = True := by rw [q_le32]; exact eq_true h10
      by_cases hp : iB (x - nI 10) (g 2) = true
      · obtain ⟨i2, e2, hf2, h38, h19⟩ := body (am_u2 i 0 0 (nI 0)) hf0 hM0 .unset
        obtain ⟨p, hp', ep⟩ := iB_T hp
        have h19p := h19 p (by omega)
        simp (disch := first | assumption | omega) only [b_M_pairs_0, b_M_pairs_24, b_M_pairs_27, b_M_pairs_61, b_M_pairs_81, s_M_isPerson, ↓Bool.cond_decide, ↓q_in, q_le, q_lt, q_eq, q_leT, q_leF, q_ltT, q_ltF, q_eqT, q_eqF, ↓reduceIte, not_true_eq_false, not_false_eq_true, true_and, and_true, and_self, false_and, and_false, Nat.zero_le, am_bd_some, q_app, q_app0, nI_add, pk_sub, pk_mul, q_dec, q_ix, q_m1, q_m1', ↓q_ret, q_bool, q_bool1, q_u1, q_shl1, q_shr, q_and7, q_dg, fa_or, fa_and, decide_true, decide_false, Bool.or_false, Bool.or_true, Bool.true_or, Bool.false_or, cond_true, cond_false, ite_not, q_some, q_nn, q_xor, q_xorm, Bool.false_eq_true, decide_eq_true_eq, ne_eq, l_0, l_1, l_2, l_3, l_4, l_5, l_8, l_10, l_15, l_17, l_18, l_19, l_24, l_27, l_30, l_37, l_38, l_61, l_81, hx, h10, h10', hp]
        rw [e2]
        simp (disch := first | assumption | omega) only [b_M_pairs_0, b_M_pairs_24, b_M_pairs_27, b_M_pairs_30, b_M_pairs_61, b_M_pairs_81, s_M_isPerson, ↓Bool.cond_decide, ↓q_in, q_le, q_lt, q_eq, q_leT, q_leF, q_ltT, q_ltF, q_eqT, q_eqF, ↓reduceIte, not_true_eq_false, not_false_eq_true, true_and, and_true, and_self, false_and, and_false, Nat.zero_le, am_bd_some, q_app, q_app0, nI_add, pk_sub, pk_mul, q_dec, q_ix, q_m1, q_m1', ↓q_ret, q_bool, q_bool1, q_u2, q_u1, q_shl1, q_shr, q_and7, q_dg, fa_or, fa_and, decide_true, decide_false, Bool.or_false, Bool.or_true, Bool.true_or, Bool.false_or, cond_true, cond_false, ite_not, q_some, q_nn, q_xor, q_xorm, Bool.false_eq_true, decide_eq_true_eq, ne_eq, l_0, l_1, l_2, l_3, l_4, l_5, l_8, l_10, l_15, l_17, l_18, l_19, l_24, l_27, l_30, l_37, l_38, l_61, l_81, hx, ep, h19p]
        exact MR_some (MS_fx (R := RQ) (by (repeat (first | exact Fx_refl _ _ | assumption | refine Fx_u2 rfl ?_ | refine Fx_u1 rfl (by decide) ?_ | refine Fx_step (by assumption) rfl ?_ | refine Fx_stepr (by assumption) rfl rfl ?_))) rfl rfl hS)
      · simp (disch := first | assumption | omega) only [b_M_pairs_0, b_M_pairs_24, b_M_pairs_27, b_M_pairs_30, b_M_pairs_61, b_M_pairs_81, s_M_isPerson, ↓Bool.cond_decide, ↓q_in, q_le, q_lt, q_eq, q_leT, q_leF, q_ltT, q_ltF, q_eqT, q_eqF, ↓reduceIte, not_true_eq_false, not_false_eq_true, true_and, and_true, and_self, false_and, and_false, Nat.zero_le, am_bd_some, q_app, q_app0, nI_add, pk_sub, pk_mul, q_dec, q_ix, q_m1, q_m1', ↓q_ret, q_bool, q_bool1, q_u1, q_shl1, q_shr, q_and7, q_dg, fa_or, fa_and, decide_true, decide_false, Bool.or_false, Bool.or_true, Bool.true_or, Bool.false_or, cond_true, cond_false, ite_not, q_some, q_nn, q_xor, q_xorm, Bool.false_eq_true, decide_eq_true_eq, ne_eq, l_0, l_1, l_2, l_3, l_4, l_5, l_8, l_10, l_15, l_17, l_18, l_19, l_24, l_27, l_30, l_37, l_38, l_61, l_81, hx, h10, h10', hp]
        exact MR_some (MS_fx (R := RQ) (by (repeat (first | exact Fx_refl _ _ | assumption | refine Fx_u2 rfl ?_ | refine Fx_u1 rfl (by decide) ?_ | refine Fx_step (by assumption) rfl ?_ | refine Fx_stepr (by assumption) rfl rfl ?_))) rfl rfl hS)
end
