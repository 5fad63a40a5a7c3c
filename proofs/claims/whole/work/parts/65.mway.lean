/-! THE MODEL: coming over -/
def evb (g : Nat → Nat) : Nat := 2 ^ g 2 - 1
noncomputable def gj (g : Nat → Nat) (m z s : Nat) : Nat := (ff (fun j => decide (fb g m (dst g m z) s j = dst g m z s)) 32 0).getD 0
noncomputable def pth (g : Nat → Nat) (m z : Nat) : Nat → Nat → Nat
  | 0, s => s
  | n + 1, s => pth g m z n (tgt s (gj g m z s))
def deed (j : Nat) : Nat := 10 * (j / 8) + j % 8
/-- the n-th going of the way -/
noncomputable def gAt (g : Nat → Nat) (m z a n : Nat) : Int32 := if dst g m z a < FARN ∧ n < dst g m z a then nI (deed (gj g m z (pth g m z n a))) else -nI 1
theorem dst_0 {g : Nat → Nat} {m z s : Nat} (h : gl g z s = true) : dst g m z s = 0 := by
  have := lst_min (P := fun n => Rch g m z n s) (n := 0) h (by decide)
  unfold dst
  omega
theorem dst_step {g : Nat → Nat} {m z s j : Nat} (hj : j < 32) (ha : avl g m s j = true) : dst g m z s ≤ dst g m z (tgt s j) + 1 := by
  have h1 := dst_le g m z s
  rcases Nat.lt_or_ge (dst g m z (tgt s j) + 1) FARN with h | h
  · have h2 := (lst_lt (P := fun n => Rch g m z n (tgt s j)) (show dst g m z (tgt s j) < FARN by omega)).1
    exact lst_min (P := fun n => Rch g m z n s) (Rch_succ.mpr ⟨j, hj, ha, h2⟩) h
  · omega
theorem dst_ex {g : Nat → Nat} {m z s : Nat} (h0 : 0 < dst g m z s) (hF : dst g m z s < FARN) : ∃ j, j < 32 ∧ avl g m s j = true ∧ dst g m z (tgt s j) + 1 = dst g m z s := by
  have h2 := (lst_lt (P := fun n => Rch g m z n s) hF).1
  obtain ⟨n, hn⟩ : ∃ n, dst g m z s = n + 1 := ⟨dst g m z s - 1, by omega⟩
  have h3 : Rch g m z (n + 1) s = true := by rw [← hn]; exact h2
  obtain ⟨j, hj, ha, hr⟩ := Rch_succ.mp h3
  refine ⟨j, hj, ha, ?_⟩
  have h4 : dst g m z (tgt s j) ≤ n := lst_min (P := fun n => Rch g m z n (tgt s j)) hr (by omega)
  have h5 := dst_step (z := z) hj ha
  omega
theorem fb_dst {g : Nat → Nat} {m z s j : Nat} (hF : dst g m z s < FARN) : fb g m (dst g m z) s j = dst g m z s ↔ (avl g m s j = true ∧ dst g m z (tgt s j) + 1 = dst g m z s) := by
  unfold fb
  by_cases ha : avl g m s j = true
  · rw [if_pos ha]
    by_cases hf : dst g m z (tgt s j) = FARN
    · rw [if_pos hf]
      exact ⟨fun z => by omega, fun z => by omega⟩
    · rw [if_neg hf]
      exact ⟨fun z => ⟨ha, z⟩, fun z => z.2⟩
  · rw [if_neg ha]
    exact ⟨fun z => by omega, fun z => absurd z.1 ha⟩
theorem gj_ff {g : Nat → Nat} {m z s : Nat} (h0 : 0 < dst g m z s) (hF : dst g m z s < FARN) : ff (fun j => decide (fb g m (dst g m z) s j = dst g m z s)) 32 0 = some (gj g m z s) := by
  unfold gj
  cases h : ff (fun j => decide (fb g m (dst g m z) s j = dst g m z s)) 32 0 with
  | some j => rfl
  | none =>
    obtain ⟨j, hj, ha, hd⟩ := dst_ex h0 hF
    have := ff_none h j (by omega) (by omega)
    rw [decide_eq_false_iff_not] at this
    exact absurd ((fb_dst hF).mpr ⟨ha, hd⟩) this
theorem gj_is {g : Nat → Nat} {m z s : Nat} (h0 : 0 < dst g m z s) (hF : dst g m z s < FARN) : gj g m z s < 32 ∧ avl g m s (gj g m z s) = true ∧ dst g m z (tgt s (gj g m z s)) + 1 = dst g m z s := by
  obtain ⟨h1, h2, h3, h4⟩ := ff_some (gj_ff h0 hF)
  have h3 := of_decide_eq_true h3
  exact ⟨by omega, (fb_dst hF).mp h3⟩
noncomputable def v_soonest (g : Nat → Nat) (x : Int32) : Int32 := if iB x (2 ^ g 2) = true then (if dst g (evb g) x.toNatClampNeg (sNow g 4) = FARN then -nI 1 else nI (dst g (evb g) x.toNatClampNeg (sNow g 4))) else -nI 3
noncomputable def v_way (g : Nat → Nat) (x y : Int32) : Int32 := if iB x (2 ^ g 2) = true ∧ nI 0 ≤ y then gAt g (evb g) x.toNatClampNeg (sNow g 4) y.toNatClampNeg else -nI 3
theorem evb_lt {g : Nat → Nat} (h2 : g 2 ≤ 4) : evb g < 16 := by
  have : 2 ^ g 2 ≤ 2 ^ 4 := Nat.pow_le_pow_right (by decide) h2
  unfold evb
  omega
theorem p2_le {g : Nat → Nat} (h2 : g 2 ≤ 4) : 2 ^ g 2 ≤ 16 := Nat.pow_le_pow_right (by decide) h2
section
variable {i : Nat → Nat → Int32} {l : Nat → Nat → Int64} {g : Nat → Nat}
theorem s_M_isSet (d : Nat) (x : Int32) (hA : MA i g) (h2 : g 2 ≤ 4) : am_cl (d + 1) mM_isSet [.ref 0, .int x] (i, l, rM, kM) = some (some (.int (if iB x (2 ^ g 2) = true then nI 1 else nI 0)), (i, l, rM, kM)) := by
  have hg2 := hA 2 (by decide)
  have hp2 := p2_le h2
  rw [c_M_isSet, b_M_isSet_0]
  by_cases hx : x < nI 0
  · have hb : iB x (2 ^ g 2) = false := by
      rw [fa_lt, nI_toInt (by decide)] at hx
      exact decide_eq_false (by omega)
    simp (disch := first | assumption | omega) only [b_M_isSet_0, b_M_isSet_20, b_M_isSet_21, ↓Bool.cond_decide, ↓q_in, q_le, q_lt, q_eq, q_leT, q_leF, q_ltT, q_ltF, q_eqT, q_eqF, ↓reduceIte, not_true_eq_false, not_false_eq_true, true_and, and_true, and_self, false_and, and_false, Nat.zero_le, am_bd_some, q_app, q_app0, nI_add, pk_sub, pk_mul, q_dec, q_ix, q_m1, q_m1', ↓q_ret, q_bool, q_bool1, q_u2, q_u1, q_shl1, q_shr, q_and7, q_dg, fa_or, fa_and, decide_true, decide_false, Bool.or_false, Bool.or_true, Bool.true_or, Bool.false_or, cond_true, cond_false, ite_not, q_some, q_nn, q_xor, q_xorm, Bool.false_eq_true, decide_eq_true_eq, ne_eq, l_0, l_1, l_2, l_3, l_4, l_16, l_20, l_21, l_31, hx, hb]
  · obtain ⟨n, hn, rfl⟩ := nI_of hx
    have hb := iB_nI (p := n) (n := 2 ^ g 2) (by omega)
    by_cases h : n < 2 ^ g 2
    · simp (disch := first | assumption | omega) only [b_M_isSet_0, b_M_isSet_20, b_M_isSet_21, ↓Bool.cond_decide, ↓q_in, q_le, q_lt, q_eq, q_leT, q_leF, q_ltT, q_ltF, q_eqT, q_eqF, ↓reduceIte, not_true_eq_false, not_false_eq_true, true_and, and_true, and_self, false_and, and_false, Nat.zero_le, am_bd_some, q_app, q_app0, nI_add, pk_sub, pk_mul, q_dec, q_ix, q_m1, q_m1', ↓q_ret, q_bool, q_bool1, q_u2, q_u1, q_shl1, q_shr, q_and7, q_dg, fa_or, fa_and, decide_true, decide_false, Bool.or_false, Bool.or_true, Bool.true_or, Bool.false_or, cond_true, cond_false, ite_not, q_some, q_nn, q_xor, q_xorm, Bool.false_eq_true, decide_eq_true_eq, ne_eq, l_0, l_1, l_2, l_3, l_4, l_16, l_20, l_21, l_31, hg2, hb]
    · simp (disch := first | assumption | omega) only [b_M_isSet_0, b_M_isSet_20, b_M_isSet_21, ↓Bool.cond_decide, ↓q_in, q_le, q_lt, q_eq, q_leT, q_leF, q_ltT, q_ltF, q_eqT, q_eqF, ↓reduceIte, not_true_eq_false, not_false_eq_true, true_and, and_true, and_self, false_and, and_false, Nat.zero_le, am_bd_some, q_app, q_app0, nI_add, pk_sub, pk_mul, q_dec, q_ix, q_m1, q_m1', ↓q_ret, q_bool, q_bool1, q_u2, q_u1, q_shl1, q_shr, q_and7, q_dg, fa_or, fa_and, decide_true, decide_false, Bool.or_false, Bool.or_true, Bool.true_or, Bool.false_or, cond_true, cond_false, ite_not, q_some, q_nn, q_xor, q_xorm, Bool.false_eq_true, decide_eq_true_eq, ne_eq, l_0, l_1, l_2, l_3, l_4, l_16, l_20, l_21, l_31, hg2, hb]
theorem s_M_everybody' (d : Nat) (hA : MA i g) (h2 : g 2 ≤ 4) : am_cl (d + 1) mM_everybody [.ref 0] (i, l, rM, kM) = some (some (.int (nI (evb g))), (i, l, rM, kM)) := s_M_everybody d hA h2
theorem s_M_toldFar (d : Nat) {v : Nat} (hv : v < 2147483648) (s : aM) : am_cl (d + 1) mM_toldFar [.int (nI v)] s = some (some (.int (if v = FARN then -nI 1 else nI v)), s) := by
  obtain ⟨i, l, q, K⟩ := s
  have hF : FARN = 268435456 := rfl
  rw [c_M_toldFar, b_M_toldFar_0, hF]
  by_cases h : v = 268435456
  · simp (disch := first | assumption | omega) only [b_M_toldFar_0, b_M_toldFar_11, ↓Bool.cond_decide, ↓q_in, q_le, q_lt, q_eq, q_leT, q_leF, q_ltT, q_ltF, q_eqT, q_eqF, ↓reduceIte, not_true_eq_false, not_false_eq_true, true_and, and_true, and_self, false_and, and_false, Nat.zero_le, am_bd_some, q_app, q_app0, nI_add, pk_sub, pk_mul, q_dec, q_ix, q_m1, q_m1', ↓q_ret, q_bool, q_bool1, q_u2, q_u1, q_shl1, q_shr, q_and7, q_dg, fa_or, fa_and, decide_true, decide_false, Bool.or_false, Bool.or_true, Bool.true_or, Bool.false_or, cond_true, cond_false, ite_not, q_some, q_nn, q_xor, q_xorm, Bool.false_eq_true, decide_eq_true_eq, ne_eq, l_0, l_1, l_3, l_9, l_11, l_268435456, h]
  · simp (disch := first | assumption | omega) only [b_M_toldFar_0, b_M_toldFar_11, ↓Bool.cond_decide, ↓q_in, q_le, q_lt, q_eq, q_leT, q_leF, q_ltT, q_ltF, q_eqT, q_eqF, ↓reduceIte, not_true_eq_false, not_false_eq_true, true_and, and_true, and_self, false_and, and_false, Nat.zero_le, am_bd_some, q_app, q_app0, nI_add, pk_sub, pk_mul, q_dec, q_ix, q_m1, q_m1', ↓q_ret, q_bool, q_bool1, q_u2, q_u1, q_shl1, q_shr, q_and7, q_dg, fa_or, fa_and, decide_true, decide_false, Bool.or_false, Bool.or_true, Bool.true_or, Bool.false_or, cond_true, cond_false, ite_not, q_some, q_nn, q_xor, q_xorm, Bool.false_eq_true, decide_eq_true_eq, ne_eq, l_0, l_1, l_3, l_9, l_11, l_268435456, h]
theorem s_M_goingAt (d : Nat) {m z n : Nat} {L : List Nat} (hn : n < 2147483648) (hA : MA i g) (h1 : g 1 ≤ 6) (hP : ∀ p, p < 4 → g (18 + p) < 8) (hlt : ∀ s, s ∈ L → s < 4096) (ha : sNow g 4 ∈ L) (hcl : ∀ s, s ∈ L → ∀ j, j < 32 → avl g m s j = true → tgt s j ∈ L) (hG : GOk g m i L L.length) (h12 : F12 i L (dst g m z)) : am_cl (d + 3) mM_goingAt [.ref 0, .int (nI n)] (i, l, rM, kM) = some (some (.int (gAt g m z (sNow g 4) n)), (i, l, rM, kM)) := by
  have hF : FARN = 268435456 := rfl
  have key : ∀ r s k z4, s ∈ L → dst g m z s = r → r < FARN → k ≤ n → am_Ex (d + 2) mM_goingAt 20 [.val (.ref 0), .val (.int (nI n)), .val (.int (nI s)), .val (.int (nI k)), z4] [] (i, l, rM, kM) = some (some (.int (if n < k + r then nI (deed (gj g m z (pth g m z (n - k) s))) else -nI 1)), (i, l, rM, kM)) := by
    intro r
    induction r with
    | zero =>
      intro s k z4 hs hr hrF hk
      have hs4 := hlt s hs
      have h12s := h12 s hs
      rw [hr] at h12s
      rw [b_M_goingAt_20, if_neg (by omega)]
      simp (disch := first | assumption | omega) only [b_M_goingAt_0, b_M_goingAt_4, b_M_goingAt_47, b_M_goingAt_96, s_M_farBy, s_M_standNow, s_M_withPlace, ↓Bool.cond_decide, ↓q_in, q_le, q_lt, q_eq, q_leT, q_leF, q_ltT, q_ltF, q_eqT, q_eqF, ↓reduceIte, not_true_eq_false, not_false_eq_true, true_and, and_true, and_self, false_and, and_false, Nat.zero_le, am_bd_some, q_app, q_app0, nI_add, pk_sub, pk_mul, q_dec, q_ix, q_m1, q_m1', ↓q_ret, q_bool, q_bool1, q_u2, q_u1, q_shl1, q_shr, q_and7, q_dg, fa_or, fa_and, decide_true, decide_false, Bool.or_false, Bool.or_true, Bool.true_or, Bool.false_or, cond_true, cond_false, ite_not, q_some, q_nn, q_xor, q_xorm, Bool.false_eq_true, decide_eq_true_eq, ne_eq, l_0, l_1, l_4, l_6, l_8, l_10, l_11, l_12, l_14, l_20, l_31, l_32, l_47, l_96, l_4096, l_268435456, h12s]
    | succ r ih =>
      intro s k z4 hs hr hrF hk
      have hs4 := hlt s hs
      have h12s := h12 s hs
      have h0 : 0 < dst g m z s := by omega
      have hF2 : dst g m z s < FARN := by omega
      obtain ⟨j1, j2, j3⟩ := gj_is h0 hF2
      rw [b_M_goingAt_20]
      simp (disch := first | assumption | omega) only [b_M_goingAt_0, b_M_goingAt_4, b_M_goingAt_47, b_M_goingAt_96, s_M_farBy, s_M_standNow, s_M_withPlace, ↓Bool.cond_decide, ↓q_in, q_le, q_lt, q_eq, q_leT, q_leF, q_ltT, q_ltF, q_eqT, q_eqF, ↓reduceIte, not_true_eq_false, not_false_eq_true, true_and, and_true, and_self, false_and, and_false, Nat.zero_le, am_bd_some, q_app, q_app0, nI_add, pk_sub, pk_mul, q_dec, q_ix, q_m1, q_m1', ↓q_ret, q_bool, q_bool1, q_u2, q_u1, q_shl1, q_shr, q_and7, q_dg, fa_or, fa_and, decide_true, decide_false, Bool.or_false, Bool.or_true, Bool.true_or, Bool.false_or, cond_true, cond_false, ite_not, q_some, q_nn, q_xor, q_xorm, Bool.false_eq_true, decide_eq_true_eq, ne_eq, l_0, l_1, l_4, l_6, l_8, l_10, l_11, l_12, l_14, l_20, l_31, l_32, l_47, l_96, l_4096, l_268435456, h12s]
      refine am_find (d := d + 2) (y := mM_goingAt) (pc := 32) (fun j ls st => ls = [.val (.ref 0), .val (.int (nI n)), .val (.int (nI s)), .val (.int (nI k)), .val (.int (nI j))] ∧ st = (i, l, rM, kM)) _ (fun o x => o = some (gj g m z s) → x = some (some (.int (if n < k + (r + 1) then nI (deed (gj g m z (pth g m z (n - k) s))) else -nI 1)), (i, l, rM, kM))) 32 0 (fun j ls st _ hj hI => ?_) (fun ls st hI => fun e => by cases e) _ _ ⟨rfl, rfl⟩ (gj_ff h0 hF2)
      obtain ⟨e1, e2⟩ := hI
      subst e1; subst e2
      obtain ⟨kk, hk1, hk2⟩ := List.getElem_of_mem hs
      have hbq := s_M_farBy (i := i) (l := l) d (m := m) (s := s) (p := j / 8) (q := j % 8) (v := j) (D := dst g m z) hs4 (by omega) (by omega) h1 (by omega) (hG kk s hk1 (by rw [List.getElem?_eq_getElem hk1, hk2]) _ (by omega)) (dst_le g m z) (fun ha => h12 _ (hcl s hs j (by omega) ha))
      have hfl := fb_le (g := g) (m := m) (dst_le g m z) s j
      refine ⟨fun hb => ?_, fun hb => ?_⟩
      · intro ej
        have ej : j = gj g m z s := Option.some.inj ej
        have hb := of_decide_eq_true hb
        have hst4 := wp_lt (p := j / 8) (x := j % 8) hs4 (by omega) (by omega)
        have etg : wp s (j / 8) (j % 8) = tgt s j := rfl
        rw [b_M_goingAt_32]
        by_cases hkn : k = n
        · subst hkn
          rw [if_pos (by omega), Nat.sub_self, pth, ← ej]
          simp (disch := first | assumption | omega) only [b_M_goingAt_0, b_M_goingAt_4, b_M_goingAt_47, b_M_goingAt_96, s_M_standNow, s_M_withPlace, ↓Bool.cond_decide, ↓q_in, q_le, q_lt, q_eq, q_leT, q_leF, q_ltT, q_ltF, q_eqT, q_eqF, ↓reduceIte, not_true_eq_false, not_false_eq_true, true_and, and_true, and_self, false_and, and_false, Nat.zero_le, am_bd_some, q_app, q_app0, nI_add, pk_sub, pk_mul, q_dec, q_ix, q_m1, q_m1', ↓q_ret, q_bool, q_bool1, q_u2, q_u1, q_shl1, q_shr, q_and7, q_dg, fa_or, fa_and, decide_true, decide_false, Bool.or_false, Bool.or_true, Bool.true_or, Bool.false_or, cond_true, cond_false, ite_not, q_some, q_nn, q_xor, q_xorm, Bool.false_eq_true, decide_eq_true_eq, ne_eq, l_0, l_1, l_4, l_6, l_8, l_10, l_11, l_12, l_14, l_20, l_31, l_32, l_47, l_96, l_4096, l_268435456, pk_div, q_remL, q_remN, hbq, h12s, hb]
          rfl
        · have ih' := ih (tgt s j) (k + 1) (.val (.int (nI j))) (hcl s hs j (by omega) (by rw [ej]; exact j2)) (by rw [ej]; omega) (by omega) (by omega)
          simp (disch := first | assumption | omega) only [b_M_goingAt_0, b_M_goingAt_4, b_M_goingAt_47, b_M_goingAt_96, s_M_standNow, s_M_withPlace, ↓Bool.cond_decide, ↓q_in, q_le, q_lt, q_eq, q_leT, q_leF, q_ltT, q_ltF, q_eqT, q_eqF, ↓reduceIte, not_true_eq_false, not_false_eq_true, true_and, and_true, and_self, false_and, and_false, Nat.zero_le, am_bd_some, q_app, q_app0, nI_add, pk_sub, pk_mul, q_dec, q_ix, q_m1, q_m1', ↓q_ret, q_bool, q_bool1, q_u2, q_u1, q_shl1, q_shr, q_and7, q_dg, fa_or, fa_and, decide_true, decide_false, Bool.or_false, Bool.or_true, Bool.true_or, Bool.false_or, cond_true, cond_false, ite_not, q_some, q_nn, q_xor, q_xorm, Bool.false_eq_true, decide_eq_true_eq, ne_eq, l_0, l_1, l_4, l_6, l_8, l_10, l_11, l_12, l_14, l_20, l_31, l_32, l_47, l_96, l_4096, l_268435456, pk_div, q_remL, q_remN, hbq, h12s, hb]
          rw [etg, ih']
          rw [show k + 1 + r = k + (r + 1) by omega]
          have ep : pth g m z (n - k) s = pth g m z (n - (k + 1)) (tgt s j) := by
            rw [show n - k = n - (k + 1) + 1 by omega, pth, ← ej]
          rw [ep]
      · have hb := of_decide_eq_false hb
        rw [b_M_goingAt_32]
        simp (disch := first | assumption | omega) only [b_M_goingAt_0, b_M_goingAt_4, b_M_goingAt_47, b_M_goingAt_96, s_M_standNow, s_M_withPlace, ↓Bool.cond_decide, ↓q_in, q_le, q_lt, q_eq, q_leT, q_leF, q_ltT, q_ltF, q_eqT, q_eqF, ↓reduceIte, not_true_eq_false, not_false_eq_true, true_and, and_true, and_self, false_and, and_false, Nat.zero_le, am_bd_some, q_app, q_app0, nI_add, pk_sub, pk_mul, q_dec, q_ix, q_m1, q_m1', ↓q_ret, q_bool, q_bool1, q_u2, q_u1, q_shl1, q_shr, q_and7, q_dg, fa_or, fa_and, decide_true, decide_false, Bool.or_false, Bool.or_true, Bool.true_or, Bool.false_or, cond_true, cond_false, ite_not, q_some, q_nn, q_xor, q_xorm, Bool.false_eq_true, decide_eq_true_eq, ne_eq, l_0, l_1, l_4, l_6, l_8, l_10, l_11, l_12, l_14, l_20, l_31, l_32, l_47, l_96, l_4096, l_268435456, pk_div, q_remL, q_remN, hbq, h12s]
        exact Go_in ⟨rfl, rfl⟩
  have ha4 := hlt _ ha
  have h12a := h12 _ ha
  have hdl := dst_le g m z (sNow g 4)
  rw [c_M_goingAt, b_M_goingAt_0, gAt]
  by_cases hf : dst g m z (sNow g 4) = FARN
  · have hf' : dst g m z (sNow g 4) = 268435456 := hf
    rw [if_neg (by omega)]
    simp (disch := first | assumption | omega) only [b_M_goingAt_0, b_M_goingAt_4, b_M_goingAt_47, b_M_goingAt_96, s_M_farBy, s_M_standNow, s_M_withPlace, ↓Bool.cond_decide, ↓q_in, q_le, q_lt, q_eq, q_leT, q_leF, q_ltT, q_ltF, q_eqT, q_eqF, ↓reduceIte, not_true_eq_false, not_false_eq_true, true_and, and_true, and_self, false_and, and_false, Nat.zero_le, am_bd_some, q_app, q_app0, nI_add, pk_sub, pk_mul, q_dec, q_ix, q_m1, q_m1', ↓q_ret, q_bool, q_bool1, q_u2, q_u1, q_shl1, q_shr, q_and7, q_dg, fa_or, fa_and, decide_true, decide_false, Bool.or_false, Bool.or_true, Bool.true_or, Bool.false_or, cond_true, cond_false, ite_not, q_some, q_nn, q_xor, q_xorm, Bool.false_eq_true, decide_eq_true_eq, ne_eq, l_0, l_1, l_4, l_6, l_8, l_10, l_11, l_12, l_14, l_20, l_31, l_32, l_47, l_96, l_4096, l_268435456, h12a, hf']
  · have hf' : dst g m z (sNow g 4) ≠ 268435456 := hf
    have := key _ (sNow g 4) 0 .unset ha rfl (by omega) (by omega)
    rw [Nat.zero_add, Nat.sub_zero] at this
    simp (disch := first | assumption | omega) only [b_M_goingAt_0, b_M_goingAt_4, b_M_goingAt_47, b_M_goingAt_96, s_M_farBy, s_M_standNow, s_M_withPlace, ↓Bool.cond_decide, ↓q_in, q_le, q_lt, q_eq, q_leT, q_leF, q_ltT, q_ltF, q_eqT, q_eqF, ↓reduceIte, not_true_eq_false, not_false_eq_true, true_and, and_true, and_self, false_and, and_false, Nat.zero_le, am_bd_some, q_app, q_app0, nI_add, pk_sub, pk_mul, q_dec, q_ix, q_m1, q_m1', ↓q_ret, q_bool, q_bool1, q_u2, q_u1, q_shl1, q_shr, q_and7, q_dg, fa_or, fa_and, decide_true, decide_false, Bool.or_false, Bool.or_true, Bool.true_or, Bool.false_or, cond_true, cond_false, ite_not, q_some, q_nn, q_xor, q_xorm, Bool.false_eq_true, decide_eq_true_eq, ne_eq, l_0, l_1, l_4, l_6, l_8, l_10, l_11, l_12, l_14, l_20, l_31, l_32, l_47, l_96, l_4096, l_268435456, h12a, hf', this]
theorem r_M_soonest (d : Nat) (x : Int32) {σ : St} (hS : MS i l σ) (hW : WG σ.1) : MR (some (.int (v_soonest σ.1 x))) (fun i' l' => MS i' l' (σ)) (am_cl (d + 9) mM_soonest [.ref 0, .int x] (i, l, rM, kM)) := by
  have hW' := hW
  obtain ⟨g, σ⟩ := σ
  obtain ⟨⟨h1', h1⟩, h2, h3, hR, hF, hP, hSt, hD, hL0, hL1, hV⟩ := hW
  have h1 : g 1 ≤ 6 := h1
  have h2 : g 2 ≤ 4 := h2
  have hR : ∀ p, p < 4 → g (10 + p) ≤ 4 := hR
  have hP : ∀ p, p < 4 → g (18 + p) < 8 := hP
  have hSt : ∀ p, p < 4 → g (22 + p) ≤ 9 := hSt
  have hD : ∀ s, s < 6 → g (26 + s) ≤ 9 := hD
  have hA := hS.1
  have hn := sNow_lt g hP 4 (by decide)
  have hf0 : Fx [100] i (am_u2 i 0 0 (nI 0)) := by (repeat (first | exact Fx_refl _ _ | assumption | refine Fx_u2 rfl ?_ | refine Fx_u1 rfl (by decide) ?_ | refine Fx_step (by assumption) rfl ?_ | refine Fx_stepr (by assumption) rfl rfl ?_))
  have hM0 : MA (am_u2 i 0 0 (nI 0)) g := MA_fx hf0 hA rfl
  have hM0' : ∀ k, k < 3222 → am_u2 i 0 0 (nI 0) 1 k = nI (g k) := hM0
  have hev := evb_lt h2
  rw [c_M_soonest, b_M_soonest_0, v_soonest]
  by_cases hx : iB x (2 ^ g 2) = true
  · simp (disch := first | assumption | omega) only [b_M_soonest_0, b_M_soonest_10, b_M_soonest_19, b_M_soonest_22, b_M_soonest_25, b_M_soonest_30, s_M_everybody', s_M_isSet, s_M_toldFar, ↓Bool.cond_decide, ↓q_in, q_le, q_lt, q_eq, q_leT, q_leF, q_ltT, q_ltF, q_eqT, q_eqF, ↓reduceIte, not_true_eq_false, not_false_eq_true, true_and, and_true, and_self, false_and, and_false, Nat.zero_le, am_bd_some, q_app, q_app0, nI_add, pk_sub, pk_mul, q_dec, q_ix, q_m1, q_m1', ↓q_ret, q_bool, q_bool1, q_u1, q_shl1, q_shr, q_and7, q_dg, fa_or, fa_and, decide_true, decide_false, Bool.or_false, Bool.or_true, Bool.true_or, Bool.false_or, cond_true, cond_false, ite_not, q_some, q_nn, q_xor, q_xorm, Bool.false_eq_true, decide_eq_true_eq, ne_eq, l_0, l_1, l_3, l_4, l_8, l_9, l_10, l_19, l_22, l_25, l_30, hx, s_M_everybody']
    obtain ⟨z, hz, rfl⟩ := iB_T hx
    have hp2 := p2_le h2
    have hdl := dst_le g (evb g) z (sNow g 4)
    have hF : FARN = 268435456 := rfl
    refine MR_bd (r_M_laysFar d (m := evb g) (z := z) (by omega) (by omega) hM0 hW') ?_
    intro i2 l2 ⟨hl2, hf2, _, _⟩
    subst hl2
    simp (disch := first | assumption | omega) only [b_M_soonest_0, b_M_soonest_10, b_M_soonest_19, b_M_soonest_22, b_M_soonest_25, b_M_soonest_30, s_M_everybody, s_M_everybody', s_M_isSet, s_M_toldFar, ↓Bool.cond_decide, ↓q_in, q_le, q_lt, q_eq, q_leT, q_leF, q_ltT, q_ltF, q_eqT, q_eqF, ↓reduceIte, not_true_eq_false, not_false_eq_true, true_and, and_true, and_self, false_and, and_false, Nat.zero_le, am_bd_some, q_app, q_app0, nI_add, pk_sub, pk_mul, q_dec, q_ix, q_m1, q_m1', ↓q_ret, q_bool, q_bool1, q_u2, q_u1, q_shl1, q_shr, q_and7, q_dg, fa_or, fa_and, decide_true, decide_false, Bool.or_false, Bool.or_true, Bool.true_or, Bool.false_or, cond_true, cond_false, ite_not, q_some, q_nn, q_xor, q_xorm, Bool.false_eq_true, decide_eq_true_eq, ne_eq, l_0, l_1, l_3, l_4, l_8, l_9, l_10, l_19, l_22, l_25, l_30]
    exact MR_some (MS_fx (R := RQ) (by (repeat (first | exact Fx_refl _ _ | assumption | refine Fx_u2 rfl ?_ | refine Fx_u1 rfl (by decide) ?_ | refine Fx_step (by assumption) rfl ?_ | refine Fx_stepr (by assumption) rfl rfl ?_))) rfl rfl hS)
  · simp (disch := first | assumption | omega) only [b_M_soonest_0, b_M_soonest_10, b_M_soonest_19, b_M_soonest_22, b_M_soonest_25, b_M_soonest_30, s_M_everybody, s_M_everybody', s_M_isSet, s_M_toldFar, ↓Bool.cond_decide, ↓q_in, q_le, q_lt, q_eq, q_leT, q_leF, q_ltT, q_ltF, q_eqT, q_eqF, ↓reduceIte, not_true_eq_false, not_false_eq_true, true_and, and_true, and_self, false_and, and_false, Nat.zero_le, am_bd_some, q_app, q_app0, nI_add, pk_sub, pk_mul, q_dec, q_ix, q_m1, q_m1', ↓q_ret, q_bool, q_bool1, q_u2, q_u1, q_shl1, q_shr, q_and7, q_dg, fa_or, fa_and, decide_true, decide_false, Bool.or_false, Bool.or_true, Bool.true_or, Bool.false_or, cond_true, cond_false, ite_not, q_some, q_nn, q_xor, q_xorm, Bool.false_eq_true, decide_eq_true_eq, ne_eq, l_0, l_1, l_3, l_4, l_8, l_9, l_10, l_19, l_22, l_25, l_30, hx]
    exact MR_some (MS_fx (R := RQ) (by (repeat (first | exact Fx_refl _ _ | assumption | refine Fx_u2 rfl ?_ | refine Fx_u1 rfl (by decide) ?_ | refine Fx_step (by assumption) rfl ?_ | refine Fx_stepr (by assumption) rfl rfl ?_))) rfl rfl hS)
theorem r_M_way (d : Nat) (x y : Int32) {σ : St} (hS : MS i l σ) (hW : WG σ.1) : MR (some (.int (v_way σ.1 x y))) (fun i' l' => MS i' l' (σ)) (am_cl (d + 9) mM_way [.ref 0, .int x, .int y] (i, l, rM, kM)) := by
  have hW' := hW
  obtain ⟨g, σ⟩ := σ
  obtain ⟨⟨h1', h1⟩, h2, h3, hR, hF, hP, hSt, hD, hL0, hL1, hV⟩ := hW
  have h1 : g 1 ≤ 6 := h1
  have h2 : g 2 ≤ 4 := h2
  have hR : ∀ p, p < 4 → g (10 + p) ≤ 4 := hR
  have hP : ∀ p, p < 4 → g (18 + p) < 8 := hP
  have hSt : ∀ p, p < 4 → g (22 + p) ≤ 9 := hSt
  have hD : ∀ s, s < 6 → g (26 + s) ≤ 9 := hD
  have hA := hS.1
  have hn := sNow_lt g hP 4 (by decide)
  have hf0 : Fx [100] i (am_u2 i 0 0 (nI 0)) := by (repeat (first | exact Fx_refl _ _ | assumption | refine Fx_u2 rfl ?_ | refine Fx_u1 rfl (by decide) ?_ | refine Fx_step (by assumption) rfl ?_ | refine Fx_stepr (by assumption) rfl rfl ?_))
  have hM0 : MA (am_u2 i 0 0 (nI 0)) g := MA_fx hf0 hA rfl
  have hM0' : ∀ k, k < 3222 → am_u2 i 0 0 (nI 0) 1 k = nI (g k) := hM0
  have hev := evb_lt h2
  rw [c_M_way, b_M_way_0, v_way]
  by_cases hx : iB x (2 ^ g 2) = true
  · by_cases hy : nI 0 ≤ y
    · have hy0 : ¬ y < 0 := by rw [← q_le32]; exact hy
      obtain ⟨n, hn', rfl⟩ := nI_of hy0
      simp (disch := first | assumption | omega) only [b_M_way_0, b_M_way_10, b_M_way_17, b_M_way_26, b_M_way_29, b_M_way_35, s_M_everybody', s_M_goingAt, s_M_isSet, ↓Bool.cond_decide, ↓q_in, q_le, q_lt, q_eq, q_leT, q_leF, q_ltT, q_ltF, q_eqT, q_eqF, ↓reduceIte, not_true_eq_false, not_false_eq_true, true_and, and_true, and_self, false_and, and_false, Nat.zero_le, am_bd_some, q_app, q_app0, nI_add, pk_sub, pk_mul, q_dec, q_ix, q_m1, q_m1', ↓q_ret, q_bool, q_bool1, q_u1, q_shl1, q_shr, q_and7, q_dg, fa_or, fa_and, decide_true, decide_false, Bool.or_false, Bool.or_true, Bool.true_or, Bool.false_or, cond_true, cond_false, ite_not, q_some, q_nn, q_xor, q_xorm, Bool.false_eq_true, decide_eq_true_eq, ne_eq, l_0, l_1, l_3, l_4, l_6, l_8, l_10, l_11, l_17, l_26, l_29, l_35, hx, hy, s_M_everybody']
      obtain ⟨z, hz, rfl⟩ := iB_T hx
      have hp2 := p2_le h2
      refine MR_bd (r_M_laysFar d (m := evb g) (z := z) (by omega) (by omega) hM0 hW') ?_
      intro i2 l2 ⟨hl2, hf2, hG2, h122⟩
      subst hl2
      have hM2 : MA i2 g := MA_fx hf2 hM0 rfl
      have hga := s_M_goingAt (i := i2) (l := l2) (d + 5) (m := evb g) (z := z) (n := n) (by omega) hM2 h1 hP (fun s hs => stds_lt h2 hn hs) (stds_start h2 hn) (fun s hs => (stds_step h2 hn hs).1) hG2 h122
      simp (disch := first | assumption | omega) only [b_M_way_0, b_M_way_10, b_M_way_17, b_M_way_26, b_M_way_29, b_M_way_35, s_M_everybody, s_M_everybody', s_M_isSet, ↓Bool.cond_decide, ↓q_in, q_le, q_lt, q_eq, q_leT, q_leF, q_ltT, q_ltF, q_eqT, q_eqF, ↓reduceIte, not_true_eq_false, not_false_eq_true, true_and, and_true, and_self, false_and, and_false, Nat.zero_le, am_bd_some, q_app, q_app0, nI_add, pk_sub, pk_mul, q_dec, q_ix, q_m1, q_m1', ↓q_ret, q_bool, q_bool1, q_u2, q_u1, q_shl1, q_shr, q_and7, q_dg, fa_or, fa_and, decide_true, decide_false, Bool.or_false, Bool.or_true, Bool.true_or, Bool.false_or, cond_true, cond_false, ite_not, q_some, q_nn, q_xor, q_xorm, Bool.false_eq_true, decide_eq_true_eq, ne_eq, l_0, l_1, l_3, l_4, l_6, l_8, l_10, l_11, l_17, l_26, l_29, l_35, hga]
      exact MR_some (MS_fx (R := RQ) (by (repeat (first | exact Fx_refl _ _ | assumption | refine Fx_u2 rfl ?_ | refine Fx_u1 rfl (by decide) ?_ | refine Fx_step (by assumption) rfl ?_ | refine Fx_stepr (by assumption) rfl rfl ?_))) rfl rfl hS)
    · simp (disch := first | assumption | omega) only [b_M_way_0, b_M_way_10, b_M_way_17, b_M_way_26, b_M_way_29, b_M_way_35, s_M_everybody, s_M_everybody', s_M_goingAt, s_M_isSet, ↓Bool.cond_decide, ↓q_in, q_le, q_lt, q_eq, q_leT, q_leF, q_ltT, q_ltF, q_eqT, q_eqF, ↓reduceIte, not_true_eq_false, not_false_eq_true, true_and, and_true, and_self, false_and, and_false, Nat.zero_le, am_bd_some, q_app, q_app0, nI_add, pk_sub, pk_mul, q_dec, q_ix, q_m1, q_m1', ↓q_ret, q_bool, q_bool1, q_u2, q_u1, q_shl1, q_shr, q_and7, q_dg, fa_or, fa_and, decide_true, decide_false, Bool.or_false, Bool.or_true, Bool.true_or, Bool.false_or, cond_true, cond_false, ite_not, q_some, q_nn, q_xor, q_xorm, Bool.false_eq_true, decide_eq_true_eq, ne_eq, l_0, l_1, l_3, l_4, l_6, l_8, l_10, l_11, l_17, l_26, l_29, l_35, hx, hy]
      exact MR_some (MS_fx (R := RQ) (by (repeat (first | exact Fx_refl _ _ | assumption | refine Fx_u2 rfl ?_ | refine Fx_u1 rfl (by decide) ?_ | refine Fx_step (by assumption) rfl ?_ | refine Fx_stepr (by assumption) rfl rfl ?_))) rfl rfl hS)
  · simp (disch := first | assumption | omega) only [b_M_way_0, b_M_way_10, b_M_way_17, b_M_way_26, b_M_way_29, b_M_way_35, s_M_everybody, s_M_everybody', s_M_goingAt, s_M_isSet, ↓Bool.cond_decide, ↓q_in, q_le, q_lt, q_eq, q_leT, q_leF, q_ltT, q_ltF, q_eqT, q_eqF, ↓reduceIte, not_true_eq_false, not_false_eq_true, true_and, and_true, and_self, false_and, and_false, Nat.zero_le, am_bd_some, q_app, q_app0, nI_add, pk_sub, pk_mul, q_dec, q_ix, q_m1, q_m1', ↓q_ret, q_bool, q_bool1, q_u2, q_u1, q_shl1, q_shr, q_and7, q_dg, fa_or, fa_and, decide_true, decide_false, Bool.or_false, Bool.or_true, Bool.true_or, Bool.false_or, cond_true, cond_false, ite_not, q_some, q_nn, q_xor, q_xorm, Bool.false_eq_true, decide_eq_true_eq, ne_eq, l_0, l_1, l_3, l_4, l_6, l_8, l_10, l_11, l_17, l_26, l_29, l_35, hx]
    exact MR_some (MS_fx (R := RQ) (by (repeat (first | exact Fx_refl _ _ | assumption | refine Fx_u2 rfl ?_ | refine Fx_u1 rfl (by decide) ?_ | refine Fx_step (by assumption) rfl ?_ | refine Fx_stepr (by assumption) rfl rfl ?_))) rfl rfl hS)
end
