/-! THE MODEL: stands laid -/
def QI (i : Nat → Nat → Int32) (L : List Nat) : Prop := (∀ k s, L[k]? = some s → i 10 k = nI s) ∧ (∀ x, x < 4096 → i 13 x = if x ∈ L then nI 1 else nI 0) ∧ i 0 28 = nI L.length
/-- goings are laid of those among the first k -/
def GOk (g : Nat → Nat) (m : Nat) (i : Nat → Nat → Int32) (L : List Nat) (k : Nat) : Prop := ∀ j s, j < k → L[j]? = some s → ∀ p, p < 4 → i 11 (4 * s + p) = nI (gBit g m s p)
theorem QI_fx {R : List Nat} {i i' : Nat → Nat → Int32} {L : List Nat} (h : Fx R i i') (hq : QI i L) (h1 : R.contains 10 = false) (h2 : R.contains 13 = false) (h3 : R.contains 128 = false) : QI i' L := by
  refine ⟨?_, ?_, ?_⟩
  · rw [Fx_row h (by decide) h1]; exact hq.1
  · rw [Fx_row h (by decide) h2]; exact hq.2.1
  · rw [h 0 28 h3]; exact hq.2.2
theorem GOk_fx {R : List Nat} {i i' : Nat → Nat → Int32} {g : Nat → Nat} {m k : Nat} {L : List Nat} (h : Fx R i i') (hq : GOk g m i L k) (h1 : R.contains 11 = false) : GOk g m i' L k := by
  unfold GOk
  rw [Fx_row h (by decide) h1]; exact hq
theorem gBit_lt {g : Nat → Nat} {m s p : Nat} (h1 : g 1 ≤ 6) : gBit g m s p < 256 := by
  unfold gBit
  split
  · exact sGo_lt h1
  · decide
theorem avl_pq {g : Nat → Nat} {m s p q : Nat} (hq : q < 8) : avl g m s (8 * p + q) = (gBit g m s p).testBit q := by
  unfold avl
  rw [show (8 * p + q) / 8 = p by omega, show (8 * p + q) % 8 = q by omega]
theorem tgt_pq {s p q : Nat} (hq : q < 8) : tgt s (8 * p + q) = wp s p q := by
  unfold tgt
  rw [show (8 * p + q) / 8 = p by omega, show (8 * p + q) % 8 = q by omega]
theorem sweepL_lt {g : Nat → Nat} {m s n : Nat} {L : List Nat} (hn : n ≤ 32) (hs : s < 4096) (hL : ∀ x, x ∈ L → x < 4096) : ∀ x, x ∈ sweepL g m s n L → x < 4096 := by
  intro x hx
  rw [sweepL_mem] at hx
  rcases hx with h | ⟨j, h1, h2, h3⟩
  · exact hL x h
  · subst h3; exact tgt_lt hs (by omega)
theorem sweepL_len {g : Nat → Nat} {m s n : Nat} {L : List Nat} (hn : n ≤ 32) (hs : s < 4096) (hL : ∀ x, x ∈ L → x < 4096) (hd : L.Nodup) : (sweepL g m s n L).length ≤ 4096 := nodup_len 4096 _ (sweepL_nodup g m s n L hd) (sweepL_lt hn hs hL)
section
variable {i : Nat → Nat → Int32} {l : Nat → Nat → Int64} {g : Nat → Nat}
theorem r_M_adds (d : Nat) {x : Nat} {L : List Nat} (hx : x < 4096) (hQ : QI i L) (hl : (addL L x).length ≤ 4096) : MR none (fun i' l' => l' = l ∧ Fx [10, 13, 128] i i' ∧ QI i' (addL L x)) (am_cl (d + 1) mM_adds [.ref 0, .int (nI x)] (i, l, rM, kM)) := by
  have h13 := hQ.2.1 x hx
  have h28 := hQ.2.2
  rw [c_M_adds, b_M_adds_0]
  unfold addL at hl ⊢
  by_cases hm : x ∈ L
  · rw [if_pos hm] at hl ⊢
    rw [if_pos hm] at h13
    simp (disch := first | assumption | omega) only [b_M_adds_0, ↓Bool.cond_decide, ↓q_in, q_le, q_lt, q_eq, q_leT, q_leF, q_ltT, q_ltF, q_eqT, q_eqF, ↓reduceIte, not_true_eq_false, not_false_eq_true, true_and, and_true, and_self, false_and, and_false, Nat.zero_le, am_bd_some, q_app, q_app0, nI_add, pk_sub, pk_mul, q_dec, q_ix, q_m1, q_m1', ↓q_ret, q_bool, q_bool1, q_u2, q_u1, q_shl1, q_shr, q_and7, q_dg, fa_or, fa_and, decide_true, decide_false, Bool.or_false, Bool.or_true, Bool.true_or, Bool.false_or, cond_true, cond_false, ite_not, q_some, q_nn, q_xor, q_xorm, Bool.false_eq_true, decide_eq_true_eq, ne_eq, l_0, l_1, l_10, l_13, l_26, l_28, l_103, l_4096, h13]
    exact MR_some ⟨rfl, Fx_refl _ _, hQ⟩
  · rw [if_neg hm] at hl ⊢
    rw [if_neg hm] at h13
    rw [List.length_append, List.length_singleton] at hl
    simp (disch := first | assumption | omega) only [b_M_adds_0, ↓Bool.cond_decide, ↓q_in, q_le, q_lt, q_eq, q_leT, q_leF, q_ltT, q_ltF, q_eqT, q_eqF, ↓reduceIte, not_true_eq_false, not_false_eq_true, true_and, and_true, and_self, false_and, and_false, Nat.zero_le, am_bd_some, q_app, q_app0, nI_add, pk_sub, pk_mul, q_dec, q_ix, q_m1, q_m1', ↓q_ret, q_bool, q_bool1, q_u1, q_shl1, q_shr, q_and7, q_dg, fa_or, fa_and, decide_true, decide_false, Bool.or_false, Bool.or_true, Bool.true_or, Bool.false_or, cond_true, cond_false, ite_not, q_some, q_nn, q_xor, q_xorm, Bool.false_eq_true, decide_eq_true_eq, ne_eq, l_0, l_1, l_10, l_13, l_26, l_28, l_103, l_4096, h13, h28, q_nar1]
    refine MR_some ⟨rfl, by (repeat (first | exact Fx_refl _ _ | assumption | refine Fx_u2 rfl ?_ | refine Fx_u1 rfl (by decide) ?_ | refine Fx_step (by assumption) rfl ?_ | refine Fx_stepr (by assumption) rfl rfl ?_)), ?_, ?_, ?_⟩
    · intro k s hk
      show (if k = L.length then nI x else i 10 k) = nI s
      by_cases e : k = L.length
      · subst e
        rw [List.getElem?_append_right (Nat.le_refl _), Nat.sub_self] at hk
        rw [if_pos rfl]
        cases hk
        rfl
      · rw [if_neg e]
        have hlt : k < L.length := by
          have := (List.getElem?_eq_some_iff.mp hk).1
          rw [List.length_append, List.length_singleton] at this
          omega
        rw [List.getElem?_append_left hlt] at hk
        exact hQ.1 k s hk
    · intro y hy
      show (if y = x then nI 1 else i 13 y) = _
      by_cases e : y = x
      · subst e
        rw [if_pos rfl, if_pos (by simp)]
      · rw [if_neg e, hQ.2.1 y hy]
        by_cases hyL : y ∈ L
        · rw [if_pos hyL, if_pos (List.mem_append_left _ hyL)]
        · rw [if_neg hyL, if_neg]
          rw [List.mem_append, List.mem_singleton]
          exact fun z => z.elim hyL e
    · show nI (L.length + 1) = _
      rw [List.length_append, List.length_singleton]
theorem r_M_laysStands (d : Nat) {m : Nat} {t : Bool} (hm : m < 65536) (hA : MA i g) (hW : WG g) : MR none (fun i' l' => l' = l ∧ Fx [5, 6, 7, 8, 10, 11, 13, 120, 128] i i' ∧ QI i' (stds g m t (sNow g 4)) ∧ GOk g m i' (stds g m t (sNow g 4)) (stds g m t (sNow g 4)).length ∧ TR g i') (am_cl (d + 7) mM_laysStands [.ref 0, .int (nI m), .int (if t = true then nI 1 else nI 0)] (i, l, rM, kM)) := by
  obtain ⟨⟨h1', h1⟩, h2, h3, hR, hF, hP, hSt, hD, hL0, hL1, hV⟩ := hW
  have hn := sNow_lt g hP 4 (by decide)
  generalize hb : (if t = true then nI 1 else nI 0) = bt
  rw [c_M_laysStands, b_M_laysStands_0]
  refine MR_bd (r_M_laysTrust (d + 2) hA h2 hL1) ?_
  intro i1 l1 ⟨hl1, hf1, hT1⟩
  subst hl1
  have hM1 : MA i1 g := MA_fr hf1 hA rfl
  simp (disch := first | assumption | omega) only [b_M_laysStands_0, b_M_laysStands_4, b_M_laysStands_36, b_M_laysStands_39, b_M_laysStands_84, b_M_laysStands_105, b_M_laysStands_108, b_M_laysStands_109, b_M_laysStands_143, b_M_laysStands_156, b_M_laysStands_159, b_M_laysStands_188, b_M_laysStands_191, s_M_isIn, s_M_standNow, s_M_withPlace, ↓Bool.cond_decide, ↓q_in, q_le, q_lt, q_eq, q_leT, q_leF, q_ltT, q_ltF, q_eqT, q_eqF, ↓reduceIte, not_true_eq_false, not_false_eq_true, true_and, and_true, and_self, false_and, and_false, Nat.zero_le, am_bd_some, q_app, q_app0, nI_add, pk_sub, pk_mul, q_dec, q_ix, q_m1, q_m1', ↓q_ret, q_bool, q_bool1, q_u2, q_u1, q_shl1, q_shr, q_and7, q_dg, fa_or, fa_and, decide_true, decide_false, Bool.or_false, Bool.or_true, Bool.true_or, Bool.false_or, cond_true, cond_false, ite_not, q_some, q_nn, q_xor, q_xorm, Bool.false_eq_true, decide_eq_true_eq, ne_eq, l_0, l_1, l_2, l_3, l_4, l_5, l_6, l_8, l_9, l_10, l_11, l_12, l_13, l_14, l_15, l_19, l_27, l_28, l_36, l_39, l_41, l_60, l_84, l_103, l_105, l_108, l_109, l_128, l_143, l_156, l_159, l_188, l_191, l_3222, l_4096, l_16384]
  refine am_loop (fun k ls s => ∃ i' z4 z5 z6 z7, ls = [.val (.ref 0), .val (.int (nI m)), .val (.int bt), .val (.int (nI k)), z4, z5, z6, z7] ∧ s = (i', l1, rM, kM) ∧ Fx [13] i1 i' ∧ ∀ x, x < k → i' 13 x = nI 0) 4096 _ (fun k ls s hk hI => ?_) (fun ls s hI => ?_) ⟨i1, _, _, _, _, rfl, rfl, Fx_refl _ _, fun x hx => by omega⟩
  · obtain ⟨i2, z4, z5, z6, z7, e1, e2, hf2, h13⟩ := hI
    subst e1; subst e2
    rw [b_M_laysStands_6]
    simp (disch := first | assumption | omega) only [b_M_laysStands_0, b_M_laysStands_4, b_M_laysStands_36, b_M_laysStands_39, b_M_laysStands_84, b_M_laysStands_105, b_M_laysStands_108, b_M_laysStands_109, b_M_laysStands_143, b_M_laysStands_156, b_M_laysStands_159, b_M_laysStands_188, b_M_laysStands_191, s_M_isIn, s_M_standNow, s_M_withPlace, ↓Bool.cond_decide, ↓q_in, q_le, q_lt, q_eq, q_leT, q_leF, q_ltT, q_ltF, q_eqT, q_eqF, ↓reduceIte, not_true_eq_false, not_false_eq_true, true_and, and_true, and_self, false_and, and_false, Nat.zero_le, am_bd_some, q_app, q_app0, nI_add, pk_sub, pk_mul, q_dec, q_ix, q_m1, q_m1', ↓q_ret, q_bool, q_bool1, q_u2, q_u1, q_shl1, q_shr, q_and7, q_dg, fa_or, fa_and, decide_true, decide_false, Bool.or_false, Bool.or_true, Bool.true_or, Bool.false_or, cond_true, cond_false, ite_not, q_some, q_nn, q_xor, q_xorm, Bool.false_eq_true, decide_eq_true_eq, ne_eq, l_0, l_1, l_2, l_3, l_4, l_5, l_6, l_8, l_9, l_10, l_11, l_12, l_13, l_14, l_15, l_19, l_27, l_28, l_36, l_39, l_41, l_60, l_84, l_103, l_105, l_108, l_109, l_128, l_143, l_156, l_159, l_188, l_191, l_3222, l_4096, l_16384, q_nar0]
    refine Go_in ⟨_, _, _, _, _, rfl, rfl, by (repeat (first | exact Fx_refl _ _ | assumption | refine Fx_u2 rfl ?_ | refine Fx_u1 rfl (by decide) ?_ | refine Fx_step (by assumption) rfl ?_ | refine Fx_stepr (by assumption) rfl rfl ?_)), fun x hx => ?_⟩
    by_cases e : x = k
    · subst e; simp only [q_u2, if_true]
    · simp only [q_u2, e, if_true, if_false]; exact h13 x (by omega)
  obtain ⟨i2, z4, z5, z6, z7, e1, e2, hf2, h13⟩ := hI
  subst e1; subst e2
  rw [b_M_laysStands_6]
  have hM2 : MA (am_u2 i2 0 28 (nI 0)) g := MA_fx (R := [13, 128]) (i := i1) (by (repeat (first | exact Fx_refl _ _ | assumption | refine Fx_u2 rfl ?_ | refine Fx_u1 rfl (by decide) ?_ | refine Fx_step (by assumption) rfl ?_ | refine Fx_stepr (by assumption) rfl rfl ?_))) hM1 rfl
  simp (disch := first | assumption | omega) only [b_M_laysStands_0, b_M_laysStands_4, b_M_laysStands_36, b_M_laysStands_39, b_M_laysStands_84, b_M_laysStands_105, b_M_laysStands_108, b_M_laysStands_109, b_M_laysStands_143, b_M_laysStands_156, b_M_laysStands_159, b_M_laysStands_188, b_M_laysStands_191, s_M_isIn, s_M_standNow, s_M_withPlace, ↓Bool.cond_decide, ↓q_in, q_le, q_lt, q_eq, q_leT, q_leF, q_ltT, q_ltF, q_eqT, q_eqF, ↓reduceIte, not_true_eq_false, not_false_eq_true, true_and, and_true, and_self, false_and, and_false, Nat.zero_le, am_bd_some, q_app, q_app0, nI_add, pk_sub, pk_mul, q_dec, q_ix, q_m1, q_m1', ↓q_ret, q_bool, q_bool1, q_u1, q_shl1, q_shr, q_and7, q_dg, fa_or, fa_and, decide_true, decide_false, Bool.or_false, Bool.or_true, Bool.true_or, Bool.false_or, cond_true, cond_false, ite_not, q_some, q_nn, q_xor, q_xorm, Bool.false_eq_true, decide_eq_true_eq, ne_eq, l_0, l_1, l_2, l_3, l_4, l_5, l_6, l_8, l_9, l_10, l_11, l_12, l_13, l_14, l_15, l_19, l_27, l_28, l_36, l_39, l_41, l_60, l_84, l_103, l_105, l_108, l_109, l_128, l_143, l_156, l_159, l_188, l_191, l_3222, l_4096, l_16384]
  have hQ2 : QI (am_u2 i2 0 28 (nI 0)) [] := ⟨fun k s h => by simp at h, fun x hx => by rw [if_neg (by simp)]; exact h13 x hx, rfl⟩
  refine R_bd (r_M_adds (d + 5) (x := sNow g 4) (L := []) hn hQ2 (by simp [addL])) ?_
  intro i3 l3 ⟨hl3, hf3, hQ3⟩
  subst hl3
  have e3 : addL [] (sNow g 4) = bfs g m t (sNow g 4) 0 := by simp [addL, bfs]
  rw [e3] at hQ3
  simp (disch := first | assumption | omega) only [b_M_laysStands_0, b_M_laysStands_4, b_M_laysStands_36, b_M_laysStands_39, b_M_laysStands_84, b_M_laysStands_105, b_M_laysStands_108, b_M_laysStands_109, b_M_laysStands_143, b_M_laysStands_156, b_M_laysStands_159, b_M_laysStands_188, b_M_laysStands_191, s_M_isIn, s_M_standNow, s_M_withPlace, ↓Bool.cond_decide, ↓q_in, q_le, q_lt, q_eq, q_leT, q_leF, q_ltT, q_ltF, q_eqT, q_eqF, ↓reduceIte, not_true_eq_false, not_false_eq_true, true_and, and_true, and_self, false_and, and_false, Nat.zero_le, am_bd_some, q_app, q_app0, nI_add, pk_sub, pk_mul, q_dec, q_ix, q_m1, q_m1', ↓q_ret, q_bool, q_bool1, q_u2, q_u1, q_shl1, q_shr, q_and7, q_dg, fa_or, fa_and, decide_true, decide_false, Bool.or_false, Bool.or_true, Bool.true_or, Bool.false_or, cond_true, cond_false, ite_not, q_some, q_nn, q_xor, q_xorm, Bool.false_eq_true, decide_eq_true_eq, ne_eq, l_0, l_1, l_2, l_3, l_4, l_5, l_6, l_8, l_9, l_10, l_11, l_12, l_13, l_14, l_15, l_19, l_27, l_28, l_36, l_39, l_41, l_60, l_84, l_103, l_105, l_108, l_109, l_128, l_143, l_156, l_159, l_188, l_191, l_3222, l_4096, l_16384]
  refine am_loop (fun k ls s => ∃ i' z4 z5 z6 z7, ls = [.val (.ref 0), .val (.int (nI m)), .val (.int bt), .val (.int (nI k)), z4, z5, z6, z7] ∧ s = (i', l3, rM, kM) ∧ Fx [5, 6, 7, 10, 11, 13, 120, 128] i1 i' ∧ QI i' (bfs g m t (sNow g 4) k) ∧ GOk g m i' (bfs g m t (sNow g 4) k) k) (stds g m t (sNow g 4)).length _ (fun k ls s hk hI => ?_) (fun ls s hI => ?_) ⟨i3, _, _, _, _, rfl, rfl, by (repeat (first | exact Fx_refl _ _ | assumption | refine Fx_u2 rfl ?_ | refine Fx_u1 rfl (by decide) ?_ | refine Fx_step (by assumption) rfl ?_ | refine Fx_stepr (by assumption) rfl rfl ?_)), hQ3, fun j s hj => by omega⟩
  · obtain ⟨i4, z4, z5, z6, z7, e1, e2, hf4, hQ4, hG4⟩ := hI
    subst e1; subst e2
    have hlen := bfs_len (m := m) (t := t) h2 hn k
    have hkl := bfs_more h2 hn hk
    obtain ⟨s, hs⟩ : ∃ s, (bfs g m t (sNow g 4) k)[k]? = some s := ⟨_, List.getElem?_eq_getElem hkl⟩
    have hs4 : s < 4096 := bfs_lt h2 hn k s (List.mem_of_getElem? hs)
    have h10 := hQ4.1 k s hs
    have h28 := hQ4.2.2
    have hnd := bfs_nodup g m t (sNow g 4) k
    have hall := bfs_lt (m := m) (t := t) h2 hn k
    have estep : bfs g m t (sNow g 4) (k + 1) = tideL g t s (sweepL g m s 32 (bfs g m t (sNow g 4) k)) := by
      show stepL g m t k (bfs g m t (sNow g 4) k) = _
      unfold stepL
      rw [hs]
    generalize bfs g m t (sNow g 4) k = L at hlen hkl hs h10 h28 hnd hall estep hQ4 hG4
    rw [b_M_laysStands_41]
    simp (disch := first | assumption | omega) only [b_M_laysStands_0, b_M_laysStands_4, b_M_laysStands_36, b_M_laysStands_39, b_M_laysStands_84, b_M_laysStands_105, b_M_laysStands_108, b_M_laysStands_109, b_M_laysStands_143, b_M_laysStands_156, b_M_laysStands_159, b_M_laysStands_188, b_M_laysStands_191, s_M_isIn, s_M_standNow, s_M_withPlace, ↓Bool.cond_decide, ↓q_in, q_le, q_lt, q_eq, q_leT, q_leF, q_ltT, q_ltF, q_eqT, q_eqF, ↓reduceIte, not_true_eq_false, not_false_eq_true, true_and, and_true, and_self, false_and, and_false, Nat.zero_le, am_bd_some, q_app, q_app0, nI_add, pk_sub, pk_mul, q_dec, q_ix, q_m1, q_m1', ↓q_ret, q_bool, q_bool1, q_u2, q_u1, q_shl1, q_shr, q_and7, q_dg, fa_or, fa_and, decide_true, decide_false, Bool.or_false, Bool.or_true, Bool.true_or, Bool.false_or, cond_true, cond_false, ite_not, q_some, q_nn, q_xor, q_xorm, Bool.false_eq_true, decide_eq_true_eq, ne_eq, l_0, l_1, l_2, l_3, l_4, l_5, l_6, l_8, l_9, l_10, l_11, l_12, l_13, l_14, l_15, l_19, l_27, l_28, l_36, l_39, l_41, l_60, l_84, l_103, l_105, l_108, l_109, l_128, l_143, l_156, l_159, l_188, l_191, l_3222, l_4096, l_16384, h10, h28]
    refine am_loop (fun p ls st => ∃ i' z6 z7, ls = [.val (.ref 0), .val (.int (nI m)), .val (.int bt), .val (.int (nI k)), .val (.int (nI s)), .val (.int (nI p)), z6, z7] ∧ st = (i', l3, rM, kM) ∧ Fx [5, 6, 7, 10, 11, 13, 120, 128] i1 i' ∧ QI i' (sweepL g m s (8 * p) L) ∧ GOk g m i' L k ∧ ∀ q, q < p → i' 11 (4 * s + q) = nI (gBit g m s q)) 4 _ (fun p ls st hp hI => ?_) (fun ls st hI => ?_) ⟨i4, _, _, rfl, rfl, hf4, hQ4, hG4, fun q hq => by omega⟩
    · obtain ⟨i5, z6, z7, e1, e2, hf5, hQ5, hG5, hB5⟩ := hI
      subst e1; subst e2
      have hA5 : ∀ k, k < 3222 → i5 1 k = nI (g k) := MA_fx hf5 hM1 rfl
      have hM5 : MA i5 g := hA5
      have hT5 : TR g i5 := TR_fx hf5 hT1 rfl
      have hgb := gBit_lt (m := m) (s := s) (p := p) h1
      have body : ∀ i6 z6 z7, Fx [7] i5 i6 → Go (d + 6) mM_laysStands 60 (fun ls st => ∃ i' z6 z7, ls = [.val (.ref 0), .val (.int (nI m)), .val (.int bt), .val (.int (nI k)), .val (.int (nI s)), .val (.int (nI (p + 1))), z6, z7] ∧ st = (i', l3, rM, kM) ∧ Fx [5, 6, 7, 10, 11, 13, 120, 128] i1 i' ∧ QI i' (sweepL g m s (8 * (p + 1)) L) ∧ GOk g m i' L k ∧ ∀ q, q < p + 1 → i' 11 (4 * s + q) = nI (gBit g m s q)) (am_Ex (d + 6) mM_laysStands 109 [.val (.ref 0), .val (.int (nI m)), .val (.int bt), .val (.int (nI k)), .val (.int (nI s)), .val (.int (nI p)), z6, z7] [.int (nI (gBit g m s p))] (i6, l3, rM, kM)) := by
        intro i6 z6 z7 hf6
        have hQ6 : QI i6 (sweepL g m s (8 * p) L) := QI_fx hf6 hQ5 rfl rfl rfl
        have hG6 : GOk g m i6 L k := GOk_fx hf6 hG5 rfl
        have hB6 : ∀ q, q < p → i6 11 (4 * s + q) = nI (gBit g m s q) := by rw [Fx_row hf6 (by decide) rfl]; exact hB5
        rw [b_M_laysStands_109]
        simp (disch := first | assumption | omega) only [b_M_laysStands_0, b_M_laysStands_4, b_M_laysStands_36, b_M_laysStands_39, b_M_laysStands_84, b_M_laysStands_105, b_M_laysStands_108, b_M_laysStands_109, b_M_laysStands_143, b_M_laysStands_156, b_M_laysStands_159, b_M_laysStands_188, b_M_laysStands_191, s_M_isIn, s_M_standNow, s_M_withPlace, ↓Bool.cond_decide, ↓q_in, q_le, q_lt, q_eq, q_leT, q_leF, q_ltT, q_ltF, q_eqT, q_eqF, ↓reduceIte, not_true_eq_false, not_false_eq_true, true_and, and_true, and_self, false_and, and_false, Nat.zero_le, am_bd_some, q_app, q_app0, nI_add, pk_sub, pk_mul, q_dec, q_ix, q_m1, q_m1', ↓q_ret, q_bool, q_bool1, q_u1, q_shl1, q_shr, q_and7, q_dg, fa_or, fa_and, decide_true, decide_false, Bool.or_false, Bool.or_true, Bool.true_or, Bool.false_or, cond_true, cond_false, ite_not, q_some, q_nn, q_xor, q_xorm, Bool.false_eq_true, decide_eq_true_eq, ne_eq, l_0, l_1, l_2, l_3, l_4, l_5, l_6, l_8, l_9, l_10, l_11, l_12, l_13, l_14, l_15, l_19, l_27, l_28, l_36, l_39, l_41, l_60, l_84, l_103, l_105, l_108, l_109, l_128, l_143, l_156, l_159, l_188, l_191, l_3222, l_4096, l_16384]
        have hf7 : Fx [5, 6, 7, 10, 11, 13, 120, 128] i1 (am_u2 i6 11 (4 * s + p) (nI (gBit g m s p))) := by (repeat (first | exact Fx_refl _ _ | assumption | refine Fx_u2 rfl ?_ | refine Fx_u1 rfl (by decide) ?_ | refine Fx_step (by assumption) rfl ?_ | refine Fx_stepr (by assumption) rfl rfl ?_))
        have hQ7 : QI (am_u2 i6 11 (4 * s + p) (nI (gBit g m s p))) (sweepL g m s (8 * p) L) := hQ6
        have hG7 : GOk g m (am_u2 i6 11 (4 * s + p) (nI (gBit g m s p))) L k := by
          intro j s' hj hs' q hq
          show (if 4 * s' + q = 4 * s + p then _ else i6 11 (4 * s' + q)) = _
          rw [if_neg, hG6 j s' hj hs' q hq]
          intro e
          have es : s' = s := by omega
          rw [es] at hs'
          obtain ⟨ha, ea⟩ := List.getElem?_eq_some_iff.mp hs'
          obtain ⟨hb', eb⟩ := List.getElem?_eq_some_iff.mp hs
          have := (List.getElem?_inj ha hnd).mp (hs'.trans hs.symm)
          omega
        have hB7 : ∀ q, q < p + 1 → am_u2 i6 11 (4 * s + p) (nI (gBit g m s p)) 11 (4 * s + q) = nI (gBit g m s q) := by
          intro q hq
          show (if 4 * s + q = 4 * s + p then _ else i6 11 (4 * s + q)) = _
          by_cases e : q = p
          · subst e; rw [if_pos rfl]
          · rw [if_neg (by omega), hB6 q (by omega)]
        refine am_loop (fun q ls st => ∃ i', ls = [.val (.ref 0), .val (.int (nI m)), .val (.int bt), .val (.int (nI k)), .val (.int (nI s)), .val (.int (nI p)), .val (.int (nI (gBit g m s p))), .val (.int (nI q))] ∧ st = (i', l3, rM, kM) ∧ Fx [5, 6, 7, 10, 11, 13, 120, 128] i1 i' ∧ QI i' (sweepL g m s (8 * p + q) L) ∧ GOk g m i' L k ∧ ∀ q, q < p + 1 → i' 11 (4 * s + q) = nI (gBit g m s q)) 8 _ (fun q ls st hq hI => ?_) (fun ls st hI => ?_) ⟨_, rfl, rfl, hf7, hQ7, hG7, hB7⟩
        · obtain ⟨i8, e1, e2, hf8, hQ8, hG8, hB8⟩ := hI
          subst e1; subst e2
          have eS : sweepL g m s (8 * p + (q + 1)) L = if avl g m s (8 * p + q) = true then addL (sweepL g m s (8 * p + q) L) (tgt s (8 * p + q)) else sweepL g m s (8 * p + q) L := rfl
          rw [avl_pq hq, tgt_pq hq] at eS
          have hln := sweepL_len (g := g) (m := m) (n := 8 * p + (q + 1)) (by omega) hs4 hall hnd
          rw [b_M_laysStands_128]
          cases hbit : (gBit g m s p).testBit q with
          | false =>
            rw [hbit, if_neg (by decide)] at eS
            simp (disch := first | assumption | omega) only [b_M_laysStands_0, b_M_laysStands_4, b_M_laysStands_36, b_M_laysStands_39, b_M_laysStands_84, b_M_laysStands_105, b_M_laysStands_108, b_M_laysStands_109, b_M_laysStands_143, b_M_laysStands_156, b_M_laysStands_159, b_M_laysStands_188, b_M_laysStands_191, s_M_isIn, s_M_standNow, s_M_withPlace, ↓Bool.cond_decide, ↓q_in, q_le, q_lt, q_eq, q_leT, q_leF, q_ltT, q_ltF, q_eqT, q_eqF, ↓reduceIte, not_true_eq_false, not_false_eq_true, true_and, and_true, and_self, false_and, and_false, Nat.zero_le, am_bd_some, q_app, q_app0, nI_add, pk_sub, pk_mul, q_dec, q_ix, q_m1, q_m1', ↓q_ret, q_bool, q_bool1, q_u2, q_u1, q_shl1, q_shr, q_and7, q_dg, fa_or, fa_and, decide_true, decide_false, Bool.or_false, Bool.or_true, Bool.true_or, Bool.false_or, cond_true, cond_false, ite_not, q_some, q_nn, q_xor, q_xorm, Bool.false_eq_true, decide_eq_true_eq, ne_eq, l_0, l_1, l_2, l_3, l_4, l_5, l_6, l_8, l_9, l_10, l_11, l_12, l_13, l_14, l_15, l_19, l_27, l_28, l_36, l_39, l_41, l_60, l_84, l_103, l_105, l_108, l_109, l_128, l_143, l_156, l_159, l_188, l_191, l_3222, l_4096, l_16384, hbit]
            exact Go_in ⟨i8, rfl, rfl, hf8, by rw [eS]; exact hQ8, hG8, hB8⟩
          | true =>
            rw [hbit, if_pos rfl] at eS
            rw [eS] at hln
            obtain ⟨i9, l9, e9, hl9, hf9, hQ9⟩ := r_M_adds (d + 5) (l := l3) (x := wp s p q) (wp_lt hs4 (by omega) hq) hQ8 hln
            subst hl9
            simp (disch := first | assumption | omega) only [b_M_laysStands_0, b_M_laysStands_4, b_M_laysStands_36, b_M_laysStands_39, b_M_laysStands_84, b_M_laysStands_105, b_M_laysStands_108, b_M_laysStands_109, b_M_laysStands_143, b_M_laysStands_156, b_M_laysStands_159, b_M_laysStands_188, b_M_laysStands_191, s_M_isIn, s_M_standNow, s_M_withPlace, ↓Bool.cond_decide, ↓q_in, q_le, q_lt, q_eq, q_leT, q_leF, q_ltT, q_ltF, q_eqT, q_eqF, ↓reduceIte, not_true_eq_false, not_false_eq_true, true_and, and_true, and_self, false_and, and_false, Nat.zero_le, am_bd_some, q_app, q_app0, nI_add, pk_sub, pk_mul, q_dec, q_ix, q_m1, q_m1', ↓q_ret, q_bool, q_bool1, q_u2, q_u1, q_shl1, q_shr, q_and7, q_dg, fa_or, fa_and, decide_true, decide_false, Bool.or_false, Bool.or_true, Bool.true_or, Bool.false_or, cond_true, cond_false, ite_not, q_some, q_nn, q_xor, q_xorm, Bool.false_eq_true, decide_eq_true_eq, ne_eq, l_0, l_1, l_2, l_3, l_4, l_5, l_6, l_8, l_9, l_10, l_11, l_12, l_13, l_14, l_15, l_19, l_27, l_28, l_36, l_39, l_41, l_60, l_84, l_103, l_105, l_108, l_109, l_128, l_143, l_156, l_159, l_188, l_191, l_3222, l_4096, l_16384, hbit, e9]
            exact Go_in ⟨i9, rfl, rfl, by (repeat (first | exact Fx_refl _ _ | assumption | refine Fx_u2 rfl ?_ | refine Fx_u1 rfl (by decide) ?_ | refine Fx_step (by assumption) rfl ?_ | refine Fx_stepr (by assumption) rfl rfl ?_)), by rw [eS]; exact hQ9, GOk_fx hf9 hG8 rfl, by rw [Fx_row hf9 (by decide) rfl]; exact hB8⟩
        · obtain ⟨i8, e1, e2, hf8, hQ8, hG8, hB8⟩ := hI
          subst e1; subst e2
          rw [b_M_laysStands_128]
          simp (disch := first | assumption | omega) only [b_M_laysStands_0, b_M_laysStands_4, b_M_laysStands_36, b_M_laysStands_39, b_M_laysStands_84, b_M_laysStands_105, b_M_laysStands_108, b_M_laysStands_109, b_M_laysStands_143, b_M_laysStands_156, b_M_laysStands_159, b_M_laysStands_188, b_M_laysStands_191, s_M_isIn, s_M_standNow, s_M_withPlace, ↓Bool.cond_decide, ↓q_in, q_le, q_lt, q_eq, q_leT, q_leF, q_ltT, q_ltF, q_eqT, q_eqF, ↓reduceIte, not_true_eq_false, not_false_eq_true, true_and, and_true, and_self, false_and, and_false, Nat.zero_le, am_bd_some, q_app, q_app0, nI_add, pk_sub, pk_mul, q_dec, q_ix, q_m1, q_m1', ↓q_ret, q_bool, q_bool1, q_u2, q_u1, q_shl1, q_shr, q_and7, q_dg, fa_or, fa_and, decide_true, decide_false, Bool.or_false, Bool.or_true, Bool.true_or, Bool.false_or, cond_true, cond_false, ite_not, q_some, q_nn, q_xor, q_xorm, Bool.false_eq_true, decide_eq_true_eq, ne_eq, l_0, l_1, l_2, l_3, l_4, l_5, l_6, l_8, l_9, l_10, l_11, l_12, l_13, l_14, l_15, l_19, l_27, l_28, l_36, l_39, l_41, l_60, l_84, l_103, l_105, l_108, l_109, l_128, l_143, l_156, l_159, l_188, l_191, l_3222, l_4096, l_16384]
          exact Go_in ⟨i8, _, _, rfl, rfl, hf8, by rw [show 8 * (p + 1) = 8 * p + 8 by omega]; exact hQ8, hG8, hB8⟩
      rw [b_M_laysStands_60]
      by_cases hp2 : p < g 2
      · cases hmb : m.testBit p with
        | true =>
          have eg : gBit g m s p = sGo g s p (g (10 + p)) := by unfold gBit; rw [if_pos ⟨hp2, hmb⟩]
          have hr := hR p hp
          obtain ⟨i6, l6, e6, hl6, hf6, _⟩ := r_M_goings d (l := l3) hs4 hp2 (r := g (10 + p)) (by omega) hM5 h1 h2 hT5
          subst hl6
          rw [← eg] at e6
          simp (disch := first | assumption | omega) only [b_M_laysStands_0, b_M_laysStands_4, b_M_laysStands_36, b_M_laysStands_39, b_M_laysStands_84, b_M_laysStands_105, b_M_laysStands_108, b_M_laysStands_143, b_M_laysStands_156, b_M_laysStands_159, b_M_laysStands_188, b_M_laysStands_191, s_M_isIn, s_M_standNow, s_M_withPlace, ↓Bool.cond_decide, ↓q_in, q_le, q_lt, q_eq, q_leT, q_leF, q_ltT, q_ltF, q_eqT, q_eqF, ↓reduceIte, not_true_eq_false, not_false_eq_true, true_and, and_true, and_self, false_and, and_false, Nat.zero_le, am_bd_some, q_app, q_app0, nI_add, pk_sub, pk_mul, q_dec, q_ix, q_m1, q_m1', ↓q_ret, q_bool, q_bool1, q_u2, q_u1, q_shl1, q_shr, q_and7, q_dg, fa_or, fa_and, decide_true, decide_false, Bool.or_false, Bool.or_true, Bool.true_or, Bool.false_or, cond_true, cond_false, ite_not, q_some, q_nn, q_xor, q_xorm, Bool.false_eq_true, decide_eq_true_eq, ne_eq, l_0, l_1, l_2, l_3, l_4, l_5, l_6, l_8, l_9, l_10, l_11, l_12, l_13, l_14, l_15, l_19, l_27, l_28, l_36, l_39, l_41, l_60, l_84, l_103, l_105, l_108, l_109, l_128, l_143, l_156, l_159, l_188, l_191, l_3222, l_4096, l_16384, hA5, hmb, e6]
          exact body i6 _ _ hf6
        | false =>
          have eg : gBit g m s p = 0 := by unfold gBit; rw [if_neg (fun z => by rw [hmb] at z; cases z.2)]
          rw [eg] at body
          simp (disch := first | assumption | omega) only [b_M_laysStands_0, b_M_laysStands_4, b_M_laysStands_36, b_M_laysStands_39, b_M_laysStands_84, b_M_laysStands_105, b_M_laysStands_108, b_M_laysStands_143, b_M_laysStands_156, b_M_laysStands_159, b_M_laysStands_188, b_M_laysStands_191, s_M_isIn, s_M_standNow, s_M_withPlace, ↓Bool.cond_decide, ↓q_in, q_le, q_lt, q_eq, q_leT, q_leF, q_ltT, q_ltF, q_eqT, q_eqF, ↓reduceIte, not_true_eq_false, not_false_eq_true, true_and, and_true, and_self, false_and, and_false, Nat.zero_le, am_bd_some, q_app, q_app0, nI_add, pk_sub, pk_mul, q_dec, q_ix, q_m1, q_m1', ↓q_ret, q_bool, q_bool1, q_u2, q_u1, q_shl1, q_shr, q_and7, q_dg, fa_or, fa_and, decide_true, decide_false, Bool.or_false, Bool.or_true, Bool.true_or, Bool.false_or, cond_true, cond_false, ite_not, q_some, q_nn, q_xor, q_xorm, Bool.false_eq_true, decide_eq_true_eq, ne_eq, l_0, l_1, l_2, l_3, l_4, l_5, l_6, l_8, l_9, l_10, l_11, l_12, l_13, l_14, l_15, l_19, l_27, l_28, l_36, l_39, l_41, l_60, l_84, l_103, l_105, l_108, l_109, l_128, l_143, l_156, l_159, l_188, l_191, l_3222, l_4096, l_16384, hA5, hmb]
          exact body i5 _ _ (Fx_refl _ _)
      · have eg : gBit g m s p = 0 := by unfold gBit; rw [if_neg (fun z => hp2 z.1)]
        rw [eg] at body
        simp (disch := first | assumption | omega) only [b_M_laysStands_0, b_M_laysStands_4, b_M_laysStands_36, b_M_laysStands_39, b_M_laysStands_84, b_M_laysStands_105, b_M_laysStands_108, b_M_laysStands_143, b_M_laysStands_156, b_M_laysStands_159, b_M_laysStands_188, b_M_laysStands_191, s_M_isIn, s_M_standNow, s_M_withPlace, ↓Bool.cond_decide, ↓q_in, q_le, q_lt, q_eq, q_leT, q_leF, q_ltT, q_ltF, q_eqT, q_eqF, ↓reduceIte, not_true_eq_false, not_false_eq_true, true_and, and_true, and_self, false_and, and_false, Nat.zero_le, am_bd_some, q_app, q_app0, nI_add, pk_sub, pk_mul, q_dec, q_ix, q_m1, q_m1', ↓q_ret, q_bool, q_bool1, q_u2, q_u1, q_shl1, q_shr, q_and7, q_dg, fa_or, fa_and, decide_true, decide_false, Bool.or_false, Bool.or_true, Bool.true_or, Bool.false_or, cond_true, cond_false, ite_not, q_some, q_nn, q_xor, q_xorm, Bool.false_eq_true, decide_eq_true_eq, ne_eq, l_0, l_1, l_2, l_3, l_4, l_5, l_6, l_8, l_9, l_10, l_11, l_12, l_13, l_14, l_15, l_19, l_27, l_28, l_36, l_39, l_41, l_60, l_84, l_103, l_105, l_108, l_109, l_128, l_143, l_156, l_159, l_188, l_191, l_3222, l_4096, l_16384, hA5]
        exact body i5 _ _ (Fx_refl _ _)
    · obtain ⟨i5, z6, z7, e1, e2, hf5, hQ5, hG5, hB5⟩ := hI
      subst e1; subst e2
      have hA5 : ∀ k, k < 3222 → i5 1 k = nI (g k) := MA_fx hf5 hM1 rfl
      have hM5 : MA i5 g := hA5
      have hG' : ∀ i9 L', Fx [5, 6, 10, 13, 120, 128] i5 i9 → (∃ A, L' = L ++ A) → GOk g m i9 L' (k + 1) := by
        rintro i9 L' hf9 ⟨A, rfl⟩ j s' hj hs' q hq
        rw [Fx_row hf9 (by decide) rfl]
        by_cases e : j = k
        · subst e
          rw [List.getElem?_append_left hkl, hs] at hs'
          cases hs'
          exact hB5 q hq
        · rw [List.getElem?_append_left (by omega)] at hs'
          exact hG5 j s' (by omega) hs' q hq
      have hpre := sweepL_pre g m s 32 L
      rw [b_M_laysStands_60]
      cases t with
      | false =>
        have eb : bt = nI 0 := hb.symm
        have es : bfs g m false (sNow g 4) (k + 1) = sweepL g m s 32 L := by rw [estep]; rfl
        simp (disch := first | assumption | omega) only [b_M_laysStands_0, b_M_laysStands_4, b_M_laysStands_36, b_M_laysStands_39, b_M_laysStands_84, b_M_laysStands_105, b_M_laysStands_108, b_M_laysStands_109, b_M_laysStands_143, b_M_laysStands_156, b_M_laysStands_159, b_M_laysStands_188, b_M_laysStands_191, s_M_isIn, s_M_standNow, s_M_withPlace, ↓Bool.cond_decide, ↓q_in, q_le, q_lt, q_eq, q_leT, q_leF, q_ltT, q_ltF, q_eqT, q_eqF, ↓reduceIte, not_true_eq_false, not_false_eq_true, true_and, and_true, and_self, false_and, and_false, Nat.zero_le, am_bd_some, q_app, q_app0, nI_add, pk_sub, pk_mul, q_dec, q_ix, q_m1, q_m1', ↓q_ret, q_bool, q_bool1, q_u2, q_u1, q_shl1, q_shr, q_and7, q_dg, fa_or, fa_and, decide_true, decide_false, Bool.or_false, Bool.or_true, Bool.true_or, Bool.false_or, cond_true, cond_false, ite_not, q_some, q_nn, q_xor, q_xorm, Bool.false_eq_true, decide_eq_true_eq, ne_eq, l_0, l_1, l_2, l_3, l_4, l_5, l_6, l_8, l_9, l_10, l_11, l_12, l_13, l_14, l_15, l_19, l_27, l_28, l_36, l_39, l_41, l_60, l_84, l_103, l_105, l_108, l_109, l_128, l_143, l_156, l_159, l_188, l_191, l_3222, l_4096, l_16384, eb]
        exact Go_in ⟨i5, _, _, _, _, rfl, rfl, hf5, by rw [es]; exact hQ5, by rw [es]; exact hG' i5 _ (Fx_refl _ _) hpre⟩
      | true =>
        have eb : bt = nI 1 := hb.symm
        have es : bfs g m true (sNow g 4) (k + 1) = addL (sweepL g m s 32 L) (sFl g (g 3) s) := by rw [estep]; rfl
        have hln := bfs_len (m := m) (t := true) h2 hn (k + 1)
        rw [es] at hln
        have hg3 := hA5 3 (by decide)
        obtain ⟨i6, l6, e6, hl6, hf6, _⟩ := r_M_floodedTo d (l := l3) (w := g 3) hs4 (by omega) hM5 h1 h2 hSt hL0
        subst hl6
        obtain ⟨i9, l9, e9, hl9, hf9, hQ9⟩ := r_M_adds (d + 5) (l := l6) (x := sFl g (g 3) s) (sFl_lt h2 hs4) (QI_fx hf6 hQ5 rfl rfl rfl) hln
        subst hl9
        simp (disch := first | assumption | omega) only [b_M_laysStands_0, b_M_laysStands_4, b_M_laysStands_36, b_M_laysStands_39, b_M_laysStands_84, b_M_laysStands_105, b_M_laysStands_108, b_M_laysStands_109, b_M_laysStands_143, b_M_laysStands_156, b_M_laysStands_159, b_M_laysStands_188, b_M_laysStands_191, s_M_isIn, s_M_standNow, s_M_withPlace, ↓Bool.cond_decide, ↓q_in, q_le, q_lt, q_eq, q_leT, q_leF, q_ltT, q_ltF, q_eqT, q_eqF, ↓reduceIte, not_true_eq_false, not_false_eq_true, true_and, and_true, and_self, false_and, and_false, Nat.zero_le, am_bd_some, q_app, q_app0, nI_add, pk_sub, pk_mul, q_dec, q_ix, q_m1, q_m1', ↓q_ret, q_bool, q_bool1, q_u2, q_u1, q_shl1, q_shr, q_and7, q_dg, fa_or, fa_and, decide_true, decide_false, Bool.or_false, Bool.or_true, Bool.true_or, Bool.false_or, cond_true, cond_false, ite_not, q_some, q_nn, q_xor, q_xorm, Bool.false_eq_true, decide_eq_true_eq, ne_eq, l_0, l_1, l_2, l_3, l_4, l_5, l_6, l_8, l_9, l_10, l_11, l_12, l_13, l_14, l_15, l_19, l_27, l_28, l_36, l_39, l_41, l_60, l_84, l_103, l_105, l_108, l_109, l_128, l_143, l_156, l_159, l_188, l_191, l_3222, l_4096, l_16384, eb, hg3, e6, e9]
        exact Go_in ⟨i9, _, _, _, _, rfl, rfl, by (repeat (first | exact Fx_refl _ _ | assumption | refine Fx_u2 rfl ?_ | refine Fx_u1 rfl (by decide) ?_ | refine Fx_step (by assumption) rfl ?_ | refine Fx_stepr (by assumption) rfl rfl ?_)), by rw [es]; exact hQ9, by rw [es]; exact hG' i9 _ (by (repeat (first | exact Fx_refl _ _ | assumption | refine Fx_u2 rfl ?_ | refine Fx_u1 rfl (by decide) ?_ | refine Fx_step (by assumption) rfl ?_ | refine Fx_stepr (by assumption) rfl rfl ?_))) (pre_trans hpre (addL_pre _ _))⟩
  · obtain ⟨i4, z4, z5, z6, z7, e1, e2, hf4, hQ4, hG4⟩ := hI
    subst e1; subst e2
    rw [bfs_end h2 hn] at hQ4 hG4
    have hsl := stds_len (m := m) (t := t) h2 hn
    have h28 := hQ4.2.2
    rw [b_M_laysStands_41]
    simp (disch := first | assumption | omega) only [b_M_laysStands_0, b_M_laysStands_4, b_M_laysStands_36, b_M_laysStands_39, b_M_laysStands_84, b_M_laysStands_105, b_M_laysStands_108, b_M_laysStands_109, b_M_laysStands_143, b_M_laysStands_156, b_M_laysStands_159, b_M_laysStands_188, b_M_laysStands_191, s_M_isIn, s_M_standNow, s_M_withPlace, ↓Bool.cond_decide, ↓q_in, q_le, q_lt, q_eq, q_leT, q_leF, q_ltT, q_ltF, q_eqT, q_eqF, ↓reduceIte, not_true_eq_false, not_false_eq_true, true_and, and_true, and_self, false_and, and_false, Nat.zero_le, am_bd_some, q_app, q_app0, nI_add, pk_sub, pk_mul, q_dec, q_ix, q_m1, q_m1', ↓q_ret, q_bool, q_bool1, q_u2, q_u1, q_shl1, q_shr, q_and7, q_dg, fa_or, fa_and, decide_true, decide_false, Bool.or_false, Bool.or_true, Bool.true_or, Bool.false_or, cond_true, cond_false, ite_not, q_some, q_nn, q_xor, q_xorm, Bool.false_eq_true, decide_eq_true_eq, ne_eq, l_0, l_1, l_2, l_3, l_4, l_5, l_6, l_8, l_9, l_10, l_11, l_12, l_13, l_14, l_15, l_19, l_27, l_28, l_36, l_39, l_41, l_60, l_84, l_103, l_105, l_108, l_109, l_128, l_143, l_156, l_159, l_188, l_191, l_3222, l_4096, l_16384, h28]
    exact MR_some ⟨rfl, by (repeat (first | exact Fx_refl _ _ | assumption | refine Fx_u2 rfl ?_ | refine Fx_u1 rfl (by decide) ?_ | refine Fx_step (by assumption) rfl ?_ | refine Fx_stepr (by assumption) rfl rfl ?_)), hQ4, hG4, TR_fx hf4 hT1 rfl⟩
end
