/-! THE MODEL: coming over, by whom -/
def sCan (g : Nat → Nat) (m z : Nat) : Bool := (stds g m false (sNow g 4)).any (gl g z)
def v_needed (g : Nat → Nat) (x : Int32) : Int32 := if iB x (2 ^ g 2) = true then (if sCan g (evb g) x.toNatClampNeg = true then nI (bs (fun p => !sCan g (evb g &&& (2 ^ p ^^^ 4294967295)) x.toNatClampNeg) (g 2)) else nI 0) else -nI 3
def mvB (can : Nat → Bool) : Nat → Option Nat
  | 0 => none
  | n + 1 => match mvB can n with
    | none => if can n = true then some n else none
    | some b => if bc n 10 < bc b 10 ∧ can n = true then some n else some b
def v_movers (g : Nat → Nat) (x : Int32) : Int32 := if iB x (2 ^ g 2) = true then vW (mvB (fun m => sCan g m x.toNatClampNeg) (2 ^ g 2)) else -nI 3
def mst (g : Nat → Nat) (L : List Nat) : Nat → Nat
  | 0 => 0
  | k + 1 => if mst g L k < bc (sOver g (L.getD k 0)) 10 then bc (sOver g (L.getD k 0)) 10 else mst g L k
def v_most (g : Nat → Nat) : Int32 := nI (mst g (stds g (evb g) false (sNow g 4)) (stds g (evb g) false (sNow g 4)).length)
def rcL (p : Nat) (L : List Nat) : Nat → Nat
  | 0 => 0
  | k + 1 => rcL p L k ||| 2 ^ dg (L.getD k 0) p
def v_reach (g : Nat → Nat) (x : Int32) : Int32 := if iB x (g 2) = true then nI (rcL x.toNatClampNeg (stds g (evb g) false (sNow g 4)) (stds g (evb g) false (sNow g 4)).length) else -nI 2
def v_stands (g : Nat → Nat) : Int32 := nI (stds g (evb g) false (sNow g 4)).length
theorem rcL_lt (p : Nat) (L : List Nat) : ∀ k, rcL p L k < 256
  | 0 => Nat.zero_lt_succ _
  | k + 1 => by
    rw [rcL]
    exact Nat.or_lt_two_pow (n := 8) (rcL_lt p L k) (Nat.pow_lt_pow_right (by decide) (dg_lt _ _))
theorem mst_le (g : Nat → Nat) (L : List Nat) : ∀ k, mst g L k ≤ 10
  | 0 => Nat.zero_le _
  | k + 1 => by
    have := mst_le g L k
    have := bc_le (sOver g (L.getD k 0)) 10
    rw [mst]
    split <;> omega
theorem ff_any {f : Nat → Bool} {L : List Nat} : (ff (fun k => f (L.getD k 0)) L.length 0).isSome = L.any f := by
  cases h : ff (fun k => f (L.getD k 0)) L.length 0 with
  | none =>
    symm
    rw [Option.isSome_none, List.any_eq_false]
    intro x hx
    obtain ⟨k, hk, e⟩ := List.getElem_of_mem hx
    have := ff_none h k (by omega) (by omega)
    rw [List.getD_eq_getElem?_getD, List.getElem?_eq_getElem hk, Option.getD_some, e] at this
    rw [this]
    decide
  | some k =>
    symm
    rw [Option.isSome_some, List.any_eq_true]
    obtain ⟨h1, h2, h3, h4⟩ := ff_some h
    refine ⟨_, List.getElem_mem (show k < L.length by omega), ?_⟩
    rw [List.getD_eq_getElem?_getD, List.getElem?_eq_getElem (show k < L.length by omega), Option.getD_some] at h3
    exact h3
theorem sCan_eq (g : Nat → Nat) (m z : Nat) : sCan g m z = (ff (fun k => gl g z ((stds g m false (sNow g 4)).getD k 0)) (stds g m false (sNow g 4)).length 0).isSome := by
  rw [ff_any (f := gl g z) (L := stds g m false (sNow g 4)), sCan]
theorem mvB_lt {can : Nat → Bool} : ∀ {n b : Nat}, mvB can n = some b → b < n
  | 0, b, h => by cases h
  | n + 1, b, h => by
    rw [mvB] at h
    cases hq : mvB can n with
    | none =>
      rw [hq] at h
      dsimp only at h
      split at h
      · cases h; omega
      · cases h
    | some c =>
      rw [hq] at h
      dsimp only at h
      have := mvB_lt hq
      split at h <;> (cases h; omega)
section
variable {i : Nat → Nat → Int32} {l : Nat → Nat → Int64} {g : Nat → Nat}
theorem r_M_canBy (d : Nat) {m z : Nat} (hm : m < 65536) (hz : z < 65536) (hA : MA i g) (hW : WG g) : MR (some (.int (if sCan g m z = true then nI 1 else nI 0))) (fun i' l' => l' = l ∧ Fx [5, 6, 7, 8, 10, 11, 13, 120, 128] i i') (am_cl (d + 8) mM_canBy [.ref 0, .int (nI z), .int (nI m)] (i, l, rM, kM)) := by
  have hst := r_M_laysStands (i := i) (l := l) d (m := m) (t := false) hm hA hW
  obtain ⟨⟨h1', h1⟩, h2, h3, hR, hF', hP, hSt, hD', hL0, hL1, hV⟩ := hW
  have hn := sNow_lt g hP 4 (by decide)
  have e0 : (if false = true then nI 1 else nI 0) = nI 0 := rfl
  rw [e0] at hst
  have hlen := stds_len (m := m) (t := false) h2 hn
  have hlt : ∀ s, s ∈ stds g m false (sNow g 4) → s < 4096 := fun s hs => stds_lt h2 hn hs
  have hcan := sCan_eq g m z
  obtain ⟨L, hL⟩ : ∃ L, stds g m false (sNow g 4) = L := ⟨_, rfl⟩
  rw [hL] at hst hlen hlt hcan
  rw [hcan]
  rw [c_M_canBy, b_M_canBy_0]
  refine MR_bd hst ?_
  intro i1 l1 ⟨hl1, hf1, hQ1, hG1, hT1⟩
  subst hl1
  have hM1 : MA i1 g := MA_fx hf1 hA rfl
  have h28 := hQ1.2.2
  simp (disch := first | assumption | omega) only [b_M_canBy_0, b_M_canBy_6, b_M_canBy_27, s_M_isOver, ↓Bool.cond_decide, ↓q_in, q_le, q_lt, q_eq, q_leT, q_leF, q_ltT, q_ltF, q_eqT, q_eqF, ↓reduceIte, not_true_eq_false, not_false_eq_true, true_and, and_true, and_self, false_and, and_false, Nat.zero_le, am_bd_some, q_app, q_app0, nI_add, pk_sub, pk_mul, q_dec, q_ix, q_m1, q_m1', ↓q_ret, q_bool, q_bool1, q_u2, q_u1, q_shl1, q_shr, q_and7, q_dg, fa_or, fa_and, decide_true, decide_false, Bool.or_false, Bool.or_true, Bool.true_or, Bool.false_or, cond_true, cond_false, ite_not, q_some, q_nn, q_xor, q_xorm, Bool.false_eq_true, decide_eq_true_eq, ne_eq, l_0, l_1, l_5, l_6, l_8, l_10, l_15, l_27, l_28, l_4096]
  refine am_find (fun k ls st => ∃ z2, ls = [.val (.ref 0), .val (.int (nI z)), z2, .val (.int (nI k))] ∧ st = (i1, l1, rM, kM)) (fun k => gl g z (L.getD k 0)) (fun o r => MR (some (.int (if o.isSome = true then nI 1 else nI 0))) (fun i' l' => l' = l1 ∧ Fx [5, 6, 7, 8, 10, 11, 13, 120, 128] i i') r) L.length 0 (fun k ls st _ hk hI => ?_) (fun ls st hI => ?_) _ _ ⟨_, rfl, rfl⟩
  · obtain ⟨z2, e1, e2⟩ := hI
    subst e1; subst e2
    have hk : k < L.length := by omega
    have hs : L[k]? = some (L.getD k 0) := by rw [List.getD_eq_getElem?_getD, List.getElem?_eq_getElem hk]; rfl
    have h10 := hQ1.1 k _ hs
    have hs4 := hlt _ (List.mem_of_getElem? hs)
    refine ⟨fun hb => ?_, fun hb => ?_⟩
    · have hb := of_decide_eq_true hb
      rw [b_M_canBy_8]
      simp (disch := first | assumption | omega) only [b_M_canBy_0, b_M_canBy_6, b_M_canBy_27, s_M_isOver, ↓Bool.cond_decide, ↓q_in, q_le, q_lt, q_eq, q_leT, q_leF, q_ltT, q_ltF, q_eqT, q_eqF, ↓reduceIte, not_true_eq_false, not_false_eq_true, true_and, and_true, and_self, false_and, and_false, Nat.zero_le, am_bd_some, q_app, q_app0, nI_add, pk_sub, pk_mul, q_dec, q_ix, q_m1, q_m1', ↓q_ret, q_bool, q_bool1, q_u2, q_u1, q_shl1, q_shr, q_and7, q_dg, fa_or, fa_and, decide_true, decide_false, Bool.or_false, Bool.or_true, Bool.true_or, Bool.false_or, cond_true, cond_false, ite_not, q_some, q_nn, q_xor, q_xorm, Bool.false_eq_true, decide_eq_true_eq, ne_eq, l_0, l_1, l_5, l_6, l_8, l_10, l_15, l_27, l_28, l_4096, h28, h10, hb]
      exact MR_some ⟨rfl, hf1⟩
    · have hb := of_decide_eq_false hb
      rw [b_M_canBy_8]
      simp (disch := first | assumption | omega) only [b_M_canBy_0, b_M_canBy_6, b_M_canBy_27, s_M_isOver, ↓Bool.cond_decide, ↓q_in, q_le, q_lt, q_eq, q_leT, q_leF, q_ltT, q_ltF, q_eqT, q_eqF, ↓reduceIte, not_true_eq_false, not_false_eq_true, true_and, and_true, and_self, false_and, and_false, Nat.zero_le, am_bd_some, q_app, q_app0, nI_add, pk_sub, pk_mul, q_dec, q_ix, q_m1, q_m1', ↓q_ret, q_bool, q_bool1, q_u2, q_u1, q_shl1, q_shr, q_and7, q_dg, fa_or, fa_and, decide_true, decide_false, Bool.or_false, Bool.or_true, Bool.true_or, Bool.false_or, cond_true, cond_false, ite_not, q_some, q_nn, q_xor, q_xorm, Bool.false_eq_true, decide_eq_true_eq, ne_eq, l_0, l_1, l_5, l_6, l_8, l_10, l_15, l_27, l_28, l_4096, h28, h10, hb]
      exact Go_in ⟨_, rfl, rfl⟩
  · obtain ⟨z2, e1, e2⟩ := hI
    subst e1; subst e2
    rw [Nat.zero_add, b_M_canBy_8]
    simp (disch := first | assumption | omega) only [b_M_canBy_0, b_M_canBy_6, b_M_canBy_27, s_M_isOver, ↓Bool.cond_decide, ↓q_in, q_le, q_lt, q_eq, q_leT, q_leF, q_ltT, q_ltF, q_eqT, q_eqF, ↓reduceIte, not_true_eq_false, not_false_eq_true, true_and, and_true, and_self, false_and, and_false, Nat.zero_le, am_bd_some, q_app, q_app0, nI_add, pk_sub, pk_mul, q_dec, q_ix, q_m1, q_m1', ↓q_ret, q_bool, q_bool1, q_u2, q_u1, q_shl1, q_shr, q_and7, q_dg, fa_or, fa_and, decide_true, decide_false, Bool.or_false, Bool.or_true, Bool.true_or, Bool.false_or, cond_true, cond_false, ite_not, q_some, q_nn, q_xor, q_xorm, Bool.false_eq_true, decide_eq_true_eq, ne_eq, l_0, l_1, l_5, l_6, l_8, l_10, l_15, l_27, l_28, l_4096, h28]
    exact MR_some ⟨rfl, hf1⟩
theorem r_M_needed (d : Nat) (x : Int32) {σ : St} (hS : MS i l σ) (hW : WG σ.1) : MR (some (.int (v_needed σ.1 x))) (fun i' l' => MS i' l' (σ)) (am_cl (d + 9) mM_needed [.ref 0, .int x] (i, l, rM, kM)) := by
  have hW' := hW
  obtain ⟨g, σ⟩ := σ
  obtain ⟨⟨h1', h1⟩, h2, h3, hR, hF, hP, hSt, hD, hL0, hL1, hV⟩ := hW
  have h1 : g 1 ≤ 6 := h1
  have h2 : g 2 ≤ 4 := h2
  have hR : ∀ p, p < 4 → g (10 + p) ≤ 4 := hR
  have hP : ∀ p, p < 4 → g (18 + p) < 8 := hP
  have hSt : ∀ p, p < 4 → g (22 + p) ≤ 9 := hSt
  have hD : ∀ s, s < 6 → g (26 + s) ≤ 9 := hD
  have hA := hS.1
  have hn := sNow_lt g hP 4 (by decide)
  have hf0 : Fx [100] i (am_u2 i 0 0 (nI 0)) := by (repeat (first | exact Fx_refl _ _ | assumption | refine Fx_u2 rfl ?_ | refine Fx_u1 rfl (by decide) ?_ | refine Fx_step (by assumption) rfl ?_ | refine Fx_stepr (by assumption) rfl rfl ?_))
  have hM0 : MA (am_u2 i 0 0 (nI 0)) g := MA_fx hf0 hA rfl
  have hM0' : ∀ k, k < 3222 → am_u2 i 0 0 (nI 0) 1 k = nI (g k) := hM0
  have hev := evb_lt h2
  have hp2 := p2_le h2
  rw [c_M_needed, b_M_needed_0, v_needed]
  by_cases hx : iB x (2 ^ g 2) = true
  · simp (disch := first | assumption | omega) only [b_M_needed_0, b_M_needed_10, b_M_needed_24, b_M_needed_27, b_M_needed_51, b_M_needed_60, b_M_needed_70, s_M_everybody', s_M_isSet, ↓Bool.cond_decide, ↓q_in, q_le, q_lt, q_eq, q_leT, q_leF, q_ltT, q_ltF, q_eqT, q_eqF, ↓reduceIte, not_true_eq_false, not_false_eq_true, true_and, and_true, and_self, false_and, and_false, Nat.zero_le, am_bd_some, q_app, q_app0, nI_add, pk_sub, pk_mul, q_dec, q_ix, q_m1, q_m1', ↓q_ret, q_bool, q_bool1, q_u1, q_shl1, q_shr, q_and7, q_dg, fa_or, fa_and, decide_true, decide_false, Bool.or_false, Bool.or_true, Bool.true_or, Bool.false_or, cond_true, cond_false, ite_not, q_some, q_nn, q_xor, q_xorm, Bool.false_eq_true, decide_eq_true_eq, ne_eq, l_0, l_1, l_2, l_3, l_7, l_8, l_9, l_10, l_11, l_15, l_24, l_27, l_31, l_34, l_51, l_60, l_70, hx, s_M_everybody']
    obtain ⟨z, hz, rfl⟩ := iB_T hx
    refine MR_bd (r_M_canBy d (m := evb g) (z := z) (by omega) (by omega) hM0 hW') ?_
    intro i2 l2 ⟨hl2, hf2⟩
    subst hl2
    cases hc : sCan g (evb g) z with
    | false =>
      simp (disch := first | assumption | omega) only [b_M_needed_0, b_M_needed_10, b_M_needed_24, b_M_needed_27, b_M_needed_51, b_M_needed_60, b_M_needed_70, s_M_everybody, s_M_everybody', s_M_isSet, ↓Bool.cond_decide, ↓q_in, q_le, q_lt, q_eq, q_leT, q_leF, q_ltT, q_ltF, q_eqT, q_eqF, ↓reduceIte, not_true_eq_false, not_false_eq_true, true_and, and_true, and_self, false_and, and_false, Nat.zero_le, am_bd_some, q_app, q_app0, nI_add, pk_sub, pk_mul, q_dec, q_ix, q_m1, q_m1', ↓q_ret, q_bool, q_bool1, q_u2, q_u1, q_shl1, q_shr, q_and7, q_dg, fa_or, fa_and, decide_true, decide_false, Bool.or_false, Bool.or_true, Bool.true_or, Bool.false_or, cond_true, cond_false, ite_not, q_some, q_nn, q_xor, q_xorm, Bool.false_eq_true, decide_eq_true_eq, ne_eq, l_0, l_1, l_2, l_3, l_7, l_8, l_9, l_10, l_11, l_15, l_24, l_27, l_31, l_34, l_51, l_60, l_70, hc]
      exact MR_some (MS_fx (R := RQ) (by (repeat (first | exact Fx_refl _ _ | assumption | refine Fx_u2 rfl ?_ | refine Fx_u1 rfl (by decide) ?_ | refine Fx_step (by assumption) rfl ?_ | refine Fx_stepr (by assumption) rfl rfl ?_))) rfl rfl hS)
    | true =>
      simp (disch := first | assumption | omega) only [b_M_needed_0, b_M_needed_10, b_M_needed_24, b_M_needed_27, b_M_needed_51, b_M_needed_60, b_M_needed_70, s_M_everybody, s_M_everybody', s_M_isSet, ↓Bool.cond_decide, ↓q_in, q_le, q_lt, q_eq, q_leT, q_leF, q_ltT, q_ltF, q_eqT, q_eqF, ↓reduceIte, not_true_eq_false, not_false_eq_true, true_and, and_true, and_self, false_and, and_false, Nat.zero_le, am_bd_some, q_app, q_app0, nI_add, pk_sub, pk_mul, q_dec, q_ix, q_m1, q_m1', ↓q_ret, q_bool, q_bool1, q_u2, q_u1, q_shl1, q_shr, q_and7, q_dg, fa_or, fa_and, decide_true, decide_false, Bool.or_false, Bool.or_true, Bool.true_or, Bool.false_or, cond_true, cond_false, ite_not, q_some, q_nn, q_xor, q_xorm, Bool.false_eq_true, decide_eq_true_eq, ne_eq, l_0, l_1, l_2, l_3, l_7, l_8, l_9, l_10, l_11, l_15, l_24, l_27, l_31, l_34, l_51, l_60, l_70, hc]
      refine am_loop (fun p ls st => ∃ i', ls = [.val (.ref 0), .val (.int (nI z)), .val (.int (nI (bs (fun p => !sCan g (evb g &&& (2 ^ p ^^^ 4294967295)) z) p))), .val (.int (nI p))] ∧ st = (i', l2, rM, kM) ∧ Fx [5, 6, 7, 8, 10, 11, 13, 120, 128] i2 i') (g 2) _ (fun p ls st hp hI => ?_) (fun ls st hI => ?_) ⟨i2, rfl, rfl, Fx_refl _ _⟩
      · obtain ⟨i3, e1, e2, hf3⟩ := hI
        subst e1; subst e2
        have hA3 : ∀ k, k < 3222 → i3 1 k = nI (g k) := MA_fx hf3 (MA_fx hf2 hM0 rfl) rfl
        have hM3 : MA i3 g := hA3
        have hle : evb g &&& (2 ^ p ^^^ 4294967295) ≤ evb g := Nat.and_le_left
        obtain ⟨i4, l4, e4, hl4, hf4⟩ := r_M_canBy (i := i3) (l := l2) d (m := evb g &&& (2 ^ p ^^^ 4294967295)) (z := z) (by omega) (by omega) hM3 hW'
        subst hl4
        rw [b_M_needed_34]
        cases hcc : sCan g (evb g &&& (2 ^ p ^^^ 4294967295)) z with
        | true =>
          simp (disch := first | assumption | omega) only [b_M_needed_0, b_M_needed_10, b_M_needed_24, b_M_needed_27, b_M_needed_51, b_M_needed_60, b_M_needed_70, s_M_everybody', s_M_isSet, ↓Bool.cond_decide, ↓q_in, q_le, q_lt, q_eq, q_leT, q_leF, q_ltT, q_ltF, q_eqT, q_eqF, ↓reduceIte, not_true_eq_false, not_false_eq_true, true_and, and_true, and_self, false_and, and_false, Nat.zero_le, am_bd_some, q_app, q_app0, nI_add, pk_sub, pk_mul, q_dec, q_ix, q_m1, q_m1', ↓q_ret, q_bool, q_bool1, q_u2, q_u1, q_shl1, q_shr, q_and7, q_dg, fa_or, fa_and, decide_true, decide_false, Bool.or_false, Bool.or_true, Bool.true_or, Bool.false_or, cond_true, cond_false, ite_not, q_some, q_nn, q_xor, q_xorm, Bool.false_eq_true, decide_eq_true_eq, ne_eq, l_0, l_1, l_2, l_3, l_7, l_8, l_9, l_10, l_11, l_15, l_24, l_27, l_31, l_34, l_51, l_60, l_70, hA3, s_M_everybody', e4, hcc]
          rw [show bs (fun p => !sCan g (evb g &&& (2 ^ p ^^^ 4294967295)) z) p ||| 0 = bs (fun p => !sCan g (evb g &&& (2 ^ p ^^^ 4294967295)) z) (p + 1) by rw [bs, if_neg (by rw [hcc]; decide)]]
          exact Go_in ⟨i4, rfl, rfl, by (repeat (first | exact Fx_refl _ _ | assumption | refine Fx_u2 rfl ?_ | refine Fx_u1 rfl (by decide) ?_ | refine Fx_step (by assumption) rfl ?_ | refine Fx_stepr (by assumption) rfl rfl ?_))⟩
        | false =>
          simp (disch := first | assumption | omega) only [b_M_needed_0, b_M_needed_10, b_M_needed_24, b_M_needed_27, b_M_needed_51, b_M_needed_60, b_M_needed_70, s_M_everybody', s_M_isSet, ↓Bool.cond_decide, ↓q_in, q_le, q_lt, q_eq, q_leT, q_leF, q_ltT, q_ltF, q_eqT, q_eqF, ↓reduceIte, not_true_eq_false, not_false_eq_true, true_and, and_true, and_self, false_and, and_false, Nat.zero_le, am_bd_some, q_app, q_app0, nI_add, pk_sub, pk_mul, q_dec, q_ix, q_m1, q_m1', ↓q_ret, q_bool, q_bool1, q_u2, q_u1, q_shl1, q_shr, q_and7, q_dg, fa_or, fa_and, decide_true, decide_false, Bool.or_false, Bool.or_true, Bool.true_or, Bool.false_or, cond_true, cond_false, ite_not, q_some, q_nn, q_xor, q_xorm, Bool.false_eq_true, decide_eq_true_eq, ne_eq, l_0, l_1, l_2, l_3, l_7, l_8, l_9, l_10, l_11, l_15, l_24, l_27, l_31, l_34, l_51, l_60, l_70, hA3, s_M_everybody', e4, hcc]
          rw [show bs (fun p => !sCan g (evb g &&& (2 ^ p ^^^ 4294967295)) z) p ||| 2 ^ p = bs (fun p => !sCan g (evb g &&& (2 ^ p ^^^ 4294967295)) z) (p + 1) by rw [bs, if_pos (by rw [hcc]; decide)]]
          exact Go_in ⟨i4, rfl, rfl, by (repeat (first | exact Fx_refl _ _ | assumption | refine Fx_u2 rfl ?_ | refine Fx_u1 rfl (by decide) ?_ | refine Fx_step (by assumption) rfl ?_ | refine Fx_stepr (by assumption) rfl rfl ?_))⟩
      · obtain ⟨i3, e1, e2, hf3⟩ := hI
        subst e1; subst e2
        have hA3 : ∀ k, k < 3222 → i3 1 k = nI (g k) := MA_fx hf3 (MA_fx hf2 hM0 rfl) rfl
        rw [b_M_needed_34]
        simp (disch := first | assumption | omega) only [b_M_needed_0, b_M_needed_10, b_M_needed_24, b_M_needed_27, b_M_needed_51, b_M_needed_60, b_M_needed_70, s_M_everybody, s_M_everybody', s_M_isSet, ↓Bool.cond_decide, ↓q_in, q_le, q_lt, q_eq, q_leT, q_leF, q_ltT, q_ltF, q_eqT, q_eqF, ↓reduceIte, not_true_eq_false, not_false_eq_true, true_and, and_true, and_self, false_and, and_false, Nat.zero_le, am_bd_some, q_app, q_app0, nI_add, pk_sub, pk_mul, q_dec, q_ix, q_m1, q_m1', ↓q_ret, q_bool, q_bool1, q_u2, q_u1, q_shl1, q_shr, q_and7, q_dg, fa_or, fa_and, decide_true, decide_false, Bool.or_false, Bool.or_true, Bool.true_or, Bool.false_or, cond_true, cond_false, ite_not, q_some, q_nn, q_xor, q_xorm, Bool.false_eq_true, decide_eq_true_eq, ne_eq, l_0, l_1, l_2, l_3, l_7, l_8, l_9, l_10, l_11, l_15, l_24, l_27, l_31, l_34, l_51, l_60, l_70, hA3]
        exact MR_some (MS_fx (R := RQ) (by (repeat (first | exact Fx_refl _ _ | assumption | refine Fx_u2 rfl ?_ | refine Fx_u1 rfl (by decide) ?_ | refine Fx_step (by assumption) rfl ?_ | refine Fx_stepr (by assumption) rfl rfl ?_))) rfl rfl hS)
  · simp (disch := first | assumption | omega) only [b_M_needed_0, b_M_needed_10, b_M_needed_24, b_M_needed_27, b_M_needed_51, b_M_needed_60, b_M_needed_70, s_M_everybody, s_M_everybody', s_M_isSet, ↓Bool.cond_decide, ↓q_in, q_le, q_lt, q_eq, q_leT, q_leF, q_ltT, q_ltF, q_eqT, q_eqF, ↓reduceIte, not_true_eq_false, not_false_eq_true, true_and, and_true, and_self, false_and, and_false, Nat.zero_le, am_bd_some, q_app, q_app0, nI_add, pk_sub, pk_mul, q_dec, q_ix, q_m1, q_m1', ↓q_ret, q_bool, q_bool1, q_u2, q_u1, q_shl1, q_shr, q_and7, q_dg, fa_or, fa_and, decide_true, decide_false, Bool.or_false, Bool.or_true, Bool.true_or, Bool.false_or, cond_true, cond_false, ite_not, q_some, q_nn, q_xor, q_xorm, Bool.false_eq_true, decide_eq_true_eq, ne_eq, l_0, l_1, l_2, l_3, l_7, l_8, l_9, l_10, l_11, l_15, l_24, l_27, l_31, l_34, l_51, l_60, l_70, hx]
    exact MR_some (MS_fx (R := RQ) (by (repeat (first | exact Fx_refl _ _ | assumption | refine Fx_u2 rfl ?_ | refine Fx_u1 rfl (by decide) ?_ | refine Fx_step (by assumption) rfl ?_ | refine Fx_stepr (by assumption) rfl rfl ?_))) rfl rfl hS)
theorem r_M_movers (d : Nat) (x : Int32) {σ : St} (hS : MS i l σ) (hW : WG σ.1) : MR (some (.int (v_movers σ.1 x))) (fun i' l' => MS i' l' (σ)) (am_cl (d + 9) mM_movers [.ref 0, .int x] (i, l, rM, kM)) := by
  have hW' := hW
  obtain ⟨g, σ⟩ := σ
  obtain ⟨⟨h1', h1⟩, h2, h3, hR, hF, hP, hSt, hD, hL0, hL1, hV⟩ := hW
  have h1 : g 1 ≤ 6 := h1
  have h2 : g 2 ≤ 4 := h2
  have hR : ∀ p, p < 4 → g (10 + p) ≤ 4 := hR
  have hP : ∀ p, p < 4 → g (18 + p) < 8 := hP
  have hSt : ∀ p, p < 4 → g (22 + p) ≤ 9 := hSt
  have hD : ∀ s, s < 6 → g (26 + s) ≤ 9 := hD
  have hA := hS.1
  have hn := sNow_lt g hP 4 (by decide)
  have hf0 : Fx [100] i (am_u2 i 0 0 (nI 0)) := by (repeat (first | exact Fx_refl _ _ | assumption | refine Fx_u2 rfl ?_ | refine Fx_u1 rfl (by decide) ?_ | refine Fx_step (by assumption) rfl ?_ | refine Fx_stepr (by assumption) rfl rfl ?_))
  have hM0 : MA (am_u2 i 0 0 (nI 0)) g := MA_fx hf0 hA rfl
  have hM0' : ∀ k, k < 3222 → am_u2 i 0 0 (nI 0) 1 k = nI (g k) := hM0
  have hp2 := p2_le h2
  rw [c_M_movers, b_M_movers_0, v_movers]
  by_cases hx : iB x (2 ^ g 2) = true
  · simp (disch := first | assumption | omega) only [b_M_movers_0, b_M_movers_10, b_M_movers_41, b_M_movers_45, b_M_movers_48, b_M_movers_54, b_M_movers_59, s_M_bitsOf, s_M_isSet, ↓Bool.cond_decide, ↓q_in, q_le, q_lt, q_eq, q_leT, q_leF, q_ltT, q_ltF, q_eqT, q_eqF, ↓reduceIte, not_true_eq_false, not_false_eq_true, true_and, and_true, and_self, false_and, and_false, Nat.zero_le, am_bd_some, q_app, q_app0, nI_add, pk_sub, pk_mul, q_dec, q_ix, q_m1, q_m1', ↓q_ret, q_bool, q_bool1, q_u1, q_shl1, q_shr, q_and7, q_dg, fa_or, fa_and, decide_true, decide_false, Bool.or_false, Bool.or_true, Bool.true_or, Bool.false_or, cond_true, cond_false, ite_not, q_some, q_nn, q_xor, q_xorm, Bool.false_eq_true, decide_eq_true_eq, ne_eq, l_0, l_1, l_2, l_3, l_4, l_5, l_6, l_7, l_8, l_10, l_18, l_20, l_31, l_41, l_45, l_48, l_54, l_59, hx]
    obtain ⟨z, hz, rfl⟩ := iB_T hx
    refine am_loop (fun k ls st => ∃ i', ls = [.val (.ref 0), .val (.int (nI z)), .val (.int (vW (mvB (fun m => sCan g m z) k))), .val (.int (nI k))] ∧ st = (i', l, rM, kM) ∧ Fx [5, 6, 7, 8, 10, 11, 13, 100, 120, 128] i i') (2 ^ g 2) _ (fun k ls st hk hI => ?_) (fun ls st hI => ?_) ⟨_, rfl, rfl, by (repeat (first | exact Fx_refl _ _ | assumption | refine Fx_u2 rfl ?_ | refine Fx_u1 rfl (by decide) ?_ | refine Fx_step (by assumption) rfl ?_ | refine Fx_stepr (by assumption) rfl rfl ?_))⟩
    · obtain ⟨i3, e1, e2, hf3⟩ := hI
      subst e1; subst e2
      have hA3 : ∀ k, k < 3222 → i3 1 k = nI (g k) := MA_fx hf3 hA rfl
      have hM3 : MA i3 g := hA3
      obtain ⟨i4, l4, e4, hl4, hf4⟩ := r_M_canBy (i := i3) (l := l) d (m := k) (z := z) (by omega) (by omega) hM3 hW'
      subst hl4
      rw [b_M_movers_20]
      cases hb : mvB (fun m => sCan g m z) k with
      | none =>
        cases hcc : sCan g k z with
        | true =>
          have eB : mvB (fun m => sCan g m z) (k + 1) = some k := by rw [mvB, hb]; dsimp only; rw [if_pos hcc]
          simp (disch := first | assumption | omega) only [b_M_movers_0, b_M_movers_10, b_M_movers_41, b_M_movers_45, b_M_movers_48, b_M_movers_54, b_M_movers_59, s_M_bitsOf, s_M_isSet, ↓Bool.cond_decide, ↓q_in, q_le, q_lt, q_eq, q_leT, q_leF, q_ltT, q_ltF, q_eqT, q_eqF, ↓reduceIte, not_true_eq_false, not_false_eq_true, true_and, and_true, and_self, false_and, and_false, Nat.zero_le, am_bd_some, q_app, q_app0, nI_add, pk_sub, pk_mul, q_dec, q_ix, q_m1, q_m1', ↓q_ret, q_bool, q_bool1, q_u2, q_u1, q_shl1, q_shr, q_and7, q_dg, fa_or, fa_and, decide_true, decide_false, Bool.or_false, Bool.or_true, Bool.true_or, Bool.false_or, cond_true, cond_false, ite_not, q_some, q_nn, q_xor, q_xorm, Bool.false_eq_true, decide_eq_true_eq, ne_eq, l_0, l_1, l_2, l_3, l_4, l_5, l_6, l_7, l_8, l_10, l_18, l_20, l_31, l_41, l_45, l_48, l_54, l_59, hA3, q_vW0, e4, hcc]
          refine Go_in ⟨i4, ?_, rfl, by (repeat (first | exact Fx_refl _ _ | assumption | refine Fx_u2 rfl ?_ | refine Fx_u1 rfl (by decide) ?_ | refine Fx_step (by assumption) rfl ?_ | refine Fx_stepr (by assumption) rfl rfl ?_))⟩
          rw [eB]; rfl
        | false =>
          have eB : mvB (fun m => sCan g m z) (k + 1) = none := by rw [mvB, hb]; dsimp only; rw [if_neg (by rw [hcc]; decide)]
          simp (disch := first | assumption | omega) only [b_M_movers_0, b_M_movers_10, b_M_movers_41, b_M_movers_45, b_M_movers_48, b_M_movers_54, b_M_movers_59, s_M_bitsOf, s_M_isSet, ↓Bool.cond_decide, ↓q_in, q_le, q_lt, q_eq, q_leT, q_leF, q_ltT, q_ltF, q_eqT, q_eqF, ↓reduceIte, not_true_eq_false, not_false_eq_true, true_and, and_true, and_self, false_and, and_false, Nat.zero_le, am_bd_some, q_app, q_app0, nI_add, pk_sub, pk_mul, q_dec, q_ix, q_m1, q_m1', ↓q_ret, q_bool, q_bool1, q_u2, q_u1, q_shl1, q_shr, q_and7, q_dg, fa_or, fa_and, decide_true, decide_false, Bool.or_false, Bool.or_true, Bool.true_or, Bool.false_or, cond_true, cond_false, ite_not, q_some, q_nn, q_xor, q_xorm, Bool.false_eq_true, decide_eq_true_eq, ne_eq, l_0, l_1, l_2, l_3, l_4, l_5, l_6, l_7, l_8, l_10, l_18, l_20, l_31, l_41, l_45, l_48, l_54, l_59, hA3, q_vW0, e4, hcc]
          refine Go_in ⟨i4, ?_, rfl, by (repeat (first | exact Fx_refl _ _ | assumption | refine Fx_u2 rfl ?_ | refine Fx_u1 rfl (by decide) ?_ | refine Fx_step (by assumption) rfl ?_ | refine Fx_stepr (by assumption) rfl rfl ?_))⟩
          rw [eB]; rfl
      | some b =>
        have hbl := mvB_lt hb
        have hb1 := bc_le k 10
        have hb2 := bc_le b 10
        by_cases hq : bc k 10 < bc b 10
        · cases hcc : sCan g k z with
          | true =>
            have eB : mvB (fun m => sCan g m z) (k + 1) = some k := by rw [mvB, hb]; dsimp only; rw [if_pos ⟨hq, hcc⟩]
            simp (disch := first | assumption | omega) only [b_M_movers_0, b_M_movers_10, b_M_movers_41, b_M_movers_45, b_M_movers_48, b_M_movers_54, b_M_movers_59, s_M_bitsOf, s_M_isSet, ↓Bool.cond_decide, ↓q_in, q_le, q_lt, q_eq, q_leT, q_leF, q_ltT, q_ltF, q_eqT, q_eqF, ↓reduceIte, not_true_eq_false, not_false_eq_true, true_and, and_true, and_self, false_and, and_false, Nat.zero_le, am_bd_some, q_app, q_app0, nI_add, pk_sub, pk_mul, q_dec, q_ix, q_m1, q_m1', ↓q_ret, q_bool, q_bool1, q_u2, q_u1, q_shl1, q_shr, q_and7, q_dg, fa_or, fa_and, decide_true, decide_false, Bool.or_false, Bool.or_true, Bool.true_or, Bool.false_or, cond_true, cond_false, ite_not, q_some, q_nn, q_xor, q_xorm, Bool.false_eq_true, decide_eq_true_eq, ne_eq, l_0, l_1, l_2, l_3, l_4, l_5, l_6, l_7, l_8, l_10, l_18, l_20, l_31, l_41, l_45, l_48, l_54, l_59, hA3, q_vW1, e4, hcc]
            refine Go_in ⟨i4, ?_, rfl, by (repeat (first | exact Fx_refl _ _ | assumption | refine Fx_u2 rfl ?_ | refine Fx_u1 rfl (by decide) ?_ | refine Fx_step (by assumption) rfl ?_ | refine Fx_stepr (by assumption) rfl rfl ?_))⟩
            rw [eB]; rfl
          | false =>
            have eB : mvB (fun m => sCan g m z) (k + 1) = some b := by rw [mvB, hb]; dsimp only; rw [if_neg (by rw [hcc]; exact fun z => by cases z.2)]
            simp (disch := first | assumption | omega) only [b_M_movers_0, b_M_movers_10, b_M_movers_41, b_M_movers_45, b_M_movers_48, b_M_movers_54, b_M_movers_59, s_M_bitsOf, s_M_isSet, ↓Bool.cond_decide, ↓q_in, q_le, q_lt, q_eq, q_leT, q_leF, q_ltT, q_ltF, q_eqT, q_eqF, ↓reduceIte, not_true_eq_false, not_false_eq_true, true_and, and_true, and_self, false_and, and_false, Nat.zero_le, am_bd_some, q_app, q_app0, nI_add, pk_sub, pk_mul, q_dec, q_ix, q_m1, q_m1', ↓q_ret, q_bool, q_bool1, q_u2, q_u1, q_shl1, q_shr, q_and7, q_dg, fa_or, fa_and, decide_true, decide_false, Bool.or_false, Bool.or_true, Bool.true_or, Bool.false_or, cond_true, cond_false, ite_not, q_some, q_nn, q_xor, q_xorm, Bool.false_eq_true, decide_eq_true_eq, ne_eq, l_0, l_1, l_2, l_3, l_4, l_5, l_6, l_7, l_8, l_10, l_18, l_20, l_31, l_41, l_45, l_48, l_54, l_59, hA3, q_vW1, e4, hcc]
            refine Go_in ⟨i4, ?_, rfl, by (repeat (first | exact Fx_refl _ _ | assumption | refine Fx_u2 rfl ?_ | refine Fx_u1 rfl (by decide) ?_ | refine Fx_step (by assumption) rfl ?_ | refine Fx_stepr (by assumption) rfl rfl ?_))⟩
            rw [eB]; rfl
        · have eB : mvB (fun m => sCan g m z) (k + 1) = some b := by rw [mvB, hb]; dsimp only; rw [if_neg (fun z => hq z.1)]
          simp (disch := first | assumption | omega) only [b_M_movers_0, b_M_movers_10, b_M_movers_41, b_M_movers_45, b_M_movers_48, b_M_movers_54, b_M_movers_59, s_M_bitsOf, s_M_isSet, ↓Bool.cond_decide, ↓q_in, q_le, q_lt, q_eq, q_leT, q_leF, q_ltT, q_ltF, q_eqT, q_eqF, ↓reduceIte, not_true_eq_false, not_false_eq_true, true_and, and_true, and_self, false_and, and_false, Nat.zero_le, am_bd_some, q_app, q_app0, nI_add, pk_sub, pk_mul, q_dec, q_ix, q_m1, q_m1', ↓q_ret, q_bool, q_bool1, q_u2, q_u1, q_shl1, q_shr, q_and7, q_dg, fa_or, fa_and, decide_true, decide_false, Bool.or_false, Bool.or_true, Bool.true_or, Bool.false_or, cond_true, cond_false, ite_not, q_some, q_nn, q_xor, q_xorm, Bool.false_eq_true, decide_eq_true_eq, ne_eq, l_0, l_1, l_2, l_3, l_4, l_5, l_6, l_7, l_8, l_10, l_18, l_20, l_31, l_41, l_45, l_48, l_54, l_59, hA3, q_vW1]
          refine Go_in ⟨i3, ?_, rfl, hf3⟩
          rw [eB]; rfl
    · obtain ⟨i3, e1, e2, hf3⟩ := hI
      subst e1; subst e2
      have hA3 : ∀ k, k < 3222 → i3 1 k = nI (g k) := MA_fx hf3 hA rfl
      rw [b_M_movers_20]
      simp (disch := first | assumption | omega) only [b_M_movers_0, b_M_movers_10, b_M_movers_41, b_M_movers_45, b_M_movers_48, b_M_movers_54, b_M_movers_59, s_M_bitsOf, s_M_isSet, ↓Bool.cond_decide, ↓q_in, q_le, q_lt, q_eq, q_leT, q_leF, q_ltT, q_ltF, q_eqT, q_eqF, ↓reduceIte, not_true_eq_false, not_false_eq_true, true_and, and_true, and_self, false_and, and_false, Nat.zero_le, am_bd_some, q_app, q_app0, nI_add, pk_sub, pk_mul, q_dec, q_ix, q_m1, q_m1', ↓q_ret, q_bool, q_bool1, q_u2, q_u1, q_shl1, q_shr, q_and7, q_dg, fa_or, fa_and, decide_true, decide_false, Bool.or_false, Bool.or_true, Bool.true_or, Bool.false_or, cond_true, cond_false, ite_not, q_some, q_nn, q_xor, q_xorm, Bool.false_eq_true, decide_eq_true_eq, ne_eq, l_0, l_1, l_2, l_3, l_4, l_5, l_6, l_7, l_8, l_10, l_18, l_20, l_31, l_41, l_45, l_48, l_54, l_59, hA3]
      exact MR_some (MS_fx (R := RQ) (by (repeat (first | exact Fx_refl _ _ | assumption | refine Fx_u2 rfl ?_ | refine Fx_u1 rfl (by decide) ?_ | refine Fx_step (by assumption) rfl ?_ | refine Fx_stepr (by assumption) rfl rfl ?_))) rfl rfl hS)
  · simp (disch := first | assumption | omega) only [b_M_movers_0, b_M_movers_10, b_M_movers_41, b_M_movers_45, b_M_movers_48, b_M_movers_54, b_M_movers_59, s_M_bitsOf, s_M_isSet, ↓Bool.cond_decide, ↓q_in, q_le, q_lt, q_eq, q_leT, q_leF, q_ltT, q_ltF, q_eqT, q_eqF, ↓reduceIte, not_true_eq_false, not_false_eq_true, true_and, and_true, and_self, false_and, and_false, Nat.zero_le, am_bd_some, q_app, q_app0, nI_add, pk_sub, pk_mul, q_dec, q_ix, q_m1, q_m1', ↓q_ret, q_bool, q_bool1, q_u2, q_u1, q_shl1, q_shr, q_and7, q_dg, fa_or, fa_and, decide_true, decide_false, Bool.or_false, Bool.or_true, Bool.true_or, Bool.false_or, cond_true, cond_false, ite_not, q_some, q_nn, q_xor, q_xorm, Bool.false_eq_true, decide_eq_true_eq, ne_eq, l_0, l_1, l_2, l_3, l_4, l_5, l_6, l_7, l_8, l_10, l_18, l_20, l_31, l_41, l_45, l_48, l_54, l_59, hx]
    exact MR_some (MS_fx (R := RQ) (by (repeat (first | exact Fx_refl _ _ | assumption | refine Fx_u2 rfl ?_ | refine Fx_u1 rfl (by decide) ?_ | refine Fx_step (by assumption) rfl ?_ | refine Fx_stepr (by assumption) rfl rfl ?_))) rfl rfl hS)
end
