/-! THE MODEL: how far it is, laid -/
theorem mI_dec {b : Nat} (hb : b < 100000) : nI b + -nI 1 = mI b := by
  unfold mI
  by_cases h : b = 0
  · subst h; rfl
  · rw [if_neg h, q_dec (by omega)]
theorem mI_neg {b : Nat} (hb : b < 100000) : (mI b < nI 0) = (b = 0) := by
  unfold mI
  by_cases h : b = 0
  · rw [if_pos h]; exact propext ⟨fun _ => h, fun _ => by decide⟩
  · rw [if_neg h, q_lt (by omega) (by omega)]
    exact propext ⟨fun z => by omega, fun z => by omega⟩
theorem rl_pos {g : Nat → Nat} {m : Nat} {D : Nat → Nat} {s : Nat} (h : 0 < D s) : ∀ n, 0 < rl g m D s n
  | 0 => h
  | n + 1 => by
    rw [rl]
    split
    · exact fb_pos s n
    · exact rl_pos h n
def F12 (i : Nat → Nat → Int32) (L : List Nat) (D : Nat → Nat) : Prop := ∀ s, s ∈ L → i 12 s = nI (D s)
theorem F12_fx {R : List Nat} {i i' : Nat → Nat → Int32} {L : List Nat} {D : Nat → Nat} (h : Fx R i i') (hq : F12 i L D) (h1 : R.contains 12 = false) : F12 i' L D := by
  unfold F12
  rw [Fx_row h (by decide) h1]; exact hq
theorem F12_u2 {i : Nat → Nat → Int32} {L : List Nat} {D : Nat → Nat} {s v : Nat} (hq : F12 i L D) : F12 (am_u2 i 12 s (nI v)) L (ug D s v) := by
  intro x hx
  show (if x = s then nI v else i 12 x) = nI (if x = s then v else D x)
  by_cases e : x = s
  · rw [if_pos e, if_pos e]
  · rw [if_neg e, if_neg e, hq x hx]
theorem dst_le (g : Nat → Nat) (m z s : Nat) : dst g m z s ≤ FARN := lst_le _
section
variable {i : Nat → Nat → Int32} {l : Nat → Nat → Int64} {g : Nat → Nat}
theorem r_M_laysFar (d : Nat) {m z : Nat} (hm : m < 65536) (hz : z < 65536) (hA : MA i g) (hW : WG g) : MR (some (.int (nI (dst g m z (sNow g 4))))) (fun i' l' => l' = l ∧ Fx [5, 6, 7, 8, 10, 11, 12, 13, 120, 128] i i' ∧ GOk g m i' (stds g m false (sNow g 4)) (stds g m false (sNow g 4)).length ∧ F12 i' (stds g m false (sNow g 4)) (dst g m z)) (am_cl (d + 8) mM_laysFar [.ref 0, .int (nI z), .int (nI m)] (i, l, rM, kM)) := by
  have hF : FARN = 268435456 := rfl
  have hst := r_M_laysStands (i := i) (l := l) d (m := m) (t := false) hm hA hW
  obtain ⟨⟨h1', h1⟩, h2, h3, hR, hF', hP, hSt, hD', hL0, hL1, hV⟩ := hW
  have hn := sNow_lt g hP 4 (by decide)
  have e0 : (if false = true then nI 1 else nI 0) = nI 0 := rfl
  rw [e0] at hst
  have hlen := stds_len (m := m) (t := false) h2 hn
  have hlt : ∀ s, s ∈ stds g m false (sNow g 4) → s < 4096 := fun s hs => stds_lt h2 hn hs
  have hstart : sNow g 4 ∈ stds g m false (sNow g 4) := stds_start h2 hn
  have hcl : ∀ s, s ∈ stds g m false (sNow g 4) → ∀ j, j < 32 → avl g m s j = true → tgt s j ∈ stds g m false (sNow g 4) := fun s hs => (stds_step h2 hn hs).1
  have hpos : 0 < (stds g m false (sNow g 4)).length := List.length_pos_of_mem hstart
  generalize hL : stds g m false (sNow g 4) = L at hst hlen hlt hstart hcl hpos
  rw [c_M_laysFar, b_M_laysFar_0]
  refine MR_bd hst ?_
  intro i1 l1 ⟨hl1, hf1, hQ1, hG1, hT1⟩
  subst hl1
  have hM1 : MA i1 g := MA_fx hf1 hA rfl
  simp (disch := first | assumption | omega) only [b_M_laysFar_0, b_M_laysFar_6, b_M_laysFar_37, b_M_laysFar_46, b_M_laysFar_123, b_M_laysFar_144, b_M_laysFar_149, b_M_laysFar_157, b_M_laysFar_175, b_M_laysFar_189, b_M_laysFar_203, s_M_farBy, s_M_isOver, s_M_standNow, ↓Bool.cond_decide, ↓q_in, q_le, q_lt, q_eq, q_leT, q_leF, q_ltT, q_ltF, q_eqT, q_eqF, ↓reduceIte, not_true_eq_false, not_false_eq_true, true_and, and_true, and_self, false_and, and_false, Nat.zero_le, am_bd_some, q_app, q_app0, nI_add, pk_sub, pk_mul, q_dec, q_ix, q_m1, q_m1', ↓q_ret, q_bool, q_bool1, q_u2, q_u1, q_shl1, q_shr, q_and7, q_dg, fa_or, fa_and, decide_true, decide_false, Bool.or_false, Bool.or_true, Bool.true_or, Bool.false_or, cond_true, cond_false, ite_not, q_some, q_nn, q_xor, q_xorm, Bool.false_eq_true, decide_eq_true_eq, ne_eq, l_0, l_1, l_4, l_5, l_6, l_8, l_10, l_11, l_12, l_14, l_15, l_16, l_18, l_19, l_22, l_28, l_32, l_37, l_46, l_55, l_69, l_95, l_123, l_144, l_149, l_157, l_175, l_189, l_203, l_4096, l_268435456]
  refine am_loop (fun k ls s => ∃ i' z2 z4 z5 z6 z7, ls = [.val (.ref 0), .val (.int (nI z)), z2, .val (.int (nI k)), z4, z5, z6, z7] ∧ s = (i', l1, rM, kM) ∧ Fx [12] i1 i' ∧ ∀ j s, j < k → L[j]? = some s → i' 12 s = nI (if gl g z s = true then 0 else FARN)) L.length _ (fun k ls s hk hI => ?_) (fun ls s hI => ?_) ⟨i1, _, _, _, _, _, rfl, rfl, Fx_refl _ _, fun j s hj => by omega⟩
  · obtain ⟨i2, z2, z4, z5, z6, z7, e1, e2, hf2, h12⟩ := hI
    subst e1; subst e2
    have hQ2 : QI i2 L := QI_fx hf2 hQ1 rfl rfl rfl
    have hM2 : MA i2 g := MA_fx hf2 hM1 rfl
    obtain ⟨s, hs⟩ : ∃ s, L[k]? = some s := ⟨_, List.getElem?_eq_getElem hk⟩
    have hs4 := hlt s (List.mem_of_getElem? hs)
    have h10 := hQ2.1 k s hs
    have h28 := hQ2.2.2
    rw [b_M_laysFar_8]
    have fin : ∀ v, v = (if gl g z s = true then 0 else FARN) → ∀ z2 z4 z5 z6 z7, Go (d + 7) mM_laysFar 8 (fun ls st => ∃ i' z2 z4 z5 z6 z7, ls = [.val (.ref 0), .val (.int (nI z)), z2, .val (.int (nI (k + 1))), z4, z5, z6, z7] ∧ st = (i', l1, rM, kM) ∧ Fx [12] i1 i' ∧ ∀ j s, j < k + 1 → L[j]? = some s → i' 12 s = nI (if gl g z s = true then 0 else FARN)) (am_Ex (d + 7) mM_laysFar 8 [.val (.ref 0), .val (.int (nI z)), z2, .val (.int (nI (k + 1))), z4, z5, z6, z7] [] (am_u2 i2 12 s (nI v), l1, rM, kM)) := by
      intro v hv z2 z4 z5 z6 z7
      refine Go_in ⟨_, _, _, _, _, _, rfl, rfl, by (repeat (first | exact Fx_refl _ _ | assumption | refine Fx_u2 rfl ?_ | refine Fx_u1 rfl (by decide) ?_ | refine Fx_step (by assumption) rfl ?_ | refine Fx_stepr (by assumption) rfl rfl ?_)), fun j s' hj hs' => ?_⟩
      show (if s' = s then nI v else i2 12 s') = _
      by_cases e : s' = s
      · subst e; rw [if_pos rfl, hv]
      · rw [if_neg e]
        refine h12 j s' ?_ hs'
        by_cases ej : j = k
        · subst ej; rw [hs] at hs'; cases hs'; exact absurd rfl e
        · omega
    by_cases hg : sOver g s &&& z = z
    · have hgl : gl g z s = true := decide_eq_true hg
      simp (disch := first | assumption | omega) only [b_M_laysFar_0, b_M_laysFar_6, b_M_laysFar_37, b_M_laysFar_46, b_M_laysFar_123, b_M_laysFar_144, b_M_laysFar_149, b_M_laysFar_157, b_M_laysFar_175, b_M_laysFar_189, b_M_laysFar_203, s_M_farBy, s_M_isOver, s_M_standNow, ↓Bool.cond_decide, ↓q_in, q_le, q_lt, q_eq, q_leT, q_leF, q_ltT, q_ltF, q_eqT, q_eqF, ↓reduceIte, not_true_eq_false, not_false_eq_true, true_and, and_true, and_self, false_and, and_false, Nat.zero_le, am_bd_some, q_app, q_app0, nI_add, pk_sub, pk_mul, q_dec, q_ix, q_m1, q_m1', ↓q_ret, q_bool, q_bool1, q_u1, q_shl1, q_shr, q_and7, q_dg, fa_or, fa_and, decide_true, decide_false, Bool.or_false, Bool.or_true, Bool.true_or, Bool.false_or, cond_true, cond_false, ite_not, q_some, q_nn, q_xor, q_xorm, Bool.false_eq_true, decide_eq_true_eq, ne_eq, l_0, l_1, l_4, l_5, l_6, l_8, l_10, l_11, l_12, l_14, l_15, l_16, l_18, l_19, l_22, l_28, l_32, l_37, l_46, l_55, l_69, l_95, l_123, l_144, l_149, l_157, l_175, l_189, l_203, l_4096, l_268435456, h10, h28, hg]
      exact fin 0 (by rw [hgl]; rfl) _ _ _ _ _
    · have hgl : gl g z s = false := decide_eq_false hg
      simp (disch := first | assumption | omega) only [b_M_laysFar_0, b_M_laysFar_6, b_M_laysFar_37, b_M_laysFar_46, b_M_laysFar_123, b_M_laysFar_144, b_M_laysFar_149, b_M_laysFar_157, b_M_laysFar_175, b_M_laysFar_189, b_M_laysFar_203, s_M_farBy, s_M_isOver, s_M_standNow, ↓Bool.cond_decide, ↓q_in, q_le, q_lt, q_eq, q_leT, q_leF, q_ltT, q_ltF, q_eqT, q_eqF, ↓reduceIte, not_true_eq_false, not_false_eq_true, true_and, and_true, and_self, false_and, and_false, Nat.zero_le, am_bd_some, q_app, q_app0, nI_add, pk_sub, pk_mul, q_dec, q_ix, q_m1, q_m1', ↓q_ret, q_bool, q_bool1, q_u1, q_shl1, q_shr, q_and7, q_dg, fa_or, fa_and, decide_true, decide_false, Bool.or_false, Bool.or_true, Bool.true_or, Bool.false_or, cond_true, cond_false, ite_not, q_some, q_nn, q_xor, q_xorm, Bool.false_eq_true, decide_eq_true_eq, ne_eq, l_0, l_1, l_4, l_5, l_6, l_8, l_10, l_11, l_12, l_14, l_15, l_16, l_18, l_19, l_22, l_28, l_32, l_37, l_46, l_55, l_69, l_95, l_123, l_144, l_149, l_157, l_175, l_189, l_203, l_4096, l_268435456, h10, h28, hg]
      exact fin FARN (by rw [hgl]; rfl) _ _ _ _ _
  obtain ⟨i2, z2, z4, z5, z6, z7, e1, e2, hf2, h12⟩ := hI
  subst e1; subst e2
  have hQ2 : QI i2 L := QI_fx hf2 hQ1 rfl rfl rfl
  have h28 := hQ2.2.2
  have key : ∀ B D i3 z1 z2 z4 z5 z6 z7, sSum (fun k => D (L.getD k 0)) L.length < B → Fx [12] i1 i3 → F12 i3 L D → FS g m z L D → MR (some (.int (nI (dst g m z (sNow g 4))))) (fun i' l' => l' = l1 ∧ Fx [5, 6, 7, 8, 10, 11, 12, 13, 120, 128] i i' ∧ GOk g m i' L L.length ∧ F12 i' L (dst g m z)) (am_Ex (d + 7) mM_laysFar 55 [.val (.ref 0), z1, z2, .val (.int (nI 1)), z4, z5, z6, z7] [] (i3, l1, rM, kM)) := by
    intro B
    induction B with
    | zero =>
      intro D i3 z1 z2 z4 z5 z6 z7 hB
      omega
    | succ B ih =>
      intro D i3 z1 z2 z4 z5 z6 z7 hB hf3 h12 hFS
      have h28 : i3 0 28 = nI L.length := by rw [hf3 0 28 rfl]; exact hQ1.2.2
      have ep : L.length - 1 + 1 = L.length := by omega
      rw [b_M_laysFar_55]
      simp (disch := first | assumption | omega) only [b_M_laysFar_0, b_M_laysFar_6, b_M_laysFar_37, b_M_laysFar_46, b_M_laysFar_123, b_M_laysFar_144, b_M_laysFar_149, b_M_laysFar_157, b_M_laysFar_175, b_M_laysFar_189, b_M_laysFar_203, s_M_farBy, s_M_isOver, s_M_standNow, ↓Bool.cond_decide, ↓q_in, q_le, q_lt, q_eq, q_leT, q_leF, q_ltT, q_ltF, q_eqT, q_eqF, ↓reduceIte, not_true_eq_false, not_false_eq_true, true_and, and_true, and_self, false_and, and_false, Nat.zero_le, am_bd_some, q_app, q_app0, nI_add, pk_sub, pk_mul, q_dec, q_ix, q_m1, q_m1', ↓q_ret, q_bool, q_bool1, q_u2, q_u1, q_shl1, q_shr, q_and7, q_dg, fa_or, fa_and, decide_true, decide_false, Bool.or_false, Bool.or_true, Bool.true_or, Bool.false_or, cond_true, cond_false, ite_not, q_some, q_nn, q_xor, q_xorm, Bool.false_eq_true, decide_eq_true_eq, ne_eq, l_0, l_1, l_4, l_5, l_6, l_8, l_10, l_11, l_12, l_14, l_15, l_16, l_18, l_19, l_22, l_28, l_32, l_37, l_46, l_55, l_69, l_95, l_123, l_144, l_149, l_157, l_175, l_189, l_203, l_4096, l_268435456, h28]
      have e0 : nI (L.length - 1) = mI (L.length - 0) := by unfold mI; rw [if_neg (by omega), Nat.sub_zero]
      rw [e0]
      refine am_loop (fun c ls st => ∃ i' D' mo z1 z2 z5 z6 z7, ls = [.val (.ref 0), z1, z2, .val (.int (if mo = true then nI 1 else nI 0)), .val (.int (mI (L.length - c))), z5, z6, z7] ∧ st = (i', l1, rM, kM) ∧ Fx [12] i1 i' ∧ F12 i' L D' ∧ FS g m z L D' ∧ (mo = false → D' = D ∧ ∀ k s, L.length - c ≤ k → L[k]? = some s → ∀ j, j < 32 → D s ≤ fb g m D s j) ∧ sSum (fun k => D' (L.getD k 0)) L.length ≤ sSum (fun k => D (L.getD k 0)) L.length ∧ (mo = true → sSum (fun k => D' (L.getD k 0)) L.length < sSum (fun k => D (L.getD k 0)) L.length)) L.length _ (fun c ls st hc hI => ?_) (fun ls st hI => ?_) ⟨i3, D, false, _, _, _, _, _, rfl, rfl, hf3, h12, hFS, fun _ => ⟨rfl, fun k s hk hs => ?_⟩, Nat.le_refl _, fun z => by cases z⟩
      · obtain ⟨i4, D4, mo, z1, z2, z5, z6, z7, e1, e2, hf4, h124, hFS4, hm0, hsl, hm1⟩ := hI
        subst e1; subst e2
        have hk : L.length - c - 1 < L.length := by omega
        obtain ⟨s, hs⟩ : ∃ s, L[L.length - c - 1]? = some s := ⟨_, List.getElem?_eq_getElem hk⟩
        have hsL := List.mem_of_getElem? hs
        have hs4 := hlt s hsL
        have hQ4 : QI i4 L := QI_fx hf4 hQ1 rfl rfl rfl
        have hG4 : GOk g m i4 L L.length := GOk_fx hf4 hG1 rfl
        have h10 := hQ4.1 _ s hs
        have h12s := h124 s hsL
        have hDs := hFS4.1 s
        have eI : mI (L.length - c) = nI (L.length - c - 1) := by unfold mI; rw [if_neg (by omega)]
        have hneg := mI_neg (b := L.length - c) (by omega)
        -- what is done with the least
        have fin : ∀ z1 z2 z7, Go (d + 7) mM_laysFar 69 (fun ls st => ∃ i' D' mo z1 z2 z5 z6 z7, ls = [.val (.ref 0), z1, z2, .val (.int (if mo = true then nI 1 else nI 0)), .val (.int (mI (L.length - (c + 1)))), z5, z6, z7] ∧ st = (i', l1, rM, kM) ∧ Fx [12] i1 i' ∧ F12 i' L D' ∧ FS g m z L D' ∧ (mo = false → D' = D ∧ ∀ k s, L.length - (c + 1) ≤ k → L[k]? = some s → ∀ j, j < 32 → D s ≤ fb g m D s j) ∧ sSum (fun k => D' (L.getD k 0)) L.length ≤ sSum (fun k => D (L.getD k 0)) L.length ∧ (mo = true → sSum (fun k => D' (L.getD k 0)) L.length < sSum (fun k => D (L.getD k 0)) L.length)) (am_Ex (d + 7) mM_laysFar 157 [.val (.ref 0), z1, z2, .val (.int (if mo = true then nI 1 else nI 0)), .val (.int (nI (L.length - c - 1))), .val (.int (nI s)), .val (.int (nI (rl g m D4 s 32))), z7] [] (i4, l1, rM, kM)) := by
          intro z1 z2 z7
          have hrl := rl_le g m D4 s 32
          have hdec := mI_dec (b := L.length - c - 1) (by omega)
          have hee : L.length - c - 1 = L.length - (c + 1) := by omega
          have hgd : L.getD (L.length - c - 1) 0 = s := by rw [List.getD_eq_getElem?_getD, hs]; rfl
          have hFS5 := FS_upd hFS4 hsL (hcl s hsL)
          have hterm : ∀ k, k < L.length → (ug D4 s (rl g m D4 s 32)) (L.getD k 0) ≤ D4 (L.getD k 0) := fun k _ => by
            unfold ug; split
            · rename_i e; rw [e]; exact hrl
            · exact Nat.le_refl _
          rw [b_M_laysFar_157]
          by_cases hlt2 : rl g m D4 s 32 < D4 s
          · have hstr : (ug D4 s (rl g m D4 s 32)) (L.getD (L.length - c - 1) 0) < D4 (L.getD (L.length - c - 1) 0) := by rw [hgd]; unfold ug; rw [if_pos rfl]; exact hlt2
            have hsum := sSum_lt2 L.length hterm hk hstr
            have eor : (if mo = true then nI 1 else nI 0) ||| nI 1 = nI 1 := by cases mo <;> decide
            simp (disch := first | assumption | omega) only [b_M_laysFar_0, b_M_laysFar_6, b_M_laysFar_37, b_M_laysFar_46, b_M_laysFar_123, b_M_laysFar_144, b_M_laysFar_149, b_M_laysFar_157, b_M_laysFar_175, b_M_laysFar_189, b_M_laysFar_203, s_M_farBy, s_M_isOver, s_M_standNow, ↓Bool.cond_decide, ↓q_in, q_le, q_lt, q_eq, q_leT, q_leF, q_ltT, q_ltF, q_eqT, q_eqF, ↓reduceIte, not_true_eq_false, not_false_eq_true, true_and, and_true, and_self, false_and, and_false, Nat.zero_le, am_bd_some, q_app, q_app0, nI_add, pk_sub, pk_mul, q_ix, q_m1, q_m1', ↓q_ret, q_bool, q_bool1, q_u1, q_shl1, q_shr, q_and7, q_dg, fa_or, fa_and, decide_true, decide_false, Bool.or_false, Bool.or_true, Bool.true_or, Bool.false_or, cond_true, cond_false, ite_not, q_some, q_nn, q_xor, q_xorm, Bool.false_eq_true, decide_eq_true_eq, ne_eq, l_0, l_1, l_4, l_5, l_6, l_8, l_10, l_11, l_12, l_14, l_15, l_16, l_18, l_19, l_22, l_28, l_32, l_37, l_46, l_55, l_69, l_95, l_123, l_144, l_149, l_157, l_175, l_189, l_203, l_4096, l_268435456, h12s, eor, hdec]
            rw [hee]
            exact Go_in ⟨_, _, true, _, _, _, _, _, rfl, rfl, by (repeat (first | exact Fx_refl _ _ | assumption | refine Fx_u2 rfl ?_ | refine Fx_u1 rfl (by decide) ?_ | refine Fx_step (by assumption) rfl ?_ | refine Fx_stepr (by assumption) rfl rfl ?_)), F12_u2 h124, hFS5, fun z => (by cases z), by omega, fun _ => by omega⟩
          · have heq : rl g m D4 s 32 = D4 s := by omega
            have hsum := sSum_le2 L.length hterm
            have eor : (if mo = true then nI 1 else nI 0) ||| nI 0 = if mo = true then nI 1 else nI 0 := by cases mo <;> decide
            have hsame : ug D4 s (rl g m D4 s 32) = D4 := by
              funext x
              unfold ug
              split
              · rename_i e; rw [e, heq]
              · rfl
            simp (disch := first | assumption | omega) only [b_M_laysFar_0, b_M_laysFar_6, b_M_laysFar_37, b_M_laysFar_46, b_M_laysFar_123, b_M_laysFar_144, b_M_laysFar_149, b_M_laysFar_157, b_M_laysFar_175, b_M_laysFar_189, b_M_laysFar_203, s_M_farBy, s_M_isOver, s_M_standNow, ↓Bool.cond_decide, ↓q_in, q_le, q_lt, q_eq, q_leT, q_leF, q_ltT, q_ltF, q_eqT, q_eqF, ↓reduceIte, not_true_eq_false, not_false_eq_true, true_and, and_true, and_self, false_and, and_false, Nat.zero_le, am_bd_some, q_app, q_app0, nI_add, pk_sub, pk_mul, q_ix, q_m1, q_m1', ↓q_ret, q_bool, q_bool1, q_u1, q_shl1, q_shr, q_and7, q_dg, fa_or, fa_and, decide_true, decide_false, Bool.or_false, Bool.or_true, Bool.true_or, Bool.false_or, cond_true, cond_false, ite_not, q_some, q_nn, q_xor, q_xorm, Bool.false_eq_true, decide_eq_true_eq, ne_eq, l_0, l_1, l_4, l_5, l_6, l_8, l_10, l_11, l_12, l_14, l_15, l_16, l_18, l_19, l_22, l_28, l_32, l_37, l_46, l_55, l_69, l_95, l_123, l_144, l_149, l_157, l_175, l_189, l_203, l_4096, l_268435456, h12s, eor, hdec]
            rw [hee]
            refine Go_in ⟨_, _, mo, _, _, _, _, _, rfl, rfl, by (repeat (first | exact Fx_refl _ _ | assumption | refine Fx_u2 rfl ?_ | refine Fx_u1 rfl (by decide) ?_ | refine Fx_step (by assumption) rfl ?_ | refine Fx_stepr (by assumption) rfl rfl ?_)), F12_u2 h124, hFS5, fun hz => ?_, by omega, fun hz => ?_⟩
            · obtain ⟨eD, hall⟩ := hm0 hz
              rw [hsame]
              refine ⟨eD, fun k s' hk' hs' j hj => ?_⟩
              by_cases ek : k = L.length - c - 1
              · subst ek
                rw [hs] at hs'
                cases hs'
                have := rl_fb g m D4 s 32 j hj
                rw [← eD]
                omega
              · exact hall k s' (by omega) hs' j hj
            · have := hm1 hz
              rw [hsame]
              exact this
        rw [b_M_laysFar_69, eI]
        have hneg' : (nI (L.length - c - 1) < nI 0) = False := by
          rw [q_lt (by omega) (by omega)]
          exact eq_false (Nat.not_lt_zero _)
        simp (disch := first | assumption | omega) only [b_M_laysFar_0, b_M_laysFar_6, b_M_laysFar_37, b_M_laysFar_46, b_M_laysFar_123, b_M_laysFar_144, b_M_laysFar_149, b_M_laysFar_175, b_M_laysFar_189, b_M_laysFar_203, s_M_farBy, s_M_isOver, s_M_standNow, ↓Bool.cond_decide, ↓q_in, q_le, q_lt, q_eq, q_leT, q_leF, q_ltT, q_ltF, q_eqT, q_eqF, ↓reduceIte, not_true_eq_false, not_false_eq_true, true_and, and_true, and_self, false_and, and_false, Nat.zero_le, am_bd_some, q_app, q_app0, nI_add, pk_sub, pk_mul, q_dec, q_ix, q_m1, q_m1', ↓q_ret, q_bool, q_bool1, q_u2, q_u1, q_shl1, q_shr, q_and7, q_dg, fa_or, fa_and, decide_true, decide_false, Bool.or_false, Bool.or_true, Bool.true_or, Bool.false_or, cond_true, cond_false, ite_not, q_some, q_nn, q_xor, q_xorm, Bool.false_eq_true, decide_eq_true_eq, ne_eq, l_0, l_1, l_4, l_5, l_6, l_8, l_10, l_11, l_12, l_14, l_15, l_16, l_18, l_19, l_22, l_28, l_32, l_37, l_46, l_55, l_69, l_95, l_123, l_144, l_149, l_157, l_175, l_189, l_203, l_4096, l_268435456, h10, h12s, hneg']
        by_cases hD0 : D4 s = 0
        · have hr0 : rl g m D4 s 32 = 0 := rl_0 (k := 0) hD0 32
          rw [hr0] at fin
          rw [b_M_laysFar_95]
          simp (disch := first | assumption | omega) only [b_M_laysFar_0, b_M_laysFar_6, b_M_laysFar_37, b_M_laysFar_46, b_M_laysFar_123, b_M_laysFar_144, b_M_laysFar_149, b_M_laysFar_175, b_M_laysFar_189, b_M_laysFar_203, s_M_farBy, s_M_isOver, s_M_standNow, ↓Bool.cond_decide, ↓q_in, q_le, q_lt, q_eq, q_leT, q_leF, q_ltT, q_ltF, q_eqT, q_eqF, ↓reduceIte, not_true_eq_false, not_false_eq_true, true_and, and_true, and_self, false_and, and_false, Nat.zero_le, am_bd_some, q_app, q_app0, nI_add, pk_sub, pk_mul, q_dec, q_ix, q_m1, q_m1', ↓q_ret, q_bool, q_bool1, q_u2, q_u1, q_shl1, q_shr, q_and7, q_dg, fa_or, fa_and, decide_true, decide_false, Bool.or_false, Bool.or_true, Bool.true_or, Bool.false_or, cond_true, cond_false, ite_not, q_some, q_nn, q_xor, q_xorm, Bool.false_eq_true, decide_eq_true_eq, ne_eq, l_0, l_1, l_4, l_5, l_6, l_8, l_10, l_11, l_12, l_14, l_15, l_16, l_18, l_19, l_22, l_28, l_32, l_37, l_46, l_55, l_69, l_95, l_123, l_144, l_149, l_157, l_175, l_189, l_203, l_4096, l_268435456, hD0]
          exact fin _ _ _
        · refine am_loop (fun j ls st => ls = [.val (.ref 0), z1, z2, .val (.int (if mo = true then nI 1 else nI 0)), .val (.int (nI (L.length - c - 1))), .val (.int (nI s)), .val (.int (nI (rl g m D4 s j))), .val (.int (nI j))] ∧ st = (i4, l1, rM, kM)) 32 _ (fun j ls st hj hI => ?_) (fun ls st hI => ?_) ⟨rfl, rfl⟩
          · obtain ⟨e1, e2⟩ := hI
            subst e1; subst e2
            have hrp := rl_pos (g := g) (m := m) (D := D4) (s := s) (by omega) j
            have hrle := rl_le g m D4 s j
            have hfbl := fb_le (g := g) (m := m) hFS4.1 s j
            have hbq := s_M_farBy (i := i4) (l := l1) (d + 5) (m := m) (s := s) (p := j / 8) (q := j % 8) (v := j) (D := D4) hs4 (by omega) (by omega) h1 (by omega) (hG4 _ s hk hs _ (by omega)) hFS4.1 (fun ha => h124 _ (hcl s hsL j hj ha))
            rw [b_M_laysFar_95]
            by_cases hq : fb g m D4 s j < rl g m D4 s j
            · have er : rl g m D4 s (j + 1) = fb g m D4 s j := by rw [rl, if_pos hq]
              simp (disch := first | assumption | omega) only [b_M_laysFar_0, b_M_laysFar_6, b_M_laysFar_37, b_M_laysFar_46, b_M_laysFar_123, b_M_laysFar_144, b_M_laysFar_149, b_M_laysFar_175, b_M_laysFar_189, b_M_laysFar_203, s_M_isOver, s_M_standNow, ↓Bool.cond_decide, ↓q_in, q_le, q_lt, q_eq, q_leT, q_leF, q_ltT, q_ltF, q_eqT, q_eqF, ↓reduceIte, not_true_eq_false, not_false_eq_true, true_and, and_true, and_self, false_and, and_false, Nat.zero_le, am_bd_some, q_app, q_app0, nI_add, pk_sub, pk_mul, q_dec, q_ix, q_m1, q_m1', ↓q_ret, q_bool, q_bool1, q_u2, q_u1, q_shl1, q_shr, q_and7, q_dg, fa_or, fa_and, decide_true, decide_false, Bool.or_false, Bool.or_true, Bool.true_or, Bool.false_or, cond_true, cond_false, ite_not, q_some, q_nn, q_xor, q_xorm, Bool.false_eq_true, decide_eq_true_eq, ne_eq, l_0, l_1, l_4, l_5, l_6, l_8, l_10, l_11, l_12, l_14, l_15, l_16, l_18, l_19, l_22, l_28, l_32, l_37, l_46, l_55, l_69, l_95, l_123, l_144, l_149, l_157, l_175, l_189, l_203, l_4096, l_268435456, pk_div, q_remL, q_remN, hbq]
              exact Go_in ⟨by rw [er], rfl⟩
            · have er : rl g m D4 s (j + 1) = rl g m D4 s j := by rw [rl, if_neg hq]
              simp (disch := first | assumption | omega) only [b_M_laysFar_0, b_M_laysFar_6, b_M_laysFar_37, b_M_laysFar_46, b_M_laysFar_123, b_M_laysFar_144, b_M_laysFar_149, b_M_laysFar_175, b_M_laysFar_189, b_M_laysFar_203, s_M_isOver, s_M_standNow, ↓Bool.cond_decide, ↓q_in, q_le, q_lt, q_eq, q_leT, q_leF, q_ltT, q_ltF, q_eqT, q_eqF, ↓reduceIte, not_true_eq_false, not_false_eq_true, true_and, and_true, and_self, false_and, and_false, Nat.zero_le, am_bd_some, q_app, q_app0, nI_add, pk_sub, pk_mul, q_dec, q_ix, q_m1, q_m1', ↓q_ret, q_bool, q_bool1, q_u2, q_u1, q_shl1, q_shr, q_and7, q_dg, fa_or, fa_and, decide_true, decide_false, Bool.or_false, Bool.or_true, Bool.true_or, Bool.false_or, cond_true, cond_false, ite_not, q_some, q_nn, q_xor, q_xorm, Bool.false_eq_true, decide_eq_true_eq, ne_eq, l_0, l_1, l_4, l_5, l_6, l_8, l_10, l_11, l_12, l_14, l_15, l_16, l_18, l_19, l_22, l_28, l_32, l_37, l_46, l_55, l_69, l_95, l_123, l_144, l_149, l_157, l_175, l_189, l_203, l_4096, l_268435456, pk_div, q_remL, q_remN, hbq]
              exact Go_in ⟨by rw [er], rfl⟩
          · obtain ⟨e1, e2⟩ := hI
            subst e1; subst e2
            rw [b_M_laysFar_95]
            simp (disch := first | assumption | omega) only [b_M_laysFar_0, b_M_laysFar_6, b_M_laysFar_37, b_M_laysFar_46, b_M_laysFar_123, b_M_laysFar_144, b_M_laysFar_149, b_M_laysFar_175, b_M_laysFar_189, b_M_laysFar_203, s_M_farBy, s_M_isOver, s_M_standNow, ↓Bool.cond_decide, ↓q_in, q_le, q_lt, q_eq, q_leT, q_leF, q_ltT, q_ltF, q_eqT, q_eqF, ↓reduceIte, not_true_eq_false, not_false_eq_true, true_and, and_true, and_self, false_and, and_false, Nat.zero_le, am_bd_some, q_app, q_app0, nI_add, pk_sub, pk_mul, q_dec, q_ix, q_m1, q_m1', ↓q_ret, q_bool, q_bool1, q_u2, q_u1, q_shl1, q_shr, q_and7, q_dg, fa_or, fa_and, decide_true, decide_false, Bool.or_false, Bool.or_true, Bool.true_or, Bool.false_or, cond_true, cond_false, ite_not, q_some, q_nn, q_xor, q_xorm, Bool.false_eq_true, decide_eq_true_eq, ne_eq, l_0, l_1, l_4, l_5, l_6, l_8, l_10, l_11, l_12, l_14, l_15, l_16, l_18, l_19, l_22, l_28, l_32, l_37, l_46, l_55, l_69, l_95, l_123, l_144, l_149, l_157, l_175, l_189, l_203, l_4096, l_268435456]
            exact fin _ _ _
      · obtain ⟨i4, D4, mo, z1, z2, z5, z6, z7, e1, e2, hf4, h124, hFS4, hm0, hsl, hm1⟩ := hI
        subst e1; subst e2
        rw [b_M_laysFar_69, Nat.sub_self]
        have hneg : (mI 0 < nI 0) = True := eq_true (by decide)
        simp (disch := first | assumption | omega) only [b_M_laysFar_0, b_M_laysFar_6, b_M_laysFar_37, b_M_laysFar_46, b_M_laysFar_123, b_M_laysFar_144, b_M_laysFar_149, b_M_laysFar_157, b_M_laysFar_175, b_M_laysFar_189, b_M_laysFar_203, s_M_farBy, s_M_isOver, s_M_standNow, ↓Bool.cond_decide, ↓q_in, q_le, q_lt, q_eq, q_leT, q_leF, q_ltT, q_ltF, q_eqT, q_eqF, ↓reduceIte, not_true_eq_false, not_false_eq_true, true_and, and_true, and_self, false_and, and_false, Nat.zero_le, am_bd_some, q_app, q_app0, nI_add, pk_sub, pk_mul, q_dec, q_ix, q_m1, q_m1', ↓q_ret, q_bool, q_bool1, q_u2, q_u1, q_shl1, q_shr, q_and7, q_dg, fa_or, fa_and, decide_true, decide_false, Bool.or_false, Bool.or_true, Bool.true_or, Bool.false_or, cond_true, cond_false, ite_not, q_some, q_nn, q_xor, q_xorm, Bool.false_eq_true, decide_eq_true_eq, ne_eq, l_0, l_1, l_4, l_5, l_6, l_8, l_10, l_11, l_12, l_14, l_15, l_16, l_18, l_19, l_22, l_28, l_32, l_37, l_46, l_55, l_69, l_95, l_123, l_144, l_149, l_157, l_175, l_189, l_203, l_4096, l_268435456, hneg]
        cases mo with
        | true => exact ih D4 i4 _ _ _ _ _ _ (by have := hm1 rfl; omega) hf4 h124 hFS4
        | false =>
          obtain ⟨eD, hall⟩ := hm0 rfl
          rw [eD] at h124 hFS4
          have hdst := FS_dst hFS4 hcl (fun s hs j hj => by
            obtain ⟨k, hk, e⟩ := List.getElem_of_mem hs
            exact hall k s (by omega) (by rw [List.getElem?_eq_getElem hk, e]) j hj)
          have h12d : F12 i4 L (dst g m z) := fun s hs => by rw [← hdst s hs]; exact h124 s hs
          have h12a := h12d _ hstart
          have hM4 : MA i4 g := MA_fx hf4 hM1 rfl
          have e0 : (if false = true then nI 1 else nI 0) = nI 0 := rfl
          rw [e0, b_M_laysFar_55]
          simp (disch := first | assumption | omega) only [b_M_laysFar_0, b_M_laysFar_6, b_M_laysFar_37, b_M_laysFar_46, b_M_laysFar_123, b_M_laysFar_144, b_M_laysFar_149, b_M_laysFar_157, b_M_laysFar_175, b_M_laysFar_189, b_M_laysFar_203, s_M_farBy, s_M_isOver, s_M_standNow, ↓Bool.cond_decide, ↓q_in, q_le, q_lt, q_eq, q_leT, q_leF, q_ltT, q_ltF, q_eqT, q_eqF, ↓reduceIte, not_true_eq_false, not_false_eq_true, true_and, and_true, and_self, false_and, and_false, Nat.zero_le, am_bd_some, q_app, q_app0, nI_add, pk_sub, pk_mul, q_dec, q_ix, q_m1, q_m1', ↓q_ret, q_bool, q_bool1, q_u2, q_u1, q_shl1, q_shr, q_and7, q_dg, fa_or, fa_and, decide_true, decide_false, Bool.or_false, Bool.or_true, Bool.true_or, Bool.false_or, cond_true, cond_false, ite_not, q_some, q_nn, q_xor, q_xorm, Bool.false_eq_true, decide_eq_true_eq, ne_eq, l_0, l_1, l_4, l_5, l_6, l_8, l_10, l_11, l_12, l_14, l_15, l_16, l_18, l_19, l_22, l_28, l_32, l_37, l_46, l_55, l_69, l_95, l_123, l_144, l_149, l_157, l_175, l_189, l_203, l_4096, l_268435456, h12a]
          exact MR_some ⟨rfl, by (repeat (first | exact Fx_refl _ _ | assumption | refine Fx_u2 rfl ?_ | refine Fx_u1 rfl (by decide) ?_ | refine Fx_step (by assumption) rfl ?_ | refine Fx_stepr (by assumption) rfl rfl ?_)), GOk_fx hf4 hG1 rfl, h12d⟩
      · have := (List.getElem?_eq_some_iff.mp hs).1
        omega
  rw [b_M_laysFar_8]
  simp (disch := first | assumption | omega) only [b_M_laysFar_0, b_M_laysFar_6, b_M_laysFar_37, b_M_laysFar_46, b_M_laysFar_123, b_M_laysFar_144, b_M_laysFar_149, b_M_laysFar_157, b_M_laysFar_175, b_M_laysFar_189, b_M_laysFar_203, s_M_farBy, s_M_isOver, s_M_standNow, ↓Bool.cond_decide, ↓q_in, q_le, q_lt, q_eq, q_leT, q_leF, q_ltT, q_ltF, q_eqT, q_eqF, ↓reduceIte, not_true_eq_false, not_false_eq_true, true_and, and_true, and_self, false_and, and_false, Nat.zero_le, am_bd_some, q_app, q_app0, nI_add, pk_sub, pk_mul, q_dec, q_ix, q_m1, q_m1', ↓q_ret, q_bool, q_bool1, q_u2, q_u1, q_shl1, q_shr, q_and7, q_dg, fa_or, fa_and, decide_true, decide_false, Bool.or_false, Bool.or_true, Bool.true_or, Bool.false_or, cond_true, cond_false, ite_not, q_some, q_nn, q_xor, q_xorm, Bool.false_eq_true, decide_eq_true_eq, ne_eq, l_0, l_1, l_4, l_5, l_6, l_8, l_10, l_11, l_12, l_14, l_15, l_16, l_18, l_19, l_22, l_28, l_32, l_37, l_46, l_55, l_69, l_95, l_123, l_144, l_149, l_157, l_175, l_189, l_203, l_4096, l_268435456, h28]
  refine key _ (fun s => if gl g z s = true then 0 else FARN) i2 _ _ _ _ _ _ (Nat.lt_succ_self _) hf2 (fun s hs => ?_) ⟨fun s => ?_, fun s hs hg => ?_, fun s hs hl => ?_⟩
  · obtain ⟨k, hk, e⟩ := List.getElem_of_mem hs
    exact h12 k s hk (by rw [List.getElem?_eq_getElem hk, e])
  · dsimp only; split <;> omega
  · dsimp only; rw [if_pos hg]
  · dsimp only at hl ⊢
    by_cases hg : gl g z s = true
    · rw [if_pos hg]; exact hg
    · rw [if_neg hg] at hl; exact absurd hl (Nat.lt_irrefl _)
end
