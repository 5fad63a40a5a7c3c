/-! THE MODEL: deeds -/
def ug (g : Nat → Nat) (k v : Nat) : Nat → Nat := fun j => if j = k then v else g j
def gStand (g : Nat → Nat) (a : Nat) : Nat → Nat := fun j => if 18 ≤ j ∧ j < 22 then dg a (j - 18) else g j
def gShift (g : Nat → Nat) : Nat → Nat := fun j => if g 32 = 10 then (if j = 32 then 9 else if 33 ≤ j ∧ j < 159 then g (j + 14) else g j) else g j
def gPush (g w : Nat → Nat) : Nat → Nat := fun j => if j = 32 then g 32 + 1 else if 33 + 14 * g 32 ≤ j ∧ j < 33 + 14 * g 32 + 14 then w (j - (33 + 14 * g 32)) else g j
def gNote (g w : Nat → Nat) : Nat → Nat := gPush (gShift g) w
def gCur (g : Nat → Nat) : Nat → Nat := fun k => g (18 + k)
def sWhy (g : Nat → Nat) (x y : Int32) : Nat := if iB x (g 2) = true ∧ iB y (g 1 + 2) = true then (if g (18 + x.toNatClampNeg) = y.toNatClampNeg ∨ sWho g (sNow g 4) y.toNatClampNeg ≠ none then 2 else if (sGo g (sNow g 4) x.toNatClampNeg (g (10 + x.toNatClampNeg))).testBit y.toNatClampNeg = true then 0 else 3) else 1
theorem MA_u2 {i : Nat → Nat → Int32} {g : Nat → Nat} {k v : Nat} (hA : MA i g) : MA (am_u2 i 1 k (nI v)) (ug g k v) := fun j hj => by
  show (if 1 = 1 then (if j = k then nI v else i 1 j) else i 1 j) = _
  rw [if_pos rfl]
  unfold ug
  by_cases e : j = k
  · rw [if_pos e, if_pos e]
  · rw [if_neg e, if_neg e]; exact hA j hj
theorem q_l2i (x : Int32) : Int64.toInt32 (Int32.toInt64 x) = x := Int32.toInt32_toInt64 x
section
variable {i : Nat → Nat → Int32} {l : Nat → Nat → Int64} {g : Nat → Nat}
theorem r_M_whyGo (d : Nat) (x y : Int32) (hA : MA i g) (hW : WG g) : MR (some (.int (nI (sWhy g x y)))) (fun i' l' => l' = l ∧ Fx [5, 6, 7, 8] i i') (am_cl (d + 7) mM_whyGo [.ref 0, .long (Int32.toInt64 x), .long (Int32.toInt64 y)] (i, l, rM, kM)) := by
  obtain ⟨⟨h1', h1⟩, h2, h3, hR, hF, hP, hSt, hD, hL0, hL1, hV⟩ := hW
  have hn := sNow_lt g hP 4 (by decide)
  have hA0 : ∀ k, k < 3222 → i 1 k = nI (g k) := hA
  rw [c_M_whyGo, b_M_whyGo_0, sWhy]
  by_cases hx : iB x (g 2) = true
  · by_cases hy : iB y (g 1 + 2) = true
    · have hx' := hx
      have hy' := hy
      obtain ⟨p, hp, rfl⟩ := iB_T hx'
      obtain ⟨t, ht, rfl⟩ := iB_T hy'
      have hpp := hP p (by omega)
      have hr := hR p (by omega)
      by_cases he : g (18 + p) = t
      · simp (disch := first | assumption | omega) only [b_M_whyGo_0, b_M_whyGo_5, b_M_whyGo_13, b_M_whyGo_16, b_M_whyGo_46, b_M_whyGo_51, b_M_whyGo_55, b_M_whyGo_61, b_M_whyGo_66, b_M_whyGo_81, b_M_whyGo_87, b_M_whyGo_95, s_M_isIn, s_M_isPerson, s_M_isPlace, s_M_standNow, s_M_whoIn, ↓Bool.cond_decide, ↓q_in, q_le, q_lt, q_eq, q_leT, q_leF, q_ltT, q_ltF, q_eqT, q_eqF, ↓reduceIte, not_true_eq_false, not_false_eq_true, true_and, and_true, and_self, false_and, and_false, Nat.zero_le, am_bd_some, q_app, q_app0, nI_add, pk_sub, pk_mul, q_dec, q_ix, q_m1, q_m1', ↓q_ret, q_bool, q_bool1, q_u2, q_u1, q_shl1, q_shr, q_and7, q_dg, fa_or, fa_and, decide_true, decide_false, Bool.or_false, Bool.or_true, Bool.true_or, Bool.false_or, cond_true, cond_false, ite_not, q_some, q_nn, q_xor, q_xorm, Bool.false_eq_true, decide_eq_true_eq, ne_eq, l_0, l_1, l_2, l_3, l_4, l_5, l_7, l_8, l_10, l_13, l_16, l_18, l_22, l_46, l_51, l_55, l_61, l_66, l_81, l_87, l_95, l_3222, hx, hy, q_l2i, hA0, he, true_or]
        exact MR_some ⟨rfl, Fx_refl _ _⟩
      · cases hw : sWho g (sNow g 4) t with
        | some q =>
          have := sWho_some hw
          simp (disch := first | assumption | omega) only [b_M_whyGo_0, b_M_whyGo_5, b_M_whyGo_13, b_M_whyGo_16, b_M_whyGo_46, b_M_whyGo_51, b_M_whyGo_55, b_M_whyGo_61, b_M_whyGo_66, b_M_whyGo_81, b_M_whyGo_87, b_M_whyGo_95, s_M_isIn, s_M_isPerson, s_M_isPlace, s_M_standNow, s_M_whoIn, ↓Bool.cond_decide, ↓q_in, q_le, q_lt, q_eq, q_leT, q_leF, q_ltT, q_ltF, q_eqT, q_eqF, ↓reduceIte, not_true_eq_false, not_false_eq_true, true_and, and_true, and_self, false_and, and_false, Nat.zero_le, am_bd_some, q_app, q_app0, nI_add, pk_sub, pk_mul, q_dec, q_ix, q_m1, q_m1', ↓q_ret, q_bool, q_bool1, q_u2, q_u1, q_shl1, q_shr, q_and7, q_dg, fa_or, fa_and, decide_true, decide_false, Bool.or_false, Bool.or_true, Bool.true_or, Bool.false_or, cond_true, cond_false, ite_not, q_some, q_nn, q_xor, q_xorm, Bool.false_eq_true, decide_eq_true_eq, ne_eq, l_0, l_1, l_2, l_3, l_4, l_5, l_7, l_8, l_10, l_13, l_16, l_18, l_22, l_46, l_51, l_55, l_61, l_66, l_81, l_87, l_95, l_3222, hx, hy, q_l2i, hA0, hw, q_vW1, reduceCtorEq, or_true]
          exact MR_some ⟨rfl, Fx_refl _ _⟩
        | none =>
          obtain ⟨i1, l1, e1, hl1, hf1, hT1⟩ := r_M_laysTrust (d + 2) (l := l) hA h2 hL1
          subst hl1
          have hA1 : ∀ k, k < 3222 → i1 1 k = nI (g k) := MA_fr hf1 hA rfl
          have hM1 : MA i1 g := hA1
          obtain ⟨i3, l3, e3, hl3, hf3, _⟩ := r_M_goings d (l := l1) (r := g (10 + p)) hn hp (by omega) hM1 h1 h2 hT1
          subst hl3
          have hgl := sGo_lt (g := g) (a := sNow g 4) (p := p) (r := g (10 + p)) h1
          cases hb : (sGo g (sNow g 4) p (g (10 + p))).testBit t with
          | true =>
            simp (disch := first | assumption | omega) only [b_M_whyGo_0, b_M_whyGo_5, b_M_whyGo_13, b_M_whyGo_16, b_M_whyGo_46, b_M_whyGo_51, b_M_whyGo_55, b_M_whyGo_61, b_M_whyGo_66, b_M_whyGo_81, b_M_whyGo_87, b_M_whyGo_95, s_M_isIn, s_M_isPerson, s_M_isPlace, s_M_standNow, s_M_whoIn, ↓Bool.cond_decide, ↓q_in, q_le, q_lt, q_eq, q_leT, q_leF, q_ltT, q_ltF, q_eqT, q_eqF, ↓reduceIte, not_true_eq_false, not_false_eq_true, true_and, and_true, and_self, false_and, and_false, Nat.zero_le, am_bd_some, q_app, q_app0, nI_add, pk_sub, pk_mul, q_dec, q_ix, q_m1, q_m1', ↓q_ret, q_bool, q_bool1, q_u2, q_u1, q_shl1, q_shr, q_and7, q_dg, fa_or, fa_and, decide_true, decide_false, Bool.or_false, Bool.or_true, Bool.true_or, Bool.false_or, cond_true, cond_false, ite_not, q_some, q_nn, q_xor, q_xorm, Bool.false_eq_true, decide_eq_true_eq, ne_eq, l_0, l_1, l_2, l_3, l_4, l_5, l_7, l_8, l_10, l_13, l_16, l_18, l_22, l_46, l_51, l_55, l_61, l_66, l_81, l_87, l_95, l_3222, hx, hy, q_l2i, hA0, hw, q_vW0, e1, hA1, e3, hb, or_false]
            exact MR_some ⟨rfl, by (repeat (first | exact Fx_refl _ _ | assumption | refine Fx_u2 rfl ?_ | refine Fx_u1 rfl (by decide) ?_ | refine Fx_step (by assumption) rfl ?_ | refine Fx_stepr (by assumption) rfl rfl ?_))⟩
          | false =>
            simp (disch := first | assumption | omega) only [b_M_whyGo_0, b_M_whyGo_5, b_M_whyGo_13, b_M_whyGo_16, b_M_whyGo_46, b_M_whyGo_51, b_M_whyGo_55, b_M_whyGo_61, b_M_whyGo_66, b_M_whyGo_81, b_M_whyGo_87, b_M_whyGo_95, s_M_isIn, s_M_isPerson, s_M_isPlace, s_M_standNow, s_M_whoIn, ↓Bool.cond_decide, ↓q_in, q_le, q_lt, q_eq, q_leT, q_leF, q_ltT, q_ltF, q_eqT, q_eqF, ↓reduceIte, not_true_eq_false, not_false_eq_true, true_and, and_true, and_self, false_and, and_false, Nat.zero_le, am_bd_some, q_app, q_app0, nI_add, pk_sub, pk_mul, q_dec, q_ix, q_m1, q_m1', ↓q_ret, q_bool, q_bool1, q_u2, q_u1, q_shl1, q_shr, q_and7, q_dg, fa_or, fa_and, decide_true, decide_false, Bool.or_false, Bool.or_true, Bool.true_or, Bool.false_or, cond_true, cond_false, ite_not, q_some, q_nn, q_xor, q_xorm, Bool.false_eq_true, decide_eq_true_eq, ne_eq, l_0, l_1, l_2, l_3, l_4, l_5, l_7, l_8, l_10, l_13, l_16, l_18, l_22, l_46, l_51, l_55, l_61, l_66, l_81, l_87, l_95, l_3222, hx, hy, q_l2i, hA0, hw, q_vW0, e1, hA1, e3, hb, or_false]
            exact MR_some ⟨rfl, by (repeat (first | exact Fx_refl _ _ | assumption | refine Fx_u2 rfl ?_ | refine Fx_u1 rfl (by decide) ?_ | refine Fx_step (by assumption) rfl ?_ | refine Fx_stepr (by assumption) rfl rfl ?_))⟩
    · simp (disch := first | assumption | omega) only [b_M_whyGo_0, b_M_whyGo_5, b_M_whyGo_13, b_M_whyGo_16, b_M_whyGo_46, b_M_whyGo_51, b_M_whyGo_55, b_M_whyGo_61, b_M_whyGo_66, b_M_whyGo_81, b_M_whyGo_87, b_M_whyGo_95, s_M_isIn, s_M_isPerson, s_M_isPlace, s_M_standNow, s_M_whoIn, ↓Bool.cond_decide, ↓q_in, q_le, q_lt, q_eq, q_leT, q_leF, q_ltT, q_ltF, q_eqT, q_eqF, ↓reduceIte, not_true_eq_false, not_false_eq_true, true_and, and_true, and_self, false_and, and_false, Nat.zero_le, am_bd_some, q_app, q_app0, nI_add, pk_sub, pk_mul, q_dec, q_ix, q_m1, q_m1', ↓q_ret, q_bool, q_bool1, q_u2, q_u1, q_shl1, q_shr, q_and7, q_dg, fa_or, fa_and, decide_true, decide_false, Bool.or_false, Bool.or_true, Bool.true_or, Bool.false_or, cond_true, cond_false, ite_not, q_some, q_nn, q_xor, q_xorm, Bool.false_eq_true, decide_eq_true_eq, ne_eq, l_0, l_1, l_2, l_3, l_4, l_5, l_7, l_8, l_10, l_13, l_16, l_18, l_22, l_46, l_51, l_55, l_61, l_66, l_81, l_87, l_95, l_3222, hx, hy]
      exact MR_some ⟨rfl, Fx_refl _ _⟩
  · simp (disch := first | assumption | omega) only [b_M_whyGo_0, b_M_whyGo_5, b_M_whyGo_13, b_M_whyGo_16, b_M_whyGo_46, b_M_whyGo_51, b_M_whyGo_55, b_M_whyGo_61, b_M_whyGo_66, b_M_whyGo_81, b_M_whyGo_87, b_M_whyGo_95, s_M_isIn, s_M_isPerson, s_M_isPlace, s_M_standNow, s_M_whoIn, ↓Bool.cond_decide, ↓q_in, q_le, q_lt, q_eq, q_leT, q_leF, q_ltT, q_ltF, q_eqT, q_eqF, ↓reduceIte, not_true_eq_false, not_false_eq_true, true_and, and_true, and_self, false_and, and_false, Nat.zero_le, am_bd_some, q_app, q_app0, nI_add, pk_sub, pk_mul, q_dec, q_ix, q_m1, q_m1', ↓q_ret, q_bool, q_bool1, q_u2, q_u1, q_shl1, q_shr, q_and7, q_dg, fa_or, fa_and, decide_true, decide_false, Bool.or_false, Bool.or_true, Bool.true_or, Bool.false_or, cond_true, cond_false, ite_not, q_some, q_nn, q_xor, q_xorm, Bool.false_eq_true, decide_eq_true_eq, ne_eq, l_0, l_1, l_2, l_3, l_4, l_5, l_7, l_8, l_10, l_13, l_16, l_18, l_22, l_46, l_51, l_55, l_61, l_66, l_81, l_87, l_95, l_3222, hx]
    exact MR_some ⟨rfl, Fx_refl _ _⟩
theorem r_M_keeps (d : Nat) (hA : MA i g) : MR none (fun i' l' => l' = l ∧ Fx [9] i i' ∧ ∀ k, k < 14 → i' 9 k = nI (g (18 + k))) (am_cl (d + 1) mM_keeps [.ref 0] (i, l, rM, kM)) := by
  rw [c_M_keeps, b_M_keeps_0]
  refine am_loop (fun k ls s => ∃ i', ls = [.val (.ref 0), .val (.int (nI k))] ∧ s = (i', l, rM, kM) ∧ Fx [9] i i' ∧ ∀ j, j < k → i' 9 j = nI (g (18 + j))) 14 _ (fun k ls s hk hI => ?_) (fun ls s hI => ?_) ⟨i, rfl, rfl, Fx_refl _ _, fun j hj => by omega⟩
  · obtain ⟨i1, e1, e2, hf, hw⟩ := hI
    subst e1; subst e2
    have hA1 : ∀ k, k < 3222 → i1 1 k = nI (g k) := MA_fx hf hA rfl
    rw [b_M_keeps_2]
    simp (disch := first | assumption | omega) only [b_M_keeps_0, ↓Bool.cond_decide, ↓q_in, q_le, q_lt, q_eq, q_leT, q_leF, q_ltT, q_ltF, q_eqT, q_eqF, ↓reduceIte, not_true_eq_false, not_false_eq_true, true_and, and_true, and_self, false_and, and_false, Nat.zero_le, am_bd_some, q_app, q_app0, nI_add, pk_sub, pk_mul, q_dec, q_ix, q_m1, q_m1', ↓q_ret, q_bool, q_bool1, q_u2, q_u1, q_shl1, q_shr, q_and7, q_dg, fa_or, fa_and, decide_true, decide_false, Bool.or_false, Bool.or_true, Bool.true_or, Bool.false_or, cond_true, cond_false, ite_not, q_some, q_nn, q_xor, q_xorm, Bool.false_eq_true, decide_eq_true_eq, ne_eq, l_0, l_1, l_2, l_5, l_9, l_14, l_18, l_19, l_3222, hA1]
    refine Go_in ⟨_, rfl, rfl, by (repeat (first | exact Fx_refl _ _ | assumption | refine Fx_u2 rfl ?_ | refine Fx_u1 rfl (by decide) ?_ | refine Fx_step (by assumption) rfl ?_ | refine Fx_stepr (by assumption) rfl rfl ?_)), fun j hj => ?_⟩
    by_cases e : j = k
    · subst e; simp only [q_u2, if_true]
    · simp only [q_u2, e, if_true, if_false]; exact hw j (by omega)
  · obtain ⟨i1, e1, e2, hf, hw⟩ := hI
    subst e1; subst e2
    rw [b_M_keeps_2]
    simp (disch := first | assumption | omega) only [b_M_keeps_0, ↓Bool.cond_decide, ↓q_in, q_le, q_lt, q_eq, q_leT, q_leF, q_ltT, q_ltF, q_eqT, q_eqF, ↓reduceIte, not_true_eq_false, not_false_eq_true, true_and, and_true, and_self, false_and, and_false, Nat.zero_le, am_bd_some, q_app, q_app0, nI_add, pk_sub, pk_mul, q_dec, q_ix, q_m1, q_m1', ↓q_ret, q_bool, q_bool1, q_u2, q_u1, q_shl1, q_shr, q_and7, q_dg, fa_or, fa_and, decide_true, decide_false, Bool.or_false, Bool.or_true, Bool.true_or, Bool.false_or, cond_true, cond_false, ite_not, q_some, q_nn, q_xor, q_xorm, Bool.false_eq_true, decide_eq_true_eq, ne_eq, l_0, l_1, l_2, l_5, l_9, l_14, l_18, l_19, l_3222]
    exact MR_some ⟨rfl, hf, hw⟩
theorem r_M_isAgain (d : Nat) {w : Nat → Nat} (hA : MA i g) (hw : ∀ k, k < 14 → i 9 k = nI (w k)) : MR none (fun i' l' => l' = l ∧ Fx [1] i i' ∧ MA i' (fun j => if 18 ≤ j ∧ j < 32 then w (j - 18) else g j)) (am_cl (d + 1) mM_isAgain [.ref 0] (i, l, rM, kM)) := by
  rw [c_M_isAgain, b_M_isAgain_0]
  refine am_loop (fun k ls s => ∃ i', ls = [.val (.ref 0), .val (.int (nI k))] ∧ s = (i', l, rM, kM) ∧ Fx [1] i i' ∧ MA i' (fun j => if 18 ≤ j ∧ j < 18 + k then w (j - 18) else g j)) 14 _ (fun k ls s hk hI => ?_) (fun ls s hI => ?_) ⟨i, rfl, rfl, Fx_refl _ _, fun j hj => by dsimp only; rw [if_neg (by omega)]; exact hA j hj⟩
  · obtain ⟨i1, e1, e2, hf, hm⟩ := hI
    subst e1; subst e2
    have h9 : i1 9 k = nI (w k) := by rw [Fx_row hf (by decide) rfl]; exact hw k hk
    rw [b_M_isAgain_2]
    simp (disch := first | assumption | omega) only [b_M_isAgain_0, ↓Bool.cond_decide, ↓q_in, q_le, q_lt, q_eq, q_leT, q_leF, q_ltT, q_ltF, q_eqT, q_eqF, ↓reduceIte, not_true_eq_false, not_false_eq_true, true_and, and_true, and_self, false_and, and_false, Nat.zero_le, am_bd_some, q_app, q_app0, nI_add, pk_sub, pk_mul, q_dec, q_ix, q_m1, q_m1', ↓q_ret, q_bool, q_bool1, q_u2, q_u1, q_shl1, q_shr, q_and7, q_dg, fa_or, fa_and, decide_true, decide_false, Bool.or_false, Bool.or_true, Bool.true_or, Bool.false_or, cond_true, cond_false, ite_not, q_some, q_nn, q_xor, q_xorm, Bool.false_eq_true, decide_eq_true_eq, ne_eq, l_0, l_1, l_2, l_5, l_9, l_14, l_18, l_19, l_3222, h9]
    refine Go_in ⟨_, rfl, rfl, by (repeat (first | exact Fx_refl _ _ | assumption | refine Fx_u2 rfl ?_ | refine Fx_u1 rfl (by decide) ?_ | refine Fx_step (by assumption) rfl ?_ | refine Fx_stepr (by assumption) rfl rfl ?_)), fun j hj => ?_⟩
    by_cases e : j = 18 + k
    · subst e
      simp only [q_u2, if_true]
      rw [if_pos (by omega), Nat.add_sub_cancel_left]
    · simp only [q_u2, e, if_true, if_false]
      rw [hm j hj]; (try dsimp only)
      by_cases e2 : 18 ≤ j ∧ j < 18 + k
      · rw [if_pos e2, if_pos (by omega)]
      · rw [if_neg e2, if_neg (by omega)]
  · obtain ⟨i1, e1, e2, hf, hm⟩ := hI
    subst e1; subst e2
    rw [b_M_isAgain_2]
    simp (disch := first | assumption | omega) only [b_M_isAgain_0, ↓Bool.cond_decide, ↓q_in, q_le, q_lt, q_eq, q_leT, q_leF, q_ltT, q_ltF, q_eqT, q_eqF, ↓reduceIte, not_true_eq_false, not_false_eq_true, true_and, and_true, and_self, false_and, and_false, Nat.zero_le, am_bd_some, q_app, q_app0, nI_add, pk_sub, pk_mul, q_dec, q_ix, q_m1, q_m1', ↓q_ret, q_bool, q_bool1, q_u2, q_u1, q_shl1, q_shr, q_and7, q_dg, fa_or, fa_and, decide_true, decide_false, Bool.or_false, Bool.or_true, Bool.true_or, Bool.false_or, cond_true, cond_false, ite_not, q_some, q_nn, q_xor, q_xorm, Bool.false_eq_true, decide_eq_true_eq, ne_eq, l_0, l_1, l_2, l_5, l_9, l_14, l_18, l_19, l_3222]
    exact MR_some ⟨rfl, hf, hm⟩
theorem r_M_isStand (d : Nat) {a : Nat} (ha : a < 4096) (hA : MA i g) : MR none (fun i' l' => l' = l ∧ Fx [1] i i' ∧ MA i' (gStand g a)) (am_cl (d + 2) mM_isStand [.ref 0, .int (nI a)] (i, l, rM, kM)) := by
  rw [c_M_isStand, b_M_isStand_0]
  refine am_loop (fun k ls s => ∃ i', ls = [.val (.ref 0), .val (.int (nI a)), .val (.int (nI k))] ∧ s = (i', l, rM, kM) ∧ Fx [1] i i' ∧ MA i' (fun j => if 18 ≤ j ∧ j < 18 + k then dg a (j - 18) else g j)) 4 _ (fun k ls s hk hI => ?_) (fun ls s hI => ?_) ⟨i, rfl, rfl, Fx_refl _ _, fun j hj => by dsimp only; rw [if_neg (by omega)]; exact hA j hj⟩
  · obtain ⟨i1, e1, e2, hf, hm⟩ := hI
    subst e1; subst e2
    have hd := dg_lt a k
    rw [b_M_isStand_2]
    simp (disch := first | assumption | omega) only [b_M_isStand_0, b_M_isStand_20, s_M_placeIn, ↓Bool.cond_decide, ↓q_in, q_le, q_lt, q_eq, q_leT, q_leF, q_ltT, q_ltF, q_eqT, q_eqF, ↓reduceIte, not_true_eq_false, not_false_eq_true, true_and, and_true, and_self, false_and, and_false, Nat.zero_le, am_bd_some, q_app, q_app0, nI_add, pk_sub, pk_mul, q_dec, q_ix, q_m1, q_m1', ↓q_ret, q_bool, q_bool1, q_u2, q_u1, q_shl1, q_shr, q_and7, q_dg, fa_or, fa_and, decide_true, decide_false, Bool.or_false, Bool.or_true, Bool.true_or, Bool.false_or, cond_true, cond_false, ite_not, q_some, q_nn, q_xor, q_xorm, Bool.false_eq_true, decide_eq_true_eq, ne_eq, l_0, l_1, l_2, l_4, l_5, l_6, l_14, l_18, l_20, l_3222]
    refine Go_in ⟨_, rfl, rfl, by (repeat (first | exact Fx_refl _ _ | assumption | refine Fx_u2 rfl ?_ | refine Fx_u1 rfl (by decide) ?_ | refine Fx_step (by assumption) rfl ?_ | refine Fx_stepr (by assumption) rfl rfl ?_)), fun j hj => ?_⟩
    by_cases e : j = 18 + k
    · subst e
      simp only [q_u2, if_true]
      rw [if_pos (by omega), Nat.add_sub_cancel_left]
    · simp only [q_u2, e, if_true, if_false]
      rw [hm j hj]; (try dsimp only)
      by_cases e2 : 18 ≤ j ∧ j < 18 + k
      · rw [if_pos e2, if_pos (by omega)]
      · rw [if_neg e2, if_neg (by omega)]
  · obtain ⟨i1, e1, e2, hf, hm⟩ := hI
    subst e1; subst e2
    rw [b_M_isStand_2]
    simp (disch := first | assumption | omega) only [b_M_isStand_0, b_M_isStand_20, s_M_placeIn, ↓Bool.cond_decide, ↓q_in, q_le, q_lt, q_eq, q_leT, q_leF, q_ltT, q_ltF, q_eqT, q_eqF, ↓reduceIte, not_true_eq_false, not_false_eq_true, true_and, and_true, and_self, false_and, and_false, Nat.zero_le, am_bd_some, q_app, q_app0, nI_add, pk_sub, pk_mul, q_dec, q_ix, q_m1, q_m1', ↓q_ret, q_bool, q_bool1, q_u2, q_u1, q_shl1, q_shr, q_and7, q_dg, fa_or, fa_and, decide_true, decide_false, Bool.or_false, Bool.or_true, Bool.true_or, Bool.false_or, cond_true, cond_false, ite_not, q_some, q_nn, q_xor, q_xorm, Bool.false_eq_true, decide_eq_true_eq, ne_eq, l_0, l_1, l_2, l_4, l_5, l_6, l_14, l_18, l_20, l_3222]
    exact MR_some ⟨rfl, hf, hm⟩
theorem r_M_notes (d : Nat) {w : Nat → Nat} (hA : MA i g) (h32 : g 32 ≤ 10) (hw : ∀ k, k < 14 → i 9 k = nI (w k)) : MR none (fun i' l' => l' = l ∧ Fx [1] i i' ∧ MA i' (gNote g w)) (am_cl (d + 1) mM_notes [.ref 0] (i, l, rM, kM)) := by
  have push : ∀ (i1 : Nat → Nat → Int32) (g1 : Nat → Nat) (z1 : Slot), g1 32 ≤ 9 → Fx [1] i i1 → MA i1 g1 → MR none (fun i' l' => l' = l ∧ Fx [1] i i' ∧ MA i' (gPush g1 w)) (am_Ex d mM_notes 55 [.val (.ref 0), z1] [] (i1, l, rM, kM)) := by
    intro i1 g1 z1 h9 hf1 hm1
    rw [b_M_notes_55]
    refine am_loop (fun k ls s => ∃ i', ls = [.val (.ref 0), .val (.int (nI k))] ∧ s = (i', l, rM, kM) ∧ Fx [1] i i' ∧ MA i' (fun j => if 33 + 14 * g1 32 ≤ j ∧ j < 33 + 14 * g1 32 + k then w (j - (33 + 14 * g1 32)) else g1 j)) 14 _ (fun k ls s hk hI => ?_) (fun ls s hI => ?_) ⟨i1, rfl, rfl, hf1, fun j hj => by dsimp only; rw [if_neg (by omega)]; exact hm1 j hj⟩
    · obtain ⟨i2, e1, e2, hf, hm⟩ := hI
      subst e1; subst e2
      have h9 : i2 9 k = nI (w k) := by rw [Fx_row hf (by decide) rfl]; exact hw k hk
      have h32 := hm 32 (by decide)
      dsimp only at h32
      rw [if_neg (by omega)] at h32
      rw [b_M_notes_57]
      simp (disch := first | assumption | omega) only [b_M_notes_0, b_M_notes_55, ↓Bool.cond_decide, ↓q_in, q_le, q_lt, q_eq, q_leT, q_leF, q_ltT, q_ltF, q_eqT, q_eqF, ↓reduceIte, not_true_eq_false, not_false_eq_true, true_and, and_true, and_self, false_and, and_false, Nat.zero_le, am_bd_some, q_app, q_app0, nI_add, pk_sub, pk_mul, q_dec, q_ix, q_m1, q_m1', ↓q_ret, q_bool, q_bool1, q_u2, q_u1, q_shl1, q_shr, q_and7, q_dg, fa_or, fa_and, decide_true, decide_false, Bool.or_false, Bool.or_true, Bool.true_or, Bool.false_or, cond_true, cond_false, ite_not, q_some, q_nn, q_xor, q_xorm, Bool.false_eq_true, decide_eq_true_eq, ne_eq, l_0, l_1, l_5, l_9, l_10, l_12, l_14, l_29, l_32, l_33, l_34, l_47, l_55, l_57, l_126, l_3222, h9, h32]
      refine Go_in ⟨_, rfl, rfl, by (repeat (first | exact Fx_refl _ _ | assumption | refine Fx_u2 rfl ?_ | refine Fx_u1 rfl (by decide) ?_ | refine Fx_step (by assumption) rfl ?_ | refine Fx_stepr (by assumption) rfl rfl ?_)), fun j hj => ?_⟩
      by_cases e : j = 33 + 14 * g1 32 + k
      · subst e
        simp only [q_u2, if_true]
        rw [if_pos (by omega), Nat.add_sub_cancel_left]
      · simp only [q_u2, e, if_true, if_false]
        rw [hm j hj]; (try dsimp only)
        by_cases e2 : 33 + 14 * g1 32 ≤ j ∧ j < 33 + 14 * g1 32 + k
        · rw [if_pos e2, if_pos (by omega)]
        · rw [if_neg e2, if_neg (by omega)]
    · obtain ⟨i2, e1, e2, hf, hm⟩ := hI
      subst e1; subst e2
      have h32 := hm 32 (by decide)
      dsimp only at h32
      rw [if_neg (by omega)] at h32
      rw [b_M_notes_57]
      simp (disch := first | assumption | omega) only [b_M_notes_0, b_M_notes_55, ↓Bool.cond_decide, ↓q_in, q_le, q_lt, q_eq, q_leT, q_leF, q_ltT, q_ltF, q_eqT, q_eqF, ↓reduceIte, not_true_eq_false, not_false_eq_true, true_and, and_true, and_self, false_and, and_false, Nat.zero_le, am_bd_some, q_app, q_app0, nI_add, pk_sub, pk_mul, q_dec, q_ix, q_m1, q_m1', ↓q_ret, q_bool, q_bool1, q_u1, q_shl1, q_shr, q_and7, q_dg, fa_or, fa_and, decide_true, decide_false, Bool.or_false, Bool.or_true, Bool.true_or, Bool.false_or, cond_true, cond_false, ite_not, q_some, q_nn, q_xor, q_xorm, Bool.false_eq_true, decide_eq_true_eq, ne_eq, l_0, l_1, l_5, l_9, l_10, l_12, l_14, l_29, l_32, l_33, l_34, l_47, l_55, l_57, l_126, l_3222, h32]
      refine MR_some ⟨rfl, by (repeat (first | exact Fx_refl _ _ | assumption | refine Fx_u2 rfl ?_ | refine Fx_u1 rfl (by decide) ?_ | refine Fx_step (by assumption) rfl ?_ | refine Fx_stepr (by assumption) rfl rfl ?_)), fun j hj => ?_⟩
      unfold gPush
      by_cases e : j = 32
      · subst e
        simp only [q_u2, if_true]
      · simp only [q_u2, e, if_true, if_false]
        exact hm j hj
  rw [c_M_notes, b_M_notes_0]
  have hg32 := hA 32 (by decide)
  by_cases h10 : g 32 = 10
  · simp (disch := first | assumption | omega) only [b_M_notes_0, ↓Bool.cond_decide, ↓q_in, q_le, q_lt, q_eq, q_leT, q_leF, q_ltT, q_ltF, q_eqT, q_eqF, ↓reduceIte, not_true_eq_false, not_false_eq_true, true_and, and_true, and_self, false_and, and_false, Nat.zero_le, am_bd_some, q_app, q_app0, nI_add, pk_sub, pk_mul, q_dec, q_ix, q_m1, q_m1', ↓q_ret, q_bool, q_bool1, q_u2, q_u1, q_shl1, q_shr, q_and7, q_dg, fa_or, fa_and, decide_true, decide_false, Bool.or_false, Bool.or_true, Bool.true_or, Bool.false_or, cond_true, cond_false, ite_not, q_some, q_nn, q_xor, q_xorm, Bool.false_eq_true, decide_eq_true_eq, ne_eq, l_0, l_1, l_5, l_9, l_10, l_12, l_14, l_29, l_32, l_33, l_34, l_47, l_55, l_57, l_126, l_3222, hg32, h10]
    have hsh : gShift g = fun j => if j = 32 then 9 else if 33 ≤ j ∧ j < 159 then g (j + 14) else g j := by
      unfold gShift; simp only [h10, if_true]
    refine am_loop (fun k ls s => ∃ i', ls = [.val (.ref 0), .val (.int (nI k))] ∧ s = (i', l, rM, kM) ∧ Fx [1] i i' ∧ MA i' (fun j => if 33 ≤ j ∧ j < 33 + k then g (j + 14) else g j)) 126 _ (fun k ls s hk hI => ?_) (fun ls s hI => ?_) ⟨i, rfl, rfl, Fx_refl _ _, fun j hj => by dsimp only; rw [if_neg (by omega)]; exact hA j hj⟩
    · obtain ⟨i2, e1, e2, hf, hm⟩ := hI
      subst e1; subst e2
      have h47 := hm (47 + k) (by omega)
      dsimp only at h47
      rw [if_neg (by omega)] at h47
      rw [b_M_notes_14]
      simp (disch := first | assumption | omega) only [b_M_notes_0, ↓Bool.cond_decide, ↓q_in, q_le, q_lt, q_eq, q_leT, q_leF, q_ltT, q_ltF, q_eqT, q_eqF, ↓reduceIte, not_true_eq_false, not_false_eq_true, true_and, and_true, and_self, false_and, and_false, Nat.zero_le, am_bd_some, q_app, q_app0, nI_add, pk_sub, pk_mul, q_dec, q_ix, q_m1, q_m1', ↓q_ret, q_bool, q_bool1, q_u2, q_u1, q_shl1, q_shr, q_and7, q_dg, fa_or, fa_and, decide_true, decide_false, Bool.or_false, Bool.or_true, Bool.true_or, Bool.false_or, cond_true, cond_false, ite_not, q_some, q_nn, q_xor, q_xorm, Bool.false_eq_true, decide_eq_true_eq, ne_eq, l_0, l_1, l_5, l_9, l_10, l_12, l_14, l_29, l_32, l_33, l_34, l_47, l_55, l_57, l_126, l_3222, h47]
      refine Go_in ⟨_, rfl, rfl, by (repeat (first | exact Fx_refl _ _ | assumption | refine Fx_u2 rfl ?_ | refine Fx_u1 rfl (by decide) ?_ | refine Fx_step (by assumption) rfl ?_ | refine Fx_stepr (by assumption) rfl rfl ?_)), fun j hj => ?_⟩
      by_cases e : j = 33 + k
      · subst e
        simp only [q_u2, if_true]
        rw [if_pos (by omega), show 33 + k + 14 = 47 + k by omega]
      · simp only [q_u2, e, if_true, if_false]
        rw [hm j hj]; (try dsimp only)
        by_cases e2 : 33 ≤ j ∧ j < 33 + k
        · rw [if_pos e2, if_pos (by omega)]
        · rw [if_neg e2, if_neg (by omega)]
    · obtain ⟨i2, e1, e2, hf, hm⟩ := hI
      subst e1; subst e2
      have h32' := hm 32 (by decide)
      dsimp only at h32'
      rw [if_neg (by omega), h10] at h32'
      rw [b_M_notes_14]
      simp (disch := first | assumption | omega) only [b_M_notes_0, ↓Bool.cond_decide, ↓q_in, q_le, q_lt, q_eq, q_leT, q_leF, q_ltT, q_ltF, q_eqT, q_eqF, ↓reduceIte, not_true_eq_false, not_false_eq_true, true_and, and_true, and_self, false_and, and_false, Nat.zero_le, am_bd_some, q_app, q_app0, nI_add, pk_sub, pk_mul, q_dec, q_ix, q_m1, q_m1', ↓q_ret, q_bool, q_bool1, q_u1, q_shl1, q_shr, q_and7, q_dg, fa_or, fa_and, decide_true, decide_false, Bool.or_false, Bool.or_true, Bool.true_or, Bool.false_or, cond_true, cond_false, ite_not, q_some, q_nn, q_xor, q_xorm, Bool.false_eq_true, decide_eq_true_eq, ne_eq, l_0, l_1, l_5, l_9, l_10, l_12, l_14, l_29, l_32, l_33, l_34, l_47, l_55, l_57, l_126, l_3222, h32']
      refine push _ (gShift g) _ (by rw [hsh]; exact Nat.le_refl 9) (by (repeat (first | exact Fx_refl _ _ | assumption | refine Fx_u2 rfl ?_ | refine Fx_u1 rfl (by decide) ?_ | refine Fx_step (by assumption) rfl ?_ | refine Fx_stepr (by assumption) rfl rfl ?_))) (fun j hj => ?_)
      rw [hsh]
      by_cases e : j = 32
      · subst e
        simp only [q_u2, if_true]
      · simp only [q_u2, e, if_true, if_false]
        rw [hm j hj]; (try dsimp only)
  · simp (disch := first | assumption | omega) only [b_M_notes_0, ↓Bool.cond_decide, ↓q_in, q_le, q_lt, q_eq, q_leT, q_leF, q_ltT, q_ltF, q_eqT, q_eqF, ↓reduceIte, not_true_eq_false, not_false_eq_true, true_and, and_true, and_self, false_and, and_false, Nat.zero_le, am_bd_some, q_app, q_app0, nI_add, pk_sub, pk_mul, q_dec, q_ix, q_m1, q_m1', ↓q_ret, q_bool, q_bool1, q_u2, q_u1, q_shl1, q_shr, q_and7, q_dg, fa_or, fa_and, decide_true, decide_false, Bool.or_false, Bool.or_true, Bool.true_or, Bool.false_or, cond_true, cond_false, ite_not, q_some, q_nn, q_xor, q_xorm, Bool.false_eq_true, decide_eq_true_eq, ne_eq, l_0, l_1, l_5, l_9, l_10, l_12, l_14, l_29, l_32, l_33, l_34, l_47, l_55, l_57, l_126, l_3222, hg32]
    have hsh : gShift g = g := by
      unfold gShift; simp only [h10, if_false]
    have := push i (gShift g) .unset (by rw [hsh]; omega) (Fx_refl _ _) (by rw [hsh]; exact hA)
    exact this
end
