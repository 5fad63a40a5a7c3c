/-! THE STATE that both keep: g (the row 'all'), images told, the tape, how much is on it, the fault's kind and place, trays: sorts, sizes, numbers -/
abbrev St : Type := (Nat → Nat) × (Nat → Bool) × (Nat → Nat) × Nat × Nat × Int32 × (Nat → Int32) × (Nat → Nat) × (Nat → Int64)
def MS (i : Nat → Nat → Int32) (l : Nat → Nat → Int64) (σ : St) : Prop :=
  MA i σ.1 ∧ (∀ k, k < 2 → i 2 k = if σ.2.1 k then nI 1 else nI 0) ∧ (∀ k, k < 900 → k < σ.2.2.2.1 → i 3 k = nI (σ.2.2.1 k)) ∧ i 0 5 = nI σ.2.2.2.1 ∧ i 0 13 = nI σ.2.2.2.2.1 ∧ i 0 14 = σ.2.2.2.2.2.1 ∧ (∀ t, t < 4 → i 22 t = σ.2.2.2.2.2.2.1 t) ∧ (∀ t, t < 4 → i 23 t = nI (σ.2.2.2.2.2.2.2.1 t)) ∧ (∀ k, k < 160 → l 24 k = σ.2.2.2.2.2.2.2.2 k)
theorem MS_fx {R : List Nat} {i i' : Nat → Nat → Int32} {l l' : Nat → Nat → Int64} {σ : St} (h : Fx R i i') (hl : l' 24 = l 24) (hR : ([1, 2, 3, 22, 23, 105, 113, 114].all fun x => !R.contains x) = true) (hS : MS i l σ) : MS i' l' σ := by
  have hn : ∀ x, x ∈ [1, 2, 3, 22, 23, 105, 113, 114] → R.contains x = false := fun x hx => by
    have := List.all_eq_true.mp hR x hx
    simpa using this
  have r1 : ∀ r, r ≠ 0 → r ∈ [1, 2, 3, 22, 23, 105, 113, 114] → i' r = i r := fun r h0 hr => Fx_row h h0 (hn r hr)
  have f1 : ∀ k, 100 + k ∈ [1, 2, 3, 22, 23, 105, 113, 114] → i' 0 k = i 0 k := fun k hk => h 0 k (by rw [if_pos rfl]; exact hn _ hk)
  obtain ⟨a1, a2, a3, a4, a5, a6, a7, a8, a9⟩ := hS
  refine ⟨?_, ?_, ?_, ?_, ?_, ?_, ?_, ?_, ?_⟩
  · intro k hk; rw [r1 1 (by decide) (by decide)]; exact a1 k hk
  · rw [r1 2 (by decide) (by decide)]; exact a2
  · rw [r1 3 (by decide) (by decide)]; exact a3
  · rw [f1 5 (by decide)]; exact a4
  · rw [f1 13 (by decide)]; exact a5
  · rw [f1 14 (by decide)]; exact a6
  · rw [r1 22 (by decide) (by decide)]; exact a7
  · rw [r1 23 (by decide) (by decide)]; exact a8
  · rw [hl]; exact a9
/-- a stand that can be: places, each spot for one, who isn't there is at 0 -/
def VS (g : Nat → Nat) (a : Nat) : Prop := (∀ p, p < 4 → dg a p ≤ g 1 + 1) ∧ (∀ p q, p < 4 → q < 4 → p ≠ q → sSpot g (dg a p) = true → dg a p ≠ dg a q) ∧ ∀ p, g 2 ≤ p → p < 4 → dg a p = 0
/-- the river and what is kept of the people -/
def WG (g : Nat → Nat) : Prop := (1 ≤ g 1 ∧ g 1 ≤ 6) ∧ g 2 ≤ 4 ∧ g 3 ≤ 9 ∧ (∀ p, p < 4 → g (10 + p) ≤ 4) ∧ (∀ p, p < 4 → g (14 + p) ≤ 9) ∧ (∀ p, p < 4 → g (18 + p) < 8) ∧ (∀ p, p < 4 → g (22 + p) ≤ 9) ∧ (∀ s, s < 6 → g (26 + s) ≤ 9) ∧ LW g 0 ∧ LW g 1 ∧ VS g (sNow g 4)
theorem inN {x : Int32} {n : Nat} (h : 0 ≤ x.toInt ∧ x.toInt < (n : Int)) : ∃ p, p < n ∧ x = nI p := by
  have hx : x.toInt < 2147483648 := Int32.toInt_lt x
  refine ⟨x.toInt.toNat, by omega, ?_⟩
  apply Int32.toInt_inj.mp
  rw [nI_toInt (by omega)]
  omega
/-- a number below n -/
def iB (x : Int32) (n : Nat) : Bool := decide (0 ≤ x.toInt ∧ x.toInt < (n : Int))
theorem iB_T {x : Int32} {n : Nat} (h : iB x n = true) : ∃ p, p < n ∧ x = nI p := inN (of_decide_eq_true h)
theorem iB_nI {p n : Nat} (hp : p < 2147483648) : iB (nI p) n = decide (p < n) := by
  unfold iB
  rw [nI_toInt (by omega)]
  by_cases h : p < n
  · rw [decide_eq_true h, decide_eq_true (by omega)]
  · rw [decide_eq_false h, decide_eq_false (by omega)]
section
variable {i : Nat → Nat → Int32} {l : Nat → Nat → Int64} {g : Nat → Nat}
theorem s_M_isPerson (d : Nat) (x : Int32) (hA : MA i g) (h2 : g 2 ≤ 4) : am_cl (d + 2) mM_isPerson [.ref 0, .long (Int32.toInt64 x)] (i, l, rM, kM) = some (some (.int (if iB x (g 2) = true then nI 1 else nI 0)), (i, l, rM, kM)) := by
  rw [t_M_isPerson d _ hA (by omega), Int32.toInt_toInt64]
  simp only [iB, decide_eq_true_eq]
  rfl
theorem s_M_isPlace (d : Nat) (x : Int32) (hA : MA i g) (h1 : g 1 ≤ 6) : am_cl (d + 2) mM_isPlace [.ref 0, .long (Int32.toInt64 x)] (i, l, rM, kM) = some (some (.int (if iB x (g 1 + 2) = true then nI 1 else nI 0)), (i, l, rM, kM)) := by
  rw [t_M_isPlace d _ hA (by omega), Int32.toInt_toInt64]
  have e : (0 ≤ x.toInt ∧ x.toInt ≤ (g 1 : Int) + 1) ↔ (0 ≤ x.toInt ∧ x.toInt < ((g 1 + 2 : Nat) : Int)) := by omega
  simp only [iB, decide_eq_true_eq, e]
  rfl
/-- a spot, as an int -/
def iS (g : Nat → Nat) (x : Int32) : Bool := decide (1 ≤ x.toInt ∧ x.toInt ≤ (g 1 : Int))
theorem iS_T {x : Int32} (h : iS g x = true) : ∃ s, 1 ≤ s ∧ s ≤ g 1 ∧ x = nI s := by
  have h := of_decide_eq_true h
  obtain ⟨p, h1, h2⟩ := inN (x := x) (n := g 1 + 1) ⟨by omega, by omega⟩
  subst h2
  have h3 : (nI p).toInt = p ∨ ¬ p < 2147483648 := by
    by_cases hp : p < 2147483648
    · exact Or.inl (nI_toInt hp)
    · exact Or.inr hp
  refine ⟨p, ?_, by omega, rfl⟩
  rcases h3 with h3 | h3
  · omega
  · omega
theorem s_M_isSpot'' (d : Nat) (x : Int32) (hA : MA i g) (h1 : g 1 ≤ 6) : am_cl (d + 2) mM_isSpot [.ref 0, .long (Int32.toInt64 x)] (i, l, rM, kM) = some (some (.int (if iS g x = true then nI 1 else nI 0)), (i, l, rM, kM)) := by
  rw [t_M_isSpot d _ hA (by omega), Int32.toInt_toInt64]
  simp only [iS, decide_eq_true_eq]
  rfl
theorem s_M_isWater' (d : Nat) (x : Int32) (s : aM) : am_cl (d + 2) mM_isWater [.long (Int32.toInt64 x)] s = some (some (.int (if iB x 10 = true then nI 1 else nI 0)), s) := by
  rw [s_M_isWater, Int32.toInt_toInt64]
  have e : (0 ≤ x.toInt ∧ x.toInt ≤ 9) ↔ (0 ≤ x.toInt ∧ x.toInt < ((10 : Nat) : Int)) := by omega
  simp only [iB, decide_eq_true_eq, e]
def v_fault (σ : St) (x : Int32) : Int32 := if x = nI 0 then nI σ.2.2.2.2.1 else if x = nI 1 then σ.2.2.2.2.2.1 else -nI 1
theorem r_M_fault (d : Nat) (x : Int32) {σ : St} (hS : MS i l σ) : MR (some (.int (v_fault σ x))) (fun i' l' => MS i' l' σ) (am_cl (d + 1) mM_fault [.ref 0, .int x] (i, l, rM, kM)) := by
  have h13 := hS.2.2.2.2.1
  have h14 := hS.2.2.2.2.2.1
  rw [c_M_fault, b_M_fault_0, v_fault]
  by_cases h0 : x = nI 0
  · simp (disch := first | assumption | omega) only [b_M_fault_0, b_M_fault_29, ↓Bool.cond_decide, ↓q_in, q_le, q_lt, q_eq, q_leT, q_leF, q_ltT, q_ltF, q_eqT, q_eqF, ↓reduceIte, not_true_eq_false, not_false_eq_true, true_and, and_true, and_self, false_and, and_false, Nat.zero_le, am_bd_some, q_app, q_app0, nI_add, pk_sub, pk_mul, q_dec, q_ix, q_m1, q_m1', ↓q_ret, q_bool, q_bool1, q_u2, q_u1, q_shl1, q_shr, q_and7, q_dg, fa_or, fa_and, decide_true, decide_false, Bool.or_false, Bool.or_true, Bool.true_or, Bool.false_or, cond_true, cond_false, ite_not, q_some, q_nn, q_xor, q_xorm, Bool.false_eq_true, decide_eq_true_eq, ne_eq, l_0, l_1, l_3, l_13, l_14, l_18, l_29, h0, h13]
    exact MR_some (MS_fx (R := [100]) (by (repeat (first | exact Fx_refl _ _ | assumption | refine Fx_u2 rfl ?_ | refine Fx_u1 rfl (by decide) ?_ | refine Fx_step (by assumption) rfl ?_ | refine Fx_stepr (by assumption) rfl rfl ?_))) rfl rfl hS)
  · by_cases h1 : x = nI 1
    · simp (disch := first | assumption | omega) only [b_M_fault_0, b_M_fault_29, ↓Bool.cond_decide, ↓q_in, q_le, q_lt, q_eq, q_leT, q_leF, q_ltT, q_ltF, q_eqT, q_eqF, ↓reduceIte, not_true_eq_false, not_false_eq_true, true_and, and_true, and_self, false_and, and_false, Nat.zero_le, am_bd_some, q_app, q_app0, nI_add, pk_sub, pk_mul, q_dec, q_ix, q_m1, q_m1', ↓q_ret, q_bool, q_bool1, q_u2, q_u1, q_shl1, q_shr, q_and7, q_dg, fa_or, fa_and, decide_true, decide_false, Bool.or_false, Bool.or_true, Bool.true_or, Bool.false_or, cond_true, cond_false, ite_not, q_some, q_nn, q_xor, q_xorm, Bool.false_eq_true, decide_eq_true_eq, ne_eq, l_0, l_1, l_3, l_13, l_14, l_18, l_29, h0, h1, h14]
      exact MR_some (MS_fx (R := [100]) (by (repeat (first | exact Fx_refl _ _ | assumption | refine Fx_u2 rfl ?_ | refine Fx_u1 rfl (by decide) ?_ | refine Fx_step (by assumption) rfl ?_ | refine Fx_stepr (by assumption) rfl rfl ?_))) rfl rfl hS)
    · simp (disch := first | assumption | omega) only [b_M_fault_0, b_M_fault_29, ↓Bool.cond_decide, ↓q_in, q_le, q_lt, q_eq, q_leT, q_leF, q_ltT, q_ltF, q_eqT, q_eqF, ↓reduceIte, not_true_eq_false, not_false_eq_true, true_and, and_true, and_self, false_and, and_false, Nat.zero_le, am_bd_some, q_app, q_app0, nI_add, pk_sub, pk_mul, q_dec, q_ix, q_m1, q_m1', ↓q_ret, q_bool, q_bool1, q_u2, q_u1, q_shl1, q_shr, q_and7, q_dg, fa_or, fa_and, decide_true, decide_false, Bool.or_false, Bool.or_true, Bool.true_or, Bool.false_or, cond_true, cond_false, ite_not, q_some, q_nn, q_xor, q_xorm, Bool.false_eq_true, decide_eq_true_eq, ne_eq, l_0, l_1, l_3, l_13, l_14, l_18, l_29, h0, h1]
      exact MR_some (MS_fx (R := [100]) (by (repeat (first | exact Fx_refl _ _ | assumption | refine Fx_u2 rfl ?_ | refine Fx_u1 rfl (by decide) ?_ | refine Fx_step (by assumption) rfl ?_ | refine Fx_stepr (by assumption) rfl rfl ?_))) rfl rfl hS)
def v_person (g : Nat → Nat) (x y : Int32) : Int32 := if iB x (g 2) = true then (if y = nI 0 then nI (g (18 + x.toNatClampNeg)) else if y = nI 1 then nI (g (10 + x.toNatClampNeg)) else if y = nI 2 then nI (g (22 + x.toNatClampNeg)) else if y = nI 3 then nI (g (14 + x.toNatClampNeg)) else if y = nI 4 then nI (sGo g (sNow g 4) x.toNatClampNeg (g (10 + x.toNatClampNeg))) else -nI 2) else -nI 2
theorem r_M_person (d : Nat) (x y : Int32) {σ : St} (hS : MS i l σ) (hW : WG σ.1) : MR (some (.int (v_person σ.1 x y))) (fun i' l' => MS i' l' σ) (am_cl (d + 7) mM_person [.ref 0, .int x, .int y] (i, l, rM, kM)) := by
  obtain ⟨g, σ⟩ := σ
  obtain ⟨⟨_, h1⟩, h2, h3, hR, hF, hP, hSt, hD, hL0, hL1, hV⟩ := hW
  have h1 : g 1 ≤ 6 := h1
  have h2 : g 2 ≤ 4 := h2
  have hA := hS.1
  rw [c_M_person, b_M_person_0, v_person]
  have hf0 : Fx [100] i (am_u2 i 0 0 (nI 0)) := by (repeat (first | exact Fx_refl _ _ | assumption | refine Fx_u2 rfl ?_ | refine Fx_u1 rfl (by decide) ?_ | refine Fx_step (by assumption) rfl ?_ | refine Fx_stepr (by assumption) rfl rfl ?_))
  have hM0 : MA (am_u2 i 0 0 (nI 0)) g := MA_fx hf0 hA rfl
  by_cases hx : iB x (g 2) = true
  · simp (disch := first | assumption | omega) only [b_M_person_0, b_M_person_11, b_M_person_21, b_M_person_101, b_M_person_114, s_M_isPerson, s_M_standNow, ↓Bool.cond_decide, ↓q_in, q_le, q_lt, q_eq, q_leT, q_leF, q_ltT, q_ltF, q_eqT, q_eqF, ↓reduceIte, not_true_eq_false, not_false_eq_true, true_and, and_true, and_self, false_and, and_false, Nat.zero_le, am_bd_some, q_app, q_app0, nI_add, pk_sub, pk_mul, q_dec, q_ix, q_m1, q_m1', ↓q_ret, q_bool, q_bool1, q_u1, q_shl1, q_shr, q_and7, q_dg, fa_or, fa_and, decide_true, decide_false, Bool.or_false, Bool.or_true, Bool.true_or, Bool.false_or, cond_true, cond_false, ite_not, q_some, q_nn, q_xor, q_xorm, Bool.false_eq_true, decide_eq_true_eq, ne_eq, l_0, l_1, l_2, l_3, l_4, l_7, l_9, l_10, l_11, l_14, l_18, l_21, l_22, l_37, l_101, l_114, l_3222, hx]
    obtain ⟨p, hp, rfl⟩ := iB_T hx
    obtain ⟨i1, l1, e1, hl1, hf1, hT1⟩ := r_M_laysTrust (d + 2) (l := l) hM0 h2 hL1
    subst hl1
    have hA1 : ∀ k, k < 3222 → i1 1 k = nI (g k) := MA_fr hf1 hM0 rfl
    have hM1 : MA i1 g := hA1
    have hf2 : Fx [100, 5, 6, 8] i i1 := by (repeat (first | exact Fx_refl _ _ | assumption | refine Fx_u2 rfl ?_ | refine Fx_u1 rfl (by decide) ?_ | refine Fx_step (by assumption) rfl ?_ | refine Fx_stepr (by assumption) rfl rfl ?_))
    have hn := sNow_lt g hP 4 (by decide)
    have hr := hR p (by omega)
    have hr' : g (10 + p) ≤ 4 := hr
    rw [e1]
    by_cases y0 : y = nI 0
    · simp (disch := first | assumption | omega) only [b_M_person_0, b_M_person_11, b_M_person_21, b_M_person_101, b_M_person_114, s_M_isPerson, s_M_standNow, ↓Bool.cond_decide, ↓q_in, q_le, q_lt, q_eq, q_leT, q_leF, q_ltT, q_ltF, q_eqT, q_eqF, ↓reduceIte, not_true_eq_false, not_false_eq_true, true_and, and_true, and_self, false_and, and_false, Nat.zero_le, am_bd_some, q_app, q_app0, nI_add, pk_sub, pk_mul, q_dec, q_ix, q_m1, q_m1', ↓q_ret, q_bool, q_bool1, q_u2, q_u1, q_shl1, q_shr, q_and7, q_dg, fa_or, fa_and, decide_true, decide_false, Bool.or_false, Bool.or_true, Bool.true_or, Bool.false_or, cond_true, cond_false, ite_not, q_some, q_nn, q_xor, q_xorm, Bool.false_eq_true, decide_eq_true_eq, ne_eq, l_0, l_1, l_2, l_3, l_4, l_7, l_9, l_10, l_11, l_14, l_18, l_21, l_22, l_37, l_101, l_114, l_3222, y0, hA1]
      exact MR_some (MS_fx hf2 rfl rfl hS)
    by_cases y1 : y = nI 1
    · simp (disch := first | assumption | omega) only [b_M_person_0, b_M_person_11, b_M_person_21, b_M_person_101, b_M_person_114, s_M_isPerson, s_M_standNow, ↓Bool.cond_decide, ↓q_in, q_le, q_lt, q_eq, q_leT, q_leF, q_ltT, q_ltF, q_eqT, q_eqF, ↓reduceIte, not_true_eq_false, not_false_eq_true, true_and, and_true, and_self, false_and, and_false, Nat.zero_le, am_bd_some, q_app, q_app0, nI_add, pk_sub, pk_mul, q_dec, q_ix, q_m1, q_m1', ↓q_ret, q_bool, q_bool1, q_u2, q_u1, q_shl1, q_shr, q_and7, q_dg, fa_or, fa_and, decide_true, decide_false, Bool.or_false, Bool.or_true, Bool.true_or, Bool.false_or, cond_true, cond_false, ite_not, q_some, q_nn, q_xor, q_xorm, Bool.false_eq_true, decide_eq_true_eq, ne_eq, l_0, l_1, l_2, l_3, l_4, l_7, l_9, l_10, l_11, l_14, l_18, l_21, l_22, l_37, l_101, l_114, l_3222, y0, y1, hA1]
      exact MR_some (MS_fx hf2 rfl rfl hS)
    by_cases y2 : y = nI 2
    · simp (disch := first | assumption | omega) only [b_M_person_0, b_M_person_11, b_M_person_21, b_M_person_101, b_M_person_114, s_M_isPerson, s_M_standNow, ↓Bool.cond_decide, ↓q_in, q_le, q_lt, q_eq, q_leT, q_leF, q_ltT, q_ltF, q_eqT, q_eqF, ↓reduceIte, not_true_eq_false, not_false_eq_true, true_and, and_true, and_self, false_and, and_false, Nat.zero_le, am_bd_some, q_app, q_app0, nI_add, pk_sub, pk_mul, q_dec, q_ix, q_m1, q_m1', ↓q_ret, q_bool, q_bool1, q_u2, q_u1, q_shl1, q_shr, q_and7, q_dg, fa_or, fa_and, decide_true, decide_false, Bool.or_false, Bool.or_true, Bool.true_or, Bool.false_or, cond_true, cond_false, ite_not, q_some, q_nn, q_xor, q_xorm, Bool.false_eq_true, decide_eq_true_eq, ne_eq, l_0, l_1, l_2, l_3, l_4, l_7, l_9, l_10, l_11, l_14, l_18, l_21, l_22, l_37, l_101, l_114, l_3222, y0, y1, y2, hA1]
      exact MR_some (MS_fx hf2 rfl rfl hS)
    by_cases y3 : y = nI 3
    · simp (disch := first | assumption | omega) only [b_M_person_0, b_M_person_11, b_M_person_21, b_M_person_101, b_M_person_114, s_M_isPerson, s_M_standNow, ↓Bool.cond_decide, ↓q_in, q_le, q_lt, q_eq, q_leT, q_leF, q_ltT, q_ltF, q_eqT, q_eqF, ↓reduceIte, not_true_eq_false, not_false_eq_true, true_and, and_true, and_self, false_and, and_false, Nat.zero_le, am_bd_some, q_app, q_app0, nI_add, pk_sub, pk_mul, q_dec, q_ix, q_m1, q_m1', ↓q_ret, q_bool, q_bool1, q_u2, q_u1, q_shl1, q_shr, q_and7, q_dg, fa_or, fa_and, decide_true, decide_false, Bool.or_false, Bool.or_true, Bool.true_or, Bool.false_or, cond_true, cond_false, ite_not, q_some, q_nn, q_xor, q_xorm, Bool.false_eq_true, decide_eq_true_eq, ne_eq, l_0, l_1, l_2, l_3, l_4, l_7, l_9, l_10, l_11, l_14, l_18, l_21, l_22, l_37, l_101, l_114, l_3222, y0, y1, y2, y3, hA1]
      exact MR_some (MS_fx hf2 rfl rfl hS)
    by_cases y4 : y = nI 4
    · simp (disch := first | assumption | omega) only [b_M_person_0, b_M_person_11, b_M_person_21, b_M_person_101, b_M_person_114, s_M_isPerson, s_M_standNow, ↓Bool.cond_decide, ↓q_in, q_le, q_lt, q_eq, q_leT, q_leF, q_ltT, q_ltF, q_eqT, q_eqF, ↓reduceIte, not_true_eq_false, not_false_eq_true, true_and, and_true, and_self, false_and, and_false, Nat.zero_le, am_bd_some, q_app, q_app0, nI_add, pk_sub, pk_mul, q_dec, q_ix, q_m1, q_m1', ↓q_ret, q_bool, q_bool1, q_u2, q_u1, q_shl1, q_shr, q_and7, q_dg, fa_or, fa_and, decide_true, decide_false, Bool.or_false, Bool.or_true, Bool.true_or, Bool.false_or, cond_true, cond_false, ite_not, q_some, q_nn, q_xor, q_xorm, Bool.false_eq_true, decide_eq_true_eq, ne_eq, l_0, l_1, l_2, l_3, l_4, l_7, l_9, l_10, l_11, l_14, l_18, l_21, l_22, l_37, l_101, l_114, l_3222, y0, y1, y2, y3, y4, hA1]
      refine MR_bd (r_M_goings d hn hp (by omega) hM1 h1 h2 hT1) ?_
      intro i3 l3 ⟨hl3, hf3, _⟩
      subst hl3
      simp (disch := first | assumption | omega) only [b_M_person_0, b_M_person_11, b_M_person_21, b_M_person_101, b_M_person_114, s_M_isPerson, s_M_standNow, ↓Bool.cond_decide, ↓q_in, q_le, q_lt, q_eq, q_leT, q_leF, q_ltT, q_ltF, q_eqT, q_eqF, ↓reduceIte, not_true_eq_false, not_false_eq_true, true_and, and_true, and_self, false_and, and_false, Nat.zero_le, am_bd_some, q_app, q_app0, nI_add, pk_sub, pk_mul, q_dec, q_ix, q_m1, q_m1', ↓q_ret, q_bool, q_bool1, q_u2, q_u1, q_shl1, q_shr, q_and7, q_dg, fa_or, fa_and, decide_true, decide_false, Bool.or_false, Bool.or_true, Bool.true_or, Bool.false_or, cond_true, cond_false, ite_not, q_some, q_nn, q_xor, q_xorm, Bool.false_eq_true, decide_eq_true_eq, ne_eq, l_0, l_1, l_2, l_3, l_4, l_7, l_9, l_10, l_11, l_14, l_18, l_21, l_22, l_37, l_101, l_114, l_3222]
      exact MR_some (MS_fx (R := [100, 5, 6, 7, 8]) (by (repeat (first | exact Fx_refl _ _ | assumption | refine Fx_u2 rfl ?_ | refine Fx_u1 rfl (by decide) ?_ | refine Fx_step (by assumption) rfl ?_ | refine Fx_stepr (by assumption) rfl rfl ?_))) rfl rfl hS)
    · simp (disch := first | assumption | omega) only [b_M_person_0, b_M_person_11, b_M_person_21, b_M_person_101, b_M_person_114, s_M_isPerson, s_M_standNow, ↓Bool.cond_decide, ↓q_in, q_le, q_lt, q_eq, q_leT, q_leF, q_ltT, q_ltF, q_eqT, q_eqF, ↓reduceIte, not_true_eq_false, not_false_eq_true, true_and, and_true, and_self, false_and, and_false, Nat.zero_le, am_bd_some, q_app, q_app0, nI_add, pk_sub, pk_mul, q_dec, q_ix, q_m1, q_m1', ↓q_ret, q_bool, q_bool1, q_u2, q_u1, q_shl1, q_shr, q_and7, q_dg, fa_or, fa_and, decide_true, decide_false, Bool.or_false, Bool.or_true, Bool.true_or, Bool.false_or, cond_true, cond_false, ite_not, q_some, q_nn, q_xor, q_xorm, Bool.false_eq_true, decide_eq_true_eq, ne_eq, l_0, l_1, l_2, l_3, l_4, l_7, l_9, l_10, l_11, l_14, l_18, l_21, l_22, l_37, l_101, l_114, l_3222, y0, y1, y2, y3, y4]
      exact MR_some (MS_fx hf2 rfl rfl hS)
  · simp (disch := first | assumption | omega) only [b_M_person_0, b_M_person_11, b_M_person_21, b_M_person_101, b_M_person_114, s_M_isPerson, s_M_standNow, ↓Bool.cond_decide, ↓q_in, q_le, q_lt, q_eq, q_leT, q_leF, q_ltT, q_ltF, q_eqT, q_eqF, ↓reduceIte, not_true_eq_false, not_false_eq_true, true_and, and_true, and_self, false_and, and_false, Nat.zero_le, am_bd_some, q_app, q_app0, nI_add, pk_sub, pk_mul, q_dec, q_ix, q_m1, q_m1', ↓q_ret, q_bool, q_bool1, q_u1, q_shl1, q_shr, q_and7, q_dg, fa_or, fa_and, decide_true, decide_false, Bool.or_false, Bool.or_true, Bool.true_or, Bool.false_or, cond_true, cond_false, ite_not, q_some, q_nn, q_xor, q_xorm, Bool.false_eq_true, decide_eq_true_eq, ne_eq, l_0, l_1, l_2, l_3, l_4, l_7, l_9, l_10, l_11, l_14, l_18, l_21, l_22, l_37, l_101, l_114, l_3222, hx]
    exact MR_some (MS_fx hf0 rfl rfl hS)
end
