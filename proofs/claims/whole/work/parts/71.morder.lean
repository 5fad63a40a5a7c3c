/-! ORDERS; THE MODEL -/
def oA (g : Nat → Nat) (s lf p : Nat) : Bool := lf.testBit p && (sGo g s p (g (10 + p))).testBit (g (18 + p))
def oS (g : Nat → Nat) (s p : Nat) : Nat := wp s p (g (18 + p))
def oR (lf p : Nat) : Nat := lf &&& (2 ^ p ^^^ 4294967295)
/-- in how many orders those left can go -/
def oN (g : Nat → Nat) : Nat → Nat → Nat → Nat
  | 0, _, lf => if lf = 0 then 1 else 0
  | f + 1, s, lf => if lf = 0 then 1 else sSum (fun p => if oA g s lf p = true then oN g f (oS g s p) (oR lf p) else 0) (g 2)
/-- who can be next in an order that goes on to its end -/
def oB (g : Nat → Nat) (f s lf p : Nat) : Bool := oA g s lf p && decide (0 < oN g f (oS g s p) (oR lf p))
/-- the first order -/
def oL (g : Nat → Nat) : Nat → Nat → Nat → List Nat
  | 0, _, _ => []
  | f + 1, s, lf => if lf = 0 then [] else match ff (oB g f s lf) (g 2) 0 with
    | some p => p :: oL g f (oS g s p) (oR lf p)
    | none => []
theorem oR_ok : ∀ lf, lf < 16 → ∀ p, p < 4 → bc (oR lf p) 4 + (if lf.testBit p then 1 else 0) = bc lf 4 ∧ oR lf p < 16 := by decide +kernel
theorem bc_0 : ∀ lf, lf < 16 → bc lf 4 = 0 → lf = 0 := by decide +kernel
theorem sSum_pos {f : Nat → Nat} : ∀ {n : Nat}, 0 < sSum f n → ∃ k, k < n ∧ 0 < f k
  | 0, h => absurd h (Nat.lt_irrefl _)
  | n + 1, h => by
    rw [sSum] at h
    by_cases e : 0 < f n
    · exact ⟨n, by omega, e⟩
    · obtain ⟨k, h1, h2⟩ := sSum_pos (f := f) (n := n) (by omega)
      exact ⟨k, by omega, h2⟩
theorem oN_ff {g : Nat → Nat} {f s lf : Nat} (h0 : lf ≠ 0) (h : 0 < oN g (f + 1) s lf) : ∃ p, ff (oB g f s lf) (g 2) 0 = some p := by
  rw [oN, if_neg h0] at h
  obtain ⟨k, hk, hp⟩ := sSum_pos h
  cases hc : ff (oB g f s lf) (g 2) 0 with
  | some p => exact ⟨p, rfl⟩
  | none =>
    have := ff_none hc k (by omega) (by omega)
    unfold oB at this
    by_cases ha : oA g s lf k = true
    · rw [if_pos ha] at hp
      rw [ha, decide_eq_true hp] at this
      cases this
    · rw [if_neg ha] at hp
      exact absurd hp (Nat.lt_irrefl _)
theorem oL_len {g : Nat → Nat} (h2 : g 2 ≤ 4) : ∀ f s lf, lf < 16 → 0 < oN g f s lf → (oL g f s lf).length = bc lf 4
  | 0, s, lf, hl, h => by
    rw [oN] at h
    by_cases e : lf = 0
    · subst e; rfl
    · rw [if_neg e] at h; exact absurd h (Nat.lt_irrefl _)
  | f + 1, s, lf, hl, h => by
    by_cases e : lf = 0
    · subst e; rw [oL, if_pos rfl]; rfl
    · obtain ⟨p, hp⟩ := oN_ff e h
      rw [oL, if_neg e, hp]
      obtain ⟨a1, a2, a3, a4⟩ := ff_some hp
      unfold oB at a3
      rw [Bool.and_eq_true] at a3
      have hpos := of_decide_eq_true a3.2
      have hbit : lf.testBit p = true := by
        have := a3.1
        unfold oA at this
        rw [Bool.and_eq_true] at this
        exact this.1
      obtain ⟨b1, b2⟩ := oR_ok lf hl p (by omega)
      rw [if_pos hbit] at b1
      show (oL g f _ _).length + 1 = _
      rw [oL_len h2 f _ _ b2 hpos]
      exact b1
theorem oL_lt {g : Nat → Nat} : ∀ f s lf, ∀ x, x ∈ oL g f s lf → x < g 2
  | 0, s, lf, x, h => by cases h
  | f + 1, s, lf, x, h => by
    rw [oL] at h
    by_cases e : lf = 0
    · rw [if_pos e] at h; cases h
    · rw [if_neg e] at h
      cases hc : ff (oB g f s lf) (g 2) 0 with
      | none => rw [hc] at h; cases h
      | some p =>
        rw [hc] at h
        obtain ⟨a1, a2, a3, a4⟩ := ff_some hc
        cases h with
        | head => omega
        | tail _ h => exact oL_lt f _ _ x h
theorem oN_le {g : Nat → Nat} (h2 : g 2 ≤ 4) : ∀ f s lf, oN g f s lf ≤ 4 ^ f
  | 0, s, lf => by rw [oN]; split <;> decide
  | f + 1, s, lf => by
    rw [oN]
    have hp : 0 < 4 ^ f := Nat.pow_pos (by decide)
    split
    · rw [Nat.pow_succ]; omega
    · have := sSum_le (f := fun p => if oA g s lf p = true then oN g f (oS g s p) (oR lf p) else 0) (b := 4 ^ f) (g 2) (fun k hk => by
        split
        · exact oN_le h2 f _ _
        · omega)
      refine Nat.le_trans this ?_
      rw [Nat.pow_succ, Nat.mul_comm]
      exact Nat.mul_le_mul_left _ h2
/-- what is noted of first ones: at the beginning who, later whether -/
def oF (g : Nat → Nat) (f s lf n o0 : Nat) : Nat := if 0 < n then (if 0 < oN g f s lf then 2 ^ o0 else 0) else match f with
  | 0 => 0
  | f + 1 => if lf = 0 then 0 else bs (oB g f s lf) (g 2)
theorem MR_q {v : Option Value} {P : (Nat → Nat → Int32) → (Nat → Nat → Int64) → Prop} {o : Option aR} (h : ∀ Q : (Nat → Nat → Int32) → (Nat → Nat → Int64) → Prop, (∀ i' l', P i' l' → Q i' l') → MR v Q o) : MR v P o := h P (fun _ _ z => z)
def OI (i : Nat → Nat → Int32) (om ofi ol : Nat) : Prop := i 0 33 = nI om ∧ i 0 34 = nI ofi ∧ i 0 35 = nI ol
section
variable {l : Nat → Nat → Int64} {g : Nat → Nat}
theorem r_M_goesOrder (hW : WG g) : ∀ (f d : Nat) {i : Nat → Nat → Int32} {s lf n om ofi ol : Nat} {o : Nat → Nat}, s < 4096 → lf < 16 → bc lf 4 ≤ f → n + bc lf 4 ≤ 4 → om + 4 ^ f ≤ 10000 → ofi < 16 → MA i g → TR g i → OI i om ofi ol → (∀ k, k < n → i 16 k = nI (o k) ∧ o k < 4) → MR none (fun i' l' => l' = l ∧ Fx [7, 16, 17, 133, 134, 135] i i' ∧ (∀ k, k < n → i' 16 k = nI (o k)) ∧ OI i' (om + oN g f s lf) (ofi ||| oF g f s lf n (o 0)) (if 0 < oN g f s lf then n + bc lf 4 else ol) ∧ (om = 0 → 0 < oN g f s lf → ∀ k, k < n + bc lf 4 → i' 17 k = nI (if k < n then o k else (oL g f s lf).getD (k - n) 0)) ∧ (om ≠ 0 ∨ oN g f s lf = 0 → i' 17 = i 17)) (am_cl (d + f + 7) mM_goesOrder [.ref 0, .int (nI s), .int (nI lf), .int (nI n)] (i, l, rM, kM)) := by
  have hW' := hW
  obtain ⟨⟨h1', h1⟩, h2, h3, hR, hF', hP, hSt, hD', hL0, hL1, hV⟩ := hW
  -- those left: none
  have fin : ∀ (f d : Nat) {i : Nat → Nat → Int32} {s n om ofi ol : Nat} {o : Nat → Nat}, n ≤ 4 → om < 10000 → ofi < 16 → OI i om ofi ol → (∀ k, k < n → i 16 k = nI (o k) ∧ o k < 4) → MR none (fun i' l' => l' = l ∧ Fx [7, 16, 17, 133, 134, 135] i i' ∧ (∀ k, k < n → i' 16 k = nI (o k)) ∧ OI i' (om + 1) (ofi ||| (if 0 < n then 2 ^ o 0 else 0)) n ∧ (om = 0 → ∀ k, k < n → i' 17 k = nI (o k)) ∧ (om ≠ 0 → i' 17 = i 17)) (am_cl (d + 1) mM_goesOrder [.ref 0, .int (nI s), .int (nI 0), .int (nI n)] (i, l, rM, kM)) := by
    intro f d i s n om ofi ol o hn hom hofi hO ho
    obtain ⟨h33, h34, h35⟩ := hO
    refine MR_q ?_
    intro Q hQ
    have tail : ∀ i2 z1 z2 z4, Fx [17] i i2 → (om = 0 → ∀ k, k < n → i2 17 k = nI (o k)) → (om ≠ 0 → i2 17 = i 17) → MR none Q (am_Ex d mM_goesOrder 40 [.val (.ref 0), z1, z2, .val (.int (nI n)), z4] [] (i2, l, rM, kM)) := by
      intro i2 z1 z2 z4 hf2 hA1 hA2
      have h33' : i2 0 33 = nI om := by rw [hf2 0 33 rfl]; exact h33
      have h34' : i2 0 34 = nI ofi := by rw [hf2 0 34 rfl]; exact h34
      have h16 : i2 16 = i 16 := Fx_row hf2 (by decide) rfl
      rw [b_M_goesOrder_40]
      by_cases hn0 : 0 < n
      · obtain ⟨q1, q2⟩ := ho 0 hn0
        have h160 : i2 16 0 = nI (o 0) := by rw [h16]; exact q1
        simp (disch := first | assumption | omega) only [b_M_goesOrder_0, b_M_goesOrder_40, b_M_goesOrder_71, b_M_goesOrder_102, b_M_goesOrder_122, b_M_goesOrder_136, b_M_goesOrder_167, b_M_goesOrder_181, s_M_isIn, s_M_withPlace, ↓Bool.cond_decide, ↓q_in, q_le, q_lt, q_eq, q_leT, q_leF, q_ltT, q_ltF, q_eqT, q_eqF, ↓reduceIte, not_true_eq_false, not_false_eq_true, true_and, and_true, and_self, false_and, and_false, Nat.zero_le, am_bd_some, q_app, q_app0, nI_add, pk_sub, pk_mul, q_dec, q_ix, q_m1, q_m1', ↓q_ret, q_bool, q_bool1, q_u1, q_shl1, q_shr, q_and7, q_dg, fa_or, fa_and, decide_true, decide_false, Bool.or_false, Bool.or_true, Bool.true_or, Bool.false_or, cond_true, cond_false, ite_not, q_some, q_nn, q_xor, q_xorm, Bool.false_eq_true, decide_eq_true_eq, ne_eq, l_0, l_1, l_2, l_4, l_5, l_8, l_10, l_13, l_14, l_16, l_17, l_18, l_20, l_23, l_31, l_33, l_34, l_35, l_40, l_71, l_84, l_102, l_122, l_136, l_167, l_181, l_3222, h33', h34', h160]
        refine MR_some (hQ _ _ ⟨rfl, by (repeat (first | exact Fx_refl _ _ | assumption | refine Fx_u2 rfl ?_ | refine Fx_u1 rfl (by decide) ?_ | refine Fx_step (by assumption) rfl ?_ | refine Fx_stepr (by assumption) rfl rfl ?_)), fun k hk => ?_, ⟨rfl, ?_, rfl⟩, hA1, hA2⟩)
        · show i2 16 k = _
          rw [h16]; exact (ho k hk).1
        · rw [if_pos hn0]; rfl
      · simp (disch := first | assumption | omega) only [b_M_goesOrder_0, b_M_goesOrder_40, b_M_goesOrder_71, b_M_goesOrder_102, b_M_goesOrder_122, b_M_goesOrder_136, b_M_goesOrder_167, b_M_goesOrder_181, s_M_isIn, s_M_withPlace, ↓Bool.cond_decide, ↓q_in, q_le, q_lt, q_eq, q_leT, q_leF, q_ltT, q_ltF, q_eqT, q_eqF, ↓reduceIte, not_true_eq_false, not_false_eq_true, true_and, and_true, and_self, false_and, and_false, Nat.zero_le, am_bd_some, q_app, q_app0, nI_add, pk_sub, pk_mul, q_dec, q_ix, q_m1, q_m1', ↓q_ret, q_bool, q_bool1, q_u1, q_shl1, q_shr, q_and7, q_dg, fa_or, fa_and, decide_true, decide_false, Bool.or_false, Bool.or_true, Bool.true_or, Bool.false_or, cond_true, cond_false, ite_not, q_some, q_nn, q_xor, q_xorm, Bool.false_eq_true, decide_eq_true_eq, ne_eq, l_0, l_1, l_2, l_4, l_5, l_8, l_10, l_13, l_14, l_16, l_17, l_18, l_20, l_23, l_31, l_33, l_34, l_35, l_40, l_71, l_84, l_102, l_122, l_136, l_167, l_181, l_3222, h33', h34']
        refine MR_some (hQ _ _ ⟨rfl, by (repeat (first | exact Fx_refl _ _ | assumption | refine Fx_u2 rfl ?_ | refine Fx_u1 rfl (by decide) ?_ | refine Fx_step (by assumption) rfl ?_ | refine Fx_stepr (by assumption) rfl rfl ?_)), fun k hk => ?_, ⟨rfl, ?_, rfl⟩, hA1, hA2⟩)
        · show i2 16 k = _
          rw [h16]; exact (ho k hk).1
        · rw [if_neg hn0]; rfl
    rw [c_M_goesOrder, b_M_goesOrder_0]
    by_cases hm : om = 0
    · simp (disch := first | assumption | omega) only [b_M_goesOrder_0, b_M_goesOrder_71, b_M_goesOrder_102, b_M_goesOrder_122, b_M_goesOrder_136, b_M_goesOrder_167, b_M_goesOrder_181, s_M_isIn, s_M_withPlace, ↓Bool.cond_decide, ↓q_in, q_le, q_lt, q_eq, q_leT, q_leF, q_ltT, q_ltF, q_eqT, q_eqF, ↓reduceIte, not_true_eq_false, not_false_eq_true, true_and, and_true, and_self, false_and, and_false, Nat.zero_le, am_bd_some, q_app, q_app0, nI_add, pk_sub, pk_mul, q_dec, q_ix, q_m1, q_m1', ↓q_ret, q_bool, q_bool1, q_u2, q_u1, q_shl1, q_shr, q_and7, q_dg, fa_or, fa_and, decide_true, decide_false, Bool.or_false, Bool.or_true, Bool.true_or, Bool.false_or, cond_true, cond_false, ite_not, q_some, q_nn, q_xor, q_xorm, Bool.false_eq_true, decide_eq_true_eq, ne_eq, l_0, l_1, l_2, l_4, l_5, l_8, l_10, l_13, l_14, l_16, l_17, l_18, l_20, l_23, l_31, l_33, l_34, l_35, l_40, l_71, l_84, l_102, l_122, l_136, l_167, l_181, l_3222, h33, hm]
      refine am_loop (fun k ls st => ∃ i' z1 z2, ls = [.val (.ref 0), z1, z2, .val (.int (nI n)), .val (.int (nI k))] ∧ st = (i', l, rM, kM) ∧ Fx [17] i i' ∧ ∀ j, j < k → i' 17 j = i 16 j) 4 _ (fun k ls st hk hI => ?_) (fun ls st hI => ?_) ⟨i, _, _, rfl, rfl, Fx_refl _ _, fun j hj => by omega⟩
      · obtain ⟨i2, z1, z2, e1, e2, hf2, h17⟩ := hI
        subst e1; subst e2
        have h16 : i2 16 k = i 16 k := by rw [Fx_row hf2 (by decide) rfl]
        rw [b_M_goesOrder_14]
        simp (disch := first | assumption | omega) only [b_M_goesOrder_0, b_M_goesOrder_71, b_M_goesOrder_102, b_M_goesOrder_122, b_M_goesOrder_136, b_M_goesOrder_167, b_M_goesOrder_181, s_M_isIn, s_M_withPlace, ↓Bool.cond_decide, ↓q_in, q_le, q_lt, q_eq, q_leT, q_leF, q_ltT, q_ltF, q_eqT, q_eqF, ↓reduceIte, not_true_eq_false, not_false_eq_true, true_and, and_true, and_self, false_and, and_false, Nat.zero_le, am_bd_some, q_app, q_app0, nI_add, pk_sub, pk_mul, q_dec, q_ix, q_m1, q_m1', ↓q_ret, q_bool, q_bool1, q_u2, q_u1, q_shl1, q_shr, q_and7, q_dg, fa_or, fa_and, decide_true, decide_false, Bool.or_false, Bool.or_true, Bool.true_or, Bool.false_or, cond_true, cond_false, ite_not, q_some, q_nn, q_xor, q_xorm, Bool.false_eq_true, decide_eq_true_eq, ne_eq, l_0, l_1, l_2, l_4, l_5, l_8, l_10, l_13, l_14, l_16, l_17, l_18, l_20, l_23, l_31, l_33, l_34, l_35, l_40, l_71, l_84, l_102, l_122, l_136, l_167, l_181, l_3222, h16]
        refine Go_in ⟨_, _, _, rfl, rfl, by (repeat (first | exact Fx_refl _ _ | assumption | refine Fx_u2 rfl ?_ | refine Fx_u1 rfl (by decide) ?_ | refine Fx_step (by assumption) rfl ?_ | refine Fx_stepr (by assumption) rfl rfl ?_)), fun j hj => ?_⟩
        by_cases e : j = k
        · subst e; simp only [q_u2, if_true]
        · simp only [q_u2, e, if_true, if_false]; exact h17 j (by omega)
      · obtain ⟨i2, z1, z2, e1, e2, hf2, h17⟩ := hI
        subst e1; subst e2
        rw [b_M_goesOrder_14]
        simp (disch := first | assumption | omega) only [b_M_goesOrder_0, b_M_goesOrder_71, b_M_goesOrder_102, b_M_goesOrder_122, b_M_goesOrder_136, b_M_goesOrder_167, b_M_goesOrder_181, s_M_isIn, s_M_withPlace, ↓Bool.cond_decide, ↓q_in, q_le, q_lt, q_eq, q_leT, q_leF, q_ltT, q_ltF, q_eqT, q_eqF, ↓reduceIte, not_true_eq_false, not_false_eq_true, true_and, and_true, and_self, false_and, and_false, Nat.zero_le, am_bd_some, q_app, q_app0, nI_add, pk_sub, pk_mul, q_dec, q_ix, q_m1, q_m1', ↓q_ret, q_bool, q_bool1, q_u2, q_u1, q_shl1, q_shr, q_and7, q_dg, fa_or, fa_and, decide_true, decide_false, Bool.or_false, Bool.or_true, Bool.true_or, Bool.false_or, cond_true, cond_false, ite_not, q_some, q_nn, q_xor, q_xorm, Bool.false_eq_true, decide_eq_true_eq, ne_eq, l_0, l_1, l_2, l_4, l_5, l_8, l_10, l_13, l_14, l_16, l_17, l_18, l_20, l_23, l_31, l_33, l_34, l_35, l_40, l_71, l_84, l_102, l_122, l_136, l_167, l_181, l_3222]
        exact tail i2 _ _ _ hf2 (fun _ k hk => by rw [h17 k (by omega)]; exact (ho k hk).1) (fun z => absurd hm z)
    · simp (disch := first | assumption | omega) only [b_M_goesOrder_0, b_M_goesOrder_71, b_M_goesOrder_102, b_M_goesOrder_122, b_M_goesOrder_136, b_M_goesOrder_167, b_M_goesOrder_181, s_M_isIn, s_M_withPlace, ↓Bool.cond_decide, ↓q_in, q_le, q_lt, q_eq, q_leT, q_leF, q_ltT, q_ltF, q_eqT, q_eqF, ↓reduceIte, not_true_eq_false, not_false_eq_true, true_and, and_true, and_self, false_and, and_false, Nat.zero_le, am_bd_some, q_app, q_app0, nI_add, pk_sub, pk_mul, q_dec, q_ix, q_m1, q_m1', ↓q_ret, q_bool, q_bool1, q_u2, q_u1, q_shl1, q_shr, q_and7, q_dg, fa_or, fa_and, decide_true, decide_false, Bool.or_false, Bool.or_true, Bool.true_or, Bool.false_or, cond_true, cond_false, ite_not, q_some, q_nn, q_xor, q_xorm, Bool.false_eq_true, decide_eq_true_eq, ne_eq, l_0, l_1, l_2, l_4, l_5, l_8, l_10, l_13, l_14, l_16, l_17, l_18, l_20, l_23, l_31, l_33, l_34, l_35, l_40, l_71, l_84, l_102, l_122, l_136, l_167, l_181, l_3222, h33]
      exact tail i _ _ _ (Fx_refl _ _) (fun z => absurd z hm) (fun _ => rfl)
  intro f
  induction f with
  | zero =>
    intro d i s lf n om ofi ol o hs hl hb hnb hom hofi hA hT hO ho
    have e0 : lf = 0 := bc_0 lf hl (by omega)
    subst e0
    have hbc : bc 0 4 = 0 := by decide
    refine MR_mono (fin 0 (d + 6) (s := s) (by omega) (by have : 4 ^ 0 = 1 := rfl; omega) hofi hO ho) ?_
    intro i' l' ⟨q1, q2, q3, q4, q5, q6⟩
    have eN : oN g 0 s 0 = 1 := rfl
    refine ⟨q1, q2, q3, ?_, fun z _ k hk => ?_, fun z => q6 (z.elim id (fun y => by rw [eN] at y; cases y))⟩
    · rw [eN, hbc, if_pos (by decide), Nat.add_zero]
      have : oF g 0 s 0 n (o 0) = if 0 < n then 2 ^ o 0 else 0 := by
        unfold oF
        rw [eN, if_pos (show 0 < 1 by decide)]
      rw [this]; exact q4
    · rw [hbc, Nat.add_zero] at hk
      rw [if_pos hk]; exact q5 z k hk
  | succ f ih =>
    intro d i s lf n om ofi ol o hs hl hb hnb hom hofi hA hT hO ho
    by_cases e0 : lf = 0
    · subst e0
      have hbc : bc 0 4 = 0 := by decide
      refine MR_mono (fin (f + 1) (d + (f + 1) + 6) (s := s) (by omega) (by have : 0 < 4 ^ (f + 1) := Nat.pow_pos (by decide); omega) hofi hO ho) ?_
      intro i' l' ⟨q1, q2, q3, q4, q5, q6⟩
      have eN : oN g (f + 1) s 0 = 1 := by rw [oN, if_pos rfl]
      refine ⟨q1, q2, q3, ?_, fun z _ k hk => ?_, fun z => q6 (z.elim id (fun y => by rw [eN] at y; cases y))⟩
      · rw [eN, hbc, if_pos (by decide), Nat.add_zero]
        have : oF g (f + 1) s 0 n (o 0) = if 0 < n then 2 ^ o 0 else 0 := by
          unfold oF
          rw [eN, if_pos (show 0 < 1 by decide)]
          by_cases hn : 0 < n
          · rw [if_pos hn, if_pos hn]
          · rw [if_neg hn, if_neg hn]; dsimp only; rw [if_pos rfl]
        rw [this]; exact q4
      · rw [hbc, Nat.add_zero] at hk
        rw [if_pos hk]; exact q5 z k hk
    · have step : oN g (f + 1) s lf = sSum (fun p => if oA g s lf p = true then oN g f (oS g s p) (oR lf p) else 0) (g 2) := by rw [oN, if_neg e0]
      have hlist : oL g (f + 1) s lf = match ff (oB g f s lf) (g 2) 0 with | some p => p :: oL g f (oS g s p) (oR lf p) | none => [] := by rw [oL, if_neg e0]
      have hbp : 0 < bc lf 4 := Nat.pos_of_ne_zero (fun z => e0 (bc_0 lf hl z))
      have hNle := oN_le h2 (f + 1) s lf
      refine MR_q ?_
      intro Q hQ
      rw [show d + (f + 1) + 7 = d + f + 7 + 1 by omega, c_M_goesOrder, b_M_goesOrder_0]
      simp (disch := first | assumption | omega) only [b_M_goesOrder_0, b_M_goesOrder_40, b_M_goesOrder_71, b_M_goesOrder_102, b_M_goesOrder_122, b_M_goesOrder_136, b_M_goesOrder_167, b_M_goesOrder_181, s_M_isIn, s_M_withPlace, ↓Bool.cond_decide, ↓q_in, q_le, q_lt, q_eq, q_leT, q_leF, q_ltT, q_ltF, q_eqT, q_eqF, ↓reduceIte, not_true_eq_false, not_false_eq_true, true_and, and_true, and_self, false_and, and_false, Nat.zero_le, am_bd_some, q_app, q_app0, nI_add, pk_sub, pk_mul, q_dec, q_ix, q_m1, q_m1', ↓q_ret, q_bool, q_bool1, q_u2, q_u1, q_shl1, q_shr, q_and7, q_dg, fa_or, fa_and, decide_true, decide_false, Bool.or_false, Bool.or_true, Bool.true_or, Bool.false_or, cond_true, cond_false, ite_not, q_some, q_nn, q_xor, q_xorm, Bool.false_eq_true, decide_eq_true_eq, ne_eq, l_0, l_1, l_2, l_4, l_5, l_8, l_10, l_13, l_14, l_16, l_17, l_18, l_20, l_23, l_31, l_33, l_34, l_35, l_40, l_71, l_84, l_102, l_122, l_136, l_167, l_181, l_3222]
      have hpw : 4 ^ (f + 1) = 4 * 4 ^ f := by rw [Nat.pow_succ, Nat.mul_comm]
      have hpp : 0 < 4 ^ f := Nat.pow_pos (by decide)
      let N : Nat → Nat := sSum (fun p => if oA g s lf p = true then oN g f (oS g s p) (oR lf p) else 0)
      have hNs : ∀ p, N (p + 1) = N p + if oA g s lf p = true then oN g f (oS g s p) (oR lf p) else 0 := fun p => rfl
      have hN0 : N 0 = 0 := rfl
      have hNe : N (g 2) = oN g (f + 1) s lf := step.symm
      have hNb : ∀ p, N p ≤ p * 4 ^ f := fun p => sSum_le p (fun k _ => by
        split
        · exact oN_le h2 f _ _
        · omega)
      have hNff : ∀ p, N p = 0 → ∀ k, k < p → oB g f s lf k = false := fun p hp k hk => by
        have h1 := sSum_ge (f := fun p => if oA g s lf p = true then oN g f (oS g s p) (oR lf p) else 0) hk
        have h2 : sSum (fun p => if oA g s lf p = true then oN g f (oS g s p) (oR lf p) else 0) p = 0 := hp
        unfold oB
        by_cases ha : oA g s lf k = true
        · rw [if_pos ha] at h1
          rw [ha, decide_eq_false (by omega)]; rfl
        · rw [Bool.not_eq_true] at ha
          rw [ha]; rfl
      let FF : Nat → Nat := fun p => if 0 < n then (if 0 < N p then 2 ^ o 0 else 0) else bs (oB g f s lf) p
      have hFl : ∀ p, p ≤ 4 → FF p < 16 := fun p hp => by
        show (if 0 < n then (if 0 < N p then 2 ^ o 0 else 0) else bs (oB g f s lf) p) < 16
        split
        · rename_i hn
          split
          · show 2 ^ o 0 < 2 ^ 4
            exact Nat.pow_lt_pow_right (by decide) (ho 0 hn).2
          · decide
        · exact Nat.lt_of_lt_of_le (bs_lt _ _) (Nat.pow_le_pow_right (by decide) hp)
      clear_value N
      have hO0 := hO
      refine am_loop (fun p ls st => ∃ i', ls = [.val (.ref 0), .val (.int (nI s)), .val (.int (nI lf)), .val (.int (nI n)), .val (.int (nI p))] ∧ st = (i', l, rM, kM) ∧ Fx [7, 16, 17, 133, 134, 135] i i' ∧ (∀ k, k < n → i' 16 k = nI (o k)) ∧ OI i' (om + N p) (ofi ||| FF p) (if 0 < N p then n + bc lf 4 else ol) ∧ (om = 0 → 0 < N p → ∀ k, k < n + bc lf 4 → i' 17 k = nI (if k < n then o k else (oL g (f + 1) s lf).getD (k - n) 0)) ∧ (om ≠ 0 ∨ N p = 0 → i' 17 = i 17)) (g 2) _ (fun p ls st hp hI => ?_) (fun ls st hI => ?_) ⟨i, rfl, rfl, Fx_refl _ _, fun k hk => (ho k hk).1, ?_, fun _ z => ?_, fun _ => rfl⟩
      · obtain ⟨i1, e1, e2, hf1, h16, hO1, hfi, hno⟩ := hI
        subst e1; subst e2
        have hA1 : ∀ k, k < 3222 → i1 1 k = nI (g k) := MA_fx hf1 hA rfl
        have hM1 : MA i1 g := hA1
        have hT1 : TR g i1 := TR_fx hf1 hT rfl
        have hp4 : p < 4 := by omega
        have hrp := hR p hp4
        have hpl := hP p hp4
        have skip : ∀ i2, Fx [7] i1 i2 → oA g s lf p = false → Go (d + f + 7) mM_goesOrder 84 (fun ls st => ∃ i', ls = [.val (.ref 0), .val (.int (nI s)), .val (.int (nI lf)), .val (.int (nI n)), .val (.int (nI (p + 1)))] ∧ st = (i', l, rM, kM) ∧ Fx [7, 16, 17, 133, 134, 135] i i' ∧ (∀ k, k < n → i' 16 k = nI (o k)) ∧ OI i' (om + N (p + 1)) (ofi ||| FF (p + 1)) (if 0 < N (p + 1) then n + bc lf 4 else ol) ∧ (om = 0 → 0 < N (p + 1) → ∀ k, k < n + bc lf 4 → i' 17 k = nI (if k < n then o k else (oL g (f + 1) s lf).getD (k - n) 0)) ∧ (om ≠ 0 ∨ N (p + 1) = 0 → i' 17 = i 17)) (am_Ex (d + f + 7) mM_goesOrder 84 [.val (.ref 0), .val (.int (nI s)), .val (.int (nI lf)), .val (.int (nI n)), .val (.int (nI (p + 1)))] [] (i2, l, rM, kM)) := by
          intro i2 hf2 ha
          have eN : N (p + 1) = N p := by rw [hNs, if_neg (by rw [ha]; decide), Nat.add_zero]
          have eF : FF (p + 1) = FF p := by
            show (if 0 < n then (if 0 < N (p + 1) then 2 ^ o 0 else 0) else bs (oB g f s lf) (p + 1)) = if 0 < n then (if 0 < N p then 2 ^ o 0 else 0) else bs (oB g f s lf) p
            rw [eN, bs]
            have : oB g f s lf p = false := by unfold oB; rw [ha]; rfl
            rw [this, if_neg (show ¬ false = true by decide), Nat.or_zero]
          rw [eN, eF]
          refine Go_in ⟨i2, rfl, rfl, by (repeat (first | exact Fx_refl _ _ | assumption | refine Fx_u2 rfl ?_ | refine Fx_u1 rfl (by decide) ?_ | refine Fx_step (by assumption) rfl ?_ | refine Fx_stepr (by assumption) rfl rfl ?_)), fun k hk => ?_, ⟨?_, ?_, ?_⟩, fun z1 z2 k hk => ?_, fun z => ?_⟩
          · rw [Fx_row hf2 (by decide) rfl]; exact h16 k hk
          · rw [hf2 0 33 rfl]; exact hO1.1
          · rw [hf2 0 34 rfl]; exact hO1.2.1
          · rw [hf2 0 35 rfl]; exact hO1.2.2
          · rw [Fx_row hf2 (by decide) rfl]; exact hfi z1 z2 k hk
          · rw [Fx_row hf2 (by decide) rfl]; exact hno z
        have hgl := sGo_lt (g := g) (a := s) (p := p) (r := g (10 + p)) h1
        rw [b_M_goesOrder_84]
        cases hbt : lf.testBit p with
        | false =>
          simp (disch := first | assumption | omega) only [b_M_goesOrder_0, b_M_goesOrder_40, b_M_goesOrder_71, b_M_goesOrder_102, b_M_goesOrder_122, b_M_goesOrder_136, b_M_goesOrder_167, b_M_goesOrder_181, s_M_isIn, s_M_withPlace, ↓Bool.cond_decide, ↓q_in, q_le, q_lt, q_eq, q_leT, q_leF, q_ltT, q_ltF, q_eqT, q_eqF, ↓reduceIte, not_true_eq_false, not_false_eq_true, true_and, and_true, and_self, false_and, and_false, Nat.zero_le, am_bd_some, q_app, q_app0, nI_add, pk_sub, pk_mul, q_dec, q_ix, q_m1, q_m1', ↓q_ret, q_bool, q_bool1, q_u2, q_u1, q_shl1, q_shr, q_and7, q_dg, fa_or, fa_and, decide_true, decide_false, Bool.or_false, Bool.or_true, Bool.true_or, Bool.false_or, cond_true, cond_false, ite_not, q_some, q_nn, q_xor, q_xorm, Bool.false_eq_true, decide_eq_true_eq, ne_eq, l_0, l_1, l_2, l_4, l_5, l_8, l_10, l_13, l_14, l_16, l_17, l_18, l_20, l_23, l_31, l_33, l_34, l_35, l_40, l_71, l_84, l_102, l_122, l_136, l_167, l_181, l_3222, hA1, hbt]
          exact skip i1 (Fx_refl _ _) (by unfold oA; rw [hbt]; rfl)
        | true =>
          obtain ⟨i2, l2, e2, hl2, hf2, _⟩ := r_M_goings (i := i1) (l := l) (d + f + 1) hs hp (r := g (10 + p)) (by omega) hM1 h1 h2 hT1
          subst hl2
          have hA2 : ∀ k, k < 3222 → i2 1 k = nI (g k) := MA_fx hf2 hM1 rfl
          cases hgo : (sGo g s p (g (10 + p))).testBit (g (18 + p)) with
          | false =>
            simp (disch := first | assumption | omega) only [b_M_goesOrder_0, b_M_goesOrder_40, b_M_goesOrder_71, b_M_goesOrder_102, b_M_goesOrder_122, b_M_goesOrder_136, b_M_goesOrder_167, b_M_goesOrder_181, s_M_isIn, s_M_withPlace, ↓Bool.cond_decide, ↓q_in, q_le, q_lt, q_eq, q_leT, q_leF, q_ltT, q_ltF, q_eqT, q_eqF, ↓reduceIte, not_true_eq_false, not_false_eq_true, true_and, and_true, and_self, false_and, and_false, Nat.zero_le, am_bd_some, q_app, q_app0, nI_add, pk_sub, pk_mul, q_dec, q_ix, q_m1, q_m1', ↓q_ret, q_bool, q_bool1, q_u2, q_u1, q_shl1, q_shr, q_and7, q_dg, fa_or, fa_and, decide_true, decide_false, Bool.or_false, Bool.or_true, Bool.true_or, Bool.false_or, cond_true, cond_false, ite_not, q_some, q_nn, q_xor, q_xorm, Bool.false_eq_true, decide_eq_true_eq, ne_eq, l_0, l_1, l_2, l_4, l_5, l_8, l_10, l_13, l_14, l_16, l_17, l_18, l_20, l_23, l_31, l_33, l_34, l_35, l_40, l_71, l_84, l_102, l_122, l_136, l_167, l_181, l_3222, hA1, hbt, e2, hA2, hgo]
            exact skip i2 hf2 (by unfold oA; rw [hbt, hgo]; rfl)
          | true =>
            have ha : oA g s lf p = true := by unfold oA; rw [hbt, hgo]; rfl
            obtain ⟨b1, b2⟩ := oR_ok lf hl p hp4
            rw [if_pos hbt] at b1
            have hn4 : n < 4 := by omega
            have hNb' := hNb p
            have hmul : p * 4 ^ f ≤ 3 * 4 ^ f := Nat.mul_le_mul_right _ (by omega)
            have hi3 : Fx [7, 16] i1 (am_u2 i2 16 n (nI p)) := by (repeat (first | exact Fx_refl _ _ | assumption | refine Fx_u2 rfl ?_ | refine Fx_u1 rfl (by decide) ?_ | refine Fx_step (by assumption) rfl ?_ | refine Fx_stepr (by assumption) rfl rfl ?_))
            have hsl := wp_lt (p := p) (x := g (18 + p)) hs hp4 hpl
            have hofl : ofi ||| FF p < 16 := Nat.or_lt_two_pow (n := 4) hofi (hFl p (by omega))
            have hrec := ih d (i := am_u2 i2 16 n (nI p)) (s := oS g s p) (lf := oR lf p) (n := n + 1) (om := om + N p) (ofi := ofi ||| FF p) (ol := if 0 < N p then n + bc lf 4 else ol) (o := ug o n p) hsl b2 (by omega) (by omega) (by omega) hofl (MA_fx hi3 hM1 rfl) (TR_fx hi3 hT1 rfl) ⟨by rw [hi3 0 33 rfl]; exact hO1.1, by rw [hi3 0 34 rfl]; exact hO1.2.1, by rw [hi3 0 35 rfl]; exact hO1.2.2⟩ (fun k hk => by
              show (if k = n then nI p else i2 16 k) = nI (if k = n then p else o k) ∧ (if k = n then p else o k) < 4
              by_cases ek : k = n
              · rw [if_pos ek, if_pos ek]; exact ⟨rfl, hp4⟩
              · rw [if_neg ek, if_neg ek, Fx_row hf2 (by decide) rfl]
                exact ⟨h16 k (by omega), (ho k (by omega)).2⟩)
            obtain ⟨i4, l4, e4, hl4, hf4, h164, hO4, hfi4, hno4⟩ := hrec
            subst hl4
            have eS : wp s p (g (18 + p)) = oS g s p := rfl
            have eR : lf &&& (2 ^ p ^^^ 4294967295) = oR lf p := rfl
            simp (disch := first | assumption | omega) only [b_M_goesOrder_0, b_M_goesOrder_40, b_M_goesOrder_71, b_M_goesOrder_102, b_M_goesOrder_122, b_M_goesOrder_136, b_M_goesOrder_167, b_M_goesOrder_181, s_M_isIn, s_M_withPlace, ↓Bool.cond_decide, ↓q_in, q_le, q_lt, q_eq, q_leT, q_leF, q_ltT, q_ltF, q_eqT, q_eqF, ↓reduceIte, not_true_eq_false, not_false_eq_true, true_and, and_true, and_self, false_and, and_false, Nat.zero_le, am_bd_some, q_app, q_app0, nI_add, pk_sub, pk_mul, q_dec, q_ix, q_m1, q_m1', ↓q_ret, q_bool, q_bool1, q_u1, q_shl1, q_shr, q_and7, q_dg, fa_or, fa_and, decide_true, decide_false, Bool.or_false, Bool.or_true, Bool.true_or, Bool.false_or, cond_true, cond_false, ite_not, q_some, q_nn, q_xor, q_xorm, Bool.false_eq_true, decide_eq_true_eq, ne_eq, l_0, l_1, l_2, l_4, l_5, l_8, l_10, l_13, l_14, l_16, l_17, l_18, l_20, l_23, l_31, l_33, l_34, l_35, l_40, l_71, l_84, l_102, l_122, l_136, l_167, l_181, l_3222, hA1, hbt, e2, hA2, hgo, eS, eR, e4]
            have eN : N (p + 1) = N p + oN g f (oS g s p) (oR lf p) := by rw [hNs, if_pos ha]
            have hoB : oB g f s lf p = decide (0 < oN g f (oS g s p) (oR lf p)) := by unfold oB; rw [ha]; rfl
            have eF : FF p ||| oF g f (oS g s p) (oR lf p) (n + 1) (ug o n p 0) = FF (p + 1) := by
              show (if 0 < n then (if 0 < N p then 2 ^ o 0 else 0) else bs (oB g f s lf) p) ||| _ = if 0 < n then (if 0 < N (p + 1) then 2 ^ o 0 else 0) else bs (oB g f s lf) (p + 1)
              unfold oF ug
              rw [if_pos (show 0 < n + 1 by omega), eN]
              by_cases hn : 0 < n
              · rw [if_pos hn, if_pos hn, if_neg (show ¬ 0 = n by omega)]
                by_cases c1 : 0 < N p
                · rw [if_pos c1, if_pos (show 0 < N p + oN g f (oS g s p) (oR lf p) by omega)]
                  split
                  · exact Nat.or_self _
                  · exact Nat.or_zero _
                · rw [if_neg c1, Nat.zero_or]
                  by_cases c2 : 0 < oN g f (oS g s p) (oR lf p)
                  · rw [if_pos c2, if_pos (by omega)]
                  · rw [if_neg c2, if_neg (by omega)]
              · rw [if_neg hn, if_neg hn, if_pos (show 0 = n by omega), bs, hoB]
                by_cases c2 : 0 < oN g f (oS g s p) (oR lf p)
                · rw [if_pos c2, decide_eq_true c2, if_pos rfl]
                · rw [if_neg c2, decide_eq_false c2, if_neg (by decide)]
            refine Go_in ⟨i4, rfl, rfl, by (repeat (first | exact Fx_refl _ _ | assumption | refine Fx_u2 rfl ?_ | refine Fx_u1 rfl (by decide) ?_ | refine Fx_step (by assumption) rfl ?_ | refine Fx_stepr (by assumption) rfl rfl ?_)), fun k hk => ?_, ⟨?_, ?_, ?_⟩, fun z1 z2 k hk => ?_, fun z => ?_⟩
            · rw [h164 k (by omega)]; unfold ug; rw [if_neg (by omega)]
            · rw [hO4.1, eN, Nat.add_assoc]
            · rw [hO4.2.1, Nat.or_assoc, eF]
            · rw [hO4.2.2, eN]
              by_cases c2 : 0 < oN g f (oS g s p) (oR lf p)
              · rw [if_pos c2, if_pos (by omega), show n + 1 + bc (oR lf p) 4 = n + bc lf 4 by omega]
              · rw [if_neg c2]
                by_cases c1 : 0 < N p
                · rw [if_pos c1, if_pos (by omega)]
                · rw [if_neg c1, if_neg (by omega)]
            · by_cases c1 : 0 < N p
              · rw [hno4 (Or.inl (by omega))]
                show i2 17 k = _
                rw [Fx_row hf2 (by decide) rfl]
                exact hfi z1 c1 k hk
              · have c2 : 0 < oN g f (oS g s p) (oR lf p) := by omega
                have hff : ff (oB g f s lf) (g 2) 0 = some p := by
                  have hnone := hNff p (by omega)
                  have hyes : oB g f s lf p = true := by rw [hoB]; exact decide_eq_true c2
                  cases hc : ff (oB g f s lf) (g 2) 0 with
                  | none =>
                    have := ff_none hc p (by omega) (by omega)
                    rw [hyes] at this; cases this
                  | some q =>
                    obtain ⟨a1, a2, a3, a4⟩ := ff_some hc
                    by_cases hqp : q < p
                    · rw [hnone q hqp] at a3; cases a3
                    · by_cases hpq : p < q
                      · rw [a4 p (by omega) hpq] at hyes; cases hyes
                      · rw [show q = p by omega]
                rw [hfi4 (by omega) c2 k (by omega), hlist, hff]
                dsimp only
                unfold ug
                by_cases ek : k < n
                · rw [if_pos (by omega), if_neg (by omega), if_pos ek]
                · by_cases ek2 : k = n
                  · rw [if_pos (by omega), if_pos ek2, if_neg ek, ek2, Nat.sub_self]; rfl
                  · rw [if_neg (by omega), if_neg ek, show k - n = k - (n + 1) + 1 by omega]; rfl
            · rw [hno4 (z.elim (fun z => Or.inl (by omega)) (fun z => Or.inr (by omega)))]
              show i2 17 = _
              rw [Fx_row hf2 (by decide) rfl]
              exact hno (z.elim (fun z => Or.inl z) (fun z => Or.inr (by omega)))
      · obtain ⟨i1, e1, e2, hf1, h16, hO1, hfi, hno⟩ := hI
        subst e1; subst e2
        have hA1 : ∀ k, k < 3222 → i1 1 k = nI (g k) := MA_fx hf1 hA rfl
        have eF : FF (g 2) = oF g (f + 1) s lf n (o 0) := by
          show (if 0 < n then (if 0 < N (g 2) then 2 ^ o 0 else 0) else bs (oB g f s lf) (g 2)) = _
          unfold oF
          rw [hNe]
          dsimp only
          rw [if_neg e0]
        rw [hNe, eF] at hO1
        rw [hNe] at hfi hno
        rw [b_M_goesOrder_84]
        simp (disch := first | assumption | omega) only [b_M_goesOrder_0, b_M_goesOrder_40, b_M_goesOrder_71, b_M_goesOrder_102, b_M_goesOrder_122, b_M_goesOrder_136, b_M_goesOrder_167, b_M_goesOrder_181, s_M_isIn, s_M_withPlace, ↓Bool.cond_decide, ↓q_in, q_le, q_lt, q_eq, q_leT, q_leF, q_ltT, q_ltF, q_eqT, q_eqF, ↓reduceIte, not_true_eq_false, not_false_eq_true, true_and, and_true, and_self, false_and, and_false, Nat.zero_le, am_bd_some, q_app, q_app0, nI_add, pk_sub, pk_mul, q_dec, q_ix, q_m1, q_m1', ↓q_ret, q_bool, q_bool1, q_u2, q_u1, q_shl1, q_shr, q_and7, q_dg, fa_or, fa_and, decide_true, decide_false, Bool.or_false, Bool.or_true, Bool.true_or, Bool.false_or, cond_true, cond_false, ite_not, q_some, q_nn, q_xor, q_xorm, Bool.false_eq_true, decide_eq_true_eq, ne_eq, l_0, l_1, l_2, l_4, l_5, l_8, l_10, l_13, l_14, l_16, l_17, l_18, l_20, l_23, l_31, l_33, l_34, l_35, l_40, l_71, l_84, l_102, l_122, l_136, l_167, l_181, l_3222, hA1]
        exact MR_some (hQ _ _ ⟨rfl, hf1, h16, hO1, hfi, hno⟩)
      · have eF : FF 0 = 0 := by
          show (if 0 < n then (if 0 < N 0 then 2 ^ o 0 else 0) else bs (oB g f s lf) 0) = 0
          rw [hN0, if_neg (Nat.lt_irrefl 0)]
          split <;> rfl
        rw [hN0, eF, Nat.add_zero, Nat.or_zero, if_neg (Nat.lt_irrefl 0)]
        exact hO0
      · rw [hN0] at z; exact absurd z (Nat.lt_irrefl _)
end
def oW (g : Nat → Nat) : Nat := sUp g (sNow g 4) ||| sOver g (sNow g 4)
def v_orders (g : Nat → Nat) : Int32 := nI (oN g 4 0 (oW g))
def v_firsts (g : Nat → Nat) : Int32 := nI (oF g 4 0 (oW g) 0 0)
def v_order (g : Nat → Nat) (x : Int32) : Int32 := if nI 0 ≤ x then (if 0 < oN g 4 0 (oW g) ∧ x.toNatClampNeg < bc (oW g) 4 then nI ((oL g 4 0 (oW g)).getD x.toNatClampNeg 0) else -nI 1) else -nI 3
theorem oW_lt {g : Nat → Nat} (h2 : g 2 ≤ 4) : oW g < 16 := Nat.or_lt_two_pow (n := 4) (sUp_lt h2) (sOver_lt h2)
section
variable {i : Nat → Nat → Int32} {l : Nat → Nat → Int64} {g : Nat → Nat}
theorem r_M_laysOrders (d : Nat) (hA : MA i g) (hW : WG g) : MR none (fun i' l' => l' = l ∧ Fx [5, 6, 7, 8, 16, 17, 133, 134, 135] i i' ∧ OI i' (oN g 4 0 (oW g)) (oF g 4 0 (oW g) 0 0) (if 0 < oN g 4 0 (oW g) then bc (oW g) 4 else 0) ∧ (0 < oN g 4 0 (oW g) → ∀ k, k < bc (oW g) 4 → i' 17 k = nI ((oL g 4 0 (oW g)).getD k 0))) (am_cl (d + 12) mM_laysOrders [.ref 0] (i, l, rM, kM)) := by
  have hW' := hW
  obtain ⟨⟨h1', h1⟩, h2, h3, hR, hF', hP, hSt, hD', hL0, hL1, hV⟩ := hW
  have hn := sNow_lt g hP 4 (by decide)
  have how := oW_lt h2
  refine MR_q ?_
  intro Q hQ
  rw [c_M_laysOrders, b_M_laysOrders_0]
  refine MR_bd (r_M_laysTrust (d + 7) hA h2 hL1) ?_
  intro i1 l1 ⟨hl1, hf1, hT1⟩
  subst hl1
  have hM1 : MA i1 g := MA_fr hf1 hA rfl
  have hM2 : MA (am_u2 (am_u2 (am_u2 i1 0 33 (nI 0)) 0 34 (nI 0)) 0 35 (nI 0)) g := hM1
  have eW : sUp g (sNow g 4) ||| sOver g (sNow g 4) = oW g := rfl
  simp (disch := first | assumption | omega) only [b_M_laysOrders_0, b_M_laysOrders_4, b_M_laysOrders_26, b_M_laysOrders_29, b_M_laysOrders_34, b_M_laysOrders_37, b_M_laysOrders_42, s_M_over, s_M_standNow, s_M_standing, ↓Bool.cond_decide, ↓q_in, q_le, q_lt, q_eq, q_leT, q_leF, q_ltT, q_ltF, q_eqT, q_eqF, ↓reduceIte, not_true_eq_false, not_false_eq_true, true_and, and_true, and_self, false_and, and_false, Nat.zero_le, am_bd_some, q_app, q_app0, nI_add, pk_sub, pk_mul, q_dec, q_ix, q_m1, q_m1', ↓q_ret, q_bool, q_bool1, q_u1, q_shl1, q_shr, q_and7, q_dg, fa_or, fa_and, decide_true, decide_false, Bool.or_false, Bool.or_true, Bool.true_or, Bool.false_or, cond_true, cond_false, ite_not, q_some, q_nn, q_xor, q_xorm, Bool.false_eq_true, decide_eq_true_eq, ne_eq, l_0, l_1, l_3, l_4, l_5, l_16, l_26, l_29, l_33, l_34, l_35, l_37, l_42, eW]
  refine MR_bd (r_M_goesOrder hW' 4 d (l := l1) (i := am_u2 (am_u2 (am_u2 i1 0 33 (nI 0)) 0 34 (nI 0)) 0 35 (nI 0)) (s := 0) (lf := oW g) (n := 0) (om := 0) (ofi := 0) (ol := 0) (o := fun _ => 0) (by decide) how (bc_le _ 4) (by have := bc_le (oW g) 4; omega) (by decide) (by decide) hM2 (fun p q gap a b c e => hT1 p q gap a b c e) ⟨rfl, rfl, rfl⟩ (fun k hk => by omega)) ?_
  intro i2 l2 ⟨hl2, hf2, h16, hO2, hfi, hno⟩
  subst hl2
  simp (disch := first | assumption | omega) only [b_M_laysOrders_0, b_M_laysOrders_4, b_M_laysOrders_26, b_M_laysOrders_29, b_M_laysOrders_34, b_M_laysOrders_37, b_M_laysOrders_42, s_M_over, s_M_standNow, s_M_standing, ↓Bool.cond_decide, ↓q_in, q_le, q_lt, q_eq, q_leT, q_leF, q_ltT, q_ltF, q_eqT, q_eqF, ↓reduceIte, not_true_eq_false, not_false_eq_true, true_and, and_true, and_self, false_and, and_false, Nat.zero_le, am_bd_some, q_app, q_app0, nI_add, pk_sub, pk_mul, q_dec, q_ix, q_m1, q_m1', ↓q_ret, q_bool, q_bool1, q_u2, q_u1, q_shl1, q_shr, q_and7, q_dg, fa_or, fa_and, decide_true, decide_false, Bool.or_false, Bool.or_true, Bool.true_or, Bool.false_or, cond_true, cond_false, ite_not, q_some, q_nn, q_xor, q_xorm, Bool.false_eq_true, decide_eq_true_eq, ne_eq, l_0, l_1, l_3, l_4, l_5, l_16, l_26, l_29, l_33, l_34, l_35, l_37, l_42]
  refine MR_some (hQ _ _ ⟨rfl, by (repeat (first | exact Fx_refl _ _ | assumption | refine Fx_u2 rfl ?_ | refine Fx_u1 rfl (by decide) ?_ | refine Fx_step (by assumption) rfl ?_ | refine Fx_stepr (by assumption) rfl rfl ?_)), ?_, fun z k hk => ?_⟩)
  · rw [Nat.zero_add, Nat.zero_or, Nat.zero_add] at hO2; exact hO2
  · have := hfi rfl z k (by omega)
    rw [if_neg (Nat.not_lt_zero _), Nat.sub_zero] at this
    exact this
theorem r_M_orders (d : Nat) {σ : St} (hS : MS i l σ) (hW : WG σ.1) : MR (some (.int (v_orders σ.1))) (fun i' l' => MS i' l' (σ)) (am_cl (d + 13) mM_orders [.ref 0] (i, l, rM, kM)) := by
  have hW' := hW
  obtain ⟨g, σ⟩ := σ
  obtain ⟨⟨h1', h1⟩, h2, h3, hR, hF, hP, hSt, hD, hL0, hL1, hV⟩ := hW
  have h1 : g 1 ≤ 6 := h1
  have h2 : g 2 ≤ 4 := h2
  have hR : ∀ p, p < 4 → g (10 + p) ≤ 4 := hR
  have hP : ∀ p, p < 4 → g (18 + p) < 8 := hP
  have hSt : ∀ p, p < 4 → g (22 + p) ≤ 9 := hSt
  have hD : ∀ s, s < 6 → g (26 + s) ≤ 9 := hD
  have hA := hS.1
  have hn := sNow_lt g hP 4 (by decide)
  have hf0 : Fx [100] i (am_u2 i 0 0 (nI 0)) := by (repeat (first | exact Fx_refl _ _ | assumption | refine Fx_u2 rfl ?_ | refine Fx_u1 rfl (by decide) ?_ | refine Fx_step (by assumption) rfl ?_ | refine Fx_stepr (by assumption) rfl rfl ?_))
  have hM0 : MA (am_u2 i 0 0 (nI 0)) g := MA_fx hf0 hA rfl
  have hM0' : ∀ k, k < 3222 → am_u2 i 0 0 (nI 0) 1 k = nI (g k) := hM0
  rw [c_M_orders, b_M_orders_0, v_orders]
  rw [l_0]
  refine MR_bd (r_M_laysOrders d hM0 hW') ?_
  intro i2 l2 ⟨hl2, hf2, hO2, _⟩
  subst hl2
  have h33 := hO2.1
  simp (disch := first | assumption | omega) only [b_M_orders_0, b_M_orders_9, ↓Bool.cond_decide, ↓q_in, q_le, q_lt, q_eq, q_leT, q_leF, q_ltT, q_ltF, q_eqT, q_eqF, ↓reduceIte, not_true_eq_false, not_false_eq_true, true_and, and_true, and_self, false_and, and_false, Nat.zero_le, am_bd_some, q_app, q_app0, nI_add, pk_sub, pk_mul, q_dec, q_ix, q_m1, q_m1', ↓q_ret, q_bool, q_bool1, q_u2, q_u1, q_shl1, q_shr, q_and7, q_dg, fa_or, fa_and, decide_true, decide_false, Bool.or_false, Bool.or_true, Bool.true_or, Bool.false_or, cond_true, cond_false, ite_not, q_some, q_nn, q_xor, q_xorm, Bool.false_eq_true, decide_eq_true_eq, ne_eq, l_0, l_1, l_5, l_7, l_9, l_33, h33]
  exact MR_some (MS_fx (R := RQ) (by (repeat (first | exact Fx_refl _ _ | assumption | refine Fx_u2 rfl ?_ | refine Fx_u1 rfl (by decide) ?_ | refine Fx_step (by assumption) rfl ?_ | refine Fx_stepr (by assumption) rfl rfl ?_))) rfl rfl hS)
theorem r_M_firsts (d : Nat) {σ : St} (hS : MS i l σ) (hW : WG σ.1) : MR (some (.int (v_firsts σ.1))) (fun i' l' => MS i' l' (σ)) (am_cl (d + 13) mM_firsts [.ref 0] (i, l, rM, kM)) := by
  have hW' := hW
  obtain ⟨g, σ⟩ := σ
  obtain ⟨⟨h1', h1⟩, h2, h3, hR, hF, hP, hSt, hD, hL0, hL1, hV⟩ := hW
  have h1 : g 1 ≤ 6 := h1
  have h2 : g 2 ≤ 4 := h2
  have hR : ∀ p, p < 4 → g (10 + p) ≤ 4 := hR
  have hP : ∀ p, p < 4 → g (18 + p) < 8 := hP
  have hSt : ∀ p, p < 4 → g (22 + p) ≤ 9 := hSt
  have hD : ∀ s, s < 6 → g (26 + s) ≤ 9 := hD
  have hA := hS.1
  have hn := sNow_lt g hP 4 (by decide)
  have hf0 : Fx [100] i (am_u2 i 0 0 (nI 0)) := by (repeat (first | exact Fx_refl _ _ | assumption | refine Fx_u2 rfl ?_ | refine Fx_u1 rfl (by decide) ?_ | refine Fx_step (by assumption) rfl ?_ | refine Fx_stepr (by assumption) rfl rfl ?_))
  have hM0 : MA (am_u2 i 0 0 (nI 0)) g := MA_fx hf0 hA rfl
  have hM0' : ∀ k, k < 3222 → am_u2 i 0 0 (nI 0) 1 k = nI (g k) := hM0
  rw [c_M_firsts, b_M_firsts_0, v_firsts]
  rw [l_0]
  refine MR_bd (r_M_laysOrders d hM0 hW') ?_
  intro i2 l2 ⟨hl2, hf2, hO2, _⟩
  subst hl2
  have h34 := hO2.2.1
  simp (disch := first | assumption | omega) only [b_M_firsts_0, b_M_firsts_9, ↓Bool.cond_decide, ↓q_in, q_le, q_lt, q_eq, q_leT, q_leF, q_ltT, q_ltF, q_eqT, q_eqF, ↓reduceIte, not_true_eq_false, not_false_eq_true, true_and, and_true, and_self, false_and, and_false, Nat.zero_le, am_bd_some, q_app, q_app0, nI_add, pk_sub, pk_mul, q_dec, q_ix, q_m1, q_m1', ↓q_ret, q_bool, q_bool1, q_u2, q_u1, q_shl1, q_shr, q_and7, q_dg, fa_or, fa_and, decide_true, decide_false, Bool.or_false, Bool.or_true, Bool.true_or, Bool.false_or, cond_true, cond_false, ite_not, q_some, q_nn, q_xor, q_xorm, Bool.false_eq_true, decide_eq_true_eq, ne_eq, l_0, l_1, l_5, l_7, l_9, l_34, h34]
  exact MR_some (MS_fx (R := RQ) (by (repeat (first | exact Fx_refl _ _ | assumption | refine Fx_u2 rfl ?_ | refine Fx_u1 rfl (by decide) ?_ | refine Fx_step (by assumption) rfl ?_ | refine Fx_stepr (by assumption) rfl rfl ?_))) rfl rfl hS)
theorem r_M_order (d : Nat) (x : Int32) {σ : St} (hS : MS i l σ) (hW : WG σ.1) : MR (some (.int (v_order σ.1 x))) (fun i' l' => MS i' l' (σ)) (am_cl (d + 13) mM_order [.ref 0, .int x] (i, l, rM, kM)) := by
  have hW' := hW
  obtain ⟨g, σ⟩ := σ
  obtain ⟨⟨h1', h1⟩, h2, h3, hR, hF, hP, hSt, hD, hL0, hL1, hV⟩ := hW
  have h1 : g 1 ≤ 6 := h1
  have h2 : g 2 ≤ 4 := h2
  have hR : ∀ p, p < 4 → g (10 + p) ≤ 4 := hR
  have hP : ∀ p, p < 4 → g (18 + p) < 8 := hP
  have hSt : ∀ p, p < 4 → g (22 + p) ≤ 9 := hSt
  have hD : ∀ s, s < 6 → g (26 + s) ≤ 9 := hD
  have hA := hS.1
  have hn := sNow_lt g hP 4 (by decide)
  have hf0 : Fx [100] i (am_u2 i 0 0 (nI 0)) := by (repeat (first | exact Fx_refl _ _ | assumption | refine Fx_u2 rfl ?_ | refine Fx_u1 rfl (by decide) ?_ | refine Fx_step (by assumption) rfl ?_ | refine Fx_stepr (by assumption) rfl rfl ?_))
  have hM0 : MA (am_u2 i 0 0 (nI 0)) g := MA_fx hf0 hA rfl
  have hM0' : ∀ k, k < 3222 → am_u2 i 0 0 (nI 0) 1 k = nI (g k) := hM0
  rw [c_M_order, b_M_order_0, v_order]
  by_cases hx : nI 0 ≤ x
  · have hy0 : ¬ x < 0 := by rw [← q_le32]; exact hx
    obtain ⟨n, hn', rfl⟩ := nI_of hy0
    simp (disch := first | assumption | omega) only [b_M_order_0, b_M_order_16, b_M_order_34, ↓Bool.cond_decide, ↓q_in, q_le, q_lt, q_eq, q_leT, q_leF, q_ltT, q_ltF, q_eqT, q_eqF, ↓reduceIte, not_true_eq_false, not_false_eq_true, true_and, and_true, and_self, false_and, and_false, Nat.zero_le, am_bd_some, q_app, q_app0, nI_add, pk_sub, pk_mul, q_dec, q_ix, q_m1, q_m1', ↓q_ret, q_bool, q_bool1, q_u1, q_shl1, q_shr, q_and7, q_dg, fa_or, fa_and, decide_true, decide_false, Bool.or_false, Bool.or_true, Bool.true_or, Bool.false_or, cond_true, cond_false, ite_not, q_some, q_nn, q_xor, q_xorm, Bool.false_eq_true, decide_eq_true_eq, ne_eq, l_0, l_1, l_3, l_4, l_11, l_14, l_16, l_17, l_34, l_35, hx]
    refine MR_bd (r_M_laysOrders d hM0 hW') ?_
    intro i2 l2 ⟨hl2, hf2, hO2, h17⟩
    subst hl2
    have h35 := hO2.2.2
    have hbl := bc_le (oW g) 4
    by_cases c1 : 0 < oN g 4 0 (oW g)
    · rw [if_pos c1] at h35
      by_cases c2 : n < bc (oW g) 4
      · have h17n := h17 c1 n c2
        simp (disch := first | assumption | omega) only [b_M_order_0, b_M_order_16, b_M_order_34, ↓Bool.cond_decide, ↓q_in, q_le, q_lt, q_eq, q_leT, q_leF, q_ltT, q_ltF, q_eqT, q_eqF, ↓reduceIte, not_true_eq_false, not_false_eq_true, true_and, and_true, and_self, false_and, and_false, Nat.zero_le, am_bd_some, q_app, q_app0, nI_add, pk_sub, pk_mul, q_dec, q_ix, q_m1, q_m1', ↓q_ret, q_bool, q_bool1, q_u2, q_u1, q_shl1, q_shr, q_and7, q_dg, fa_or, fa_and, decide_true, decide_false, Bool.or_false, Bool.or_true, Bool.true_or, Bool.false_or, cond_true, cond_false, ite_not, q_some, q_nn, q_xor, q_xorm, Bool.false_eq_true, decide_eq_true_eq, ne_eq, l_0, l_1, l_3, l_4, l_11, l_14, l_16, l_17, l_34, l_35, h35, c1, c2, h17n]
        exact MR_some (MS_fx (R := RQ) (by (repeat (first | exact Fx_refl _ _ | assumption | refine Fx_u2 rfl ?_ | refine Fx_u1 rfl (by decide) ?_ | refine Fx_step (by assumption) rfl ?_ | refine Fx_stepr (by assumption) rfl rfl ?_))) rfl rfl hS)
      · simp (disch := first | assumption | omega) only [b_M_order_0, b_M_order_16, b_M_order_34, ↓Bool.cond_decide, ↓q_in, q_le, q_lt, q_eq, q_leT, q_leF, q_ltT, q_ltF, q_eqT, q_eqF, ↓reduceIte, not_true_eq_false, not_false_eq_true, true_and, and_true, and_self, false_and, and_false, Nat.zero_le, am_bd_some, q_app, q_app0, nI_add, pk_sub, pk_mul, q_dec, q_ix, q_m1, q_m1', ↓q_ret, q_bool, q_bool1, q_u2, q_u1, q_shl1, q_shr, q_and7, q_dg, fa_or, fa_and, decide_true, decide_false, Bool.or_false, Bool.or_true, Bool.true_or, Bool.false_or, cond_true, cond_false, ite_not, q_some, q_nn, q_xor, q_xorm, Bool.false_eq_true, decide_eq_true_eq, ne_eq, l_0, l_1, l_3, l_4, l_11, l_14, l_16, l_17, l_34, l_35, h35, c1, c2]
        exact MR_some (MS_fx (R := RQ) (by (repeat (first | exact Fx_refl _ _ | assumption | refine Fx_u2 rfl ?_ | refine Fx_u1 rfl (by decide) ?_ | refine Fx_step (by assumption) rfl ?_ | refine Fx_stepr (by assumption) rfl rfl ?_))) rfl rfl hS)
    · rw [if_neg c1] at h35
      simp (disch := first | assumption | omega) only [b_M_order_0, b_M_order_16, b_M_order_34, ↓Bool.cond_decide, ↓q_in, q_le, q_lt, q_eq, q_leT, q_leF, q_ltT, q_ltF, q_eqT, q_eqF, ↓reduceIte, not_true_eq_false, not_false_eq_true, true_and, and_true, and_self, false_and, and_false, Nat.zero_le, am_bd_some, q_app, q_app0, nI_add, pk_sub, pk_mul, q_dec, q_ix, q_m1, q_m1', ↓q_ret, q_bool, q_bool1, q_u2, q_u1, q_shl1, q_shr, q_and7, q_dg, fa_or, fa_and, decide_true, decide_false, Bool.or_false, Bool.or_true, Bool.true_or, Bool.false_or, cond_true, cond_false, ite_not, q_some, q_nn, q_xor, q_xorm, Bool.false_eq_true, decide_eq_true_eq, ne_eq, l_0, l_1, l_3, l_4, l_11, l_14, l_16, l_17, l_34, l_35, h35, c1]
      exact MR_some (MS_fx (R := RQ) (by (repeat (first | exact Fx_refl _ _ | assumption | refine Fx_u2 rfl ?_ | refine Fx_u1 rfl (by decide) ?_ | refine Fx_step (by assumption) rfl ?_ | refine Fx_stepr (by assumption) rfl rfl ?_))) rfl rfl hS)
  · simp (disch := first | assumption | omega) only [b_M_order_0, b_M_order_16, b_M_order_34, ↓Bool.cond_decide, ↓q_in, q_le, q_lt, q_eq, q_leT, q_leF, q_ltT, q_ltF, q_eqT, q_eqF, ↓reduceIte, not_true_eq_false, not_false_eq_true, true_and, and_true, and_self, false_and, and_false, Nat.zero_le, am_bd_some, q_app, q_app0, nI_add, pk_sub, pk_mul, q_dec, q_ix, q_m1, q_m1', ↓q_ret, q_bool, q_bool1, q_u2, q_u1, q_shl1, q_shr, q_and7, q_dg, fa_or, fa_and, decide_true, decide_false, Bool.or_false, Bool.or_true, Bool.true_or, Bool.false_or, cond_true, cond_false, ite_not, q_some, q_nn, q_xor, q_xorm, Bool.false_eq_true, decide_eq_true_eq, ne_eq, l_0, l_1, l_3, l_4, l_11, l_14, l_16, l_17, l_34, l_35, hx]
    exact MR_some (MS_fx (R := RQ) (by (repeat (first | exact Fx_refl _ _ | assumption | refine Fx_u2 rfl ?_ | refine Fx_u1 rfl (by decide) ?_ | refine Fx_step (by assumption) rfl ?_ | refine Fx_stepr (by assumption) rfl rfl ?_))) rfl rfl hS)
end
