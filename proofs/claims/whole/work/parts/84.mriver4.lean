/-! THE MODEL: the river -/
def rB (σ : St) : Nat → Nat := fun k => if k < σ.2.2.2.1 then σ.2.2.1 k else 0
/-- a river's text as it was read -/
def rP (σ : St) (x : Int32) : PS := rvS (rB σ) x.toNatClampNeg
def v_river (σ : St) (x : Int32) : Int32 := if iR 0 σ.2.2.2.1 x = true then (if (rP σ x).1 = 0 then nI ((rP σ x).2.2.2 0) else -nI 30 - nI (rP σ x).1) else -nI 3
def gRiv (g f : Nat → Nat) : Nat → Nat := fun k => if k < 1074 then f k else g k
def a_river (σ : St) (x : Int32) : St := if iR 0 σ.2.2.2.1 x = true then (if (rP σ x).1 = 0 then (gRiv σ.1 (rP σ x).2.2.2, σ.2.1, σ.2.2.1, 0, 0, -nI 1, σ.2.2.2.2.2.2) else (σ.1, σ.2.1, σ.2.2.1, 0, (rP σ x).1, nI (rP σ x).2.1, σ.2.2.2.2.2.2)) else σ
section
variable {i : Nat → Nat → Int32} {l : Nat → Nat → Int64} {B : Nat → Nat} {N : Nat}
theorem s_M_plain (d : Nat) : MR none (fun i' l' => l' = l ∧ Fx [4] i i' ∧ ∀ k, k < 1074 → i' 4 k = nI (pln k)) (am_cl (d + 1) mM_plain [.ref 4] (i, l, rM, kM)) := by
  have a1 : ∀ i', Nat.beq (am_kd (i', l, rM, kM) 4) 100 = true := fun _ => rfl
  have a2 : ∀ i', am_ln (i', l, rM, kM) 4 = 1074 := fun _ => rfl
  rw [c_M_plain, b_M_plain_0]
  refine am_loop (fun k ls s => ∃ i', ls = [.val (.ref 4), .val (.int (nI k))] ∧ s = (i', l, rM, kM) ∧ Fx [4] i i' ∧ ∀ j, j < k → i' 4 j = nI 0) 1074 _ (fun k ls s hk hI => ?_) (fun ls s hI => ?_) ⟨_, rfl, rfl, Fx_refl _ _, fun j hj => by omega⟩
  · obtain ⟨i1, e1, e2, hf, hm⟩ := hI
    subst e1; subst e2
    rw [b_M_plain_2]
    simp (disch := first | assumption | omega) only [b_M_plain_0, ↓Bool.cond_decide, ↓q_in, q_le, q_lt, q_eq, q_leT, q_leF, q_ltT, q_ltF, q_eqT, q_eqF, ↓reduceIte, not_true_eq_false, not_false_eq_true, true_and, and_true, and_self, false_and, and_false, Nat.zero_le, am_bd_some, q_app, q_app0, nI_add, pk_sub, pk_mul, q_dec, q_ix, q_m1, q_m1', ↓q_ret, q_bool, q_bool1, q_u2, q_u1, q_shl1, q_shr, q_and7, q_dg, fa_or, fa_and, decide_true, decide_false, Bool.or_false, Bool.or_true, Bool.true_or, Bool.false_or, cond_true, cond_false, ite_not, q_some, q_nn, q_xor, q_xorm, Bool.false_eq_true, decide_eq_true_eq, ne_eq, l_0, l_1, l_2, l_3, l_5, l_21, l_100, l_1074, a1, a2, Bool.true_and]
    refine Go_in ⟨_, rfl, rfl, by (repeat (first | exact Fx_refl _ _ | assumption | refine Fx_u2 rfl ?_ | refine Fx_u1 rfl (by decide) ?_ | refine Fx_step (by assumption) rfl ?_ | refine Fx_stepr (by assumption) rfl rfl ?_)), fun j hj => ?_⟩
    simp only [q_u2, if_true]
    by_cases ej : j = k
    · rw [if_pos ej]
    · rw [if_neg ej]; exact hm j (by omega)
  · obtain ⟨i1, e1, e2, hf, hm⟩ := hI
    subst e1; subst e2
    rw [b_M_plain_2]
    simp (disch := first | assumption | omega) only [b_M_plain_0, ↓Bool.cond_decide, ↓q_in, q_le, q_lt, q_eq, q_leT, q_leF, q_ltT, q_ltF, q_eqT, q_eqF, ↓reduceIte, not_true_eq_false, not_false_eq_true, true_and, and_true, and_self, false_and, and_false, Nat.zero_le, am_bd_some, q_app, q_app0, nI_add, pk_sub, pk_mul, q_dec, q_ix, q_m1, q_m1', ↓q_ret, q_bool, q_bool1, q_u1, q_shl1, q_shr, q_and7, q_dg, fa_or, fa_and, decide_true, decide_false, Bool.or_false, Bool.or_true, Bool.true_or, Bool.false_or, cond_true, cond_false, ite_not, q_some, q_nn, q_xor, q_xorm, Bool.false_eq_true, decide_eq_true_eq, ne_eq, l_0, l_1, l_2, l_3, l_5, l_21, l_100, l_1074, a1, a2, Bool.true_and]
    refine MR_some ⟨rfl, by (repeat (first | exact Fx_refl _ _ | assumption | refine Fx_u2 rfl ?_ | refine Fx_u1 rfl (by decide) ?_ | refine Fx_step (by assumption) rfl ?_ | refine Fx_stepr (by assumption) rfl rfl ?_)), fun k hk => ?_⟩
    unfold pln
    show (if k = 3 then nI 5 else (if k = 1 then nI 1 else i1 4 k)) = _
    rw [hm k hk]
    by_cases k1 : k = 1
    · subst k1; rfl
    · by_cases k3 : k = 3
      · subst k3; rfl
      · rw [if_neg k1, if_neg k3, if_neg k1, if_neg k3]
theorem MS_riv {R : List Nat} {g g' : Nat → Nat} {hi : Nat → Bool} {tp : Nat → Nat} {n w0 w : Nat} {p0 p : Int32} {σ : (Nat → Int32) × (Nat → Nat) × (Nat → Int64)} {i i' : Nat → Nat → Int32} (hS : MS i l (g, hi, tp, n, w0, p0, σ)) (hf : Fx R i i') (h2 : R.contains 2 = false) (h22 : R.contains 22 = false) (h23 : R.contains 23 = false) (hA : MA i' g') (h5 : i' 0 5 = nI 0) (h13 : i' 0 13 = nI w) (h14 : i' 0 14 = p) : MS i' l (g', hi, tp, 0, w, p, σ) := by
  obtain ⟨a1, a2, a3, a4, a5, a6, a7, a8, a9⟩ := hS
  refine ⟨hA, ?_, fun k _ hk => absurd hk (Nat.not_lt_zero _), h5, h13, h14, ?_, ?_, a9⟩
  · rw [Fx_row hf (by decide) h2]; exact a2
  · rw [Fx_row hf (by decide) h22]; exact a7
  · rw [Fx_row hf (by decide) h23]; exact a8
theorem r_M_river (d : Nat) (x : Int32) {σ : St} (hS : MS i l σ) (h900 : σ.2.2.2.1 ≤ 900) (h256 : ∀ k, k < σ.2.2.2.1 → σ.2.2.1 k < 256) : MR (some (.int (v_river σ x))) (fun i' l' => MS i' l' (a_river σ x)) (am_cl (d + 30) mM_river [.ref 0, .int x] (i, l, rM, kM)) := by
  obtain ⟨g, hi, tp, n, w0, p0, σ⟩ := σ
  have h5 : i 0 5 = nI n := hS.2.2.2.1
  have h900 : n ≤ 900 := h900
  have e := iR_e 0 n (lo := 0) (hi := Int32.toInt64 (nI n)) rfl (by rw [Int32.toInt_toInt64, nI_toInt (by omega)]) x
  refine MR_q ?_
  intro Q hQ
  rw [c_M_river, b_M_river_0, v_river]
  rw [a_river] at hQ
  dsimp only at hQ ⊢
  by_cases hx : iR 0 n x = true
  · have hx' := hx
    obtain ⟨N, _, hN, rfl⟩ := iR_T hx'
    rw [if_pos hx] at hQ ⊢
    have ex : (nI N).toNatClampNeg = N := nI_clamp (by omega)
    simp (disch := first | assumption | omega) only [b_M_river_0, b_M_river_16, b_M_river_49, b_M_river_53, b_M_river_58, b_M_river_66, b_M_river_78, b_M_river_103, b_M_river_107, b_M_river_110, b_M_river_134, s_M_plain, s_M_within, ↓Bool.cond_decide, ↓q_in, q_le, q_lt, q_eq, q_leT, q_leF, q_ltT, q_ltF, q_eqT, q_eqF, ↓reduceIte, not_true_eq_false, not_false_eq_true, true_and, and_true, and_self, false_and, and_false, Nat.zero_le, am_bd_some, q_app, q_app0, nI_add, pk_sub, pk_mul, q_dec, q_ix, q_m1, q_m1', ↓q_ret, q_bool, q_bool1, q_u1, q_shl1, q_shr, q_and7, q_dg, fa_or, fa_and, decide_true, decide_false, Bool.or_false, Bool.or_true, Bool.true_or, Bool.false_or, cond_true, cond_false, ite_not, q_some, q_nn, q_xor, q_xorm, Bool.false_eq_true, decide_eq_true_eq, ne_eq, l_0, l_1, l_2, l_3, l_4, l_5, l_6, l_7, l_8, l_9, l_11, l_12, l_13, l_14, l_16, l_20, l_21, l_24, l_30, l_49, l_53, l_58, l_66, l_78, l_83, l_103, l_107, l_110, l_134, l_154, l_1074, l_3222, e, hx, h5]
    have hT : ∀ i1, Fx [4] (am_u2 (am_u2 (am_u2 (am_u2 (am_u2 i 0 0 (nI 0)) 0 8 (nI N)) 0 5 (nI 0)) 0 7 (nI 0)) 0 11 (nI 0)) i1 → TP i1 (rB (g, hi, tp, n, w0, p0, σ)) N := by
      intro i1 hf1
      refine ⟨by omega, by rw [hf1 0 8 rfl]; rfl, fun k hk => ?_, fun k => ?_⟩
      · rw [hf1 3 k rfl]
        show i 3 k = nI (if k < n then tp k else 0)
        rw [if_pos (by omega)]
        exact hS.2.2.1 k (by omega) (by show k < n; omega)
      · show (if k < n then tp k else 0) < 256
        split
        · rename_i hk; exact h256 k hk
        · decide
    have hr : rP (g, hi, tp, n, w0, p0, σ) (nI N) = rvS (rB (g, hi, tp, n, w0, p0, σ)) N := by unfold rP; rw [ex]
    rw [hr] at hQ ⊢
    generalize rB (g, hi, tp, n, w0, p0, σ) = B at hT hQ ⊢
    refine MR_bd (s_M_plain (d + 28)) ?_
    intro i1 l1 ⟨hl1, hf1, hp1⟩
    subst hl1
    have hT1 := hT i1 hf1
    have h71 : i1 0 7 = nI 0 := by rw [hf1 0 7 rfl]; rfl
    have h111 : i1 0 11 = nI 0 := by rw [hf1 0 11 rfl]; rfl
    have h51 : i1 0 5 = nI 0 := by rw [hf1 0 5 rfl]; rfl
    have hf01 : Fx [4, 100, 105, 107, 108, 111] i i1 := by (repeat (first | exact Fx_refl _ _ | assumption | refine Fx_u2 rfl ?_ | refine Fx_u1 rfl (by decide) ?_ | refine Fx_step (by assumption) rfl ?_ | refine Fx_stepr (by assumption) rfl rfl ?_))
    have hN9 : N ≤ 900 := by omega
    obtain ⟨i2, l2, e2, hl2, hf2, q2, q3, q4, q5⟩ := r_M_next (i := i1) (l := l1) (d + 27) (b0 := 0) (by omega) hT1 h71
    subst hl2
    have hT2 : TP i2 B N := TP_fx hf2 hT1 rfl rfl
    have hR2 : RP B N i2 (0, 0, 0, pln) := ⟨by rw [hf2 0 11 rfl]; exact h111, by show 0 ≤ 4; decide, fun z => absurd rfl z, fun _ => ⟨q2, q3, q4, q5, fun k hk => by rw [Fx_row hf2 (by decide) rfl]; exact hp1 k hk⟩⟩
    have hC2 : CB B N (0, 0, 0, pln) := fun _ => ⟨Nat.le_refl _, Nat.le_refl _⟩
    obtain ⟨i3, l3, e3, hl3, hf3, hR3⟩ := r_M_eats (i := i2) (l := l2) (d + 26) (k := 0) (by decide) hT2 hR2
    subst hl3
    -- the end
    have last : ∀ s i7 z1 z2, Fx [4, 100, 105, 106, 107, 108, 109, 110, 111, 112, 115] i i7 → RP B N i7 s → i7 0 5 = nI 0 → rvS B N = s → MR (some (.int (if (rvS B N).1 = 0 then nI ((rvS B N).2.2.2 0) else -nI 30 - nI (rvS B N).1))) Q (am_Ex (d + 29) mM_river 110 [.val (.ref 0), z1, z2] [] (i7, l3, rM, kM)) := by
      intro s i7 z1 z2 hf7 hR7 h57 hs
      rw [hs] at hQ ⊢
      have h117 := hR7.1
      have h47 := hR7.2.1
      rw [b_M_river_110]
      by_cases h0 : s.1 = 0
      · rw [if_pos h0] at hQ ⊢
        rw [h0] at h117
        have b11 : ∀ v, am_u2 i7 0 13 v 0 11 = nI 0 := fun _ => h117
        simp (disch := first | assumption | omega) only [b_M_river_0, b_M_river_16, b_M_river_49, b_M_river_53, b_M_river_58, b_M_river_66, b_M_river_78, b_M_river_103, b_M_river_107, b_M_river_110, b_M_river_134, s_M_plain, s_M_within, ↓Bool.cond_decide, ↓q_in, q_le, q_lt, q_eq, q_leT, q_leF, q_ltT, q_ltF, q_eqT, q_eqF, ↓reduceIte, not_true_eq_false, not_false_eq_true, true_and, and_true, and_self, false_and, and_false, Nat.zero_le, am_bd_some, q_app, q_app0, nI_add, pk_sub, pk_mul, q_dec, q_ix, q_m1, q_m1', ↓q_ret, q_bool, q_bool1, q_u1, q_shl1, q_shr, q_and7, q_dg, fa_or, fa_and, decide_true, decide_false, Bool.or_false, Bool.or_true, Bool.true_or, Bool.false_or, cond_true, cond_false, ite_not, q_some, q_nn, q_xor, q_xorm, Bool.false_eq_true, decide_eq_true_eq, ne_eq, l_0, l_1, l_2, l_3, l_4, l_5, l_6, l_7, l_8, l_9, l_11, l_12, l_13, l_14, l_16, l_20, l_21, l_24, l_30, l_49, l_53, l_58, l_66, l_78, l_83, l_103, l_107, l_110, l_134, l_154, l_1074, l_3222, h117, b11]
        have hs4 := (hR7.2.2.2 h0).2.2.2.2
        refine am_loop (fun k ls st => ∃ i' z1, ls = [.val (.ref 0), z1, .val (.int (nI k))] ∧ st = (i', l3, rM, kM) ∧ Fx [1, 4, 100, 105, 106, 107, 108, 109, 110, 111, 112, 113, 114, 115] i i' ∧ i' 4 = i7 4 ∧ i' 0 5 = nI 0 ∧ i' 0 13 = nI 0 ∧ i' 0 14 = -nI 1 ∧ MA i' (fun j => if j < k then s.2.2.2 j else g j)) 1074 _ (fun k ls st hk hI => ?_) (fun ls st hI => ?_) ⟨am_u2 (am_u2 i7 0 13 (nI 0)) 0 14 (-nI 1), _, rfl, rfl, by (repeat (first | exact Fx_refl _ _ | assumption | refine Fx_u2 rfl ?_ | refine Fx_u1 rfl (by decide) ?_ | refine Fx_step (by assumption) rfl ?_ | refine Fx_stepr (by assumption) rfl rfl ?_)), rfl, h57, rfl, rfl, fun j hj => ?_⟩
        · obtain ⟨i1, z1, e1, e2, hf, b4, b5, b13, b14, hm⟩ := hI
          subst e1; subst e2
          have hk1 : i1 4 k = nI (s.2.2.2 k) := by rw [b4]; exact hs4 k hk
          rw [b_M_river_154]
          simp (disch := first | assumption | omega) only [b_M_river_0, b_M_river_16, b_M_river_49, b_M_river_53, b_M_river_58, b_M_river_66, b_M_river_78, b_M_river_103, b_M_river_107, b_M_river_110, b_M_river_134, s_M_plain, s_M_within, ↓Bool.cond_decide, ↓q_in, q_le, q_lt, q_eq, q_leT, q_leF, q_ltT, q_ltF, q_eqT, q_eqF, ↓reduceIte, not_true_eq_false, not_false_eq_true, true_and, and_true, and_self, false_and, and_false, Nat.zero_le, am_bd_some, q_app, q_app0, nI_add, pk_sub, pk_mul, q_dec, q_ix, q_m1, q_m1', ↓q_ret, q_bool, q_bool1, q_u1, q_shl1, q_shr, q_and7, q_dg, fa_or, fa_and, decide_true, decide_false, Bool.or_false, Bool.or_true, Bool.true_or, Bool.false_or, cond_true, cond_false, ite_not, q_some, q_nn, q_xor, q_xorm, Bool.false_eq_true, decide_eq_true_eq, ne_eq, l_0, l_1, l_2, l_3, l_4, l_5, l_6, l_7, l_8, l_9, l_11, l_12, l_13, l_14, l_16, l_20, l_21, l_24, l_30, l_49, l_53, l_58, l_66, l_78, l_83, l_103, l_107, l_110, l_134, l_154, l_1074, l_3222, hk1]
          refine Go_in ⟨_, _, rfl, rfl, by (repeat (first | exact Fx_refl _ _ | assumption | refine Fx_u2 rfl ?_ | refine Fx_u1 rfl (by decide) ?_ | refine Fx_step (by assumption) rfl ?_ | refine Fx_stepr (by assumption) rfl rfl ?_)), b4, b5, b13, b14, fun j hj => ?_⟩
          show (if j = k then nI (s.2.2.2 k) else i1 1 j) = nI (if j < k + 1 then s.2.2.2 j else g j)
          by_cases ej : j = k
          · subst ej
            rw [if_pos rfl, if_pos (by omega)]
          · rw [if_neg ej, hm j hj]
            dsimp only
            by_cases e2 : j < k
            · rw [if_pos e2, if_pos (by omega)]
            · rw [if_neg e2, if_neg (by omega)]
        · obtain ⟨i1, z1, e1, e2, hf, b4, b5, b13, b14, hm⟩ := hI
          subst e1; subst e2
          have hk1 : i1 1 0 = nI (s.2.2.2 0) := hm 0 (by decide)
          rw [b_M_river_154]
          simp (disch := first | assumption | omega) only [b_M_river_0, b_M_river_16, b_M_river_49, b_M_river_53, b_M_river_58, b_M_river_66, b_M_river_78, b_M_river_103, b_M_river_107, b_M_river_110, b_M_river_134, s_M_plain, s_M_within, ↓Bool.cond_decide, ↓q_in, q_le, q_lt, q_eq, q_leT, q_leF, q_ltT, q_ltF, q_eqT, q_eqF, ↓reduceIte, not_true_eq_false, not_false_eq_true, true_and, and_true, and_self, false_and, and_false, Nat.zero_le, am_bd_some, q_app, q_app0, nI_add, pk_sub, pk_mul, q_dec, q_ix, q_m1, q_m1', ↓q_ret, q_bool, q_bool1, q_u1, q_shl1, q_shr, q_and7, q_dg, fa_or, fa_and, decide_true, decide_false, Bool.or_false, Bool.or_true, Bool.true_or, Bool.false_or, cond_true, cond_false, ite_not, q_some, q_nn, q_xor, q_xorm, Bool.false_eq_true, decide_eq_true_eq, ne_eq, l_0, l_1, l_2, l_3, l_4, l_5, l_6, l_7, l_8, l_9, l_11, l_12, l_13, l_14, l_16, l_20, l_21, l_24, l_30, l_49, l_53, l_58, l_66, l_78, l_83, l_103, l_107, l_110, l_134, l_154, l_1074, l_3222, hk1]
          exact MR_some (hQ _ _ (MS_riv hS hf rfl rfl rfl hm b5 b13 b14))
        · show i7 1 j = nI (if j < 0 then _ else g j)
          rw [if_neg (by omega), Fx_row hf7 (by decide) rfl]
          exact hS.1 j hj
      · rw [if_neg h0] at hQ ⊢
        have h12 := hR7.2.2.1 h0
        have b11 : ∀ v, am_u2 i7 0 13 v 0 11 = nI s.1 := fun _ => h117
        simp (disch := first | assumption | omega) only [b_M_river_0, b_M_river_16, b_M_river_49, b_M_river_53, b_M_river_58, b_M_river_66, b_M_river_78, b_M_river_103, b_M_river_107, b_M_river_110, b_M_river_134, s_M_plain, s_M_within, ↓Bool.cond_decide, ↓q_in, q_le, q_lt, q_eq, q_leT, q_leF, q_ltT, q_ltF, q_eqT, q_eqF, ↓reduceIte, not_true_eq_false, not_false_eq_true, true_and, and_true, and_self, false_and, and_false, Nat.zero_le, am_bd_some, q_app, q_app0, nI_add, pk_sub, pk_mul, q_dec, q_ix, q_m1, q_m1', ↓q_ret, q_bool, q_bool1, q_u1, q_shl1, q_shr, q_and7, q_dg, fa_or, fa_and, decide_true, decide_false, Bool.or_false, Bool.or_true, Bool.true_or, Bool.false_or, cond_true, cond_false, ite_not, q_some, q_nn, q_xor, q_xorm, Bool.false_eq_true, decide_eq_true_eq, ne_eq, l_0, l_1, l_2, l_3, l_4, l_5, l_6, l_7, l_8, l_9, l_11, l_12, l_13, l_14, l_16, l_20, l_21, l_24, l_30, l_49, l_53, l_58, l_66, l_78, l_83, l_103, l_107, l_110, l_134, l_154, l_1074, l_3222, h117, b11, h0, h12]
        refine MR_some (hQ _ _ (MS_riv (R := [1, 4, 100, 105, 106, 107, 108, 109, 110, 111, 112, 113, 114, 115]) (i' := am_u2 (am_u2 i7 0 13 (nI s.1)) 0 14 (nI s.2.1)) hS (by (repeat (first | exact Fx_refl _ _ | assumption | refine Fx_u2 rfl ?_ | refine Fx_u1 rfl (by decide) ?_ | refine Fx_step (by assumption) rfl ?_ | refine Fx_stepr (by assumption) rfl rfl ?_))) rfl rfl rfl (fun j hj => ?_) h57 rfl rfl))
        show i7 1 j = nI (g j)
        rw [Fx_row hf7 (by decide) rfl]
        exact hS.1 j hj
    have loop : ∀ n s i7 z1 z2, RP B N i7 s → CB B N s → SQ s → Fx [4, 100, 105, 106, 107, 108, 109, 110, 111, 112, 115] i i7 → TP i7 B N → i7 0 5 = nI 0 → (s.1 = 0 → N < s.2.2.1 + n) → rvS B N = rvL B N n s → MR (some (.int (if (rvS B N).1 = 0 then nI ((rvS B N).2.2.2 0) else -nI 30 - nI (rvS B N).1))) Q (am_Ex (d + 29) mM_river 83 [.val (.ref 0), z1, z2] [] (i7, l3, rM, kM)) := by
      intro n
      induction n with
      | zero =>
        intro s i7 z1 z2 hR7 hC7 hQ7 hf7 hT7 h57 hn hs
        have h117 := hR7.1
        have h47 := hR7.2.1
        have h0 : s.1 ≠ 0 := fun z => by
          have a1 := hn z
          have a2 := (hC7 z).2
          have a3 := pj_le B N s.2.2.1
          omega
        rw [b_M_river_83]
        simp (disch := first | assumption | omega) only [b_M_river_0, b_M_river_16, b_M_river_49, b_M_river_53, b_M_river_58, b_M_river_66, b_M_river_78, b_M_river_103, b_M_river_107, b_M_river_134, s_M_plain, s_M_within, ↓Bool.cond_decide, ↓q_in, q_le, q_lt, q_eq, q_leT, q_leF, q_ltT, q_ltF, q_eqT, q_eqF, ↓reduceIte, not_true_eq_false, not_false_eq_true, true_and, and_true, and_self, false_and, and_false, Nat.zero_le, am_bd_some, q_app, q_app0, nI_add, pk_sub, pk_mul, q_dec, q_ix, q_m1, q_m1', ↓q_ret, q_bool, q_bool1, q_u2, q_u1, q_shl1, q_shr, q_and7, q_dg, fa_or, fa_and, decide_true, decide_false, Bool.or_false, Bool.or_true, Bool.true_or, Bool.false_or, cond_true, cond_false, ite_not, q_some, q_nn, q_xor, q_xorm, Bool.false_eq_true, decide_eq_true_eq, ne_eq, l_0, l_1, l_2, l_3, l_4, l_5, l_6, l_7, l_8, l_9, l_11, l_12, l_13, l_14, l_16, l_20, l_21, l_24, l_30, l_49, l_53, l_58, l_66, l_78, l_83, l_103, l_107, l_110, l_134, l_154, l_1074, l_3222, h117, h0]
        exact last s i7 _ _ hf7 hR7 h57 hs
      | succ n ih =>
        intro s i7 z1 z2 hR7 hC7 hQ7 hf7 hT7 h57 hn hs
        have h117 := hR7.1
        have h47 := hR7.2.1
        rw [rvL] at hs
        rw [b_M_river_83]
        by_cases h0 : s.1 = 0
        · have h9 := (hR7.2.2.2 h0).2.2.1
          have hkl := kj_lt B N s.2.2.1
          by_cases hk : kj B N s.2.2.1 = 24
          · rw [if_neg (fun z => z.2 hk)] at hs
            simp (disch := first | assumption | omega) only [b_M_river_0, b_M_river_16, b_M_river_49, b_M_river_53, b_M_river_58, b_M_river_66, b_M_river_78, b_M_river_103, b_M_river_107, b_M_river_134, s_M_plain, s_M_within, ↓Bool.cond_decide, ↓q_in, q_le, q_lt, q_eq, q_leT, q_leF, q_ltT, q_ltF, q_eqT, q_eqF, ↓reduceIte, not_true_eq_false, not_false_eq_true, true_and, and_true, and_self, false_and, and_false, Nat.zero_le, am_bd_some, q_app, q_app0, nI_add, pk_sub, pk_mul, q_dec, q_ix, q_m1, q_m1', ↓q_ret, q_bool, q_bool1, q_u2, q_u1, q_shl1, q_shr, q_and7, q_dg, fa_or, fa_and, decide_true, decide_false, Bool.or_false, Bool.or_true, Bool.true_or, Bool.false_or, cond_true, cond_false, ite_not, q_some, q_nn, q_xor, q_xorm, Bool.false_eq_true, decide_eq_true_eq, ne_eq, l_0, l_1, l_2, l_3, l_4, l_5, l_6, l_7, l_8, l_9, l_11, l_12, l_13, l_14, l_16, l_20, l_21, l_24, l_30, l_49, l_53, l_58, l_66, l_78, l_83, l_103, l_107, l_110, l_134, l_154, l_1074, l_3222, h117, h0, h9, hk]
            exact last s i7 _ _ hf7 hR7 h57 hs
          · rw [if_pos ⟨h0, hk⟩] at hs
            obtain ⟨i8, l8, e8, hl8, hf8, hR8⟩ := r_M_readLine (i := i7) (l := l3) d h0 hQ7 hC7 hT7 hR7
            subst hl8
            have hT8 : TP i8 B N := TP_fx hf8 hT7 rfl rfl
            obtain ⟨g1, g2⟩ := ln_go hC7 hQ7
            have hC8 := Pq_cb g1 hC7
            obtain ⟨i9, l9, e9, hl9, hf9, hR9⟩ := r_M_ends (i := i8) (l := l8) (d + 25) hT8 hR8
            subst hl9
            obtain ⟨g3, g4, g5⟩ := en_go hC8 g2
            simp (disch := first | assumption | omega) only [b_M_river_0, b_M_river_16, b_M_river_49, b_M_river_53, b_M_river_58, b_M_river_66, b_M_river_78, b_M_river_103, b_M_river_107, b_M_river_134, s_M_plain, s_M_within, ↓Bool.cond_decide, ↓q_in, q_le, q_lt, q_eq, q_leT, q_leF, q_ltT, q_ltF, q_eqT, q_eqF, ↓reduceIte, not_true_eq_false, not_false_eq_true, true_and, and_true, and_self, false_and, and_false, Nat.zero_le, am_bd_some, q_app, q_app0, nI_add, pk_sub, pk_mul, q_dec, q_ix, q_m1, q_m1', ↓q_ret, q_bool, q_bool1, q_u2, q_u1, q_shl1, q_shr, q_and7, q_dg, fa_or, fa_and, decide_true, decide_false, Bool.or_false, Bool.or_true, Bool.true_or, Bool.false_or, cond_true, cond_false, ite_not, q_some, q_nn, q_xor, q_xorm, Bool.false_eq_true, decide_eq_true_eq, ne_eq, l_0, l_1, l_2, l_3, l_4, l_5, l_6, l_7, l_8, l_9, l_11, l_12, l_13, l_14, l_16, l_20, l_21, l_24, l_30, l_49, l_53, l_58, l_66, l_78, l_83, l_103, l_107, l_110, l_134, l_154, l_1074, l_3222, h117, h0, h9, hk, e8, e9]
            refine ih _ i9 _ _ hR9 (Pq_cb g3 hC8) g4 (by (repeat (first | exact Fx_refl _ _ | assumption | refine Fx_u2 rfl ?_ | refine Fx_u1 rfl (by decide) ?_ | refine Fx_step (by assumption) rfl ?_ | refine Fx_stepr (by assumption) rfl rfl ?_))) (TP_fx hf9 hT8 rfl rfl) ?_ (fun z => ?_) hs
            · rw [hf9 0 5 rfl, hf8 0 5 rfl]; exact h57
            · have a1 := g5 z
              have a2 := (g1 (g3 z).1).2.1
              have a3 := hn h0
              omega
        · rw [if_neg (fun z => h0 z.1)] at hs
          simp (disch := first | assumption | omega) only [b_M_river_0, b_M_river_16, b_M_river_49, b_M_river_53, b_M_river_58, b_M_river_66, b_M_river_78, b_M_river_103, b_M_river_107, b_M_river_134, s_M_plain, s_M_within, ↓Bool.cond_decide, ↓q_in, q_le, q_lt, q_eq, q_leT, q_leF, q_ltT, q_ltF, q_eqT, q_eqF, ↓reduceIte, not_true_eq_false, not_false_eq_true, true_and, and_true, and_self, false_and, and_false, Nat.zero_le, am_bd_some, q_app, q_app0, nI_add, pk_sub, pk_mul, q_dec, q_ix, q_m1, q_m1', ↓q_ret, q_bool, q_bool1, q_u2, q_u1, q_shl1, q_shr, q_and7, q_dg, fa_or, fa_and, decide_true, decide_false, Bool.or_false, Bool.or_true, Bool.true_or, Bool.false_or, cond_true, cond_false, ite_not, q_some, q_nn, q_xor, q_xorm, Bool.false_eq_true, decide_eq_true_eq, ne_eq, l_0, l_1, l_2, l_3, l_4, l_5, l_6, l_7, l_8, l_9, l_11, l_12, l_13, l_14, l_16, l_20, l_21, l_24, l_30, l_49, l_53, l_58, l_66, l_78, l_83, l_103, l_107, l_110, l_134, l_154, l_1074, l_3222, h117, h0]
          exact last s i7 _ _ hf7 hR7 h57 hs
    have body : ∀ i4 z1 z2, Fx [4, 100, 105, 106, 107, 108, 109, 110, 111, 112, 115] i i4 → TP i4 B N → i4 0 5 = nI 0 → RP B N i4 (xpS B N 0 (0, 0, 0, pln)) → MR (some (.int (if (rvS B N).1 = 0 then nI ((rvS B N).2.2.2 0) else -nI 30 - nI (rvS B N).1))) Q (am_Ex (d + 29) mM_river 66 [.val (.ref 0), z1, z2] [] (i4, l3, rM, kM)) := by
      intro i4 z1 z2 hf4 hT4 h54 hR4
      have hQ2 : SQ (0, 0, 0, pln) := fun _ => ⟨by decide, by decide, fun k hk => by
        show (if 18 + k = 1 then 1 else if 18 + k = 3 then 5 else 0) ≤ 7
        rw [if_neg (by omega), if_neg (by omega)]; decide⟩
      have g0 := Pg_xp (k := 0) hC2 (by decide)
      have hC4 := Pg_cb g0 hC2
      have hQ4 := SQ_xp (B := B) (N := N) (k := 0) hQ2
      obtain ⟨v, hv, i5, l5, e5, hl5, hf5, hR5⟩ := r_M_takes (i := i4) (l := l3) (d + 26) (lo := 1) (hi := 6) (by decide) (by decide) hT4 hR4
      subst hl5
      have hR6 := RP_st (k := 1) (v := v) hR5 hv
      have hC6 := Pq_cb (Pq_st (k := 1) (v := uj B N (xpS B N 0 (0, 0, 0, pln)).2.2.1) (Pq_of (Pg_tk (lo := 1) (hi := 6) hC4)) (by decide)) hC4
      have hQ6 : SQ (stF 1 (uj B N (xpS B N 0 (0, 0, 0, pln)).2.2.1) (tkS B N 1 6 (xpS B N 0 (0, 0, 0, pln)))) := fun z => by
        rw [stF_w] at z
        obtain ⟨a, b, c⟩ := SQ_tk (lo := 1) (hi := 6) hQ4 z
        obtain ⟨_, _, _, t4⟩ := tkS_0 z
        rw [stF_0 z]
        refine ⟨t4, b, fun k hk => ?_⟩
        show ug _ 1 _ (18 + k) ≤ 7
        unfold ug
        rw [if_neg (by omega)]
        exact c k hk
      have hf6 : Fx [4, 100, 105, 106, 107, 108, 109, 110, 111, 112, 115] i (am_u2 i5 4 1 v) := by (repeat (first | exact Fx_refl _ _ | assumption | refine Fx_u2 rfl ?_ | refine Fx_u1 rfl (by decide) ?_ | refine Fx_step (by assumption) rfl ?_ | refine Fx_stepr (by assumption) rfl rfl ?_))
      have hT6 : TP (am_u2 i5 4 1 v) B N := TP_fx (R := [4]) (by (repeat (first | exact Fx_refl _ _ | assumption | refine Fx_u2 rfl ?_ | refine Fx_u1 rfl (by decide) ?_ | refine Fx_step (by assumption) rfl ?_ | refine Fx_stepr (by assumption) rfl rfl ?_))) (TP_fx hf5 hT4 rfl rfl) rfl rfl
      have h56 : am_u2 i5 4 1 v 0 5 = nI 0 := by show i5 0 5 = nI 0; rw [hf5 0 5 rfl]; exact h54
      obtain ⟨i7, l7, e7, hl7, hf7, hR7⟩ := r_M_ends (i := am_u2 i5 4 1 v) (l := l5) (d + 25) hT6 hR6
      subst hl7
      obtain ⟨g3, g4, g5⟩ := en_go hC6 hQ6
      rw [b_M_river_66]
      simp (disch := first | assumption | omega) only [b_M_river_0, b_M_river_16, b_M_river_49, b_M_river_53, b_M_river_58, b_M_river_66, b_M_river_78, b_M_river_103, b_M_river_107, b_M_river_134, s_M_plain, s_M_within, ↓Bool.cond_decide, ↓q_in, q_le, q_lt, q_eq, q_leT, q_leF, q_ltT, q_ltF, q_eqT, q_eqF, ↓reduceIte, not_true_eq_false, not_false_eq_true, true_and, and_true, and_self, false_and, and_false, Nat.zero_le, am_bd_some, q_app, q_app0, nI_add, pk_sub, pk_mul, q_dec, q_ix, q_m1, q_m1', ↓q_ret, q_bool, q_bool1, q_u1, q_shl1, q_shr, q_and7, q_dg, fa_or, fa_and, decide_true, decide_false, Bool.or_false, Bool.or_true, Bool.true_or, Bool.false_or, cond_true, cond_false, ite_not, q_some, q_nn, q_xor, q_xorm, Bool.false_eq_true, decide_eq_true_eq, ne_eq, l_0, l_1, l_2, l_3, l_4, l_5, l_6, l_7, l_8, l_9, l_11, l_12, l_13, l_14, l_16, l_20, l_21, l_24, l_30, l_49, l_53, l_58, l_66, l_78, l_83, l_103, l_107, l_110, l_134, l_154, l_1074, l_3222, e5, e7]
      refine loop 1000 _ i7 _ _ hR7 (Pq_cb g3 hC6) g4 (by (repeat (first | exact Fx_refl _ _ | assumption | refine Fx_u2 rfl ?_ | refine Fx_u1 rfl (by decide) ?_ | refine Fx_step (by assumption) rfl ?_ | refine Fx_stepr (by assumption) rfl rfl ?_))) (TP_fx hf7 hT6 rfl rfl) ?_ (fun z => by omega) rfl
      rw [hf7 0 5 rfl]; exact h56
    have h53 : i3 0 5 = nI 0 := by rw [hf3 0 5 rfl, hf2 0 5 rfl]; exact h51
    cases hb : isS B N 0 (0, 0, 0, pln) with
    | true =>
      have ex : xpS B N 0 (0, 0, 0, pln) = nxS (0, 0, 0, pln) := by unfold xpS; rw [if_pos hb]
      rw [et_1 hb, ← ex] at hR3
      rw [hb] at e3
      simp (disch := first | assumption | omega) only [b_M_river_0, b_M_river_16, b_M_river_49, b_M_river_53, b_M_river_58, b_M_river_78, b_M_river_103, b_M_river_107, b_M_river_134, s_M_plain, s_M_within, ↓Bool.cond_decide, ↓q_in, q_le, q_lt, q_eq, q_leT, q_leF, q_ltT, q_ltF, q_eqT, q_eqF, ↓reduceIte, not_true_eq_false, not_false_eq_true, true_and, and_true, and_self, false_and, and_false, Nat.zero_le, am_bd_some, q_app, q_app0, nI_add, pk_sub, pk_mul, q_dec, q_ix, q_m1, q_m1', ↓q_ret, q_bool, q_bool1, q_u2, q_u1, q_shl1, q_shr, q_and7, q_dg, fa_or, fa_and, decide_true, decide_false, Bool.or_false, Bool.or_true, Bool.true_or, Bool.false_or, cond_true, cond_false, ite_not, q_some, q_nn, q_xor, q_xorm, Bool.false_eq_true, decide_eq_true_eq, ne_eq, l_0, l_1, l_2, l_3, l_4, l_5, l_6, l_7, l_8, l_9, l_11, l_12, l_13, l_14, l_16, l_20, l_21, l_24, l_30, l_49, l_53, l_58, l_66, l_78, l_83, l_103, l_107, l_110, l_134, l_154, l_1074, l_3222, e2, e3]
      exact body i3 _ _ (by (repeat (first | exact Fx_refl _ _ | assumption | refine Fx_u2 rfl ?_ | refine Fx_u1 rfl (by decide) ?_ | refine Fx_step (by assumption) rfl ?_ | refine Fx_stepr (by assumption) rfl rfl ?_))) (TP_fx hf3 hT2 rfl rfl) h53 hR3
    | false =>
      have ex : xpS B N 0 (0, 0, 0, pln) = flS B N 2 (0, 0, 0, pln) := by unfold xpS; rw [if_neg (by rw [hb]; decide)]
      rw [et_0 hb] at hR3
      rw [hb] at e3
      obtain ⟨i4, l4, e4, hl4, hf4, hR4⟩ := r_M_fails (i := i3) (l := l3) (d + 28) (k := 2) (by decide) (by decide) hN9 hR3
      subst hl4
      rw [← ex] at hR4
      simp (disch := first | assumption | omega) only [b_M_river_0, b_M_river_16, b_M_river_49, b_M_river_53, b_M_river_58, b_M_river_78, b_M_river_103, b_M_river_107, b_M_river_134, s_M_plain, s_M_within, ↓Bool.cond_decide, ↓q_in, q_le, q_lt, q_eq, q_leT, q_leF, q_ltT, q_ltF, q_eqT, q_eqF, ↓reduceIte, not_true_eq_false, not_false_eq_true, true_and, and_true, and_self, false_and, and_false, Nat.zero_le, am_bd_some, q_app, q_app0, nI_add, pk_sub, pk_mul, q_dec, q_ix, q_m1, q_m1', ↓q_ret, q_bool, q_bool1, q_u2, q_u1, q_shl1, q_shr, q_and7, q_dg, fa_or, fa_and, decide_true, decide_false, Bool.or_false, Bool.or_true, Bool.true_or, Bool.false_or, cond_true, cond_false, ite_not, q_some, q_nn, q_xor, q_xorm, Bool.false_eq_true, decide_eq_true_eq, ne_eq, l_0, l_1, l_2, l_3, l_4, l_5, l_6, l_7, l_8, l_9, l_11, l_12, l_13, l_14, l_16, l_20, l_21, l_24, l_30, l_49, l_53, l_58, l_66, l_78, l_83, l_103, l_107, l_110, l_134, l_154, l_1074, l_3222, e2, e3, e4]
      exact body i4 _ _ (by (repeat (first | exact Fx_refl _ _ | assumption | refine Fx_u2 rfl ?_ | refine Fx_u1 rfl (by decide) ?_ | refine Fx_step (by assumption) rfl ?_ | refine Fx_stepr (by assumption) rfl rfl ?_))) (TP_fx hf4 (TP_fx hf3 hT2 rfl rfl) rfl rfl) (by rw [hf4 0 5 rfl]; exact h53) hR4
  · rw [if_neg hx] at hQ ⊢
    simp (disch := first | assumption | omega) only [b_M_river_0, b_M_river_16, b_M_river_49, b_M_river_53, b_M_river_58, b_M_river_66, b_M_river_78, b_M_river_103, b_M_river_107, b_M_river_110, b_M_river_134, s_M_plain, s_M_within, ↓Bool.cond_decide, ↓q_in, q_le, q_lt, q_eq, q_leT, q_leF, q_ltT, q_ltF, q_eqT, q_eqF, ↓reduceIte, not_true_eq_false, not_false_eq_true, true_and, and_true, and_self, false_and, and_false, Nat.zero_le, am_bd_some, q_app, q_app0, nI_add, pk_sub, pk_mul, q_dec, q_ix, q_m1, q_m1', ↓q_ret, q_bool, q_bool1, q_u1, q_shl1, q_shr, q_and7, q_dg, fa_or, fa_and, decide_true, decide_false, Bool.or_false, Bool.or_true, Bool.true_or, Bool.false_or, cond_true, cond_false, ite_not, q_some, q_nn, q_xor, q_xorm, Bool.false_eq_true, decide_eq_true_eq, ne_eq, l_0, l_1, l_2, l_3, l_4, l_5, l_6, l_7, l_8, l_9, l_11, l_12, l_13, l_14, l_16, l_20, l_21, l_24, l_30, l_49, l_53, l_58, l_66, l_78, l_83, l_103, l_107, l_110, l_134, l_154, l_1074, l_3222, e, hx, h5]
    exact MR_some (hQ _ _ (MS_fx (R := [100]) (by (repeat (first | exact Fx_refl _ _ | assumption | refine Fx_u2 rfl ?_ | refine Fx_u1 rfl (by decide) ?_ | refine Fx_step (by assumption) rfl ?_ | refine Fx_stepr (by assumption) rfl rfl ?_))) rfl rfl hS))
end
