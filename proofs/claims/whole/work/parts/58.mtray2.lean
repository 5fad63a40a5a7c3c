/-! THE MODEL: told deeds judged and done, seasons, trays, images, the tape -/
theorem q_byte (x : Int32) {s : Nat} (hs : s ≤ 24) : (x >>> nI (s &&& 31)) &&& nI 255 = nI (x.toBitVec.toNat / 2 ^ s % 256) := by
  rw [pk_and _ 8 (by decide)]
  congr 1
  have e : ((nI (s &&& 31)).toBitVec.smod 32).toNat = s := by
    have := k_sh31 s (by omega)
    rw [show (31 : Int32) = nI 31 from rfl, fa_and] at this
    exact this
  have e2 : (x >>> nI (s &&& 31)).toBitVec = x.toBitVec.sshiftRight s := by
    show x.toBitVec.sshiftRight ((nI (s &&& 31)).toBitVec.smod 32).toNat = _
    rw [e]
  rw [e2]
  apply Nat.eq_of_testBit_eq
  intro j
  rw [show (256 : Nat) = 2 ^ 8 from rfl, Nat.testBit_mod_two_pow, Nat.testBit_mod_two_pow, Nat.testBit_div_two_pow]
  by_cases hj : j < 8
  · have h := BitVec.getLsbD_sshiftRight (x := x.toBitVec) (s := s) (i := j)
    rw [if_pos (by omega)] at h
    have h2 : (!decide (32 ≤ j)) = true := by simp; omega
    rw [h2, Bool.true_and] at h
    have h3 : (x.toBitVec.sshiftRight s).toNat.testBit j = (x.toBitVec.sshiftRight s).getLsbD j := rfl
    have h4 : x.toBitVec.toNat.testBit (s + j) = x.toBitVec.getLsbD (s + j) := rfl
    rw [h3, h, ← h4, Nat.add_comm]
  · rw [decide_eq_false hj, Bool.false_and, Bool.false_and]
def fW (a b c d e : Int32) (k : Nat) : Int32 := if k < 4 then a else if k < 8 then b else if k < 12 then c else if k < 16 then d else e
def fB (a b c d e : Int32) (k : Nat) : Nat := (fW a b c d e k).toBitVec.toNat / 2 ^ (24 - 8 * (k % 4)) % 256
def v_feed (σ : St) : Int32 := if σ.2.2.2.1 + 20 ≤ 900 then nI (σ.2.2.2.1 + 20) else -nI 5
def a_feed (σ : St) (a b c d e : Int32) : St := if σ.2.2.2.1 + 20 ≤ 900 then (σ.1, σ.2.1, (fun k => if σ.2.2.2.1 ≤ k ∧ k < σ.2.2.2.1 + 20 then fB a b c d e (k - σ.2.2.2.1) else σ.2.2.1 k), σ.2.2.2.1 + 20, σ.2.2.2.2) else σ
def gImage (g : Nat → Nat) (x : Nat) : Nat → Nat := fun j => if 1074 * (x + 1) ≤ j ∧ j < 1074 * (x + 1) + 1074 then g (j - 1074 * (x + 1)) else g j
def gRest (g : Nat → Nat) (x : Nat) : Nat → Nat := fun j => if j = 32 then 0 else if j < 1074 then g (1074 * (x + 1) + j) else g j
def v_image (x : Int32) : Int32 := if iR 0 1 x = true then nI 0 else -nI 2
def a_image (σ : St) (x : Int32) : St := if iR 0 1 x = true then (gImage σ.1 x.toNatClampNeg, (fun k => decide (k = x.toNatClampNeg) || σ.2.1 k), σ.2.2) else σ
def v_restore (σ : St) (x : Int32) : Int32 := if iR 0 1 x = true then (if σ.2.1 x.toNatClampNeg = true then nI 0 else -nI 5) else -nI 2
def a_restore (σ : St) (x : Int32) : St := if iR 0 1 x = true ∧ σ.2.1 x.toNatClampNeg = true then (gRest σ.1 x.toNatClampNeg, σ.2) else σ
def v_numbers (x y z : Int32) : Int32 := if iR 0 3 x = true ∧ iR 0 3 y = true then (if iR 0 40 z = true then nI 0 else -nI 3) else -nI 2
def a_numbers (σ : St) (x y z : Int32) : St := if iR 0 3 x = true ∧ iR 0 3 y = true ∧ iR 0 40 z = true then (σ.1, σ.2.1, σ.2.2.1, σ.2.2.2.1, σ.2.2.2.2.1, σ.2.2.2.2.2.1, (fun t => if t = x.toNatClampNeg then y else σ.2.2.2.2.2.2.1 t), (fun t => if t = x.toNatClampNeg then z.toNatClampNeg else σ.2.2.2.2.2.2.2.1 t), (fun k => if 40 * x.toNatClampNeg ≤ k ∧ k < 40 * x.toNatClampNeg + z.toNatClampNeg then 0 else σ.2.2.2.2.2.2.2.2 k)) else σ
def cutS (v : Int64) (s : Int32) : Int64 := if s = nI 0 then Int32.toInt64 (Int32.toInt8 (Int64.toInt32 v)).toInt32 else if s = nI 1 then Int32.toInt64 (Int32.toInt16 (Int64.toInt32 v)).toInt32 else if s = nI 2 then Int32.toInt64 (Int64.toInt32 v) else v
def v_write (σ : St) (x y : Int32) (v : Int64) : Int64 := if vNo σ x = nI 0 then (if iB y (σ.2.2.2.2.2.2.2.1 x.toNatClampNeg) = true then cutS v (σ.2.2.2.2.2.2.1 x.toNatClampNeg) else -7) else Int32.toInt64 (vNo σ x)
def a_write (σ : St) (x y : Int32) (v : Int64) : St := if vNo σ x = nI 0 ∧ iB y (σ.2.2.2.2.2.2.2.1 x.toNatClampNeg) = true then (σ.1, σ.2.1, σ.2.2.1, σ.2.2.2.1, σ.2.2.2.2.1, σ.2.2.2.2.2.1, σ.2.2.2.2.2.2.1, σ.2.2.2.2.2.2.2.1, (fun k => if k = 40 * x.toNatClampNeg + y.toNatClampNeg then cutS v (σ.2.2.2.2.2.2.1 x.toNatClampNeg) else σ.2.2.2.2.2.2.2.2 k)) else σ
section
variable {i : Nat → Nat → Int32} {l : Nat → Nat → Int64} {g : Nat → Nat}
theorem r_M_judge (d : Nat) (x y : Int32) {σ : St} (hS : MS i l σ) (hW : WG σ.1) (hT : WT σ) : MR (some (.int (v_judge σ x y))) (fun i' l' => MS i' l' σ) (am_cl (d + 10) mM_judge [.ref 0, .int x, .int y] (i, l, rM, kM)) := by
  have hW' := hW
  obtain ⟨g, σ⟩ := σ
  obtain ⟨⟨h1', h1⟩, h2, h3, hR, hF, hP, hSt, hD, hL0, hL1, hV⟩ := hW
  have h1 : g 1 ≤ 6 := h1
  have h2 : g 2 ≤ 4 := h2
  have hR : ∀ p, p < 4 → g (10 + p) ≤ 4 := hR
  have hP : ∀ p, p < 4 → g (18 + p) < 8 := hP
  have hSt : ∀ p, p < 4 → g (22 + p) ≤ 9 := hSt
  have hD : ∀ s, s < 6 → g (26 + s) ≤ 9 := hD
  have hA := hS.1
  have hn := sNow_lt g hP 4 (by decide)
  have hf0 : Fx [100] i (am_u2 i 0 0 (nI 0)) := by (repeat (first | exact Fx_refl _ _ | assumption | refine Fx_u2 rfl ?_ | refine Fx_u1 rfl (by decide) ?_ | refine Fx_step (by assumption) rfl ?_ | refine Fx_stepr (by assumption) rfl rfl ?_))
  have hM0 : MA (am_u2 i 0 0 (nI 0)) g := MA_fx hf0 hA rfl
  have hM0' : ∀ k, k < 3222 → am_u2 i 0 0 (nI 0) 1 k = nI (g k) := hM0
  have e := iR_e 0 3 (lo := 0) (hi := 3) rfl rfl y
  have hno := s_M_noTray (i := am_u2 i 0 0 (nI 0)) (l := l) (d + 7) x (σ := (g, σ)) (fun t ht => hS.2.2.2.2.2.2.1 t ht)
  rw [c_M_judge, b_M_judge_0, v_judge]
  by_cases hy : iR 0 3 y = true
  · by_cases h0 : vNo (g, σ) x = nI 0
    · simp (disch := first | assumption | omega) only [b_M_judge_0, b_M_judge_14, b_M_judge_25, b_M_judge_36, b_M_judge_41, b_M_judge_47, b_M_judge_53, b_M_judge_96, b_M_judge_105, s_M_over, s_M_standNow, s_M_standing, s_M_within, ↓Bool.cond_decide, ↓q_in, q_le, q_lt, q_eq, q_leT, q_leF, q_ltT, q_ltF, q_eqT, q_eqF, ↓reduceIte, not_true_eq_false, not_false_eq_true, true_and, and_true, and_self, false_and, and_false, Nat.zero_le, am_bd_some, q_app, q_app0, nI_add, pk_sub, pk_mul, q_dec, q_ix, q_m1, q_m1', ↓q_ret, q_bool, q_bool1, q_u1, q_shl1, q_shr, q_and7, q_dg, fa_or, fa_and, decide_true, decide_false, Bool.or_false, Bool.or_true, Bool.true_or, Bool.false_or, cond_true, cond_false, ite_not, q_some, q_nn, q_xor, q_xorm, Bool.false_eq_true, decide_eq_true_eq, ne_eq, l_0, l_1, l_2, l_3, l_4, l_5, l_8, l_9, l_10, l_14, l_22, l_25, l_29, l_36, l_41, l_47, l_53, l_96, l_105, e, hy, hno, h0]
      obtain ⟨hx, _⟩ := vNo_0 h0
      obtain ⟨t, ht, rfl⟩ := iB_T hx
      refine MR_bd (r_M_keeps (d + 8) hM0) ?_
      intro i2 l2 ⟨hl2, hf2, hw2⟩
      subst hl2
      have hM2 : MA i2 g := MA_fx hf2 hM0 rfl
      have h23 : i2 23 t = nI ((g, σ).2.2.2.2.2.2.2.1 t) := by rw [Fx_row hf2 (by decide) rfl]; exact hS.2.2.2.2.2.2.2.1 t ht
      have htl := tl_ok (f := fun k => (g, σ).2.2.2.2.2.2.2.2 (40 * t + k)) ((g, σ).2.2.2.2.2.2.2.1 t) 0 g hW'
      have hk := (hT t ht).1
      simp (disch := first | assumption | omega) only [b_M_judge_0, b_M_judge_14, b_M_judge_25, b_M_judge_36, b_M_judge_41, b_M_judge_47, b_M_judge_53, b_M_judge_96, b_M_judge_105, s_M_noTray, s_M_over, s_M_standNow, s_M_standing, s_M_within, ↓Bool.cond_decide, ↓q_in, q_le, q_lt, q_eq, q_leT, q_leF, q_ltT, q_ltF, q_eqT, q_eqF, ↓reduceIte, not_true_eq_false, not_false_eq_true, true_and, and_true, and_self, false_and, and_false, Nat.zero_le, am_bd_some, q_app, q_app0, nI_add, pk_sub, pk_mul, q_dec, q_ix, q_m1, q_m1', ↓q_ret, q_bool, q_bool1, q_u2, q_u1, q_shl1, q_shr, q_and7, q_dg, fa_or, fa_and, decide_true, decide_false, Bool.or_false, Bool.or_true, Bool.true_or, Bool.false_or, cond_true, cond_false, ite_not, q_some, q_nn, q_xor, q_xorm, Bool.false_eq_true, decide_eq_true_eq, ne_eq, l_0, l_1, l_2, l_3, l_4, l_5, l_8, l_9, l_10, l_14, l_22, l_25, l_29, l_36, l_41, l_47, l_53, l_96, l_105]
      refine MR_bd (r_M_tells d ht hk h23 (fun k hk => hS.2.2.2.2.2.2.2.2 (40 * t + k) (by omega)) hM2 hW') ?_
      intro i3 l3 ⟨hl3, hf3, hM3, h22⟩
      subst hl3
      have eT : tl (fun k => (g, σ).2.2.2.2.2.2.2.2 (40 * t + k)) ((g, σ).2.2.2.2.2.2.2.1 t) 0 g = tlS (g, σ) g t := rfl
      rw [eT] at hM3 h22 htl ⊢
      obtain ⟨t1, t2, t3, t4, t5⟩ := htl
      have hP3 : ∀ p, p < 4 → (tlS (g, σ) g t).2.2 (18 + p) < 8 := t1.2.2.2.2.2.1
      have hn3 := sNow_lt _ hP3 4 (by decide)
      simp (disch := first | assumption | omega) only [b_M_judge_0, b_M_judge_14, b_M_judge_25, b_M_judge_36, b_M_judge_41, b_M_judge_47, b_M_judge_53, b_M_judge_96, b_M_judge_105, s_M_noTray, s_M_over, s_M_standNow, s_M_standing, s_M_within, ↓Bool.cond_decide, ↓q_in, q_le, q_lt, q_eq, q_leT, q_leF, q_ltT, q_ltF, q_eqT, q_eqF, ↓reduceIte, not_true_eq_false, not_false_eq_true, true_and, and_true, and_self, false_and, and_false, Nat.zero_le, am_bd_some, q_app, q_app0, nI_add, pk_sub, pk_mul, q_dec, q_ix, q_m1, q_m1', ↓q_ret, q_bool, q_bool1, q_u2, q_u1, q_shl1, q_shr, q_and7, q_dg, fa_or, fa_and, decide_true, decide_false, Bool.or_false, Bool.or_true, Bool.true_or, Bool.false_or, cond_true, cond_false, ite_not, q_some, q_nn, q_xor, q_xorm, Bool.false_eq_true, decide_eq_true_eq, ne_eq, l_0, l_1, l_2, l_3, l_4, l_5, l_8, l_9, l_10, l_14, l_22, l_25, l_29, l_36, l_41, l_47, l_53, l_96, l_105]
      refine MR_bd (r_M_isAgain (d + 8) (w := gCur g) hM3 (fun k hk => by rw [Fx_row hf3 (by decide) rfl]; exact hw2 k hk)) ?_
      intro i4 l4 ⟨hl4, hf4, hM4⟩
      subst hl4
      have hM5 : MA i4 g := fun j hj => by
        rw [hM4 j hj]
        dsimp only
        by_cases e : 18 ≤ j ∧ j < 32
        · rw [if_pos e]
          unfold gCur
          rw [show 18 + (j - 18) = j by omega]
        · rw [if_neg e, t2 j (by omega)]
      have hfin : MS i4 l4 (g, σ) := MS_g (R := RG) (σ := (g, σ)) (by (repeat (first | exact Fx_refl _ _ | assumption | refine Fx_u2 rfl ?_ | refine Fx_u1 rfl (by decide) ?_ | refine Fx_step (by assumption) rfl ?_ | refine Fx_stepr (by assumption) rfl rfl ?_))) rfl rfl hS hM5
      have h22' : i4 0 22 = nI (tlS (g, σ) g t).2.1 := by rw [hf4 0 22 rfl]; exact h22
      by_cases y0 : y = nI 0
      · by_cases hz : (tlS (g, σ) g t).2.1 = 0
        · simp (disch := first | assumption | omega) only [b_M_judge_0, b_M_judge_14, b_M_judge_25, b_M_judge_36, b_M_judge_41, b_M_judge_47, b_M_judge_53, b_M_judge_96, b_M_judge_105, s_M_noTray, s_M_over, s_M_standNow, s_M_standing, s_M_within, ↓Bool.cond_decide, ↓q_in, q_le, q_lt, q_eq, q_leT, q_leF, q_ltT, q_ltF, q_eqT, q_eqF, ↓reduceIte, not_true_eq_false, not_false_eq_true, true_and, and_true, and_self, false_and, and_false, Nat.zero_le, am_bd_some, q_app, q_app0, nI_add, pk_sub, pk_mul, q_dec, q_ix, q_m1, q_m1', ↓q_ret, q_bool, q_bool1, q_u2, q_u1, q_shl1, q_shr, q_and7, q_dg, fa_or, fa_and, decide_true, decide_false, Bool.or_false, Bool.or_true, Bool.true_or, Bool.false_or, cond_true, cond_false, ite_not, q_some, q_nn, q_xor, q_xorm, Bool.false_eq_true, decide_eq_true_eq, ne_eq, l_0, l_1, l_2, l_3, l_4, l_5, l_8, l_9, l_10, l_14, l_22, l_25, l_29, l_36, l_41, l_47, l_53, l_96, l_105, y0, h22', hz]
          exact MR_some hfin
        · simp (disch := first | assumption | omega) only [b_M_judge_0, b_M_judge_14, b_M_judge_25, b_M_judge_36, b_M_judge_41, b_M_judge_47, b_M_judge_53, b_M_judge_96, b_M_judge_105, s_M_noTray, s_M_over, s_M_standNow, s_M_standing, s_M_within, ↓Bool.cond_decide, ↓q_in, q_le, q_lt, q_eq, q_leT, q_leF, q_ltT, q_ltF, q_eqT, q_eqF, ↓reduceIte, not_true_eq_false, not_false_eq_true, true_and, and_true, and_self, false_and, and_false, Nat.zero_le, am_bd_some, q_app, q_app0, nI_add, pk_sub, pk_mul, q_dec, q_ix, q_m1, q_m1', ↓q_ret, q_bool, q_bool1, q_u2, q_u1, q_shl1, q_shr, q_and7, q_dg, fa_or, fa_and, decide_true, decide_false, Bool.or_false, Bool.or_true, Bool.true_or, Bool.false_or, cond_true, cond_false, ite_not, q_some, q_nn, q_xor, q_xorm, Bool.false_eq_true, decide_eq_true_eq, ne_eq, l_0, l_1, l_2, l_3, l_4, l_5, l_8, l_9, l_10, l_14, l_22, l_25, l_29, l_36, l_41, l_47, l_53, l_96, l_105, y0, h22', hz]
          exact MR_some hfin
      by_cases y1 : y = nI 1
      · simp (disch := first | assumption | omega) only [b_M_judge_0, b_M_judge_14, b_M_judge_25, b_M_judge_36, b_M_judge_41, b_M_judge_47, b_M_judge_53, b_M_judge_96, b_M_judge_105, s_M_noTray, s_M_over, s_M_standNow, s_M_standing, s_M_within, ↓Bool.cond_decide, ↓q_in, q_le, q_lt, q_eq, q_leT, q_leF, q_ltT, q_ltF, q_eqT, q_eqF, ↓reduceIte, not_true_eq_false, not_false_eq_true, true_and, and_true, and_self, false_and, and_false, Nat.zero_le, am_bd_some, q_app, q_app0, nI_add, pk_sub, pk_mul, q_dec, q_ix, q_m1, q_m1', ↓q_ret, q_bool, q_bool1, q_u2, q_u1, q_shl1, q_shr, q_and7, q_dg, fa_or, fa_and, decide_true, decide_false, Bool.or_false, Bool.or_true, Bool.true_or, Bool.false_or, cond_true, cond_false, ite_not, q_some, q_nn, q_xor, q_xorm, Bool.false_eq_true, decide_eq_true_eq, ne_eq, l_0, l_1, l_2, l_3, l_4, l_5, l_8, l_9, l_10, l_14, l_22, l_25, l_29, l_36, l_41, l_47, l_53, l_96, l_105, y0, y1, h22']
        exact MR_some hfin
      by_cases y2 : y = nI 2
      · simp (disch := first | assumption | omega) only [b_M_judge_0, b_M_judge_14, b_M_judge_25, b_M_judge_36, b_M_judge_41, b_M_judge_47, b_M_judge_53, b_M_judge_96, b_M_judge_105, s_M_noTray, s_M_over, s_M_standNow, s_M_standing, s_M_within, ↓Bool.cond_decide, ↓q_in, q_le, q_lt, q_eq, q_leT, q_leF, q_ltT, q_ltF, q_eqT, q_eqF, ↓reduceIte, not_true_eq_false, not_false_eq_true, true_and, and_true, and_self, false_and, and_false, Nat.zero_le, am_bd_some, q_app, q_app0, nI_add, pk_sub, pk_mul, q_dec, q_ix, q_m1, q_m1', ↓q_ret, q_bool, q_bool1, q_u2, q_u1, q_shl1, q_shr, q_and7, q_dg, fa_or, fa_and, decide_true, decide_false, Bool.or_false, Bool.or_true, Bool.true_or, Bool.false_or, cond_true, cond_false, ite_not, q_some, q_nn, q_xor, q_xorm, Bool.false_eq_true, decide_eq_true_eq, ne_eq, l_0, l_1, l_2, l_3, l_4, l_5, l_8, l_9, l_10, l_14, l_22, l_25, l_29, l_36, l_41, l_47, l_53, l_96, l_105, y0, y1, y2]
        exact MR_some hfin
      · simp (disch := first | assumption | omega) only [b_M_judge_0, b_M_judge_14, b_M_judge_25, b_M_judge_36, b_M_judge_41, b_M_judge_47, b_M_judge_53, b_M_judge_96, b_M_judge_105, s_M_noTray, s_M_over, s_M_standNow, s_M_standing, s_M_within, ↓Bool.cond_decide, ↓q_in, q_le, q_lt, q_eq, q_leT, q_leF, q_ltT, q_ltF, q_eqT, q_eqF, ↓reduceIte, not_true_eq_false, not_false_eq_true, true_and, and_true, and_self, false_and, and_false, Nat.zero_le, am_bd_some, q_app, q_app0, nI_add, pk_sub, pk_mul, q_dec, q_ix, q_m1, q_m1', ↓q_ret, q_bool, q_bool1, q_u2, q_u1, q_shl1, q_shr, q_and7, q_dg, fa_or, fa_and, decide_true, decide_false, Bool.or_false, Bool.or_true, Bool.true_or, Bool.false_or, cond_true, cond_false, ite_not, q_some, q_nn, q_xor, q_xorm, Bool.false_eq_true, decide_eq_true_eq, ne_eq, l_0, l_1, l_2, l_3, l_4, l_5, l_8, l_9, l_10, l_14, l_22, l_25, l_29, l_36, l_41, l_47, l_53, l_96, l_105, y0, y1, y2]
        exact MR_some hfin
    · simp (disch := first | assumption | omega) only [b_M_judge_0, b_M_judge_14, b_M_judge_25, b_M_judge_36, b_M_judge_41, b_M_judge_47, b_M_judge_53, b_M_judge_96, b_M_judge_105, s_M_over, s_M_standNow, s_M_standing, s_M_within, ↓Bool.cond_decide, ↓q_in, q_le, q_lt, q_eq, q_leT, q_leF, q_ltT, q_ltF, q_eqT, q_eqF, ↓reduceIte, not_true_eq_false, not_false_eq_true, true_and, and_true, and_self, false_and, and_false, Nat.zero_le, am_bd_some, q_app, q_app0, nI_add, pk_sub, pk_mul, q_dec, q_ix, q_m1, q_m1', ↓q_ret, q_bool, q_bool1, q_u1, q_shl1, q_shr, q_and7, q_dg, fa_or, fa_and, decide_true, decide_false, Bool.or_false, Bool.or_true, Bool.true_or, Bool.false_or, cond_true, cond_false, ite_not, q_some, q_nn, q_xor, q_xorm, Bool.false_eq_true, decide_eq_true_eq, ne_eq, l_0, l_1, l_2, l_3, l_4, l_5, l_8, l_9, l_10, l_14, l_22, l_25, l_29, l_36, l_41, l_47, l_53, l_96, l_105, e, hy, hno, h0]
      exact MR_some (MS_fx (R := RQ) (by (repeat (first | exact Fx_refl _ _ | assumption | refine Fx_u2 rfl ?_ | refine Fx_u1 rfl (by decide) ?_ | refine Fx_step (by assumption) rfl ?_ | refine Fx_stepr (by assumption) rfl rfl ?_))) rfl rfl hS)
  · simp (disch := first | assumption | omega) only [b_M_judge_0, b_M_judge_14, b_M_judge_25, b_M_judge_36, b_M_judge_41, b_M_judge_47, b_M_judge_53, b_M_judge_96, b_M_judge_105, s_M_over, s_M_standNow, s_M_standing, s_M_within, ↓Bool.cond_decide, ↓q_in, q_le, q_lt, q_eq, q_leT, q_leF, q_ltT, q_ltF, q_eqT, q_eqF, ↓reduceIte, not_true_eq_false, not_false_eq_true, true_and, and_true, and_self, false_and, and_false, Nat.zero_le, am_bd_some, q_app, q_app0, nI_add, pk_sub, pk_mul, q_dec, q_ix, q_m1, q_m1', ↓q_ret, q_bool, q_bool1, q_u2, q_u1, q_shl1, q_shr, q_and7, q_dg, fa_or, fa_and, decide_true, decide_false, Bool.or_false, Bool.or_true, Bool.true_or, Bool.false_or, cond_true, cond_false, ite_not, q_some, q_nn, q_xor, q_xorm, Bool.false_eq_true, decide_eq_true_eq, ne_eq, l_0, l_1, l_2, l_3, l_4, l_5, l_8, l_9, l_10, l_14, l_22, l_25, l_29, l_36, l_41, l_47, l_53, l_96, l_105, e, hy]
    exact MR_some (MS_fx (R := RQ) (by (repeat (first | exact Fx_refl _ _ | assumption | refine Fx_u2 rfl ?_ | refine Fx_u1 rfl (by decide) ?_ | refine Fx_step (by assumption) rfl ?_ | refine Fx_stepr (by assumption) rfl rfl ?_))) rfl rfl hS)
theorem r_M_perform (d : Nat) (x : Int32) {σ : St} (hS : MS i l σ) (hW : WG σ.1) (h32 : σ.1 32 ≤ 10) (hT : WT σ) : MR (some (.int (v_perform σ x))) (fun i' l' => MS i' l' (a_perform σ x)) (am_cl (d + 10) mM_perform [.ref 0, .int x] (i, l, rM, kM)) := by
  have hW' := hW
  obtain ⟨g, σ⟩ := σ
  obtain ⟨⟨h1', h1⟩, h2, h3, hR, hF, hP, hSt, hD, hL0, hL1, hV⟩ := hW
  have h1 : g 1 ≤ 6 := h1
  have h2 : g 2 ≤ 4 := h2
  have hR : ∀ p, p < 4 → g (10 + p) ≤ 4 := hR
  have hP : ∀ p, p < 4 → g (18 + p) < 8 := hP
  have hSt : ∀ p, p < 4 → g (22 + p) ≤ 9 := hSt
  have hD : ∀ s, s < 6 → g (26 + s) ≤ 9 := hD
  have hA := hS.1
  have hn := sNow_lt g hP 4 (by decide)
  have hf0 : Fx [100] i (am_u2 i 0 0 (nI 0)) := by (repeat (first | exact Fx_refl _ _ | assumption | refine Fx_u2 rfl ?_ | refine Fx_u1 rfl (by decide) ?_ | refine Fx_step (by assumption) rfl ?_ | refine Fx_stepr (by assumption) rfl rfl ?_))
  have hM0 : MA (am_u2 i 0 0 (nI 0)) g := MA_fx hf0 hA rfl
  have hM0' : ∀ k, k < 3222 → am_u2 i 0 0 (nI 0) 1 k = nI (g k) := hM0
  have hno := s_M_noTray (i := am_u2 i 0 0 (nI 0)) (l := l) (d + 7) x (σ := (g, σ)) (fun t ht => hS.2.2.2.2.2.2.1 t ht)
  rw [c_M_perform, b_M_perform_0, v_perform, a_perform]
  by_cases h0 : vNo (g, σ) x = nI 0
  · simp (disch := first | assumption | omega) only [b_M_perform_0, b_M_perform_10, b_M_perform_21, b_M_perform_26, b_M_perform_35, ↓Bool.cond_decide, ↓q_in, q_le, q_lt, q_eq, q_leT, q_leF, q_ltT, q_ltF, q_eqT, q_eqF, ↓reduceIte, not_true_eq_false, not_false_eq_true, true_and, and_true, and_self, false_and, and_false, Nat.zero_le, am_bd_some, q_app, q_app0, nI_add, pk_sub, pk_mul, q_dec, q_ix, q_m1, q_m1', ↓q_ret, q_bool, q_bool1, q_u1, q_shl1, q_shr, q_and7, q_dg, fa_or, fa_and, decide_true, decide_false, Bool.or_false, Bool.or_true, Bool.true_or, Bool.false_or, cond_true, cond_false, ite_not, q_some, q_nn, q_xor, q_xorm, Bool.false_eq_true, decide_eq_true_eq, ne_eq, l_0, l_1, l_4, l_5, l_8, l_9, l_10, l_21, l_26, l_35, hno, h0]
    obtain ⟨hx, _⟩ := vNo_0 h0
    obtain ⟨t, ht, rfl⟩ := iB_T hx
    refine MR_bd (r_M_keeps (d + 8) hM0) ?_
    intro i2 l2 ⟨hl2, hf2, hw2⟩
    subst hl2
    have hM2 : MA i2 g := MA_fx hf2 hM0 rfl
    have h23 : i2 23 t = nI ((g, σ).2.2.2.2.2.2.2.1 t) := by rw [Fx_row hf2 (by decide) rfl]; exact hS.2.2.2.2.2.2.2.1 t ht
    have htl := tl_ok (f := fun k => (g, σ).2.2.2.2.2.2.2.2 (40 * t + k)) ((g, σ).2.2.2.2.2.2.2.1 t) 0 g hW'
    have hk := (hT t ht).1
    simp (disch := first | assumption | omega) only [b_M_perform_0, b_M_perform_10, b_M_perform_21, b_M_perform_26, b_M_perform_35, s_M_noTray, ↓Bool.cond_decide, ↓q_in, q_le, q_lt, q_eq, q_leT, q_leF, q_ltT, q_ltF, q_eqT, q_eqF, ↓reduceIte, not_true_eq_false, not_false_eq_true, true_and, and_true, and_self, false_and, and_false, Nat.zero_le, am_bd_some, q_app, q_app0, nI_add, pk_sub, pk_mul, q_dec, q_ix, q_m1, q_m1', ↓q_ret, q_bool, q_bool1, q_u2, q_u1, q_shl1, q_shr, q_and7, q_dg, fa_or, fa_and, decide_true, decide_false, Bool.or_false, Bool.or_true, Bool.true_or, Bool.false_or, cond_true, cond_false, ite_not, q_some, q_nn, q_xor, q_xorm, Bool.false_eq_true, decide_eq_true_eq, ne_eq, l_0, l_1, l_4, l_5, l_8, l_9, l_10, l_21, l_26, l_35]
    refine MR_bd (r_M_tells d ht hk h23 (fun k hk => hS.2.2.2.2.2.2.2.2 (40 * t + k) (by omega)) hM2 hW') ?_
    intro i3 l3 ⟨hl3, hf3, hM3, h22⟩
    subst hl3
    have eT : tl (fun k => (g, σ).2.2.2.2.2.2.2.2 (40 * t + k)) ((g, σ).2.2.2.2.2.2.2.1 t) 0 g = tlS (g, σ) g t := rfl
    rw [eT] at hM3 h22 htl ⊢
    obtain ⟨t1, t2, t3, t4, t5⟩ := htl
    have t5 : (tlS (g, σ) g t).1 ≤ 0 + (g, σ).2.2.2.2.2.2.2.1 t := t5
    by_cases hz : 0 < (tlS (g, σ) g t).1
    · simp (disch := first | assumption | omega) only [b_M_perform_0, b_M_perform_10, b_M_perform_21, b_M_perform_26, b_M_perform_35, s_M_noTray, ↓Bool.cond_decide, ↓q_in, q_le, q_lt, q_eq, q_leT, q_leF, q_ltT, q_ltF, q_eqT, q_eqF, ↓reduceIte, not_true_eq_false, not_false_eq_true, true_and, and_true, and_self, false_and, and_false, Nat.zero_le, am_bd_some, q_app, q_app0, nI_add, pk_sub, pk_mul, q_dec, q_ix, q_m1, q_m1', ↓q_ret, q_bool, q_bool1, q_u2, q_u1, q_shl1, q_shr, q_and7, q_dg, fa_or, fa_and, decide_true, decide_false, Bool.or_false, Bool.or_true, Bool.true_or, Bool.false_or, cond_true, cond_false, ite_not, q_some, q_nn, q_xor, q_xorm, Bool.false_eq_true, decide_eq_true_eq, ne_eq, l_0, l_1, l_4, l_5, l_8, l_9, l_10, l_21, l_26, l_35, hz]
      refine MR_bd (r_M_notes (d + 8) (w := gCur g) hM3 (by rw [t2 32 (by omega)]; exact h32) (fun k hk => by rw [Fx_row hf3 (by decide) rfl]; exact hw2 k hk)) ?_
      intro i4 l4 ⟨hl4, hf4, hM4⟩
      subst hl4
      simp (disch := first | assumption | omega) only [b_M_perform_0, b_M_perform_10, b_M_perform_21, b_M_perform_26, b_M_perform_35, s_M_noTray, ↓Bool.cond_decide, ↓q_in, q_le, q_lt, q_eq, q_leT, q_leF, q_ltT, q_ltF, q_eqT, q_eqF, ↓reduceIte, not_true_eq_false, not_false_eq_true, true_and, and_true, and_self, false_and, and_false, Nat.zero_le, am_bd_some, q_app, q_app0, nI_add, pk_sub, pk_mul, q_dec, q_ix, q_m1, q_m1', ↓q_ret, q_bool, q_bool1, q_u2, q_u1, q_shl1, q_shr, q_and7, q_dg, fa_or, fa_and, decide_true, decide_false, Bool.or_false, Bool.or_true, Bool.true_or, Bool.false_or, cond_true, cond_false, ite_not, q_some, q_nn, q_xor, q_xorm, Bool.false_eq_true, decide_eq_true_eq, ne_eq, l_0, l_1, l_4, l_5, l_8, l_9, l_10, l_21, l_26, l_35]
      exact MR_some (MS_g (R := RG) (σ := (g, σ)) (by (repeat (first | exact Fx_refl _ _ | assumption | refine Fx_u2 rfl ?_ | refine Fx_u1 rfl (by decide) ?_ | refine Fx_step (by assumption) rfl ?_ | refine Fx_stepr (by assumption) rfl rfl ?_))) rfl rfl hS hM4)
    · have hz0 : (tlS (g, σ) g t).1 = 0 := by omega
      have hg : (tlS (g, σ) g t).2.2 = g := by
        show (tl (fun k => (g, σ).2.2.2.2.2.2.2.2 (40 * t + k)) ((g, σ).2.2.2.2.2.2.2.1 t) 0 g).2.2 = g
        have hz1 : (tl (fun k => (g, σ).2.2.2.2.2.2.2.2 (40 * t + k)) ((g, σ).2.2.2.2.2.2.2.1 t) 0 g).1 = 0 := hz0
        cases hc : (g, σ).2.2.2.2.2.2.2.1 t with
        | zero => rfl
        | succ m =>
          rw [hc] at hz1
          rw [tl] at hz1 ⊢
          by_cases hw : lWhy g ((g, σ).2.2.2.2.2.2.2.2 (40 * t + 0)) = 0
          · rw [if_pos hw] at hz1
            obtain ⟨v, hv, ev, hd⟩ := lWhy_0 hw
            have := (tl_ok (f := fun k => (g, σ).2.2.2.2.2.2.2.2 (40 * t + k)) m (0 + 1) (dDo g ((fun k => (g, σ).2.2.2.2.2.2.2.2 (40 * t + k)) 0).toInt.toNat) (by
              show WG (dDo g ((g, σ).2.2.2.2.2.2.2.2 (40 * t + 0)).toInt.toNat)
              rw [ev, pk_lT (by omega), Int.toNat_natCast]
              exact WG_do hW' hd)).2.2.2.1
            have h3 : 0 + 1 ≤ 0 := Nat.le_trans this (Nat.le_of_eq hz1)
            omega
          · rw [if_neg hw]
      rw [hg] at hM3
      simp (disch := first | assumption | omega) only [b_M_perform_0, b_M_perform_10, b_M_perform_21, b_M_perform_26, b_M_perform_35, s_M_noTray, ↓Bool.cond_decide, ↓q_in, q_le, q_lt, q_eq, q_leT, q_leF, q_ltT, q_ltF, q_eqT, q_eqF, ↓reduceIte, not_true_eq_false, not_false_eq_true, true_and, and_true, and_self, false_and, and_false, Nat.zero_le, am_bd_some, q_app, q_app0, nI_add, pk_sub, pk_mul, q_dec, q_ix, q_m1, q_m1', ↓q_ret, q_bool, q_bool1, q_u2, q_u1, q_shl1, q_shr, q_and7, q_dg, fa_or, fa_and, decide_true, decide_false, Bool.or_false, Bool.or_true, Bool.true_or, Bool.false_or, cond_true, cond_false, ite_not, q_some, q_nn, q_xor, q_xorm, Bool.false_eq_true, decide_eq_true_eq, ne_eq, l_0, l_1, l_4, l_5, l_8, l_9, l_10, l_21, l_26, l_35, hz0]
      exact MR_some (MS_g (R := RG) (σ := (g, σ)) (by (repeat (first | exact Fx_refl _ _ | assumption | refine Fx_u2 rfl ?_ | refine Fx_u1 rfl (by decide) ?_ | refine Fx_step (by assumption) rfl ?_ | refine Fx_stepr (by assumption) rfl rfl ?_))) rfl rfl hS hM3)
  · simp (disch := first | assumption | omega) only [b_M_perform_0, b_M_perform_10, b_M_perform_21, b_M_perform_26, b_M_perform_35, ↓Bool.cond_decide, ↓q_in, q_le, q_lt, q_eq, q_leT, q_leF, q_ltT, q_ltF, q_eqT, q_eqF, ↓reduceIte, not_true_eq_false, not_false_eq_true, true_and, and_true, and_self, false_and, and_false, Nat.zero_le, am_bd_some, q_app, q_app0, nI_add, pk_sub, pk_mul, q_dec, q_ix, q_m1, q_m1', ↓q_ret, q_bool, q_bool1, q_u1, q_shl1, q_shr, q_and7, q_dg, fa_or, fa_and, decide_true, decide_false, Bool.or_false, Bool.or_true, Bool.true_or, Bool.false_or, cond_true, cond_false, ite_not, q_some, q_nn, q_xor, q_xorm, Bool.false_eq_true, decide_eq_true_eq, ne_eq, l_0, l_1, l_4, l_5, l_8, l_9, l_10, l_21, l_26, l_35, hno, h0]
    exact MR_some (MS_fx (R := RQ) (by (repeat (first | exact Fx_refl _ _ | assumption | refine Fx_u2 rfl ?_ | refine Fx_u1 rfl (by decide) ?_ | refine Fx_step (by assumption) rfl ?_ | refine Fx_stepr (by assumption) rfl rfl ?_))) rfl rfl hS)
theorem r_M_draw (d : Nat) {b : Nat} {x : Int32} (h0 : 0 < b) (hb : b < 1000) (hx : i 0 23 = x) : am_cl (d + 1) mM_draw [.ref 0, .int (nI b)] (i, l, rM, kM) = some (some (.int (nI (dv (dr x) % b))), (am_u2 i 0 23 (dr x), l, rM, kM)) := by
  have hd := dv_lt (dr x)
  have e : (1103515245 : Int32) * x + 12345 = dr x := rfl
  rw [c_M_draw, b_M_draw_0, hx, e, q_dv, pk_rem (by omega) h0 (by omega)]
  rw [decide_eq_false (nI_ne0 h0 (by omega))]
  rfl
theorem r_M_drawn (d : Nat) {x : Int32} (hx : i 0 23 = x) : MR (some (.int (nI (dN x).1))) (fun i' l' => l' = l ∧ Fx [123] i i' ∧ i' 0 23 = (dN x).2) (am_cl (d + 2) mM_drawn [.ref 0] (i, l, rM, kM)) := by
  have q1 := r_M_draw (i := i) (l := l) d (b := 6) (by decide) (by decide) hx
  have hd := dv_lt (dr x)
  have hd2 := dv_lt (dr (dr x))
  have hd3 := dv_lt (dr (dr (dr x)))
  have s1 : am_u2 i 0 23 (dr x) 0 23 = dr x := rfl
  have s2 : am_u2 (am_u2 i 0 23 (dr x)) 0 23 (dr (dr x)) 0 23 = dr (dr x) := rfl
  rw [c_M_drawn, b_M_drawn_0]
  unfold dN
  by_cases h4 : dv (dr x) % 6 = 4
  · have q2 := r_M_draw (i := am_u2 i 0 23 (dr x)) (l := l) d (b := 10) (by decide) (by decide) s1
    simp (disch := first | assumption | omega) only [b_M_drawn_0, b_M_drawn_6, b_M_drawn_20, b_M_drawn_27, b_M_drawn_47, b_M_drawn_61, b_M_drawn_62, ↓Bool.cond_decide, ↓q_in, q_le, q_lt, q_eq, q_leT, q_leF, q_ltT, q_ltF, q_eqT, q_eqF, ↓reduceIte, not_true_eq_false, not_false_eq_true, true_and, and_true, and_self, false_and, and_false, Nat.zero_le, am_bd_some, q_app, q_app0, nI_add, pk_sub, pk_mul, q_dec, q_ix, q_m1, q_m1', ↓q_ret, q_bool, q_bool1, q_u1, q_shl1, q_shr, q_and7, q_dg, fa_or, fa_and, decide_true, decide_false, Bool.or_false, Bool.or_true, Bool.true_or, Bool.false_or, cond_true, cond_false, ite_not, q_some, q_nn, q_xor, q_xorm, Bool.false_eq_true, decide_eq_true_eq, ne_eq, l_0, l_1, l_3, l_4, l_5, l_6, l_8, l_10, l_13, l_20, l_27, l_47, l_61, l_62, l_100, l_200, q1, h4, q2]
    exact MR_some ⟨rfl, by (repeat (first | exact Fx_refl _ _ | assumption | refine Fx_u2 rfl ?_ | refine Fx_u1 rfl (by decide) ?_ | refine Fx_step (by assumption) rfl ?_ | refine Fx_stepr (by assumption) rfl rfl ?_)), rfl⟩
  · have q2 := r_M_draw (i := am_u2 i 0 23 (dr x)) (l := l) d (b := 4) (by decide) (by decide) s1
    by_cases h5 : dv (dr x) % 6 = 5
    · have q3 := r_M_draw (i := am_u2 (am_u2 i 0 23 (dr x)) 0 23 (dr (dr x))) (l := l) d (b := 10) (by decide) (by decide) s2
      simp (disch := first | assumption | omega) only [b_M_drawn_0, b_M_drawn_6, b_M_drawn_20, b_M_drawn_27, b_M_drawn_47, b_M_drawn_61, b_M_drawn_62, ↓Bool.cond_decide, ↓q_in, q_le, q_lt, q_eq, q_leT, q_leF, q_ltT, q_ltF, q_eqT, q_eqF, ↓reduceIte, not_true_eq_false, not_false_eq_true, true_and, and_true, and_self, false_and, and_false, Nat.zero_le, am_bd_some, q_app, q_app0, nI_add, pk_sub, pk_mul, q_dec, q_ix, q_m1, q_m1', ↓q_ret, q_bool, q_bool1, q_u1, q_shl1, q_shr, q_and7, q_dg, fa_or, fa_and, decide_true, decide_false, Bool.or_false, Bool.or_true, Bool.true_or, Bool.false_or, cond_true, cond_false, ite_not, q_some, q_nn, q_xor, q_xorm, Bool.false_eq_true, decide_eq_true_eq, ne_eq, l_0, l_1, l_3, l_4, l_5, l_6, l_8, l_10, l_13, l_20, l_27, l_47, l_61, l_62, l_100, l_200, q1, h5, q2, q3]
      exact MR_some ⟨rfl, by (repeat (first | exact Fx_refl _ _ | assumption | refine Fx_u2 rfl ?_ | refine Fx_u1 rfl (by decide) ?_ | refine Fx_step (by assumption) rfl ?_ | refine Fx_stepr (by assumption) rfl rfl ?_)), rfl⟩
    · have q3 := r_M_draw (i := am_u2 (am_u2 i 0 23 (dr x)) 0 23 (dr (dr x))) (l := l) d (b := 8) (by decide) (by decide) s2
      simp (disch := first | assumption | omega) only [b_M_drawn_0, b_M_drawn_6, b_M_drawn_20, b_M_drawn_27, b_M_drawn_47, b_M_drawn_61, b_M_drawn_62, ↓Bool.cond_decide, ↓q_in, q_le, q_lt, q_eq, q_leT, q_leF, q_ltT, q_ltF, q_eqT, q_eqF, ↓reduceIte, not_true_eq_false, not_false_eq_true, true_and, and_true, and_self, false_and, and_false, Nat.zero_le, am_bd_some, q_app, q_app0, nI_add, pk_sub, pk_mul, q_dec, q_ix, q_m1, q_m1', ↓q_ret, q_bool, q_bool1, q_u1, q_shl1, q_shr, q_and7, q_dg, fa_or, fa_and, decide_true, decide_false, Bool.or_false, Bool.or_true, Bool.true_or, Bool.false_or, cond_true, cond_false, ite_not, q_some, q_nn, q_xor, q_xorm, Bool.false_eq_true, decide_eq_true_eq, ne_eq, l_0, l_1, l_3, l_4, l_5, l_6, l_8, l_10, l_13, l_20, l_27, l_47, l_61, l_62, l_100, l_200, q1, q2, q3]
      exact MR_some ⟨rfl, by (repeat (first | exact Fx_refl _ _ | assumption | refine Fx_u2 rfl ?_ | refine Fx_u1 rfl (by decide) ?_ | refine Fx_step (by assumption) rfl ?_ | refine Fx_stepr (by assumption) rfl rfl ?_)), rfl⟩
theorem r_M_season (d : Nat) (x y : Int32) {σ : St} (hS : MS i l σ) (hW : WG σ.1) (h32 : σ.1 32 ≤ 10) : MR (some (.int (v_season σ.1 x y))) (fun i' l' => MS i' l' (a_season σ x y)) (am_cl (d + 9) mM_season [.ref 0, .int x, .int y] (i, l, rM, kM)) := by
  have hW' := hW
  obtain ⟨g, σ⟩ := σ
  obtain ⟨⟨h1', h1⟩, h2, h3, hR, hF, hP, hSt, hD, hL0, hL1, hV⟩ := hW
  have h1 : g 1 ≤ 6 := h1
  have h2 : g 2 ≤ 4 := h2
  have hR : ∀ p, p < 4 → g (10 + p) ≤ 4 := hR
  have hP : ∀ p, p < 4 → g (18 + p) < 8 := hP
  have hSt : ∀ p, p < 4 → g (22 + p) ≤ 9 := hSt
  have hD : ∀ s, s < 6 → g (26 + s) ≤ 9 := hD
  have hA := hS.1
  have hn := sNow_lt g hP 4 (by decide)
  have hf0 : Fx [100] i (am_u2 i 0 0 (nI 0)) := by (repeat (first | exact Fx_refl _ _ | assumption | refine Fx_u2 rfl ?_ | refine Fx_u1 rfl (by decide) ?_ | refine Fx_step (by assumption) rfl ?_ | refine Fx_stepr (by assumption) rfl rfl ?_))
  have hM0 : MA (am_u2 i 0 0 (nI 0)) g := MA_fx hf0 hA rfl
  have hM0' : ∀ k, k < 3222 → am_u2 i 0 0 (nI 0) 1 k = nI (g k) := hM0
  have e := iR_e 1 40 (lo := 1) (hi := 40) rfl rfl y
  rw [c_M_season, b_M_season_0, v_season, a_season]
  by_cases hy : iR 1 40 y = true
  · simp (disch := first | assumption | omega) only [b_M_season_0, b_M_season_14, b_M_season_24, b_M_season_44, b_M_season_53, b_M_season_65, b_M_season_68, b_M_season_82, s_M_within, ↓Bool.cond_decide, ↓q_in, q_le, q_lt, q_eq, q_leT, q_leF, q_ltT, q_ltF, q_eqT, q_eqF, ↓reduceIte, not_true_eq_false, not_false_eq_true, true_and, and_true, and_self, false_and, and_false, Nat.zero_le, am_bd_some, q_app, q_app0, nI_add, pk_sub, pk_mul, q_dec, q_ix, q_m1, q_m1', ↓q_ret, q_bool, q_bool1, q_u1, q_shl1, q_shr, q_and7, q_dg, fa_or, fa_and, decide_true, decide_false, Bool.or_false, Bool.or_true, Bool.true_or, Bool.false_or, cond_true, cond_false, ite_not, q_some, q_nn, q_xor, q_xorm, Bool.false_eq_true, decide_eq_true_eq, ne_eq, l_0, l_1, l_3, l_4, l_5, l_7, l_8, l_10, l_12, l_14, l_23, l_24, l_34, l_40, l_44, l_53, l_65, l_68, l_82, e, hy]
    obtain ⟨n, hn1, hn2, rfl⟩ := iR_T hy
    refine MR_bd (r_M_keeps (d + 7) hM0) ?_
    intro i2 l2 ⟨hl2, hf2, hw2⟩
    subst hl2
    have hM2 : MA i2 g := MA_fx hf2 hM0 rfl
    have key : ∀ m k x1 g1 c i1 z1 z5, k + m = n → c ≤ k → Fx [1, 5, 6, 7, 8, 120, 123] i2 i1 → MA i1 g1 → WG g1 → g1 32 ≤ 10 → (c = 0 → g1 = g) → i1 0 23 = x1 → MR (some (.int (nI (ssn m x1 g1 c).1))) (fun i' l' => MS i' l' (if 0 < (ssn m x1 g1 c).1 then (gNote (ssn m x1 g1 c).2 (gCur g), σ) else (g, σ))) (am_Ex (d + 8) mM_season 34 [.val (.ref 0), z1, .val (.int (nI n)), .val (.int (nI c)), .val (.int (nI k)), z5] [] (i1, l2, rM, kM)) := by
      intro m
      induction m with
      | zero =>
        intro k x1 g1 c i1 z1 z5 hk hc hf1 hA1 hW1 h321 hcg hx1
        have ek : k = n := by omega
        subst ek
        rw [b_M_season_34, ssn]
        by_cases hc0 : 0 < c
        · simp (disch := first | assumption | omega) only [b_M_season_0, b_M_season_14, b_M_season_24, b_M_season_44, b_M_season_53, b_M_season_65, b_M_season_68, b_M_season_82, s_M_within, ↓Bool.cond_decide, ↓q_in, q_le, q_lt, q_eq, q_leT, q_leF, q_ltT, q_ltF, q_eqT, q_eqF, ↓reduceIte, not_true_eq_false, not_false_eq_true, true_and, and_true, and_self, false_and, and_false, Nat.zero_le, am_bd_some, q_app, q_app0, nI_add, pk_sub, pk_mul, q_dec, q_ix, q_m1, q_m1', ↓q_ret, q_bool, q_bool1, q_u2, q_u1, q_shl1, q_shr, q_and7, q_dg, fa_or, fa_and, decide_true, decide_false, Bool.or_false, Bool.or_true, Bool.true_or, Bool.false_or, cond_true, cond_false, ite_not, q_some, q_nn, q_xor, q_xorm, Bool.false_eq_true, decide_eq_true_eq, ne_eq, l_0, l_1, l_3, l_4, l_5, l_7, l_8, l_10, l_12, l_14, l_23, l_24, l_34, l_40, l_44, l_53, l_65, l_68, l_82, hc0]
          refine MR_bd (r_M_notes (d + 7) (w := gCur g) hA1 h321 (fun k hk => by rw [Fx_row hf1 (by decide) rfl]; exact hw2 k hk)) ?_
          intro i4 l4 ⟨hl4, hf4, hM4⟩
          subst hl4
          simp (disch := first | assumption | omega) only [b_M_season_0, b_M_season_14, b_M_season_24, b_M_season_44, b_M_season_53, b_M_season_65, b_M_season_68, b_M_season_82, s_M_within, ↓Bool.cond_decide, ↓q_in, q_le, q_lt, q_eq, q_leT, q_leF, q_ltT, q_ltF, q_eqT, q_eqF, ↓reduceIte, not_true_eq_false, not_false_eq_true, true_and, and_true, and_self, false_and, and_false, Nat.zero_le, am_bd_some, q_app, q_app0, nI_add, pk_sub, pk_mul, q_dec, q_ix, q_m1, q_m1', ↓q_ret, q_bool, q_bool1, q_u2, q_u1, q_shl1, q_shr, q_and7, q_dg, fa_or, fa_and, decide_true, decide_false, Bool.or_false, Bool.or_true, Bool.true_or, Bool.false_or, cond_true, cond_false, ite_not, q_some, q_nn, q_xor, q_xorm, Bool.false_eq_true, decide_eq_true_eq, ne_eq, l_0, l_1, l_3, l_4, l_5, l_7, l_8, l_10, l_12, l_14, l_23, l_24, l_34, l_40, l_44, l_53, l_65, l_68, l_82]
          exact MR_some (MS_g (R := RG) (σ := (g, σ)) (by (repeat (first | exact Fx_refl _ _ | assumption | refine Fx_u2 rfl ?_ | refine Fx_u1 rfl (by decide) ?_ | refine Fx_step (by assumption) rfl ?_ | refine Fx_stepr (by assumption) rfl rfl ?_))) rfl rfl hS hM4)
        · have hc1 : c = 0 := by omega
          rw [hcg hc1] at hA1
          simp (disch := first | assumption | omega) only [b_M_season_0, b_M_season_14, b_M_season_24, b_M_season_44, b_M_season_53, b_M_season_65, b_M_season_68, b_M_season_82, s_M_within, ↓Bool.cond_decide, ↓q_in, q_le, q_lt, q_eq, q_leT, q_leF, q_ltT, q_ltF, q_eqT, q_eqF, ↓reduceIte, not_true_eq_false, not_false_eq_true, true_and, and_true, and_self, false_and, and_false, Nat.zero_le, am_bd_some, q_app, q_app0, nI_add, pk_sub, pk_mul, q_dec, q_ix, q_m1, q_m1', ↓q_ret, q_bool, q_bool1, q_u2, q_u1, q_shl1, q_shr, q_and7, q_dg, fa_or, fa_and, decide_true, decide_false, Bool.or_false, Bool.or_true, Bool.true_or, Bool.false_or, cond_true, cond_false, ite_not, q_some, q_nn, q_xor, q_xorm, Bool.false_eq_true, decide_eq_true_eq, ne_eq, l_0, l_1, l_3, l_4, l_5, l_7, l_8, l_10, l_12, l_14, l_23, l_24, l_34, l_40, l_44, l_53, l_65, l_68, l_82, hc1]
          exact MR_some (MS_g (R := RG) (σ := (g, σ)) (by (repeat (first | exact Fx_refl _ _ | assumption | refine Fx_u2 rfl ?_ | refine Fx_u1 rfl (by decide) ?_ | refine Fx_step (by assumption) rfl ?_ | refine Fx_stepr (by assumption) rfl rfl ?_))) rfl rfl hS hA1)
      | succ m ih =>
        intro k x1 g1 c i1 z1 z5 hk hc hf1 hA1 hW1 h321 hcg hx1
        obtain ⟨i3, l3, e3, hl3, hf3, h23⟩ := r_M_drawn (i := i1) (l := l2) (d + 6) hx1
        subst hl3
        have hA3 : MA i3 g1 := MA_fx hf3 hA1 rfl
        have hlt := dN_lt x1
        have eL : Int32.toInt64 (nI (dN x1).1) = lN (dN x1).1 := nI_l (by omega)
        obtain ⟨i4, l4, e4, hl4, hf4⟩ := r_M_whyNot (i := i3) (l := l3) d (lN (dN x1).1) hA3 hW1
        subst hl4
        rw [lWhy_n hlt] at e4
        have hA4 : MA i4 g1 := MA_fx hf4 hA3 rfl
        have h23' : i4 0 23 = (dN x1).2 := by rw [hf4 0 23 rfl]; exact h23
        rw [b_M_season_34, ssn]
        have hwl : dWhy g1 (dN x1).1 ≤ 3 := by
          unfold dWhy sWhy
          repeat' split
          all_goals decide
        by_cases hw : dWhy g1 (dN x1).1 = 0
        · simp (disch := first | assumption | omega) only [b_M_season_0, b_M_season_14, b_M_season_24, b_M_season_44, b_M_season_53, b_M_season_65, b_M_season_68, b_M_season_82, s_M_within, ↓Bool.cond_decide, ↓q_in, q_le, q_lt, q_eq, q_leT, q_leF, q_ltT, q_ltF, q_eqT, q_eqF, ↓reduceIte, not_true_eq_false, not_false_eq_true, true_and, and_true, and_self, false_and, and_false, Nat.zero_le, am_bd_some, q_app, q_app0, nI_add, pk_sub, pk_mul, q_dec, q_ix, q_m1, q_m1', ↓q_ret, q_bool, q_bool1, q_u2, q_u1, q_shl1, q_shr, q_and7, q_dg, fa_or, fa_and, decide_true, decide_false, Bool.or_false, Bool.or_true, Bool.true_or, Bool.false_or, cond_true, cond_false, ite_not, q_some, q_nn, q_xor, q_xorm, Bool.false_eq_true, decide_eq_true_eq, ne_eq, l_0, l_1, l_3, l_4, l_5, l_7, l_8, l_10, l_12, l_14, l_23, l_24, l_34, l_40, l_44, l_53, l_65, l_68, l_82, e3, eL, e4, hw]
          refine MR_bd (r_M_does (d + 1) hlt hA4 hW1) ?_
          intro i5 l5 ⟨hl5, hf5, hA5⟩
          subst hl5
          simp (disch := first | assumption | omega) only [b_M_season_0, b_M_season_14, b_M_season_24, b_M_season_44, b_M_season_53, b_M_season_65, b_M_season_68, b_M_season_82, s_M_within, ↓Bool.cond_decide, ↓q_in, q_le, q_lt, q_eq, q_leT, q_leF, q_ltT, q_ltF, q_eqT, q_eqF, ↓reduceIte, not_true_eq_false, not_false_eq_true, true_and, and_true, and_self, false_and, and_false, Nat.zero_le, am_bd_some, q_app, q_app0, nI_add, pk_sub, pk_mul, q_dec, q_ix, q_m1, q_m1', ↓q_ret, q_bool, q_bool1, q_u2, q_u1, q_shl1, q_shr, q_and7, q_dg, fa_or, fa_and, decide_true, decide_false, Bool.or_false, Bool.or_true, Bool.true_or, Bool.false_or, cond_true, cond_false, ite_not, q_some, q_nn, q_xor, q_xorm, Bool.false_eq_true, decide_eq_true_eq, ne_eq, l_0, l_1, l_3, l_4, l_5, l_7, l_8, l_10, l_12, l_14, l_23, l_24, l_34, l_40, l_44, l_53, l_65, l_68, l_82]
          exact ih (k + 1) _ _ (c + 1) i5 _ _ (by omega) (by omega) (by (repeat (first | exact Fx_refl _ _ | assumption | refine Fx_u2 rfl ?_ | refine Fx_u1 rfl (by decide) ?_ | refine Fx_step (by assumption) rfl ?_ | refine Fx_stepr (by assumption) rfl rfl ?_))) hA5 (WG_do hW1 hw) (by rw [dDo_out hW1 hw (by omega)]; exact h321) (fun z => by omega) (by rw [hf5 0 23 rfl]; exact h23')
        · simp (disch := first | assumption | omega) only [b_M_season_0, b_M_season_14, b_M_season_24, b_M_season_44, b_M_season_53, b_M_season_65, b_M_season_68, b_M_season_82, s_M_within, ↓Bool.cond_decide, ↓q_in, q_le, q_lt, q_eq, q_leT, q_leF, q_ltT, q_ltF, q_eqT, q_eqF, ↓reduceIte, not_true_eq_false, not_false_eq_true, true_and, and_true, and_self, false_and, and_false, Nat.zero_le, am_bd_some, q_app, q_app0, nI_add, pk_sub, pk_mul, q_dec, q_ix, q_m1, q_m1', ↓q_ret, q_bool, q_bool1, q_u2, q_u1, q_shl1, q_shr, q_and7, q_dg, fa_or, fa_and, decide_true, decide_false, Bool.or_false, Bool.or_true, Bool.true_or, Bool.false_or, cond_true, cond_false, ite_not, q_some, q_nn, q_xor, q_xorm, Bool.false_eq_true, decide_eq_true_eq, ne_eq, l_0, l_1, l_3, l_4, l_5, l_7, l_8, l_10, l_12, l_14, l_23, l_24, l_34, l_40, l_44, l_53, l_65, l_68, l_82, e3, eL, e4, hw]
          exact ih (k + 1) _ _ c i4 _ _ (by omega) (by omega) (by (repeat (first | exact Fx_refl _ _ | assumption | refine Fx_u2 rfl ?_ | refine Fx_u1 rfl (by decide) ?_ | refine Fx_step (by assumption) rfl ?_ | refine Fx_stepr (by assumption) rfl rfl ?_))) hA4 hW1 h321 hcg h23'
    simp (disch := first | assumption | omega) only [b_M_season_0, b_M_season_14, b_M_season_24, b_M_season_44, b_M_season_53, b_M_season_65, b_M_season_68, b_M_season_82, s_M_within, ↓Bool.cond_decide, ↓q_in, q_le, q_lt, q_eq, q_leT, q_leF, q_ltT, q_ltF, q_eqT, q_eqF, ↓reduceIte, not_true_eq_false, not_false_eq_true, true_and, and_true, and_self, false_and, and_false, Nat.zero_le, am_bd_some, q_app, q_app0, nI_add, pk_sub, pk_mul, q_dec, q_ix, q_m1, q_m1', ↓q_ret, q_bool, q_bool1, q_u1, q_shl1, q_shr, q_and7, q_dg, fa_or, fa_and, decide_true, decide_false, Bool.or_false, Bool.or_true, Bool.true_or, Bool.false_or, cond_true, cond_false, ite_not, q_some, q_nn, q_xor, q_xorm, Bool.false_eq_true, decide_eq_true_eq, ne_eq, l_0, l_1, l_3, l_4, l_5, l_7, l_8, l_10, l_12, l_14, l_23, l_24, l_34, l_40, l_44, l_53, l_65, l_68, l_82]
    have := key n 0 x g 0 (am_u2 i2 0 23 x) (.val (.int x)) .unset (by omega) (Nat.le_refl _) (by (repeat (first | exact Fx_refl _ _ | assumption | refine Fx_u2 rfl ?_ | refine Fx_u1 rfl (by decide) ?_ | refine Fx_step (by assumption) rfl ?_ | refine Fx_stepr (by assumption) rfl rfl ?_))) hM2 hW' h32 (fun _ => rfl) rfl
    exact this
  · simp (disch := first | assumption | omega) only [b_M_season_0, b_M_season_14, b_M_season_24, b_M_season_44, b_M_season_53, b_M_season_65, b_M_season_68, b_M_season_82, s_M_within, ↓Bool.cond_decide, ↓q_in, q_le, q_lt, q_eq, q_leT, q_leF, q_ltT, q_ltF, q_eqT, q_eqF, ↓reduceIte, not_true_eq_false, not_false_eq_true, true_and, and_true, and_self, false_and, and_false, Nat.zero_le, am_bd_some, q_app, q_app0, nI_add, pk_sub, pk_mul, q_dec, q_ix, q_m1, q_m1', ↓q_ret, q_bool, q_bool1, q_u2, q_u1, q_shl1, q_shr, q_and7, q_dg, fa_or, fa_and, decide_true, decide_false, Bool.or_false, Bool.or_true, Bool.true_or, Bool.false_or, cond_true, cond_false, ite_not, q_some, q_nn, q_xor, q_xorm, Bool.false_eq_true, decide_eq_true_eq, ne_eq, l_0, l_1, l_3, l_4, l_5, l_7, l_8, l_10, l_12, l_14, l_23, l_24, l_34, l_40, l_44, l_53, l_65, l_68, l_82, e, hy]
    exact MR_some (MS_fx (R := RQ) (by (repeat (first | exact Fx_refl _ _ | assumption | refine Fx_u2 rfl ?_ | refine Fx_u1 rfl (by decide) ?_ | refine Fx_step (by assumption) rfl ?_ | refine Fx_stepr (by assumption) rfl rfl ?_))) rfl rfl hS)
theorem r_M_feed (d : Nat) (a b c e f : Int32) {σ : St} (hS : MS i l σ) (h900 : σ.2.2.2.1 ≤ 900) : MR (some (.int (v_feed σ))) (fun i' l' => MS i' l' (a_feed σ a b c e f)) (am_cl (d + 1) mM_feed [.ref 0, .int a, .int b, .int c, .int e, .int f] (i, l, rM, kM)) := by
  obtain ⟨g, hi, tp, n, σ⟩ := σ
  have h5 : i 0 5 = nI n := hS.2.2.2.1
  have h900 : n ≤ 900 := h900
  rw [c_M_feed, b_M_feed_0, v_feed, a_feed]
  by_cases hn : n + 20 ≤ 900
  · simp (disch := first | assumption | omega) only [b_M_feed_0, b_M_feed_77, ↓Bool.cond_decide, ↓q_in, q_le, q_lt, q_eq, q_leT, q_leF, q_ltT, q_ltF, q_eqT, q_eqF, ↓reduceIte, not_true_eq_false, not_false_eq_true, true_and, and_true, and_self, false_and, and_false, Nat.zero_le, am_bd_some, q_app, q_app0, nI_add, pk_sub, pk_mul, q_dec, q_ix, q_m1, q_m1', ↓q_ret, q_bool, q_bool1, q_u1, q_shl1, q_shr, q_and7, q_dg, fa_or, fa_and, decide_true, decide_false, Bool.or_false, Bool.or_true, Bool.true_or, Bool.false_or, cond_true, cond_false, ite_not, q_some, q_nn, q_xor, q_xorm, Bool.false_eq_true, decide_eq_true_eq, ne_eq, l_0, l_1, l_3, l_4, l_5, l_8, l_12, l_16, l_20, l_24, l_28, l_31, l_34, l_77, l_255, l_900, h5, hn]
    refine am_loop (fun k ls s => ∃ i' z7, ls = [.val (.ref 0), .val (.int a), .val (.int b), .val (.int c), .val (.int e), .val (.int f), .val (.int (nI k)), z7] ∧ s = (i', l, rM, kM) ∧ Fx [3, 100, 105] i i' ∧ i' 0 5 = nI (n + k) ∧ ∀ j, j < 900 → i' 3 j = if n ≤ j ∧ j < n + k then nI (fB a b c e f (j - n)) else i 3 j) 20 _ (fun k ls s hk hI => ?_) (fun ls s hI => ?_) ⟨_, _, rfl, rfl, by (repeat (first | exact Fx_refl _ _ | assumption | refine Fx_u2 rfl ?_ | refine Fx_u1 rfl (by decide) ?_ | refine Fx_step (by assumption) rfl ?_ | refine Fx_stepr (by assumption) rfl rfl ?_)), h5, fun j hj => by rw [if_neg (by omega)]; rfl⟩
    · obtain ⟨i1, z7, e1, e2, hf, h5', h3⟩ := hI
      subst e1; subst e2
      have put : Go d mM_feed 24 (fun ls s => ∃ i' z7, ls = [.val (.ref 0), .val (.int a), .val (.int b), .val (.int c), .val (.int e), .val (.int f), .val (.int (nI (k + 1))), z7] ∧ s = (i', l, rM, kM) ∧ Fx [3, 100, 105] i i' ∧ i' 0 5 = nI (n + (k + 1)) ∧ ∀ j, j < 900 → i' 3 j = if n ≤ j ∧ j < n + (k + 1) then nI (fB a b c e f (j - n)) else i 3 j) (am_Ex d mM_feed 77 [.val (.ref 0), .val (.int a), .val (.int b), .val (.int c), .val (.int e), .val (.int f), .val (.int (nI k)), z7] [.int (fW a b c e f k)] (i1, l, rM, kM)) := by
        have e24 : k % 4 < 4 := Nat.mod_lt _ (by decide)
        rw [b_M_feed_77]
        simp (disch := first | assumption | omega) only [b_M_feed_0, b_M_feed_77, ↓Bool.cond_decide, ↓q_in, q_le, q_lt, q_eq, q_leT, q_leF, q_ltT, q_ltF, q_eqT, q_eqF, ↓reduceIte, not_true_eq_false, not_false_eq_true, true_and, and_true, and_self, false_and, and_false, Nat.zero_le, am_bd_some, q_app, q_app0, nI_add, pk_sub, pk_mul, q_dec, q_ix, q_m1, q_m1', ↓q_ret, q_bool, q_bool1, q_u1, q_shl1, q_shr, q_and7, q_dg, fa_or, fa_and, decide_true, decide_false, Bool.or_false, Bool.or_true, Bool.true_or, Bool.false_or, cond_true, cond_false, ite_not, q_some, q_nn, q_xor, q_xorm, Bool.false_eq_true, decide_eq_true_eq, ne_eq, l_0, l_1, l_3, l_4, l_5, l_8, l_12, l_16, l_20, l_24, l_28, l_31, l_34, l_77, l_255, l_900, h5', pk_div, q_remL, q_remN, q_byte]
        refine Go_in ⟨_, _, rfl, rfl, by (repeat (first | exact Fx_refl _ _ | assumption | refine Fx_u2 rfl ?_ | refine Fx_u1 rfl (by decide) ?_ | refine Fx_step (by assumption) rfl ?_ | refine Fx_stepr (by assumption) rfl rfl ?_)), rfl, fun j hj => ?_⟩
        show (if j = n + k then _ else i1 3 j) = _
        by_cases ej : j = n + k
        · subst ej
          rw [if_pos rfl, if_pos (by omega), Nat.add_sub_cancel_left]
          rfl
        · rw [if_neg ej, h3 j hj]
          by_cases e2 : n ≤ j ∧ j < n + k
          · rw [if_pos e2, if_pos (by omega)]
          · rw [if_neg e2, if_neg (by omega)]
      rw [b_M_feed_24]
      by_cases k1 : k < 4
      · have eW : fW a b c e f k = a := by unfold fW; rw [if_pos k1]
        rw [eW] at put
        simp (disch := first | assumption | omega) only [b_M_feed_0, ↓Bool.cond_decide, ↓q_in, q_le, q_lt, q_eq, q_leT, q_leF, q_ltT, q_ltF, q_eqT, q_eqF, ↓reduceIte, not_true_eq_false, not_false_eq_true, true_and, and_true, and_self, false_and, and_false, Nat.zero_le, am_bd_some, q_app, q_app0, nI_add, pk_sub, pk_mul, q_dec, q_ix, q_m1, q_m1', ↓q_ret, q_bool, q_bool1, q_u2, q_u1, q_shl1, q_shr, q_and7, q_dg, fa_or, fa_and, decide_true, decide_false, Bool.or_false, Bool.or_true, Bool.true_or, Bool.false_or, cond_true, cond_false, ite_not, q_some, q_nn, q_xor, q_xorm, Bool.false_eq_true, decide_eq_true_eq, ne_eq, l_0, l_1, l_3, l_4, l_5, l_8, l_12, l_16, l_20, l_24, l_28, l_31, l_34, l_77, l_255, l_900]
        exact put
      by_cases k2 : k < 8
      · have eW : fW a b c e f k = b := by unfold fW; rw [if_neg k1, if_pos k2]
        rw [eW] at put
        simp (disch := first | assumption | omega) only [b_M_feed_0, ↓Bool.cond_decide, ↓q_in, q_le, q_lt, q_eq, q_leT, q_leF, q_ltT, q_ltF, q_eqT, q_eqF, ↓reduceIte, not_true_eq_false, not_false_eq_true, true_and, and_true, and_self, false_and, and_false, Nat.zero_le, am_bd_some, q_app, q_app0, nI_add, pk_sub, pk_mul, q_dec, q_ix, q_m1, q_m1', ↓q_ret, q_bool, q_bool1, q_u2, q_u1, q_shl1, q_shr, q_and7, q_dg, fa_or, fa_and, decide_true, decide_false, Bool.or_false, Bool.or_true, Bool.true_or, Bool.false_or, cond_true, cond_false, ite_not, q_some, q_nn, q_xor, q_xorm, Bool.false_eq_true, decide_eq_true_eq, ne_eq, l_0, l_1, l_3, l_4, l_5, l_8, l_12, l_16, l_20, l_24, l_28, l_31, l_34, l_77, l_255, l_900]
        exact put
      by_cases k3 : k < 12
      · have eW : fW a b c e f k = c := by unfold fW; rw [if_neg k1, if_neg k2, if_pos k3]
        rw [eW] at put
        simp (disch := first | assumption | omega) only [b_M_feed_0, ↓Bool.cond_decide, ↓q_in, q_le, q_lt, q_eq, q_leT, q_leF, q_ltT, q_ltF, q_eqT, q_eqF, ↓reduceIte, not_true_eq_false, not_false_eq_true, true_and, and_true, and_self, false_and, and_false, Nat.zero_le, am_bd_some, q_app, q_app0, nI_add, pk_sub, pk_mul, q_dec, q_ix, q_m1, q_m1', ↓q_ret, q_bool, q_bool1, q_u2, q_u1, q_shl1, q_shr, q_and7, q_dg, fa_or, fa_and, decide_true, decide_false, Bool.or_false, Bool.or_true, Bool.true_or, Bool.false_or, cond_true, cond_false, ite_not, q_some, q_nn, q_xor, q_xorm, Bool.false_eq_true, decide_eq_true_eq, ne_eq, l_0, l_1, l_3, l_4, l_5, l_8, l_12, l_16, l_20, l_24, l_28, l_31, l_34, l_77, l_255, l_900]
        exact put
      by_cases k4 : k < 16
      · have eW : fW a b c e f k = e := by unfold fW; rw [if_neg k1, if_neg k2, if_neg k3, if_pos k4]
        rw [eW] at put
        simp (disch := first | assumption | omega) only [b_M_feed_0, ↓Bool.cond_decide, ↓q_in, q_le, q_lt, q_eq, q_leT, q_leF, q_ltT, q_ltF, q_eqT, q_eqF, ↓reduceIte, not_true_eq_false, not_false_eq_true, true_and, and_true, and_self, false_and, and_false, Nat.zero_le, am_bd_some, q_app, q_app0, nI_add, pk_sub, pk_mul, q_dec, q_ix, q_m1, q_m1', ↓q_ret, q_bool, q_bool1, q_u2, q_u1, q_shl1, q_shr, q_and7, q_dg, fa_or, fa_and, decide_true, decide_false, Bool.or_false, Bool.or_true, Bool.true_or, Bool.false_or, cond_true, cond_false, ite_not, q_some, q_nn, q_xor, q_xorm, Bool.false_eq_true, decide_eq_true_eq, ne_eq, l_0, l_1, l_3, l_4, l_5, l_8, l_12, l_16, l_20, l_24, l_28, l_31, l_34, l_77, l_255, l_900]
        exact put
      · have eW : fW a b c e f k = f := by unfold fW; rw [if_neg k1, if_neg k2, if_neg k3, if_neg k4]
        rw [eW] at put
        simp (disch := first | assumption | omega) only [b_M_feed_0, ↓Bool.cond_decide, ↓q_in, q_le, q_lt, q_eq, q_leT, q_leF, q_ltT, q_ltF, q_eqT, q_eqF, ↓reduceIte, not_true_eq_false, not_false_eq_true, true_and, and_true, and_self, false_and, and_false, Nat.zero_le, am_bd_some, q_app, q_app0, nI_add, pk_sub, pk_mul, q_dec, q_ix, q_m1, q_m1', ↓q_ret, q_bool, q_bool1, q_u2, q_u1, q_shl1, q_shr, q_and7, q_dg, fa_or, fa_and, decide_true, decide_false, Bool.or_false, Bool.or_true, Bool.true_or, Bool.false_or, cond_true, cond_false, ite_not, q_some, q_nn, q_xor, q_xorm, Bool.false_eq_true, decide_eq_true_eq, ne_eq, l_0, l_1, l_3, l_4, l_5, l_8, l_12, l_16, l_20, l_24, l_28, l_31, l_34, l_77, l_255, l_900]
        exact put
    · obtain ⟨i1, z7, e1, e2, hf, h5', h3⟩ := hI
      subst e1; subst e2
      rw [b_M_feed_24]
      simp (disch := first | assumption | omega) only [b_M_feed_0, b_M_feed_77, ↓Bool.cond_decide, ↓q_in, q_le, q_lt, q_eq, q_leT, q_leF, q_ltT, q_ltF, q_eqT, q_eqF, ↓reduceIte, not_true_eq_false, not_false_eq_true, true_and, and_true, and_self, false_and, and_false, Nat.zero_le, am_bd_some, q_app, q_app0, nI_add, pk_sub, pk_mul, q_dec, q_ix, q_m1, q_m1', ↓q_ret, q_bool, q_bool1, q_u2, q_u1, q_shl1, q_shr, q_and7, q_dg, fa_or, fa_and, decide_true, decide_false, Bool.or_false, Bool.or_true, Bool.true_or, Bool.false_or, cond_true, cond_false, ite_not, q_some, q_nn, q_xor, q_xorm, Bool.false_eq_true, decide_eq_true_eq, ne_eq, l_0, l_1, l_3, l_4, l_5, l_8, l_12, l_16, l_20, l_24, l_28, l_31, l_34, l_77, l_255, l_900, h5']
      refine MR_some ⟨fun j hj => ?_, ?_, fun k hk hk2 => ?_, h5', ?_, ?_, ?_, ?_, hS.2.2.2.2.2.2.2.2⟩
      · rw [Fx_row hf (by decide) rfl]; exact hS.1 j hj
      · rw [Fx_row hf (by decide) rfl]; exact hS.2.1
      · rw [h3 k hk]
        dsimp only
        by_cases e2 : n ≤ k ∧ k < n + 20
        · rw [if_pos e2, if_pos e2]
        · rw [if_neg e2, if_neg e2]
          have hk2 : k < n + 20 := hk2
          exact hS.2.2.1 k hk (by show k < n; omega)
      · rw [hf 0 13 rfl]; exact hS.2.2.2.2.1
      · rw [hf 0 14 rfl]; exact hS.2.2.2.2.2.1
      · rw [Fx_row hf (by decide) rfl]; exact hS.2.2.2.2.2.2.1
      · rw [Fx_row hf (by decide) rfl]; exact hS.2.2.2.2.2.2.2.1
  · simp (disch := first | assumption | omega) only [b_M_feed_0, b_M_feed_77, ↓Bool.cond_decide, ↓q_in, q_le, q_lt, q_eq, q_leT, q_leF, q_ltT, q_ltF, q_eqT, q_eqF, ↓reduceIte, not_true_eq_false, not_false_eq_true, true_and, and_true, and_self, false_and, and_false, Nat.zero_le, am_bd_some, q_app, q_app0, nI_add, pk_sub, pk_mul, q_dec, q_ix, q_m1, q_m1', ↓q_ret, q_bool, q_bool1, q_u1, q_shl1, q_shr, q_and7, q_dg, fa_or, fa_and, decide_true, decide_false, Bool.or_false, Bool.or_true, Bool.true_or, Bool.false_or, cond_true, cond_false, ite_not, q_some, q_nn, q_xor, q_xorm, Bool.false_eq_true, decide_eq_true_eq, ne_eq, l_0, l_1, l_3, l_4, l_5, l_8, l_12, l_16, l_20, l_24, l_28, l_31, l_34, l_77, l_255, l_900, h5, hn]
    exact MR_some (MS_fx (R := RQ) (by (repeat (first | exact Fx_refl _ _ | assumption | refine Fx_u2 rfl ?_ | refine Fx_u1 rfl (by decide) ?_ | refine Fx_step (by assumption) rfl ?_ | refine Fx_stepr (by assumption) rfl rfl ?_))) rfl rfl hS)
end
