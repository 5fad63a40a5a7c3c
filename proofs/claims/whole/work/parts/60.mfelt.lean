/-! THE MODEL: what is felt -/
def fNo (σ : St) (x y : Int32) : Int32 := if iB x 4 = true ∧ iB y (σ.1 2) = true then (if vNo σ x = nI 0 then (if 1 ≤ σ.2.2.2.2.2.2.2.1 x.toNatClampNeg ∧ σ.2.2.2.2.2.2.2.1 x.toNatClampNeg ≤ 12 then (match ff (fun k => !decide (0 ≤ (σ.2.2.2.2.2.2.2.2 (40 * x.toNatClampNeg + k)).toInt ∧ (σ.2.2.2.2.2.2.2.2 (40 * x.toNatClampNeg + k)).toInt ≤ 19)) (σ.2.2.2.2.2.2.2.1 x.toNatClampNeg) 0 with | some _ => -nI 3 | none => if sSpot σ.1 (σ.1 (18 + y.toNatClampNeg)) = true then nI 0 else -nI 5) else -nI 4) else vNo σ x) else -nI 2
/-- one feeling fits a strength -/
def fFit (g : Nat → Nat) (v : Int64) (p s : Nat) : Bool := decide (sHold g (sNow g 4) p s (v.toInt.toNat / 2) = decide (v.toInt.toNat % 2 = 1))
def fAll (f : Nat → Bool) : Nat → Bool
  | 0 => true
  | n + 1 => fAll f n && f n
def sFS (σ : St) (t p : Nat) : Nat := bs (fun s => fAll (fun k => fFit σ.1 (σ.2.2.2.2.2.2.2.2 (40 * t + k)) p s) (σ.2.2.2.2.2.2.2.1 t)) 10
def v_strengths (σ : St) (x y : Int32) : Int32 := if fNo σ x y = nI 0 then nI (sFS σ x.toNatClampNeg y.toNatClampNeg) else fNo σ x y
/-- of a set of strengths, how many would hold -/
def hC (g : Nat → Nat) (m p w : Nat) : Nat → Nat
  | 0 => 0
  | n + 1 => hC g m p w n + if m.testBit n = true ∧ sHold g (sNow g 4) p n w = true then 1 else 0
def mn (a b : Nat) : Nat := if a < b then a else b
def hI (g : Nat → Nat) (m p w : Nat) : Nat := mn (hC g m p w 10) (bc m 10 - hC g m p w 10)
/-- the best water and 1, its number and 1, of those below w -/
def hA2 (g : Nat → Nat) (m p : Nat) : Nat → Nat × Nat
  | 0 => (0, 0)
  | w + 1 => if (hA2 g m p w).2 ≤ hI g m p w then (w + 1, hI g m p w + 1) else hA2 g m p w
def mI (b : Nat) : Int32 := if b = 0 then -nI 1 else nI (b - 1)
def v_attempt (σ : St) (x y : Int32) : Int32 := if fNo σ x y = nI 0 then (if sFS σ x.toNatClampNeg y.toNatClampNeg = 0 then -nI 1 else mI (hA2 σ.1 (sFS σ x.toNatClampNeg y.toNatClampNeg) y.toNatClampNeg 10).1) else fNo σ x y
theorem hC_le (g : Nat → Nat) (m p w : Nat) : ∀ n, hC g m p w n ≤ bc m n
  | 0 => Nat.le_refl _
  | n + 1 => by
    have := hC_le g m p w n
    rw [hC, bc]
    split
    · rename_i h
      have := h.1
      rw [Nat.testBit_eq_decide_div_mod_eq, decide_eq_true_eq] at this
      omega
    · omega
theorem mI_lt {a b : Nat} (ha : a < 1000) (hb : b < 1000) : (mI a < nI b) = (a ≤ b) := by
  unfold mI
  by_cases h : a = 0
  · rw [if_pos h]
    refine propext ⟨fun _ => by omega, fun _ => ?_⟩
    rw [fa_lt, nI_toInt (by omega)]
    have : (-nI 1).toInt = -1 := rfl
    omega
  · rw [if_neg h, q_lt (by omega) (by omega)]
    exact propext ⟨fun _ => by omega, fun _ => by omega⟩
theorem hA2_le (g : Nat → Nat) (m p : Nat) : ∀ w, w ≤ 10 → (hA2 g m p w).1 ≤ 10 ∧ (hA2 g m p w).2 ≤ 11
  | 0, _ => ⟨Nat.zero_le _, Nat.zero_le _⟩
  | w + 1, hw => by
    have ih := hA2_le g m p w (by omega)
    have h1 : hI g m p w ≤ 10 := by
      have h2 := hC_le g m p w 10
      have h3 := bc_le m 10
      unfold hI mn
      split <;> omega
    rw [hA2]
    split
    · dsimp only; omega
    · exact ih
theorem fNo_0 {σ : St} {x y : Int32} (h : fNo σ x y = nI 0) : iB x 4 = true ∧ iB y (σ.1 2) = true ∧ vNo σ x = nI 0 ∧ 1 ≤ σ.2.2.2.2.2.2.2.1 x.toNatClampNeg ∧ σ.2.2.2.2.2.2.2.1 x.toNatClampNeg ≤ 12 ∧ (∀ k, k < σ.2.2.2.2.2.2.2.1 x.toNatClampNeg → 0 ≤ (σ.2.2.2.2.2.2.2.2 (40 * x.toNatClampNeg + k)).toInt ∧ (σ.2.2.2.2.2.2.2.2 (40 * x.toNatClampNeg + k)).toInt ≤ 19) ∧ sSpot σ.1 (σ.1 (18 + y.toNatClampNeg)) = true := by
  unfold fNo at h
  by_cases h1 : iB x 4 = true ∧ iB y (σ.1 2) = true
  · rw [if_pos h1] at h
    by_cases h2 : vNo σ x = nI 0
    · rw [if_pos h2] at h
      by_cases h3 : 1 ≤ σ.2.2.2.2.2.2.2.1 x.toNatClampNeg ∧ σ.2.2.2.2.2.2.2.1 x.toNatClampNeg ≤ 12
      · rw [if_pos h3] at h
        cases hf : ff (fun k => !decide (0 ≤ (σ.2.2.2.2.2.2.2.2 (40 * x.toNatClampNeg + k)).toInt ∧ (σ.2.2.2.2.2.2.2.2 (40 * x.toNatClampNeg + k)).toInt ≤ 19)) (σ.2.2.2.2.2.2.2.1 x.toNatClampNeg) 0 with
        | some q =>
          rw [hf] at h
          have h : -nI 3 = nI 0 := h
          exact absurd h (by decide)
        | none =>
          rw [hf] at h
          dsimp only at h
          refine ⟨h1.1, h1.2, h2, h3.1, h3.2, fun k hk => ?_, ?_⟩
          · have := ff_none hf k (by omega) (by omega)
            simpa using this
          · apply Classical.byContradiction
            intro z
            rw [if_neg z] at h
            exact absurd h (by decide)
      · rw [if_neg h3] at h; exact absurd h (by decide)
    · rw [if_neg h2] at h; exact absurd h h2
  · rw [if_neg h1] at h; exact absurd h (by decide)
section
variable {i : Nat → Nat → Int32} {l : Nat → Nat → Int64} {g : Nat → Nat}
theorem s_M_noFelt (d : Nat) (x y : Int32) {σ : St} (hS : MS i l σ) (hW : WG σ.1) (hT : WT σ) : am_cl (d + 4) mM_noFelt [.ref 0, .int x, .int y] (i, l, rM, kM) = some (some (.int (fNo σ x y)), (i, l, rM, kM)) := by
  have hno := s_M_noTray (i := i) (l := l) (d + 1) x (σ := σ) hS.2.2.2.2.2.2.1
  obtain ⟨g, σ⟩ := σ
  obtain ⟨⟨h1', h1⟩, h2, h3, hR, hF, hP, hSt, hD, hL0, hL1, hV⟩ := hW
  have h1 : g 1 ≤ 6 := h1
  have h2 : g 2 ≤ 4 := h2
  have hR : ∀ p, p < 4 → g (10 + p) ≤ 4 := hR
  have hP : ∀ p, p < 4 → g (18 + p) < 8 := hP
  have hSt : ∀ p, p < 4 → g (22 + p) ≤ 9 := hSt
  have hD : ∀ s, s < 6 → g (26 + s) ≤ 9 := hD
  have hA := hS.1
  have hn := sNow_lt g hP 4 (by decide)
  have hf0 : Fx [100] i (am_u2 i 0 0 (nI 0)) := by (repeat (first | exact Fx_refl _ _ | assumption | refine Fx_u2 rfl ?_ | refine Fx_u1 rfl (by decide) ?_ | refine Fx_step (by assumption) rfl ?_ | refine Fx_stepr (by assumption) rfl rfl ?_))
  have hM0 : MA (am_u2 i 0 0 (nI 0)) g := MA_fx hf0 hA rfl
  have hM0' : ∀ k, k < 3222 → am_u2 i 0 0 (nI 0) 1 k = nI (g k) := hM0
  obtain ⟨hi, tp, nt, fk, fp, rs, rm, nb⟩ := σ
  have ex := iR_e 0 3 (lo := 0) (hi := 3) rfl rfl x
  have e2 : iR 0 3 x = iB x 4 := by
    unfold iR iB
    congr 1
    exact propext ⟨fun h => ⟨by omega, by omega⟩, fun h => ⟨by omega, by omega⟩⟩
  rw [e2] at ex
  rw [c_M_noFelt, b_M_noFelt_0, fNo]
  dsimp only
  by_cases hx : iB x 4 = true
  · by_cases hy : iB y (g 2) = true
    · by_cases h0 : vNo (g, hi, tp, nt, fk, fp, rs, rm, nb) x = nI 0
      · have hx' := hx
        have hy' := hy
        obtain ⟨t, ht, rfl⟩ := iB_T hx'
        obtain ⟨p, hp, rfl⟩ := iB_T hy'
        have hpp := hP p (by omega)
        have h23 : i 23 t = nI (rm t) := hS.2.2.2.2.2.2.2.1 t ht
        have hk : rm t ≤ 40 := (hT t ht).1
        have e12 := iR_e 1 12 (lo := 1) (hi := 12) rfl rfl (nI (rm t))
        have e12' : (iR 1 12 (nI (rm t)) = true) = (1 ≤ rm t ∧ rm t ≤ 12) := by
          unfold iR
          rw [nI_toInt (by omega), decide_eq_true_eq]
          exact propext ⟨fun h => ⟨by omega, by omega⟩, fun h => ⟨by omega, by omega⟩⟩
        rw [e12'] at e12
        by_cases h12 : 1 ≤ rm t ∧ rm t ≤ 12
        · simp (disch := first | assumption | omega) only [b_M_noFelt_0, b_M_noFelt_9, b_M_noFelt_18, b_M_noFelt_21, b_M_noFelt_29, b_M_noFelt_50, b_M_noFelt_89, b_M_noFelt_106, b_M_noFelt_115, s_M_isPerson, s_M_isUp, s_M_within, ↓Bool.cond_decide, ↓q_in, q_le, q_lt, q_eq, q_leT, q_leF, q_ltT, q_ltF, q_eqT, q_eqF, ↓reduceIte, not_true_eq_false, not_false_eq_true, true_and, and_true, and_self, false_and, and_false, Nat.zero_le, am_bd_some, q_app, q_app0, nI_add, pk_sub, pk_mul, q_dec, q_ix, q_m1, q_m1', ↓q_ret, q_bool, q_bool1, q_u2, q_u1, q_shl1, q_shr, q_and7, q_dg, fa_or, fa_and, decide_true, decide_false, Bool.or_false, Bool.or_true, Bool.true_or, Bool.false_or, cond_true, cond_false, ite_not, q_some, q_nn, q_xor, q_xorm, Bool.false_eq_true, decide_eq_true_eq, ne_eq, l_0, l_1, l_2, l_3, l_4, l_5, l_7, l_8, l_9, l_12, l_15, l_18, l_19, l_21, l_22, l_23, l_24, l_29, l_40, l_50, l_59, l_89, l_106, l_115, l_160, ex, hx, hy, hno, h0, h23, e12, h12]
          refine am_find (fun k ls s => ∃ z3, ls = [.val (.ref 0), .val (.int (nI t)), .val (.int (nI p)), z3, .val (.int (nI k))] ∧ s = (i, l, rM, kM)) _ (fun o r => r = some (some (.int (match o with | some _ => -nI 3 | none => if sSpot g (g (18 + p)) = true then nI 0 else -nI 5)), (i, l, rM, kM))) (rm t) 0 (fun k ls s _ hk2 hI => ?_) (fun ls s hI => ?_) _ _ ⟨_, rfl, rfl⟩
          · obtain ⟨z3, e1, e2⟩ := hI
            subst e1; subst e2
            have hl : l 24 (40 * t + k) = nb (40 * t + k) := hS.2.2.2.2.2.2.2.2 _ (by omega)
            have ew := k_w64 (nb (40 * t + k)) 0 19 0 19 rfl rfl
            refine ⟨fun hb => ?_, fun hb => ?_⟩
            · rw [Bool.not_eq_true', decide_eq_false_iff_not] at hb
              have ew' : ((0 : Int64) ≤ nb (40 * t + k) ∧ nb (40 * t + k) ≤ 19) = False := eq_false (fun z => hb (ew.mp z))
              rw [b_M_noFelt_59]
              simp (disch := first | assumption | omega) only [b_M_noFelt_0, b_M_noFelt_9, b_M_noFelt_18, b_M_noFelt_21, b_M_noFelt_29, b_M_noFelt_50, b_M_noFelt_89, b_M_noFelt_106, b_M_noFelt_115, s_M_isPerson, s_M_isUp, s_M_noTray, s_M_within, ↓Bool.cond_decide, ↓q_in, q_le, q_lt, q_eq, q_leT, q_leF, q_ltT, q_ltF, q_eqT, q_eqF, ↓reduceIte, not_true_eq_false, not_false_eq_true, true_and, and_true, and_self, false_and, and_false, Nat.zero_le, am_bd_some, q_app, q_app0, nI_add, pk_sub, pk_mul, q_dec, q_ix, q_m1, q_m1', ↓q_ret, q_bool, q_bool1, q_u2, q_u1, q_shl1, q_shr, q_and7, q_dg, fa_or, fa_and, decide_true, decide_false, Bool.or_false, Bool.or_true, Bool.true_or, Bool.false_or, cond_true, cond_false, ite_not, q_some, q_nn, q_xor, q_xorm, Bool.false_eq_true, decide_eq_true_eq, ne_eq, l_0, l_1, l_2, l_3, l_4, l_5, l_7, l_8, l_9, l_12, l_15, l_18, l_19, l_21, l_22, l_23, l_24, l_29, l_40, l_50, l_59, l_89, l_106, l_115, l_160, h23, hl, ew']
            · rw [Bool.not_eq_false', decide_eq_true_eq] at hb
              have ew' : ((0 : Int64) ≤ nb (40 * t + k) ∧ nb (40 * t + k) ≤ 19) = True := eq_true (ew.mpr hb)
              rw [b_M_noFelt_59]
              simp (disch := first | assumption | omega) only [b_M_noFelt_0, b_M_noFelt_9, b_M_noFelt_18, b_M_noFelt_21, b_M_noFelt_29, b_M_noFelt_50, b_M_noFelt_89, b_M_noFelt_106, b_M_noFelt_115, s_M_isPerson, s_M_isUp, s_M_noTray, s_M_within, ↓Bool.cond_decide, ↓q_in, q_le, q_lt, q_eq, q_leT, q_leF, q_ltT, q_ltF, q_eqT, q_eqF, ↓reduceIte, not_true_eq_false, not_false_eq_true, true_and, and_true, and_self, false_and, and_false, Nat.zero_le, am_bd_some, q_app, q_app0, nI_add, pk_sub, pk_mul, q_dec, q_ix, q_m1, q_m1', ↓q_ret, q_bool, q_bool1, q_u2, q_u1, q_shl1, q_shr, q_and7, q_dg, fa_or, fa_and, decide_true, decide_false, Bool.or_false, Bool.or_true, Bool.true_or, Bool.false_or, cond_true, cond_false, ite_not, q_some, q_nn, q_xor, q_xorm, Bool.false_eq_true, decide_eq_true_eq, ne_eq, l_0, l_1, l_2, l_3, l_4, l_5, l_7, l_8, l_9, l_12, l_15, l_18, l_19, l_21, l_22, l_23, l_24, l_29, l_40, l_50, l_59, l_89, l_106, l_115, l_160, h23, hl, ew']
              exact Go_in ⟨_, rfl, rfl⟩
          · obtain ⟨z3, e1, e2⟩ := hI
            subst e1; subst e2
            rw [b_M_noFelt_59]
            by_cases hsp : sSpot g (g (18 + p)) = true
            · simp (disch := first | assumption | omega) only [b_M_noFelt_0, b_M_noFelt_9, b_M_noFelt_18, b_M_noFelt_21, b_M_noFelt_29, b_M_noFelt_50, b_M_noFelt_89, b_M_noFelt_106, b_M_noFelt_115, s_M_isPerson, s_M_isUp, s_M_noTray, s_M_within, ↓Bool.cond_decide, ↓q_in, q_le, q_lt, q_eq, q_leT, q_leF, q_ltT, q_ltF, q_eqT, q_eqF, ↓reduceIte, not_true_eq_false, not_false_eq_true, true_and, and_true, and_self, false_and, and_false, Nat.zero_le, am_bd_some, q_app, q_app0, nI_add, pk_sub, pk_mul, q_dec, q_ix, q_m1, q_m1', ↓q_ret, q_bool, q_bool1, q_u2, q_u1, q_shl1, q_shr, q_and7, q_dg, fa_or, fa_and, decide_true, decide_false, Bool.or_false, Bool.or_true, Bool.true_or, Bool.false_or, cond_true, cond_false, ite_not, q_some, q_nn, q_xor, q_xorm, Bool.false_eq_true, decide_eq_true_eq, ne_eq, l_0, l_1, l_2, l_3, l_4, l_5, l_7, l_8, l_9, l_12, l_15, l_18, l_19, l_21, l_22, l_23, l_24, l_29, l_40, l_50, l_59, l_89, l_106, l_115, l_160, h23, hsp]
            · simp (disch := first | assumption | omega) only [b_M_noFelt_0, b_M_noFelt_9, b_M_noFelt_18, b_M_noFelt_21, b_M_noFelt_29, b_M_noFelt_50, b_M_noFelt_89, b_M_noFelt_106, b_M_noFelt_115, s_M_isPerson, s_M_isUp, s_M_noTray, s_M_within, ↓Bool.cond_decide, ↓q_in, q_le, q_lt, q_eq, q_leT, q_leF, q_ltT, q_ltF, q_eqT, q_eqF, ↓reduceIte, not_true_eq_false, not_false_eq_true, true_and, and_true, and_self, false_and, and_false, Nat.zero_le, am_bd_some, q_app, q_app0, nI_add, pk_sub, pk_mul, q_dec, q_ix, q_m1, q_m1', ↓q_ret, q_bool, q_bool1, q_u2, q_u1, q_shl1, q_shr, q_and7, q_dg, fa_or, fa_and, decide_true, decide_false, Bool.or_false, Bool.or_true, Bool.true_or, Bool.false_or, cond_true, cond_false, ite_not, q_some, q_nn, q_xor, q_xorm, Bool.false_eq_true, decide_eq_true_eq, ne_eq, l_0, l_1, l_2, l_3, l_4, l_5, l_7, l_8, l_9, l_12, l_15, l_18, l_19, l_21, l_22, l_23, l_24, l_29, l_40, l_50, l_59, l_89, l_106, l_115, l_160, h23, hsp]
        · simp (disch := first | assumption | omega) only [b_M_noFelt_0, b_M_noFelt_9, b_M_noFelt_18, b_M_noFelt_21, b_M_noFelt_29, b_M_noFelt_50, b_M_noFelt_89, b_M_noFelt_106, b_M_noFelt_115, s_M_isPerson, s_M_isUp, s_M_within, ↓Bool.cond_decide, ↓q_in, q_le, q_lt, q_eq, q_leT, q_leF, q_ltT, q_ltF, q_eqT, q_eqF, ↓reduceIte, not_true_eq_false, not_false_eq_true, true_and, and_true, and_self, false_and, and_false, Nat.zero_le, am_bd_some, q_app, q_app0, nI_add, pk_sub, pk_mul, q_dec, q_ix, q_m1, q_m1', ↓q_ret, q_bool, q_bool1, q_u2, q_u1, q_shl1, q_shr, q_and7, q_dg, fa_or, fa_and, decide_true, decide_false, Bool.or_false, Bool.or_true, Bool.true_or, Bool.false_or, cond_true, cond_false, ite_not, q_some, q_nn, q_xor, q_xorm, Bool.false_eq_true, decide_eq_true_eq, ne_eq, l_0, l_1, l_2, l_3, l_4, l_5, l_7, l_8, l_9, l_12, l_15, l_18, l_19, l_21, l_22, l_23, l_24, l_29, l_40, l_50, l_59, l_89, l_106, l_115, l_160, ex, hx, hy, hno, h0, h23, e12, h12]
      · simp (disch := first | assumption | omega) only [b_M_noFelt_0, b_M_noFelt_9, b_M_noFelt_18, b_M_noFelt_21, b_M_noFelt_29, b_M_noFelt_50, b_M_noFelt_89, b_M_noFelt_106, b_M_noFelt_115, s_M_isPerson, s_M_isUp, s_M_within, ↓Bool.cond_decide, ↓q_in, q_le, q_lt, q_eq, q_leT, q_leF, q_ltT, q_ltF, q_eqT, q_eqF, ↓reduceIte, not_true_eq_false, not_false_eq_true, true_and, and_true, and_self, false_and, and_false, Nat.zero_le, am_bd_some, q_app, q_app0, nI_add, pk_sub, pk_mul, q_dec, q_ix, q_m1, q_m1', ↓q_ret, q_bool, q_bool1, q_u2, q_u1, q_shl1, q_shr, q_and7, q_dg, fa_or, fa_and, decide_true, decide_false, Bool.or_false, Bool.or_true, Bool.true_or, Bool.false_or, cond_true, cond_false, ite_not, q_some, q_nn, q_xor, q_xorm, Bool.false_eq_true, decide_eq_true_eq, ne_eq, l_0, l_1, l_2, l_3, l_4, l_5, l_7, l_8, l_9, l_12, l_15, l_18, l_19, l_21, l_22, l_23, l_24, l_29, l_40, l_50, l_59, l_89, l_106, l_115, l_160, ex, hx, hy, hno, h0]
    · simp (disch := first | assumption | omega) only [b_M_noFelt_0, b_M_noFelt_9, b_M_noFelt_18, b_M_noFelt_21, b_M_noFelt_29, b_M_noFelt_50, b_M_noFelt_89, b_M_noFelt_106, b_M_noFelt_115, s_M_isPerson, s_M_isUp, s_M_within, ↓Bool.cond_decide, ↓q_in, q_le, q_lt, q_eq, q_leT, q_leF, q_ltT, q_ltF, q_eqT, q_eqF, ↓reduceIte, not_true_eq_false, not_false_eq_true, true_and, and_true, and_self, false_and, and_false, Nat.zero_le, am_bd_some, q_app, q_app0, nI_add, pk_sub, pk_mul, q_dec, q_ix, q_m1, q_m1', ↓q_ret, q_bool, q_bool1, q_u2, q_u1, q_shl1, q_shr, q_and7, q_dg, fa_or, fa_and, decide_true, decide_false, Bool.or_false, Bool.or_true, Bool.true_or, Bool.false_or, cond_true, cond_false, ite_not, q_some, q_nn, q_xor, q_xorm, Bool.false_eq_true, decide_eq_true_eq, ne_eq, l_0, l_1, l_2, l_3, l_4, l_5, l_7, l_8, l_9, l_12, l_15, l_18, l_19, l_21, l_22, l_23, l_24, l_29, l_40, l_50, l_59, l_89, l_106, l_115, l_160, ex, hx, hy]
  · simp (disch := first | assumption | omega) only [b_M_noFelt_0, b_M_noFelt_9, b_M_noFelt_18, b_M_noFelt_21, b_M_noFelt_29, b_M_noFelt_50, b_M_noFelt_89, b_M_noFelt_106, b_M_noFelt_115, s_M_isPerson, s_M_isUp, s_M_within, ↓Bool.cond_decide, ↓q_in, q_le, q_lt, q_eq, q_leT, q_leF, q_ltT, q_ltF, q_eqT, q_eqF, ↓reduceIte, not_true_eq_false, not_false_eq_true, true_and, and_true, and_self, false_and, and_false, Nat.zero_le, am_bd_some, q_app, q_app0, nI_add, pk_sub, pk_mul, q_dec, q_ix, q_m1, q_m1', ↓q_ret, q_bool, q_bool1, q_u2, q_u1, q_shl1, q_shr, q_and7, q_dg, fa_or, fa_and, decide_true, decide_false, Bool.or_false, Bool.or_true, Bool.true_or, Bool.false_or, cond_true, cond_false, ite_not, q_some, q_nn, q_xor, q_xorm, Bool.false_eq_true, decide_eq_true_eq, ne_eq, l_0, l_1, l_2, l_3, l_4, l_5, l_7, l_8, l_9, l_12, l_15, l_18, l_19, l_21, l_22, l_23, l_24, l_29, l_40, l_50, l_59, l_89, l_106, l_115, l_160, ex, hx]
theorem q_and1 (a b : Bool) : (if a = true then nI 1 else nI 0) &&& (if b = true then nI 1 else nI 0) = if (a && b) = true then nI 1 else nI 0 := by
  cases a <;> cases b <;> decide
theorem r_M_strengthsOf (d : Nat) {t p n : Nat} {f : Nat → Int64} (ht : t < 4) (hp : p < g 2) (hn : n ≤ 40) (h23 : i 23 t = nI n) (hf : ∀ k, k < 40 → l 24 (40 * t + k) = f k) (hv : ∀ k, k < n → 0 ≤ (f k).toInt ∧ (f k).toInt ≤ 19) (hsp : sSpot g (g (18 + p)) = true) (hA : MA i g) (hW : WG g) : MR (some (.int (nI (bs (fun s => fAll (fun k => fFit g (f k) p s) n) 10)))) (fun i' l' => l' = l ∧ Fx [5, 6] i i') (am_cl (d + 5) mM_strengthsOf [.ref 0, .int (nI t), .int (nI p)] (i, l, rM, kM)) := by
  obtain ⟨⟨h1', h1⟩, h2, h3, hR, hF, hP, hSt, hD, hL0, hL1, hV⟩ := hW
  have hn4 := sNow_lt g hP 4 (by decide)
  have hd := dg_sNow hP p (by omega)
  rw [c_M_strengthsOf, b_M_strengthsOf_0]
  refine am_loop (fun s ls st => ∃ i' z5 z6 z7, ls = [.val (.ref 0), .val (.int (nI t)), .val (.int (nI p)), .val (.int (nI (bs (fun s => fAll (fun k => fFit g (f k) p s) n) s))), .val (.int (nI s)), z5, z6, z7] ∧ st = (i', l, rM, kM) ∧ Fx [5, 6] i i') 10 _ (fun s ls st hs hI => ?_) (fun ls s hI => ?_) ⟨i, _, _, _, rfl, rfl, Fx_refl _ _⟩
  · obtain ⟨i1, z5, z6, z7, e1, e2, hf1⟩ := hI
    subst e1; subst e2
    rw [b_M_strengthsOf_5]
    simp (disch := first | assumption | omega) only [b_M_strengthsOf_0, b_M_strengthsOf_51, b_M_strengthsOf_61, b_M_strengthsOf_74, b_M_strengthsOf_82, b_M_strengthsOf_105, s_M_standNow, ↓Bool.cond_decide, ↓q_in, q_le, q_lt, q_eq, q_leT, q_leF, q_ltT, q_ltF, q_eqT, q_eqF, ↓reduceIte, not_true_eq_false, not_false_eq_true, true_and, and_true, and_self, false_and, and_false, Nat.zero_le, am_bd_some, q_app, q_app0, nI_add, pk_sub, pk_mul, q_dec, q_ix, q_m1, q_m1', ↓q_ret, q_bool, q_bool1, q_u2, q_u1, q_shl1, q_shr, q_and7, q_dg, fa_or, fa_and, decide_true, decide_false, Bool.or_false, Bool.or_true, Bool.true_or, Bool.false_or, cond_true, cond_false, ite_not, q_some, q_nn, q_xor, q_xorm, Bool.false_eq_true, decide_eq_true_eq, ne_eq, l_0, l_1, l_2, l_4, l_5, l_7, l_8, l_9, l_12, l_18, l_23, l_24, l_31, l_32, l_40, l_51, l_61, l_74, l_82, l_105, l_160]
    refine am_loop (fun k ls st => ∃ i' z7, ls = [.val (.ref 0), .val (.int (nI t)), .val (.int (nI p)), .val (.int (nI (bs (fun s => fAll (fun k => fFit g (f k) p s) n) s))), .val (.int (nI s)), .val (.int (if fAll (fun k => fFit g (f k) p s) k = true then nI 1 else nI 0)), .val (.int (nI k)), z7] ∧ st = (i', l, rM, kM) ∧ Fx [5, 6] i i') n _ (fun k ls st hk hI => ?_) (fun ls st hI => ?_) ⟨i1, _, rfl, rfl, hf1⟩
    · obtain ⟨i2, z7, e1, e2, hf2⟩ := hI
      subst e1; subst e2
      have h23' : i2 23 t = nI n := by rw [Fx_row hf2 (by decide) rfl]; exact h23
      have hM2 : MA i2 g := MA_fx hf2 hA rfl
      have hl := hf k (by omega)
      have hvk := hv k hk
      have ev : Int64.toInt32 (f k) = nI (f k).toInt.toNat := by
        have : f k = lN (f k).toInt.toNat := by
          apply Int64.toInt_inj.mp
          rw [pk_lT (by omega)]
          omega
        rw [this, lN_i, pk_lT (by omega), Int.toNat_natCast]
      have hvn : (f k).toInt.toNat ≤ 19 := by omega
      have eF : fAll (fun k => fFit g (f k) p s) (k + 1) = (fAll (fun k => fFit g (f k) p s) k && fFit g (f k) p s) := rfl
      obtain ⟨i3, l3, e3, hl3, hf3⟩ := r_M_holdsIn d (l := l) (a := sNow g 4) (p := p) (str := s) (water := (f k).toInt.toNat / 2) hn4 (by omega) (by omega) (by omega) hM2 h1 h2 (by rw [hd]; exact hsp) hL0
      subst hl3
      rw [b_M_strengthsOf_18]
      have fin : ∀ z7, Go (d + 4) mM_strengthsOf 18 (fun ls st => ∃ i' z7, ls = [.val (.ref 0), .val (.int (nI t)), .val (.int (nI p)), .val (.int (nI (bs (fun s => fAll (fun k => fFit g (f k) p s) n) s))), .val (.int (nI s)), .val (.int (if fAll (fun k => fFit g (f k) p s) (k + 1) = true then nI 1 else nI 0)), .val (.int (nI (k + 1))), z7] ∧ st = (i', l3, rM, kM) ∧ Fx [5, 6] i i') (am_Ex (d + 4) mM_strengthsOf 18 [.val (.ref 0), .val (.int (nI t)), .val (.int (nI p)), .val (.int (nI (bs (fun s => fAll (fun k => fFit g (f k) p s) n) s))), .val (.int (nI s)), .val (.int ((if fAll (fun k => fFit g (f k) p s) k = true then nI 1 else nI 0) &&& (if fFit g (f k) p s = true then nI 1 else nI 0))), .val (.int (nI (k + 1))), z7] [] (i3, l3, rM, kM)) := by
        intro z7
        rw [q_and1, ← eF]
        exact Go_in ⟨_, _, rfl, rfl, by (repeat (first | exact Fx_refl _ _ | assumption | refine Fx_u2 rfl ?_ | refine Fx_u1 rfl (by decide) ?_ | refine Fx_step (by assumption) rfl ?_ | refine Fx_stepr (by assumption) rfl rfl ?_))⟩
      by_cases hh : sHold g (sNow g 4) p s ((f k).toInt.toNat / 2) = true
      · by_cases hm : (f k).toInt.toNat % 2 = 1
        · have hfit : fFit g (f k) p s = true := by unfold fFit; rw [hh, decide_eq_true hm]; rfl
          rw [hfit] at fin
          simp (disch := first | assumption | omega) only [b_M_strengthsOf_0, b_M_strengthsOf_51, b_M_strengthsOf_61, b_M_strengthsOf_74, b_M_strengthsOf_82, b_M_strengthsOf_105, s_M_standNow, ↓Bool.cond_decide, ↓q_in, q_le, q_lt, q_eq, q_leT, q_leF, q_ltT, q_ltF, q_eqT, q_eqF, ↓reduceIte, not_true_eq_false, not_false_eq_true, true_and, and_true, and_self, false_and, and_false, Nat.zero_le, am_bd_some, q_app, q_app0, nI_add, pk_sub, pk_mul, q_dec, q_ix, q_m1, q_m1', ↓q_ret, q_bool, q_bool1, q_u2, q_u1, q_shl1, q_shr, q_and7, q_dg, fa_or, fa_and, decide_true, decide_false, Bool.or_false, Bool.or_true, Bool.true_or, Bool.false_or, cond_true, cond_false, ite_not, q_some, q_nn, q_xor, q_xorm, Bool.false_eq_true, decide_eq_true_eq, ne_eq, l_0, l_1, l_2, l_4, l_5, l_7, l_8, l_9, l_12, l_18, l_23, l_24, l_31, l_32, l_40, l_51, l_61, l_74, l_82, l_105, l_160, h23', hl, ev, pk_div, q_remL, q_remN, e3, hh, hm]
          exact fin _
        · have hfit : fFit g (f k) p s = false := by unfold fFit; rw [hh, decide_eq_false hm]; rfl
          have hm0 : (f k).toInt.toNat % 2 = 0 := by omega
          rw [hfit] at fin
          simp (disch := first | assumption | omega) only [b_M_strengthsOf_0, b_M_strengthsOf_51, b_M_strengthsOf_61, b_M_strengthsOf_74, b_M_strengthsOf_82, b_M_strengthsOf_105, s_M_standNow, ↓Bool.cond_decide, ↓q_in, q_le, q_lt, q_eq, q_leT, q_leF, q_ltT, q_ltF, q_eqT, q_eqF, ↓reduceIte, not_true_eq_false, not_false_eq_true, true_and, and_true, and_self, false_and, and_false, Nat.zero_le, am_bd_some, q_app, q_app0, nI_add, pk_sub, pk_mul, q_dec, q_ix, q_m1, q_m1', ↓q_ret, q_bool, q_bool1, q_u2, q_u1, q_shl1, q_shr, q_and7, q_dg, fa_or, fa_and, decide_true, decide_false, Bool.or_false, Bool.or_true, Bool.true_or, Bool.false_or, cond_true, cond_false, ite_not, q_some, q_nn, q_xor, q_xorm, Bool.false_eq_true, decide_eq_true_eq, ne_eq, l_0, l_1, l_2, l_4, l_5, l_7, l_8, l_9, l_12, l_18, l_23, l_24, l_31, l_32, l_40, l_51, l_61, l_74, l_82, l_105, l_160, h23', hl, ev, pk_div, q_remL, q_remN, e3, hh, hm0]
          exact fin _
      · by_cases hm : (f k).toInt.toNat % 2 = 1
        · have hfit : fFit g (f k) p s = false := by unfold fFit; rw [Bool.not_eq_true] at hh; rw [hh, decide_eq_true hm]; rfl
          rw [hfit] at fin
          simp (disch := first | assumption | omega) only [b_M_strengthsOf_0, b_M_strengthsOf_51, b_M_strengthsOf_61, b_M_strengthsOf_74, b_M_strengthsOf_82, b_M_strengthsOf_105, s_M_standNow, ↓Bool.cond_decide, ↓q_in, q_le, q_lt, q_eq, q_leT, q_leF, q_ltT, q_ltF, q_eqT, q_eqF, ↓reduceIte, not_true_eq_false, not_false_eq_true, true_and, and_true, and_self, false_and, and_false, Nat.zero_le, am_bd_some, q_app, q_app0, nI_add, pk_sub, pk_mul, q_dec, q_ix, q_m1, q_m1', ↓q_ret, q_bool, q_bool1, q_u2, q_u1, q_shl1, q_shr, q_and7, q_dg, fa_or, fa_and, decide_true, decide_false, Bool.or_false, Bool.or_true, Bool.true_or, Bool.false_or, cond_true, cond_false, ite_not, q_some, q_nn, q_xor, q_xorm, Bool.false_eq_true, decide_eq_true_eq, ne_eq, l_0, l_1, l_2, l_4, l_5, l_7, l_8, l_9, l_12, l_18, l_23, l_24, l_31, l_32, l_40, l_51, l_61, l_74, l_82, l_105, l_160, h23', hl, ev, pk_div, q_remL, q_remN, e3, hh, hm]
          exact fin _
        · have hfit : fFit g (f k) p s = true := by unfold fFit; rw [Bool.not_eq_true] at hh; rw [hh, decide_eq_false hm]; rfl
          have hm0 : (f k).toInt.toNat % 2 = 0 := by omega
          rw [hfit] at fin
          simp (disch := first | assumption | omega) only [b_M_strengthsOf_0, b_M_strengthsOf_51, b_M_strengthsOf_61, b_M_strengthsOf_74, b_M_strengthsOf_82, b_M_strengthsOf_105, s_M_standNow, ↓Bool.cond_decide, ↓q_in, q_le, q_lt, q_eq, q_leT, q_leF, q_ltT, q_ltF, q_eqT, q_eqF, ↓reduceIte, not_true_eq_false, not_false_eq_true, true_and, and_true, and_self, false_and, and_false, Nat.zero_le, am_bd_some, q_app, q_app0, nI_add, pk_sub, pk_mul, q_dec, q_ix, q_m1, q_m1', ↓q_ret, q_bool, q_bool1, q_u2, q_u1, q_shl1, q_shr, q_and7, q_dg, fa_or, fa_and, decide_true, decide_false, Bool.or_false, Bool.or_true, Bool.true_or, Bool.false_or, cond_true, cond_false, ite_not, q_some, q_nn, q_xor, q_xorm, Bool.false_eq_true, decide_eq_true_eq, ne_eq, l_0, l_1, l_2, l_4, l_5, l_7, l_8, l_9, l_12, l_18, l_23, l_24, l_31, l_32, l_40, l_51, l_61, l_74, l_82, l_105, l_160, h23', hl, ev, pk_div, q_remL, q_remN, e3, hh, hm0]
          exact fin _
    · obtain ⟨i2, z7, e1, e2, hf2⟩ := hI
      subst e1; subst e2
      have h23' : i2 23 t = nI n := by rw [Fx_row hf2 (by decide) rfl]; exact h23
      rw [b_M_strengthsOf_18]
      cases hb : fAll (fun k => fFit g (f k) p s) n with
      | true =>
        simp (disch := first | assumption | omega) only [b_M_strengthsOf_0, b_M_strengthsOf_51, b_M_strengthsOf_61, b_M_strengthsOf_74, b_M_strengthsOf_82, b_M_strengthsOf_105, s_M_standNow, ↓Bool.cond_decide, ↓q_in, q_le, q_lt, q_eq, q_leT, q_leF, q_ltT, q_ltF, q_eqT, q_eqF, ↓reduceIte, not_true_eq_false, not_false_eq_true, true_and, and_true, and_self, false_and, and_false, Nat.zero_le, am_bd_some, q_app, q_app0, nI_add, pk_sub, pk_mul, q_dec, q_ix, q_m1, q_m1', ↓q_ret, q_bool, q_bool1, q_u2, q_u1, q_shl1, q_shr, q_and7, q_dg, fa_or, fa_and, decide_true, decide_false, Bool.or_false, Bool.or_true, Bool.true_or, Bool.false_or, cond_true, cond_false, ite_not, q_some, q_nn, q_xor, q_xorm, Bool.false_eq_true, decide_eq_true_eq, ne_eq, l_0, l_1, l_2, l_4, l_5, l_7, l_8, l_9, l_12, l_18, l_23, l_24, l_31, l_32, l_40, l_51, l_61, l_74, l_82, l_105, l_160, h23', hb]
        rw [show bs (fun s => fAll (fun k => fFit g (f k) p s) n) s ||| 2 ^ s = bs (fun s => fAll (fun k => fFit g (f k) p s) n) (s + 1) by rw [bs, if_pos hb]]
        exact Go_in ⟨i2, _, _, _, rfl, rfl, hf2⟩
      | false =>
        simp (disch := first | assumption | omega) only [b_M_strengthsOf_0, b_M_strengthsOf_51, b_M_strengthsOf_61, b_M_strengthsOf_74, b_M_strengthsOf_82, b_M_strengthsOf_105, s_M_standNow, ↓Bool.cond_decide, ↓q_in, q_le, q_lt, q_eq, q_leT, q_leF, q_ltT, q_ltF, q_eqT, q_eqF, ↓reduceIte, not_true_eq_false, not_false_eq_true, true_and, and_true, and_self, false_and, and_false, Nat.zero_le, am_bd_some, q_app, q_app0, nI_add, pk_sub, pk_mul, q_dec, q_ix, q_m1, q_m1', ↓q_ret, q_bool, q_bool1, q_u2, q_u1, q_shl1, q_shr, q_and7, q_dg, fa_or, fa_and, decide_true, decide_false, Bool.or_false, Bool.or_true, Bool.true_or, Bool.false_or, cond_true, cond_false, ite_not, q_some, q_nn, q_xor, q_xorm, Bool.false_eq_true, decide_eq_true_eq, ne_eq, l_0, l_1, l_2, l_4, l_5, l_7, l_8, l_9, l_12, l_18, l_23, l_24, l_31, l_32, l_40, l_51, l_61, l_74, l_82, l_105, l_160, h23', hb]
        rw [show bs (fun s => fAll (fun k => fFit g (f k) p s) n) s ||| 0 = bs (fun s => fAll (fun k => fFit g (f k) p s) n) (s + 1) by rw [bs, if_neg (by rw [hb]; decide)]]
        exact Go_in ⟨i2, _, _, _, rfl, rfl, hf2⟩
  · obtain ⟨i1, z5, z6, z7, e1, e2, hf1⟩ := hI
    subst e1; subst e2
    rw [b_M_strengthsOf_5]
    simp (disch := first | assumption | omega) only [b_M_strengthsOf_0, b_M_strengthsOf_51, b_M_strengthsOf_61, b_M_strengthsOf_74, b_M_strengthsOf_82, b_M_strengthsOf_105, s_M_standNow, ↓Bool.cond_decide, ↓q_in, q_le, q_lt, q_eq, q_leT, q_leF, q_ltT, q_ltF, q_eqT, q_eqF, ↓reduceIte, not_true_eq_false, not_false_eq_true, true_and, and_true, and_self, false_and, and_false, Nat.zero_le, am_bd_some, q_app, q_app0, nI_add, pk_sub, pk_mul, q_dec, q_ix, q_m1, q_m1', ↓q_ret, q_bool, q_bool1, q_u2, q_u1, q_shl1, q_shr, q_and7, q_dg, fa_or, fa_and, decide_true, decide_false, Bool.or_false, Bool.or_true, Bool.true_or, Bool.false_or, cond_true, cond_false, ite_not, q_some, q_nn, q_xor, q_xorm, Bool.false_eq_true, decide_eq_true_eq, ne_eq, l_0, l_1, l_2, l_4, l_5, l_7, l_8, l_9, l_12, l_18, l_23, l_24, l_31, l_32, l_40, l_51, l_61, l_74, l_82, l_105, l_160]
    exact MR_some ⟨rfl, hf1⟩
theorem r_M_strengths (d : Nat) (x y : Int32) {σ : St} (hS : MS i l σ) (hW : WG σ.1) (hT : WT σ) : MR (some (.int (v_strengths σ x y))) (fun i' l' => MS i' l' σ) (am_cl (d + 6) mM_strengths [.ref 0, .int x, .int y] (i, l, rM, kM)) := by
  have hf0 : Fx [100] i (am_u2 i 0 0 (nI 0)) := by (repeat (first | exact Fx_refl _ _ | assumption | refine Fx_u2 rfl ?_ | refine Fx_u1 rfl (by decide) ?_ | refine Fx_step (by assumption) rfl ?_ | refine Fx_stepr (by assumption) rfl rfl ?_))
  have hS0 : MS (am_u2 i 0 0 (nI 0)) l σ := MS_fx hf0 rfl rfl hS
  have hno := s_M_noFelt (d + 1) x y hS0 hW hT
  rw [c_M_strengths, b_M_strengths_0, v_strengths]
  by_cases h0 : fNo σ x y = nI 0
  · obtain ⟨a1, a2, a3, a4, a5, a6, a7⟩ := fNo_0 h0
    obtain ⟨t, ht, rfl⟩ := iB_T a1
    obtain ⟨p, hp, rfl⟩ := iB_T a2
    have hp4 : σ.1 2 ≤ 4 := hW.2.1
    rw [q_ix (by omega)] at a4 a5 a6
    rw [q_ix (by omega)] at a7
    simp (disch := first | assumption | omega) only [b_M_strengths_0, b_M_strengths_11, b_M_strengths_26, ↓Bool.cond_decide, ↓q_in, q_le, q_lt, q_eq, q_leT, q_leF, q_ltT, q_ltF, q_eqT, q_eqF, ↓reduceIte, not_true_eq_false, not_false_eq_true, true_and, and_true, and_self, false_and, and_false, Nat.zero_le, am_bd_some, q_app, q_app0, nI_add, pk_sub, pk_mul, q_dec, q_ix, q_m1, q_m1', ↓q_ret, q_bool, q_bool1, q_u1, q_shl1, q_shr, q_and7, q_dg, fa_or, fa_and, decide_true, decide_false, Bool.or_false, Bool.or_true, Bool.true_or, Bool.false_or, cond_true, cond_false, ite_not, q_some, q_nn, q_xor, q_xorm, Bool.false_eq_true, decide_eq_true_eq, ne_eq, l_0, l_1, l_3, l_9, l_11, l_12, l_26, hno, h0]
    refine MR_bd (r_M_strengthsOf d ht hp (Nat.le_trans a5 (by decide)) (hS0.2.2.2.2.2.2.2.1 t ht) (fun k hk => hS0.2.2.2.2.2.2.2.2 _ (by omega)) a6 a7 hS0.1 hW) ?_
    intro i2 l2 ⟨hl2, hf2⟩
    subst hl2
    simp (disch := first | assumption | omega) only [b_M_strengths_0, b_M_strengths_11, b_M_strengths_26, s_M_noFelt, ↓Bool.cond_decide, ↓q_in, q_le, q_lt, q_eq, q_leT, q_leF, q_ltT, q_ltF, q_eqT, q_eqF, ↓reduceIte, not_true_eq_false, not_false_eq_true, true_and, and_true, and_self, false_and, and_false, Nat.zero_le, am_bd_some, q_app, q_app0, nI_add, pk_sub, pk_mul, q_dec, q_ix, q_m1, q_m1', ↓q_ret, q_bool, q_bool1, q_u2, q_u1, q_shl1, q_shr, q_and7, q_dg, fa_or, fa_and, decide_true, decide_false, Bool.or_false, Bool.or_true, Bool.true_or, Bool.false_or, cond_true, cond_false, ite_not, q_some, q_nn, q_xor, q_xorm, Bool.false_eq_true, decide_eq_true_eq, ne_eq, l_0, l_1, l_3, l_9, l_11, l_12, l_26]
    exact MR_some (MS_fx (R := RQ) (by (repeat (first | exact Fx_refl _ _ | assumption | refine Fx_u2 rfl ?_ | refine Fx_u1 rfl (by decide) ?_ | refine Fx_step (by assumption) rfl ?_ | refine Fx_stepr (by assumption) rfl rfl ?_))) rfl rfl hS)
  · simp (disch := first | assumption | omega) only [b_M_strengths_0, b_M_strengths_11, b_M_strengths_26, ↓Bool.cond_decide, ↓q_in, q_le, q_lt, q_eq, q_leT, q_leF, q_ltT, q_ltF, q_eqT, q_eqF, ↓reduceIte, not_true_eq_false, not_false_eq_true, true_and, and_true, and_self, false_and, and_false, Nat.zero_le, am_bd_some, q_app, q_app0, nI_add, pk_sub, pk_mul, q_dec, q_ix, q_m1, q_m1', ↓q_ret, q_bool, q_bool1, q_u1, q_shl1, q_shr, q_and7, q_dg, fa_or, fa_and, decide_true, decide_false, Bool.or_false, Bool.or_true, Bool.true_or, Bool.false_or, cond_true, cond_false, ite_not, q_some, q_nn, q_xor, q_xorm, Bool.false_eq_true, decide_eq_true_eq, ne_eq, l_0, l_1, l_3, l_9, l_11, l_12, l_26, hno, h0]
    exact MR_some (MS_fx (R := RQ) (by (repeat (first | exact Fx_refl _ _ | assumption | refine Fx_u2 rfl ?_ | refine Fx_u1 rfl (by decide) ?_ | refine Fx_step (by assumption) rfl ?_ | refine Fx_stepr (by assumption) rfl rfl ?_))) rfl rfl hS)
theorem sFS_lt (σ : St) (t p : Nat) : sFS σ t p < 1024 := bs_lt _ 10
theorem r_M_attempt (d : Nat) (x y : Int32) {σ : St} (hS : MS i l σ) (hW : WG σ.1) (hT : WT σ) : MR (some (.int (v_attempt σ x y))) (fun i' l' => MS i' l' σ) (am_cl (d + 6) mM_attempt [.ref 0, .int x, .int y] (i, l, rM, kM)) := by
  have hf0 : Fx [100] i (am_u2 i 0 0 (nI 0)) := by (repeat (first | exact Fx_refl _ _ | assumption | refine Fx_u2 rfl ?_ | refine Fx_u1 rfl (by decide) ?_ | refine Fx_step (by assumption) rfl ?_ | refine Fx_stepr (by assumption) rfl rfl ?_))
  have hS0 : MS (am_u2 i 0 0 (nI 0)) l σ := MS_fx hf0 rfl rfl hS
  have hno := s_M_noFelt (d + 1) x y hS0 hW hT
  have hW' := hW
  rw [c_M_attempt, b_M_attempt_0, v_attempt]
  by_cases h0 : fNo σ x y = nI 0
  · obtain ⟨a1, a2, a3, a4, a5, a6, a7⟩ := fNo_0 h0
    obtain ⟨t, ht, rfl⟩ := iB_T a1
    obtain ⟨p, hp, rfl⟩ := iB_T a2
    have hp4 : σ.1 2 ≤ 4 := hW.2.1
    rw [q_ix (by omega)] at a4 a5 a6
    rw [q_ix (by omega)] at a7
    have hA0 : MA (am_u2 i 0 0 (nI 0)) σ.1 := hS0.1
    obtain ⟨i2, l2, e2, hl2, hf2⟩ := r_M_strengthsOf d ht hp (Nat.le_trans a5 (by decide)) (hS0.2.2.2.2.2.2.2.1 t ht) (fun k hk => hS0.2.2.2.2.2.2.2.2 _ (by omega)) a6 a7 hA0 hW
    subst hl2
    have eF : bs (fun s => fAll (fun k => fFit σ.1 (σ.2.2.2.2.2.2.2.2 (40 * t + k)) p s) (σ.2.2.2.2.2.2.2.1 t)) 10 = sFS σ t p := rfl
    rw [eF] at e2
    have hm := sFS_lt σ t p
    simp (disch := first | assumption | omega) only [b_M_attempt_0, b_M_attempt_11, b_M_attempt_24, b_M_attempt_70, b_M_attempt_78, b_M_attempt_86, b_M_attempt_93, b_M_attempt_94, b_M_attempt_110, b_M_attempt_126, b_M_attempt_129, b_M_attempt_149, b_M_attempt_155, s_M_bitsOf, s_M_isIn, s_M_standNow, ↓Bool.cond_decide, ↓q_in, q_le, q_lt, q_eq, q_leT, q_leF, q_ltT, q_ltF, q_eqT, q_eqF, ↓reduceIte, not_true_eq_false, not_false_eq_true, true_and, and_true, and_self, false_and, and_false, Nat.zero_le, am_bd_some, q_app, q_app0, nI_add, pk_sub, pk_mul, q_dec, q_ix, q_m1, q_m1', ↓q_ret, q_bool, q_bool1, q_u1, q_shl1, q_shr, q_and7, q_dg, fa_or, fa_and, decide_true, decide_false, Bool.or_false, Bool.or_true, Bool.true_or, Bool.false_or, cond_true, cond_false, ite_not, q_some, q_nn, q_xor, q_xorm, Bool.false_eq_true, decide_eq_true_eq, ne_eq, l_0, l_1, l_4, l_5, l_6, l_7, l_9, l_10, l_11, l_13, l_14, l_24, l_35, l_53, l_70, l_78, l_86, l_93, l_94, l_110, l_126, l_129, l_149, l_155, hno, h0, e2]
    obtain ⟨⟨h1', h1⟩, h2, h3, hR, hF, hP, hSt, hD, hL0, hL1, hV⟩ := hW
    have hn4 := sNow_lt σ.1 hP 4 (by decide)
    have hd := dg_sNow hP p (by omega)
    have hM2 : MA i2 σ.1 := MA_fx hf2 hA0 rfl
    generalize sFS σ t p = m at hm
    by_cases hm0 : m = 0
    · subst hm0
      rw [b_M_attempt_35]
      simp (disch := first | assumption | omega) only [b_M_attempt_0, b_M_attempt_11, b_M_attempt_24, b_M_attempt_70, b_M_attempt_78, b_M_attempt_86, b_M_attempt_93, b_M_attempt_94, b_M_attempt_110, b_M_attempt_126, b_M_attempt_129, b_M_attempt_149, b_M_attempt_155, s_M_bitsOf, s_M_isIn, s_M_noFelt, s_M_standNow, ↓Bool.cond_decide, ↓q_in, q_le, q_lt, q_eq, q_leT, q_leF, q_ltT, q_ltF, q_eqT, q_eqF, ↓reduceIte, not_true_eq_false, not_false_eq_true, true_and, and_true, and_self, false_and, and_false, Nat.zero_le, am_bd_some, q_app, q_app0, nI_add, pk_sub, pk_mul, q_dec, q_ix, q_m1, q_m1', ↓q_ret, q_bool, q_bool1, q_u2, q_u1, q_shl1, q_shr, q_and7, q_dg, fa_or, fa_and, decide_true, decide_false, Bool.or_false, Bool.or_true, Bool.true_or, Bool.false_or, cond_true, cond_false, ite_not, q_some, q_nn, q_xor, q_xorm, Bool.false_eq_true, decide_eq_true_eq, ne_eq, l_0, l_1, l_4, l_5, l_6, l_7, l_9, l_10, l_11, l_13, l_14, l_24, l_35, l_53, l_70, l_78, l_86, l_93, l_94, l_110, l_126, l_129, l_149, l_155, ite_self]
      exact MR_some (MS_fx (R := RQ) (by (repeat (first | exact Fx_refl _ _ | assumption | refine Fx_u2 rfl ?_ | refine Fx_u1 rfl (by decide) ?_ | refine Fx_step (by assumption) rfl ?_ | refine Fx_stepr (by assumption) rfl rfl ?_))) rfl rfl hS)
    refine am_loop (fun w ls st => ∃ i' z1 z3 z8 z9, ls = [.val (.ref 0), z1, .val (.int (nI p)), z3, .val (.int (nI m)), .val (.int (mI (hA2 σ.1 m p w).1)), .val (.int (mI (hA2 σ.1 m p w).2)), .val (.int (nI w)), z8, z9] ∧ st = (i', l2, rM, kM) ∧ Fx [5, 6] i2 i') 10 _ (fun w ls st hw hI => ?_) (fun ls s hI => ?_) ⟨i2, _, _, _, _, rfl, rfl, Fx_refl _ _⟩
    · obtain ⟨i3, z1, z3, z8, z9, e1, e2, hf3⟩ := hI
      subst e1; subst e2
      have hle := hA2_le σ.1 m p w (by omega)
      rw [b_M_attempt_35]
      simp (disch := first | assumption | omega) only [b_M_attempt_0, b_M_attempt_11, b_M_attempt_24, b_M_attempt_70, b_M_attempt_78, b_M_attempt_86, b_M_attempt_93, b_M_attempt_94, b_M_attempt_110, b_M_attempt_126, b_M_attempt_129, b_M_attempt_149, b_M_attempt_155, s_M_bitsOf, s_M_isIn, s_M_noFelt, s_M_standNow, ↓Bool.cond_decide, ↓q_in, q_le, q_lt, q_eq, q_leT, q_leF, q_ltT, q_ltF, q_eqT, q_eqF, ↓reduceIte, not_true_eq_false, not_false_eq_true, true_and, and_true, and_self, false_and, and_false, Nat.zero_le, am_bd_some, q_app, q_app0, nI_add, pk_sub, pk_mul, q_dec, q_ix, q_m1, q_m1', ↓q_ret, q_bool, q_bool1, q_u2, q_u1, q_shl1, q_shr, q_and7, q_dg, fa_or, fa_and, decide_true, decide_false, Bool.or_false, Bool.or_true, Bool.true_or, Bool.false_or, cond_true, cond_false, ite_not, q_some, q_nn, q_xor, q_xorm, Bool.false_eq_true, decide_eq_true_eq, ne_eq, l_0, l_1, l_4, l_5, l_6, l_7, l_9, l_10, l_11, l_13, l_14, l_24, l_35, l_53, l_70, l_78, l_86, l_93, l_94, l_110, l_126, l_129, l_149, l_155]
      refine am_loop (fun s ls st => ∃ i', ls = [.val (.ref 0), z1, .val (.int (nI p)), z3, .val (.int (nI m)), .val (.int (mI (hA2 σ.1 m p w).1)), .val (.int (mI (hA2 σ.1 m p w).2)), .val (.int (nI w)), .val (.int (nI (hC σ.1 m p w s))), .val (.int (nI s))] ∧ st = (i', l2, rM, kM) ∧ Fx [5, 6] i2 i') 10 _ (fun s ls st hs hI => ?_) (fun ls st hI => ?_) ⟨i3, rfl, rfl, hf3⟩
      · obtain ⟨i4, e1, e2, hf4⟩ := hI
        subst e1; subst e2
        have hM4 : MA i4 σ.1 := MA_fx hf4 hM2 rfl
        have hcl := hC_le σ.1 m p w s
        have hbl := bc_le m s
        rw [b_M_attempt_53]
        cases hb : m.testBit s with
        | false =>
          have eC : hC σ.1 m p w s + 0 = hC σ.1 m p w (s + 1) := by rw [hC, if_neg (by rw [hb]; exact fun z => by cases z.1)]
          simp (disch := first | assumption | omega) only [b_M_attempt_0, b_M_attempt_11, b_M_attempt_24, b_M_attempt_70, b_M_attempt_78, b_M_attempt_86, b_M_attempt_93, b_M_attempt_94, b_M_attempt_110, b_M_attempt_126, b_M_attempt_129, b_M_attempt_149, b_M_attempt_155, s_M_bitsOf, s_M_isIn, s_M_noFelt, s_M_standNow, ↓Bool.cond_decide, ↓q_in, q_le, q_lt, q_eq, q_leT, q_leF, q_ltT, q_ltF, q_eqT, q_eqF, ↓reduceIte, not_true_eq_false, not_false_eq_true, true_and, and_true, and_self, false_and, and_false, Nat.zero_le, am_bd_some, q_app, q_app0, nI_add, pk_sub, pk_mul, q_dec, q_ix, q_m1, q_m1', ↓q_ret, q_bool, q_bool1, q_u2, q_u1, q_shl1, q_shr, q_and7, q_dg, fa_or, fa_and, decide_true, decide_false, Bool.or_false, Bool.or_true, Bool.true_or, Bool.false_or, cond_true, cond_false, ite_not, q_some, q_nn, q_xor, q_xorm, Bool.false_eq_true, decide_eq_true_eq, ne_eq, l_0, l_1, l_4, l_5, l_6, l_7, l_9, l_10, l_11, l_13, l_14, l_24, l_35, l_53, l_70, l_78, l_86, l_93, l_94, l_110, l_126, l_129, l_149, l_155, hb, eC]
          exact Go_in ⟨i4, rfl, rfl, hf4⟩
        | true =>
          obtain ⟨i5, l5, e5, hl5, hf5⟩ := r_M_holdsIn (d + 1) (l := l2) (a := sNow σ.1 4) (p := p) (str := s) (water := w) hn4 (by omega) (by omega) (by omega) hM4 h1 h2 (by rw [hd]; exact a7) hL0
          subst hl5
          cases hh : sHold σ.1 (sNow σ.1 4) p s w with
          | true =>
            have eC : hC σ.1 m p w s + 1 = hC σ.1 m p w (s + 1) := by rw [hC, if_pos ⟨hb, hh⟩]
            simp (disch := first | assumption | omega) only [b_M_attempt_0, b_M_attempt_11, b_M_attempt_24, b_M_attempt_70, b_M_attempt_78, b_M_attempt_86, b_M_attempt_93, b_M_attempt_94, b_M_attempt_110, b_M_attempt_126, b_M_attempt_129, b_M_attempt_149, b_M_attempt_155, s_M_bitsOf, s_M_isIn, s_M_noFelt, s_M_standNow, ↓Bool.cond_decide, ↓q_in, q_le, q_lt, q_eq, q_leT, q_leF, q_ltT, q_ltF, q_eqT, q_eqF, ↓reduceIte, not_true_eq_false, not_false_eq_true, true_and, and_true, and_self, false_and, and_false, Nat.zero_le, am_bd_some, q_app, q_app0, nI_add, pk_sub, pk_mul, q_dec, q_ix, q_m1, q_m1', ↓q_ret, q_bool, q_bool1, q_u2, q_u1, q_shl1, q_shr, q_and7, q_dg, fa_or, fa_and, decide_true, decide_false, Bool.or_false, Bool.or_true, Bool.true_or, Bool.false_or, cond_true, cond_false, ite_not, q_some, q_nn, q_xor, q_xorm, Bool.false_eq_true, decide_eq_true_eq, ne_eq, l_0, l_1, l_4, l_5, l_6, l_7, l_9, l_10, l_11, l_13, l_14, l_24, l_35, l_53, l_70, l_78, l_86, l_93, l_94, l_110, l_126, l_129, l_149, l_155, hb, e5, hh, eC]
            exact Go_in ⟨i5, rfl, rfl, by (repeat (first | exact Fx_refl _ _ | assumption | refine Fx_u2 rfl ?_ | refine Fx_u1 rfl (by decide) ?_ | refine Fx_step (by assumption) rfl ?_ | refine Fx_stepr (by assumption) rfl rfl ?_))⟩
          | false =>
            have eC : hC σ.1 m p w s + 0 = hC σ.1 m p w (s + 1) := by rw [hC, if_neg (by rw [hh]; exact fun z => by cases z.2)]
            simp (disch := first | assumption | omega) only [b_M_attempt_0, b_M_attempt_11, b_M_attempt_24, b_M_attempt_70, b_M_attempt_78, b_M_attempt_86, b_M_attempt_93, b_M_attempt_94, b_M_attempt_110, b_M_attempt_126, b_M_attempt_129, b_M_attempt_149, b_M_attempt_155, s_M_bitsOf, s_M_isIn, s_M_noFelt, s_M_standNow, ↓Bool.cond_decide, ↓q_in, q_le, q_lt, q_eq, q_leT, q_leF, q_ltT, q_ltF, q_eqT, q_eqF, ↓reduceIte, not_true_eq_false, not_false_eq_true, true_and, and_true, and_self, false_and, and_false, Nat.zero_le, am_bd_some, q_app, q_app0, nI_add, pk_sub, pk_mul, q_dec, q_ix, q_m1, q_m1', ↓q_ret, q_bool, q_bool1, q_u2, q_u1, q_shl1, q_shr, q_and7, q_dg, fa_or, fa_and, decide_true, decide_false, Bool.or_false, Bool.or_true, Bool.true_or, Bool.false_or, cond_true, cond_false, ite_not, q_some, q_nn, q_xor, q_xorm, Bool.false_eq_true, decide_eq_true_eq, ne_eq, l_0, l_1, l_4, l_5, l_6, l_7, l_9, l_10, l_11, l_13, l_14, l_24, l_35, l_53, l_70, l_78, l_86, l_93, l_94, l_110, l_126, l_129, l_149, l_155, hb, e5, hh, eC]
            exact Go_in ⟨i5, rfl, rfl, by (repeat (first | exact Fx_refl _ _ | assumption | refine Fx_u2 rfl ?_ | refine Fx_u1 rfl (by decide) ?_ | refine Fx_step (by assumption) rfl ?_ | refine Fx_stepr (by assumption) rfl rfl ?_))⟩
      · obtain ⟨i4, e1, e2, hf4⟩ := hI
        subst e1; subst e2
        have hcl := hC_le σ.1 m p w 10
        have hbl := bc_le m 10
        rw [b_M_attempt_53]
        have nxt : ∀ z8 z9, Go (d + 5) mM_attempt 35 (fun ls st => ∃ i' z1 z3 z8 z9, ls = [.val (.ref 0), z1, .val (.int (nI p)), z3, .val (.int (nI m)), .val (.int (mI (hA2 σ.1 m p (w + 1)).1)), .val (.int (mI (hA2 σ.1 m p (w + 1)).2)), .val (.int (nI (w + 1))), z8, z9] ∧ st = (i', l2, rM, kM) ∧ Fx [5, 6] i2 i') (am_Ex (d + 5) mM_attempt 35 [.val (.ref 0), z1, .val (.int (nI p)), z3, .val (.int (nI m)), .val (.int (mI (hA2 σ.1 m p (w + 1)).1)), .val (.int (mI (hA2 σ.1 m p (w + 1)).2)), .val (.int (nI (w + 1))), z8, z9] [] (i4, l2, rM, kM)) := fun z8 z9 => Go_in ⟨i4, _, _, _, _, rfl, rfl, hf4⟩
        have go : ∀ z8, Go (d + 5) mM_attempt 35 (fun ls st => ∃ i' z1 z3 z8 z9, ls = [.val (.ref 0), z1, .val (.int (nI p)), z3, .val (.int (nI m)), .val (.int (mI (hA2 σ.1 m p (w + 1)).1)), .val (.int (mI (hA2 σ.1 m p (w + 1)).2)), .val (.int (nI (w + 1))), z8, z9] ∧ st = (i', l2, rM, kM) ∧ Fx [5, 6] i2 i') (am_Ex (d + 5) mM_attempt 129 [.val (.ref 0), z1, .val (.int (nI p)), z3, .val (.int (nI m)), .val (.int (mI (hA2 σ.1 m p w).1)), .val (.int (mI (hA2 σ.1 m p w).2)), .val (.int (nI w)), z8, .val (.int (nI 10))] [.int (nI (hI σ.1 m p w))] (i4, l2, rM, kM)) := by
          intro z8
          have hi : hI σ.1 m p w ≤ 10 := by
            unfold hI mn
            split <;> omega
          have hlt := mI_lt (a := (hA2 σ.1 m p w).2) (b := hI σ.1 m p w) (by omega) (by omega)
          rw [b_M_attempt_129]
          by_cases hq : (hA2 σ.1 m p w).2 ≤ hI σ.1 m p w
          · have e1 : hA2 σ.1 m p (w + 1) = (w + 1, hI σ.1 m p w + 1) := by rw [hA2, if_pos hq]
            have f1 : nI w = mI (hA2 σ.1 m p (w + 1)).1 := by rw [e1]; rfl
            have f2 : nI (hI σ.1 m p w) = mI (hA2 σ.1 m p (w + 1)).2 := by rw [e1]; rfl
            simp (disch := first | assumption | omega) only [b_M_attempt_0, b_M_attempt_11, b_M_attempt_24, b_M_attempt_70, b_M_attempt_78, b_M_attempt_86, b_M_attempt_93, b_M_attempt_94, b_M_attempt_110, b_M_attempt_126, b_M_attempt_149, b_M_attempt_155, s_M_bitsOf, s_M_isIn, s_M_noFelt, s_M_standNow, ↓Bool.cond_decide, ↓q_in, q_le, q_lt, q_eq, q_leT, q_leF, q_ltT, q_ltF, q_eqT, q_eqF, ↓reduceIte, not_true_eq_false, not_false_eq_true, true_and, and_true, and_self, false_and, and_false, Nat.zero_le, am_bd_some, q_app, q_app0, nI_add, pk_sub, pk_mul, q_dec, q_ix, q_m1, q_m1', ↓q_ret, q_bool, q_bool1, q_u2, q_u1, q_shl1, q_shr, q_and7, q_dg, fa_or, fa_and, decide_true, decide_false, Bool.or_false, Bool.or_true, Bool.true_or, Bool.false_or, cond_true, cond_false, ite_not, q_some, q_nn, q_xor, q_xorm, Bool.false_eq_true, decide_eq_true_eq, ne_eq, l_0, l_1, l_4, l_5, l_6, l_7, l_9, l_10, l_11, l_13, l_14, l_24, l_35, l_53, l_70, l_78, l_86, l_93, l_94, l_110, l_126, l_129, l_149, l_155, hlt, hq]
            have := nxt (am_k1 z8) (.val (.int (nI (hI σ.1 m p w))))
            rw [← f1, ← f2] at this ⊢
            exact this
          · have e1 : hA2 σ.1 m p (w + 1) = hA2 σ.1 m p w := by rw [hA2, if_neg hq]
            simp (disch := first | assumption | omega) only [b_M_attempt_0, b_M_attempt_11, b_M_attempt_24, b_M_attempt_70, b_M_attempt_78, b_M_attempt_86, b_M_attempt_93, b_M_attempt_94, b_M_attempt_110, b_M_attempt_126, b_M_attempt_149, b_M_attempt_155, s_M_bitsOf, s_M_isIn, s_M_noFelt, s_M_standNow, ↓Bool.cond_decide, ↓q_in, q_le, q_lt, q_eq, q_leT, q_leF, q_ltT, q_ltF, q_eqT, q_eqF, ↓reduceIte, not_true_eq_false, not_false_eq_true, true_and, and_true, and_self, false_and, and_false, Nat.zero_le, am_bd_some, q_app, q_app0, nI_add, pk_sub, pk_mul, q_dec, q_ix, q_m1, q_m1', ↓q_ret, q_bool, q_bool1, q_u2, q_u1, q_shl1, q_shr, q_and7, q_dg, fa_or, fa_and, decide_true, decide_false, Bool.or_false, Bool.or_true, Bool.true_or, Bool.false_or, cond_true, cond_false, ite_not, q_some, q_nn, q_xor, q_xorm, Bool.false_eq_true, decide_eq_true_eq, ne_eq, l_0, l_1, l_4, l_5, l_6, l_7, l_9, l_10, l_11, l_13, l_14, l_24, l_35, l_53, l_70, l_78, l_86, l_93, l_94, l_110, l_126, l_129, l_149, l_155, hlt, hq]
            have := nxt (am_k1 z8) (.val (.int (nI (hI σ.1 m p w))))
            rw [e1] at this ⊢
            exact this
        by_cases hq : hC σ.1 m p w 10 < bc m 10 - hC σ.1 m p w 10
        · have e1 : hI σ.1 m p w = hC σ.1 m p w 10 := by unfold hI mn; rw [if_pos hq]
          rw [e1] at go
          simp (disch := first | assumption | omega) only [b_M_attempt_0, b_M_attempt_11, b_M_attempt_24, b_M_attempt_70, b_M_attempt_78, b_M_attempt_86, b_M_attempt_93, b_M_attempt_94, b_M_attempt_110, b_M_attempt_126, b_M_attempt_149, b_M_attempt_155, s_M_bitsOf, s_M_isIn, s_M_noFelt, s_M_standNow, ↓Bool.cond_decide, ↓q_in, q_le, q_lt, q_eq, q_leT, q_leF, q_ltT, q_ltF, q_eqT, q_eqF, ↓reduceIte, not_true_eq_false, not_false_eq_true, true_and, and_true, and_self, false_and, and_false, Nat.zero_le, am_bd_some, q_app, q_app0, nI_add, pk_sub, pk_mul, q_dec, q_ix, q_m1, q_m1', ↓q_ret, q_bool, q_bool1, q_u2, q_u1, q_shl1, q_shr, q_and7, q_dg, fa_or, fa_and, decide_true, decide_false, Bool.or_false, Bool.or_true, Bool.true_or, Bool.false_or, cond_true, cond_false, ite_not, q_some, q_nn, q_xor, q_xorm, Bool.false_eq_true, decide_eq_true_eq, ne_eq, l_0, l_1, l_4, l_5, l_6, l_7, l_9, l_10, l_11, l_13, l_14, l_24, l_35, l_53, l_70, l_78, l_86, l_93, l_94, l_110, l_126, l_129, l_149, l_155]
          exact go _
        · have e1 : hI σ.1 m p w = bc m 10 - hC σ.1 m p w 10 := by unfold hI mn; rw [if_neg hq]
          rw [e1] at go
          simp (disch := first | assumption | omega) only [b_M_attempt_0, b_M_attempt_11, b_M_attempt_24, b_M_attempt_70, b_M_attempt_78, b_M_attempt_86, b_M_attempt_93, b_M_attempt_94, b_M_attempt_110, b_M_attempt_126, b_M_attempt_149, b_M_attempt_155, s_M_bitsOf, s_M_isIn, s_M_noFelt, s_M_standNow, ↓Bool.cond_decide, ↓q_in, q_le, q_lt, q_eq, q_leT, q_leF, q_ltT, q_ltF, q_eqT, q_eqF, ↓reduceIte, not_true_eq_false, not_false_eq_true, true_and, and_true, and_self, false_and, and_false, Nat.zero_le, am_bd_some, q_app, q_app0, nI_add, pk_sub, pk_mul, q_dec, q_ix, q_m1, q_m1', ↓q_ret, q_bool, q_bool1, q_u2, q_u1, q_shl1, q_shr, q_and7, q_dg, fa_or, fa_and, decide_true, decide_false, Bool.or_false, Bool.or_true, Bool.true_or, Bool.false_or, cond_true, cond_false, ite_not, q_some, q_nn, q_xor, q_xorm, Bool.false_eq_true, decide_eq_true_eq, ne_eq, l_0, l_1, l_4, l_5, l_6, l_7, l_9, l_10, l_11, l_13, l_14, l_24, l_35, l_53, l_70, l_78, l_86, l_93, l_94, l_110, l_126, l_129, l_149, l_155]
          exact go _
    · obtain ⟨i3, z1, z3, z8, z9, e1, e2, hf3⟩ := hI
      subst e1; subst e2
      rw [b_M_attempt_35]
      simp (disch := first | assumption | omega) only [b_M_attempt_0, b_M_attempt_11, b_M_attempt_24, b_M_attempt_70, b_M_attempt_78, b_M_attempt_86, b_M_attempt_93, b_M_attempt_94, b_M_attempt_110, b_M_attempt_126, b_M_attempt_129, b_M_attempt_149, b_M_attempt_155, s_M_bitsOf, s_M_isIn, s_M_noFelt, s_M_standNow, ↓Bool.cond_decide, ↓q_in, q_le, q_lt, q_eq, q_leT, q_leF, q_ltT, q_ltF, q_eqT, q_eqF, ↓reduceIte, not_true_eq_false, not_false_eq_true, true_and, and_true, and_self, false_and, and_false, Nat.zero_le, am_bd_some, q_app, q_app0, nI_add, pk_sub, pk_mul, q_dec, q_ix, q_m1, q_m1', ↓q_ret, q_bool, q_bool1, q_u2, q_u1, q_shl1, q_shr, q_and7, q_dg, fa_or, fa_and, decide_true, decide_false, Bool.or_false, Bool.or_true, Bool.true_or, Bool.false_or, cond_true, cond_false, ite_not, q_some, q_nn, q_xor, q_xorm, Bool.false_eq_true, decide_eq_true_eq, ne_eq, l_0, l_1, l_4, l_5, l_6, l_7, l_9, l_10, l_11, l_13, l_14, l_24, l_35, l_53, l_70, l_78, l_86, l_93, l_94, l_110, l_126, l_129, l_149, l_155, hm0]
      exact MR_some (MS_fx (R := RQ) (by (repeat (first | exact Fx_refl _ _ | assumption | refine Fx_u2 rfl ?_ | refine Fx_u1 rfl (by decide) ?_ | refine Fx_step (by assumption) rfl ?_ | refine Fx_stepr (by assumption) rfl rfl ?_))) rfl rfl hS)
  · simp (disch := first | assumption | omega) only [b_M_attempt_0, b_M_attempt_11, b_M_attempt_24, b_M_attempt_70, b_M_attempt_78, b_M_attempt_86, b_M_attempt_93, b_M_attempt_94, b_M_attempt_110, b_M_attempt_126, b_M_attempt_129, b_M_attempt_149, b_M_attempt_155, s_M_bitsOf, s_M_isIn, s_M_standNow, ↓Bool.cond_decide, ↓q_in, q_le, q_lt, q_eq, q_leT, q_leF, q_ltT, q_ltF, q_eqT, q_eqF, ↓reduceIte, not_true_eq_false, not_false_eq_true, true_and, and_true, and_self, false_and, and_false, Nat.zero_le, am_bd_some, q_app, q_app0, nI_add, pk_sub, pk_mul, q_dec, q_ix, q_m1, q_m1', ↓q_ret, q_bool, q_bool1, q_u1, q_shl1, q_shr, q_and7, q_dg, fa_or, fa_and, decide_true, decide_false, Bool.or_false, Bool.or_true, Bool.true_or, Bool.false_or, cond_true, cond_false, ite_not, q_some, q_nn, q_xor, q_xorm, Bool.false_eq_true, decide_eq_true_eq, ne_eq, l_0, l_1, l_4, l_5, l_6, l_7, l_9, l_10, l_11, l_13, l_14, l_24, l_35, l_53, l_70, l_78, l_86, l_93, l_94, l_110, l_126, l_129, l_149, l_155, hno, h0]
    exact MR_some (MS_fx (R := RQ) (by (repeat (first | exact Fx_refl _ _ | assumption | refine Fx_u2 rfl ?_ | refine Fx_u1 rfl (by decide) ?_ | refine Fx_step (by assumption) rfl ?_ | refine Fx_stepr (by assumption) rfl rfl ?_))) rfl rfl hS)
end
