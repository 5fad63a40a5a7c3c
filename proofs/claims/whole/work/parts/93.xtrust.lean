/-! THE CLASS: trust, kept as bits -/
theorem x_orb (x : Int32) {k j : Nat} (hk : k < 31) (hj : j < 32) : (x ||| nI (2 ^ k)).toBitVec.getLsbD j = (x.toBitVec.getLsbD j || decide (j = k)) := by
  have h31 : 2 ^ k < 2 ^ 32 := Nat.pow_lt_pow_right (by decide) (by omega)
  rw [Int32.toBitVec_or, BitVec.getLsbD_or, x_nb h31, Nat.testBit_two_pow]
  congr 1
  apply decide_eq_decide.mpr
  exact eq_comm
theorem x_anb (x : Int32) {k j : Nat} (hk : k < 31) (hj : j < 32) : (x &&& (nI (2 ^ k) ^^^ (-1 : Int32))).toBitVec.getLsbD j = (x.toBitVec.getLsbD j && !decide (j = k)) := by
  have h31 : 2 ^ k < 2 ^ 32 := Nat.pow_lt_pow_right (by decide) (by omega)
  have e1 : ((-1) : Int32).toBitVec.getLsbD j = true := by
    show (BitVec.allOnes 32).getLsbD j = true
    rw [BitVec.getLsbD_allOnes, decide_eq_true hj]
  rw [Int32.toBitVec_and, Int32.toBitVec_xor, BitVec.getLsbD_and, BitVec.getLsbD_xor, x_nb h31, e1, Nat.testBit_two_pow]
  by_cases c : j = k
  · rw [decide_eq_true c, decide_eq_true c.symm]; rfl
  · rw [decide_eq_false c, decide_eq_false (fun z => c z.symm)]; rfl
/-- what is kept of trust is so -/
def TV (i : Nat → Nat → Int32) (g : Nat → Nat) : Prop := g 5 ≠ 0 → ∀ p q gap, p < 4 → q < 4 → gap < 16 → (i 18 (p * 4 + q)).toBitVec.getLsbD gap = true → (i 19 (p * 4 + q)).toBitVec.getLsbD gap = sTrust g p q gap
section
variable {i : Nat → Nat → Int32} {l : Nat → Nat → Int64} {q : Nat → Nat → Option Nat} {K : List (Nat × Nat)} {r : Nat} {g : Nat → Nat}
theorem r_Ford_trusting (d : Nat) {m p o gap : Nat} (hV : RV (i, l, rX q, kX K) r g) (hL : LW g 1) (hq : rX q 11 1 = some r) (hm : l 11 2 = lN m) (hM : RM m (gCur g)) (hp : p < 4) (ho : o < 4) (hg : gap < 16) (hT : TV i g) : XR q K (some (.int (if sTrust g p o gap = true then nI 1 else nI 0))) (fun i' l' => l' = l ∧ Fr [13, 14, 18, 19] i i' ∧ TV i' g) (am_cl (d + 2) mFord_trusting [.ref 11, .int (nI p), .int (nI o), .int (nI gap)] (i, l, rX q, kX K)) := by
  obtain ⟨a1, a2, a3, a4, a5, a6, _, ⟨fa, fa1, fa2, fa3, fa4, fa5⟩, _, ⟨b1, b2⟩⟩ := hV
  have hk : ∀ i', Nat.beq (am_kd (i', l, rX q, kX K) r) 6 = true := fun i' => by rw [show am_kd (i', l, rX q, kX K) r = 6 from a2]; rfl
  refine XR_q ?_
  intro Q hQ
  rw [c_Ford_trusting, b_Ford_trusting_0, hq]
  by_cases h5 : g 5 = 0
  · have b1 : rX q r 8 = none := b1 h5
    have hst : sTrust g p o gap = true := by unfold sTrust; exact decide_eq_true (Or.inl h5)
    simp (disch := first | assumption | omega) only [b_Ford_trusting_0, b_Ford_trusting_30, b_Ford_trusting_44, b_Ford_trusting_59, b_Ford_trusting_62, b_Ford_trusting_81, b_Ford_trusting_100, b_Ford_trusting_115, b_Ford_trusting_118, b_Ford_trusting_129, b_Ford_trusting_166, b_Ford_trusting_194, b_Ford_trusting_195, b_Ford_trusting_206, s_Law_isTrue, s_Law_tell, s_X_hasBit, s_X_hasBit', s_X_strengthOf, ↓Bool.cond_decide, ↓q_in, q_le, q_lt, q_eq, q_leT, q_leF, q_ltT, q_ltF, q_eqT, q_eqF, ↓reduceIte, not_true_eq_false, not_false_eq_true, true_and, and_true, and_self, false_and, and_false, Nat.zero_le, am_bd_some, q_app, q_app0, nI_add, pk_sub, pk_mul, q_dec, q_ix, q_m1, q_m1', ↓q_ret, q_bool, q_bool1, q_u2, q_u1, q_shl1, q_shr, q_and7, q_dg, fa_or, fa_and, decide_true, decide_false, Bool.or_false, Bool.or_true, Bool.true_or, Bool.false_or, cond_true, cond_false, ite_not, q_some, q_nn, q_xor, q_xorm, Bool.false_eq_true, decide_eq_true_eq, ne_eq, l_0, l_1, l_2, l_3, l_4, l_6, l_7, l_8, l_9, l_11, l_12, l_14, l_16, l_18, l_19, l_20, l_22, l_25, l_30, l_31, l_44, l_59, l_62, l_81, l_100, l_115, l_118, l_128, l_129, l_134, l_135, l_136, l_137, l_166, l_194, l_195, l_206, hk, b1, cond_true, hst]
    exact XR_some (hQ _ _ ⟨rfl, Fr_refl _ _, hT⟩)
  · obtain ⟨c, c1, c2, c3, c4', c5⟩ := b2 h5
    have c1 : rX q r 8 = some c := c1
    have fa1 : rX q r 6 = some fa := fa1
    -- what is told behind all
    have tail : ∀ i' z1 z2 z5, Fr [13, 14, 18, 19] i i' → TV i' g → (i' 18 (p * 4 + o)).toBitVec.getLsbD gap = true → XR q K (some (.int (if sTrust g p o gap = true then nI 1 else nI 0))) Q (am_Ex (d + 1) mFord_trusting 195 [.val (.ref 11), z1, z2, .val (.int (nI gap)), .val (.int (nI (p * 4 + o))), z5] [] (i', l, rX q, kX K)) := by
      intro i' z1 z2 z5 hf' hT' hb
      have hh := s_X_hasBit d (i' 19 (p * 4 + o)) (k := gap) (by omega) (i', l, rX q, kX K)
      rw [hT' h5 p o gap hp ho hg hb] at hh
      rw [b_Ford_trusting_195]
      cases hst : sTrust g p o gap with
      | true =>
        rw [hst] at hh
        simp (disch := first | assumption | omega) only [b_Ford_trusting_0, b_Ford_trusting_30, b_Ford_trusting_44, b_Ford_trusting_59, b_Ford_trusting_62, b_Ford_trusting_81, b_Ford_trusting_100, b_Ford_trusting_115, b_Ford_trusting_118, b_Ford_trusting_129, b_Ford_trusting_166, b_Ford_trusting_194, b_Ford_trusting_195, b_Ford_trusting_206, s_Law_isTrue, s_Law_tell, s_X_hasBit', s_X_strengthOf, ↓Bool.cond_decide, ↓q_in, q_le, q_lt, q_eq, q_leT, q_leF, q_ltT, q_ltF, q_eqT, q_eqF, ↓reduceIte, not_true_eq_false, not_false_eq_true, true_and, and_true, and_self, false_and, and_false, Nat.zero_le, am_bd_some, q_app, q_app0, nI_add, pk_sub, pk_mul, q_dec, q_ix, q_m1, q_m1', ↓q_ret, q_bool, q_bool1, q_u2, q_u1, q_shl1, q_shr, q_and7, q_dg, fa_or, fa_and, decide_true, decide_false, Bool.or_false, Bool.or_true, Bool.true_or, Bool.false_or, cond_true, cond_false, ite_not, q_some, q_nn, q_xor, q_xorm, Bool.false_eq_true, decide_eq_true_eq, ne_eq, l_0, l_1, l_2, l_3, l_4, l_6, l_7, l_8, l_9, l_11, l_12, l_14, l_16, l_18, l_19, l_20, l_22, l_25, l_30, l_31, l_44, l_59, l_62, l_81, l_100, l_115, l_118, l_128, l_129, l_134, l_135, l_136, l_137, l_166, l_194, l_195, l_206, hh]
        exact XR_some (hQ _ _ ⟨rfl, hf', hT'⟩)
      | false =>
        rw [hst] at hh
        simp (disch := first | assumption | omega) only [b_Ford_trusting_0, b_Ford_trusting_30, b_Ford_trusting_44, b_Ford_trusting_59, b_Ford_trusting_62, b_Ford_trusting_81, b_Ford_trusting_100, b_Ford_trusting_115, b_Ford_trusting_118, b_Ford_trusting_129, b_Ford_trusting_166, b_Ford_trusting_194, b_Ford_trusting_195, b_Ford_trusting_206, s_Law_isTrue, s_Law_tell, s_X_hasBit', s_X_strengthOf, ↓Bool.cond_decide, ↓q_in, q_le, q_lt, q_eq, q_leT, q_leF, q_ltT, q_ltF, q_eqT, q_eqF, ↓reduceIte, not_true_eq_false, not_false_eq_true, true_and, and_true, and_self, false_and, and_false, Nat.zero_le, am_bd_some, q_app, q_app0, nI_add, pk_sub, pk_mul, q_dec, q_ix, q_m1, q_m1', ↓q_ret, q_bool, q_bool1, q_u2, q_u1, q_shl1, q_shr, q_and7, q_dg, fa_or, fa_and, decide_true, decide_false, Bool.or_false, Bool.or_true, Bool.true_or, Bool.false_or, cond_true, cond_false, ite_not, q_some, q_nn, q_xor, q_xorm, Bool.false_eq_true, decide_eq_true_eq, ne_eq, l_0, l_1, l_2, l_3, l_4, l_6, l_7, l_8, l_9, l_11, l_12, l_14, l_16, l_18, l_19, l_20, l_22, l_25, l_30, l_31, l_44, l_59, l_62, l_81, l_100, l_115, l_118, l_128, l_129, l_134, l_135, l_136, l_137, l_166, l_194, l_195, l_206, hh]
        exact XR_some (hQ _ _ ⟨rfl, hf', hT'⟩)
    have hh := s_X_hasBit d (i 18 (p * 4 + o)) (k := gap) (by omega) (i, l, rX q, kX K)
    cases hb : (i 18 (p * 4 + o)).toBitVec.getLsbD gap with
    | true =>
      rw [hb] at hh
      simp (disch := first | assumption | omega) only [b_Ford_trusting_0, b_Ford_trusting_30, b_Ford_trusting_44, b_Ford_trusting_59, b_Ford_trusting_62, b_Ford_trusting_81, b_Ford_trusting_100, b_Ford_trusting_115, b_Ford_trusting_118, b_Ford_trusting_129, b_Ford_trusting_166, b_Ford_trusting_194, b_Ford_trusting_206, s_Law_isTrue, s_Law_tell, s_X_hasBit', s_X_strengthOf, ↓Bool.cond_decide, ↓q_in, q_le, q_lt, q_eq, q_leT, q_leF, q_ltT, q_ltF, q_eqT, q_eqF, ↓reduceIte, not_true_eq_false, not_false_eq_true, true_and, and_true, and_self, false_and, and_false, Nat.zero_le, am_bd_some, q_app, q_app0, nI_add, pk_sub, pk_mul, q_dec, q_ix, q_m1, q_m1', ↓q_ret, q_bool, q_bool1, q_u2, q_u1, q_shl1, q_shr, q_and7, q_dg, fa_or, fa_and, decide_true, decide_false, Bool.or_false, Bool.or_true, Bool.true_or, Bool.false_or, cond_true, cond_false, ite_not, q_some, q_nn, q_xor, q_xorm, Bool.false_eq_true, decide_eq_true_eq, ne_eq, l_0, l_1, l_2, l_3, l_4, l_6, l_7, l_8, l_9, l_11, l_12, l_14, l_16, l_18, l_19, l_20, l_22, l_25, l_30, l_31, l_44, l_59, l_62, l_81, l_100, l_115, l_118, l_128, l_129, l_134, l_135, l_136, l_137, l_166, l_194, l_195, l_206, hk, c1, cond_true, hh]
      exact tail i _ _ _ (Fr_refl _ _) hT hb
    | false =>
      rw [hb] at hh
      obtain ⟨_, hL2⟩ := hL
      obtain ⟨hf, hwd, T, h0, h1, hTT⟩ := hL2 h5
      have hf : g 7 + g 9 ≤ 900 := hf
      have t : ∀ w, w < 10 → ∀ i' v, am_cl (d + 1) mLaw_tell [.ref 12, .int (nI (128 + w)), .int v] (i', l, rX q, kX K) = some (none, (am_u2 i' 14 w v, l, rX q, kX K)) := fun w hw i' v => s_Law_tell d hw v
      have t0 := t 0 (by decide)
      have t1 := t 1 (by decide)
      have t6 := t 6 (by decide)
      have t7 := t 7 (by decide)
      have t8 := t 8 (by decide)
      have t9 := t 9 (by decide)
      have hm2 := hM.1
      have hs1 := fun s => s_X_strengthOf d (m := m) (p := p) (by omega) (by omega) s
      have hs2 := fun s => s_X_strengthOf d (m := m) (p := o) (by omega) (by omega) s
      rw [hM.2.2.1 p hp, show gCur g (4 + p) = g (22 + p) by unfold gCur; congr 1; omega] at hs1
      rw [hM.2.2.1 o ho, show gCur g (4 + o) = g (22 + o) by unfold gCur; congr 1; omega] at hs2
      have hc13 : c ≠ 13 := by rcases c4' with h | h | h | h <;> omega
      have hc14 : c ≠ 14 := by rcases c4' with h | h | h | h <;> omega
      have hc18 : c ≠ 18 := by rcases c4' with h | h | h | h <;> omega
      have hfa14 : fa ≠ 14 := by rcases fa4 with h | h | h | h <;> omega
      have kf : ∀ i' x, (Nat.beq (am_kd (i', l, rX q, kX K) fa) 100 && am_in x (am_ln (i', l, rX q, kX K) fa)) = am_in x 4 := fun i' x => by
        rw [show am_kd (i', l, rX q, kX K) fa = 100 from fa2, show am_ln (i', l, rX q, kX K) fa = 4 from fa3]; rfl
      have fp := fa5 p hp
      have fo := fa5 o ho
      dsimp only at fp fo
      obtain ⟨i7, hi7⟩ : ∃ i7, am_u2 (am_u2 (am_u2 (am_u2 (am_u2 (am_u2 i 14 0 (nI p)) 14 1 (nI (g (22 + p)))) 14 6 (nI (g (14 + p)))) 14 7 (nI (g (14 + o)))) 14 8 (nI (g (22 + o)))) 14 9 (nI gap) = i7 := ⟨_, rfl⟩
      have h18 : i7 18 = i 18 := by rw [← hi7]; rfl
      have h19 : i7 19 = i 19 := by rw [← hi7]; rfl
      have hfr : Fr [13, 14, 18, 19] i i7 := by
        rw [← hi7]
        exact Fr_u2 rfl (Fr_u2 rfl (Fr_u2 rfl (Fr_u2 rfl (Fr_u2 rfl (Fr_u2 rfl (Fr_refl _ _))))))
      have hrow : ∀ k, i7 c k = i c k := fun k => by
        rw [← hi7]
        simp only [q_u2, hc14, if_false]
      obtain ⟨i8, hi8⟩ : ∃ i8, am_u2 i7 18 (p * 4 + o) (i7 18 (p * 4 + o) ||| nI (2 ^ gap)) = i8 := ⟨_, rfl⟩
      have hfr8 : Fr [13, 14, 18, 19] i i8 := by rw [← hi8]; exact Fr_u2 rfl hfr
      obtain ⟨f, hres⟩ := s_Law_isTrue (i := i8) (l := l) (q := q) (K := K) (r := c) d (n := g 9) (c := cdl g 1) (T := T) hc13 (by rw [show am_kd (i8, l, rX q, kX K) c = 100 from c2]; rfl) c3 (by omega) (fun k hk => by
        rw [← hi8]
        simp only [q_u2, hc18, if_false, hrow]
        exact c5 k hk) h0 hTT h1
      have e : evk (i8 14) (cdl g 1) (g 9) = evk (wT g p o gap) (cdl g 1) (g 9) := evk_cong (c := cdl g 1) (fun k hk => T1_range (hTT k hk)) (fun k hk h1 h2 => by
        have := hwd k hk h1 h2
        unfold wOk at this
        generalize cdl g 1 k - 1000 = w at this
        rw [← hi8, ← hi7]
        rcases (show w = 0 ∨ w = 1 ∨ w = 6 ∨ w = 7 ∨ w = 8 ∨ w = 9 by omega) with rfl | rfl | rfl | rfl | rfl | rfl <;> rfl)
      rw [e] at hres
      simp (disch := first | assumption | omega) only [b_Ford_trusting_0, b_Ford_trusting_30, b_Ford_trusting_44, b_Ford_trusting_59, b_Ford_trusting_62, b_Ford_trusting_81, b_Ford_trusting_100, b_Ford_trusting_115, b_Ford_trusting_118, b_Ford_trusting_206, s_Law_isTrue, s_X_hasBit', ↓Bool.cond_decide, ↓q_in, q_le, q_lt, q_eq, q_leT, q_leF, q_ltT, q_ltF, q_eqT, q_eqF, ↓reduceIte, not_true_eq_false, not_false_eq_true, true_and, and_true, and_self, false_and, and_false, Nat.zero_le, am_bd_some, q_app, q_app0, nI_add, pk_sub, pk_mul, q_dec, q_ix, q_m1, q_m1', ↓q_ret, q_bool, q_bool1, q_u2, q_u1, q_shl1, q_shr, q_and7, q_dg, fa_or, fa_and, decide_true, decide_false, Bool.or_false, Bool.or_true, Bool.true_or, Bool.false_or, cond_true, cond_false, ite_not, q_some, q_nn, q_xor, q_xorm, Bool.false_eq_true, decide_eq_true_eq, ne_eq, l_0, l_1, l_2, l_3, l_4, l_6, l_7, l_8, l_9, l_11, l_12, l_14, l_16, l_18, l_19, l_20, l_22, l_25, l_30, l_31, l_44, l_59, l_62, l_81, l_100, l_115, l_118, l_128, l_129, l_134, l_135, l_136, l_137, l_166, l_194, l_195, l_206, hk, hq, c1, cond_true, hh, hm, t0, t1, t6, t7, t8, t9, hs1, hs2, fa1, kf, hfa14, fp, fo, hi7]
      have hsT : sTrust g p o gap = decide (evk (wT g p o gap) (cdl g 1) (g 9) = [nI 1]) := by
        unfold sTrust
        apply decide_eq_decide.mpr
        exact ⟨fun z => z.resolve_left h5, Or.inr⟩
      -- what is kept then
      have kept : ∀ v : Int32, (∀ j, j < 16 → v.toBitVec.getLsbD j = if j = gap then sTrust g p o gap else (i 19 (p * 4 + o)).toBitVec.getLsbD j) → TV (am_u2 (am_u1 i8 13 f) 19 (p * 4 + o) v) g ∧ (am_u2 (am_u1 i8 13 f) 19 (p * 4 + o) v 18 (p * 4 + o)).toBitVec.getLsbD gap = true := by
        intro v hv
        have e18 : ∀ k, am_u2 (am_u1 i8 13 f) 19 (p * 4 + o) v 18 k = if k = p * 4 + o then i 18 (p * 4 + o) ||| nI (2 ^ gap) else i 18 k := fun k => by
          show i8 18 k = _
          rw [← hi8]
          show (if k = p * 4 + o then i7 18 (p * 4 + o) ||| nI (2 ^ gap) else i7 18 k) = _
          rw [h18]
        have e19 : ∀ k, am_u2 (am_u1 i8 13 f) 19 (p * 4 + o) v 19 k = if k = p * 4 + o then v else i 19 k := fun k => by
          show (if k = p * 4 + o then v else i8 19 k) = _
          rw [← hi8, ← h19]
          rfl
        refine ⟨fun _ p' q' gap' hp' hq' hg' hb' => ?_, ?_⟩
        · rw [e18] at hb'
          rw [e19]
          by_cases ek : p' * 4 + q' = p * 4 + o
          · have ep : p' = p := by omega
            have eq : q' = o := by omega
            subst ep; subst eq
            rw [if_pos rfl] at hb' ⊢
            rw [hv gap' hg']
            rw [x_orb _ (by omega) (by omega)] at hb'
            by_cases eg : gap' = gap
            · rw [if_pos eg, eg]
            · rw [if_neg eg]
              rw [decide_eq_false eg, Bool.or_false] at hb'
              exact hT h5 _ _ _ hp' hq' hg' hb'
          · rw [if_neg ek] at hb' ⊢
            exact hT h5 _ _ _ hp' hq' hg' hb'
        · rw [e18, if_pos rfl, x_orb _ (by omega) (by omega), decide_eq_true rfl, Bool.or_true]
      have hg31 : gap < 31 := by omega
      have hpo : p * 4 + o < 16 := by omega
      have exr : nI (2 ^ gap ^^^ 4294967295) = nI (2 ^ gap) ^^^ (-1 : Int32) := by
        apply Int32.toBitVec_inj.mp
        rw [Int32.toBitVec_xor]
        apply BitVec.eq_of_toNat_eq
        rw [BitVec.toNat_xor]
        show (BitVec.ofNat 32 (2 ^ gap ^^^ 4294967295)).toNat = (BitVec.ofNat 32 (2 ^ gap)).toNat ^^^ 4294967295
        have h31 : 2 ^ gap < 2 ^ 32 := Nat.pow_lt_pow_right (by decide) (by omega)
        rw [BitVec.toNat_ofNat, BitVec.toNat_ofNat, Nat.mod_eq_of_lt h31, Nat.mod_eq_of_lt (Nat.xor_lt_two_pow h31 (by decide))]
      have h1918 : i8 19 (p * 4 + o) = i 19 (p * 4 + o) := by
        rw [← hi8, ← h19]
        rfl
      rw [b_Ford_trusting_129]
      by_cases hev : evk (wT g p o gap) (cdl g 1) (g 9) = [nI 1]
      · rw [if_pos hev] at hres
        obtain ⟨k1, k2⟩ := kept (i 19 (p * 4 + o) ||| nI (2 ^ gap)) (fun j hj => by
          rw [x_orb _ hg31 (by omega), hsT, decide_eq_true hev]
          by_cases eg : j = gap
          · rw [if_pos eg, decide_eq_true eg, Bool.or_true]
          · rw [if_neg eg, decide_eq_false eg, Bool.or_false])
        simp (disch := first | assumption | omega) only [b_Ford_trusting_0, b_Ford_trusting_30, b_Ford_trusting_44, b_Ford_trusting_59, b_Ford_trusting_62, b_Ford_trusting_81, b_Ford_trusting_100, b_Ford_trusting_115, b_Ford_trusting_118, b_Ford_trusting_129, b_Ford_trusting_166, b_Ford_trusting_194, b_Ford_trusting_206, s_Law_isTrue, s_Law_tell, s_X_hasBit, s_X_hasBit', s_X_strengthOf, ↓Bool.cond_decide, ↓q_in, q_le, q_lt, q_eq, q_leT, q_leF, q_ltT, q_ltF, q_eqT, q_eqF, ↓reduceIte, not_true_eq_false, not_false_eq_true, true_and, and_true, and_self, false_and, and_false, Nat.zero_le, am_bd_some, q_app, q_app0, nI_add, pk_sub, pk_mul, q_dec, q_ix, q_m1, q_m1', ↓q_ret, q_bool, q_bool1, q_u1, q_shl1, q_shr, q_and7, q_dg, fa_or, fa_and, decide_true, decide_false, Bool.or_false, Bool.or_true, Bool.true_or, Bool.false_or, cond_true, cond_false, ite_not, q_some, q_nn, q_xor, q_xorm, Bool.false_eq_true, decide_eq_true_eq, ne_eq, l_0, l_1, l_2, l_3, l_4, l_6, l_7, l_8, l_9, l_11, l_12, l_14, l_16, l_18, l_19, l_20, l_22, l_25, l_30, l_31, l_44, l_59, l_62, l_81, l_100, l_115, l_118, l_128, l_129, l_134, l_135, l_136, l_137, l_166, l_194, l_195, l_206, hk, hq, c1, cond_true, hi8, hres, h1918]
        exact tail _ _ _ _ (Fr_u2 rfl (Fr_u1 rfl hfr8)) k1 k2
      · rw [if_neg hev] at hres
        obtain ⟨k1, k2⟩ := kept (i 19 (p * 4 + o) &&& (nI (2 ^ gap) ^^^ (-1 : Int32))) (fun j hj => by
          rw [x_anb _ hg31 (by omega), hsT, decide_eq_false hev]
          by_cases eg : j = gap
          · rw [if_pos eg, decide_eq_true eg]; simp
          · rw [if_neg eg, decide_eq_false eg]; simp)
        simp (disch := first | assumption | omega) only [b_Ford_trusting_0, b_Ford_trusting_30, b_Ford_trusting_44, b_Ford_trusting_59, b_Ford_trusting_62, b_Ford_trusting_81, b_Ford_trusting_100, b_Ford_trusting_115, b_Ford_trusting_118, b_Ford_trusting_129, b_Ford_trusting_166, b_Ford_trusting_194, b_Ford_trusting_206, s_Law_isTrue, s_Law_tell, s_X_hasBit, s_X_hasBit', s_X_strengthOf, ↓Bool.cond_decide, ↓q_in, q_le, q_lt, q_eq, q_leT, q_leF, q_ltT, q_ltF, q_eqT, q_eqF, ↓reduceIte, not_true_eq_false, not_false_eq_true, true_and, and_true, and_self, false_and, and_false, Nat.zero_le, am_bd_some, q_app, q_app0, nI_add, pk_sub, pk_mul, q_dec, q_ix, q_m1, q_m1', ↓q_ret, q_bool, q_bool1, q_u1, q_shl1, q_shr, q_and7, q_dg, fa_or, fa_and, decide_true, decide_false, Bool.or_false, Bool.or_true, Bool.true_or, Bool.false_or, cond_true, cond_false, ite_not, q_some, q_nn, q_xor, q_xorm, Bool.false_eq_true, decide_eq_true_eq, ne_eq, l_0, l_1, l_2, l_3, l_4, l_6, l_7, l_8, l_9, l_11, l_12, l_14, l_16, l_18, l_19, l_20, l_22, l_25, l_30, l_31, l_44, l_59, l_62, l_81, l_100, l_115, l_118, l_128, l_129, l_134, l_135, l_136, l_137, l_166, l_194, l_195, l_206, hk, hq, c1, cond_true, hi8, hres, h1918]
        rw [exr]
        exact tail _ _ _ _ (Fr_u2 rfl (Fr_u1 rfl hfr8)) k1 k2
end
