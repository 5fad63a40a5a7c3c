/-! THE CLASS: holding, kept as bits -/
theorem x_xr {k : Nat} (hk : k < 31) : nI (2 ^ k ^^^ 4294967295) = nI (2 ^ k) ^^^ (-1 : Int32) := (q_xorm (2 ^ k)).symm
def HV (i : Nat → Nat → Int32) (g : Nat → Nat) : Prop := ∀ p x b w, p < 4 → 1 ≤ x → x ≤ 6 → b < 4 → w < 16 → (i 20 ((p * 8 + x) * 4 + b)).toBitVec.getLsbD w = true → (i 21 ((p * 8 + x) * 4 + b)).toBitVec.getLsbD w = sWould g p (g (22 + p)) x b w
section
variable {i : Nat → Nat → Int32} {l : Nat → Nat → Int64} {q : Nat → Nat → Option Nat} {K : List (Nat × Nat)} {r : Nat} {g : Nat → Nat}
theorem r_Ford_holding (d : Nat) {m p x b w : Nat} (hV : RV (i, l, rX q, kX K) r g) (hL : LW g 0) (hq : rX q 11 1 = some r) (hm : l 11 2 = lN m) (hM : RM m (gCur g)) (hp : p < 4) (hx1 : 1 ≤ x) (hx6 : x ≤ 6) (hb : b < 4) (hw : w < 16) (hs : g (22 + p) < 1000) (hH : HV i g) : XR q K (some (.int (if sWould g p (g (22 + p)) x b w = true then nI 1 else nI 0))) (fun i' l' => l' = l ∧ Fr [13, 14, 20, 21] i i' ∧ HV i' g) (am_cl (d + 3) mFord_holding [.ref 11, .int (nI p), .int (nI x), .int (nI b), .int (nI w)] (i, l, rX q, kX K)) := by
  refine XR_q ?_
  intro Q hQ
  rw [c_Ford_holding, b_Ford_holding_0]
  have hA : (p * 8 + x) * 4 + b < 128 := by omega
  have hinj : ∀ p' x' b', x' ≤ 6 → b' < 4 → (p' * 8 + x') * 4 + b' = (p * 8 + x) * 4 + b → p' = p ∧ x' = x ∧ b' = b := by omega
  have tail : ∀ i' z1 z2 z3 z6 z7, Fr [13, 14, 20, 21] i i' → HV i' g → (i' 20 ((p * 8 + x) * 4 + b)).toBitVec.getLsbD w = true → XR q K (some (.int (if sWould g p (g (22 + p)) x b w = true then nI 1 else nI 0))) Q (am_Ex (d + 2) mFord_holding 101 [.val (.ref 11), z1, z2, z3, .val (.int (nI w)), .val (.int (nI ((p * 8 + x) * 4 + b))), z6, z7] [] (i', l, rX q, kX K)) := by
    intro i' z1 z2 z3 z6 z7 hf' hH' hb'
    have hh := s_X_hasBit (d + 1) (i' 21 ((p * 8 + x) * 4 + b)) (k := w) (by omega) (i', l, rX q, kX K)
    rw [hH' p x b w hp hx1 hx6 hb hw hb'] at hh
    rw [b_Ford_holding_101]
    cases hst : sWould g p (g (22 + p)) x b w with
    | true =>
      rw [hst] at hh
      simp (disch := first | assumption | omega) only [b_Ford_holding_0, b_Ford_holding_24, b_Ford_holding_55, b_Ford_holding_62, b_Ford_holding_100, b_Ford_holding_101, b_Ford_holding_113, s_X_hasBit', s_X_strengthOf, ↓Bool.cond_decide, ↓q_in, q_le, q_lt, q_eq, q_leT, q_leF, q_ltT, q_ltF, q_eqT, q_eqF, ↓reduceIte, not_true_eq_false, not_false_eq_true, true_and, and_true, and_self, false_and, and_false, Nat.zero_le, am_bd_some, q_app, q_app0, nI_add, pk_sub, pk_mul, q_dec, q_ix, q_m1, q_m1', ↓q_ret, q_bool, q_bool1, q_u2, q_u1, q_shl1, q_shr, q_and7, q_dg, fa_or, fa_and, decide_true, decide_false, Bool.or_false, Bool.or_true, Bool.true_or, Bool.false_or, cond_true, cond_false, ite_not, q_some, q_nn, q_xor, q_xorm, Bool.false_eq_true, decide_eq_true_eq, ne_eq, l_0, l_1, l_2, l_3, l_4, l_6, l_8, l_11, l_18, l_20, l_21, l_22, l_24, l_25, l_31, l_55, l_62, l_100, l_101, l_113, l_128, hh]
      exact XR_some (hQ _ _ ⟨rfl, hf', hH'⟩)
    | false =>
      rw [hst] at hh
      simp (disch := first | assumption | omega) only [b_Ford_holding_0, b_Ford_holding_24, b_Ford_holding_55, b_Ford_holding_62, b_Ford_holding_100, b_Ford_holding_101, b_Ford_holding_113, s_X_hasBit', s_X_strengthOf, ↓Bool.cond_decide, ↓q_in, q_le, q_lt, q_eq, q_leT, q_leF, q_ltT, q_ltF, q_eqT, q_eqF, ↓reduceIte, not_true_eq_false, not_false_eq_true, true_and, and_true, and_self, false_and, and_false, Nat.zero_le, am_bd_some, q_app, q_app0, nI_add, pk_sub, pk_mul, q_dec, q_ix, q_m1, q_m1', ↓q_ret, q_bool, q_bool1, q_u2, q_u1, q_shl1, q_shr, q_and7, q_dg, fa_or, fa_and, decide_true, decide_false, Bool.or_false, Bool.or_true, Bool.true_or, Bool.false_or, cond_true, cond_false, ite_not, q_some, q_nn, q_xor, q_xorm, Bool.false_eq_true, decide_eq_true_eq, ne_eq, l_0, l_1, l_2, l_3, l_4, l_6, l_8, l_11, l_18, l_20, l_21, l_22, l_24, l_25, l_31, l_55, l_62, l_100, l_101, l_113, l_128, hh]
      exact XR_some (hQ _ _ ⟨rfl, hf', hH'⟩)
  have hh := s_X_hasBit (d + 1) (i 20 ((p * 8 + x) * 4 + b)) (k := w) (by omega) (i, l, rX q, kX K)
  cases hbt : (i 20 ((p * 8 + x) * 4 + b)).toBitVec.getLsbD w with
  | true =>
    rw [hbt] at hh
    simp (disch := first | assumption | omega) only [b_Ford_holding_0, b_Ford_holding_24, b_Ford_holding_55, b_Ford_holding_62, b_Ford_holding_100, b_Ford_holding_113, s_X_hasBit', s_X_strengthOf, ↓Bool.cond_decide, ↓q_in, q_le, q_lt, q_eq, q_leT, q_leF, q_ltT, q_ltF, q_eqT, q_eqF, ↓reduceIte, not_true_eq_false, not_false_eq_true, true_and, and_true, and_self, false_and, and_false, Nat.zero_le, am_bd_some, q_app, q_app0, nI_add, pk_sub, pk_mul, q_dec, q_ix, q_m1, q_m1', ↓q_ret, q_bool, q_bool1, q_u2, q_u1, q_shl1, q_shr, q_and7, q_dg, fa_or, fa_and, decide_true, decide_false, Bool.or_false, Bool.or_true, Bool.true_or, Bool.false_or, cond_true, cond_false, ite_not, q_some, q_nn, q_xor, q_xorm, Bool.false_eq_true, decide_eq_true_eq, ne_eq, l_0, l_1, l_2, l_3, l_4, l_6, l_8, l_11, l_18, l_20, l_21, l_22, l_24, l_25, l_31, l_55, l_62, l_100, l_101, l_113, l_128, hh]
    exact tail i _ _ _ _ _ (Fr_refl _ _) hH hbt
  | false =>
    rw [hbt] at hh
    have hm2 := hM.1
    have hs1 := fun s => s_X_strengthOf (d + 1) (m := m) (p := p) (by omega) (by omega) s
    rw [hM.2.2.1 p hp, show gCur g (4 + p) = g (22 + p) by unfold gCur; congr 1; omega] at hs1
    have hdp : dpm m (x - 1) = g (25 + x) := by
      rw [hM.2.2.2 (x - 1) (by omega)]
      unfold gCur; congr 1; omega
    obtain ⟨i7, hi7⟩ : ∃ i7, am_u2 i 20 ((p * 8 + x) * 4 + b) (i 20 ((p * 8 + x) * 4 + b) ||| nI (2 ^ w)) = i7 := ⟨_, rfl⟩
    have hfr : Fr [13, 14, 20, 21] i i7 := by rw [← hi7]; exact Fr_u2 rfl (Fr_refl _ _)
    have hV7 : RV (i7, l, rX q, kX K) r g := RV_fr hfr rfl hV
    obtain ⟨i8, l8, e8, hl8, hf8⟩ := r_Ford_wouldHold (i := i7) (l := l) d (m := m) (p := p) (str := g (22 + p)) (x := x) (bes := b) (water := w) hV7 hL hq hm hm2 hdp hx1 hx6 hs (by omega)
    subst hl8
    have hfr8 : Fr [13, 14, 20, 21] i i8 := Fr_step hf8 rfl hfr
    have h820 : i8 20 = i7 20 := hf8 20 rfl
    have h821 : i8 21 = i 21 := by rw [hf8 21 rfl, ← hi7]; rfl
    have kept : ∀ v : Int32, (∀ j, j < 16 → v.toBitVec.getLsbD j = if j = w then sWould g p (g (22 + p)) x b w else (i 21 ((p * 8 + x) * 4 + b)).toBitVec.getLsbD j) → HV (am_u2 i8 21 ((p * 8 + x) * 4 + b) v) g ∧ (am_u2 i8 21 ((p * 8 + x) * 4 + b) v 20 ((p * 8 + x) * 4 + b)).toBitVec.getLsbD w = true := by
      intro v hv
      have e20 : ∀ k, am_u2 i8 21 ((p * 8 + x) * 4 + b) v 20 k = if k = (p * 8 + x) * 4 + b then i 20 ((p * 8 + x) * 4 + b) ||| nI (2 ^ w) else i 20 k := fun k => by
        show i8 20 k = _
        rw [h820, ← hi7]
        rfl
      have e21 : ∀ k, am_u2 i8 21 ((p * 8 + x) * 4 + b) v 21 k = if k = (p * 8 + x) * 4 + b then v else i 21 k := fun k => by
        show (if k = (p * 8 + x) * 4 + b then v else i8 21 k) = _
        rw [h821]
      refine ⟨fun p' x' b' w' hp' hx1' hx6' hb2 hw' hb' => ?_, ?_⟩
      · rw [e20] at hb'
        rw [e21]
        by_cases ek : (p' * 8 + x') * 4 + b' = (p * 8 + x) * 4 + b
        · obtain ⟨rfl, rfl, rfl⟩ := hinj p' x' b' hx6' hb2 ek
          rw [if_pos rfl] at hb' ⊢
          rw [hv w' hw']
          rw [x_orb _ (by omega) (by omega)] at hb'
          by_cases eg : w' = w
          · rw [if_pos eg, eg]
          · rw [if_neg eg]
            rw [decide_eq_false eg, Bool.or_false] at hb'
            exact hH _ _ _ _ hp' hx1' hx6' hb2 hw' hb'
        · rw [if_neg ek] at hb' ⊢
          exact hH _ _ _ _ hp' hx1' hx6' hb2 hw' hb'
      · rw [e20, if_pos rfl, x_orb _ (by omega) (by omega), decide_eq_true rfl, Bool.or_true]
    have hw31 : w < 31 := by omega
    have h8 : i8 21 ((p * 8 + x) * 4 + b) = i 21 ((p * 8 + x) * 4 + b) := by rw [h821]
    cases hst : sWould g p (g (22 + p)) x b w with
    | true =>
      rw [hst] at e8 kept tail
      obtain ⟨k1, k2⟩ := kept (i 21 ((p * 8 + x) * 4 + b) ||| nI (2 ^ w)) (fun j hj => by
        rw [x_orb _ hw31 (by omega)]
        by_cases eg : j = w
        · rw [if_pos eg, decide_eq_true eg, Bool.or_true]
        · rw [if_neg eg, decide_eq_false eg, Bool.or_false])
      simp (disch := first | assumption | omega) only [b_Ford_holding_0, b_Ford_holding_24, b_Ford_holding_55, b_Ford_holding_62, b_Ford_holding_100, b_Ford_holding_113, s_X_hasBit', ↓Bool.cond_decide, ↓q_in, q_le, q_lt, q_eq, q_leT, q_leF, q_ltT, q_ltF, q_eqT, q_eqF, ↓reduceIte, not_true_eq_false, not_false_eq_true, true_and, and_true, and_self, false_and, and_false, Nat.zero_le, am_bd_some, q_app, q_app0, nI_add, pk_sub, pk_mul, q_dec, q_ix, q_m1, q_m1', ↓q_ret, q_bool, q_bool1, q_u1, q_shl1, q_shr, q_and7, q_dg, fa_or, fa_and, decide_true, decide_false, Bool.or_false, Bool.or_true, Bool.true_or, Bool.false_or, cond_true, cond_false, ite_not, q_some, q_nn, q_xor, q_xorm, Bool.false_eq_true, decide_eq_true_eq, ne_eq, l_0, l_1, l_2, l_3, l_4, l_6, l_8, l_11, l_18, l_20, l_21, l_22, l_24, l_25, l_31, l_55, l_62, l_100, l_101, l_113, l_128, hh, hm, hs1, hi7, e8, h8]
      exact tail _ _ _ _ _ _ (Fr_u2 rfl hfr8) k1 k2
    | false =>
      rw [hst] at e8 kept tail
      obtain ⟨k1, k2⟩ := kept (i 21 ((p * 8 + x) * 4 + b) &&& (nI (2 ^ w) ^^^ (-1 : Int32))) (fun j hj => by
        rw [x_anb _ hw31 (by omega)]
        by_cases eg : j = w
        · rw [if_pos eg, decide_eq_true eg]; simp
        · rw [if_neg eg, decide_eq_false eg]; simp)
      simp (disch := first | assumption | omega) only [b_Ford_holding_0, b_Ford_holding_24, b_Ford_holding_55, b_Ford_holding_62, b_Ford_holding_100, b_Ford_holding_113, s_X_hasBit', ↓Bool.cond_decide, ↓q_in, q_le, q_lt, q_eq, q_leT, q_leF, q_ltT, q_ltF, q_eqT, q_eqF, ↓reduceIte, not_true_eq_false, not_false_eq_true, true_and, and_true, and_self, false_and, and_false, Nat.zero_le, am_bd_some, q_app, q_app0, nI_add, pk_sub, pk_mul, q_dec, q_ix, q_m1, q_m1', ↓q_ret, q_bool, q_bool1, q_u1, q_shl1, q_shr, q_and7, q_dg, fa_or, fa_and, decide_true, decide_false, Bool.or_false, Bool.or_true, Bool.true_or, Bool.false_or, cond_true, cond_false, ite_not, q_some, q_nn, q_xor, q_xorm, Bool.false_eq_true, decide_eq_true_eq, ne_eq, l_0, l_1, l_2, l_3, l_4, l_6, l_8, l_11, l_18, l_20, l_21, l_22, l_24, l_25, l_31, l_55, l_62, l_100, l_101, l_113, l_128, hh, hm, hs1, hi7, e8, h8]
      rw [x_xr hw31]
      exact tail _ _ _ _ _ _ (Fr_u2 rfl hfr8) k1 k2
end
