/-! THE CLASS: felt -/
theorem bs_1023 : bs (fun _ => true) 10 = 1023 := by decide
theorem bc_and {m : Nat} {f : Nat → Bool} {n : Nat} : ∀ k, k ≤ n → bc (m &&& bs f n) k = bc (bs (fun s => m.testBit s && f s) k) k
  | 0, _ => rfl
  | k + 1, hk => by
    have ih := bc_and (m := m) (f := f) (n := n) k (by omega)
    have lo : ∀ j (h : Nat → Bool), j ≤ k → bc (bs h (k + 1)) j = bc (bs h k) j := by
      intro j h
      induction j with
      | zero => intro _; rfl
      | succ j ihj =>
        intro hj
        rw [bc, bc, ihj (by omega), x_b2, x_b2, bs_bit, bs_bit, decide_eq_true (show j < k + 1 by omega), decide_eq_true (show j < k by omega)]
    rw [bc, bc, ih, lo k _ (Nat.le_refl _), x_b2, x_b2, Nat.testBit_and, bs_bit, bs_bit, decide_eq_true (show k < n by omega), decide_eq_true (show k < k + 1 by omega), Bool.true_and, Bool.true_and]
theorem hC_e (g : Nat → Nat) (m p w : Nat) : ∀ n, hC g m p w n = bc (bs (fun s => m.testBit s && sHold g (sNow g 4) p s w) n) n
  | 0 => rfl
  | n + 1 => by
    have lo : ∀ j (h : Nat → Bool), j ≤ n → bc (bs h (n + 1)) j = bc (bs h n) j := by
      intro j h
      induction j with
      | zero => intro _; rfl
      | succ j ihj =>
        intro hj
        rw [bc, bc, ihj (by omega), x_b2, x_b2, bs_bit, bs_bit, decide_eq_true (show j < n + 1 by omega), decide_eq_true (show j < n by omega)]
    rw [hC, hC_e g m p w n, bc, lo n _ (Nat.le_refl _), x_b2, bs_bit, decide_eq_true (show n < n + 1 by omega), Bool.true_and]
    simp only [Bool.and_eq_true]
theorem hC_bc (g : Nat → Nat) (m p w : Nat) : bc (m &&& bs (fun s => sHold g (sNow g 4) p s w) 10) 10 = hC g m p w 10 := by
  rw [hC_e, bc_and 10 (Nat.le_refl _)]
/-- the JDK's way to count bits -/
def ju (x k : Int32) : Int32 := (Int32.toUInt32 x >>> (Int32.toUInt32 k &&& Int32.toUInt32 31)).toInt32
def j1 (x : Int32) : Int32 := x - (ju x 1 &&& (1431655765 : Int32))
def j2 (y : Int32) : Int32 := (y &&& (858993459 : Int32)) + (ju y 2 &&& (858993459 : Int32))
def j3 (y : Int32) : Int32 := (y + ju y 4) &&& (252645135 : Int32)
def j4 (y : Int32) : Int32 := y + ju y 8
def j5 (y : Int32) : Int32 := y + ju y 16
def jbc (x : Int32) : Int32 := j5 (j4 (j3 (j2 (j1 x)))) &&& 63
theorem jbc_ok : ∀ x, x < 1024 → jbc (nI x) = nI (bc x 10) := by decide +kernel
theorem s_J_bitCount (d : Nat) {x : Nat} (hx : x < 1024) (s : aM) : am_cl (d + 1) mJ_bitCount [.int (nI x)] s = some (some (.int (nI (bc x 10))), s) := by
  obtain ⟨i, l, q, K⟩ := s
  rw [c_J_bitCount, b_J_bitCount_0, ← jbc_ok x hx]
  rfl
section
variable {i i' : Nat → Nat → Int32} {l l' : Nat → Nat → Int64} {q q' : Nat → Nat → Option Nat} {K : List (Nat × Nat)} {r m : Nat} {g : Nat → Nat} {ρ : Nat → Nat → Nat}
theorem y_strengthsHolding (d : Nat) {p w : Nat} (hC : CV ρ r g m i l q K) (hF : XF ρ i l q K) (hp : p < g 2) (hw : w < 1000) (hsp : sSpot g (g (18 + p)) = true) : YR ρ K i l q (some (.int (nI (bs (fun s => sHold g (sNow g 4) p s w) 10)))) (am_cl (d + 5) mX_strengthsHolding [.ref 0, .int (nI p), .int (nI w)] (i, l, rX q, kX K)) := by
  rw [c_X_strengthsHolding, b_X_strengthsHolding_0]
  refine am_loop (d := d + 4) (y := mX_strengthsHolding) (pc := 5) (fun k ls s => ∃ i1 l1 q1, ls = [.val (.ref 0), .val (.int (nI p)), .val (.int (nI w)), .val (.int (nI (bs (fun s => sHold g (sNow g 4) p s w) k))), .val (.int (nI k))] ∧ s = (i1, l1, rX q1, kX K) ∧ FG RF [11] [11] i i1 l l1 q q1 ∧ XF ρ i1 l1 q1 K) 10 _ (fun k ls s hk hI => ?_) (fun ls s hI => ?_) ⟨i, l, q, rfl, rfl, FG_refl _ _ _ _ _ _, hF⟩
  · obtain ⟨i1, l1, q1, e1, e2, hf1, hF1⟩ := hI
    subst e1; subst e2
    obtain ⟨i2, l2, q2, e2, hf2, hF2⟩ := y_holdsWith d (p := p) (s := k) (w := w) (CV_ff hf1 hC) hF1 hp (by omega) hw hsp
    have hff := FG_tr hf1 hf2 rfl rfl rfl
    rw [b_X_strengthsHolding_5]
    cases ht : sHold g (sNow g 4) p k w with
    | true =>
      rw [ht] at e2
      simp (disch := first | assumption | omega) only [b_X_strengthsHolding_0, b_X_strengthsHolding_20, b_X_strengthsHolding_30, ↓Bool.cond_decide, ↓q_in, q_le, q_lt, q_eq, q_leT, q_leF, q_ltT, q_ltF, q_eqT, q_eqF, ↓reduceIte, not_true_eq_false, not_false_eq_true, true_and, and_true, and_self, false_and, and_false, Nat.zero_le, am_bd_some, q_app, q_app0, nI_add, pk_sub, pk_mul, q_dec, q_ix, q_m1, q_m1', ↓q_ret, q_bool, q_bool1, q_u2, q_u1, q_shl1, q_shr, q_and7, q_dg, fa_or, fa_and, decide_true, decide_false, Bool.or_false, Bool.or_true, Bool.true_or, Bool.false_or, cond_true, cond_false, ite_not, q_some, q_nn, q_xor, q_xorm, Bool.false_eq_true, decide_eq_true_eq, ne_eq, l_0, l_1, l_5, l_7, l_9, l_11, l_12, l_20, l_30, l_31, e2]
      exact Go_in ⟨i2, l2, q2, by rw [bs, ht]; rfl, rfl, hff, hF2⟩
    | false =>
      rw [ht] at e2
      simp (disch := first | assumption | omega) only [b_X_strengthsHolding_0, b_X_strengthsHolding_20, b_X_strengthsHolding_30, ↓Bool.cond_decide, ↓q_in, q_le, q_lt, q_eq, q_leT, q_leF, q_ltT, q_ltF, q_eqT, q_eqF, ↓reduceIte, not_true_eq_false, not_false_eq_true, true_and, and_true, and_self, false_and, and_false, Nat.zero_le, am_bd_some, q_app, q_app0, nI_add, pk_sub, pk_mul, q_dec, q_ix, q_m1, q_m1', ↓q_ret, q_bool, q_bool1, q_u2, q_u1, q_shl1, q_shr, q_and7, q_dg, fa_or, fa_and, decide_true, decide_false, Bool.or_false, Bool.or_true, Bool.true_or, Bool.false_or, cond_true, cond_false, ite_not, q_some, q_nn, q_xor, q_xorm, Bool.false_eq_true, decide_eq_true_eq, ne_eq, l_0, l_1, l_5, l_7, l_9, l_11, l_12, l_20, l_30, l_31, e2]
      exact Go_in ⟨i2, l2, q2, by rw [bs, ht]; simp, rfl, hff, hF2⟩
  · obtain ⟨i1, l1, q1, e1, e2, hf1, hF1⟩ := hI
    subst e1; subst e2
    rw [b_X_strengthsHolding_5]
    simp (disch := first | assumption | omega) only [b_X_strengthsHolding_0, b_X_strengthsHolding_20, b_X_strengthsHolding_30, ↓Bool.cond_decide, ↓q_in, q_le, q_lt, q_eq, q_leT, q_leF, q_ltT, q_ltF, q_eqT, q_eqF, ↓reduceIte, not_true_eq_false, not_false_eq_true, true_and, and_true, and_self, false_and, and_false, Nat.zero_le, am_bd_some, q_app, q_app0, nI_add, pk_sub, pk_mul, q_dec, q_ix, q_m1, q_m1', ↓q_ret, q_bool, q_bool1, q_u2, q_u1, q_shl1, q_shr, q_and7, q_dg, fa_or, fa_and, decide_true, decide_false, Bool.or_false, Bool.or_true, Bool.true_or, Bool.false_or, cond_true, cond_false, ite_not, q_some, q_nn, q_xor, q_xorm, Bool.false_eq_true, decide_eq_true_eq, ne_eq, l_0, l_1, l_5, l_7, l_9, l_11, l_12, l_20, l_30, l_31]
    exact YR_some hf1 hF1
theorem y_feltStrengths (d : Nat) {p t n : Nat} {f : Nat → Int64} (hC : CV ρ r g m i l q K) (hF : XF ρ i l q K) (hp : p < g 2) (hsp : sSpot g (g (18 + p)) = true) (ht : t < 4) (hn40 : n ≤ 40) (hT : TF t n f i l) (hv : ∀ k, k < n → 0 ≤ (f k).toInt ∧ (f k).toInt ≤ 19) : YR ρ K i l q (some (.int (nI (bs (fun s => fAll (fun k => fFit g (f k) p s) n) 10)))) (am_cl (d + 6) mX_feltStrengths [.ref 0, .ref (50 + 2 * t), .int (nI p)] (i, l, rX q, kX K)) := by
  have hk50 : ∀ i1 l1 q1, Nat.beq (am_kd (i1, l1, rX q1, kX K) (50 + 2 * t)) 10 = true := fun _ _ _ => tk50 ht
  rw [c_X_feltStrengths, b_X_feltStrengths_0]
  refine am_loop (d := d + 5) (y := mX_feltStrengths) (pc := 7) (fun k ls s => ∃ i1 l1 q1 z5 z6, ls = [.val (.ref 0), .val (.ref (50 + 2 * t)), .val (.int (nI p)), .val (.int (nI (bs (fun s => fAll (fun k => fFit g (f k) p s) k) 10))), .val (.int (nI k)), z5, z6] ∧ s = (i1, l1, rX q1, kX K) ∧ FG RF [11] [11] i i1 l l1 q q1 ∧ XF ρ i1 l1 q1 K) n _ (fun k ls s hk hI => ?_) (fun ls s hI => ?_) ⟨i, l, q, _, _, by rw [show bs (fun s => fAll (fun k => fFit g (f k) p s) 0) 10 = 1023 from bs_1023]; rfl, rfl, FG_refl _ _ _ _ _ _, hF⟩
  · obtain ⟨i1, l1, q1, z5, z6, e1, e2, hf1, hF1⟩ := hI
    subst e1; subst e2
    have hT1 := TF_ff hf1 rfl rfl ht hT
    have hn := hT1.1
    have hat := s_Tray_at (i := i1) (l := l1) (q := q1) (K := K) (d + 4) (k := k) ht (by omega)
    rw [hT1.2 k hk] at hat
    obtain ⟨v, hv1, hv2⟩ : ∃ v, f k = lN v ∧ v ≤ 19 := by
      refine ⟨(f k).toInt.toNat, ?_, by have := hv k hk; omega⟩
      have := hv k hk
      rw [fa_eq64, pk_lT (by omega)]
      omega
    have hvn : (f k).toInt.toNat = v := by rw [hv1, pk_lT (by omega)]; rfl
    have e2 : nI v / (2 : Int32) = nI (v / 2) := pk_div (d := 2) (by omega) (by decide) (by decide)
    have r2 : nI v - nI (v / 2) * (2 : Int32) = nI (v % 2) := by rw [← e2]; exact pk_rem (d := 2) (by omega) (by decide) (by decide)
    obtain ⟨i2, l2, q2, e3, hf2, hF2⟩ := y_strengthsHolding d (p := p) (w := v / 2) (CV_ff hf1 hC) hF1 hp (by omega) hsp
    have hff := FG_tr hf1 hf2 rfl rfl rfl
    rw [b_X_feltStrengths_7]
    rw [hv1] at hat
    simp (disch := first | assumption | omega) only [b_X_feltStrengths_0, b_X_feltStrengths_34, b_X_feltStrengths_54, ↓Bool.cond_decide, ↓q_in, q_le, q_lt, q_eq, q_leT, q_leF, q_ltT, q_ltF, q_eqT, q_eqF, ↓reduceIte, not_true_eq_false, not_false_eq_true, true_and, and_true, and_self, false_and, and_false, Nat.zero_le, am_bd_some, q_app, q_app0, nI_add, pk_sub, pk_mul, q_dec, q_ix, q_m1, q_m1', ↓q_ret, q_bool, q_bool1, q_u2, q_u1, q_shl1, q_shr, q_and7, q_dg, fa_or, fa_and, decide_true, decide_false, Bool.or_false, Bool.or_true, Bool.true_or, Bool.false_or, cond_true, cond_false, ite_not, q_some, q_nn, q_xor, q_xorm, Bool.false_eq_true, decide_eq_true_eq, ne_eq, l_0, l_1, l_2, l_7, l_10, l_11, l_16, l_22, l_34, l_54, l_1023, hk50, hn, hat, cond_true, Bool.and_true]
    rw [b_X_feltStrengths_22, x_l2i, e2, e3, am_bd_some, q_app, b_X_feltStrengths_34, e2, r2]
    have fit : ∀ s, fAll (fun k => fFit g (f k) p s) (k + 1) = (fAll (fun k => fFit g (f k) p s) k && decide (sHold g (sNow g 4) p s (v / 2) = decide (v % 2 = 1))) := by
      intro s
      rw [fAll]
      unfold fFit
      rw [hvn]
    by_cases c : v % 2 = 1
    · rw [c, show decide (¬ nI 1 = (1 : Int32)) = false from rfl, cond_false, b_X_feltStrengths_54, fa_and, show nI k + (1 : Int32) = nI (k + 1) from nI_add k 1]
      have : bs (fun s => fAll (fun k => fFit g (f k) p s) k) 10 &&& bs (fun s => sHold g (sNow g 4) p s (v / 2)) 10 = bs (fun s => fAll (fun k => fFit g (f k) p s) (k + 1)) 10 := by
        apply Nat.eq_of_testBit_eq
        intro j
        rw [Nat.testBit_and, bs_bit, bs_bit, bs_bit, fit, decide_eq_true c]
        by_cases hj : j < 10
        · rw [decide_eq_true hj]
          cases sHold g (sNow g 4) p j (v / 2) <;> simp
        · rw [decide_eq_false hj]; rfl
      rw [this]
      exact Go_in ⟨i2, l2, q2, _, _, rfl, rfl, hff, hF2⟩
    · have c0 : v % 2 = 0 := by omega
      rw [c0, show decide (¬ nI 0 = (1 : Int32)) = true from rfl, cond_true, b_X_feltStrengths_54, show nI (bs (fun s => sHold g (sNow g 4) p s (v / 2)) 10) ^^^ (-1 : Int32) = nI (bs (fun s => sHold g (sNow g 4) p s (v / 2)) 10 ^^^ 4294967295) from q_xorm _, fa_and, show nI k + (1 : Int32) = nI (k + 1) from nI_add k 1]
      have : bs (fun s => fAll (fun k => fFit g (f k) p s) k) 10 &&& (bs (fun s => sHold g (sNow g 4) p s (v / 2)) 10 ^^^ 4294967295) = bs (fun s => fAll (fun k => fFit g (f k) p s) (k + 1)) 10 := by
        apply Nat.eq_of_testBit_eq
        intro j
        rw [Nat.testBit_and, Nat.testBit_xor, bs_bit, bs_bit, bs_bit, fit, decide_eq_false c]
        by_cases hj : j < 10
        · rw [decide_eq_true hj, b_m1 j (by omega)]
          cases sHold g (sNow g 4) p j (v / 2) <;> simp
        · rw [decide_eq_false hj]; rfl
      rw [this]
      exact Go_in ⟨i2, l2, q2, _, _, rfl, rfl, hff, hF2⟩
  · obtain ⟨i1, l1, q1, z5, z6, e1, e2, hf1, hF1⟩ := hI
    subst e1; subst e2
    have hn := (TF_ff hf1 rfl rfl ht hT).1
    rw [b_X_feltStrengths_7]
    simp (disch := first | assumption | omega) only [b_X_feltStrengths_0, b_X_feltStrengths_22, b_X_feltStrengths_34, b_X_feltStrengths_54, s_Tray_at, ↓Bool.cond_decide, ↓q_in, q_le, q_lt, q_eq, q_leT, q_leF, q_ltT, q_ltF, q_eqT, q_eqF, ↓reduceIte, not_true_eq_false, not_false_eq_true, true_and, and_true, and_self, false_and, and_false, Nat.zero_le, am_bd_some, q_app, q_app0, nI_add, pk_sub, pk_mul, q_dec, q_ix, q_m1, q_m1', ↓q_ret, q_bool, q_bool1, q_u2, q_u1, q_shl1, q_shr, q_and7, q_dg, fa_or, fa_and, decide_true, decide_false, Bool.or_false, Bool.or_true, Bool.true_or, Bool.false_or, cond_true, cond_false, ite_not, q_some, q_nn, q_xor, q_xorm, Bool.false_eq_true, decide_eq_true_eq, ne_eq, l_0, l_1, l_2, l_7, l_10, l_11, l_16, l_22, l_34, l_54, l_1023, hk50, hn, cond_true]
    exact YR_some hf1 hF1
end
section
variable {i i' : Nat → Nat → Int32} {l l' : Nat → Nat → Int64} {q q' : Nat → Nat → Option Nat} {K : List (Nat × Nat)} {r m : Nat} {ρ : Nat → Nat → Nat} {σ : St}
theorem y_whyNotFelt (d : Nat) (x y : Int32) (hC : CV ρ r σ.1 m i l q K) (hY : TY σ i l) (hI : SI σ) : am_cl (d + 3) mX_whyNotFelt [.ref 0, .int x, .int y] (i, l, rX q, kX K) = some (some (.int (fNo σ x y)), (i, l, rX q, kX K)) := by
  have hWT := hI.2.2.2.1
  rw [c_X_whyNotFelt, b_X_whyNotFelt_0, fNo]
  by_cases hx : iB x 4 = true
  · have hx' := hx
    obtain ⟨t, ht, rfl⟩ := iB_T hx'
    have h47 := tr47 q ht
    have hk50 : ∀ i1 l1 q1, Nat.beq (am_kd (i1, l1, rX q1, kX K) (50 + 2 * t)) 10 = true := fun _ _ _ => tk50 ht
    have hmi := s_Tray_isMissing (i := i) (l := l) (q := rX q) (K := K) (d + 1) ht
    have hm := TY_m hY hWT ht
    have hv : vNo σ (nI t) = if σ.2.2.2.2.2.2.1 t = -nI 1 then -nI 6 else nI 0 := by
      unfold vNo
      rw [if_pos hx, nI_clamp (by omega)]
    rw [nI_clamp (show t < 2147483648 by omega), hv]
    obtain ⟨srt, hsr⟩ : ∃ s, σ.2.2.2.2.2.2.1 t = s := ⟨_, rfl⟩
    have hTY := (hY t ht).2
    have hsz := (hWT t ht).1
    obtain ⟨f, hf⟩ : ∃ f, (fun k => σ.2.2.2.2.2.2.2.2 (40 * t + k)) = f := ⟨_, rfl⟩
    obtain ⟨n, hn⟩ : ∃ n, σ.2.2.2.2.2.2.2.1 t = n := ⟨_, rfl⟩
    have hf' : ∀ k, σ.2.2.2.2.2.2.2.2 (40 * t + k) = f k := fun k => congrFun hf k
    simp only [hf', hn, hsr]
    rw [hn, hsr] at hTY
    rw [hf] at hTY
    rw [hn] at hsz
    rw [hsr] at hm
    obtain ⟨g, hg⟩ : ∃ g, σ.1 = g := ⟨_, rfl⟩
    rw [hg] at hC ⊢
    clear hv
    obtain ⟨a1, a2, hW, a4, a5, a6⟩ := id hC
    have a1 : rX q 0 2 = some r := a1
    obtain ⟨fP, fS, fL, fE, fF, fB, fU, fV, fK, fW, hk, ra, ra1, ra2, ra3⟩ := CV_f a2 hW
    obtain ⟨fN, fO, fT, fD⟩ := RM_f a6 hW
    have h1 : g 1 ≤ 6 := hW.1.2
    have h2 : g 2 ≤ 4 := hW.2.1
    have hR : ∀ p, p < 4 → g (10 + p) ≤ 4 := hW.2.2.2.1
    have hP : ∀ p, p < 4 → g (18 + p) < 8 := hW.2.2.2.2.2.1
    have hSt : ∀ p, p < 4 → g (22 + p) ≤ 9 := hW.2.2.2.2.2.2.1
    have hn := sNow_lt g hP 4 (by decide)
    have hvs : VS g (sNow g 4) := hW.2.2.2.2.2.2.2.2.2.2
    by_cases hy : iB y (g 2) = true
    · have hy' := hy
      obtain ⟨p, hp, rfl⟩ := iB_T hy'
      have hp4 : p < 4 := by omega
      have hpp := hP p hp4
      have hiS := iS_nI (g := g) (p := g (18 + p)) (by omega)
      by_cases c : srt = -nI 1
      · rw [if_pos (hm.mpr c)] at hmi
        have hv0 : ¬ (-nI 6 = nI 0) := by decide
        simp (disch := first | assumption | omega) only [b_X_whyNotFelt_0, b_X_whyNotFelt_4, b_X_whyNotFelt_15, b_X_whyNotFelt_18, b_X_whyNotFelt_32, b_X_whyNotFelt_55, b_X_whyNotFelt_76, b_X_whyNotFelt_87, b_X_whyNotFelt_94, b_X_whyNotFelt_115, b_X_whyNotFelt_118, b_X_whyNotFelt_127, s_Tray_at, s_X_isTray, ↓Bool.cond_decide, ↓q_in, q_le, q_lt, q_eq, q_leT, q_leF, q_ltT, q_ltF, q_eqT, q_eqF, ↓reduceIte, not_true_eq_false, not_false_eq_true, true_and, and_true, and_self, false_and, and_false, Nat.zero_le, am_bd_some, q_app, q_app0, nI_add, pk_sub, pk_mul, q_dec, q_ix, q_m1, q_m1', ↓q_ret, q_bool, q_bool1, q_u2, q_u1, q_shl1, q_shr, q_and7, q_dg, fa_or, fa_and, decide_true, decide_false, Bool.or_false, Bool.or_true, Bool.true_or, Bool.false_or, cond_true, cond_false, ite_not, q_some, q_nn, q_xor, q_xorm, Bool.false_eq_true, decide_eq_true_eq, ne_eq, l_0, l_1, l_2, l_3, l_4, l_5, l_6, l_8, l_9, l_10, l_12, l_14, l_15, l_18, l_19, l_32, l_47, l_55, l_61, l_76, l_87, l_94, l_115, l_118, l_127, hx, hy, h47, hk50, hmi, c, hv0, a1, a5, hk, fP, fS, fL, fE, fF, fB, fU, fV, fK, fW, fN, fO, fT, fD, ra1, ra2, cond_true, Bool.and_true, kd11]
      · rw [if_neg (fun z => c (hm.mp z))] at hmi
        obtain ⟨_, hTF⟩ := hTY c
        have hn2 := hTF.1
        rw [if_pos ⟨hx, hy⟩, if_neg c, if_pos rfl]
        by_cases c1 : 1 ≤ n ∧ n ≤ 12
        · rw [if_pos c1]
          obtain ⟨c11, c12⟩ := c1
          simp (disch := first | assumption | omega) only [b_X_whyNotFelt_0, b_X_whyNotFelt_4, b_X_whyNotFelt_15, b_X_whyNotFelt_18, b_X_whyNotFelt_32, b_X_whyNotFelt_55, b_X_whyNotFelt_76, b_X_whyNotFelt_87, b_X_whyNotFelt_94, b_X_whyNotFelt_115, b_X_whyNotFelt_118, b_X_whyNotFelt_127, s_Tray_at, s_X_isTray, ↓Bool.cond_decide, ↓q_in, q_le, q_lt, q_eq, q_leT, q_leF, q_ltT, q_ltF, q_eqT, q_eqF, ↓reduceIte, not_true_eq_false, not_false_eq_true, true_and, and_true, and_self, false_and, and_false, Nat.zero_le, am_bd_some, q_app, q_app0, nI_add, pk_sub, pk_mul, q_dec, q_ix, q_m1, q_m1', ↓q_ret, q_bool, q_bool1, q_u2, q_u1, q_shl1, q_shr, q_and7, q_dg, fa_or, fa_and, decide_true, decide_false, Bool.or_false, Bool.or_true, Bool.true_or, Bool.false_or, cond_true, cond_false, ite_not, q_some, q_nn, q_xor, q_xorm, Bool.false_eq_true, decide_eq_true_eq, ne_eq, l_0, l_1, l_2, l_3, l_4, l_5, l_6, l_8, l_9, l_10, l_12, l_14, l_15, l_18, l_19, l_32, l_47, l_55, l_61, l_76, l_87, l_94, l_115, l_118, l_127, hx, hy, h47, hk50, hmi, hn2, a1, a5, hk, fP, fS, fL, fE, fF, fB, fU, fV, fK, fW, fN, fO, fT, fD, ra1, ra2, cond_true, Bool.and_true, kd11]
          refine am_find (d := d + 2) (y := mX_whyNotFelt) (pc := 61) (fun k ls s => ls = [.val (.ref 0), .val (.int (nI t)), .val (.int (nI p)), .val (.ref (50 + 2 * t)), .val (.int (nI k))] ∧ s = (i, l, rX q, kX K)) (fun k => !decide (0 ≤ (f k).toInt ∧ (f k).toInt ≤ 19)) (fun o rs => rs = some (some (.int (match o with | some _ => -nI 3 | none => if sSpot g (g (18 + p)) = true then nI 0 else -nI 5)), (i, l, rX q, kX K))) n 0 (fun k ls s hk1 hk2 hI => ?_) (fun ls s hI => ?_) _ _ ⟨rfl, rfl⟩
          · obtain ⟨e1, e2⟩ := hI
            subst e1; subst e2
            have hat := s_Tray_at (i := i) (l := l) (q := q) (K := K) (d + 1) (k := k) ht (by omega)
            rw [hTF.2 k (by omega)] at hat
            have q0 : decide (lg_cmp (f k) 0 < 0) = decide ((f k).toInt < 0) := decide_eq_decide.mpr (by rw [k_cmp_lt, fa_lt64]; rfl)
            have q19 : decide (lg_cmp (f k) 19 ≤ 0) = decide ((f k).toInt ≤ 19) := decide_eq_decide.mpr (by
              show lg_cmp (f k) 19 ≤ nI 0 ↔ _
              rw [q_cle, fa_lt64]
              show ¬ ((19 : Int) < _) ↔ _
              omega)
            have t76 : am_Ex (d + 2) mX_whyNotFelt 61 [.val (.ref 0), .val (.int (nI t)), .val (.int (nI p)), .val (.ref (50 + 2 * t)), .val (.int (nI k))] [] (i, l, rX q, kX K) = am_Ex (d + 2) mX_whyNotFelt 76 [.val (.ref 0), .val (.int (nI t)), .val (.int (nI p)), .val (.ref (50 + 2 * t)), .val (.int (nI k))] [.long (f k)] (i, l, rX q, kX K) := by
              rw [b_X_whyNotFelt_61]
              simp (disch := first | assumption | omega) only [b_X_whyNotFelt_0, b_X_whyNotFelt_4, b_X_whyNotFelt_15, b_X_whyNotFelt_18, b_X_whyNotFelt_32, b_X_whyNotFelt_55, b_X_whyNotFelt_87, b_X_whyNotFelt_94, b_X_whyNotFelt_115, b_X_whyNotFelt_118, b_X_whyNotFelt_127, s_Tray_isMissing, s_X_isTray, ↓Bool.cond_decide, ↓q_in, q_le, q_lt, q_eq, q_leT, q_leF, q_ltT, q_ltF, q_eqT, q_eqF, ↓reduceIte, not_true_eq_false, not_false_eq_true, true_and, and_true, and_self, false_and, and_false, Nat.zero_le, am_bd_some, q_app, q_app0, nI_add, pk_sub, pk_mul, q_dec, q_ix, q_m1, q_m1', ↓q_ret, q_bool, q_bool1, q_u2, q_u1, q_shl1, q_shr, q_and7, q_dg, fa_or, fa_and, decide_true, decide_false, Bool.or_false, Bool.or_true, Bool.true_or, Bool.false_or, cond_true, cond_false, ite_not, q_some, q_nn, q_xor, q_xorm, Bool.false_eq_true, decide_eq_true_eq, ne_eq, l_0, l_1, l_2, l_3, l_4, l_5, l_6, l_8, l_9, l_10, l_12, l_14, l_15, l_18, l_19, l_32, l_47, l_55, l_61, l_76, l_87, l_94, l_115, l_118, l_127, hk50, hn2, hat, a1, a5, hk, fP, fS, fL, fE, fF, fB, fU, fV, fK, fW, fN, fO, fT, fD, ra1, ra2, cond_true, Bool.and_true, kd11]
            rw [t76, b_X_whyNotFelt_76, q0]
            refine ⟨fun z => ?_, fun z => ?_⟩
            · by_cases z0 : (f k).toInt < 0
              · rw [decide_eq_true z0, cond_true, b_X_whyNotFelt_94]; rfl
              · have z19 : ¬ (f k).toInt ≤ 19 := fun w => by
                  rw [decide_eq_true (show 0 ≤ (f k).toInt ∧ (f k).toInt ≤ 19 by omega)] at z; cases z
                rw [decide_eq_false z0, cond_false, hk50, Bool.true_and, cond_true, hat, am_bd_some, q_app, b_X_whyNotFelt_87, q19, decide_eq_false z19, cond_false, b_X_whyNotFelt_94]; rfl
            · have z1 : 0 ≤ (f k).toInt ∧ (f k).toInt ≤ 19 := by
                apply Classical.byContradiction
                intro w
                rw [decide_eq_false w] at z; cases z
              rw [decide_eq_false (show ¬ (f k).toInt < 0 by omega), cond_false, hk50, Bool.true_and, cond_true, hat, am_bd_some, q_app, b_X_whyNotFelt_87, q19, decide_eq_true z1.2, cond_true, show nI k + (1 : Int32) = nI (k + 1) from nI_add k 1]
              exact Go_in ⟨rfl, rfl⟩
          · obtain ⟨e1, e2⟩ := hI
            subst e1; subst e2
            rw [Nat.zero_add, b_X_whyNotFelt_61]
            cases hsp : sSpot g (g (18 + p)) with
            | true =>
              simp (disch := first | assumption | omega) only [b_X_whyNotFelt_0, b_X_whyNotFelt_4, b_X_whyNotFelt_15, b_X_whyNotFelt_18, b_X_whyNotFelt_32, b_X_whyNotFelt_55, b_X_whyNotFelt_76, b_X_whyNotFelt_87, b_X_whyNotFelt_94, b_X_whyNotFelt_115, b_X_whyNotFelt_118, b_X_whyNotFelt_127, s_Tray_at, s_Tray_isMissing, s_X_isTray, ↓Bool.cond_decide, ↓q_in, q_le, q_lt, q_eq, q_leT, q_leF, q_ltT, q_ltF, q_eqT, q_eqF, ↓reduceIte, not_true_eq_false, not_false_eq_true, true_and, and_true, and_self, false_and, and_false, Nat.zero_le, am_bd_some, q_app, q_app0, nI_add, pk_sub, pk_mul, q_dec, q_ix, q_m1, q_m1', ↓q_ret, q_bool, q_bool1, q_u2, q_u1, q_shl1, q_shr, q_and7, q_dg, fa_or, fa_and, decide_true, decide_false, Bool.or_false, Bool.or_true, Bool.true_or, Bool.false_or, cond_true, cond_false, ite_not, q_some, q_nn, q_xor, q_xorm, Bool.false_eq_true, decide_eq_true_eq, ne_eq, l_0, l_1, l_2, l_3, l_4, l_5, l_6, l_8, l_9, l_10, l_12, l_14, l_15, l_18, l_19, l_32, l_47, l_55, l_61, l_76, l_87, l_94, l_115, l_118, l_127, hk50, hn2, hiS, hsp, a1, a5, hk, fP, fS, fL, fE, fF, fB, fU, fV, fK, fW, fN, fO, fT, fD, ra1, ra2, cond_true, Bool.and_true, kd11]
            | false =>
              simp (disch := first | assumption | omega) only [b_X_whyNotFelt_0, b_X_whyNotFelt_4, b_X_whyNotFelt_15, b_X_whyNotFelt_18, b_X_whyNotFelt_32, b_X_whyNotFelt_55, b_X_whyNotFelt_76, b_X_whyNotFelt_87, b_X_whyNotFelt_94, b_X_whyNotFelt_115, b_X_whyNotFelt_118, b_X_whyNotFelt_127, s_Tray_at, s_Tray_isMissing, s_X_isTray, ↓Bool.cond_decide, ↓q_in, q_le, q_lt, q_eq, q_leT, q_leF, q_ltT, q_ltF, q_eqT, q_eqF, ↓reduceIte, not_true_eq_false, not_false_eq_true, true_and, and_true, and_self, false_and, and_false, Nat.zero_le, am_bd_some, q_app, q_app0, nI_add, pk_sub, pk_mul, q_dec, q_ix, q_m1, q_m1', ↓q_ret, q_bool, q_bool1, q_u2, q_u1, q_shl1, q_shr, q_and7, q_dg, fa_or, fa_and, decide_true, decide_false, Bool.or_false, Bool.or_true, Bool.true_or, Bool.false_or, cond_true, cond_false, ite_not, q_some, q_nn, q_xor, q_xorm, Bool.false_eq_true, decide_eq_true_eq, ne_eq, l_0, l_1, l_2, l_3, l_4, l_5, l_6, l_8, l_9, l_10, l_12, l_14, l_15, l_18, l_19, l_32, l_47, l_55, l_61, l_76, l_87, l_94, l_115, l_118, l_127, hk50, hn2, hiS, hsp, a1, a5, hk, fP, fS, fL, fE, fF, fB, fU, fV, fK, fW, fN, fO, fT, fD, ra1, ra2, cond_true, Bool.and_true, kd11]
        · rw [if_neg c1]
          by_cases c11 : n < 1
          · simp (disch := first | assumption | omega) only [b_X_whyNotFelt_0, b_X_whyNotFelt_4, b_X_whyNotFelt_15, b_X_whyNotFelt_18, b_X_whyNotFelt_32, b_X_whyNotFelt_55, b_X_whyNotFelt_76, b_X_whyNotFelt_87, b_X_whyNotFelt_94, b_X_whyNotFelt_115, b_X_whyNotFelt_118, b_X_whyNotFelt_127, s_Tray_at, s_X_isTray, ↓Bool.cond_decide, ↓q_in, q_le, q_lt, q_eq, q_leT, q_leF, q_ltT, q_ltF, q_eqT, q_eqF, ↓reduceIte, not_true_eq_false, not_false_eq_true, true_and, and_true, and_self, false_and, and_false, Nat.zero_le, am_bd_some, q_app, q_app0, nI_add, pk_sub, pk_mul, q_dec, q_ix, q_m1, q_m1', ↓q_ret, q_bool, q_bool1, q_u2, q_u1, q_shl1, q_shr, q_and7, q_dg, fa_or, fa_and, decide_true, decide_false, Bool.or_false, Bool.or_true, Bool.true_or, Bool.false_or, cond_true, cond_false, ite_not, q_some, q_nn, q_xor, q_xorm, Bool.false_eq_true, decide_eq_true_eq, ne_eq, l_0, l_1, l_2, l_3, l_4, l_5, l_6, l_8, l_9, l_10, l_12, l_14, l_15, l_18, l_19, l_32, l_47, l_55, l_61, l_76, l_87, l_94, l_115, l_118, l_127, hx, hy, h47, hk50, hmi, hn2, a1, a5, hk, fP, fS, fL, fE, fF, fB, fU, fV, fK, fW, fN, fO, fT, fD, ra1, ra2, cond_true, Bool.and_true, kd11]
          · have c12 : ¬ n ≤ 12 := by omega
            simp (disch := first | assumption | omega) only [b_X_whyNotFelt_0, b_X_whyNotFelt_4, b_X_whyNotFelt_15, b_X_whyNotFelt_18, b_X_whyNotFelt_32, b_X_whyNotFelt_55, b_X_whyNotFelt_76, b_X_whyNotFelt_87, b_X_whyNotFelt_94, b_X_whyNotFelt_115, b_X_whyNotFelt_118, b_X_whyNotFelt_127, s_Tray_at, s_X_isTray, ↓Bool.cond_decide, ↓q_in, q_le, q_lt, q_eq, q_leT, q_leF, q_ltT, q_ltF, q_eqT, q_eqF, ↓reduceIte, not_true_eq_false, not_false_eq_true, true_and, and_true, and_self, false_and, and_false, Nat.zero_le, am_bd_some, q_app, q_app0, nI_add, pk_sub, pk_mul, q_dec, q_ix, q_m1, q_m1', ↓q_ret, q_bool, q_bool1, q_u2, q_u1, q_shl1, q_shr, q_and7, q_dg, fa_or, fa_and, decide_true, decide_false, Bool.or_false, Bool.or_true, Bool.true_or, Bool.false_or, cond_true, cond_false, ite_not, q_some, q_nn, q_xor, q_xorm, Bool.false_eq_true, decide_eq_true_eq, ne_eq, l_0, l_1, l_2, l_3, l_4, l_5, l_6, l_8, l_9, l_10, l_12, l_14, l_15, l_18, l_19, l_32, l_47, l_55, l_61, l_76, l_87, l_94, l_115, l_118, l_127, hx, hy, h47, hk50, hmi, hn2, a1, a5, hk, fP, fS, fL, fE, fF, fB, fU, fV, fK, fW, fN, fO, fT, fD, ra1, ra2, cond_true, Bool.and_true, kd11]
    · simp (disch := first | assumption | omega) only [b_X_whyNotFelt_0, b_X_whyNotFelt_4, b_X_whyNotFelt_15, b_X_whyNotFelt_18, b_X_whyNotFelt_32, b_X_whyNotFelt_55, b_X_whyNotFelt_76, b_X_whyNotFelt_87, b_X_whyNotFelt_94, b_X_whyNotFelt_115, b_X_whyNotFelt_118, b_X_whyNotFelt_127, s_Tray_at, s_Tray_isMissing, s_X_isTray, ↓Bool.cond_decide, ↓q_in, q_le, q_lt, q_eq, q_leT, q_leF, q_ltT, q_ltF, q_eqT, q_eqF, ↓reduceIte, not_true_eq_false, not_false_eq_true, true_and, and_true, and_self, false_and, and_false, Nat.zero_le, am_bd_some, q_app, q_app0, nI_add, pk_sub, pk_mul, q_dec, q_ix, q_m1, q_m1', ↓q_ret, q_bool, q_bool1, q_u2, q_u1, q_shl1, q_shr, q_and7, q_dg, fa_or, fa_and, decide_true, decide_false, Bool.or_false, Bool.or_true, Bool.true_or, Bool.false_or, cond_true, cond_false, ite_not, q_some, q_nn, q_xor, q_xorm, Bool.false_eq_true, decide_eq_true_eq, ne_eq, l_0, l_1, l_2, l_3, l_4, l_5, l_6, l_8, l_9, l_10, l_12, l_14, l_15, l_18, l_19, l_32, l_47, l_55, l_61, l_76, l_87, l_94, l_115, l_118, l_127, hx, hy, h47, hk50, a1, a5, hk, fP, fS, fL, fE, fF, fB, fU, fV, fK, fW, fN, fO, fT, fD, ra1, ra2, cond_true, Bool.and_true, kd11]
  · simp (disch := first | assumption | omega) only [b_X_whyNotFelt_0, b_X_whyNotFelt_4, b_X_whyNotFelt_15, b_X_whyNotFelt_18, b_X_whyNotFelt_32, b_X_whyNotFelt_55, b_X_whyNotFelt_76, b_X_whyNotFelt_87, b_X_whyNotFelt_94, b_X_whyNotFelt_115, b_X_whyNotFelt_118, b_X_whyNotFelt_127, s_River_isPerson, s_River_isSpot, s_Tray_at, s_Tray_isMissing, s_X_isTray, s_X_placeOf, ↓Bool.cond_decide, ↓q_in, q_le, q_lt, q_eq, q_leT, q_leF, q_ltT, q_ltF, q_eqT, q_eqF, ↓reduceIte, not_true_eq_false, not_false_eq_true, true_and, and_true, and_self, false_and, and_false, Nat.zero_le, am_bd_some, q_app, q_app0, nI_add, pk_sub, pk_mul, q_dec, q_ix, q_m1, q_m1', ↓q_ret, q_bool, q_bool1, q_u2, q_u1, q_shl1, q_shr, q_and7, q_dg, fa_or, fa_and, decide_true, decide_false, Bool.or_false, Bool.or_true, Bool.true_or, Bool.false_or, cond_true, cond_false, ite_not, q_some, q_nn, q_xor, q_xorm, Bool.false_eq_true, decide_eq_true_eq, ne_eq, l_0, l_1, l_2, l_3, l_4, l_5, l_6, l_8, l_9, l_10, l_12, l_14, l_15, l_18, l_19, l_32, l_47, l_55, l_61, l_76, l_87, l_94, l_115, l_118, l_127, hx]
theorem y_X_strengths (d : Nat) (x y : Int32) (hC : CV ρ r σ.1 m i l q K) (hF : XF ρ i l q K) (hY : TY σ i l) (hI : SI σ) : YR ρ K i l q (some (.int (v_strengths σ x y))) (am_cl (d + 7) mX_strengths [.ref 0, .int x, .int y] (i, l, rX q, kX K)) := by
  have hno := y_whyNotFelt (d + 3) x y hC hY hI
  rw [c_X_strengths, b_X_strengths_0, v_strengths, hno, am_bd_some, q_app, b_X_strengths_6]
  by_cases h0 : fNo σ x y = nI 0
  · obtain ⟨h1, h2, h3, h4, h5, h6, h7⟩ := fNo_0 h0
    obtain ⟨t, ht, rfl⟩ := iB_T h1
    obtain ⟨p, hp, rfl⟩ := iB_T h2
    rw [nI_clamp (show t < 2147483648 by omega)] at h4 h5 h6
    have hp4 : p < 4 := by have := hC.2.2.1.2.1; omega
    rw [nI_clamp (show p < 2147483648 by omega)] at h7
    have hc := (vNo_0 h3).2
    rw [nI_clamp (show t < 2147483648 by omega)] at hc
    obtain ⟨_, hTF⟩ := (hY t ht).2 hc
    obtain ⟨i1, l1, q1, e1, hf1, hF1⟩ := y_feltStrengths d (p := p) hC hF hp h7 ht (hI.2.2.2.1 t ht).1 hTF h6
    have h47 := tr47 q ht
    rw [if_pos h0, nI_clamp (show t < 2147483648 by omega), nI_clamp (show p < 2147483648 by omega)]
    simp (disch := first | assumption | omega) only [b_X_strengths_0, b_X_strengths_6, b_X_strengths_26, ↓Bool.cond_decide, ↓q_in, q_le, q_lt, q_eq, q_leT, q_leF, q_ltT, q_ltF, q_eqT, q_eqF, ↓reduceIte, not_true_eq_false, not_false_eq_true, true_and, and_true, and_self, false_and, and_false, Nat.zero_le, am_bd_some, q_app, q_app0, nI_add, pk_sub, pk_mul, q_dec, q_ix, q_m1, q_m1', ↓q_ret, q_bool, q_bool1, q_u2, q_u1, q_shl1, q_shr, q_and7, q_dg, fa_or, fa_and, decide_true, decide_false, Bool.or_false, Bool.or_true, Bool.true_or, Bool.false_or, cond_true, cond_false, ite_not, q_some, q_nn, q_xor, q_xorm, Bool.false_eq_true, decide_eq_true_eq, ne_eq, l_0, l_1, l_3, l_4, l_6, l_17, l_26, l_47, h0, h47, e1, cond_true]
    exact YR_some hf1 hF1
  · rw [if_neg h0, decide_eq_false (show ¬ fNo σ x y = (0 : Int32) from h0), cond_false, b_X_strengths_26]
    exact YR_0 hF
theorem y_X_attempt (d : Nat) (x y : Int32) (hCV : CV ρ r σ.1 m i l q K) (hF : XF ρ i l q K) (hY : TY σ i l) (hS0 : SI σ) : YR ρ K i l q (some (.int (v_attempt σ x y))) (am_cl (d + 7) mX_attempt [.ref 0, .int x, .int y] (i, l, rX q, kX K)) := by
  have hno := y_whyNotFelt (d + 3) x y hCV hY hS0
  rw [c_X_attempt, b_X_attempt_0, v_attempt, hno, am_bd_some, q_app, b_X_attempt_6]
  by_cases h0 : fNo σ x y = nI 0
  · obtain ⟨h1, h2, h3, h4, h5, h6, h7⟩ := fNo_0 h0
    obtain ⟨t, ht, rfl⟩ := iB_T h1
    obtain ⟨p, hp, rfl⟩ := iB_T h2
    rw [nI_clamp (show t < 2147483648 by omega)] at h4 h5 h6
    have hp4 : p < 4 := by have := hCV.2.2.1.2.1; omega
    rw [nI_clamp (show p < 2147483648 by omega)] at h7
    have hc := (vNo_0 h3).2
    rw [nI_clamp (show t < 2147483648 by omega)] at hc
    obtain ⟨_, hTF⟩ := (hY t ht).2 hc
    obtain ⟨i1, l1, q1, e1, hf1, hF1⟩ := y_feltStrengths d (p := p) hCV hF hp h7 ht (hS0.2.2.2.1 t ht).1 hTF h6
    have h47 := tr47 q ht
    rw [if_pos h0, nI_clamp (show t < 2147483648 by omega), nI_clamp (show p < 2147483648 by omega)]
    have hM : sFS σ t p < 1024 := sFS_lt σ t p
    have e1 : am_cl (d + 6) mX_feltStrengths [.ref 0, .ref (50 + 2 * t), .int (nI p)] (i, l, rX q, kX K) = some (some (.int (nI (sFS σ t p))), (i1, l1, rX q1, kX K)) := e1
    obtain ⟨M, hMe⟩ : ∃ M, sFS σ t p = M := ⟨_, rfl⟩
    rw [hMe] at e1 hM ⊢
    by_cases c0 : M = 0
    · subst c0
      simp (disch := first | assumption | omega) only [b_X_attempt_0, b_X_attempt_6, b_X_attempt_24, b_X_attempt_58, b_X_attempt_62, b_X_attempt_71, b_X_attempt_92, b_X_attempt_100, s_J_bitCount, ↓Bool.cond_decide, ↓q_in, q_le, q_lt, q_eq, q_leT, q_leF, q_ltT, q_ltF, q_eqT, q_eqF, ↓reduceIte, not_true_eq_false, not_false_eq_true, true_and, and_true, and_self, false_and, and_false, Nat.zero_le, am_bd_some, q_app, q_app0, nI_add, pk_sub, pk_mul, q_dec, q_ix, q_m1, q_m1', ↓q_ret, q_bool, q_bool1, q_u2, q_u1, q_shl1, q_shr, q_and7, q_dg, fa_or, fa_and, decide_true, decide_false, Bool.or_false, Bool.or_true, Bool.true_or, Bool.false_or, cond_true, cond_false, ite_not, q_some, q_nn, q_xor, q_xorm, Bool.false_eq_true, decide_eq_true_eq, ne_eq, l_0, l_1, l_4, l_5, l_6, l_7, l_9, l_12, l_14, l_15, l_16, l_24, l_42, l_47, l_58, l_62, l_71, l_92, l_100, h0, h47, e1, cond_true]
      exact YR_some hf1 hF1
    · rw [if_neg c0]
      simp (disch := first | assumption | omega) only [b_X_attempt_0, b_X_attempt_6, b_X_attempt_24, b_X_attempt_58, b_X_attempt_62, b_X_attempt_71, b_X_attempt_92, b_X_attempt_100, s_J_bitCount, ↓Bool.cond_decide, ↓q_in, q_le, q_lt, q_eq, q_leT, q_leF, q_ltT, q_ltF, q_eqT, q_eqF, ↓reduceIte, not_true_eq_false, not_false_eq_true, true_and, and_true, and_self, false_and, and_false, Nat.zero_le, am_bd_some, q_app, q_app0, nI_add, pk_sub, pk_mul, q_dec, q_ix, q_m1, q_m1', ↓q_ret, q_bool, q_bool1, q_u2, q_u1, q_shl1, q_shr, q_and7, q_dg, fa_or, fa_and, decide_true, decide_false, Bool.or_false, Bool.or_true, Bool.true_or, Bool.false_or, cond_true, cond_false, ite_not, q_some, q_nn, q_xor, q_xorm, Bool.false_eq_true, decide_eq_true_eq, ne_eq, l_0, l_1, l_4, l_5, l_6, l_7, l_9, l_12, l_14, l_15, l_16, l_24, l_42, l_47, l_58, l_62, l_71, l_92, l_100, h0, h47, e1, c0, cond_true]
      obtain ⟨g, hg⟩ : ∃ g, σ.1 = g := ⟨_, rfl⟩
      rw [hg] at hCV hp h7 ⊢
      have hb10 := s_J_bitCount (d + 5) hM
      have hM2 : ∀ w, M &&& bs (fun s => sHold g (sNow g 4) p s w) 10 < 1024 := fun w => Nat.lt_of_le_of_lt Nat.and_le_left hM
      have hbc := bc_le M 10
      refine am_loop (d := d + 6) (y := mX_attempt) (pc := 42) (fun k ls s => ∃ i1 l1 q1 z1 z3 z8 z9, ls = [.val (.ref 0), z1, .val (.int (nI p)), z3, .val (.int (nI M)), .val (.int (nI ((hA2 g M p k).2 - 1))), .val (.int (mI (hA2 g M p k).1)), .val (.int (nI k)), z8, z9] ∧ s = (i1, l1, rX q1, kX K) ∧ FG RF [11] [11] i i1 l l1 q q1 ∧ XF ρ i1 l1 q1 K ∧ ((hA2 g M p k).1 = 0 ↔ (hA2 g M p k).2 = 0)) 10 _ (fun k ls s hk hJ => ?_) (fun ls s hJ => ?_) ⟨i1, l1, q1, _, _, _, _, rfl, rfl, hf1, hF1, Iff.rfl⟩
      · obtain ⟨i2, l2, q2, z1, z3, z8, z9, e1, e2, hf2, hF2, hz⟩ := hJ
        subst e1; subst e2
        obtain ⟨i3, l3, q3, e3, hf3, hF3⟩ := y_strengthsHolding (d + 1) (p := p) (w := k) (CV_ff hf2 hCV) hF2 hp (by omega) h7
        have hff := FG_tr hf2 hf3 rfl rfl rfl
        have hb1 := s_J_bitCount (d + 5) (hM2 k)
        rw [hC_bc] at hb1
        have hcl := hC_le g M p k 10
        have h2le := hA2_le g M p k (by omega)
        obtain ⟨H, hHe⟩ : ∃ H, hC g M p k 10 = H := ⟨_, rfl⟩
        have hIe : hI g M p k = mn H (bc M 10 - H) := by unfold hI; rw [hHe]
        rw [hHe] at hb1 hcl
        have emin : (if nI (bc M 10) - nI H < nI H then nI (bc M 10) - nI H else nI H) = nI (mn H (bc M 10 - H)) := by
          rw [pk_sub hcl]
          unfold mn
          by_cases c : bc M 10 - H < H
          · rw [if_pos (by rw [q_lt (by omega) (by omega)]; exact c), if_neg (by omega)]
          · rw [if_neg (by rw [q_lt (by omega) (by omega)]; exact c)]
            by_cases c2 : H < bc M 10 - H
            · rw [if_pos c2]
            · rw [if_neg c2, show bc M 10 - H = H by omega]
        have hmn : mn H (bc M 10 - H) ≤ 10 := by unfold mn; split <;> omega
        obtain ⟨L, hLe⟩ : ∃ L, mn H (bc M 10 - H) = L := ⟨_, rfl⟩
        rw [hLe] at emin hIe hmn
        have hstep : hA2 g M p (k + 1) = if (hA2 g M p k).2 ≤ L then (k + 1, L + 1) else hA2 g M p k := by rw [hA2, hIe]
        obtain ⟨A1, hA1⟩ : ∃ A, (hA2 g M p k).1 = A := ⟨_, rfl⟩
        obtain ⟨A2, hA2e⟩ : ∃ A, (hA2 g M p k).2 = A := ⟨_, rfl⟩
        rw [hA1, hA2e] at hz h2le ⊢
        rw [hA2e] at hstep
        rw [b_X_attempt_42, decide_eq_false (show ¬ (9 : Int32) < nI k from by
          show ¬ nI 9 < nI k
          rw [q_lt (by omega) (by omega)]; omega), cond_false, e3, am_bd_some, q_app, b_X_attempt_58, fa_and, hb1, am_bd_some, q_app, b_X_attempt_62, hb10, am_bd_some, q_app, b_X_attempt_71, emin]
        have set : A2 ≤ L → Go (d + 6) mX_attempt 42 (fun ls s => ∃ i1 l1 q1 z1 z3 z8 z9, ls = [.val (.ref 0), z1, .val (.int (nI p)), z3, .val (.int (nI M)), .val (.int (nI ((hA2 g M p (k + 1)).2 - 1))), .val (.int (mI (hA2 g M p (k + 1)).1)), .val (.int (nI (k + 1))), z8, z9] ∧ s = (i1, l1, rX q1, kX K) ∧ FG RF [11] [11] i i1 l l1 q q1 ∧ XF ρ i1 l1 q1 K ∧ ((hA2 g M p (k + 1)).1 = 0 ↔ (hA2 g M p (k + 1)).2 = 0)) (am_Ex (d + 6) mX_attempt 92 [.val (.ref 0), z1, .val (.int (nI p)), z3, .val (.int (nI M)), .val (.int (nI (A2 - 1))), .val (.int (mI A1)), .val (.int (nI k)), .val (.int (nI H)), .val (.int (nI L))] [] (i3, l3, rX q3, kX K)) := by
          intro hle
          rw [hstep, if_pos hle, b_X_attempt_92, b_X_attempt_100, show nI k + (1 : Int32) = nI (k + 1) from nI_add k 1]
          exact Go_in ⟨i3, l3, q3, _, _, _, _, rfl, rfl, hff, hF3, by simp⟩
        by_cases cA : A1 = 0
        · have cA2 : A2 = 0 := hz.mp cA
          rw [decide_eq_true (show mI A1 = (-1 : Int32) from by rw [cA]; rfl), cond_true]
          exact set (by omega)
        · have cA2 : A2 ≠ 0 := fun z => cA (hz.mpr z)
          have hm1 : ¬ mI A1 = (-1 : Int32) := by
            intro z
            have z : mI A1 = -nI 1 := z
            rw [q_mI (by omega)] at z
            exact cA z
          rw [decide_eq_false hm1, cond_false]
          by_cases cL : L ≤ A2 - 1
          · rw [decide_eq_true (show nI L ≤ nI (A2 - 1) from by rw [q_le (by omega) (by omega)]; exact cL), cond_true, b_X_attempt_100, show nI k + (1 : Int32) = nI (k + 1) from nI_add k 1, hstep, if_neg (by omega)]
            exact Go_in ⟨i3, l3, q3, _, _, _, _, by rw [hA1, hA2e], rfl, hff, hF3, by rw [hA1, hA2e]; exact hz⟩
          · rw [decide_eq_false (show ¬ nI L ≤ nI (A2 - 1) from by rw [q_le (by omega) (by omega)]; exact cL), cond_false]
            exact set (by omega)
      · obtain ⟨i2, l2, q2, z1, z3, z8, z9, e1, e2, hf2, hF2, hz⟩ := hJ
        subst e1; subst e2
        rw [b_X_attempt_42]
        simp (disch := first | assumption | omega) only [b_X_attempt_0, b_X_attempt_6, b_X_attempt_24, b_X_attempt_58, b_X_attempt_62, b_X_attempt_71, b_X_attempt_92, b_X_attempt_100, s_J_bitCount, ↓Bool.cond_decide, ↓q_in, q_le, q_lt, q_eq, q_leT, q_leF, q_ltT, q_ltF, q_eqT, q_eqF, ↓reduceIte, not_true_eq_false, not_false_eq_true, true_and, and_true, and_self, false_and, and_false, Nat.zero_le, am_bd_some, q_app, q_app0, nI_add, pk_sub, pk_mul, q_dec, q_ix, q_m1, q_m1', ↓q_ret, q_bool, q_bool1, q_u2, q_u1, q_shl1, q_shr, q_and7, q_dg, fa_or, fa_and, decide_true, decide_false, Bool.or_false, Bool.or_true, Bool.true_or, Bool.false_or, cond_true, cond_false, ite_not, q_some, q_nn, q_xor, q_xorm, Bool.false_eq_true, decide_eq_true_eq, ne_eq, l_0, l_1, l_4, l_5, l_6, l_7, l_9, l_12, l_14, l_15, l_16, l_24, l_42, l_47, l_58, l_62, l_71, l_92, l_100]
        exact YR_some hf2 hF2
  · rw [if_neg h0, decide_eq_false (show ¬ fNo σ x y = (0 : Int32) from h0), cond_false]
    exact YR_0 hF
end
