/-! THE CLASS: told deeds -/
theorem tr47 (q : Nat → Nat → Option Nat) {t : Nat} (ht : t < 4) : rX q 47 t = some (50 + 2 * t) := by
  rcases c4 ht with rfl | rfl | rfl | rfl <;> rfl
theorem tr50 (q : Nat → Nat → Option Nat) {t : Nat} (ht : t < 4) : rX q (50 + 2 * t) 0 = some (51 + 2 * t) := by
  rcases c4 ht with rfl | rfl | rfl | rfl <;> rfl
section
variable {i i' : Nat → Nat → Int32} {l l' : Nat → Nat → Int64} {q q' : Nat → Nat → Option Nat} {K : List (Nat × Nat)} {r m : Nat} {g : Nat → Nat} {ρ : Nat → Nat → Nat}
theorem tk50 {t : Nat} (ht : t < 4) : Nat.beq (am_kd (i, l, q, kX K) (50 + 2 * t)) 10 = true := by
  rcases c4 ht with rfl | rfl | rfl | rfl <;> rfl
theorem tk51 {t : Nat} (ht : t < 4) (x : Int32) : (Nat.beq (am_kd (i, l, q, kX K) (51 + 2 * t)) 101 && am_in x (am_ln (i, l, q, kX K) (51 + 2 * t))) = am_in x 40 := by
  rcases c4 ht with rfl | rfl | rfl | rfl <;> rfl
theorem tnR {t : Nat} (ht : t < 4) : (0 :: RF).contains (50 + 2 * t) = false := by
  rcases c4 ht with rfl | rfl | rfl | rfl <;> rfl
/-- a tray: how many, and what -/
def TF (t n : Nat) (f : Nat → Int64) (i : Nat → Nat → Int32) (l : Nat → Nat → Int64) : Prop := i (50 + 2 * t) 2 = nI n ∧ ∀ k, k < n → l (51 + 2 * t) k = f k
theorem TF_ff {t n : Nat} {f : Nat → Int64} {Ri Rl Rq : List Nat} (h : FG Ri Rl Rq i i' l l' q q') (e1 : Ri.all (fun x => (0 :: RF).contains x) = true) (e2 : Rl.all (fun x => [0, 10, 11].contains x) = true) (ht : t < 4) (hT : TF t n f i l) : TF t n f i' l' := by
  obtain ⟨h1, h2⟩ := hT
  have hl : ([0, 10, 11] : List Nat).contains (51 + 2 * t) = false := by rcases c4 ht with rfl | rfl | rfl | rfl <;> rfl
  exact ⟨by rw [h.1 _ (sub_c e1 (tnR ht))]; exact h1, by rw [h.2.1 _ (sub_c e2 hl)]; exact h2⟩
theorem s_Tray_isMissing (d : Nat) {t : Nat} (ht : t < 4) : am_cl (d + 1) mTray_isMissing [.ref (50 + 2 * t)] (i, l, q, kX K) = some (some (.int (if i (50 + 2 * t) 2 = -nI 1 then nI 1 else nI 0)), (i, l, q, kX K)) := by
  have hk : Nat.beq (am_kd (i, l, q, kX K) (50 + 2 * t)) 10 = true := tk50 ht
  rw [c_Tray_isMissing, b_Tray_isMissing_0, hk, cond_true]
  by_cases c : i (50 + 2 * t) 2 = -nI 1
  · rw [if_pos c, decide_eq_false (show ¬ ¬ i (50 + 2 * t) 2 = (-1 : Int32) from fun z => z c), cond_false, b_Tray_isMissing_13]; rfl
  · rw [if_neg c, decide_eq_true (show ¬ i (50 + 2 * t) 2 = (-1 : Int32) from c), cond_true, b_Tray_isMissing_13]; rfl
theorem s_Tray_at (d : Nat) {t k : Nat} (ht : t < 4) (hk4 : k < 40) : am_cl (d + 1) mTray_at [.ref (50 + 2 * t), .int (nI k)] (i, l, rX q, kX K) = some (some (.long (l (51 + 2 * t) k)), (i, l, rX q, kX K)) := by
  have hk : Nat.beq (am_kd (i, l, rX q, kX K) (50 + 2 * t)) 10 = true := tk50 ht
  have h50 := tr50 q ht
  have h51 := fun x => tk51 (i := i) (l := l) (q := rX q) (K := K) ht x
  rw [c_Tray_at, b_Tray_at_0]
  simp (disch := first | assumption | omega) only [b_Tray_at_0, b_Tray_at_19, b_Tray_at_20, ↓Bool.cond_decide, ↓q_in, q_le, q_lt, q_eq, q_leT, q_leF, q_ltT, q_ltF, q_eqT, q_eqF, ↓reduceIte, not_true_eq_false, not_false_eq_true, true_and, and_true, and_self, false_and, and_false, Nat.zero_le, am_bd_some, q_app, q_app0, nI_add, pk_sub, pk_mul, q_dec, q_ix, q_m1, q_m1', ↓q_ret, q_bool, q_bool1, q_u2, q_u1, q_shl1, q_shr, q_and7, q_dg, fa_or, fa_and, decide_true, decide_false, Bool.or_false, Bool.or_true, Bool.true_or, Bool.false_or, cond_true, cond_false, ite_not, q_some, q_nn, q_xor, q_xorm, Bool.false_eq_true, decide_eq_true_eq, ne_eq, l_0, l_1, l_3, l_4, l_10, l_14, l_19, l_20, l_40, l_101, hk, h50, h51, cond_true]
theorem CW_fg {Ri Rl Rq : List Nat} (h : FG Ri Rl Rq i i' l l' q q') (hR : (Ri.all fun x => Nat.blt x 58 && !(x == 7 || x == 8 || x == 9)) = true) (hRq : (Rq.all fun x => Nat.blt x 58 && !(x == 7 || x == 8 || x == 9)) = true) (h0 : Rq.contains 0 = false) (hC : CW ρ r g m i l q K) : CW ρ r g m i' l' q' K := by
  obtain ⟨a1, a2, a3, a4, a6⟩ := hC
  exact ⟨by rw [h.2.2 0 h0]; exact a1, RV_fg h hR hRq a2, a3, a4, a6⟩
theorem tl_end {f : Nat → Int64} : ∀ (n k : Nat) (g : Nat → Nat), ((tl f n k g).1 < k + n → (tl f n k g).2.1 ≠ 0 ∧ (tl f n k g).2.1 = lWhy (tl f n k g).2.2 (f (tl f n k g).1)) ∧ (¬ (tl f n k g).1 < k + n → (tl f n k g).2.1 = 0 ∧ (tl f n k g).1 = k + n)
  | 0, k, g => ⟨fun h => absurd h (by rw [tl]; simp), fun _ => ⟨rfl, rfl⟩⟩
  | n + 1, k, g => by
    rw [tl]
    by_cases c : lWhy g (f k) = 0
    · rw [if_pos c]
      have := tl_end (f := f) n (k + 1) (dDo g (f k).toInt.toNat)
      rw [show k + 1 + n = k + (n + 1) by omega] at this
      exact this
    · rw [if_neg c]
      exact ⟨fun _ => ⟨c, rfl⟩, fun h => absurd (show k < k + (n + 1) by omega) h⟩
theorem tl_ge {f : Nat → Int64} : ∀ (n k : Nat) (g : Nat → Nat), k ≤ (tl f n k g).1 ∧ (tl f n k g).1 ≤ k + n
  | 0, k, g => by rw [tl]; exact ⟨Nat.le_refl _, Nat.le_refl _⟩
  | n + 1, k, g => by
    rw [tl]
    by_cases c : lWhy g (f k) = 0
    · rw [if_pos c]
      have := tl_ge (f := f) n (k + 1) (dDo g (f k).toInt.toNat)
      omega
    · rw [if_neg c]
      show k ≤ k ∧ k ≤ _
      omega
theorem lWhy_do {v : Int64} (h : lWhy g v = 0) : ∃ n, v = lN n ∧ n = v.toInt.toNat ∧ dWhy g n = 0 := by
  obtain ⟨n, hn, e, h0⟩ := lWhy_0 h
  refine ⟨n, e, ?_, h0⟩
  rw [e, pk_lT (by omega)]
  rfl
theorem y_doable (d : Nat) {t n : Nat} {f : Nat → Int64} (hC : CV ρ r g m i l q K) (hF : XF ρ i l q K) (ht : t < 4) (hn40 : n ≤ 40) (hT : TF t n f i l) : YR ρ K i l q (some (.int (nI (tl f n 0 g).1))) (am_cl (d + 8) mX_doable [.ref 0, .ref (50 + 2 * t)] (i, l, rX q, kX K)) := by
  have a5 := hC.2.2.2.2.1
  have loop : ∀ j k g1 m1 i1 l1 q1 z3, k + j = n → tl f j k g1 = tl f n 0 g → CW ρ r g1 m1 i1 l1 q1 K → FG RF [11] [11] i i1 l l1 q q1 → XF ρ i1 l1 q1 K → YR ρ K i l q (some (.int (nI (tl f n 0 g).1))) (am_Ex (d + 7) mX_doable 8 [.val (.ref 0), .val (.ref (50 + 2 * t)), .val (.long (lN m1)), z3, .val (.int (nI k))] [] (i1, l1, rX q1, kX K)) := by
    intro j
    induction j with
    | zero =>
      intro k g1 m1 i1 l1 q1 z3 hk he hC1 hf1 hF1
      have hT1 := TF_ff hf1 rfl rfl ht hT
      have hk50 : Nat.beq (am_kd (i1, l1, rX q1, kX K) (50 + 2 * t)) 10 = true := tk50 ht
      have hn := hT1.1
      have hk : k = n := by omega
      subst hk
      rw [← he, tl, b_X_doable_8]
      simp (disch := first | assumption | omega) only [b_X_doable_0, b_X_doable_25, b_X_doable_28, b_X_doable_42, b_X_doable_45, s_Tray_at, ↓Bool.cond_decide, ↓q_in, q_le, q_lt, q_eq, q_leT, q_leF, q_ltT, q_ltF, q_eqT, q_eqF, ↓reduceIte, not_true_eq_false, not_false_eq_true, true_and, and_true, and_self, false_and, and_false, Nat.zero_le, am_bd_some, q_app, q_app0, nI_add, pk_sub, pk_mul, q_dec, q_ix, q_m1, q_m1', ↓q_ret, q_bool, q_bool1, q_u2, q_u1, q_shl1, q_shr, q_and7, q_dg, fa_or, fa_and, decide_true, decide_false, Bool.or_false, Bool.or_true, Bool.true_or, Bool.false_or, cond_true, cond_false, ite_not, q_some, q_nn, q_xor, q_xorm, Bool.false_eq_true, decide_eq_true_eq, ne_eq, l_0, l_1, l_2, l_3, l_6, l_8, l_10, l_14, l_25, l_28, l_42, l_45, hk50, hn, cond_true]
      exact YR_some hf1 hF1
    | succ j ih =>
      intro k g1 m1 i1 l1 q1 z3 hk he hC1 hf1 hF1
      have hT1 := TF_ff hf1 rfl rfl ht hT
      have hk50 : ∀ i1 l1 q1, Nat.beq (am_kd (i1, l1, rX q1, kX K) (50 + 2 * t)) 10 = true := fun _ _ _ => tk50 ht
      have hn := hT1.1
      have hat := s_Tray_at (i := i1) (l := l1) (q := q1) (K := K) (d + 6) (k := k) ht (by omega)
      rw [hT1.2 k (by omega)] at hat
      obtain ⟨i2, l2, q2, e2, hf2, hF2⟩ := y_whyNot d (f k) hC1 hF1
      have hf12 := FG_tr hf1 hf2 rfl rfl rfl
      have hC2 := CW_ff hf2 hC1
      have hT2 := TF_ff hf12 rfl rfl ht hT
      have hat2 := s_Tray_at (i := i2) (l := l2) (q := q2) (K := K) (d + 6) (k := k) ht (by omega)
      rw [hT2.2 k (by omega)] at hat2
      rw [tl] at he
      rw [b_X_doable_8]
      by_cases c : lWhy g1 (f k) = 0
      · rw [if_pos c] at he
        rw [c] at e2
        obtain ⟨x, ex, hx, h0⟩ := lWhy_do c
        rw [← hx] at he
        obtain ⟨m2, ⟨i3, l3, q3, e3, hf3, hF3⟩, hM3⟩ := y_done (d + 2) (n := x) hC2 hF2 h0
        rw [← ex] at e3
        simp (disch := first | assumption | omega) only [b_X_doable_0, b_X_doable_25, b_X_doable_28, b_X_doable_42, b_X_doable_45, ↓Bool.cond_decide, ↓q_in, q_le, q_lt, q_eq, q_leT, q_leF, q_ltT, q_ltF, q_eqT, q_eqF, ↓reduceIte, not_true_eq_false, not_false_eq_true, true_and, and_true, and_self, false_and, and_false, Nat.zero_le, am_bd_some, q_app, q_app0, nI_add, pk_sub, pk_mul, q_dec, q_ix, q_m1, q_m1', ↓q_ret, q_bool, q_bool1, q_u2, q_u1, q_shl1, q_shr, q_and7, q_dg, fa_or, fa_and, decide_true, decide_false, Bool.or_false, Bool.or_true, Bool.true_or, Bool.false_or, cond_true, cond_false, ite_not, q_some, q_nn, q_xor, q_xorm, Bool.false_eq_true, decide_eq_true_eq, ne_eq, l_0, l_1, l_2, l_3, l_6, l_8, l_10, l_14, l_25, l_28, l_42, l_45, hk50, hn, hat, hat2, e2, e3, cond_true, Bool.and_true]
        exact ih (k + 1) _ m2 i3 l3 q3 _ (by omega) he (CW_do (CW_ff hf3 hC2) h0 hM3) (FG_tr hf12 hf3 rfl rfl rfl) hF3
      · rw [if_neg c] at he
        have hle : lWhy g1 (f k) < 2147483648 := by
          have := (tl_ok (f := f) 1 k g1 hC1.2.2.1).2.2.1
          rw [tl, if_neg c] at this
          have this : lWhy g1 (f k) ≤ 3 := this
          omega
        simp (disch := first | assumption | omega) only [b_X_doable_0, b_X_doable_25, b_X_doable_28, b_X_doable_42, b_X_doable_45, ↓Bool.cond_decide, ↓q_in, q_le, q_lt, q_eq, q_leT, q_leF, q_ltT, q_ltF, q_eqT, q_eqF, ↓reduceIte, not_true_eq_false, not_false_eq_true, true_and, and_true, and_self, false_and, and_false, Nat.zero_le, am_bd_some, q_app, q_app0, nI_add, pk_sub, pk_mul, q_dec, q_ix, q_m1, q_m1', ↓q_ret, q_bool, q_bool1, q_u2, q_u1, q_shl1, q_shr, q_and7, q_dg, fa_or, fa_and, decide_true, decide_false, Bool.or_false, Bool.or_true, Bool.true_or, Bool.false_or, cond_true, cond_false, ite_not, q_some, q_nn, q_xor, q_xorm, Bool.false_eq_true, decide_eq_true_eq, ne_eq, l_0, l_1, l_2, l_3, l_6, l_8, l_10, l_14, l_25, l_28, l_42, l_45, hk50, hn, hat, e2, c, cond_true, Bool.and_true]
        rw [← he]
        exact YR_some hf12 hF2
  rw [c_X_doable, b_X_doable_0, a5]
  exact loop n 0 g m i l q _ (by omega) rfl (CW_of hC (gE_refl g) hC.2.2.1 hC.2.2.2.2.2) (FG_refl _ _ _ _ _ _) hF
theorem y_behind (d : Nat) {t n : Nat} {f : Nat → Int64} (hC : CV ρ r g m i l q K) (hF : XF ρ i l q K) (ht : t < 4) (hn40 : n ≤ 40) (hT : TF t n f i l) : ∃ m2, YR ρ K i l q (some (.long (lN m2))) (am_cl (d + 6) mX_behind [.ref 0, .ref (50 + 2 * t), .int (nI (tl f n 0 g).1)] (i, l, rX q, kX K)) ∧ RM m2 (gCur (tl f n 0 g).2.2) := by
  have a5 := hC.2.2.2.2.1
  have hle := (tl_ge (f := f) n 0 g).2
  have loop : ∀ j k g1 m1 i1 l1 q1 z4, k + j = n → tl f j k g1 = tl f n 0 g → CW ρ r g1 m1 i1 l1 q1 K → FG RF [11] [11] i i1 l l1 q q1 → XF ρ i1 l1 q1 K → ∃ m2, YR ρ K i l q (some (.long (lN m2))) (am_Ex (d + 5) mX_behind 8 [.val (.ref 0), .val (.ref (50 + 2 * t)), .val (.int (nI (tl f n 0 g).1)), .val (.long (lN m1)), z4, .val (.int (nI k))] [] (i1, l1, rX q1, kX K)) ∧ RM m2 (gCur (tl f n 0 g).2.2) := by
    intro j
    induction j with
    | zero =>
      intro k g1 m1 i1 l1 q1 z4 hk he hC1 hf1 hF1
      rw [← he, tl, b_X_behind_8]
      dsimp only
      refine ⟨m1, ?_, hC1.2.2.2.2⟩
      simp (disch := first | assumption | omega) only [b_X_behind_0, b_X_behind_22, b_X_behind_25, s_Tray_at, ↓Bool.cond_decide, ↓q_in, q_le, q_lt, q_eq, q_leT, q_leF, q_ltT, q_ltF, q_eqT, q_eqF, ↓reduceIte, not_true_eq_false, not_false_eq_true, true_and, and_true, and_self, false_and, and_false, Nat.zero_le, am_bd_some, q_app, q_app0, nI_add, pk_sub, pk_mul, q_dec, q_ix, q_m1, q_m1', ↓q_ret, q_bool, q_bool1, q_u2, q_u1, q_shl1, q_shr, q_and7, q_dg, fa_or, fa_and, decide_true, decide_false, Bool.or_false, Bool.or_true, Bool.true_or, Bool.false_or, cond_true, cond_false, ite_not, q_some, q_nn, q_xor, q_xorm, Bool.false_eq_true, decide_eq_true_eq, ne_eq, l_0, l_1, l_3, l_6, l_8, l_10, l_12, l_22, l_25]
      exact YR_some hf1 hF1
    | succ j ih =>
      intro k g1 m1 i1 l1 q1 z4 hk he hC1 hf1 hF1
      have hT1 := TF_ff hf1 rfl rfl ht hT
      have hk50 : ∀ i1 l1 q1, Nat.beq (am_kd (i1, l1, rX q1, kX K) (50 + 2 * t)) 10 = true := fun _ _ _ => tk50 ht
      have hat := s_Tray_at (i := i1) (l := l1) (q := q1) (K := K) (d + 4) (k := k) ht (by omega)
      rw [hT1.2 k (by omega)] at hat
      rw [tl] at he
      rw [b_X_behind_8]
      by_cases c : lWhy g1 (f k) = 0
      · rw [if_pos c] at he
        obtain ⟨x, ex, hx, h0⟩ := lWhy_do c
        rw [← hx] at he
        have hge := (tl_ge (f := f) j (k + 1) (dDo g1 x)).1
        rw [he] at hge
        obtain ⟨m2, ⟨i3, l3, q3, e3, hf3, hF3⟩, hM3⟩ := y_done d (n := x) hC1 hF1 h0
        rw [← ex] at e3
        obtain ⟨m3, hY, hM4⟩ := ih (k + 1) _ m2 i3 l3 q3 .unset (by omega) he (CW_do (CW_ff hf3 hC1) h0 hM3) (FG_tr hf1 hf3 rfl rfl rfl) hF3
        refine ⟨m3, ?_, hM4⟩
        simp (disch := first | assumption | omega) only [b_X_behind_0, b_X_behind_22, b_X_behind_25, ↓Bool.cond_decide, ↓q_in, q_le, q_lt, q_eq, q_leT, q_leF, q_ltT, q_ltF, q_eqT, q_eqF, ↓reduceIte, not_true_eq_false, not_false_eq_true, true_and, and_true, and_self, false_and, and_false, Nat.zero_le, am_bd_some, q_app, q_app0, nI_add, pk_sub, pk_mul, q_dec, q_ix, q_m1, q_m1', ↓q_ret, q_bool, q_bool1, q_u2, q_u1, q_shl1, q_shr, q_and7, q_dg, fa_or, fa_and, decide_true, decide_false, Bool.or_false, Bool.or_true, Bool.true_or, Bool.false_or, cond_true, cond_false, ite_not, q_some, q_nn, q_xor, q_xorm, Bool.false_eq_true, decide_eq_true_eq, ne_eq, l_0, l_1, l_3, l_6, l_8, l_10, l_12, l_22, l_25, hk50, hat, e3, cond_true, Bool.and_true]
        exact hY
      · rw [if_neg c] at he
        rw [← he]
        dsimp only
        refine ⟨m1, ?_, hC1.2.2.2.2⟩
        simp (disch := first | assumption | omega) only [b_X_behind_0, b_X_behind_22, b_X_behind_25, s_Tray_at, ↓Bool.cond_decide, ↓q_in, q_le, q_lt, q_eq, q_leT, q_leF, q_ltT, q_ltF, q_eqT, q_eqF, ↓reduceIte, not_true_eq_false, not_false_eq_true, true_and, and_true, and_self, false_and, and_false, Nat.zero_le, am_bd_some, q_app, q_app0, nI_add, pk_sub, pk_mul, q_dec, q_ix, q_m1, q_m1', ↓q_ret, q_bool, q_bool1, q_u2, q_u1, q_shl1, q_shr, q_and7, q_dg, fa_or, fa_and, decide_true, decide_false, Bool.or_false, Bool.or_true, Bool.true_or, Bool.false_or, cond_true, cond_false, ite_not, q_some, q_nn, q_xor, q_xorm, Bool.false_eq_true, decide_eq_true_eq, ne_eq, l_0, l_1, l_3, l_6, l_8, l_10, l_12, l_22, l_25]
        exact YR_some hf1 hF1
  rw [c_X_behind, b_X_behind_0, a5]
  exact loop n 0 g m i l q _ (by omega) rfl (CW_of hC (gE_refl g) hC.2.2.1 hC.2.2.2.2.2) (FG_refl _ _ _ _ _ _) hF
end
/-- the trays -/
def TY (σ : St) (i : Nat → Nat → Int32) (l : Nat → Nat → Int64) : Prop := ∀ t, t < 4 → (σ.2.2.2.2.2.2.1 t = -nI 1 → i (50 + 2 * t) 2 = -nI 1) ∧ (σ.2.2.2.2.2.2.1 t ≠ -nI 1 → i (50 + 2 * t) 1 = σ.2.2.2.2.2.2.1 t ∧ TF t (σ.2.2.2.2.2.2.2.1 t) (fun k => σ.2.2.2.2.2.2.2.2 (40 * t + k)) i l)
section
variable {i i' : Nat → Nat → Int32} {l l' : Nat → Nat → Int64} {q q' : Nat → Nat → Option Nat} {K : List (Nat × Nat)} {r m : Nat} {ρ : Nat → Nat → Nat} {σ : St}
theorem TY_m (hY : TY σ i l) (hT : WT σ) {t : Nat} (ht : t < 4) : (i (50 + 2 * t) 2 = -nI 1) ↔ σ.2.2.2.2.2.2.1 t = -nI 1 := by
  obtain ⟨h1, h2⟩ := hY t ht
  refine ⟨fun z => ?_, h1⟩
  apply Classical.byContradiction
  intro c
  have h3 := (h2 c).2.1
  have h4 := (hT t ht).1
  rw [h3] at z
  have := q_m1 (a := σ.2.2.2.2.2.2.2.1 t) (by omega)
  rw [this] at z
  exact z
theorem y_X_judge (d : Nat) (x y : Int32) (hC : CV ρ r σ.1 m i l q K) (hF : XF ρ i l q K) (hY : TY σ i l) (hI : SI σ) : YR ρ K i l q (some (.int (v_judge σ x y))) (am_cl (d + 9) mX_judge [.ref 0, .int x, .int y] (i, l, rX q, kX K)) := by
  have hWT := hI.2.2.2.1
  rw [c_X_judge, b_X_judge_0, v_judge]
  have hyr := rg_z 0 3 y (by decide) (by decide)
  by_cases hx : iB x 4 = true
  · by_cases hy : iR 0 3 y = true
    · obtain ⟨y1, y2⟩ := hyr.mp hy
      have hx' := hx
      obtain ⟨t, ht, rfl⟩ := iB_T hx'
      have h47 := tr47 q ht
      have hk50 : ∀ i1 l1 q1, Nat.beq (am_kd (i1, l1, rX q1, kX K) (50 + 2 * t)) 10 = true := fun _ _ _ => tk50 ht
      have hmi := s_Tray_isMissing (i := i) (l := l) (q := rX q) (K := K) (d + 7) ht
      have hm := TY_m hY hWT ht
      have hv : vNo σ (nI t) = if σ.2.2.2.2.2.2.1 t = -nI 1 then -nI 6 else nI 0 := by
        unfold vNo
        rw [if_pos hx, nI_clamp (by omega)]
      by_cases c : σ.2.2.2.2.2.2.1 t = -nI 1
      · rw [if_pos (hm.mpr c)] at hmi
        rw [if_pos c] at hv
        have hv0 : ¬ (-nI 6 = nI 0) := by decide
        simp (disch := first | assumption | omega) only [b_X_judge_0, b_X_judge_4, b_X_judge_16, b_X_judge_30, b_X_judge_41, b_X_judge_50, b_X_judge_95, b_X_judge_114, b_X_judge_117, b_X_judge_121, b_X_judge_131, b_X_judge_134, b_X_judge_144, b_X_judge_147, s_River_over, s_River_standing, s_Tray_at, s_X_isTray, s_X_placingOf, ↓Bool.cond_decide, ↓q_in, q_le, q_lt, q_eq, q_leT, q_leF, q_ltT, q_ltF, q_eqT, q_eqF, ↓reduceIte, not_true_eq_false, not_false_eq_true, true_and, and_true, and_self, false_and, and_false, Nat.zero_le, am_bd_some, q_app, q_app0, nI_add, pk_sub, pk_mul, q_dec, q_ix, q_m1, q_m1', ↓q_ret, q_bool, q_bool1, q_u2, q_u1, q_shl1, q_shr, q_and7, q_dg, fa_or, fa_and, decide_true, decide_false, Bool.or_false, Bool.or_true, Bool.true_or, Bool.false_or, cond_true, cond_false, ite_not, q_some, q_nn, q_xor, q_xorm, Bool.false_eq_true, decide_eq_true_eq, ne_eq, l_0, l_1, l_2, l_3, l_4, l_6, l_7, l_8, l_10, l_16, l_21, l_30, l_37, l_41, l_47, l_50, l_95, l_114, l_117, l_121, l_131, l_134, l_144, l_147, hx, hy, y1, y2, h47, hk50, hmi, hv, hv0, cond_true, Bool.and_true]
        exact YR_0 hF
      · rw [if_neg (fun z => c (hm.mp z))] at hmi
        rw [if_neg c] at hv
        obtain ⟨_, hTF⟩ := (hY t ht).2 c
        have hsz := (hWT t ht).1
        rw [if_pos hy, hv, if_pos rfl, nI_clamp (by omega)]
        obtain ⟨f, hf⟩ : ∃ f, (fun k => σ.2.2.2.2.2.2.2.2 (40 * t + k)) = f := ⟨_, rfl⟩
        obtain ⟨n, hn⟩ : ∃ n, σ.2.2.2.2.2.2.2.1 t = n := ⟨_, rfl⟩
        unfold tlS
        rw [hf, hn]
        rw [hf, hn] at hTF
        rw [hn] at hsz
        clear hmi hv
        obtain ⟨g, σ⟩ := σ
        have hC : CV ρ r g m i l q K := hC
        dsimp only
        obtain ⟨a1, a2, hW, a4, a5, a6⟩ := id hC
        have a1 : rX q 0 2 = some r := a1
        obtain ⟨fP, fS, fL, fE, fF, fB, fU, fV, fK, fW, hk, ra, ra1, ra2, ra3⟩ := CV_f a2 hW
        obtain ⟨fN, fO, fT, fD⟩ := RM_f a6 hW
        have h1 : g 1 ≤ 6 := hW.1.2
        have h2 : g 2 ≤ 4 := hW.2.1
        have hR : ∀ p, p < 4 → g (10 + p) ≤ 4 := hW.2.2.2.1
        have hP : ∀ p, p < 4 → g (18 + p) < 8 := hW.2.2.2.2.2.1
        have hSt : ∀ p, p < 4 → g (22 + p) ≤ 9 := hW.2.2.2.2.2.2.1
        have hn := sNow_lt g hP 4 (by decide)
        have hvs : VS g (sNow g 4) := hW.2.2.2.2.2.2.2.2.2.2
        obtain ⟨i1, l1, q1, e1, hf1, hF1⟩ := y_doable d hC hF ht hsz hTF
        obtain ⟨m2, ⟨i2, l2, q2, e2, hf2, hF2⟩, hM2⟩ := y_behind (d + 2) (CV_ff hf1 hC) hF1 ht hsz (TF_ff hf1 rfl rfl ht hTF)
        have hmi := s_Tray_isMissing (i := i) (l := l) (q := rX q) (K := K) (d + 7) ht
        rw [if_neg (fun z => c (hm.mp z))] at hmi
        have hff := FG_tr hf1 hf2 rfl rfl rfl
        have hTF2 := TF_ff hff rfl rfl ht hTF
        have hsz2 := hTF2.1
        obtain ⟨T, hTe⟩ : ∃ T, tl f n 0 g = T := ⟨_, rfl⟩
        have hend := tl_end (f := f) n 0 g
        have hge := tl_ge (f := f) n 0 g
        have hok := tl_ok (f := f) n 0 g hW
        rw [hTe] at e1 e2 hM2 hend hge hok
        rw [hTe]
        rw [Nat.zero_add] at hend hge
        obtain ⟨T1, T2, T3⟩ := T
        dsimp only at e1 e2 hM2 hend hge hok ⊢
        simp (disch := first | assumption | omega) only [b_X_judge_0, b_X_judge_4, b_X_judge_16, b_X_judge_30, b_X_judge_41, b_X_judge_95, b_X_judge_114, b_X_judge_117, b_X_judge_121, b_X_judge_131, b_X_judge_134, b_X_judge_144, b_X_judge_147, s_Tray_at, s_X_isTray, ↓Bool.cond_decide, ↓q_in, q_le, q_lt, q_eq, q_leT, q_leF, q_ltT, q_ltF, q_eqT, q_eqF, ↓reduceIte, not_true_eq_false, not_false_eq_true, true_and, and_true, and_self, false_and, and_false, Nat.zero_le, am_bd_some, q_app, q_app0, nI_add, pk_sub, pk_mul, q_dec, q_ix, q_m1, q_m1', ↓q_ret, q_bool, q_bool1, q_u2, q_u1, q_shl1, q_shr, q_and7, q_dg, fa_or, fa_and, decide_true, decide_false, Bool.or_false, Bool.or_true, Bool.true_or, Bool.false_or, cond_true, cond_false, ite_not, q_some, q_nn, q_xor, q_xorm, Bool.false_eq_true, decide_eq_true_eq, ne_eq, l_0, l_1, l_2, l_3, l_4, l_6, l_7, l_8, l_10, l_16, l_21, l_30, l_37, l_41, l_47, l_50, l_95, l_114, l_117, l_121, l_131, l_134, l_144, l_147, hx, y1, y2, h47, hk50, hmi, e1, e2, a1, a5, hk, fP, fS, fL, fE, fF, fB, fU, fV, fK, fW, fN, fO, fT, fD, ra1, ra2, cond_true, Bool.and_true, kd11]
        obtain ⟨a1, a2, _, a4, a5, _⟩ := CV_ff hff hC
        have a1 : rX q2 0 2 = some r := a1
        obtain ⟨fP, fS, fL, fE, fF, fB, fU, fV, fK, fW, hk, ra, ra1, ra2, ra3⟩ := CV_f a2 hW
        have hE3 : gE g T3 := fun j _ hj => hok.2.1 j (by omega)
        obtain ⟨gN, _, _, _⟩ := RM_f hM2 hok.1
        have hn3 := sNow_lt T3 hok.1.2.2.2.2.2.1 4 (by decide)
        rw [b_X_judge_50]
        by_cases y0 : y = nI 0
        · subst y0
          by_cases c1 : T1 < n
          · have := (hend.1 c1).1
            simp (disch := first | assumption | omega) only [b_X_judge_0, b_X_judge_4, b_X_judge_16, b_X_judge_30, b_X_judge_41, b_X_judge_50, b_X_judge_95, b_X_judge_114, b_X_judge_117, b_X_judge_121, b_X_judge_131, b_X_judge_134, b_X_judge_144, b_X_judge_147, s_Tray_at, s_Tray_isMissing, s_X_isTray, ↓Bool.cond_decide, ↓q_in, q_le, q_lt, q_eq, q_leT, q_leF, q_ltT, q_ltF, q_eqT, q_eqF, ↓reduceIte, not_true_eq_false, not_false_eq_true, true_and, and_true, and_self, false_and, and_false, Nat.zero_le, am_bd_some, q_app, q_app0, nI_add, pk_sub, pk_mul, q_dec, q_ix, q_m1, q_m1', ↓q_ret, q_bool, q_bool1, q_u2, q_u1, q_shl1, q_shr, q_and7, q_dg, fa_or, fa_and, decide_true, decide_false, Bool.or_false, Bool.or_true, Bool.true_or, Bool.false_or, cond_true, cond_false, ite_not, q_some, q_nn, q_xor, q_xorm, Bool.false_eq_true, decide_eq_true_eq, ne_eq, l_0, l_1, l_2, l_3, l_4, l_6, l_7, l_8, l_10, l_16, l_21, l_30, l_37, l_41, l_47, l_50, l_95, l_114, l_117, l_121, l_131, l_134, l_144, l_147, hk50, hsz2, this, a1, a5, hk, fP, fS, fL, fE, fF, fB, fU, fV, fK, fW, fN, fO, fT, fD, ra1, ra2, cond_true, Bool.and_true, kd11]
            exact YR_some hff hF2
          · have := (hend.2 c1).1
            simp (disch := first | assumption | omega) only [b_X_judge_0, b_X_judge_4, b_X_judge_16, b_X_judge_30, b_X_judge_41, b_X_judge_50, b_X_judge_95, b_X_judge_114, b_X_judge_117, b_X_judge_121, b_X_judge_131, b_X_judge_134, b_X_judge_144, b_X_judge_147, s_Tray_at, s_Tray_isMissing, s_X_isTray, ↓Bool.cond_decide, ↓q_in, q_le, q_lt, q_eq, q_leT, q_leF, q_ltT, q_ltF, q_eqT, q_eqF, ↓reduceIte, not_true_eq_false, not_false_eq_true, true_and, and_true, and_self, false_and, and_false, Nat.zero_le, am_bd_some, q_app, q_app0, nI_add, pk_sub, pk_mul, q_dec, q_ix, q_m1, q_m1', ↓q_ret, q_bool, q_bool1, q_u2, q_u1, q_shl1, q_shr, q_and7, q_dg, fa_or, fa_and, decide_true, decide_false, Bool.or_false, Bool.or_true, Bool.true_or, Bool.false_or, cond_true, cond_false, ite_not, q_some, q_nn, q_xor, q_xorm, Bool.false_eq_true, decide_eq_true_eq, ne_eq, l_0, l_1, l_2, l_3, l_4, l_6, l_7, l_8, l_10, l_16, l_21, l_30, l_37, l_41, l_47, l_50, l_95, l_114, l_117, l_121, l_131, l_134, l_144, l_147, hk50, hsz2, this, a1, a5, hk, fP, fS, fL, fE, fF, fB, fU, fV, fK, fW, fN, fO, fT, fD, ra1, ra2, cond_true, Bool.and_true, kd11]
            exact YR_some hff hF2
        by_cases y11 : y = nI 1
        · subst y11
          by_cases c1 : T1 < n
          · have hww := (hend.1 c1).2
            have hat := s_Tray_at (i := i2) (l := l2) (q := q2) (K := K) (d + 7) (k := T1) ht (by omega)
            rw [hTF2.2 T1 c1] at hat
            obtain ⟨i3, l3, q3, e3, hf3, hF3⟩ := y_whyNot (d + 1) (f T1) (CW_of (CV_ff hff hC) hE3 hok.1 hM2) hF2
            rw [← hww] at e3
            simp (disch := first | assumption | omega) only [b_X_judge_0, b_X_judge_4, b_X_judge_16, b_X_judge_30, b_X_judge_41, b_X_judge_50, b_X_judge_95, b_X_judge_114, b_X_judge_117, b_X_judge_121, b_X_judge_131, b_X_judge_134, b_X_judge_144, b_X_judge_147, s_Tray_isMissing, s_X_isTray, ↓Bool.cond_decide, ↓q_in, q_le, q_lt, q_eq, q_leT, q_leF, q_ltT, q_ltF, q_eqT, q_eqF, ↓reduceIte, not_true_eq_false, not_false_eq_true, true_and, and_true, and_self, false_and, and_false, Nat.zero_le, am_bd_some, q_app, q_app0, nI_add, pk_sub, pk_mul, q_dec, q_ix, q_m1, q_m1', ↓q_ret, q_bool, q_bool1, q_u2, q_u1, q_shl1, q_shr, q_and7, q_dg, fa_or, fa_and, decide_true, decide_false, Bool.or_false, Bool.or_true, Bool.true_or, Bool.false_or, cond_true, cond_false, ite_not, q_some, q_nn, q_xor, q_xorm, Bool.false_eq_true, decide_eq_true_eq, ne_eq, l_0, l_1, l_2, l_3, l_4, l_6, l_7, l_8, l_10, l_16, l_21, l_30, l_37, l_41, l_47, l_50, l_95, l_114, l_117, l_121, l_131, l_134, l_144, l_147, hk50, hsz2, hat, e3, a1, a5, hk, fP, fS, fL, fE, fF, fB, fU, fV, fK, fW, fN, fO, fT, fD, ra1, ra2, cond_true, Bool.and_true, kd11]
            exact YR_some (FG_tr hff hf3 rfl rfl rfl) hF3
          · have := (hend.2 c1).1
            subst this
            simp (disch := first | assumption | omega) only [b_X_judge_0, b_X_judge_4, b_X_judge_16, b_X_judge_30, b_X_judge_41, b_X_judge_50, b_X_judge_95, b_X_judge_114, b_X_judge_117, b_X_judge_121, b_X_judge_131, b_X_judge_134, b_X_judge_144, b_X_judge_147, s_Tray_at, s_Tray_isMissing, s_X_isTray, ↓Bool.cond_decide, ↓q_in, q_le, q_lt, q_eq, q_leT, q_leF, q_ltT, q_ltF, q_eqT, q_eqF, ↓reduceIte, not_true_eq_false, not_false_eq_true, true_and, and_true, and_self, false_and, and_false, Nat.zero_le, am_bd_some, q_app, q_app0, nI_add, pk_sub, pk_mul, q_dec, q_ix, q_m1, q_m1', ↓q_ret, q_bool, q_bool1, q_u2, q_u1, q_shl1, q_shr, q_and7, q_dg, fa_or, fa_and, decide_true, decide_false, Bool.or_false, Bool.or_true, Bool.true_or, Bool.false_or, cond_true, cond_false, ite_not, q_some, q_nn, q_xor, q_xorm, Bool.false_eq_true, decide_eq_true_eq, ne_eq, l_0, l_1, l_2, l_3, l_4, l_6, l_7, l_8, l_10, l_16, l_21, l_30, l_37, l_41, l_47, l_50, l_95, l_114, l_117, l_121, l_131, l_134, l_144, l_147, hk50, hsz2, a1, a5, hk, fP, fS, fL, fE, fF, fB, fU, fV, fK, fW, fN, fO, fT, fD, ra1, ra2, cond_true, Bool.and_true, kd11]
            exact YR_some hff hF2
        by_cases y22 : y = nI 2
        · subst y22
          simp (disch := first | assumption | omega) only [b_X_judge_0, b_X_judge_4, b_X_judge_16, b_X_judge_30, b_X_judge_41, b_X_judge_50, b_X_judge_95, b_X_judge_114, b_X_judge_117, b_X_judge_121, b_X_judge_131, b_X_judge_134, b_X_judge_144, b_X_judge_147, s_Tray_at, s_Tray_isMissing, s_X_isTray, ↓Bool.cond_decide, ↓q_in, q_le, q_lt, q_eq, q_leT, q_leF, q_ltT, q_ltF, q_eqT, q_eqF, ↓reduceIte, not_true_eq_false, not_false_eq_true, true_and, and_true, and_self, false_and, and_false, Nat.zero_le, am_bd_some, q_app, q_app0, nI_add, pk_sub, pk_mul, q_dec, q_ix, q_m1, q_m1', ↓q_ret, q_bool, q_bool1, q_u2, q_u1, q_shl1, q_shr, q_and7, q_dg, fa_or, fa_and, decide_true, decide_false, Bool.or_false, Bool.or_true, Bool.true_or, Bool.false_or, cond_true, cond_false, ite_not, q_some, q_nn, q_xor, q_xorm, Bool.false_eq_true, decide_eq_true_eq, ne_eq, l_0, l_1, l_2, l_3, l_4, l_6, l_7, l_8, l_10, l_16, l_21, l_30, l_37, l_41, l_47, l_50, l_95, l_114, l_117, l_121, l_131, l_134, l_144, l_147, hk50, gN, a1, a5, hk, fP, fS, fL, fE, fF, fB, fU, fV, fK, fW, fN, fO, fT, fD, ra1, ra2, cond_true, Bool.and_true, kd11]
          exact YR_some hff hF2
        · simp (disch := first | assumption | omega) only [b_X_judge_0, b_X_judge_4, b_X_judge_16, b_X_judge_30, b_X_judge_41, b_X_judge_50, b_X_judge_95, b_X_judge_114, b_X_judge_117, b_X_judge_121, b_X_judge_131, b_X_judge_134, b_X_judge_144, b_X_judge_147, s_Tray_at, s_Tray_isMissing, s_X_isTray, ↓Bool.cond_decide, ↓q_in, q_le, q_lt, q_eq, q_leT, q_leF, q_ltT, q_ltF, q_eqT, q_eqF, ↓reduceIte, not_true_eq_false, not_false_eq_true, true_and, and_true, and_self, false_and, and_false, Nat.zero_le, am_bd_some, q_app, q_app0, nI_add, pk_sub, pk_mul, q_dec, q_ix, q_m1, q_m1', ↓q_ret, q_bool, q_bool1, q_u2, q_u1, q_shl1, q_shr, q_and7, q_dg, fa_or, fa_and, decide_true, decide_false, Bool.or_false, Bool.or_true, Bool.true_or, Bool.false_or, cond_true, cond_false, ite_not, q_some, q_nn, q_xor, q_xorm, Bool.false_eq_true, decide_eq_true_eq, ne_eq, l_0, l_1, l_2, l_3, l_4, l_6, l_7, l_8, l_10, l_16, l_21, l_30, l_37, l_41, l_47, l_50, l_95, l_114, l_117, l_121, l_131, l_134, l_144, l_147, hk50, gN, y0, y11, y22, a1, a5, hk, fP, fS, fL, fE, fF, fB, fU, fV, fK, fW, fN, fO, fT, fD, ra1, ra2, cond_true, Bool.and_true, kd11]
          exact YR_some hff hF2
    · by_cases y1 : y < nI 0
      · simp (disch := first | assumption | omega) only [b_X_judge_0, b_X_judge_4, b_X_judge_16, b_X_judge_30, b_X_judge_41, b_X_judge_50, b_X_judge_95, b_X_judge_114, b_X_judge_117, b_X_judge_121, b_X_judge_131, b_X_judge_134, b_X_judge_144, b_X_judge_147, s_River_over, s_River_standing, s_Tray_at, s_Tray_isMissing, s_X_isTray, s_X_placingOf, ↓Bool.cond_decide, ↓q_in, q_le, q_lt, q_eq, q_leT, q_leF, q_ltT, q_ltF, q_eqT, q_eqF, ↓reduceIte, not_true_eq_false, not_false_eq_true, true_and, and_true, and_self, false_and, and_false, Nat.zero_le, am_bd_some, q_app, q_app0, nI_add, pk_sub, pk_mul, q_dec, q_ix, q_m1, q_m1', ↓q_ret, q_bool, q_bool1, q_u2, q_u1, q_shl1, q_shr, q_and7, q_dg, fa_or, fa_and, decide_true, decide_false, Bool.or_false, Bool.or_true, Bool.true_or, Bool.false_or, cond_true, cond_false, ite_not, q_some, q_nn, q_xor, q_xorm, Bool.false_eq_true, decide_eq_true_eq, ne_eq, l_0, l_1, l_2, l_3, l_4, l_6, l_7, l_8, l_10, l_16, l_21, l_30, l_37, l_41, l_47, l_50, l_95, l_114, l_117, l_121, l_131, l_134, l_144, l_147, hx, hy, y1]
        exact YR_0 hF
      · have y2 : ¬ y ≤ nI 3 := fun z => hy (hyr.mpr ⟨y1, z⟩)
        simp (disch := first | assumption | omega) only [b_X_judge_0, b_X_judge_4, b_X_judge_16, b_X_judge_30, b_X_judge_41, b_X_judge_50, b_X_judge_95, b_X_judge_114, b_X_judge_117, b_X_judge_121, b_X_judge_131, b_X_judge_134, b_X_judge_144, b_X_judge_147, s_River_over, s_River_standing, s_Tray_at, s_Tray_isMissing, s_X_isTray, s_X_placingOf, ↓Bool.cond_decide, ↓q_in, q_le, q_lt, q_eq, q_leT, q_leF, q_ltT, q_ltF, q_eqT, q_eqF, ↓reduceIte, not_true_eq_false, not_false_eq_true, true_and, and_true, and_self, false_and, and_false, Nat.zero_le, am_bd_some, q_app, q_app0, nI_add, pk_sub, pk_mul, q_dec, q_ix, q_m1, q_m1', ↓q_ret, q_bool, q_bool1, q_u2, q_u1, q_shl1, q_shr, q_and7, q_dg, fa_or, fa_and, decide_true, decide_false, Bool.or_false, Bool.or_true, Bool.true_or, Bool.false_or, cond_true, cond_false, ite_not, q_some, q_nn, q_xor, q_xorm, Bool.false_eq_true, decide_eq_true_eq, ne_eq, l_0, l_1, l_2, l_3, l_4, l_6, l_7, l_8, l_10, l_16, l_21, l_30, l_37, l_41, l_47, l_50, l_95, l_114, l_117, l_121, l_131, l_134, l_144, l_147, hx, hy, y1, y2]
        exact YR_0 hF
  · have hv : vNo σ x = -nI 2 := by unfold vNo; rw [if_neg hx]
    have hv0 : ¬ (-nI 2 = nI 0) := by decide
    by_cases hy : iR 0 3 y = true
    · simp (disch := first | assumption | omega) only [b_X_judge_0, b_X_judge_4, b_X_judge_16, b_X_judge_30, b_X_judge_41, b_X_judge_50, b_X_judge_95, b_X_judge_114, b_X_judge_117, b_X_judge_121, b_X_judge_131, b_X_judge_134, b_X_judge_144, b_X_judge_147, s_River_over, s_River_standing, s_Tray_at, s_Tray_isMissing, s_X_isTray, s_X_placingOf, ↓Bool.cond_decide, ↓q_in, q_le, q_lt, q_eq, q_leT, q_leF, q_ltT, q_ltF, q_eqT, q_eqF, ↓reduceIte, not_true_eq_false, not_false_eq_true, true_and, and_true, and_self, false_and, and_false, Nat.zero_le, am_bd_some, q_app, q_app0, nI_add, pk_sub, pk_mul, q_dec, q_ix, q_m1, q_m1', ↓q_ret, q_bool, q_bool1, q_u2, q_u1, q_shl1, q_shr, q_and7, q_dg, fa_or, fa_and, decide_true, decide_false, Bool.or_false, Bool.or_true, Bool.true_or, Bool.false_or, cond_true, cond_false, ite_not, q_some, q_nn, q_xor, q_xorm, Bool.false_eq_true, decide_eq_true_eq, ne_eq, l_0, l_1, l_2, l_3, l_4, l_6, l_7, l_8, l_10, l_16, l_21, l_30, l_37, l_41, l_47, l_50, l_95, l_114, l_117, l_121, l_131, l_134, l_144, l_147, hx, hy, hv, hv0]
      exact YR_0 hF
    · simp (disch := first | assumption | omega) only [b_X_judge_0, b_X_judge_4, b_X_judge_16, b_X_judge_30, b_X_judge_41, b_X_judge_50, b_X_judge_95, b_X_judge_114, b_X_judge_117, b_X_judge_121, b_X_judge_131, b_X_judge_134, b_X_judge_144, b_X_judge_147, s_River_over, s_River_standing, s_Tray_at, s_Tray_isMissing, s_X_isTray, s_X_placingOf, ↓Bool.cond_decide, ↓q_in, q_le, q_lt, q_eq, q_leT, q_leF, q_ltT, q_ltF, q_eqT, q_eqF, ↓reduceIte, not_true_eq_false, not_false_eq_true, true_and, and_true, and_self, false_and, and_false, Nat.zero_le, am_bd_some, q_app, q_app0, nI_add, pk_sub, pk_mul, q_dec, q_ix, q_m1, q_m1', ↓q_ret, q_bool, q_bool1, q_u2, q_u1, q_shl1, q_shr, q_and7, q_dg, fa_or, fa_and, decide_true, decide_false, Bool.or_false, Bool.or_true, Bool.true_or, Bool.false_or, cond_true, cond_false, ite_not, q_some, q_nn, q_xor, q_xorm, Bool.false_eq_true, decide_eq_true_eq, ne_eq, l_0, l_1, l_2, l_3, l_4, l_6, l_7, l_8, l_10, l_16, l_21, l_30, l_37, l_41, l_47, l_50, l_95, l_114, l_117, l_121, l_131, l_134, l_144, l_147, hx, hy]
      exact YR_0 hF
end
