/-! THE CLASS: orders asked -/
def jt74 (x y : Int32) : Int32 := y + ju x 1
def jt62 (x y : Int32) : Int32 := cond (decide (x ≤ 4)) (jt74 x y) (jt74 (ju x 2) (y + 2))
def jt49 (x y : Int32) : Int32 := cond (decide (x ≤ 16)) (jt62 x y) (jt62 (ju x 4) (y + 4))
def jt34 (x y : Int32) : Int32 := cond (decide (x ≤ 256)) (jt49 x y) (jt49 (ju x 8) (y + 8))
def jt9 (x : Int32) : Int32 := cond (decide (0 < x)) (cond (decide (x ≤ 65536)) (jt34 x 1) (jt34 (ju x 16) (1 + 16))) (x &&& 32)
def jtz (x : Int32) : Int32 := jt9 ((x ^^^ (-1)) &&& (x - 1))
theorem jtz_ok : ∀ x, x < 16 → x ≠ 0 → jtz (nI x) = vW (ff (fun p => x.testBit p) 4 0) := by decide +kernel
section
variable {i : Nat → Nat → Int32} {l : Nat → Nat → Int64} {q : Nat → Nat → Option Nat} {K : List (Nat × Nat)}
theorem t_ntz (d : Nat) (x : Int32) : am_cl (d + 1) mJ_numberOfTrailingZeros [.int x] (i, l, q, K) = some (some (.int (jtz x)), (i, l, q, K)) := by
  have t62 : ∀ x y, am_Ex d mJ_numberOfTrailingZeros 62 [.val (.int x), .val (.int y)] [] (i, l, q, K) = some (some (.int (jt62 x y)), (i, l, q, K)) := fun x y => by
    rw [b_J_numberOfTrailingZeros_62]
    unfold jt62
    cases decide (x ≤ 4) with
    | true => rw [cond_true, cond_true, b_J_numberOfTrailingZeros_74]; rfl
    | false => rw [cond_false, cond_false, b_J_numberOfTrailingZeros_74]; rfl
  have t49 : ∀ x y, am_Ex d mJ_numberOfTrailingZeros 49 [.val (.int x), .val (.int y)] [] (i, l, q, K) = some (some (.int (jt49 x y)), (i, l, q, K)) := fun x y => by
    rw [b_J_numberOfTrailingZeros_49]
    unfold jt49
    cases decide (x ≤ 16) with
    | true => rw [cond_true, cond_true, t62]
    | false => rw [cond_false, cond_false, t62]; rfl
  have t34 : ∀ x y, am_Ex d mJ_numberOfTrailingZeros 34 [.val (.int x), .val (.int y)] [] (i, l, q, K) = some (some (.int (jt34 x y)), (i, l, q, K)) := fun x y => by
    rw [b_J_numberOfTrailingZeros_34]
    unfold jt34
    cases decide (x ≤ 256) with
    | true => rw [cond_true, cond_true, t49]
    | false => rw [cond_false, cond_false, t49]; rfl
  rw [c_J_numberOfTrailingZeros, b_J_numberOfTrailingZeros_0, b_J_numberOfTrailingZeros_9]
  unfold jtz jt9
  cases decide (0 < (x ^^^ -1) &&& (x - 1)) with
  | false => rfl
  | true =>
    rw [cond_true, cond_true]
    cases decide ((x ^^^ -1) &&& (x - 1) ≤ 65536) with
    | true => rw [cond_true, cond_true, t34]
    | false => rw [cond_false, cond_false, t34]; rfl
theorem s_X_firstBit (d : Nat) {x : Nat} (hx : x < 16) : am_cl (d + 2) mX_firstBit [.int (nI x)] (i, l, q, K) = some (some (.int (vW (ff (fun p => x.testBit p) 4 0))), (i, l, q, K)) := by
  rw [c_X_firstBit, b_X_firstBit_0]
  by_cases c : x = 0
  · subst c
    rw [show decide (¬ nI 0 = (0 : Int32)) = false from rfl, cond_false, b_X_firstBit_12]
    rfl
  · rw [decide_eq_true (show ¬ nI x = (0 : Int32) from by
      show ¬ nI x = nI 0
      rw [q_eq (by omega) (by omega)]; exact c), cond_true, t_ntz, am_bd_some, q_app, b_X_firstBit_12, jtz_ok x hx c]
end
theorem ff_bs {f : Nat → Bool} {n : Nat} (hn : n ≤ 4) : ff (fun p => (bs f n).testBit p) 4 0 = ff f n 0 := by
  cases h : ff f n 0 with
  | none =>
    cases h2 : ff (fun p => (bs f n).testBit p) 4 0 with
    | none => rfl
    | some j =>
      obtain ⟨_, j2, j3, _⟩ := ff_some h2
      rw [bs_bit, Bool.and_eq_true, decide_eq_true_eq] at j3
      have := ff_none h j (by omega) (by omega)
      rw [this] at j3
      cases j3.2
  | some k =>
    obtain ⟨_, k2, k3, k4⟩ := ff_some h
    cases h2 : ff (fun p => (bs f n).testBit p) 4 0 with
    | none =>
      have := ff_none h2 k (by omega) (by omega)
      rw [bs_bit, decide_eq_true (by omega), k3] at this
      cases this
    | some j =>
      obtain ⟨_, j2, j3, j4⟩ := ff_some h2
      rw [bs_bit, Bool.and_eq_true, decide_eq_true_eq] at j3
      rcases Nat.lt_trichotomy j k with c | c | c
      · have := k4 j (by omega) c
        rw [this] at j3; cases j3.2
      · rw [c]
      · have := j4 k (by omega) c
        rw [bs_bit, decide_eq_true (by omega), k3] at this
        cases this
section
variable {g : Nat → Nat} {G : Nat}
theorem nB_lt : nB g G < 16 := bs_lt _ 4
/-- who can be next in an order: as the model says -/
theorem nB_e (hW : WG g) (hG : G < 16) (hs : sub g G) (hl : lfG g G ≠ 0) : nB g G = bs (oB g (3 - bc G 4) (stG g G) (lfG g G)) (g 2) := by
  have h2 := hW.2.1
  have hA := oW_lt (g := g) h2
  obtain ⟨s1, s2, s3⟩ := k_sub1 (oW g) hA G hG hs
  have hb : bc (lfG g G) 4 ≠ 0 := fun z => hl (bc_0 _ s2 z)
  have hb4 := bc_le (oW g) 4
  have s1 : bc G 4 + bc (lfG g G) 4 = bc (oW g) 4 := s1
  have eX : nX g G = bs (oA g (stG g G) (lfG g G)) (g 2) := by unfold nX; exact if_pos hs
  apply Nat.eq_of_testBit_eq
  intro p
  unfold nB
  rw [bs_bit, bs_bit, eX, bs_bit]
  unfold oB
  by_cases hp : p < g 2
  · rw [decide_eq_true (show p < 4 by omega), decide_eq_true hp, Bool.true_and, Bool.true_and, Bool.true_and]
    cases ha : oA g (stG g G) (lfG g G) p with
    | false => rfl
    | true =>
      have hlp : (lfG g G).testBit p = true := by
        unfold oA at ha
        rw [Bool.and_eq_true] at ha
        exact ha.1
      obtain ⟨u1, u2, u3⟩ := k_sub2 (oW g) hA G hG p (by omega) ⟨hs, hlp⟩
      obtain ⟨w1, w2, w3⟩ := k_or1 G hG p (by omega)
      have e : oV g (G ||| 2 ^ p) = oN g (3 - bc G 4) (oS g (stG g G) p) (oR (lfG g G) p) := by
        unfold oV
        rw [if_pos u1, (w3 u2).2, stG_s hW hG (by omega), show 4 - (bc G 4 + 1) = 3 - bc G 4 by omega]
        unfold lfG oR
        rw [u3]
      rw [e]
  · rw [decide_eq_false hp]; simp
theorem nB_0 (hG : G < 16) (hl : lfG g G = 0) : nB g G = 0 := by
  apply Nat.eq_of_testBit_eq
  intro p
  unfold nB
  rw [bs_bit]
  have : (nX g G).testBit p = false := by
    unfold nX
    split
    · rw [bs_bit, hl]
      unfold oA
      simp
    · simp
  rw [this]; simp
theorem oV_0 (hW : WG g) : oV g 0 = oN g 4 0 (oW g) ∧ stG g 0 = 0 ∧ lfG g 0 = oW g ∧ sub g 0 := by
  have e1 : stG g 0 = 0 := by
    refine dg_ext (stG_lt hW) (by decide) (fun p hp => ?_)
    rw [dg_stG hW (by decide) hp]
    unfold dg
    simp
  have e2 : lfG g 0 = oW g := k_slf _ (oW_lt hW.2.1)
  have e3 : sub g 0 := by unfold sub; simp
  refine ⟨?_, e1, e2, e3⟩
  unfold oV
  unfold sub at e3
  rw [if_pos e3, e1, e2]
  rfl
end
section
variable {i i' : Nat → Nat → Int32} {l l' : Nat → Nat → Int64} {q q' : Nat → Nat → Option Nat} {K : List (Nat × Nat)} {r m : Nat} {g : Nat → Nat} {ρ : Nat → Nat → Nat}
theorem y_next (d : Nat) {G : Nat} (hW : WG g) (hO : OD g 0 i) (hG : G < 16) : am_cl (d + 2) mX_nextInOrder [.ref 0, .int (nI G)] (i, l, rX q, kX K) = some (some (.int (nI (nB g G))), (i, l, rX q, kX K)) := by
  have hXl := nX_lt hW G
  obtain ⟨_, h41⟩ := hO G (by omega) hG
  rw [c_X_nextInOrder, b_X_nextInOrder_0]
  refine am_loop (d := d + 1) (y := mX_nextInOrder) (pc := 4) (fun k ls s => ls = [.val (.ref 0), .val (.int (nI G)), .val (.int (nI (bs (fun p => (nX g G).testBit p && decide (0 < oV g (G ||| 2 ^ p))) k))), .val (.int (nI k))] ∧ s = (i, l, rX q, kX K)) 4 (fun rs => rs = some (some (.int (nI (nB g G))), (i, l, rX q, kX K))) (fun k ls s hk hI => ?_) (fun ls s hI => ?_) ⟨rfl, rfl⟩
  · obtain ⟨e1, e2⟩ := hI
    subst e1; subst e2
    have hh := s_X_hasBit' d (a := nX g G) (k := k) (by omega) (by omega) (i, l, rX q, kX K)
    rw [b_X_nextInOrder_4]
    cases hb : (nX g G).testBit k with
    | false =>
      rw [hb] at hh
      simp (disch := first | assumption | omega) only [b_X_nextInOrder_0, b_X_nextInOrder_28, b_X_nextInOrder_53, ↓Bool.cond_decide, ↓q_in, q_le, q_lt, q_eq, q_leT, q_leF, q_ltT, q_ltF, q_eqT, q_eqF, ↓reduceIte, not_true_eq_false, not_false_eq_true, true_and, and_true, and_self, false_and, and_false, Nat.zero_le, am_bd_some, q_app, q_app0, nI_add, pk_sub, pk_mul, q_dec, q_ix, q_m1, q_m1', ↓q_ret, q_bool, q_bool1, q_u2, q_u1, q_shl1, q_shr, q_and7, q_dg, fa_or, fa_and, decide_true, decide_false, Bool.or_false, Bool.or_true, Bool.true_or, Bool.false_or, cond_true, cond_false, ite_not, q_some, q_nn, q_xor, q_xorm, Bool.false_eq_true, decide_eq_true_eq, ne_eq, l_0, l_1, l_4, l_5, l_7, l_16, l_18, l_22, l_28, l_31, l_40, l_41, l_53, h41, hh]
      refine Go_in ⟨?_, rfl⟩
      rw [bs, hb]; simp
    | true =>
      rw [hb] at hh
      obtain ⟨w1, w2, w3, w4, w5⟩ := nX_bit hW hG hb
      have h40 := (hO (G ||| 2 ^ k) (by omega) w5).1
      have hle := oV_le hW (G ||| 2 ^ k)
      by_cases c : 0 < oV g (G ||| 2 ^ k)
      · simp (disch := first | assumption | omega) only [b_X_nextInOrder_0, b_X_nextInOrder_28, b_X_nextInOrder_53, ↓Bool.cond_decide, ↓q_in, q_le, q_lt, q_eq, q_leT, q_leF, q_ltT, q_ltF, q_eqT, q_eqF, ↓reduceIte, not_true_eq_false, not_false_eq_true, true_and, and_true, and_self, false_and, and_false, Nat.zero_le, am_bd_some, q_app, q_app0, nI_add, pk_sub, pk_mul, q_dec, q_ix, q_m1, q_m1', ↓q_ret, q_bool, q_bool1, q_u2, q_u1, q_shl1, q_shr, q_and7, q_dg, fa_or, fa_and, decide_true, decide_false, Bool.or_false, Bool.or_true, Bool.true_or, Bool.false_or, cond_true, cond_false, ite_not, q_some, q_nn, q_xor, q_xorm, Bool.false_eq_true, decide_eq_true_eq, ne_eq, l_0, l_1, l_4, l_5, l_7, l_16, l_18, l_22, l_28, l_31, l_40, l_41, l_53, h41, hh, h40]
        refine Go_in ⟨?_, rfl⟩
        rw [bs, hb, decide_eq_true c]; rfl
      · have c0 : oV g (G ||| 2 ^ k) = 0 := by omega
        rw [c0] at h40
        simp (disch := first | assumption | omega) only [b_X_nextInOrder_0, b_X_nextInOrder_28, b_X_nextInOrder_53, ↓Bool.cond_decide, ↓q_in, q_le, q_lt, q_eq, q_leT, q_leF, q_ltT, q_ltF, q_eqT, q_eqF, ↓reduceIte, not_true_eq_false, not_false_eq_true, true_and, and_true, and_self, false_and, and_false, Nat.zero_le, am_bd_some, q_app, q_app0, nI_add, pk_sub, pk_mul, q_dec, q_ix, q_m1, q_m1', ↓q_ret, q_bool, q_bool1, q_u2, q_u1, q_shl1, q_shr, q_and7, q_dg, fa_or, fa_and, decide_true, decide_false, Bool.or_false, Bool.or_true, Bool.true_or, Bool.false_or, cond_true, cond_false, ite_not, q_some, q_nn, q_xor, q_xorm, Bool.false_eq_true, decide_eq_true_eq, ne_eq, l_0, l_1, l_4, l_5, l_7, l_16, l_18, l_22, l_28, l_31, l_40, l_41, l_53, h41, hh, h40]
        refine Go_in ⟨?_, rfl⟩
        rw [bs, hb, decide_eq_false c]; simp
  · obtain ⟨e1, e2⟩ := hI
    subst e1; subst e2
    rw [b_X_nextInOrder_4]
    simp (disch := first | assumption | omega) only [b_X_nextInOrder_0, b_X_nextInOrder_28, b_X_nextInOrder_53, s_X_hasBit, s_X_hasBit', ↓Bool.cond_decide, ↓q_in, q_le, q_lt, q_eq, q_leT, q_leF, q_ltT, q_ltF, q_eqT, q_eqF, ↓reduceIte, not_true_eq_false, not_false_eq_true, true_and, and_true, and_self, false_and, and_false, Nat.zero_le, am_bd_some, q_app, q_app0, nI_add, pk_sub, pk_mul, q_dec, q_ix, q_m1, q_m1', ↓q_ret, q_bool, q_bool1, q_u2, q_u1, q_shl1, q_shr, q_and7, q_dg, fa_or, fa_and, decide_true, decide_false, Bool.or_false, Bool.or_true, Bool.true_or, Bool.false_or, cond_true, cond_false, ite_not, q_some, q_nn, q_xor, q_xorm, Bool.false_eq_true, decide_eq_true_eq, ne_eq, l_0, l_1, l_4, l_5, l_7, l_16, l_18, l_22, l_28, l_31, l_40, l_41, l_53]
    rfl
theorem y_X_orders (d : Nat) (hC : CV ρ r g m i l q K) (hF : XF ρ i l q K) : YR ρ K i l q (some (.int (v_orders g))) (am_cl (d + 7) mX_orders [.ref 0] (i, l, rX q, kX K)) := by
  obtain ⟨i1, l1, q1, e1, hf1, hF1, hO1⟩ := y_countOrders d hC hF
  rw [c_X_orders, b_X_orders_0, e1, am_bd_some, q_app, b_X_orders_4, (oV_0 hC.2.2.1).1]
  exact YR_some hf1 hF1
theorem y_X_firsts (d : Nat) (hC : CV ρ r g m i l q K) (hF : XF ρ i l q K) : YR ρ K i l q (some (.int (v_firsts g))) (am_cl (d + 7) mX_firsts [.ref 0] (i, l, rX q, kX K)) := by
  have hW := hC.2.2.1
  obtain ⟨i1, l1, q1, e1, hf1, hF1, hO1⟩ := y_countOrders d hC hF
  obtain ⟨z1, z2, z3, z4⟩ := oV_0 hW
  have hle := oV_le hW 0
  have hnx := y_next (i := i1) (l := l1) (q := q1) (K := K) (d + 4) (G := 0) hW hO1 (by decide)
  have ev : v_firsts g = nI (if oV g 0 = 0 then 0 else nB g 0) := by
    unfold v_firsts oF
    congr 1
    rw [if_neg (by decide)]
    dsimp only
    by_cases hl : oW g = 0
    · rw [if_pos hl, nB_0 (by decide) (by rw [z3]; exact hl)]
      simp
    · rw [if_neg hl]
      have e := nB_e hW (G := 0) (by decide) z4 (by rw [z3]; exact hl)
      rw [z2, z3] at e
      by_cases c : oV g 0 = 0
      · rw [if_pos c]
        rw [z1, oN, if_neg hl] at c
        apply Classical.byContradiction
        intro hne
        obtain ⟨p, hp, hb⟩ := bs_0 hne
        unfold oB at hb
        rw [Bool.and_eq_true, decide_eq_true_eq] at hb
        have := sSum_ge (f := fun p => if oA g 0 (oW g) p = true then oN g 3 (oS g 0 p) (oR (oW g) p) else 0) hp
        rw [if_pos hb.1] at this
        omega
      · rw [if_neg c, e]; rfl
  rw [c_X_firsts, b_X_firsts_0, e1, am_bd_some, q_app, b_X_firsts_4, ev]
  by_cases c : oV g 0 = 0
  · rw [if_pos c, c, show decide (¬ nI 0 = (0 : Int32)) = false from rfl, cond_false, b_X_firsts_16]
    exact YR_some hf1 hF1
  · rw [if_neg c, decide_eq_true (show ¬ nI (oV g 0) = (0 : Int32) from by
      show ¬ nI (oV g 0) = nI 0
      rw [q_eq (by omega) (by omega)]; exact c), cond_true]
    have hnx' : am_cl (d + 6) mX_nextInOrder [.ref 0, .int 0] (i1, l1, rX q1, kX K) = _ := hnx
    rw [hnx', am_bd_some, q_app, b_X_firsts_16]
    exact YR_some hf1 hF1
theorem y_X_order (d : Nat) (x : Int32) (hC : CV ρ r g m i l q K) (hF : XF ρ i l q K) : YR ρ K i l q (some (.int (v_order g x))) (am_cl (d + 7) mX_order [.ref 0, .int x] (i, l, rX q, kX K)) := by
  have hW := hC.2.2.1
  have h2 := hW.2.1
  have hA := oW_lt (g := g) h2
  rw [c_X_order, b_X_order_0, v_order]
  by_cases hx : nI 0 ≤ x
  · rw [if_pos hx, decide_eq_true (show (0 : Int32) ≤ x from hx), cond_true]
    obtain ⟨n, hn, rfl⟩ : ∃ n, n < 2147483648 ∧ x = nI n := by
      refine ⟨x.toInt.toNat, ?_, ?_⟩
      · have := Int32.toInt_lt x
        rw [fa_le, nI_toInt (by decide)] at hx
        omega
      · rw [fa_le, nI_toInt (by decide)] at hx
        have := Int32.toInt_lt x
        rw [fa_eq, nI_toInt (by omega)]
        omega
    rw [nI_clamp hn]
    obtain ⟨i1, l1, q1, e1, hf1, hF1, hO1⟩ := y_countOrders d hC hF
    obtain ⟨z1, z2, z3, z4⟩ := oV_0 hW
    have hle := oV_le hW 0
    have hr1 : rX q1 0 2 = some r := (CV_ff hf1 hC).1
    have hV1 := (CV_ff hf1 hC).2.1
    have hk : Nat.beq (am_kd (i1, l1, rX q1, kX K) r) 6 = true := by rw [hV1.2.1]; rfl
    have hp1 : i1 r 1 = nI (g 2) := hV1.2.2.2.1
    have hWP : oW g < 2 ^ g 2 := by
      unfold oW
      exact Nat.or_lt_two_pow (bs_lt _ _) (bs_lt _ _)
    have hbW := k_bcP (oW g) hA (g 2) (by omega) hWP
    rw [e1, am_bd_some, q_app, b_X_order_11]
    by_cases c : oV g 0 = 0
    · rw [c, show decide (¬ nI 0 = (0 : Int32)) = false from rfl, cond_false]
      rw [if_neg (fun z => by rw [← z1] at z; omega)]
      exact YR_some hf1 hF1
    · rw [decide_eq_true (show ¬ nI (oV g 0) = (0 : Int32) from by
        show ¬ nI (oV g 0) = nI 0
        rw [q_eq (by omega) (by omega)]; exact c), cond_true]
      have loop : ∀ f t G z4, G < 16 → sub g G → bc G 4 = t → t + f = 4 → 0 < oV g G → t ≤ n → YR ρ K i l q (some (.int (if n - t < bc (lfG g G) 4 then nI ((oL g f (stG g G) (lfG g G)).getD (n - t) 0) else -nI 1))) (am_Ex (d + 6) mX_order 20 [.val (.ref 0), .val (.int (nI n)), .val (.int (nI G)), .val (.int (nI t)), z4] [] (i1, l1, rX q1, kX K)) := by
        intro f
        induction f with
        | zero =>
          intro t G z4 hG hs hb ht h0 htn
          obtain ⟨s1, s2, s3⟩ := k_sub1 (oW g) hA G hG hs
          have s1 : bc G 4 + bc (lfG g G) 4 = bc (oW g) 4 := s1
          rw [if_neg (by omega), b_X_order_20]
          simp (disch := first | assumption | omega) only [b_X_order_0, b_X_order_11, b_X_order_36, b_X_order_39, b_X_order_52, s_X_firstBit, ↓Bool.cond_decide, ↓q_in, q_le, q_lt, q_eq, q_leT, q_leF, q_ltT, q_ltF, q_eqT, q_eqF, ↓reduceIte, not_true_eq_false, not_false_eq_true, true_and, and_true, and_self, false_and, and_false, Nat.zero_le, am_bd_some, q_app, q_app0, nI_add, pk_sub, pk_mul, q_dec, q_ix, q_m1, q_m1', ↓q_ret, q_bool, q_bool1, q_u2, q_u1, q_shl1, q_shr, q_and7, q_dg, fa_or, fa_and, decide_true, decide_false, Bool.or_false, Bool.or_true, Bool.true_or, Bool.false_or, cond_true, cond_false, ite_not, q_some, q_nn, q_xor, q_xorm, Bool.false_eq_true, decide_eq_true_eq, ne_eq, l_0, l_1, l_2, l_3, l_4, l_6, l_8, l_10, l_11, l_13, l_20, l_31, l_36, l_39, l_52, hr1, hk, hp1, cond_true]
          exact YR_some hf1 hF1
        | succ f ih =>
          intro t G z4 hG hs hb ht h0 htn
          obtain ⟨s1, s2, s3⟩ := k_sub1 (oW g) hA G hG hs
          have s1 : bc G 4 + bc (lfG g G) 4 = bc (oW g) 4 := s1
          have s2 : lfG g G < 16 := s2
          have hnx := y_next (i := i1) (l := l1) (q := q1) (K := K) (d + 4) (G := G) hW hO1 hG
          have hfb := s_X_firstBit (i := i1) (l := l1) (q := rX q1) (K := kX K) (d + 4) (x := nB g G) nB_lt
          rw [b_X_order_20]
          by_cases hl : lfG g G = 0
          · have hb0 : bc (lfG g G) 4 = 0 := by rw [hl]; rfl
            rw [if_neg (by omega)]
            rw [nB_0 hG hl] at hnx hfb
            have hf0 : vW (ff (fun p => (0 : Nat).testBit p) 4 0) = -nI 1 := by decide
            rw [hf0] at hfb
            by_cases ct : g 2 ≤ t
            · simp (disch := first | assumption | omega) only [b_X_order_0, b_X_order_11, b_X_order_36, b_X_order_39, b_X_order_52, s_X_firstBit, ↓Bool.cond_decide, ↓q_in, q_le, q_lt, q_eq, q_leT, q_leF, q_ltT, q_ltF, q_eqT, q_eqF, ↓reduceIte, not_true_eq_false, not_false_eq_true, true_and, and_true, and_self, false_and, and_false, Nat.zero_le, am_bd_some, q_app, q_app0, nI_add, pk_sub, pk_mul, q_dec, q_ix, q_m1, q_m1', ↓q_ret, q_bool, q_bool1, q_u2, q_u1, q_shl1, q_shr, q_and7, q_dg, fa_or, fa_and, decide_true, decide_false, Bool.or_false, Bool.or_true, Bool.true_or, Bool.false_or, cond_true, cond_false, ite_not, q_some, q_nn, q_xor, q_xorm, Bool.false_eq_true, decide_eq_true_eq, ne_eq, l_0, l_1, l_2, l_3, l_4, l_6, l_8, l_10, l_11, l_13, l_20, l_31, l_36, l_39, l_52, hr1, hk, hp1, cond_true]
              exact YR_some hf1 hF1
            · by_cases cn : t = n
              · subst cn
                simp (disch := first | assumption | omega) only [b_X_order_0, b_X_order_11, b_X_order_36, b_X_order_39, b_X_order_52, ↓Bool.cond_decide, ↓q_in, q_le, q_lt, q_eq, q_leT, q_leF, q_ltT, q_ltF, q_eqT, q_eqF, ↓reduceIte, not_true_eq_false, not_false_eq_true, true_and, and_true, and_self, false_and, and_false, Nat.zero_le, am_bd_some, q_app, q_app0, nI_add, pk_sub, pk_mul, q_dec, q_ix, q_m1, q_m1', ↓q_ret, q_bool, q_bool1, q_u2, q_u1, q_shl1, q_shr, q_and7, q_dg, fa_or, fa_and, decide_true, decide_false, Bool.or_false, Bool.or_true, Bool.true_or, Bool.false_or, cond_true, cond_false, ite_not, q_some, q_nn, q_xor, q_xorm, Bool.false_eq_true, decide_eq_true_eq, ne_eq, l_0, l_1, l_2, l_3, l_4, l_6, l_8, l_10, l_11, l_13, l_20, l_31, l_36, l_39, l_52, hr1, hk, hp1, hnx, hfb, cond_true]
                exact YR_some hf1 hF1
              · simp (disch := first | assumption | omega) only [b_X_order_0, b_X_order_11, b_X_order_36, b_X_order_39, b_X_order_52, ↓Bool.cond_decide, ↓q_in, q_le, q_lt, q_eq, q_leT, q_leF, q_ltT, q_ltF, q_eqT, q_eqF, ↓reduceIte, not_true_eq_false, not_false_eq_true, true_and, and_true, and_self, false_and, and_false, Nat.zero_le, am_bd_some, q_app, q_app0, nI_add, pk_sub, pk_mul, q_dec, q_ix, q_m1, q_m1', ↓q_ret, q_bool, q_bool1, q_u2, q_u1, q_shl1, q_shr, q_and7, q_dg, fa_or, fa_and, decide_true, decide_false, Bool.or_false, Bool.or_true, Bool.true_or, Bool.false_or, cond_true, cond_false, ite_not, q_some, q_nn, q_xor, q_xorm, Bool.false_eq_true, decide_eq_true_eq, ne_eq, l_0, l_1, l_2, l_3, l_4, l_6, l_8, l_10, l_11, l_13, l_20, l_31, l_36, l_39, l_52, hr1, hk, hp1, hnx, hfb, cn, cond_true]
                exact YR_some hf1 hF1
          · have hb0 : bc (lfG g G) 4 ≠ 0 := fun z => hl (bc_0 _ s2 z)
            have hoV : oV g G = oN g (f + 1) (stG g G) (lfG g G) := by
              unfold oV
              unfold sub at hs
              rw [if_pos hs, show 4 - bc G 4 = f + 1 by omega]
            have h0' := h0
            rw [hoV] at h0'
            obtain ⟨p, hp⟩ := oN_ff hl h0'
            obtain ⟨_, p2, p3, _⟩ := ff_some hp
            have hnB := nB_e hW hG hs hl
            rw [show 3 - bc G 4 = f by omega] at hnB
            have hfp : ff (fun p => (nB g G).testBit p) 4 0 = some p := by
              rw [hnB, ff_bs h2]; exact hp
            rw [hfp] at hfb
            have hfb : am_cl (d + 6) mX_firstBit [.int (nI (nB g G))] (i1, l1, rX q1, kX K) = some (some (.int (nI p)), (i1, l1, rX q1, kX K)) := hfb
            have hp4 : p < 4 := by omega
            have hbit : (nB g G).testBit p = true := by rw [hnB, bs_bit, decide_eq_true (by omega), p3]; rfl
            unfold nB at hbit
            rw [bs_bit, decide_eq_true hp4, Bool.true_and, Bool.and_eq_true, decide_eq_true_eq] at hbit
            obtain ⟨w1, w2, w3, w4, w5⟩ := nX_bit hW hG hbit.1
            have hlp : (lfG g G).testBit p = true := by
              unfold oA at w3
              rw [Bool.and_eq_true] at w3
              exact w3.1
            obtain ⟨u1, u2, u3⟩ := k_sub2 (oW g) hA G hG p hp4 ⟨hs, hlp⟩
            obtain ⟨v1, v2, v3⟩ := k_or1 G hG p hp4
            have eL : oL g (f + 1) (stG g G) (lfG g G) = p :: oL g f (stG g (G ||| 2 ^ p)) (lfG g (G ||| 2 ^ p)) := by
              rw [oL, if_neg hl, hp, stG_s hW hG hp4]
              unfold lfG oR
              rw [u3]
            rw [eL]
            by_cases cn : t = n
            · subst cn
              rw [Nat.sub_self, if_pos (by omega)]
              simp (disch := first | assumption | omega) only [b_X_order_0, b_X_order_11, b_X_order_36, b_X_order_39, b_X_order_52, ↓Bool.cond_decide, ↓q_in, q_le, q_lt, q_eq, q_leT, q_leF, q_ltT, q_ltF, q_eqT, q_eqF, ↓reduceIte, not_true_eq_false, not_false_eq_true, true_and, and_true, and_self, false_and, and_false, Nat.zero_le, am_bd_some, q_app, q_app0, nI_add, pk_sub, pk_mul, q_dec, q_ix, q_m1, q_m1', ↓q_ret, q_bool, q_bool1, q_u2, q_u1, q_shl1, q_shr, q_and7, q_dg, fa_or, fa_and, decide_true, decide_false, Bool.or_false, Bool.or_true, Bool.true_or, Bool.false_or, cond_true, cond_false, ite_not, q_some, q_nn, q_xor, q_xorm, Bool.false_eq_true, decide_eq_true_eq, ne_eq, l_0, l_1, l_2, l_3, l_4, l_6, l_8, l_10, l_11, l_13, l_20, l_31, l_36, l_39, l_52, hr1, hk, hp1, hnx, hfb, cond_true]
              exact YR_some hf1 hF1
            · have hih := ih (t + 1) (G ||| 2 ^ p) (.val (.int (nI p))) v1 u1 (by rw [(v3 u2).2, hb]) (by omega) hbit.2 (by omega)
              have hbl : bc (lfG g (G ||| 2 ^ p)) 4 + 1 = bc (lfG g G) 4 := by
                have := oR_ok (lfG g G) s2 p hp4
                rw [hlp, if_pos rfl] at this
                have e : lfG g (G ||| 2 ^ p) = oR (lfG g G) p := by unfold lfG oR; rw [u3]
                rw [e]; exact this.1
              obtain ⟨e, he⟩ : ∃ e, n - t = e + 1 := ⟨n - t - 1, by omega⟩
              rw [show n - (t + 1) = e by omega] at hih
              rw [he, List.getD_cons_succ]
              have hcond : (e + 1 < bc (lfG g G) 4) ↔ e < bc (lfG g (G ||| 2 ^ p)) 4 := by omega
              simp only [hcond]
              simp (disch := first | assumption | omega) only [b_X_order_0, b_X_order_11, b_X_order_36, b_X_order_39, b_X_order_52, ↓Bool.cond_decide, ↓q_in, q_le, q_lt, q_eq, q_leT, q_leF, q_ltT, q_ltF, q_eqT, q_eqF, ↓reduceIte, not_true_eq_false, not_false_eq_true, true_and, and_true, and_self, false_and, and_false, Nat.zero_le, am_bd_some, q_app, q_app0, nI_add, pk_sub, pk_mul, q_dec, q_ix, q_m1, q_m1', ↓q_ret, q_bool, q_bool1, q_u2, q_u1, q_shl1, q_shr, q_and7, q_dg, fa_or, fa_and, decide_true, decide_false, Bool.or_false, Bool.or_true, Bool.true_or, Bool.false_or, cond_true, cond_false, ite_not, q_some, q_nn, q_xor, q_xorm, Bool.false_eq_true, decide_eq_true_eq, ne_eq, l_0, l_1, l_2, l_3, l_4, l_6, l_8, l_10, l_11, l_13, l_20, l_31, l_36, l_39, l_52, hr1, hk, hp1, hnx, hfb, cn, cond_true]
              exact hih
      have := loop 4 0 0 .unset (by decide) z4 rfl rfl (by omega) (by omega)
      rw [z2, z3, Nat.sub_zero] at this
      rw [z1] at c
      have ec : (0 < oN g 4 0 (oW g) ∧ n < bc (oW g) 4) ↔ n < bc (oW g) 4 := ⟨fun z => z.2, fun z => ⟨by omega, z⟩⟩
      simp only [ec]
      exact this
  · rw [if_neg hx, decide_eq_false (show ¬ (0 : Int32) ≤ x from hx), cond_false]
    exact YR_0 hF
end
