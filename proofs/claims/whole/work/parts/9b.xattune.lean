/-! THE CLASS: rows filled; references and cells that change; the ford at a moment -/
theorem or_cond (c : Bool) (x y z : Option Nat) : Option.or (cond c x y) z = cond c (Option.or x z) (Option.or y z) := by cases c <;> rfl
theorem rX_or (q : Nat → Nat → Option Nat) (b j : Nat) : rX q b j = Option.or (rX (fun _ _ => none) b j) (q b j) := by
  unfold rX
  simp only [or_cond, Option.some_or, Option.none_or]
theorem rX_u2 (q : Nat → Nat → Option Nat) {a k : Nat} (v : Option Nat) (h : rX (fun _ _ => none) a k = none) : am_u2 (rX q) a k v = rX (am_u2 q a k v) := by
  funext b j
  rw [rX_or (am_u2 q a k v)]
  unfold am_u2
  by_cases hb : b = a
  · subst hb
    by_cases hj : j = k
    · subst hj
      rw [if_pos rfl, if_pos rfl, h]; simp
    · rw [if_pos rfl, if_neg hj, if_pos rfl, if_neg hj]; exact rX_or q b j
  · rw [if_neg hb, if_neg hb]; exact rX_or q b j
theorem blt_f {a n : Nat} (h : n ≤ a) : Nat.blt a n = false := by
  cases hb : Nat.blt a n with
  | false => rfl
  | true => exact absurd (Nat.le_of_ble_eq_true hb) (by omega)
theorem beq_f {a n : Nat} (h : a ≠ n) : Nat.beq a n = false := by
  cases hb : Nat.beq a n with
  | false => rfl
  | true => exact absurd (Nat.eq_of_beq_eq_true hb) h
theorem rX_hi (q : Nat → Nat → Option Nat) {a : Nat} (h : 58 ≤ a) (k : Nat) : rX q a k = q a k := by
  unfold rX
  rw [blt_f (n := 30) (by omega), blt_f (n := 50) (by omega), blt_f (n := 54) (by omega), blt_f (n := 56) (by omega), beq_f (n := 56) (by omega)]
  rfl
theorem rX_u1 (q : Nat → Nat → Option Nat) {a : Nat} (f : Nat → Option Nat) (h : 58 ≤ a) : am_u1 (rX q) a f = rX (am_u1 q a f) := by
  funext b j
  by_cases hb : b = a
  · subst hb
    rw [rX_hi _ h]
    simp [am_u1]
  · rw [rX_or (am_u1 q a f)]
    unfold am_u1
    rw [if_neg hb, if_neg hb]; exact rX_or q b j
theorem kX_len (K : List (Nat × Nat)) : (kX K).length = 58 + K.length := by
  unfold kX
  rw [List.length_append]; rfl
theorem kX_app (K : List (Nat × Nat)) (x : Nat × Nat) : kX K ++ [x] = kX (K ++ [x]) := by
  unfold kX
  rw [List.append_assoc]
theorem kd_app {i i' : Nat → Nat → Int32} {l l' : Nat → Nat → Int64} {q q' : Nat → Nat → Option Nat} {K L : List (Nat × Nat)} {c : Nat} (h : c < K.length) : am_kd (i', l', q', K ++ L) c = am_kd (i, l, q, K) c ∧ am_ln (i', l', q', K ++ L) c = am_ln (i, l, q, K) c := by
  unfold am_kd am_ln
  dsimp only
  rw [List.getElem?_append_left h]
  exact ⟨rfl, rfl⟩
theorem kd_lt {i : Nat → Nat → Int32} {l : Nat → Nat → Int64} {q : Nat → Nat → Option Nat} {K : List (Nat × Nat)} {c n : Nat} (h : am_kd (i, l, q, K) c = n) (hn : n < 999) : c < K.length := by
  apply Classical.byContradiction
  intro z
  unfold am_kd at h
  dsimp only at h
  rw [List.getElem?_eq_none (by omega)] at h
  dsimp only at h
  omega
section
variable {i : Nat → Nat → Int32} {l : Nat → Nat → Int64} {q : Nat → Nat → Option Nat} {K : List (Nat × Nat)} {r : Nat}
theorem s_J_fill (d : Nat) {r0 n : Nat} (v : Int32) (hk : am_kd (i, l, q, K) r0 = 100) (hn : am_ln (i, l, q, K) r0 = n) (hn2 : n ≤ 100000) : am_cl (d + 1) mJ_fill [.ref r0, .int v] (i, l, q, K) = some (none, (am_u1 i r0 (fun k => if k < n then v else i r0 k), l, q, K)) := by
  have k5 : ∀ i' x, (Nat.beq (am_kd (i', l, q, K) r0) 100 && am_in x (am_ln (i', l, q, K) r0)) = am_in x n := fun i' x => by
    rw [show am_kd (i', l, q, K) r0 = 100 from hk, show am_ln (i', l, q, K) r0 = n from hn]; rfl
  rw [c_J_fill, b_J_fill_0, hk, hn]
  show (fun rr => rr = some (none, (am_u1 i r0 (fun k => if k < n then v else i r0 k), l, q, K))) (am_Ex d mJ_fill 5 [.val (.ref r0), .val (.int v), .val (.int (nI 0)), .val (.int (nI n))] [] (i, l, q, K))
  refine am_loop (d := d) (y := mJ_fill) (pc := 5) (fun k ls s => ls = [.val (.ref r0), .val (.int v), .val (.int (nI k)), .val (.int (nI n))] ∧ s = (am_u1 i r0 (fun j => if j < k then v else i r0 j), l, q, K)) n (fun rr => rr = some (none, (am_u1 i r0 (fun k => if k < n then v else i r0 k), l, q, K))) (fun k ls s hk2 hI => ?_) (fun ls s hI => ?_) ⟨rfl, ?_⟩
  · obtain ⟨e1, e2⟩ := hI
    subst e1; subst e2
    rw [b_J_fill_5]
    simp (disch := first | assumption | omega) only [b_J_fill_0, ↓Bool.cond_decide, ↓q_in, q_le, q_lt, q_eq, q_leT, q_leF, q_ltT, q_ltF, q_eqT, q_eqF, ↓reduceIte, not_true_eq_false, not_false_eq_true, true_and, and_true, and_self, false_and, and_false, Nat.zero_le, am_bd_some, q_app, q_app0, nI_add, pk_sub, pk_mul, q_dec, q_ix, q_m1, q_m1', ↓q_ret, q_bool, q_bool1, q_u1, q_shl1, q_shr, q_and7, q_dg, fa_or, fa_and, decide_true, decide_false, Bool.or_false, Bool.or_true, Bool.true_or, Bool.false_or, cond_true, cond_false, ite_not, q_some, q_nn, q_xor, q_xorm, Bool.false_eq_true, decide_eq_true_eq, ne_eq, l_0, l_1, l_5, l_8, l_13, l_100, l_105, k5, q_u21]
    refine Go_in ⟨rfl, ?_⟩
    congr 2
    funext j
    by_cases c1 : j = k
    · rw [if_pos c1, if_pos (by omega)]
    · rw [if_neg c1]
      by_cases c2 : j < k
      · rw [if_pos c2, if_pos (by omega)]
      · rw [if_neg c2, if_neg (by omega)]
  · obtain ⟨e1, e2⟩ := hI
    subst e1; subst e2
    rw [b_J_fill_5]
    simp (disch := first | assumption | omega) only [b_J_fill_0, ↓Bool.cond_decide, ↓q_in, q_le, q_lt, q_eq, q_leT, q_leF, q_ltT, q_ltF, q_eqT, q_eqF, ↓reduceIte, not_true_eq_false, not_false_eq_true, true_and, and_true, and_self, false_and, and_false, Nat.zero_le, am_bd_some, q_app, q_app0, nI_add, pk_sub, pk_mul, q_dec, q_ix, q_m1, q_m1', ↓q_ret, q_bool, q_bool1, q_u2, q_u1, q_shl1, q_shr, q_and7, q_dg, fa_or, fa_and, decide_true, decide_false, Bool.or_false, Bool.or_true, Bool.true_or, Bool.false_or, cond_true, cond_false, ite_not, q_some, q_nn, q_xor, q_xorm, Bool.false_eq_true, decide_eq_true_eq, ne_eq, l_0, l_1, l_5, l_8, l_13, l_100, l_105, k5]
  · simp only [Nat.not_lt_zero, if_false]
    rw [q_u11]
theorem s_J_fillL (d : Nat) {r0 n : Nat} (v : Int64) (hk : am_kd (i, l, q, K) r0 = 101) (hn : am_ln (i, l, q, K) r0 = n) (hn2 : n ≤ 100000) : am_cl (d + 1) mJ_fillL [.ref r0, .long v] (i, l, q, K) = some (none, (i, am_u1 l r0 (fun k => if k < n then v else l r0 k), q, K)) := by
  have k5 : ∀ l' x, (Nat.beq (am_kd (i, l', q, K) r0) 101 && am_in x (am_ln (i, l', q, K) r0)) = am_in x n := fun l' x => by
    rw [show am_kd (i, l', q, K) r0 = 101 from hk, show am_ln (i, l', q, K) r0 = n from hn]; rfl
  rw [c_J_fillL, b_J_fillL_0, hk, hn]
  show (fun rr => rr = some (none, (i, am_u1 l r0 (fun k => if k < n then v else l r0 k), q, K))) (am_Ex d mJ_fillL 6 [.val (.ref r0), .val (.long v), am_k1 .second, .val (.int (nI 0)), .val (.int (nI n))] [] (i, l, q, K))
  refine am_loop (d := d) (y := mJ_fillL) (pc := 6) (fun k ls s => ∃ z, ls = [.val (.ref r0), .val (.long v), z, .val (.int (nI k)), .val (.int (nI n))] ∧ s = (i, am_u1 l r0 (fun j => if j < k then v else l r0 j), q, K)) n (fun rr => rr = some (none, (i, am_u1 l r0 (fun k => if k < n then v else l r0 k), q, K))) (fun k ls s hk2 hI => ?_) (fun ls s hI => ?_) ⟨_, rfl, ?_⟩
  · obtain ⟨z, e1, e2⟩ := hI
    subst e1; subst e2
    rw [b_J_fillL_6]
    simp (disch := first | assumption | omega) only [b_J_fillL_0, ↓Bool.cond_decide, ↓q_in, q_le, q_lt, q_eq, q_leT, q_leF, q_ltT, q_ltF, q_eqT, q_eqF, ↓reduceIte, not_true_eq_false, not_false_eq_true, true_and, and_true, and_self, false_and, and_false, Nat.zero_le, am_bd_some, q_app, q_app0, nI_add, pk_sub, pk_mul, q_dec, q_ix, q_m1, q_m1', ↓q_ret, q_bool, q_bool1, q_u1, q_shl1, q_shr, q_and7, q_dg, fa_or, fa_and, decide_true, decide_false, Bool.or_false, Bool.or_true, Bool.true_or, Bool.false_or, cond_true, cond_false, ite_not, q_some, q_nn, q_xor, q_xorm, Bool.false_eq_true, decide_eq_true_eq, ne_eq, l_0, l_1, l_6, l_8, l_13, l_100, l_101, l_105, k5, q_u21]
    refine Go_in ⟨_, rfl, ?_⟩
    congr 3
    funext j
    by_cases c1 : j = k
    · rw [if_pos c1, if_pos (by omega)]
    · rw [if_neg c1]
      by_cases c2 : j < k
      · rw [if_pos c2, if_pos (by omega)]
      · rw [if_neg c2, if_neg (by omega)]
  · obtain ⟨z, e1, e2⟩ := hI
    subst e1; subst e2
    rw [b_J_fillL_6]
    simp (disch := first | assumption | omega) only [b_J_fillL_0, ↓Bool.cond_decide, ↓q_in, q_le, q_lt, q_eq, q_leT, q_leF, q_ltT, q_ltF, q_eqT, q_eqF, ↓reduceIte, not_true_eq_false, not_false_eq_true, true_and, and_true, and_self, false_and, and_false, Nat.zero_le, am_bd_some, q_app, q_app0, nI_add, pk_sub, pk_mul, q_dec, q_ix, q_m1, q_m1', ↓q_ret, q_bool, q_bool1, q_u2, q_u1, q_shl1, q_shr, q_and7, q_dg, fa_or, fa_and, decide_true, decide_false, Bool.or_false, Bool.or_true, Bool.true_or, Bool.false_or, cond_true, cond_false, ite_not, q_some, q_nn, q_xor, q_xorm, Bool.false_eq_true, decide_eq_true_eq, ne_eq, l_0, l_1, l_6, l_8, l_13, l_100, l_101, l_105, k5]
  · simp only [Nat.not_lt_zero, if_false]
    rw [q_u11]
end
/-- rivers' parts are the same -/
def gE (g h : Nat → Nat) : Prop := ∀ j, j < 1074 → (j < 18 ∨ 173 ≤ j) → h j = g j
theorem evk_c {w w' : Nat → Int32} {c c' : Nat → Nat} : ∀ {n : Nat}, (∀ k, k < n → c' k = c k) → (∀ k, w' k = w k) → evk w' c' n = evk w c n
  | 0, _, _ => rfl
  | n + 1, h, hw => by
    rw [evk, evk, evk_c (fun k hk => h k (by omega)) hw, h n (by omega), show w' = w from funext hw]
theorem cdl_E {g h : Nat → Nat} {law : Nat} (hl : law < 2) (he : gE g h) (hL : LW g law) (ht : g (4 + law) ≠ 0) : ∀ k, k < g (8 + law) → cdl h law k = cdl g law k := by
  intro k hk
  have := (hL.2 ht).1
  unfold cdl
  rw [he (6 + law) (by omega) (by omega)]
  exact he _ (by omega) (by omega)
theorem sTrust_E {g h : Nat → Nat} {p k gap : Nat} (he : gE g h) (hL : LW g 1) (hp : p < 4) (hk : k < 4) (hs : ∀ p, p < 4 → h (22 + p) = g (22 + p)) : sTrust h p k gap = sTrust g p k gap := by
  unfold sTrust
  apply decide_eq_decide.mpr
  rw [he 5 (by decide) (by decide)]
  by_cases h5 : g 5 = 0
  · exact ⟨fun _ => Or.inl h5, fun _ => Or.inl h5⟩
  · have e : evk (wT h p k gap) (cdl h 1) (h 9) = evk (wT g p k gap) (cdl g 1) (g 9) := by
      rw [he 9 (by decide) (by decide)]
      refine evk_c (cdl_E (by decide) he hL h5) (fun t => ?_)
      unfold wT
      rw [hs p hp, hs k hk, he (14 + p) (by omega) (by omega), he (14 + k) (by omega) (by omega)]
    rw [e]
theorem sWould_E {g h : Nat → Nat} {p str x b w : Nat} (he : gE g h) (hL : LW g 0) (hd : h (25 + x) = g (25 + x)) : sWould h p str x b w = sWould g p str x b w := by
  unfold sWould
  rw [he 4 (by decide) (by decide)]
  by_cases h4 : g 4 = 0
  · rw [if_pos h4, if_pos h4]
  · rw [if_neg h4, if_neg h4]
    have e : evk (wH h p str x b w) (cdl h 0) (h 8) = evk (wH g p str x b w) (cdl g 0) (g 8) := by
      rw [he 8 (by decide) (by decide)]
      refine evk_c (cdl_E (by decide) he hL h4) (fun t => ?_)
      unfold wH
      rw [hd]
    rw [e]
theorem TV_E {i : Nat → Nat → Int32} {g h : Nat → Nat} (he : gE g h) (hL : LW g 1) (hs : ∀ p, p < 4 → h (22 + p) = g (22 + p)) (hT : TV i g) : TV i h := by
  intro h5 p k gap hp hk hg hb
  rw [he 5 (by decide) (by decide)] at h5
  rw [sTrust_E he hL hp hk hs]
  exact hT h5 p k gap hp hk hg hb
theorem HV_E {i : Nat → Nat → Int32} {g h : Nat → Nat} (he : gE g h) (hL : LW g 0) (hs : ∀ p, p < 4 → h (22 + p) = g (22 + p)) (hd : ∀ t, t < 6 → h (26 + t) = g (26 + t)) (hH : HV i g) : HV i h := by
  intro p x b w hp hx1 hx6 hb hw hbt
  have e := hd (x - 1) (by omega)
  rw [show 26 + (x - 1) = 25 + x by omega] at e
  rw [sWould_E he hL e, hs p hp]
  exact hH p x b w hp hx1 hx6 hb hw hbt
theorem x_xor (a b : Nat) : lN a ^^^ lN b = lN (a ^^^ b) := by
  apply x_ext
  intro j hj
  rw [Int64.toBitVec_xor, BitVec.getLsbD_xor, x_bit hj, x_bit hj, x_bit hj, Nat.testBit_xor]
theorem x_andL (a b : Nat) : lN a &&& lN b = lN (a &&& b) := by
  apply x_ext
  intro j hj
  rw [Int64.toBitVec_and, BitVec.getLsbD_and, x_bit hj, x_bit hj, x_bit hj, Nat.testBit_and]
theorem xor_f {a b s : Nat} (h : (a ^^^ b) / 2 ^ s = 0) (j : Nat) (hj : s ≤ j) : a.testBit j = b.testBit j := by
  have e := congrArg (fun x => Nat.testBit x (j - s)) h
  simp only [Nat.testBit_div_two_pow, Nat.zero_testBit] at e
  rw [show j - s + s = j by omega, Nat.testBit_xor] at e
  cases h1 : a.testBit j <;> cases h2 : b.testBit j <;> rw [h1, h2] at e <;> first | rfl | cases e
theorem xor_m {a b s k : Nat} (h : (a ^^^ b) / 2 ^ s % 2 ^ k = 0) (j : Nat) (hj : s ≤ j) (hj2 : j < s + k) : a.testBit j = b.testBit j := by
  have e := congrArg (fun x => Nat.testBit x (j - s)) h
  simp only [Nat.testBit_mod_two_pow, Nat.testBit_div_two_pow, Nat.zero_testBit] at e
  rw [show j - s + s = j by omega, Nat.testBit_xor, decide_eq_true (by omega), Bool.true_and] at e
  cases h1 : a.testBit j <;> cases h2 : b.testBit j <;> rw [h1, h2] at e <;> first | rfl | cases e
theorem fld_c {a b s k : Nat} (h : ∀ j, s ≤ j → j < s + k → a.testBit j = b.testBit j) : fld a s k = fld b s k := by
  apply Nat.eq_of_testBit_eq
  intro j
  rw [fld_bit, fld_bit]
  by_cases c : j < k
  · rw [h (j + s) (by omega) (by omega)]
  · rw [decide_eq_false c]; rfl
theorem lcmp0 {x : Nat} (hx : x < 9223372036854775808) : decide (lg_cmp (lN x) 0 = 0) = decide (x = 0) := by
  apply decide_eq_decide.mpr
  rw [k_cmp_eq]
  constructor
  · intro h
    have e := congrArg Int64.toInt h
    rw [pk_lT hx] at e
    have e2 : (0 : Int64).toInt = 0 := rfl
    omega
  · intro h
    rw [h]; rfl
section
variable {i : Nat → Nat → Int32} {l : Nat → Nat → Int64} {q : Nat → Nat → Option Nat} {K : List (Nat × Nat)} {r rf : Nat} {g gf : Nat → Nat}
theorem TV_0 {i : Nat → Nat → Int32} {g : Nat → Nat} (h : ∀ k, k < 16 → i 18 k = nI 0) : TV i g := by
  intro _ p k gap hp hk hg hb
  rw [h _ (by omega), x_nb (by decide)] at hb
  simp at hb
theorem HV_0 {i : Nat → Nat → Int32} {g : Nat → Nat} (h : ∀ k, k < 128 → i 20 k = nI 0) : HV i g := by
  intro p x b w hp hx1 hx6 hb hw hbt
  rw [h _ (by omega), x_nb (by decide)] at hbt
  simp at hbt
theorem r_Ford_attune (d : Nat) {m mf : Nat} (hkr : Nat.ble (am_kd (i, l, rX q, kX K) r) 105 = true) (hkf : Nat.ble (am_kd (i, l, rX q, kX K) rf) 105 = true) (hq : q 11 1 = some rf) (hmf : l 11 2 = lN mf) (hM : RM m (gCur g)) (hMf : RM mf (gCur gf)) (hL0 : LW gf 0) (hL1 : LW gf 1) (he : rf = r → gE gf g) (hT : TV i gf) (hH : HV i gf) : ∃ i', am_cl (d + 2) mFord_attune [.ref 11, .ref r, .long (lN m)] (i, l, rX q, kX K) = some (none, (i', am_u2 l 11 2 (lN m), rX (am_u2 q 11 1 (some r)), kX K)) ∧ Fr [18, 20] i i' ∧ TV i' g ∧ HV i' g := by
  have hq' : rX q 11 1 = some rf := hq
  have hxl : mf ^^^ m < 4503599627370496 := Nat.xor_lt_two_pow (n := 52) hMf.1 hM.1
  have e12 : (Int64.toUInt64 (lN mf ^^^ lN m) >>> ((Int32.toInt64 (12 : Int32)).toUInt64 &&& Int64.toUInt64 63)).toInt64 = lN ((mf ^^^ m) / 2 ^ 12) := by
    rw [x_xor]
    exact x_ushr (s := 12) (by omega) (by decide)
  have hdl : (mf ^^^ m) / 2 ^ 12 ≤ mf ^^^ m := Nat.div_le_self _ _
  have e65 : lN ((mf ^^^ m) / 2 ^ 12) &&& (65535 : Int64) = lN ((mf ^^^ m) / 2 ^ 12 % 2 ^ 16) := by
    rw [show (65535 : Int64) = lN (2 ^ 16 - 1) from rfl, x_andL, Nat.and_two_pow_sub_one_eq_mod]
  have hml : (mf ^^^ m) / 2 ^ 12 % 2 ^ 16 < 2 ^ 16 := Nat.mod_lt _ (by decide)
  have hstr : (mf ^^^ m) / 2 ^ 12 % 2 ^ 16 = 0 → ∀ p, p < 4 → g (22 + p) = gf (22 + p) := by
    intro h p hp
    have e1 : stm m p = g (22 + p) := by rw [hM.2.2.1 p hp]; unfold gCur; congr 1; omega
    have e2 : stm mf p = gf (22 + p) := by rw [hMf.2.2.1 p hp]; unfold gCur; congr 1; omega
    rw [← e1, ← e2, stm_fld, stm_fld]
    exact fld_c (fun j h1 h2 => (xor_m h j (by omega) (by omega)).symm)
  have hdep : (mf ^^^ m) / 2 ^ 12 = 0 → ∀ t, t < 6 → g (26 + t) = gf (26 + t) := by
    intro h t ht
    have e1 : dpm m t = g (26 + t) := by rw [hM.2.2.2 t ht]; unfold gCur; congr 1; omega
    have e2 : dpm mf t = gf (26 + t) := by rw [hMf.2.2.2 t ht]; unfold gCur; congr 1; omega
    rw [← e1, ← e2, dpm_fld, dpm_fld]
    exact fld_c (fun j h1 h2 => (xor_f h j (by omega)).symm)
  have hu : am_u2 (rX q) 11 1 (some r) = rX (am_u2 q 11 1 (some r)) := rX_u2 q _ rfl
  have f20 : ∀ (i : Nat → Nat → Int32) (l : Nat → Nat → Int64) (q : Nat → Nat → Option Nat), am_cl (d + 1) mJ_fill [.ref 20, .int 0] (i, l, rX q, kX K) = some (none, (am_u1 i 20 (fun k => if k < 128 then 0 else i 20 k), l, rX q, kX K)) := fun i l q => s_J_fill d 0 rfl rfl (by decide)
  have f18 : ∀ (i : Nat → Nat → Int32) (l : Nat → Nat → Int64) (q : Nat → Nat → Option Nat), am_cl (d + 1) mJ_fill [.ref 18, .int 0] (i, l, rX q, kX K) = some (none, (am_u1 i 18 (fun k => if k < 16 then 0 else i 18 k), l, rX q, kX K)) := fun i l q => s_J_fill d 0 rfl rfl (by decide)
  -- the second half
  have half : ∀ (o : Int32) i1 z1 z2 z3 z6, (o = nI 0 ∨ o = nI 1) → (o = nI 0 → rf = r) → Fr [18, 20] i i1 → i1 18 = i 18 → i1 19 = i 19 → HV i1 g → ∃ i', am_Ex (d + 1) mFord_attune 56 [.val (.ref 11), z1, z2, z3, .val (.int o), .val (.long (lN mf ^^^ lN m)), z6] [] (i1, am_u2 l 11 2 (lN m), rX (am_u2 q 11 1 (some r)), kX K) = some (none, (i', am_u2 l 11 2 (lN m), rX (am_u2 q 11 1 (some r)), kX K)) ∧ Fr [18, 20] i i' ∧ TV i' g ∧ HV i' g := by
    intro o i1 z1 z2 z3 z6 ho hor hf1 h18 h19 hH1
    have fill : ∃ i', am_Ex (d + 1) mFord_attune 75 [.val (.ref 11), z1, z2, z3, .val (.int o), .val (.long (lN mf ^^^ lN m)), z6] [] (i1, am_u2 l 11 2 (lN m), rX (am_u2 q 11 1 (some r)), kX K) = some (none, (i', am_u2 l 11 2 (lN m), rX (am_u2 q 11 1 (some r)), kX K)) ∧ Fr [18, 20] i i' ∧ TV i' g ∧ HV i' g := by
      rw [b_Ford_attune_75, f18, am_bd_some, q_app0, b_Ford_attune_83]
      exact ⟨_, rfl, Fr_u1 rfl hf1, TV_0 (fun k hk => if_pos hk), hH1⟩
    rw [b_Ford_attune_56, e12, e65, lcmp0 (by omega)]
    rcases ho with ho | ho
    · subst ho
      rw [show decide (¬ nI 0 = (0 : Int32)) = false from rfl, cond_false]
      by_cases c : (mf ^^^ m) / 2 ^ 12 % 2 ^ 16 = 0
      · rw [decide_eq_true c, cond_true, b_Ford_attune_83]
        refine ⟨_, rfl, hf1, ?_, hH1⟩
        have hT1 : TV i1 gf := by unfold TV at hT ⊢; rw [h18, h19]; exact hT
        exact TV_E (he (hor rfl)) hL1 (hstr c) hT1
      · rw [decide_eq_false c, cond_false]
        exact fill
    · subst ho
      rw [show decide (¬ nI 1 = (0 : Int32)) = true from rfl, cond_true]
      exact fill
  have first : ∀ o z3, (o = nI 0 ∨ o = nI 1) → (o = nI 0 → rf = r) → ∃ i', am_Ex (d + 1) mFord_attune 13 [.val (.ref 11), .val (.ref r), .val (.long (lN m)), z3, .unset, .unset, .unset] [.int o] (i, l, rX q, kX K) = some (none, (i', am_u2 l 11 2 (lN m), rX (am_u2 q 11 1 (some r)), kX K)) ∧ Fr [18, 20] i i' ∧ TV i' g ∧ HV i' g := by
    intro o z3 ho hor
    have fill : ∃ i', am_Ex (d + 1) mFord_attune 48 [.val (.ref 11), .val (.ref r), .val (.long (lN m)), am_k1 z3, .val (.int o), .val (.long (lN mf ^^^ lN m)), .unset] [] (i, am_u2 l 11 2 (lN m), rX (am_u2 q 11 1 (some r)), kX K) = some (none, (i', am_u2 l 11 2 (lN m), rX (am_u2 q 11 1 (some r)), kX K)) ∧ Fr [18, 20] i i' ∧ TV i' g ∧ HV i' g := by
      rw [b_Ford_attune_48, f20, am_bd_some, q_app0]
      exact half o _ _ _ _ _ ho hor (Fr_u1 rfl (Fr_refl _ _)) rfl rfl (HV_0 (fun k hk => if_pos hk))
    rw [b_Ford_attune_13, hmf, e12, lcmp0 (by omega), hu]
    rcases ho with ho | ho
    · subst ho
      rw [show decide (¬ nI 0 = (0 : Int32)) = false from rfl, cond_false]
      by_cases c : (mf ^^^ m) / 2 ^ 12 = 0
      · rw [decide_eq_true c, cond_true]
        exact half (nI 0) i _ _ _ _ (Or.inl rfl) hor (Fr_refl _ _) rfl rfl (HV_E (he (hor rfl)) hL0 (hstr (by rw [c])) (hdep c) hH)
      · rw [decide_eq_false c, cond_false]
        exact fill
    · subst ho
      rw [show decide (¬ nI 1 = (0 : Int32)) = true from rfl, cond_true]
      exact fill
  rw [c_Ford_attune, b_Ford_attune_0, hq']
  dsimp only
  rw [hkr, hkf]
  by_cases c : rf = r
  · rw [decide_eq_true (congrArg some c)]
    exact first (nI 0) _ (Or.inl rfl) (fun _ => c)
  · rw [decide_eq_false (fun z => c (Option.some.inj z))]
    exact first (nI 1) _ (Or.inr rfl) (fun z => absurd z (by decide))
end
