/-! THE MODEL: trust, hold -/
def wOk (law w : Nat) : Prop := w < 2 ∨ (law = 0 ∧ 2 ≤ w ∧ w < 6) ∨ (law = 1 ∧ 6 ≤ w ∧ w < 10)
def cdl (g : Nat → Nat) (law k : Nat) : Nat := g (174 + g (6 + law) + k)
/-- a law that is told is well formed -/
def LW (g : Nat → Nat) (law : Nat) : Prop := g (4 + law) ≤ 1 ∧ (g (4 + law) ≠ 0 → g (6 + law) + g (8 + law) ≤ 900 ∧ (∀ k, k < g (8 + law) → 1000 ≤ cdl g law k → cdl g law k < 1010 → wOk law (cdl g law k - 1000)) ∧ ∃ T : Nat → List Bool, T 0 = [] ∧ T (g (8 + law)) = [true] ∧ ∀ k, k < g (8 + law) → T1 (cdl g law k) (T k) (T (k + 1)))
theorem T1_range {c : Nat} {ts ts' : List Bool} (h : T1 c ts ts') : c < 1010 ∨ 3000 ≤ c := by
  rcases h with ⟨h1, _⟩ | ⟨h1, _⟩ | ⟨h1, _⟩ | ⟨h1, _⟩ | ⟨h1, _⟩ <;> omega
theorem ev1_cong {w w' : Nat → Int32} {c : Nat} {st : List Int32} (h : c < 1010 ∨ 3000 ≤ c) (hw : 1000 ≤ c → c < 1010 → w (c - 1000) = w' (c - 1000)) : ev1 w c st = ev1 w' c st := by
  unfold ev1
  by_cases h1 : c < 1000
  · rw [if_pos h1, if_pos h1]
  · rw [if_neg h1, if_neg h1]
    by_cases h2 : c < 3000
    · rw [if_pos h2, if_pos h2, hw (by omega) (by omega)]
    · rw [if_neg h2, if_neg h2]
theorem evk_cong {w w' : Nat → Int32} {c : Nat → Nat} : ∀ {n : Nat}, (∀ k, k < n → c k < 1010 ∨ 3000 ≤ c k) → (∀ k, k < n → 1000 ≤ c k → c k < 1010 → w (c k - 1000) = w' (c k - 1000)) → evk w c n = evk w' c n
  | 0, _, _ => rfl
  | n + 1, h, hw => by
    rw [evk, evk, evk_cong (fun k hk => h k (by omega)) (fun k hk => hw k (by omega)), ev1_cong (h n (by omega)) (hw n (by omega))]
def wT (g : Nat → Nat) (p q gap k : Nat) : Int32 := if k = 0 then nI p else if k = 1 then nI (g (22 + p)) else if k = 6 then nI (g (14 + p)) else if k = 7 then nI (g (14 + q)) else if k = 8 then nI (g (22 + q)) else nI gap
def sTrust (g : Nat → Nat) (p q gap : Nat) : Bool := decide (g 5 = 0 ∨ evk (wT g p q gap) (cdl g 1) (g 9) = [nI 1])
def wH (g : Nat → Nat) (p str x bes water k : Nat) : Int32 := if k = 0 then nI p else if k = 1 then nI str else if k = 2 then nI x else if k = 3 then nI (g (25 + x)) else if k = 4 then nI bes else nI water
/-- would hold: person, strength, place, how many beside, water -/
def sWould (g : Nat → Nat) (p str x bes water : Nat) : Bool := if g 4 = 0 then decide (water ≤ str) else decide (evk (wH g p str x bes water) (cdl g 0) (g 8) = [nI 1])
def sBes (g : Nat → Nat) (a x : Nat) : Nat := (if sWho g a (x - 1) = none then 0 else 1) + (if sWho g a (x + 1) = none then 0 else 1)
def sHold (g : Nat → Nat) (a p str water : Nat) : Bool := sWould g p str (dg a p) (sBes g a (dg a p)) water
def Fr (R : List Nat) (i i' : Nat → Nat → Int32) : Prop := ∀ r, R.contains r = false → i' r = i r
theorem Fr_refl (R : List Nat) (i : Nat → Nat → Int32) : Fr R i i := fun _ _ => rfl
theorem Fr_trans {R : List Nat} {i j k : Nat → Nat → Int32} (h : Fr R i j) (q : Fr R j k) : Fr R i k := fun r hr => (q r hr).trans (h r hr)
theorem Fr_mono {R R' : List Nat} {i j : Nat → Nat → Int32} (h : Fr R i j) (q : ∀ r, R'.contains r = false → R.contains r = false) : Fr R' i j := fun r hr => h r (q r hr)
theorem Fr_step {R R' : List Nat} {i j k : Nat → Nat → Int32} (h : Fr R' j k) (hR : R'.all (fun x => R.contains x) = true) (q : Fr R i j) : Fr R i k := Fr_trans q (Fr_mono h (fun r hr => by
  cases hc : R'.contains r with
  | false => rfl
  | true =>
    rw [List.contains_iff_mem] at hc
    have := List.all_eq_true.mp hR r hc
    rw [hr] at this
    cases this))
theorem Fr_u2 {R : List Nat} {i j : Nat → Nat → Int32} {a k : Nat} {v : Int32} (ha : R.contains a = true) (h : Fr R i j) : Fr R i (am_u2 j a k v) := fun r hr => by
  rw [← h r hr]
  funext m
  have : r ≠ a := fun z => by rw [z, ha] at hr; cases hr
  simp only [am_u2, this, if_false]
theorem Fr_u1 {R : List Nat} {i j : Nat → Nat → Int32} {a : Nat} {f : Nat → Int32} (ha : R.contains a = true) (h : Fr R i j) : Fr R i (am_u1 j a f) := fun r hr => by
  rw [← h r hr]
  funext m
  have : r ≠ a := fun z => by rw [z, ha] at hr; cases hr
  simp only [am_u1, this, if_false]
theorem MA_fr {R : List Nat} {i j : Nat → Nat → Int32} {g : Nat → Nat} (h : Fr R i j) (hA : MA i g) (hR : R.contains 1 = false) : MA j g := fun k hk => by rw [h 1 hR]; exact hA k hk
theorem q_nar1 : am_nar 103 (nI 1) = nI 1 := by decide
theorem q_nar0 : am_nar 103 (nI 0) = nI 0 := by decide
theorem q_vW0 : vW none = -nI 1 := rfl
theorem q_vW1 (p : Nat) : vW (some p) = nI p := rfl
theorem sWho_some {g : Nat → Nat} {a x p : Nat} (h : sWho g a x = some p) : p < g 2 ∧ dg a p = x ∧ sSpot g x = true := by
  unfold sWho at h
  by_cases hs : sSpot g x = true
  · rw [if_pos hs] at h
    obtain ⟨h1, h2, h3, h4⟩ := ff_some h
    exact ⟨by omega, by simpa using h3, hs⟩
  · rw [if_neg hs] at h
    cases h
/-- a run of the model ends with a value, in a memory of which P holds -/
def MR (v : Option Value) (P : (Nat → Nat → Int32) → (Nat → Nat → Int64) → Prop) (o : Option aR) : Prop := ∃ i' l', o = some (v, (i', l', rM, kM)) ∧ P i' l'
theorem MR_bd {o : Option aR} {v w : Option Value} {P Q : (Nat → Nat → Int32) → (Nat → Nat → Int64) → Prop} {F : Option Value → aM → Option aR} (h : MR v P o) (k : ∀ i' l', P i' l' → MR w Q (F v (i', l', rM, kM))) : MR w Q (am_bd o F) := by
  obtain ⟨i', l', e, hp⟩ := h
  rw [e]
  exact k i' l' hp
theorem R_bd {R : Option aR → Prop} {o : Option aR} {v : Option Value} {P : (Nat → Nat → Int32) → (Nat → Nat → Int64) → Prop} {F : Option Value → aM → Option aR} (h : MR v P o) (k : ∀ i' l', P i' l' → R (F v (i', l', rM, kM))) : R (am_bd o F) := by
  obtain ⟨i', l', e, hp⟩ := h
  rw [e]
  exact k i' l' hp
theorem MR_some {i' : Nat → Nat → Int32} {l' : Nat → Nat → Int64} {v : Option Value} {P : (Nat → Nat → Int32) → (Nat → Nat → Int64) → Prop} (h : P i' l') : MR v P (some (v, (i', l', rM, kM))) := ⟨i', l', rfl, h⟩
theorem MR_mono {o : Option aR} {v : Option Value} {P Q : (Nat → Nat → Int32) → (Nat → Nat → Int64) → Prop} (h : MR v P o) (k : ∀ i' l', P i' l' → Q i' l') : MR v Q o := by
  obtain ⟨i', l', e, hp⟩ := h
  exact ⟨i', l', e, k i' l' hp⟩
section
variable {i : Nat → Nat → Int32} {l : Nat → Nat → Int64} {g : Nat → Nat}
theorem r_M_reckons (d : Nat) {law : Nat} {w : Nat → Int32} (hl : law < 2) (hA : MA i g) (ht : g (4 + law) ≠ 0) (hL : LW g law) (hw : ∀ k, wOk law k → i 6 k = w k) : MR (some (.int (if evk w (cdl g law) (g (8 + law)) = [nI 1] then nI 1 else nI 0))) (fun i' l' => l' = l ∧ Fr [5] i i') (am_cl (d + 2) mM_reckons [.ref 0, .int (nI law)] (i, l, rM, kM)) := by
  obtain ⟨hf, hwd, T, h0, h1, hT⟩ := hL.2 ht
  obtain ⟨f, hr⟩ := s_M_reckons d (l := l) hl hA rfl hf (fun k _ => rfl) h0 hT h1
  have e : evk (i 6) (fun k => g (174 + g (6 + law) + k)) (g (8 + law)) = evk w (cdl g law) (g (8 + law)) := evk_cong (c := cdl g law) (fun k hk => T1_range (hT k hk)) (fun k hk h1 h2 => hw _ (hwd k hk h1 h2))
  rw [e] at hr
  exact ⟨_, _, hr, rfl, Fr_u1 (a := 5) rfl (Fr_refl _ _)⟩
theorem r_M_trustsFor (d : Nat) {p q gap : Nat} (hp : p < 4) (hq : q < 4) (hA : MA i g) (hL : LW g 1) : MR (some (.int (if sTrust g p q gap then nI 1 else nI 0))) (fun i' l' => l' = l ∧ Fr [5, 6] i i') (am_cl (d + 3) mM_trustsFor [.ref 0, .int (nI p), .int (nI q), .int (nI gap)] (i, l, rM, kM)) := by
  have hA' : ∀ k, k < 3222 → i 1 k = nI (g k) := hA
  have hg5 : g 5 ≤ 1 := hL.1
  rw [c_M_trustsFor, b_M_trustsFor_0]
  by_cases h5 : g 5 = 0
  · rw [sTrust, decide_eq_true (Or.inl h5)]
    simp (disch := first | assumption | omega) only [b_M_trustsFor_0, b_M_trustsFor_94, ↓Bool.cond_decide, ↓q_in, q_le, q_lt, q_eq, q_leT, q_leF, q_ltT, q_ltF, q_eqT, q_eqF, ↓reduceIte, not_true_eq_false, not_false_eq_true, true_and, and_true, and_self, false_and, and_false, Nat.zero_le, am_bd_some, q_app, q_app0, nI_add, pk_sub, pk_mul, q_dec, q_ix, q_m1, q_m1', ↓q_ret, q_bool, q_bool1, q_u2, q_u1, q_shl1, q_shr, q_and7, q_dg, fa_or, fa_and, decide_true, decide_false, Bool.or_false, Bool.or_true, Bool.true_or, Bool.false_or, cond_true, cond_false, ite_not, q_some, q_nn, q_xor, q_xorm, Bool.false_eq_true, decide_eq_true_eq, ne_eq, l_0, l_1, l_3, l_5, l_6, l_7, l_8, l_9, l_14, l_22, l_62, l_94, l_3222, hA', h5]
    exact MR_some ⟨rfl, Fr_refl _ _⟩
  · have e : (g 5 = 0 ∨ evk (wT g p q gap) (cdl g 1) (g 9) = [nI 1]) = (evk (wT g p q gap) (cdl g 1) (g 9) = [nI 1]) := by simp only [h5, false_or]
    rw [sTrust]
    simp only [decide_eq_true_eq, e]
    simp (disch := first | assumption | omega) only [b_M_trustsFor_0, b_M_trustsFor_94, ↓Bool.cond_decide, ↓q_in, q_le, q_lt, q_eq, q_leT, q_leF, q_ltT, q_ltF, q_eqT, q_eqF, ↓reduceIte, not_true_eq_false, not_false_eq_true, true_and, and_true, and_self, false_and, and_false, Nat.zero_le, am_bd_some, q_app, q_app0, nI_add, pk_sub, pk_mul, q_dec, q_ix, q_m1, q_m1', ↓q_ret, q_bool, q_bool1, q_u1, q_shl1, q_shr, q_and7, q_dg, fa_or, fa_and, decide_true, decide_false, Bool.or_false, Bool.or_true, Bool.true_or, Bool.false_or, cond_true, cond_false, ite_not, q_some, q_nn, q_xor, q_xorm, Bool.false_eq_true, decide_eq_true_eq, ne_eq, l_0, l_1, l_3, l_5, l_6, l_7, l_8, l_9, l_14, l_22, l_62, l_94, l_3222, hA']
    refine MR_bd (r_M_reckons d (w := wT g p q gap) (by decide) (g := g) hA h5 hL (fun k hk => ?_)) ?_
    · have h4 : k = 0 ∨ k = 1 ∨ k = 6 ∨ k = 7 ∨ k = 8 ∨ k = 9 := by unfold wOk at hk; omega
      rcases h4 with h | h | h | h | h | h <;> subst h <;> rfl
    · intro i' l' ⟨hl, hf⟩
      subst hl
      simp (disch := first | assumption | omega) only [b_M_trustsFor_0, b_M_trustsFor_94, s_M_reckons, ↓Bool.cond_decide, ↓q_in, q_le, q_lt, q_eq, q_leT, q_leF, q_ltT, q_ltF, q_eqT, q_eqF, ↓reduceIte, not_true_eq_false, not_false_eq_true, true_and, and_true, and_self, false_and, and_false, Nat.zero_le, am_bd_some, q_app, q_app0, nI_add, pk_sub, pk_mul, q_dec, q_ix, q_m1, q_m1', ↓q_ret, q_bool, q_bool1, q_u2, q_u1, q_shl1, q_shr, q_and7, q_dg, fa_or, fa_and, decide_true, decide_false, Bool.or_false, Bool.or_true, Bool.true_or, Bool.false_or, cond_true, cond_false, ite_not, q_some, q_nn, q_xor, q_xorm, Bool.false_eq_true, decide_eq_true_eq, ne_eq, l_0, l_1, l_3, l_5, l_6, l_7, l_8, l_9, l_14, l_22, l_62, l_94, l_3222, e]
      exact MR_some ⟨rfl, by (repeat (first | exact Fr_refl _ _ | assumption | refine Fr_u2 rfl ?_ | refine Fr_u1 rfl ?_ | refine Fr_step (by assumption) rfl ?_))⟩
theorem r_M_holdsIn (d : Nat) {a p str water : Nat} (ha : a < 4096) (hp : p < 4) (hs : str < 2147483648) (hwa : water < 2147483648) (hA : MA i g) (h1 : g 1 ≤ 6) (h2 : g 2 ≤ 4) (hx : sSpot g (dg a p) = true) (hL : LW g 0) : MR (some (.int (if sHold g a p str water then nI 1 else nI 0))) (fun i' l' => l' = l ∧ Fr [5, 6] i i') (am_cl (d + 4) mM_holdsIn [.ref 0, .int (nI a), .int (nI p), .int (nI str), .int (nI water)] (i, l, rM, kM)) := by
  have hA' : ∀ k, k < 3222 → i 1 k = nI (g k) := hA
  have hx2 : 1 ≤ dg a p ∧ dg a p ≤ g 1 := by simpa [sSpot] using hx
  have hg4 : g 4 ≤ 1 := hL.1
  rw [c_M_holdsIn, b_M_holdsIn_0]
  by_cases h4 : g 4 = 0
  · rw [sHold, sWould, if_pos h4]
    by_cases hw : water ≤ str
    · simp (disch := first | assumption | omega) only [b_M_holdsIn_0, b_M_holdsIn_20, b_M_holdsIn_26, b_M_holdsIn_82, b_M_holdsIn_91, b_M_holdsIn_100, b_M_holdsIn_109, b_M_holdsIn_124, s_M_placeIn, s_M_whoIn, ↓Bool.cond_decide, ↓q_in, q_le, q_lt, q_eq, q_leT, q_leF, q_ltT, q_ltF, q_eqT, q_eqF, ↓reduceIte, not_true_eq_false, not_false_eq_true, true_and, and_true, and_self, false_and, and_false, Nat.zero_le, am_bd_some, q_app, q_app0, nI_add, pk_sub, pk_mul, q_dec, q_ix, q_m1, q_m1', ↓q_ret, q_bool, q_bool1, q_u2, q_u1, q_shl1, q_shr, q_and7, q_dg, fa_or, fa_and, decide_true, decide_false, Bool.or_false, Bool.or_true, Bool.true_or, Bool.false_or, cond_true, cond_false, ite_not, q_some, q_nn, q_xor, q_xorm, Bool.false_eq_true, decide_eq_true_eq, ne_eq, l_0, l_1, l_2, l_3, l_4, l_5, l_6, l_8, l_9, l_10, l_12, l_18, l_20, l_26, l_39, l_82, l_91, l_100, l_109, l_124, l_3222, hA', h4, decide_eq_true_eq]
      exact MR_some ⟨rfl, Fr_refl _ _⟩
    · simp (disch := first | assumption | omega) only [b_M_holdsIn_0, b_M_holdsIn_20, b_M_holdsIn_26, b_M_holdsIn_82, b_M_holdsIn_91, b_M_holdsIn_100, b_M_holdsIn_109, b_M_holdsIn_124, s_M_placeIn, s_M_whoIn, ↓Bool.cond_decide, ↓q_in, q_le, q_lt, q_eq, q_leT, q_leF, q_ltT, q_ltF, q_eqT, q_eqF, ↓reduceIte, not_true_eq_false, not_false_eq_true, true_and, and_true, and_self, false_and, and_false, Nat.zero_le, am_bd_some, q_app, q_app0, nI_add, pk_sub, pk_mul, q_dec, q_ix, q_m1, q_m1', ↓q_ret, q_bool, q_bool1, q_u2, q_u1, q_shl1, q_shr, q_and7, q_dg, fa_or, fa_and, decide_true, decide_false, Bool.or_false, Bool.or_true, Bool.true_or, Bool.false_or, cond_true, cond_false, ite_not, q_some, q_nn, q_xor, q_xorm, Bool.false_eq_true, decide_eq_true_eq, ne_eq, l_0, l_1, l_2, l_3, l_4, l_5, l_6, l_8, l_9, l_10, l_12, l_18, l_20, l_26, l_39, l_82, l_91, l_100, l_109, l_124, l_3222, hA', h4, decide_eq_true_eq]
      exact MR_some ⟨rfl, Fr_refl _ _⟩
  · rw [sHold, sWould, if_neg h4]
    have e26 : 26 + dg a p - 1 = 25 + dg a p := by omega
    have key : ∀ (b1 b2 : Nat), b1 ≤ 1 → b2 ≤ 1 → b1 + b2 = sBes g a (dg a p) → ∀ z3 z2 z1 z5, MR (some (.int (if evk (wH g p str (dg a p) (sBes g a (dg a p)) water) (cdl g 0) (g 8) = [nI 1] then nI 1 else nI 0))) (fun i' l' => l' = l ∧ Fr [5, 6] i i') (am_Ex (d + 3) mM_holdsIn 109 [.val (.ref 0), z1, z2, z3, .val (.int (nI water)), z5] [.int (nI b2), .int (nI b1), .int (nI 4), .ref 6] (am_u2 (am_u2 (am_u2 (am_u2 i 6 0 (nI p)) 6 1 (nI str)) 6 2 (nI (dg a p))) 6 3 (nI (g (25 + dg a p))), l, rM, kM)) := by
      intro b1 b2 hb1 hb2 hb z3 z2 z1 z5
      rw [b_M_holdsIn_109]
      simp (disch := first | assumption | omega) only [b_M_holdsIn_0, b_M_holdsIn_20, b_M_holdsIn_26, b_M_holdsIn_82, b_M_holdsIn_91, b_M_holdsIn_100, b_M_holdsIn_124, s_M_placeIn, s_M_whoIn, ↓Bool.cond_decide, ↓q_in, q_le, q_lt, q_eq, q_leT, q_leF, q_ltT, q_ltF, q_eqT, q_eqF, ↓reduceIte, not_true_eq_false, not_false_eq_true, true_and, and_true, and_self, false_and, and_false, Nat.zero_le, am_bd_some, q_app, q_app0, nI_add, pk_sub, pk_mul, q_dec, q_ix, q_m1, q_m1', ↓q_ret, q_bool, q_bool1, q_u1, q_shl1, q_shr, q_and7, q_dg, fa_or, fa_and, decide_true, decide_false, Bool.or_false, Bool.or_true, Bool.true_or, Bool.false_or, cond_true, cond_false, ite_not, q_some, q_nn, q_xor, q_xorm, Bool.false_eq_true, decide_eq_true_eq, ne_eq, l_0, l_1, l_2, l_3, l_4, l_5, l_6, l_8, l_9, l_10, l_12, l_18, l_20, l_26, l_39, l_82, l_91, l_100, l_109, l_124, l_3222]
      refine MR_bd (r_M_reckons (d + 1) (w := wH g p str (dg a p) (sBes g a (dg a p)) water) (by decide) (g := g) hA h4 hL (fun k hk => ?_)) ?_
      · rw [← hb]
        have h4 : k = 0 ∨ k = 1 ∨ k = 2 ∨ k = 3 ∨ k = 4 ∨ k = 5 := by unfold wOk at hk; omega
        rcases h4 with h | h | h | h | h | h <;> subst h <;> rfl
      · intro i' l' ⟨hl, hf⟩
        subst hl
        simp (disch := first | assumption | omega) only [b_M_holdsIn_0, b_M_holdsIn_20, b_M_holdsIn_26, b_M_holdsIn_82, b_M_holdsIn_91, b_M_holdsIn_100, b_M_holdsIn_109, b_M_holdsIn_124, s_M_placeIn, s_M_reckons, s_M_whoIn, ↓Bool.cond_decide, ↓q_in, q_le, q_lt, q_eq, q_leT, q_leF, q_ltT, q_ltF, q_eqT, q_eqF, ↓reduceIte, not_true_eq_false, not_false_eq_true, true_and, and_true, and_self, false_and, and_false, Nat.zero_le, am_bd_some, q_app, q_app0, nI_add, pk_sub, pk_mul, q_dec, q_ix, q_m1, q_m1', ↓q_ret, q_bool, q_bool1, q_u2, q_u1, q_shl1, q_shr, q_and7, q_dg, fa_or, fa_and, decide_true, decide_false, Bool.or_false, Bool.or_true, Bool.true_or, Bool.false_or, cond_true, cond_false, ite_not, q_some, q_nn, q_xor, q_xorm, Bool.false_eq_true, decide_eq_true_eq, ne_eq, l_0, l_1, l_2, l_3, l_4, l_5, l_6, l_8, l_9, l_10, l_12, l_18, l_20, l_26, l_39, l_82, l_91, l_100, l_109, l_124, l_3222]
        exact MR_some ⟨rfl, by (repeat (first | exact Fr_refl _ _ | assumption | refine Fr_u2 rfl ?_ | refine Fr_u1 rfl ?_ | refine Fr_step (by assumption) rfl ?_))⟩
    have hm : MA (am_u2 (am_u2 (am_u2 (am_u2 i 6 0 (nI p)) 6 1 (nI str)) 6 2 (nI (dg a p))) 6 3 (nI (g (25 + dg a p)))) g := hA
    simp (disch := first | assumption | omega) only [b_M_holdsIn_0, b_M_holdsIn_20, b_M_holdsIn_26, b_M_holdsIn_82, b_M_holdsIn_91, b_M_holdsIn_100, b_M_holdsIn_124, s_M_placeIn, s_M_whoIn, ↓Bool.cond_decide, ↓q_in, q_le, q_lt, q_eq, q_leT, q_leF, q_ltT, q_ltF, q_eqT, q_eqF, ↓reduceIte, not_true_eq_false, not_false_eq_true, true_and, and_true, and_self, false_and, and_false, Nat.zero_le, am_bd_some, q_app, q_app0, nI_add, pk_sub, pk_mul, q_dec, q_ix, q_m1, q_m1', ↓q_ret, q_bool, q_bool1, q_u1, q_shl1, q_shr, q_and7, q_dg, fa_or, fa_and, decide_true, decide_false, Bool.or_false, Bool.or_true, Bool.true_or, Bool.false_or, cond_true, cond_false, ite_not, q_some, q_nn, q_xor, q_xorm, Bool.false_eq_true, decide_eq_true_eq, ne_eq, l_0, l_1, l_2, l_3, l_4, l_5, l_6, l_8, l_9, l_10, l_12, l_18, l_20, l_26, l_39, l_82, l_91, l_100, l_109, l_124, l_3222, hA', e26, decide_eq_true_eq]
    cases e1 : sWho g a (dg a p - 1) with
    | none =>
      cases e2 : sWho g a (dg a p + 1) with
      | none =>
        simp only [q_vW0, not_true_eq_false, if_true, if_false]
        exact key 0 0 (by omega) (by omega) (by rw [sBes, e1, e2]; rfl) _ _ _ _
      | some q2 =>
        have := sWho_some e2
        simp (disch := omega) only [q_vW0, q_vW1, q_m1, not_false_eq_true, if_true]
        exact key 0 1 (by omega) (by omega) (by rw [sBes, e1, e2]; rfl) _ _ _ _
    | some q1 =>
      have := sWho_some e1
      cases e2 : sWho g a (dg a p + 1) with
      | none =>
        simp (disch := omega) only [q_vW0, q_vW1, q_m1, not_true_eq_false, if_true, if_false]
        exact key 1 0 (by omega) (by omega) (by rw [sBes, e1, e2]; rfl) _ _ _ _
      | some q2 =>
        have := sWho_some e2
        simp (disch := omega) only [q_vW0, q_vW1, q_m1, not_false_eq_true, if_true, if_false]
        exact key 1 1 (by omega) (by omega) (by rw [sBes, e1, e2]; rfl) _ _ _ _
end
