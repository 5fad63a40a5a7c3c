/-! THE MODEL: steps and goings -/
/-- some k below n -/
def ex (f : Nat → Bool) : Nat → Bool
  | 0 => false
  | n + 1 => ex f n || f n
theorem ex_iff (f : Nat → Bool) : ∀ n, ex f n = true ↔ ∃ k, k < n ∧ f k = true
  | 0 => by simp [ex]
  | n + 1 => by
    rw [ex, Bool.or_eq_true, ex_iff f n]
    constructor
    · rintro (⟨k, h1, h2⟩ | h)
      · exact ⟨k, by omega, h2⟩
      · exact ⟨n, by omega, h⟩
    · rintro ⟨k, h1, h2⟩
      by_cases e : k = n
      · subst e; exact Or.inr h2
      · exact Or.inl ⟨k, by omega, h2⟩
def gp (a b : Nat) : Nat := if a < b then b - a else a - b
def FARN : Nat := 268435456
def sX (g : Nat → Nat) (a : Nat) (D : Nat → Nat) (n x : Nat) : Bool := decide (D x = n) && (decide (n = 0) || (sWho g a x).isSome || !sSpot g x)
def sRg (r y x : Nat) : Bool := decide (1 ≤ gp y x) && decide (gp y x ≤ r)
def sLd (g : Nat → Nat) (a p y x : Nat) : Bool := sOn g a p x (gp y x) || (sWho g a x).isNone
def sTk (g : Nat → Nat) (a p r : Nat) (D : Nat → Nat) (n k x : Nat) : Bool := ex (fun y => sX g a D n y && sRg r y x && sLd g a p y x) k
def wD (g : Nat → Nat) (a p r : Nat) (D : Nat → Nat) (n k x : Nat) : Nat := if D x = FARN ∧ x < g 1 + 2 ∧ sTk g a p r D n k x = true then n + 1 else D x
/-- in how few steps, looked at n times; too far -/
def sD (g : Nat → Nat) (a p r : Nat) : Nat → Nat → Nat
  | 0, x => if x = dg a p then 0 else FARN
  | n + 1, x => wD g a p r (sD g a p r n) n (g 1 + 2) x
def sGB (g : Nat → Nat) (a p r x : Nat) : Bool := decide (x ≠ dg a p) && decide (sD g a p r 8 x < FARN) && (sWho g a x).isNone
def sGo (g : Nat → Nat) (a p r : Nat) : Nat := bs (sGB g a p r) (g 1 + 2)
theorem sD_le (g : Nat → Nat) (a p r : Nat) : ∀ n x, sD g a p r n x ≤ n ∨ sD g a p r n x = FARN
  | 0, x => by
    rw [sD]
    split
    · left; omega
    · right; rfl
  | n + 1, x => by
    have h := sD_le g a p r n x
    rw [sD, wD]
    split
    · left; omega
    · rcases h with h | h
      · left; omega
      · right; exact h
theorem wD_succ (g : Nat → Nat) (a p r : Nat) (D : Nat → Nat) (n k x : Nat) (hx : x < g 1 + 2) (hn : n < 100) : wD g a p r D n (k + 1) x = if sX g a D n k = true ∧ sRg r k x = true ∧ wD g a p r D n k x = FARN ∧ sLd g a p k x = true then n + 1 else wD g a p r D n k x := by
  have e : sTk g a p r D n (k + 1) x = (sTk g a p r D n k x || (sX g a D n k && sRg r k x && sLd g a p k x)) := rfl
  have hF : FARN = 268435456 := rfl
  unfold wD
  rw [e]
  by_cases h1 : D x = FARN
  · by_cases h2 : sTk g a p r D n k x = true
    · simp only [h1, h2, hx, true_and, and_self, Bool.true_or, if_true]
      rw [if_neg (by omega)]
    · rw [Bool.not_eq_true] at h2
      simp only [h1, h2, hx, true_and, Bool.false_or, Bool.and_eq_true, Bool.false_eq_true, if_false]
      by_cases h3 : sX g a D n k = true <;> by_cases h4 : sRg r k x = true <;> by_cases h5 : sLd g a p k x = true <;> simp only [h3, h4, h5, and_self, true_and, and_true, false_and, and_false, if_true, if_false, Bool.false_eq_true]
  · simp only [h1, false_and, and_false, if_false]
theorem wD_eq (g : Nat → Nat) (a p r : Nat) (D : Nat → Nat) (n k x : Nat) (hn : n < 100) : (wD g a p r D n k x = n) ↔ D x = n := by
  have hF : FARN = 268435456 := rfl
  unfold wD
  by_cases h : D x = FARN ∧ x < g 1 + 2 ∧ sTk g a p r D n k x = true
  · rw [if_pos h]; omega
  · rw [if_neg h]
theorem wD_0 (g : Nat → Nat) (a p r : Nat) (D : Nat → Nat) (n x : Nat) : wD g a p r D n 0 x = D x := by
  unfold wD
  rw [if_neg]
  rintro ⟨_, _, h⟩
  cases h
theorem wD_sk {g : Nat → Nat} {a p r : Nat} {D : Nat → Nat} {n k : Nat} (h : sX g a D n k = false) (x : Nat) : wD g a p r D n (k + 1) x = wD g a p r D n k x := by
  unfold wD
  have e : sTk g a p r D n (k + 1) x = sTk g a p r D n k x := by
    show (sTk g a p r D n k x || (sX g a D n k && sRg r k x && sLd g a p k x)) = _
    rw [h]; simp
  rw [e]
/-- frames: cell r as r, field k of cell 0 as 100 + k -/
def Fx (R : List Nat) (i i' : Nat → Nat → Int32) : Prop := ∀ r k, R.contains (if r = 0 then 100 + k else r) = false → i' r k = i r k
theorem Fx_refl (R : List Nat) (i : Nat → Nat → Int32) : Fx R i i := fun _ _ _ => rfl
theorem Fx_of {R R' : List Nat} {i i' : Nat → Nat → Int32} (h : Fr R i i') (h0 : R.contains 0 = false) (hR : R.all (fun x => R'.contains x) = true) : Fx R' i i' := fun r k hr => by
  have key : R.contains r = false := by
    by_cases e : r = 0
    · rw [e]; exact h0
    · rw [if_neg e] at hr
      cases hc : R.contains r with
      | false => rfl
      | true =>
        rw [List.contains_iff_mem] at hc
        have := List.all_eq_true.mp hR r hc
        rw [hr] at this
        cases this
  rw [h r key]
theorem Fx_step {R R' : List Nat} {i j k : Nat → Nat → Int32} (h : Fx R' j k) (hR : R'.all (fun x => R.contains x) = true) (q : Fx R i j) : Fx R i k := fun r m hr => by
  rw [← q r m hr]
  apply h
  cases hc : R'.contains (if r = 0 then 100 + m else r) with
  | false => rfl
  | true =>
    rw [List.contains_iff_mem] at hc
    have := List.all_eq_true.mp hR _ hc
    rw [hr] at this
    cases this
theorem Fx_stepr {R R' : List Nat} {i j k : Nat → Nat → Int32} (h : Fr R' j k) (h0 : R'.contains 0 = false) (hR : R'.all (fun x => R.contains x) = true) (q : Fx R i j) : Fx R i k := Fx_step (Fx_of h h0 hR) (List.all_eq_true.mpr (fun x hx => List.contains_iff_mem.mpr hx)) q
theorem Fx_u2 {R : List Nat} {i j : Nat → Nat → Int32} {a k : Nat} {v : Int32} (ha : R.contains (if a = 0 then 100 + k else a) = true) (h : Fx R i j) : Fx R i (am_u2 j a k v) := fun r m hr => by
  rw [← h r m hr]
  show (if r = a then (if m = k then v else j r m) else j r m) = j r m
  by_cases e : r = a
  · rw [if_pos e]
    by_cases e2 : m = k
    · subst e; subst e2; rw [ha] at hr; cases hr
    · rw [if_neg e2]
  · rw [if_neg e]
theorem Fx_u1 {R : List Nat} {i j : Nat → Nat → Int32} {a : Nat} {f : Nat → Int32} (ha : R.contains a = true) (h0 : a ≠ 0) (h : Fx R i j) : Fx R i (am_u1 j a f) := fun r m hr => by
  rw [← h r m hr]
  show (if r = a then f m else j r m) = j r m
  by_cases e : r = a
  · subst e; rw [if_neg h0, ha] at hr; cases hr
  · rw [if_neg e]
theorem Fx_row {R : List Nat} {i j : Nat → Nat → Int32} (h : Fx R i j) {r : Nat} (h0 : r ≠ 0) (hr : R.contains r = false) : j r = i r := funext fun k => h r k (by rw [if_neg h0]; exact hr)
theorem MA_fx {R : List Nat} {i j : Nat → Nat → Int32} {g : Nat → Nat} (h : Fx R i j) (hA : MA i g) (hR : R.contains 1 = false) : MA j g := fun k hk => by rw [Fx_row h (by decide) hR]; exact hA k hk
theorem TR_fx {R : List Nat} {i j : Nat → Nat → Int32} {g : Nat → Nat} (h : Fx R i j) (hT : TR g i) (hR : R.contains 8 = false) : TR g j := fun p q gap h1 h2 h3 h4 => by rw [Fx_row h (by decide) hR]; exact hT p q gap h1 h2 h3 h4
theorem within_rg {r y x : Nat} (hr : r < 100) (hy : y < 100) (hx : x < 100) : ((1 : Int64) ≤ (nI (gp y x)).toInt64 ∧ (nI (gp y x)).toInt64 ≤ (nI r).toInt64) = (sRg r y x = true) := propext (by
  have hg : gp y x < 100 := by unfold gp; split <;> omega
  rw [k_w64 _ 1 r _ _ rfl (by rw [Int32.toInt_toInt64, nI_toInt (by omega)]), Int32.toInt_toInt64, nI_toInt (by omega)]
  simp only [sRg, Bool.and_eq_true, decide_eq_true_eq]
  omega)
section
variable {i : Nat → Nat → Int32} {l : Nat → Nat → Int64} {g : Nat → Nat}
theorem r_M_laysSteps (d : Nat) {a p r : Nat} (ha : a < 4096) (hp : p < g 2) (hr : r < 100) (hA : MA i g) (h1 : g 1 ≤ 6) (h2 : g 2 ≤ 4) (hT : TR g i) : MR none (fun i' l' => l' = l ∧ Fx [7] i i' ∧ ∀ x, x < 8 → i' 7 x = nI (sD g a p r 8 x)) (am_cl (d + 5) mM_laysSteps [.ref 0, .int (nI a), .int (nI p), .int (nI r)] (i, l, rM, kM)) := by
  rw [c_M_laysSteps, b_M_laysSteps_0]
  have hF : FARN = 268435456 := rfl
  have hdg := dg_lt a p
  refine am_loop (fun k ls s => ∃ i' z5 z6 z7, ls = [.val (.ref 0), .val (.int (nI a)), .val (.int (nI p)), .val (.int (nI r)), .val (.int (nI k)), z5, z6, z7] ∧ s = (i', l, rM, kM) ∧ Fx [7] i i' ∧ ∀ x, x < k → i' 7 x = nI FARN) 8 _ (fun k ls s hk hI => ?_) (fun ls s hI => ?_) ⟨i, _, _, _, rfl, rfl, Fx_refl _ _, fun x hx => by omega⟩
  · obtain ⟨i1, z5, z6, z7, e1, e2, hf1, ht1⟩ := hI
    subst e1; subst e2
    rw [b_M_laysSteps_3]
    simp (disch := first | assumption | omega) only [b_M_laysSteps_0, b_M_laysSteps_34, b_M_laysSteps_86, b_M_laysSteps_97, b_M_laysSteps_103, b_M_laysSteps_126, b_M_laysSteps_137, b_M_laysSteps_165, b_M_laysSteps_175, b_M_laysSteps_179, b_M_laysSteps_190, b_M_laysSteps_196, s_M_gapOf, s_M_goesOn, s_M_isSpot, s_M_placeIn, s_M_whoIn, s_M_within, ↓Bool.cond_decide, ↓q_in, q_le, q_lt, q_eq, q_leT, q_leF, q_ltT, q_ltF, q_eqT, q_eqF, ↓reduceIte, not_true_eq_false, not_false_eq_true, true_and, and_true, and_self, false_and, and_false, Nat.zero_le, am_bd_some, q_app, q_app0, nI_add, pk_sub, pk_mul, q_dec, q_ix, q_m1, q_m1', ↓q_ret, q_bool, q_bool1, q_u2, q_u1, q_shl1, q_shr, q_and7, q_dg, fa_or, fa_and, decide_true, decide_false, Bool.or_false, Bool.or_true, Bool.true_or, Bool.false_or, cond_true, cond_false, ite_not, q_some, q_nn, q_xor, q_xorm, Bool.false_eq_true, decide_eq_true_eq, ne_eq, l_0, l_1, l_3, l_5, l_6, l_7, l_8, l_9, l_10, l_14, l_18, l_27, l_34, l_39, l_49, l_86, l_97, l_103, l_106, l_126, l_137, l_165, l_175, l_179, l_190, l_196, l_268435456]
    refine Go_in ⟨_, _, _, _, rfl, rfl, by (repeat (first | exact Fx_refl _ _ | assumption | refine Fx_u2 rfl ?_ | refine Fx_u1 rfl (by decide) ?_ | refine Fx_step (by assumption) rfl ?_ | refine Fx_stepr (by assumption) rfl rfl ?_)), fun x hx => ?_⟩
    by_cases e : x = k
    · subst e; simp only [q_u2, if_true]; rfl
    · simp only [q_u2, e, if_true, if_false]; exact ht1 x (by omega)
  obtain ⟨i1, z5, z6, z7, e1, e2, hf1, ht1⟩ := hI
  subst e1; subst e2
  rw [b_M_laysSteps_3]
  simp (disch := first | assumption | omega) only [b_M_laysSteps_0, b_M_laysSteps_34, b_M_laysSteps_86, b_M_laysSteps_97, b_M_laysSteps_103, b_M_laysSteps_126, b_M_laysSteps_137, b_M_laysSteps_165, b_M_laysSteps_175, b_M_laysSteps_179, b_M_laysSteps_190, b_M_laysSteps_196, s_M_gapOf, s_M_goesOn, s_M_isSpot, s_M_placeIn, s_M_whoIn, s_M_within, ↓Bool.cond_decide, ↓q_in, q_le, q_lt, q_eq, q_leT, q_leF, q_ltT, q_ltF, q_eqT, q_eqF, ↓reduceIte, not_true_eq_false, not_false_eq_true, true_and, and_true, and_self, false_and, and_false, Nat.zero_le, am_bd_some, q_app, q_app0, nI_add, pk_sub, pk_mul, q_dec, q_ix, q_m1, q_m1', ↓q_ret, q_bool, q_bool1, q_u2, q_u1, q_shl1, q_shr, q_and7, q_dg, fa_or, fa_and, decide_true, decide_false, Bool.or_false, Bool.or_true, Bool.true_or, Bool.false_or, cond_true, cond_false, ite_not, q_some, q_nn, q_xor, q_xorm, Bool.false_eq_true, decide_eq_true_eq, ne_eq, l_0, l_1, l_3, l_5, l_6, l_7, l_8, l_9, l_10, l_14, l_18, l_27, l_34, l_39, l_49, l_86, l_97, l_103, l_106, l_126, l_137, l_165, l_175, l_179, l_190, l_196, l_268435456]
  refine am_loop (fun n ls s => ∃ i' z5 z6 z7, ls = [.val (.ref 0), .val (.int (nI a)), .val (.int (nI p)), .val (.int (nI r)), .val (.int (nI n)), z5, z6, z7] ∧ s = (i', l, rM, kM) ∧ Fx [7] i i' ∧ ∀ x, x < 8 → i' 7 x = nI (sD g a p r n x)) 8 _ (fun n ls s hn hI => ?_) (fun ls s hI => ?_) ⟨_, _, _, _, rfl, rfl, by (repeat (first | exact Fx_refl _ _ | assumption | refine Fx_u2 rfl ?_ | refine Fx_u1 rfl (by decide) ?_ | refine Fx_step (by assumption) rfl ?_ | refine Fx_stepr (by assumption) rfl rfl ?_)), fun x hx => ?_⟩
  · obtain ⟨i2, z5, z6, z7, e1, e2, hf2, ht2⟩ := hI
    subst e1; subst e2
    rw [b_M_laysSteps_39]
    simp (disch := first | assumption | omega) only [b_M_laysSteps_0, b_M_laysSteps_34, b_M_laysSteps_86, b_M_laysSteps_97, b_M_laysSteps_103, b_M_laysSteps_126, b_M_laysSteps_137, b_M_laysSteps_165, b_M_laysSteps_175, b_M_laysSteps_179, b_M_laysSteps_190, b_M_laysSteps_196, s_M_gapOf, s_M_goesOn, s_M_isSpot, s_M_placeIn, s_M_whoIn, s_M_within, ↓Bool.cond_decide, ↓q_in, q_le, q_lt, q_eq, q_leT, q_leF, q_ltT, q_ltF, q_eqT, q_eqF, ↓reduceIte, not_true_eq_false, not_false_eq_true, true_and, and_true, and_self, false_and, and_false, Nat.zero_le, am_bd_some, q_app, q_app0, nI_add, pk_sub, pk_mul, q_dec, q_ix, q_m1, q_m1', ↓q_ret, q_bool, q_bool1, q_u2, q_u1, q_shl1, q_shr, q_and7, q_dg, fa_or, fa_and, decide_true, decide_false, Bool.or_false, Bool.or_true, Bool.true_or, Bool.false_or, cond_true, cond_false, ite_not, q_some, q_nn, q_xor, q_xorm, Bool.false_eq_true, decide_eq_true_eq, ne_eq, l_0, l_1, l_3, l_5, l_6, l_7, l_8, l_9, l_10, l_14, l_18, l_27, l_34, l_39, l_49, l_86, l_97, l_103, l_106, l_126, l_137, l_165, l_175, l_179, l_190, l_196, l_268435456]
    refine am_loop (fun k ls s => ∃ i' z6 z7, ls = [.val (.ref 0), .val (.int (nI a)), .val (.int (nI p)), .val (.int (nI r)), .val (.int (nI n)), .val (.int (nI k)), z6, z7] ∧ s = (i', l, rM, kM) ∧ Fx [7] i i' ∧ ∀ x, x < 8 → i' 7 x = nI (wD g a p r (sD g a p r n) n k x)) (g 1 + 2) _ (fun k ls s hk hI => ?_) (fun ls s hI => ?_) ⟨_, _, _, rfl, rfl, hf2, fun x hx => by rw [wD_0]; exact ht2 x hx⟩
    · obtain ⟨i3, z6, z7, e1, e2, hf3, ht3⟩ := hI
      subst e1; subst e2
      have hA3 : ∀ k, k < 3222 → i3 1 k = nI (g k) := MA_fx hf3 hA rfl
      have hM3 : MA i3 g := hA3
      have hb3 : ∀ x, wD g a p r (sD g a p r n) n k x ≤ FARN := fun x => by
        have := sD_le g a p r n x
        unfold wD
        split <;> omega
      have hbk := hb3 k
      have h73 := ht3 k (by omega)
      -- the road that skips
      have skip : ∀ z6 z7, sX g a (sD g a p r n) n k = false → Go (d + 4) mM_laysSteps 49 (fun ls s => ∃ i' z6 z7, ls = [.val (.ref 0), .val (.int (nI a)), .val (.int (nI p)), .val (.int (nI r)), .val (.int (nI n)), .val (.int (nI (k + 1))), z6, z7] ∧ s = (i', l, rM, kM) ∧ Fx [7] i i' ∧ ∀ x, x < 8 → i' 7 x = nI (wD g a p r (sD g a p r n) n (k + 1) x)) (am_Ex (d + 4) mM_laysSteps 49 [.val (.ref 0), .val (.int (nI a)), .val (.int (nI p)), .val (.int (nI r)), .val (.int (nI n)), .val (.int (nI (k + 1))), z6, z7] [] (i3, l, rM, kM)) := by
        intro z6 z7 hs
        exact Go_in ⟨_, _, _, rfl, rfl, hf3, fun x hx => by rw [wD_sk hs]; exact ht3 x hx⟩
      have inner : ∀ z6 z7, sX g a (sD g a p r n) n k = true → Go (d + 4) mM_laysSteps 49 (fun ls s => ∃ i' z6 z7, ls = [.val (.ref 0), .val (.int (nI a)), .val (.int (nI p)), .val (.int (nI r)), .val (.int (nI n)), .val (.int (nI (k + 1))), z6, z7] ∧ s = (i', l, rM, kM) ∧ Fx [7] i i' ∧ ∀ x, x < 8 → i' 7 x = nI (wD g a p r (sD g a p r n) n (k + 1) x)) (am_Ex (d + 4) mM_laysSteps 103 [.val (.ref 0), .val (.int (nI a)), .val (.int (nI p)), .val (.int (nI r)), .val (.int (nI n)), .val (.int (nI k)), z6, z7] [] (i3, l, rM, kM)) := by
        intro z6 z7 hs
        rw [b_M_laysSteps_103]
        refine am_loop (fun t ls s => ∃ i' z7, ls = [.val (.ref 0), .val (.int (nI a)), .val (.int (nI p)), .val (.int (nI r)), .val (.int (nI n)), .val (.int (nI k)), .val (.int (nI t)), z7] ∧ s = (i', l, rM, kM) ∧ Fx [7] i i' ∧ ∀ x, x < 8 → i' 7 x = nI (if x < t then wD g a p r (sD g a p r n) n (k + 1) x else wD g a p r (sD g a p r n) n k x)) (g 1 + 2) _ (fun t ls s ht hI => ?_) (fun ls s hI => ?_) ⟨_, _, rfl, rfl, hf3, fun x hx => by rw [if_neg (by omega)]; exact ht3 x hx⟩
        · obtain ⟨i4, z7, e1, e2, hf4, ht4⟩ := hI
          subst e1; subst e2
          have hA4 : ∀ k, k < 3222 → i4 1 k = nI (g k) := MA_fx hf4 hA rfl
          have hM4 : MA i4 g := hA4
          have hT4 : TR g i4 := TR_fx hf4 hT rfl
          have h74 := ht4 t (by omega)
          rw [if_neg (by omega)] at h74
          have hbt := hb3 t
          have hgp : gp k t < 8 := by unfold gp; split <;> omega
          have hws := wD_succ g a p r (sD g a p r n) n k t ht (by omega)
          have same : (sRg r k t = true → wD g a p r (sD g a p r n) n k t = FARN → sLd g a p k t = false) → ∀ z7, Go (d + 4) mM_laysSteps 106 (fun ls s => ∃ i' z7, ls = [.val (.ref 0), .val (.int (nI a)), .val (.int (nI p)), .val (.int (nI r)), .val (.int (nI n)), .val (.int (nI k)), .val (.int (nI (t + 1))), z7] ∧ s = (i', l, rM, kM) ∧ Fx [7] i i' ∧ ∀ x, x < 8 → i' 7 x = nI (if x < t + 1 then wD g a p r (sD g a p r n) n (k + 1) x else wD g a p r (sD g a p r n) n k x)) (am_Ex (d + 4) mM_laysSteps 106 [.val (.ref 0), .val (.int (nI a)), .val (.int (nI p)), .val (.int (nI r)), .val (.int (nI n)), .val (.int (nI k)), .val (.int (nI (t + 1))), z7] [] (i4, l, rM, kM)) := by
            intro hno z7
            refine Go_in ⟨_, _, rfl, rfl, hf4, fun x hx => ?_⟩
            rw [ht4 x hx]
            by_cases e : x = t
            · subst e
              rw [if_neg (by omega), if_pos (by omega), hws, if_neg]
              rintro ⟨_, q1, q2, q3⟩
              rw [hno q1 q2] at q3
              cases q3
            · by_cases e2 : x < t
              · rw [if_pos e2, if_pos (by omega)]
              · rw [if_neg e2, if_neg (by omega)]
          have put : sRg r k t = true → wD g a p r (sD g a p r n) n k t = FARN → sLd g a p k t = true → ∀ z7, Go (d + 4) mM_laysSteps 106 (fun ls s => ∃ i' z7, ls = [.val (.ref 0), .val (.int (nI a)), .val (.int (nI p)), .val (.int (nI r)), .val (.int (nI n)), .val (.int (nI k)), .val (.int (nI (t + 1))), z7] ∧ s = (i', l, rM, kM) ∧ Fx [7] i i' ∧ ∀ x, x < 8 → i' 7 x = nI (if x < t + 1 then wD g a p r (sD g a p r n) n (k + 1) x else wD g a p r (sD g a p r n) n k x)) (am_Ex (d + 4) mM_laysSteps 106 [.val (.ref 0), .val (.int (nI a)), .val (.int (nI p)), .val (.int (nI r)), .val (.int (nI n)), .val (.int (nI k)), .val (.int (nI (t + 1))), z7] [] (am_u2 i4 7 t (nI (n + 1)), l, rM, kM)) := by
            intro q1 q2 q3 z7
            refine Go_in ⟨_, _, rfl, rfl, by (repeat (first | exact Fx_refl _ _ | assumption | refine Fx_u2 rfl ?_ | refine Fx_u1 rfl (by decide) ?_ | refine Fx_step (by assumption) rfl ?_ | refine Fx_stepr (by assumption) rfl rfl ?_)), fun x hx => ?_⟩
            by_cases e : x = t
            · subst e
              rw [if_pos (by omega), hws, if_pos ⟨hs, q1, q2, q3⟩]
              simp only [q_u2, if_true]
            · simp only [q_u2, e, if_true, if_false]
              rw [ht4 x hx]
              by_cases e2 : x < t
              · rw [if_pos e2, if_pos (by omega)]
              · rw [if_neg e2, if_neg (by omega)]
          rw [b_M_laysSteps_106]
          have hgo : (if k < t then t - k else k - t) = gp k t := rfl
          have hwr := within_rg (r := r) (y := k) (x := t) hr (by omega) (by omega)
          by_cases q1 : sRg r k t = true
          · have hg1 : 1 ≤ gp k t := by simp only [sRg, Bool.and_eq_true, decide_eq_true_eq] at q1; exact q1.1
            by_cases q2 : wD g a p r (sD g a p r n) n k t = FARN
            · cases hon : sOn g a p t (gp k t) with
              | true =>
                have q3 : sLd g a p k t = true := by rw [sLd, hon]; rfl
                simp (disch := first | assumption | omega) only [b_M_laysSteps_0, b_M_laysSteps_34, b_M_laysSteps_86, b_M_laysSteps_97, b_M_laysSteps_103, b_M_laysSteps_126, b_M_laysSteps_137, b_M_laysSteps_165, b_M_laysSteps_175, b_M_laysSteps_179, b_M_laysSteps_190, b_M_laysSteps_196, s_M_gapOf, s_M_goesOn, s_M_isSpot, s_M_placeIn, s_M_whoIn, s_M_within, ↓Bool.cond_decide, ↓q_in, q_le, q_lt, q_eq, q_leT, q_leF, q_ltT, q_ltF, q_eqT, q_eqF, ↓reduceIte, not_true_eq_false, not_false_eq_true, true_and, and_true, and_self, false_and, and_false, Nat.zero_le, am_bd_some, q_app, q_app0, nI_add, pk_sub, pk_mul, q_dec, q_ix, q_m1, q_m1', ↓q_ret, q_bool, q_bool1, q_u2, q_u1, q_shl1, q_shr, q_and7, q_dg, fa_or, fa_and, decide_true, decide_false, Bool.or_false, Bool.or_true, Bool.true_or, Bool.false_or, cond_true, cond_false, ite_not, q_some, q_nn, q_xor, q_xorm, Bool.false_eq_true, decide_eq_true_eq, ne_eq, l_0, l_1, l_3, l_5, l_6, l_7, l_8, l_9, l_10, l_14, l_18, l_27, l_34, l_39, l_49, l_86, l_97, l_103, l_106, l_126, l_137, l_165, l_175, l_179, l_190, l_196, l_268435456, hA4, hgo, hwr, q1, h74, q2, hF, hon]
                exact put q1 q2 q3 _
              | false =>
                cases hw : sWho g a t with
                | none =>
                  have q3 : sLd g a p k t = true := by rw [sLd, hon, hw]; rfl
                  simp (disch := first | assumption | omega) only [b_M_laysSteps_0, b_M_laysSteps_34, b_M_laysSteps_86, b_M_laysSteps_97, b_M_laysSteps_103, b_M_laysSteps_126, b_M_laysSteps_137, b_M_laysSteps_165, b_M_laysSteps_175, b_M_laysSteps_179, b_M_laysSteps_190, b_M_laysSteps_196, s_M_gapOf, s_M_goesOn, s_M_isSpot, s_M_placeIn, s_M_whoIn, s_M_within, ↓Bool.cond_decide, ↓q_in, q_le, q_lt, q_eq, q_leT, q_leF, q_ltT, q_ltF, q_eqT, q_eqF, ↓reduceIte, not_true_eq_false, not_false_eq_true, true_and, and_true, and_self, false_and, and_false, Nat.zero_le, am_bd_some, q_app, q_app0, nI_add, pk_sub, pk_mul, q_dec, q_ix, q_m1, q_m1', ↓q_ret, q_bool, q_bool1, q_u2, q_u1, q_shl1, q_shr, q_and7, q_dg, fa_or, fa_and, decide_true, decide_false, Bool.or_false, Bool.or_true, Bool.true_or, Bool.false_or, cond_true, cond_false, ite_not, q_some, q_nn, q_xor, q_xorm, Bool.false_eq_true, decide_eq_true_eq, ne_eq, l_0, l_1, l_3, l_5, l_6, l_7, l_8, l_9, l_10, l_14, l_18, l_27, l_34, l_39, l_49, l_86, l_97, l_103, l_106, l_126, l_137, l_165, l_175, l_179, l_190, l_196, l_268435456, hA4, hgo, hwr, q1, h74, q2, hF, hon, hw, q_vW0]
                  exact put q1 q2 q3 _
                | some q =>
                  have := sWho_some hw
                  have q3 : sLd g a p k t = false := by rw [sLd, hon, hw]; rfl
                  simp (disch := first | assumption | omega) only [b_M_laysSteps_0, b_M_laysSteps_34, b_M_laysSteps_86, b_M_laysSteps_97, b_M_laysSteps_103, b_M_laysSteps_126, b_M_laysSteps_137, b_M_laysSteps_165, b_M_laysSteps_175, b_M_laysSteps_179, b_M_laysSteps_190, b_M_laysSteps_196, s_M_gapOf, s_M_goesOn, s_M_isSpot, s_M_placeIn, s_M_whoIn, s_M_within, ↓Bool.cond_decide, ↓q_in, q_le, q_lt, q_eq, q_leT, q_leF, q_ltT, q_ltF, q_eqT, q_eqF, ↓reduceIte, not_true_eq_false, not_false_eq_true, true_and, and_true, and_self, false_and, and_false, Nat.zero_le, am_bd_some, q_app, q_app0, nI_add, pk_sub, pk_mul, q_dec, q_ix, q_m1, q_m1', ↓q_ret, q_bool, q_bool1, q_u2, q_u1, q_shl1, q_shr, q_and7, q_dg, fa_or, fa_and, decide_true, decide_false, Bool.or_false, Bool.or_true, Bool.true_or, Bool.false_or, cond_true, cond_false, ite_not, q_some, q_nn, q_xor, q_xorm, Bool.false_eq_true, decide_eq_true_eq, ne_eq, l_0, l_1, l_3, l_5, l_6, l_7, l_8, l_9, l_10, l_14, l_18, l_27, l_34, l_39, l_49, l_86, l_97, l_103, l_106, l_126, l_137, l_165, l_175, l_179, l_190, l_196, l_268435456, hA4, hgo, hwr, q1, h74, q2, hF, hon, hw, q_vW1]
                  exact same (fun _ _ => q3) _
            · have q2' : wD g a p r (sD g a p r n) n k t ≠ 268435456 := q2
              simp (disch := first | assumption | omega) only [b_M_laysSteps_0, b_M_laysSteps_34, b_M_laysSteps_86, b_M_laysSteps_97, b_M_laysSteps_103, b_M_laysSteps_126, b_M_laysSteps_137, b_M_laysSteps_165, b_M_laysSteps_175, b_M_laysSteps_179, b_M_laysSteps_190, b_M_laysSteps_196, s_M_gapOf, s_M_goesOn, s_M_isSpot, s_M_placeIn, s_M_whoIn, s_M_within, ↓Bool.cond_decide, ↓q_in, q_le, q_lt, q_eq, q_leT, q_leF, q_ltT, q_ltF, q_eqT, q_eqF, ↓reduceIte, not_true_eq_false, not_false_eq_true, true_and, and_true, and_self, false_and, and_false, Nat.zero_le, am_bd_some, q_app, q_app0, nI_add, pk_sub, pk_mul, q_dec, q_ix, q_m1, q_m1', ↓q_ret, q_bool, q_bool1, q_u2, q_u1, q_shl1, q_shr, q_and7, q_dg, fa_or, fa_and, decide_true, decide_false, Bool.or_false, Bool.or_true, Bool.true_or, Bool.false_or, cond_true, cond_false, ite_not, q_some, q_nn, q_xor, q_xorm, Bool.false_eq_true, decide_eq_true_eq, ne_eq, l_0, l_1, l_3, l_5, l_6, l_7, l_8, l_9, l_10, l_14, l_18, l_27, l_34, l_39, l_49, l_86, l_97, l_103, l_106, l_126, l_137, l_165, l_175, l_179, l_190, l_196, l_268435456, hA4, hgo, hwr, q1, h74]
              exact same (fun _ z => absurd z q2) _
          · simp (disch := first | assumption | omega) only [b_M_laysSteps_0, b_M_laysSteps_34, b_M_laysSteps_86, b_M_laysSteps_97, b_M_laysSteps_103, b_M_laysSteps_126, b_M_laysSteps_137, b_M_laysSteps_165, b_M_laysSteps_175, b_M_laysSteps_179, b_M_laysSteps_190, b_M_laysSteps_196, s_M_gapOf, s_M_goesOn, s_M_isSpot, s_M_placeIn, s_M_whoIn, s_M_within, ↓Bool.cond_decide, ↓q_in, q_le, q_lt, q_eq, q_leT, q_leF, q_ltT, q_ltF, q_eqT, q_eqF, ↓reduceIte, not_true_eq_false, not_false_eq_true, true_and, and_true, and_self, false_and, and_false, Nat.zero_le, am_bd_some, q_app, q_app0, nI_add, pk_sub, pk_mul, q_dec, q_ix, q_m1, q_m1', ↓q_ret, q_bool, q_bool1, q_u2, q_u1, q_shl1, q_shr, q_and7, q_dg, fa_or, fa_and, decide_true, decide_false, Bool.or_false, Bool.or_true, Bool.true_or, Bool.false_or, cond_true, cond_false, ite_not, q_some, q_nn, q_xor, q_xorm, Bool.false_eq_true, decide_eq_true_eq, ne_eq, l_0, l_1, l_3, l_5, l_6, l_7, l_8, l_9, l_10, l_14, l_18, l_27, l_34, l_39, l_49, l_86, l_97, l_103, l_106, l_126, l_137, l_165, l_175, l_179, l_190, l_196, l_268435456, hA4, hgo, hwr, q1]
            exact same (fun z => absurd z q1) _
        · obtain ⟨i4, z7, e1, e2, hf4, ht4⟩ := hI
          subst e1; subst e2
          have hA4 : ∀ k, k < 3222 → i4 1 k = nI (g k) := MA_fx hf4 hA rfl
          rw [b_M_laysSteps_106]
          simp (disch := first | assumption | omega) only [b_M_laysSteps_0, b_M_laysSteps_34, b_M_laysSteps_86, b_M_laysSteps_97, b_M_laysSteps_103, b_M_laysSteps_126, b_M_laysSteps_137, b_M_laysSteps_165, b_M_laysSteps_175, b_M_laysSteps_179, b_M_laysSteps_190, b_M_laysSteps_196, s_M_gapOf, s_M_goesOn, s_M_isSpot, s_M_placeIn, s_M_whoIn, s_M_within, ↓Bool.cond_decide, ↓q_in, q_le, q_lt, q_eq, q_leT, q_leF, q_ltT, q_ltF, q_eqT, q_eqF, ↓reduceIte, not_true_eq_false, not_false_eq_true, true_and, and_true, and_self, false_and, and_false, Nat.zero_le, am_bd_some, q_app, q_app0, nI_add, pk_sub, pk_mul, q_dec, q_ix, q_m1, q_m1', ↓q_ret, q_bool, q_bool1, q_u2, q_u1, q_shl1, q_shr, q_and7, q_dg, fa_or, fa_and, decide_true, decide_false, Bool.or_false, Bool.or_true, Bool.true_or, Bool.false_or, cond_true, cond_false, ite_not, q_some, q_nn, q_xor, q_xorm, Bool.false_eq_true, decide_eq_true_eq, ne_eq, l_0, l_1, l_3, l_5, l_6, l_7, l_8, l_9, l_10, l_14, l_18, l_27, l_34, l_39, l_49, l_86, l_97, l_103, l_106, l_126, l_137, l_165, l_175, l_179, l_190, l_196, l_268435456, hA4]
          refine Go_in ⟨_, _, _, rfl, rfl, hf4, fun x hx => ?_⟩
          rw [ht4 x hx]
          by_cases e : x < g 1 + 2
          · rw [if_pos e]
          · rw [if_neg e]
            unfold wD
            rw [if_neg (fun z => e z.2.1), if_neg (fun z => e z.2.1)]
      rw [b_M_laysSteps_49]
      by_cases hD : sD g a p r n k = n
      · have hDw := (wD_eq g a p r (sD g a p r n) n k k (by omega)).mpr hD
        by_cases hn0 : n = 0
        · have hs : sX g a (sD g a p r n) n k = true := by unfold sX; rw [decide_eq_true hD, decide_eq_true hn0]; rfl
          simp (disch := first | assumption | omega) only [b_M_laysSteps_0, b_M_laysSteps_34, b_M_laysSteps_86, b_M_laysSteps_97, b_M_laysSteps_126, b_M_laysSteps_137, b_M_laysSteps_165, b_M_laysSteps_175, b_M_laysSteps_179, b_M_laysSteps_190, b_M_laysSteps_196, s_M_gapOf, s_M_goesOn, s_M_isSpot, s_M_placeIn, s_M_whoIn, s_M_within, ↓Bool.cond_decide, ↓q_in, q_le, q_lt, q_eq, q_leT, q_leF, q_ltT, q_ltF, q_eqT, q_eqF, ↓reduceIte, not_true_eq_false, not_false_eq_true, true_and, and_true, and_self, false_and, and_false, Nat.zero_le, am_bd_some, q_app, q_app0, nI_add, pk_sub, pk_mul, q_dec, q_ix, q_m1, q_m1', ↓q_ret, q_bool, q_bool1, q_u2, q_u1, q_shl1, q_shr, q_and7, q_dg, fa_or, fa_and, decide_true, decide_false, Bool.or_false, Bool.or_true, Bool.true_or, Bool.false_or, cond_true, cond_false, ite_not, q_some, q_nn, q_xor, q_xorm, Bool.false_eq_true, decide_eq_true_eq, ne_eq, l_0, l_1, l_3, l_5, l_6, l_7, l_8, l_9, l_10, l_14, l_18, l_27, l_34, l_39, l_49, l_86, l_97, l_103, l_106, l_126, l_137, l_165, l_175, l_179, l_190, l_196, l_268435456, hA3, h73, hDw]
          exact inner _ _ hs
        · cases hw : sWho g a k with
          | none =>
            cases hsp : sSpot g k with
            | true =>
              have hs : sX g a (sD g a p r n) n k = false := by simp [sX, hw, hsp, hn0]
              simp (disch := first | assumption | omega) only [b_M_laysSteps_0, b_M_laysSteps_34, b_M_laysSteps_86, b_M_laysSteps_97, b_M_laysSteps_126, b_M_laysSteps_137, b_M_laysSteps_165, b_M_laysSteps_175, b_M_laysSteps_179, b_M_laysSteps_190, b_M_laysSteps_196, s_M_gapOf, s_M_goesOn, s_M_isSpot, s_M_placeIn, s_M_whoIn, s_M_within, ↓Bool.cond_decide, ↓q_in, q_le, q_lt, q_eq, q_leT, q_leF, q_ltT, q_ltF, q_eqT, q_eqF, ↓reduceIte, not_true_eq_false, not_false_eq_true, true_and, and_true, and_self, false_and, and_false, Nat.zero_le, am_bd_some, q_app, q_app0, nI_add, pk_sub, pk_mul, q_dec, q_ix, q_m1, q_m1', ↓q_ret, q_bool, q_bool1, q_u2, q_u1, q_shl1, q_shr, q_and7, q_dg, fa_or, fa_and, decide_true, decide_false, Bool.or_false, Bool.or_true, Bool.true_or, Bool.false_or, cond_true, cond_false, ite_not, q_some, q_nn, q_xor, q_xorm, Bool.false_eq_true, decide_eq_true_eq, ne_eq, l_0, l_1, l_3, l_5, l_6, l_7, l_8, l_9, l_10, l_14, l_18, l_27, l_34, l_39, l_49, l_86, l_97, l_103, l_106, l_126, l_137, l_165, l_175, l_179, l_190, l_196, l_268435456, hA3, h73, hDw, hw, hsp, q_vW0]
              exact skip _ _ hs
            | false =>
              have hs : sX g a (sD g a p r n) n k = true := by simp [sX, hD, hw, hsp, hn0]
              simp (disch := first | assumption | omega) only [b_M_laysSteps_0, b_M_laysSteps_34, b_M_laysSteps_86, b_M_laysSteps_97, b_M_laysSteps_126, b_M_laysSteps_137, b_M_laysSteps_165, b_M_laysSteps_175, b_M_laysSteps_179, b_M_laysSteps_190, b_M_laysSteps_196, s_M_gapOf, s_M_goesOn, s_M_isSpot, s_M_placeIn, s_M_whoIn, s_M_within, ↓Bool.cond_decide, ↓q_in, q_le, q_lt, q_eq, q_leT, q_leF, q_ltT, q_ltF, q_eqT, q_eqF, ↓reduceIte, not_true_eq_false, not_false_eq_true, true_and, and_true, and_self, false_and, and_false, Nat.zero_le, am_bd_some, q_app, q_app0, nI_add, pk_sub, pk_mul, q_dec, q_ix, q_m1, q_m1', ↓q_ret, q_bool, q_bool1, q_u2, q_u1, q_shl1, q_shr, q_and7, q_dg, fa_or, fa_and, decide_true, decide_false, Bool.or_false, Bool.or_true, Bool.true_or, Bool.false_or, cond_true, cond_false, ite_not, q_some, q_nn, q_xor, q_xorm, Bool.false_eq_true, decide_eq_true_eq, ne_eq, l_0, l_1, l_3, l_5, l_6, l_7, l_8, l_9, l_10, l_14, l_18, l_27, l_34, l_39, l_49, l_86, l_97, l_103, l_106, l_126, l_137, l_165, l_175, l_179, l_190, l_196, l_268435456, hA3, h73, hDw, hw, hsp, q_vW0]
              exact inner _ _ hs
          | some q =>
            have := sWho_some hw
            have hs : sX g a (sD g a p r n) n k = true := by simp [sX, hD, hw, hn0]
            simp (disch := first | assumption | omega) only [b_M_laysSteps_0, b_M_laysSteps_34, b_M_laysSteps_86, b_M_laysSteps_97, b_M_laysSteps_126, b_M_laysSteps_137, b_M_laysSteps_165, b_M_laysSteps_175, b_M_laysSteps_179, b_M_laysSteps_190, b_M_laysSteps_196, s_M_gapOf, s_M_goesOn, s_M_isSpot, s_M_placeIn, s_M_whoIn, s_M_within, ↓Bool.cond_decide, ↓q_in, q_le, q_lt, q_eq, q_leT, q_leF, q_ltT, q_ltF, q_eqT, q_eqF, ↓reduceIte, not_true_eq_false, not_false_eq_true, true_and, and_true, and_self, false_and, and_false, Nat.zero_le, am_bd_some, q_app, q_app0, nI_add, pk_sub, pk_mul, q_dec, q_ix, q_m1, q_m1', ↓q_ret, q_bool, q_bool1, q_u2, q_u1, q_shl1, q_shr, q_and7, q_dg, fa_or, fa_and, decide_true, decide_false, Bool.or_false, Bool.or_true, Bool.true_or, Bool.false_or, cond_true, cond_false, ite_not, q_some, q_nn, q_xor, q_xorm, Bool.false_eq_true, decide_eq_true_eq, ne_eq, l_0, l_1, l_3, l_5, l_6, l_7, l_8, l_9, l_10, l_14, l_18, l_27, l_34, l_39, l_49, l_86, l_97, l_103, l_106, l_126, l_137, l_165, l_175, l_179, l_190, l_196, l_268435456, hA3, h73, hDw, hw, q_vW1]
            exact inner _ _ hs
      · have hDw : wD g a p r (sD g a p r n) n k k ≠ n := fun z => hD ((wD_eq g a p r (sD g a p r n) n k k (by omega)).mp z)
        have hs : sX g a (sD g a p r n) n k = false := by simp [sX, hD]
        simp (disch := first | assumption | omega) only [b_M_laysSteps_0, b_M_laysSteps_34, b_M_laysSteps_86, b_M_laysSteps_97, b_M_laysSteps_103, b_M_laysSteps_126, b_M_laysSteps_137, b_M_laysSteps_165, b_M_laysSteps_175, b_M_laysSteps_179, b_M_laysSteps_190, b_M_laysSteps_196, s_M_gapOf, s_M_goesOn, s_M_isSpot, s_M_placeIn, s_M_whoIn, s_M_within, ↓Bool.cond_decide, ↓q_in, q_le, q_lt, q_eq, q_leT, q_leF, q_ltT, q_ltF, q_eqT, q_eqF, ↓reduceIte, not_true_eq_false, not_false_eq_true, true_and, and_true, and_self, false_and, and_false, Nat.zero_le, am_bd_some, q_app, q_app0, nI_add, pk_sub, pk_mul, q_dec, q_ix, q_m1, q_m1', ↓q_ret, q_bool, q_bool1, q_u2, q_u1, q_shl1, q_shr, q_and7, q_dg, fa_or, fa_and, decide_true, decide_false, Bool.or_false, Bool.or_true, Bool.true_or, Bool.false_or, cond_true, cond_false, ite_not, q_some, q_nn, q_xor, q_xorm, Bool.false_eq_true, decide_eq_true_eq, ne_eq, l_0, l_1, l_3, l_5, l_6, l_7, l_8, l_9, l_10, l_14, l_18, l_27, l_34, l_39, l_49, l_86, l_97, l_103, l_106, l_126, l_137, l_165, l_175, l_179, l_190, l_196, l_268435456, hA3, h73]
        exact skip _ _ hs
    · obtain ⟨i3, z6, z7, e1, e2, hf3, ht3⟩ := hI
      subst e1; subst e2
      have hA3 : ∀ k, k < 3222 → i3 1 k = nI (g k) := MA_fx hf3 hA rfl
      rw [b_M_laysSteps_49]
      simp (disch := first | assumption | omega) only [b_M_laysSteps_0, b_M_laysSteps_34, b_M_laysSteps_86, b_M_laysSteps_97, b_M_laysSteps_103, b_M_laysSteps_126, b_M_laysSteps_137, b_M_laysSteps_165, b_M_laysSteps_175, b_M_laysSteps_179, b_M_laysSteps_190, b_M_laysSteps_196, s_M_gapOf, s_M_goesOn, s_M_isSpot, s_M_placeIn, s_M_whoIn, s_M_within, ↓Bool.cond_decide, ↓q_in, q_le, q_lt, q_eq, q_leT, q_leF, q_ltT, q_ltF, q_eqT, q_eqF, ↓reduceIte, not_true_eq_false, not_false_eq_true, true_and, and_true, and_self, false_and, and_false, Nat.zero_le, am_bd_some, q_app, q_app0, nI_add, pk_sub, pk_mul, q_dec, q_ix, q_m1, q_m1', ↓q_ret, q_bool, q_bool1, q_u2, q_u1, q_shl1, q_shr, q_and7, q_dg, fa_or, fa_and, decide_true, decide_false, Bool.or_false, Bool.or_true, Bool.true_or, Bool.false_or, cond_true, cond_false, ite_not, q_some, q_nn, q_xor, q_xorm, Bool.false_eq_true, decide_eq_true_eq, ne_eq, l_0, l_1, l_3, l_5, l_6, l_7, l_8, l_9, l_10, l_14, l_18, l_27, l_34, l_39, l_49, l_86, l_97, l_103, l_106, l_126, l_137, l_165, l_175, l_179, l_190, l_196, l_268435456, hA3]
      exact Go_in ⟨_, _, _, _, rfl, rfl, hf3, fun x hx => by rw [sD]; exact ht3 x hx⟩
  · obtain ⟨i2, z5, z6, z7, e1, e2, hf2, ht2⟩ := hI
    subst e1; subst e2
    rw [b_M_laysSteps_39]
    simp (disch := first | assumption | omega) only [b_M_laysSteps_0, b_M_laysSteps_34, b_M_laysSteps_86, b_M_laysSteps_97, b_M_laysSteps_103, b_M_laysSteps_126, b_M_laysSteps_137, b_M_laysSteps_165, b_M_laysSteps_175, b_M_laysSteps_179, b_M_laysSteps_190, b_M_laysSteps_196, s_M_gapOf, s_M_goesOn, s_M_isSpot, s_M_placeIn, s_M_whoIn, s_M_within, ↓Bool.cond_decide, ↓q_in, q_le, q_lt, q_eq, q_leT, q_leF, q_ltT, q_ltF, q_eqT, q_eqF, ↓reduceIte, not_true_eq_false, not_false_eq_true, true_and, and_true, and_self, false_and, and_false, Nat.zero_le, am_bd_some, q_app, q_app0, nI_add, pk_sub, pk_mul, q_dec, q_ix, q_m1, q_m1', ↓q_ret, q_bool, q_bool1, q_u2, q_u1, q_shl1, q_shr, q_and7, q_dg, fa_or, fa_and, decide_true, decide_false, Bool.or_false, Bool.or_true, Bool.true_or, Bool.false_or, cond_true, cond_false, ite_not, q_some, q_nn, q_xor, q_xorm, Bool.false_eq_true, decide_eq_true_eq, ne_eq, l_0, l_1, l_3, l_5, l_6, l_7, l_8, l_9, l_10, l_14, l_18, l_27, l_34, l_39, l_49, l_86, l_97, l_103, l_106, l_126, l_137, l_165, l_175, l_179, l_190, l_196, l_268435456]
    exact MR_some ⟨rfl, hf2, ht2⟩
  · rw [sD]
    by_cases e : x = dg a p
    · subst e; simp only [q_u2, if_true]
    · simp only [q_u2, e, if_true, if_false]; exact ht1 x hx
theorem r_M_goings (d : Nat) {a p r : Nat} (ha : a < 4096) (hp : p < g 2) (hr : r < 100) (hA : MA i g) (h1 : g 1 ≤ 6) (h2 : g 2 ≤ 4) (hT : TR g i) : MR (some (.int (nI (sGo g a p r)))) (fun i' l' => l' = l ∧ Fx [7] i i' ∧ ∀ x, x < 8 → i' 7 x = nI (sD g a p r 8 x)) (am_cl (d + 6) mM_goings [.ref 0, .int (nI a), .int (nI p), .int (nI r)] (i, l, rM, kM)) := by
  have hF : FARN = 268435456 := rfl
  rw [c_M_goings, b_M_goings_0]
  refine MR_bd (r_M_laysSteps d ha hp hr hA h1 h2 hT) ?_
  intro i' l' ⟨hl, hf, hs⟩
  subst hl
  have hA' : ∀ k, k < 3222 → i' 1 k = nI (g k) := MA_fx hf hA rfl
  have hM : MA i' g := hA'
  simp (disch := first | assumption | omega) only [b_M_goings_0, b_M_goings_7, b_M_goings_35, b_M_goings_57, b_M_goings_68, b_M_goings_69, s_M_placeIn, s_M_whoIn, ↓Bool.cond_decide, ↓q_in, q_le, q_lt, q_eq, q_leT, q_leF, q_ltT, q_ltF, q_eqT, q_eqF, ↓reduceIte, not_true_eq_false, not_false_eq_true, true_and, and_true, and_self, false_and, and_false, Nat.zero_le, am_bd_some, q_app, q_app0, nI_add, pk_sub, pk_mul, q_dec, q_ix, q_m1, q_m1', ↓q_ret, q_bool, q_bool1, q_u2, q_u1, q_shl1, q_shr, q_and7, q_dg, fa_or, fa_and, decide_true, decide_false, Bool.or_false, Bool.or_true, Bool.true_or, Bool.false_or, cond_true, cond_false, ite_not, q_some, q_nn, q_xor, q_xorm, Bool.false_eq_true, decide_eq_true_eq, ne_eq, l_0, l_1, l_4, l_7, l_8, l_10, l_13, l_15, l_17, l_31, l_35, l_57, l_68, l_69, l_268435456]
  refine am_loop (fun k ls s => ∃ z3, ls = [.val (.ref 0), .val (.int (nI a)), .val (.int (nI p)), z3, .val (.int (nI (bs (sGB g a p r) k))), .val (.int (nI k))] ∧ s = (i', l', rM, kM)) (g 1 + 2) _ (fun k ls s hk hI => ?_) (fun ls s hI => ?_) ⟨_, rfl, rfl⟩
  · obtain ⟨z3, e1, e2⟩ := hI
    subst e1; subst e2
    have hb := bs_lt (sGB g a p r) k
    have hd := dg_lt a p
    have h7 := hs k (by omega)
    have hle := sD_le g a p r 8 k
    rw [b_M_goings_13]
    by_cases q1 : k = dg a p
    · simp (disch := first | assumption | omega) only [b_M_goings_0, b_M_goings_7, b_M_goings_35, b_M_goings_57, b_M_goings_68, b_M_goings_69, s_M_placeIn, s_M_whoIn, ↓Bool.cond_decide, ↓q_in, q_le, q_lt, q_eq, q_leT, q_leF, q_ltT, q_ltF, q_eqT, q_eqF, ↓reduceIte, not_true_eq_false, not_false_eq_true, true_and, and_true, and_self, false_and, and_false, Nat.zero_le, am_bd_some, q_app, q_app0, nI_add, pk_sub, pk_mul, q_dec, q_ix, q_m1, q_m1', ↓q_ret, q_bool, q_bool1, q_u2, q_u1, q_shl1, q_shr, q_and7, q_dg, fa_or, fa_and, decide_true, decide_false, Bool.or_false, Bool.or_true, Bool.true_or, Bool.false_or, cond_true, cond_false, ite_not, q_some, q_nn, q_xor, q_xorm, Bool.false_eq_true, decide_eq_true_eq, ne_eq, l_0, l_1, l_4, l_7, l_8, l_10, l_13, l_15, l_17, l_31, l_35, l_57, l_68, l_69, l_268435456, hA']
      refine Go_in ⟨am_k1 z3, ?_, rfl⟩
      rw [bs, if_neg (by simp [sGB, q1])]
    · by_cases q2 : sD g a p r 8 k < 268435456
      · cases hw : sWho g a k with
        | none =>
          simp (disch := first | assumption | omega) only [b_M_goings_0, b_M_goings_7, b_M_goings_35, b_M_goings_57, b_M_goings_68, b_M_goings_69, s_M_placeIn, s_M_whoIn, ↓Bool.cond_decide, ↓q_in, q_le, q_lt, q_eq, q_leT, q_leF, q_ltT, q_ltF, q_eqT, q_eqF, ↓reduceIte, not_true_eq_false, not_false_eq_true, true_and, and_true, and_self, false_and, and_false, Nat.zero_le, am_bd_some, q_app, q_app0, nI_add, pk_sub, pk_mul, q_dec, q_ix, q_m1, q_m1', ↓q_ret, q_bool, q_bool1, q_u2, q_u1, q_shl1, q_shr, q_and7, q_dg, fa_or, fa_and, decide_true, decide_false, Bool.or_false, Bool.or_true, Bool.true_or, Bool.false_or, cond_true, cond_false, ite_not, q_some, q_nn, q_xor, q_xorm, Bool.false_eq_true, decide_eq_true_eq, ne_eq, l_0, l_1, l_4, l_7, l_8, l_10, l_13, l_15, l_17, l_31, l_35, l_57, l_68, l_69, l_268435456, hA', h7, hw, q_vW0]
          refine Go_in ⟨am_k1 z3, ?_, rfl⟩
          rw [bs, if_pos (by simp [sGB, q1, q2, hw, hF])]
        | some q =>
          have := sWho_some hw
          simp (disch := first | assumption | omega) only [b_M_goings_0, b_M_goings_7, b_M_goings_35, b_M_goings_57, b_M_goings_68, b_M_goings_69, s_M_placeIn, s_M_whoIn, ↓Bool.cond_decide, ↓q_in, q_le, q_lt, q_eq, q_leT, q_leF, q_ltT, q_ltF, q_eqT, q_eqF, ↓reduceIte, not_true_eq_false, not_false_eq_true, true_and, and_true, and_self, false_and, and_false, Nat.zero_le, am_bd_some, q_app, q_app0, nI_add, pk_sub, pk_mul, q_dec, q_ix, q_m1, q_m1', ↓q_ret, q_bool, q_bool1, q_u2, q_u1, q_shl1, q_shr, q_and7, q_dg, fa_or, fa_and, decide_true, decide_false, Bool.or_false, Bool.or_true, Bool.true_or, Bool.false_or, cond_true, cond_false, ite_not, q_some, q_nn, q_xor, q_xorm, Bool.false_eq_true, decide_eq_true_eq, ne_eq, l_0, l_1, l_4, l_7, l_8, l_10, l_13, l_15, l_17, l_31, l_35, l_57, l_68, l_69, l_268435456, hA', h7, hw, q_vW1]
          refine Go_in ⟨am_k1 z3, ?_, rfl⟩
          rw [bs, if_neg (by simp [sGB, hw])]
      · simp (disch := first | assumption | omega) only [b_M_goings_0, b_M_goings_7, b_M_goings_35, b_M_goings_57, b_M_goings_68, b_M_goings_69, s_M_placeIn, s_M_whoIn, ↓Bool.cond_decide, ↓q_in, q_le, q_lt, q_eq, q_leT, q_leF, q_ltT, q_ltF, q_eqT, q_eqF, ↓reduceIte, not_true_eq_false, not_false_eq_true, true_and, and_true, and_self, false_and, and_false, Nat.zero_le, am_bd_some, q_app, q_app0, nI_add, pk_sub, pk_mul, q_dec, q_ix, q_m1, q_m1', ↓q_ret, q_bool, q_bool1, q_u2, q_u1, q_shl1, q_shr, q_and7, q_dg, fa_or, fa_and, decide_true, decide_false, Bool.or_false, Bool.or_true, Bool.true_or, Bool.false_or, cond_true, cond_false, ite_not, q_some, q_nn, q_xor, q_xorm, Bool.false_eq_true, decide_eq_true_eq, ne_eq, l_0, l_1, l_4, l_7, l_8, l_10, l_13, l_15, l_17, l_31, l_35, l_57, l_68, l_69, l_268435456, hA', h7]
        refine Go_in ⟨am_k1 z3, ?_, rfl⟩
        rw [bs, if_neg (by simp [sGB, q2, hF])]
  · obtain ⟨z3, e1, e2⟩ := hI
    subst e1; subst e2
    rw [b_M_goings_13]
    simp (disch := first | assumption | omega) only [b_M_goings_0, b_M_goings_7, b_M_goings_35, b_M_goings_57, b_M_goings_68, b_M_goings_69, s_M_placeIn, s_M_whoIn, ↓Bool.cond_decide, ↓q_in, q_le, q_lt, q_eq, q_leT, q_leF, q_ltT, q_ltF, q_eqT, q_eqF, ↓reduceIte, not_true_eq_false, not_false_eq_true, true_and, and_true, and_self, false_and, and_false, Nat.zero_le, am_bd_some, q_app, q_app0, nI_add, pk_sub, pk_mul, q_dec, q_ix, q_m1, q_m1', ↓q_ret, q_bool, q_bool1, q_u2, q_u1, q_shl1, q_shr, q_and7, q_dg, fa_or, fa_and, decide_true, decide_false, Bool.or_false, Bool.or_true, Bool.true_or, Bool.false_or, cond_true, cond_false, ite_not, q_some, q_nn, q_xor, q_xorm, Bool.false_eq_true, decide_eq_true_eq, ne_eq, l_0, l_1, l_4, l_7, l_8, l_10, l_13, l_15, l_17, l_31, l_35, l_57, l_68, l_69, l_268435456, hA']
    exact MR_some ⟨rfl, hf, hs⟩
end
