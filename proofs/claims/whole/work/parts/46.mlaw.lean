/-! THE LAWS: codes for a stack, over Int32 -/
theorem am_forR {d y pc : Nat} (I : Nat → List Slot → aM → Prop) (n : Nat) (h : ∀ k ls s, k < n → I k ls s → ∃ ls' s', am_Ex d y pc ls [] s = am_Ex d y pc ls' [] s' ∧ I (k + 1) ls' s') : ∀ ls s, I 0 ls s → ∃ ls' s', am_Ex d y pc ls [] s = am_Ex d y pc ls' [] s' ∧ I n ls' s' := by
  induction n with
  | zero => exact fun ls s q => ⟨ls, s, rfl, q⟩
  | succ n ih =>
    intro ls s q
    obtain ⟨ls1, s1, e1, q1⟩ := ih (fun k ls s hk => h k ls s (by omega)) ls s q
    obtain ⟨ls2, s2, e2, q2⟩ := h n ls1 s1 (by omega) q1
    exact ⟨ls2, s2, e1.trans e2, q2⟩
/-- a run comes to a place in the code, and I holds there -/
def Go (d y pc : Nat) (I : List Slot → aM → Prop) (o : Option aR) : Prop := ∃ ls' s', o = am_Ex d y pc ls' [] s' ∧ I ls' s'
theorem Go_in {d y pc : Nat} {I : List Slot → aM → Prop} {ls : List Slot} {s : aM} (h : I ls s) : Go d y pc I (am_Ex d y pc ls [] s) := ⟨ls, s, rfl, h⟩
theorem am_loop {d y pc : Nat} (I : Nat → List Slot → aM → Prop) (n : Nat) (R : Option aR → Prop) (h : ∀ k ls s, k < n → I k ls s → Go d y pc (I (k + 1)) (am_Ex d y pc ls [] s)) (hx : ∀ ls s, I n ls s → R (am_Ex d y pc ls [] s)) {ls : List Slot} {s : aM} (h0 : I 0 ls s) : R (am_Ex d y pc ls [] s) := by
  obtain ⟨ls', s', e, q⟩ := am_forR I n h ls s h0
  rw [e]
  exact hx ls' s' q
theorem q_cle (x y : Int64) : (lg_cmp x y ≤ nI 0) = ¬ y < x := propext (by
  rw [← k_cmp_gt x y, fa_le, fa_lt]
  show _ ↔ ¬ ((0 : Int32).toInt < _)
  exact Int.not_lt.symm)
theorem q_cge (x y : Int64) : (nI 0 ≤ lg_cmp x y) = ¬ x < y := propext (by
  rw [← k_cmp_lt x y, fa_le, fa_lt]
  show _ ↔ ¬ (_ < (0 : Int32).toInt)
  exact Int.not_lt.symm)
theorem q_clt (x y : Int64) : (lg_cmp x y < nI 0) = (x < y) := propext (k_cmp_lt x y)
theorem q_cgt (x y : Int64) : (nI 0 < lg_cmp x y) = (y < x) := propext (k_cmp_gt x y)
theorem q_ceq (x y : Int64) : (lg_cmp x y = nI 0) = (x = y) := propext (k_cmp_eq x y)
theorem q_le32 (x y : Int32) : (x ≤ y) = ¬ y < x := propext (by rw [fa_le, fa_lt]; exact Int.not_lt.symm)
def clamp (v : Int64) : Int32 := (if 1000000 < v then 1000000 else if v < -1000000 then -1000000 else v).toInt32
def bt (c : Nat) (a b : Int32) : Int32 :=
  if c = 3003 then (if a = b then nI 1 else nI 0) else if c = 3004 then (if a < b then nI 1 else nI 0) else if c = 3005 then (if b < a then nI 1 else nI 0)
  else if c = 3007 then a &&& b else if c = 3008 then a ||| b
  else clamp (if c = 3000 then a.toInt64 + b.toInt64 else if c = 3001 then a.toInt64 - b.toInt64 else a.toInt64 * b.toInt64)
def ev1 (w : Nat → Int32) (c : Nat) (st : List Int32) : List Int32 :=
  if c < 1000 then nI c :: st else if c < 3000 then w (c - 1000) :: st
  else if c = 3006 then (match st with | b :: r => (nI 1 - b) :: r | [] => [])
  else (match st with | b :: a :: r => bt c a b :: r | st => st)
def evk (w : Nat → Int32) (c : Nat → Nat) : Nat → List Int32
  | 0 => []
  | k + 1 => ev1 w (c k) (evk w c k)
/-- types on the stack: a truth, or a number -/
def T1 (c : Nat) (ts ts' : List Bool) : Prop :=
  (c < 1010 ∧ ts.length < 64 ∧ ts' = false :: ts) ∨ (c = 3006 ∧ ∃ r, ts = true :: r ∧ ts' = ts) ∨ (3000 ≤ c ∧ c ≤ 3002 ∧ ∃ r, ts = false :: false :: r ∧ ts' = false :: r)
  ∨ (3003 ≤ c ∧ c ≤ 3005 ∧ ∃ r, ts = false :: false :: r ∧ ts' = true :: r) ∨ (3007 ≤ c ∧ c ≤ 3008 ∧ ∃ r, ts = true :: true :: r ∧ ts' = true :: r)
def okT : List Int32 → List Bool → Prop
  | [], [] => True
  | v :: st, t :: ts => (t = true → v = nI 0 ∨ v = nI 1) ∧ okT st ts
  | _, _ => False
def Mt (r : Nat → Int32) : List Int32 → Prop
  | [] => True
  | v :: st => r st.length = v ∧ Mt r st
theorem okT_len : ∀ {st : List Int32} {ts : List Bool}, okT st ts → st.length = ts.length
  | [], [], _ => rfl
  | _ :: st, _ :: ts, h => by
    have := okT_len h.2
    simp only [List.length_cons, this]
  | [], _ :: _, h => h.elim
  | _ :: _, [], h => h.elim
theorem Mt_upd {r : Nat → Int32} {k : Nat} {x : Int32} : ∀ {st : List Int32}, st.length ≤ k → Mt r st → Mt (upd r k x) st
  | [], _, _ => trivial
  | v :: st, hk, h => by
    have hk' : st.length + 1 ≤ k := hk
    refine ⟨?_, Mt_upd (by omega) h.2⟩
    rw [pk_un (by omega)]
    exact h.1
theorem bit01 {v : Int32} : (v = nI 0 ∨ v = nI 1) → nI 1 - v = nI 0 ∨ nI 1 - v = nI 1
  | .inl h => .inr (by rw [h]; rfl)
  | .inr h => .inl (by rw [h]; rfl)
theorem bit02 {a b : Int32} {c : Nat} (h1 : 3003 ≤ c) (h2 : c ≤ 3005) : bt c a b = nI 0 ∨ bt c a b = nI 1 := by
  have h : c = 3003 ∨ c = 3004 ∨ c = 3005 := by omega
  rcases h with h | h | h <;> subst h <;> simp only [bt, if_true, reduceCtorEq, Nat.reduceEqDiff, if_false] <;> split <;> simp
theorem bit03 {a b : Int32} {c : Nat} (ha : a = nI 0 ∨ a = nI 1) (hb : b = nI 0 ∨ b = nI 1) (h1 : 3007 ≤ c) (h2 : c ≤ 3008) : bt c a b = nI 0 ∨ bt c a b = nI 1 := by
  have h : c = 3007 ∨ c = 3008 := by omega
  rcases h with h | h <;> subst h <;> rcases ha with ha | ha <;> rcases hb with hb | hb <;> subst ha <;> subst hb <;> decide
theorem okT_step {w : Nat → Int32} {c : Nat} {st : List Int32} {ts ts' : List Bool} (h : T1 c ts ts') (q : okT st ts) : okT (ev1 w c st) ts' := by
  rcases h with ⟨h1, h2, h3⟩ | ⟨h1, r, h2, h3⟩ | ⟨h1, h2, r, h3, h4⟩ | ⟨h1, h2, r, h3, h4⟩ | ⟨h1, h2, r, h3, h4⟩
  · subst h3
    unfold ev1
    by_cases hc : c < 1000
    · rw [if_pos hc]; exact ⟨(fun z => by cases z), q⟩
    · rw [if_neg hc, if_pos (by omega)]; exact ⟨(fun z => by cases z), q⟩
  · subst h2; subst h3; subst h1
    cases st with
    | nil => exact q.elim
    | cons b st => exact ⟨fun _ => bit01 (q.1 rfl), q.2⟩
  all_goals
    subst h3; subst h4
    have e : ∀ b a r, ev1 w c (b :: a :: r) = bt c a b :: r := fun b a r => by
      unfold ev1
      rw [if_neg (by omega), if_neg (by omega), if_neg (by omega)]
    match st, q with
    | [], q => exact q.elim
    | [b], q => exact q.2.elim
    | b :: a :: st, q =>
      rw [e]
      refine ⟨?_, q.2.2⟩
      first
      | exact fun _ => bit02 h1 h2
      | exact fun _ => bit03 (q.2.1 rfl) (q.1 rfl) h1 h2
      | exact (fun z => by cases z)
theorem okT_k {w : Nat → Int32} {c : Nat → Nat} {T : Nat → List Bool} {n : Nat} (h0 : T 0 = []) (h : ∀ k, k < n → T1 (c k) (T k) (T (k + 1))) : ∀ k, k ≤ n → okT (evk w c k) (T k)
  | 0, _ => by rw [h0]; trivial
  | k + 1, hk => okT_step (h k (by omega)) (okT_k h0 h k (by omega))
theorem T1_len {c : Nat} {ts ts' : List Bool} (h : T1 c ts ts') (q : ts.length ≤ 64) : ts'.length ≤ 64 := by
  rcases h with ⟨h1, h2, h3⟩ | ⟨h1, r, h2, h3⟩ | ⟨h1, h2, r, h3, h4⟩ | ⟨h1, h2, r, h3, h4⟩ | ⟨h1, h2, r, h3, h4⟩
  · subst h3; simp only [List.length_cons]; omega
  · subst h3; exact q
  all_goals
    subst h3; subst h4
    simp only [List.length_cons] at q ⊢
    omega
theorem T_len {c : Nat → Nat} {T : Nat → List Bool} {n : Nat} (h0 : T 0 = []) (h : ∀ k, k < n → T1 (c k) (T k) (T (k + 1))) : ∀ k, k ≤ n → (T k).length ≤ 64
  | 0, _ => by rw [h0]; exact Nat.zero_le _
  | k + 1, hk => T1_len (h k (by omega)) (T_len h0 h k (by omega))
theorem okT_cons {st : List Int32} {t : Bool} {ts : List Bool} (h : okT st (t :: ts)) : ∃ b st', st = b :: st' ∧ okT st' ts := by
  cases st with
  | nil => exact h.elim
  | cons b st => exact ⟨b, st, rfl, h.2⟩
theorem ev1_num {w : Nat → Int32} {c : Nat} {st : List Int32} (h : c < 1000) : ev1 w c st = nI c :: st := by
  unfold ev1; rw [if_pos h]
theorem ev1_word {w : Nat → Int32} {c : Nat} {st : List Int32} (h : ¬ c < 1000) (h2 : c < 3000) : ev1 w c st = w (c - 1000) :: st := by
  unfold ev1; rw [if_neg h, if_pos h2]
theorem ev1_not {w : Nat → Int32} {b : Int32} {st : List Int32} : ev1 w 3006 (b :: st) = (nI 1 - b) :: st := rfl
theorem ev1_bin {w : Nat → Int32} {c : Nat} {a b : Int32} {st : List Int32} (h : 3000 ≤ c) (h2 : c ≠ 3006) : ev1 w c (b :: a :: st) = bt c a b :: st := by
  unfold ev1; rw [if_neg (by omega), if_neg (by omega), if_neg h2]
theorem s_M_between (d : Nat) {c : Nat} (hc : c < 2147483648) (a b : Int32) (s : aM) : am_cl (d + 1) mM_between [.int (nI c), .int a, .int b] s = some (some (.int (bt c a b)), s) := by
  obtain ⟨i, l, q, K⟩ := s
  rw [c_M_between, b_M_between_0]
  by_cases h3 : c = 3003
  · subst h3
    simp only [↓Bool.cond_decide, l_3003, ↓reduceIte, ite_not, b_M_between_50, q_some, l_0, l_1, bt]
  by_cases h4 : c = 3004
  · subst h4
    simp (disch := omega) only [↓Bool.cond_decide, l_3003, l_3004, ↓reduceIte, ite_not, q_eq, q_eqF, b_M_between_61, q_some, l_0, l_1, bt, q_le32]
  by_cases h5 : c = 3005
  · subst h5
    simp (disch := omega) only [↓Bool.cond_decide, l_3003, l_3004, l_3005, ↓reduceIte, ite_not, q_eq, q_eqF, b_M_between_72, q_some, l_0, l_1, bt, q_le32]
  by_cases h7 : c = 3007
  · subst h7
    simp (disch := omega) only [↓Bool.cond_decide, l_3003, l_3004, l_3005, l_3006, l_3007, ↓reduceIte, ite_not, q_eq, q_eqF, bt]
  by_cases h8 : c = 3008
  · subst h8
    simp (disch := omega) only [↓Bool.cond_decide, l_3003, l_3004, l_3005, l_3006, l_3007, l_3008, ↓reduceIte, ite_not, q_eq, q_eqF, bt]
  have key : ∀ z0 z1 z2 z3 z4 v, am_Ex d mM_between 116 [z0, z1, z2, z3, z4] [.long v] (i, l, q, K) = some (some (.int (clamp v)), (i, l, q, K)) := by
    intro z0 z1 z2 z3 z4 v
    rw [b_M_between_116]
    simp only [↓Bool.cond_decide, l_0, q_cle, q_cge, ite_not, b_M_between_136, b_M_between_146, clamp]
    by_cases e1 : 1000000 < v
    · simp only [e1, if_true]
    · simp only [e1, if_false]
      by_cases e2 : v < -1000000
      · simp only [e2, if_true]
      · simp only [e2, if_false]
  simp (disch := omega) only [↓Bool.cond_decide, l_3003, l_3004, l_3005, l_3006, l_3007, l_3008, l_3000, l_3001, ↓reduceIte, q_eq, q_eqF, bt, key, ite_not]
  by_cases e0 : c = 3000
  · simp only [e0, if_true, ite_self]
    rfl
  by_cases e1 : c = 3001
  · simp only [e1, e0, if_true, if_false, ite_self]
    rfl
  · simp only [e1, e0, if_false, ite_self]
section
variable {i : Nat → Nat → Int32} {l : Nat → Nat → Int64} {g : Nat → Nat}
theorem s_M_reckons (d : Nat) {law n : Nat} {c : Nat → Nat} {T : Nat → List Bool} (hl : law < 2) (hA : MA i g) (hn : g (8 + law) = n) (hf : g (6 + law) + n ≤ 900) (hc : ∀ k, k < n → g (174 + g (6 + law) + k) = c k) (h0 : T 0 = []) (hT : ∀ k, k < n → T1 (c k) (T k) (T (k + 1))) (h1 : T n = [true]) : ∃ f, am_cl (d + 2) mM_reckons [.ref 0, .int (nI law)] (i, l, rM, kM) = some (some (.int (if evk (i 6) c n = [nI 1] then nI 1 else nI 0)), (am_u1 i 5 f, l, rM, kM)) := by
  have hA' : ∀ k, k < 3222 → i 1 k = nI (g k) := hA
  rw [c_M_reckons, b_M_reckons_0]
  have loop := am_forR (d := d + 1) (y := mM_reckons) (pc := 4) (fun k ls s => ∃ f z, ls = [.val (.ref 0), .val (.int (nI law)), .val (.int (nI (evk (i 6) c k).length)), .val (.int (nI k)), z] ∧ s = (am_u1 i 5 f, l, rM, kM) ∧ Mt f (evk (i 6) c k)) n (fun k ls s hk hI => by
    obtain ⟨f, z, e1, e2, hM⟩ := hI
    subst e1; subst e2
    have ho := okT_k (w := i 6) h0 hT k (by omega)
    have hl1 := T_len h0 hT k (by omega)
    have hle := okT_len ho
    rw [b_M_reckons_4]
    have hck := hc k hk
    rcases hT k hk with ⟨h1, h2, h3⟩ | ⟨h1, r, h2, h3⟩ | ⟨h1, h2, r, h3, h4⟩ | ⟨h1, h2, r, h3, h4⟩ | ⟨h1, h2, r, h3, h4⟩
    · by_cases hcc : c k < 1000
      · have e : evk (i 6) c (k + 1) = nI (c k) :: evk (i 6) c k := by rw [evk, ev1_num hcc]
        simp (disch := first | assumption | omega) only [b_M_reckons_0, b_M_reckons_76, b_M_reckons_115, b_M_reckons_141, b_M_reckons_142, b_M_reckons_163, s_M_between, ↓Bool.cond_decide, ↓q_in, q_le, q_lt, q_eq, q_leT, q_leF, q_ltT, q_ltF, q_eqT, q_eqF, ↓reduceIte, not_true_eq_false, not_false_eq_true, true_and, and_true, and_self, false_and, and_false, Nat.zero_le, am_bd_some, q_app, q_app0, nI_add, pk_sub, pk_mul, q_dec, q_ix, q_m1, q_m1', ↓q_ret, q_bool, q_bool1, q_u2, q_u1, q_shl1, q_shr, q_and7, q_dg, fa_or, fa_and, decide_true, decide_false, Bool.or_false, Bool.or_true, Bool.true_or, Bool.false_or, cond_true, cond_false, ite_not, q_some, q_nn, q_xor, q_xorm, Bool.false_eq_true, decide_eq_true_eq, ne_eq, l_0, l_1, l_3, l_4, l_5, l_6, l_7, l_8, l_10, l_19, l_75, l_76, l_115, l_141, l_142, l_163, l_174, l_900, l_1000, l_3000, l_3006, l_3222, hA', hck, hn, q_u21]
        exact ⟨_, _, rfl, _, _, by rw [e]; rfl, rfl, by rw [e]; exact ⟨if_pos rfl, Mt_upd (Nat.le_refl _) hM⟩⟩
      · have e : evk (i 6) c (k + 1) = i 6 (c k - 1000) :: evk (i 6) c k := by rw [evk, ev1_word hcc (by omega)]
        simp (disch := first | assumption | omega) only [b_M_reckons_0, b_M_reckons_76, b_M_reckons_115, b_M_reckons_141, b_M_reckons_142, b_M_reckons_163, s_M_between, ↓Bool.cond_decide, ↓q_in, q_le, q_lt, q_eq, q_leT, q_leF, q_ltT, q_ltF, q_eqT, q_eqF, ↓reduceIte, not_true_eq_false, not_false_eq_true, true_and, and_true, and_self, false_and, and_false, Nat.zero_le, am_bd_some, q_app, q_app0, nI_add, pk_sub, pk_mul, q_dec, q_ix, q_m1, q_m1', ↓q_ret, q_bool, q_bool1, q_u2, q_u1, q_shl1, q_shr, q_and7, q_dg, fa_or, fa_and, decide_true, decide_false, Bool.or_false, Bool.or_true, Bool.true_or, Bool.false_or, cond_true, cond_false, ite_not, q_some, q_nn, q_xor, q_xorm, Bool.false_eq_true, decide_eq_true_eq, ne_eq, l_0, l_1, l_3, l_4, l_5, l_6, l_7, l_8, l_10, l_19, l_75, l_76, l_115, l_141, l_142, l_163, l_174, l_900, l_1000, l_3000, l_3006, l_3222, hA', hck, hn, q_u21]
        exact ⟨_, _, rfl, _, _, by rw [e]; rfl, rfl, by rw [e]; exact ⟨if_pos rfl, Mt_upd (Nat.le_refl _) hM⟩⟩
    · rw [h2] at ho
      obtain ⟨b, st, hs, _⟩ := okT_cons ho
      have e : evk (i 6) c (k + 1) = (nI 1 - b) :: st := by rw [evk, h1, hs, ev1_not]
      rw [hs] at hle hM
      rw [List.length_cons] at hle
      have hb := hM.1
      rw [hs, List.length_cons]
      simp (disch := first | assumption | omega) only [b_M_reckons_0, b_M_reckons_76, b_M_reckons_115, b_M_reckons_141, b_M_reckons_142, b_M_reckons_163, s_M_between, ↓Bool.cond_decide, ↓q_in, q_le, q_lt, q_eq, q_leT, q_leF, q_ltT, q_ltF, q_eqT, q_eqF, ↓reduceIte, not_true_eq_false, not_false_eq_true, true_and, and_true, and_self, false_and, and_false, Nat.zero_le, am_bd_some, q_app, q_app0, nI_add, pk_sub, pk_mul, q_dec, q_ix, q_m1, q_m1', ↓q_ret, q_bool, q_bool1, q_u2, q_u1, q_shl1, q_shr, q_and7, q_dg, fa_or, fa_and, decide_true, decide_false, Bool.or_false, Bool.or_true, Bool.true_or, Bool.false_or, cond_true, cond_false, ite_not, q_some, q_nn, q_xor, q_xorm, Bool.false_eq_true, decide_eq_true_eq, ne_eq, l_0, l_1, l_3, l_4, l_5, l_6, l_7, l_8, l_10, l_19, l_75, l_76, l_115, l_141, l_142, l_163, l_174, l_900, l_1000, l_3000, l_3006, l_3222, hA', hck, hn, q_u21, Nat.add_sub_cancel, hb]
      exact ⟨_, _, rfl, _, _, by rw [e]; rfl, rfl, by rw [e]; exact ⟨if_pos rfl, Mt_upd (Nat.le_refl _) hM.2⟩⟩
    all_goals
      rw [h3] at ho
      obtain ⟨b, st, hs, ho2⟩ := okT_cons ho
      obtain ⟨a, st, rfl, _⟩ := okT_cons ho2
      have e : evk (i 6) c (k + 1) = bt (c k) a b :: st := by rw [evk, hs, ev1_bin (by omega) (by omega)]
      rw [hs] at hle hM
      simp only [List.length_cons] at hle
      have hb := hM.1
      have ha := hM.2.1
      rw [List.length_cons] at hb
      have e2 : st.length + 1 + 1 - 1 = st.length + 1 := rfl
      have e3 : st.length + 1 - 1 = st.length := rfl
      rw [hs, List.length_cons, List.length_cons]
      simp (disch := first | assumption | omega) only [b_M_reckons_0, b_M_reckons_76, b_M_reckons_115, b_M_reckons_141, b_M_reckons_142, b_M_reckons_163, s_M_between, ↓Bool.cond_decide, ↓q_in, q_le, q_lt, q_eq, q_leT, q_leF, q_ltT, q_ltF, q_eqT, q_eqF, ↓reduceIte, not_true_eq_false, not_false_eq_true, true_and, and_true, and_self, false_and, and_false, Nat.zero_le, am_bd_some, q_app, q_app0, nI_add, pk_sub, pk_mul, q_dec, q_ix, q_m1, q_m1', ↓q_ret, q_bool, q_bool1, q_u2, q_u1, q_shl1, q_shr, q_and7, q_dg, fa_or, fa_and, decide_true, decide_false, Bool.or_false, Bool.or_true, Bool.true_or, Bool.false_or, cond_true, cond_false, ite_not, q_some, q_nn, q_xor, q_xorm, Bool.false_eq_true, decide_eq_true_eq, ne_eq, l_0, l_1, l_3, l_4, l_5, l_6, l_7, l_8, l_10, l_19, l_75, l_76, l_115, l_141, l_142, l_163, l_174, l_900, l_1000, l_3000, l_3006, l_3222, hA', hck, hn, q_u21, e2, e3, hb, ha]
      rw [e]
      refine ⟨_, _, rfl, _, _, rfl, rfl, ?_⟩
      exact ⟨if_pos rfl, Mt_upd (Nat.le_refl _) hM.2.2⟩) [.val (.ref 0), .val (.int (nI law)), .val (.int 0), .val (.int 0), .unset] (i, l, rM, kM) ⟨i 5, .unset, rfl, by rw [q_u11], trivial⟩
  obtain ⟨ls, s, e, f, z, e1, e2, hM⟩ := loop
  subst e1; subst e2
  refine ⟨f, ?_⟩
  rw [show (am_Ex (d + 1) mM_reckons 4 [.val (.ref 0), .val (.int (nI law)), .val (.int 0), .val (.int 0), .unset] [] (i, l, rM, kM)) = _ from e]
  have ho := okT_k (w := i 6) h0 hT n (Nat.le_refl _)
  rw [h1] at ho
  obtain ⟨b, st, hs, ho2⟩ := okT_cons ho
  have hst : st = [] := by cases st with | nil => rfl | cons _ _ => exact ho2.elim
  subst hst
  rw [hs] at hM ⊢
  have hb : f 0 = b := hM.1
  rw [b_M_reckons_4]
  simp (disch := first | assumption | omega) only [b_M_reckons_0, b_M_reckons_76, b_M_reckons_115, b_M_reckons_141, b_M_reckons_142, b_M_reckons_163, s_M_between, ↓Bool.cond_decide, ↓q_in, q_le, q_lt, q_eq, q_leT, q_leF, q_ltT, q_ltF, q_eqT, q_eqF, ↓reduceIte, not_true_eq_false, not_false_eq_true, true_and, and_true, and_self, false_and, and_false, Nat.zero_le, am_bd_some, q_app, q_app0, nI_add, pk_sub, pk_mul, q_dec, q_ix, q_m1, q_m1', ↓q_ret, q_bool, q_bool1, q_u2, q_u1, q_shl1, q_shr, q_and7, q_dg, fa_or, fa_and, decide_true, decide_false, Bool.or_false, Bool.or_true, Bool.true_or, Bool.false_or, cond_true, cond_false, ite_not, q_some, q_nn, q_xor, q_xorm, Bool.false_eq_true, decide_eq_true_eq, ne_eq, l_0, l_1, l_3, l_4, l_5, l_6, l_7, l_8, l_10, l_19, l_75, l_76, l_115, l_141, l_142, l_163, l_174, l_900, l_1000, l_3000, l_3006, l_3222, hA', hn, hb, List.cons.injEq]
end
