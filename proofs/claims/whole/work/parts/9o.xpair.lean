/-! THE CLASS: pairs -/
def cP (fr : Nat → Nat) (p k set : Nat) : Bool := decide (p ≠ k) && set.testBit p && set.testBit k && (fr p).testBit k
def mxN (a b : Nat) : Nat := if a < b then b else a
def pq2 (fr A : Nat → Nat) (set p : Nat) : Nat → Nat
  | 0 => 0
  | k + 1 => if cP fr p k set = true then mxN (pq2 fr A set p k) (1 + A (set &&& ((2 ^ p ||| 2 ^ k) ^^^ 4294967295))) else pq2 fr A set p k
def pv (fr A : Nat → Nat) (set : Nat) : Nat := match ff (fun p => set.testBit p) 4 0 with
  | none => 0
  | some p => mxN (pq2 fr A set p 4) (A (set &&& (2 ^ p ^^^ 4294967295)))
def pA (fr : Nat → Nat) : Nat → Nat → Nat
  | 0 => fun _ => 0
  | k + 1 => ug (pA fr k) k (pv fr (pA fr k) k)
def fM (fr A : Nat → Nat) (p free : Nat) : Option Nat := ff (fun k => cP fr p k free && decide (1 + A (free &&& ((2 ^ p ||| 2 ^ k) ^^^ 4294967295)) = A free)) 4 0
def mS (fr A : Nat → Nat) (ev : Nat) : Nat → Nat × (Nat → Nat)
  | 0 => (ev, fun _ => 0)
  | p + 1 => if (mS fr A ev p).1.testBit p = true then (match fM fr A p (mS fr A ev p).1 with
    | none => ((mS fr A ev p).1 &&& (2 ^ p ^^^ 4294967295), (mS fr A ev p).2)
    | some k => (((mS fr A ev p).1 &&& (2 ^ p ^^^ 4294967295)) &&& (2 ^ k ^^^ 4294967295), ug (ug (mS fr A ev p).2 p (k + 1)) k (p + 1))) else mS fr A ev p
def frF (F : Nat → Nat → Bool) (P p : Nat) : Nat := bs (fun k => decide (p < P) && decide (p ≠ k) && F p k) P
/-- friendships by a number -/
def Fc (c p k : Nat) : Bool := c.testBit (if p < k then (if p = 0 then k - 1 else p + k) else (if k = 0 then p - 1 else k + p))
def chkP (c P : Nat) : Bool := decide ((gP (Fc c) P 5 0 0 (fun _ => 0) (0, fun _ => 0)).1 = pA (frF (Fc c) P) 16 (2 ^ P - 1) + 1) && fAll (fun p => decide (P ≤ p) || decide ((gP (Fc c) P 5 0 0 (fun _ => 0) (0, fun _ => 0)).2 p = mI ((mS (frF (Fc c) P) (pA (frF (Fc c) P) 16) (2 ^ P - 1) 4).2 p))) 4
theorem chk_ok : ∀ c, c < 64 → ∀ P, P < 5 → chkP c P = true := by decide +kernel
theorem gP_cg {F H : Nat → Nat → Bool} {P : Nat} (hP : P ≤ 4) (h : ∀ p k, p < k → k < 4 → F p k = H p k) : ∀ f p n w s, gP F P f p n w s = gP H P f p n w s
  | 0, _, _, _, _ => rfl
  | f + 1, p, n, w, s => by
    rw [gP, gP]
    by_cases e : p = P
    · rw [if_pos e, if_pos e]
    · rw [if_neg e, if_neg e]
      by_cases hw : w p ≠ 0
      · rw [if_pos hw, if_pos hw]; exact gP_cg hP h f _ _ _ _
      · rw [if_neg hw, if_neg hw, gP_cg hP h f]
        congr 1
        have it : ∀ m, m ≤ P - (p + 1) → itN (fun k s => if w (p + 1 + k) ≠ 0 ∨ F p (p + 1 + k) = false then s else gP F P f (p + 1) (n + 1) (ug (ug w p (p + 1 + k + 1)) (p + 1 + k) (p + 1)) s) m s = itN (fun k s => if w (p + 1 + k) ≠ 0 ∨ H p (p + 1 + k) = false then s else gP H P f (p + 1) (n + 1) (ug (ug w p (p + 1 + k + 1)) (p + 1 + k) (p + 1)) s) m s := by
          intro m
          induction m with
          | zero => intro _; rfl
          | succ m ih =>
            intro hm
            simp only [itN]
            rw [ih (by omega), h p (p + 1 + m) (by omega) (by omega), gP_cg hP h f]
        exact it _ (Nat.le_refl _)
def cG (F : Nat → Nat → Bool) : Nat := bs (fun j => if j = 0 then F 0 1 else if j = 1 then F 0 2 else if j = 2 then F 0 3 else if j = 3 then F 1 2 else if j = 4 then F 1 3 else F 2 3) 6
theorem Fc_cG (F : Nat → Nat → Bool) : ∀ p k, p < k → k < 4 → Fc (cG F) p k = F p k := by
  intro p k h1 h2
  unfold Fc cG
  rw [if_pos h1, bs_bit]
  rcases (show (p = 0 ∧ k = 1) ∨ (p = 0 ∧ k = 2) ∨ (p = 0 ∧ k = 3) ∨ (p = 1 ∧ k = 2) ∨ (p = 1 ∧ k = 3) ∨ (p = 2 ∧ k = 3) by omega) with ⟨rfl, rfl⟩ | ⟨rfl, rfl⟩ | ⟨rfl, rfl⟩ | ⟨rfl, rfl⟩ | ⟨rfl, rfl⟩ | ⟨rfl, rfl⟩ <;> simp
theorem Fc_sy (c p k : Nat) (h : p ≠ k) : Fc c p k = Fc c k p := by
  unfold Fc
  by_cases c1 : p < k
  · rw [if_pos c1, if_neg (show ¬ k < p by omega)]
  · rw [if_neg c1, if_pos (show k < p by omega)]
theorem frF_cg {F : Nat → Nat → Bool} (hs : ∀ p k, F p k = F k p) {P : Nat} (hP : P ≤ 4) (p : Nat) : frF (Fc (cG F)) P p = frF F P p := by
  unfold frF
  apply bs_cong
  intro k hk
  by_cases h1 : p < P
  · by_cases h2 : p = k
    · rw [decide_eq_false (show ¬ p ≠ k from fun z => z h2)]; simp
    · have e : Fc (cG F) p k = F p k := by
        by_cases c : p < k
        · exact Fc_cG F p k c (by omega)
        · rw [Fc_sy _ p k h2, hs p k]
          exact Fc_cG F k p (by omega) (by omega)
      rw [e]
  · rw [decide_eq_false h1]; rfl
theorem pairs_ok {F : Nat → Nat → Bool} (hs : ∀ p k, F p k = F k p) {P : Nat} (hP : P ≤ 4) : (gP F P 5 0 0 (fun _ => 0) (0, fun _ => 0)).1 = pA (frF F P) 16 (2 ^ P - 1) + 1 ∧ ∀ p, p < P → (gP F P 5 0 0 (fun _ => 0) (0, fun _ => 0)).2 p = mI ((mS (frF F P) (pA (frF F P) 16) (2 ^ P - 1) 4).2 p) := by
  have h := chk_ok (cG F) (bs_lt _ 6) P (by omega)
  have e1 : gP (Fc (cG F)) P 5 0 0 (fun _ => 0) (0, fun _ => 0) = gP F P 5 0 0 (fun _ => 0) (0, fun _ => 0) := gP_cg hP (Fc_cG F) _ _ _ _ _
  have e2 : frF (Fc (cG F)) P = frF F P := funext (fun p => frF_cg hs hP p)
  unfold chkP at h
  rw [e1, e2, Bool.and_eq_true, decide_eq_true_eq] at h
  refine ⟨h.1, fun p hp => ?_⟩
  have := (fAll_iff 4).mp h.2 p (by omega)
  rw [decide_eq_false (show ¬ P ≤ p by omega), Bool.false_or, decide_eq_true_eq] at this
  exact this
/-- no more than half are pairs -/
theorem pA_le (fr : Nat → Nat) : ∀ k L, pA fr k L ≤ k
  | 0, _ => Nat.le_refl _
  | k + 1, L => by
    rw [pA]
    unfold ug
    have ih := pA_le fr k
    by_cases c : L = k
    · rw [if_pos c]
      unfold pv
      have hq : ∀ p j, pq2 fr (pA fr k) k p j ≤ k + 1 := by
        intro p j
        induction j with
        | zero => rw [pq2]; omega
        | succ j ihj =>
          rw [pq2]
          split
          · unfold mxN
            split
            · have := ih (k &&& ((2 ^ p ||| 2 ^ j) ^^^ 4294967295)); omega
            · exact ihj
          · exact ihj
      cases ff (fun p => k.testBit p) 4 0 with
      | none => dsimp only; omega
      | some p =>
        dsimp only
        unfold mxN
        split
        · have := ih (k &&& (2 ^ p ^^^ 4294967295)); omega
        · exact hq p 4
    · rw [if_neg c]
      have := ih L; omega
theorem k_and2 : ∀ s, s < 16 → ∀ x, x < 16 → s.testBit (x / 4) = true → (s &&& ((2 ^ (x / 4) ||| 2 ^ (x % 4)) ^^^ 4294967295) < s ∧ s &&& (2 ^ (x / 4) ^^^ 4294967295) < s) := by decide +kernel
theorem k_and3 {s p k : Nat} (hs : s < 16) (hp : p < 4) (hk : k < 4) (h : s.testBit p = true) : s &&& ((2 ^ p ||| 2 ^ k) ^^^ 4294967295) < s ∧ s &&& (2 ^ p ^^^ 4294967295) < s := by
  have := k_and2 s hs (4 * p + k) (by omega)
  rw [show (4 * p + k) / 4 = p by omega, show (4 * p + k) % 4 = k by omega] at this
  exact this h
section
variable {i i' : Nat → Nat → Int32} {l l' : Nat → Nat → Int64} {q q' : Nat → Nat → Option Nat} {K : List (Nat × Nat)} {r m : Nat} {g : Nat → Nat} {ρ : Nat → Nat → Nat} {fr A : Nat → Nat}
theorem in16 {n N : Nat} (h : n < N) (hN : N < 2147483648) : am_in (nI n) N = true := by
  unfold am_in
  rw [nI_clamp (by omega), decide_eq_true (show (0 : Int32) ≤ nI n from by
    show nI 0 ≤ nI n
    rw [q_le (by omega) (by omega)]; omega), decide_eq_true h]; rfl
theorem s_Few_mostPairs (d : Nat) {s : Nat} (hs : s < 16) (hA : i 46 s = nI (A s)) : am_cl (d + 1) mFew_mostPairs [.ref 39, .int (nI s)] (i, l, rX q, kX K) = some (some (.int (nI (A s))), (i, l, rX q, kX K)) := by
  have e : nI s &&& (15 : Int32) = nI s := by
    rw [show nI s &&& (15 : Int32) = nI (s &&& 15) from fa_and s 15, show (15 : Nat) = 2 ^ 4 - 1 from rfl, Nat.and_two_pow_sub_one_eq_mod, Nat.mod_eq_of_lt hs]
  rw [c_Few_mostPairs, b_Few_mostPairs_0, e, in16 hs (by decide), cond_true, nI_clamp (by omega), hA]
theorem s_Few_canPair (d : Nat) {p k s : Nat} (hp : p < 4) (hk : k < 4) (hs : s < 16) (hf : i 44 p = nI (fr p)) (hfl : fr p < 16) : am_cl (d + 2) mFew_canPair [.ref 39, .int (nI p), .int (nI k), .int (nI s)] (i, l, rX q, kX K) = some (some (.int (if cP fr p k s = true then nI 1 else nI 0)), (i, l, rX q, kX K)) := by
  have h1 := s_X_hasBit' d (a := s) (k := p) (by omega) (by omega) (i, l, rX q, kX K)
  have h2 := s_X_hasBit' d (a := s) (k := k) (by omega) (by omega) (i, l, rX q, kX K)
  have h3 := s_X_hasBit' d (a := fr p) (k := k) (by omega) (by omega) (i, l, rX q, kX K)
  rw [c_Few_canPair, b_Few_canPair_0]
  unfold cP
  by_cases e : p = k
  · subst e
    simp (disch := first | assumption | omega) only [b_Few_canPair_0, b_Few_canPair_10, b_Few_canPair_18, b_Few_canPair_31, b_Few_canPair_38, b_Few_canPair_39, s_X_hasBit, s_X_hasBit', ↓Bool.cond_decide, ↓q_in, q_le, q_lt, q_eq, q_leT, q_leF, q_ltT, q_ltF, q_eqT, q_eqF, ↓reduceIte, not_true_eq_false, not_false_eq_true, true_and, and_true, and_self, false_and, and_false, Nat.zero_le, am_bd_some, q_app, q_app0, nI_add, pk_sub, pk_mul, q_dec, q_ix, q_m1, q_m1', ↓q_ret, q_bool, q_bool1, q_u2, q_u1, q_shl1, q_shr, q_and7, q_dg, fa_or, fa_and, decide_true, decide_false, Bool.or_false, Bool.or_true, Bool.true_or, Bool.false_or, cond_true, cond_false, ite_not, q_some, q_nn, q_xor, q_xorm, Bool.false_eq_true, decide_eq_true_eq, ne_eq, l_0, l_1, l_3, l_4, l_7, l_9, l_10, l_18, l_31, l_38, l_39, l_44, Bool.false_and, decide_false]
  · cases b1 : s.testBit p with
    | false =>
      rw [b1] at h1
      simp (disch := first | assumption | omega) only [b_Few_canPair_0, b_Few_canPair_10, b_Few_canPair_18, b_Few_canPair_31, b_Few_canPair_38, b_Few_canPair_39, ↓Bool.cond_decide, ↓q_in, q_le, q_lt, q_eq, q_leT, q_leF, q_ltT, q_ltF, q_eqT, q_eqF, ↓reduceIte, not_true_eq_false, not_false_eq_true, true_and, and_true, and_self, false_and, and_false, Nat.zero_le, am_bd_some, q_app, q_app0, nI_add, pk_sub, pk_mul, q_dec, q_ix, q_m1, q_m1', ↓q_ret, q_bool, q_bool1, q_u2, q_u1, q_shl1, q_shr, q_and7, q_dg, fa_or, fa_and, decide_true, decide_false, Bool.or_false, Bool.or_true, Bool.true_or, Bool.false_or, cond_true, cond_false, ite_not, q_some, q_nn, q_xor, q_xorm, Bool.false_eq_true, decide_eq_true_eq, ne_eq, l_0, l_1, l_3, l_4, l_7, l_9, l_10, l_18, l_31, l_38, l_39, l_44, e, h1]
      simp
    | true =>
      cases b2 : s.testBit k with
      | false =>
        rw [b1] at h1
        rw [b2] at h2
        simp (disch := first | assumption | omega) only [b_Few_canPair_0, b_Few_canPair_10, b_Few_canPair_18, b_Few_canPair_31, b_Few_canPair_38, b_Few_canPair_39, ↓Bool.cond_decide, ↓q_in, q_le, q_lt, q_eq, q_leT, q_leF, q_ltT, q_ltF, q_eqT, q_eqF, ↓reduceIte, not_true_eq_false, not_false_eq_true, true_and, and_true, and_self, false_and, and_false, Nat.zero_le, am_bd_some, q_app, q_app0, nI_add, pk_sub, pk_mul, q_dec, q_ix, q_m1, q_m1', ↓q_ret, q_bool, q_bool1, q_u2, q_u1, q_shl1, q_shr, q_and7, q_dg, fa_or, fa_and, decide_true, decide_false, Bool.or_false, Bool.or_true, Bool.true_or, Bool.false_or, cond_true, cond_false, ite_not, q_some, q_nn, q_xor, q_xorm, Bool.false_eq_true, decide_eq_true_eq, ne_eq, l_0, l_1, l_3, l_4, l_7, l_9, l_10, l_18, l_31, l_38, l_39, l_44, e, h1, h2]
        simp
      | true =>
        rw [b1] at h1
        rw [b2] at h2
        cases b3 : (fr p).testBit k with
        | false =>
          rw [b3] at h3
          simp (disch := first | assumption | omega) only [b_Few_canPair_0, b_Few_canPair_10, b_Few_canPair_18, b_Few_canPair_31, b_Few_canPair_38, b_Few_canPair_39, ↓Bool.cond_decide, ↓q_in, q_le, q_lt, q_eq, q_leT, q_leF, q_ltT, q_ltF, q_eqT, q_eqF, ↓reduceIte, not_true_eq_false, not_false_eq_true, true_and, and_true, and_self, false_and, and_false, Nat.zero_le, am_bd_some, q_app, q_app0, nI_add, pk_sub, pk_mul, q_dec, q_ix, q_m1, q_m1', ↓q_ret, q_bool, q_bool1, q_u2, q_u1, q_shl1, q_shr, q_and7, q_dg, fa_or, fa_and, decide_true, decide_false, Bool.or_false, Bool.or_true, Bool.true_or, Bool.false_or, cond_true, cond_false, ite_not, q_some, q_nn, q_xor, q_xorm, Bool.false_eq_true, decide_eq_true_eq, ne_eq, l_0, l_1, l_3, l_4, l_7, l_9, l_10, l_18, l_31, l_38, l_39, l_44, e, h1, h2, hf, h3]
          simp
        | true =>
          rw [b3] at h3
          simp (disch := first | assumption | omega) only [b_Few_canPair_0, b_Few_canPair_10, b_Few_canPair_18, b_Few_canPair_31, b_Few_canPair_38, b_Few_canPair_39, ↓Bool.cond_decide, ↓q_in, q_le, q_lt, q_eq, q_leT, q_leF, q_ltT, q_ltF, q_eqT, q_eqF, ↓reduceIte, not_true_eq_false, not_false_eq_true, true_and, and_true, and_self, false_and, and_false, Nat.zero_le, am_bd_some, q_app, q_app0, nI_add, pk_sub, pk_mul, q_dec, q_ix, q_m1, q_m1', ↓q_ret, q_bool, q_bool1, q_u2, q_u1, q_shl1, q_shr, q_and7, q_dg, fa_or, fa_and, decide_true, decide_false, Bool.or_false, Bool.or_true, Bool.true_or, Bool.false_or, cond_true, cond_false, ite_not, q_some, q_nn, q_xor, q_xorm, Bool.false_eq_true, decide_eq_true_eq, ne_eq, l_0, l_1, l_3, l_4, l_7, l_9, l_10, l_18, l_31, l_38, l_39, l_44, e, h1, h2, hf, h3]
          simp [e]
theorem s_Few_firstMate (d : Nat) {p s : Nat} (hp : p < 4) (hs : s < 16) (hsp : s.testBit p = true) (hf : i 44 p = nI (fr p)) (hfl : fr p < 16) (hA : ∀ L, L < 16 → i 46 L = nI (A L)) (hAl : ∀ L, A L ≤ 100) : am_cl (d + 3) mFew_firstMate [.ref 39, .int (nI p), .int (nI s)] (i, l, rX q, kX K) = some (some (.int (vW (fM fr A p s))), (i, l, rX q, kX K)) := by
  rw [c_Few_firstMate, b_Few_firstMate_0]
  unfold fM
  refine am_find (d := d + 2) (y := mFew_firstMate) (pc := 2) (fun k ls st => ls = [.val (.ref 39), .val (.int (nI p)), .val (.int (nI s)), .val (.int (nI k))] ∧ st = (i, l, rX q, kX K)) (fun k => cP fr p k s && decide (1 + A (s &&& ((2 ^ p ||| 2 ^ k) ^^^ 4294967295)) = A s)) (fun o rs => rs = some (some (.int (vW o)), (i, l, rX q, kX K))) 4 0 (fun k ls st _ hk hI => ?_) (fun ls st hI => ?_) _ _ ⟨rfl, rfl⟩
  · obtain ⟨e1, e2⟩ := hI
    subst e1; subst e2
    have hk4 : k < 4 := by omega
    have hc := s_Few_canPair (i := i) (l := l) (q := q) (K := K) d hp hk4 hs hf hfl
    obtain ⟨a1, a2⟩ := k_and3 hs hp hk4 hsp
    have em : nI s &&& ((((1 : Int32) <<< (nI p &&& 31)) ||| ((1 : Int32) <<< (nI k &&& 31))) ^^^ ((-1) : Int32)) = nI (s &&& ((2 ^ p ||| 2 ^ k) ^^^ 4294967295)) := by
      rw [k_shl1 (by omega), k_shl1 (by omega), fa_or, show nI (2 ^ p ||| 2 ^ k) ^^^ (-1 : Int32) = nI ((2 ^ p ||| 2 ^ k) ^^^ 4294967295) from q_xorm _, fa_and]
    have m1 := s_Few_mostPairs (i := i) (l := l) (q := q) (K := K) (A := A) (d + 1) (s := s &&& ((2 ^ p ||| 2 ^ k) ^^^ 4294967295)) (by omega) (hA _ (by omega))
    have m2 := s_Few_mostPairs (i := i) (l := l) (q := q) (K := K) (A := A) (d + 1) (s := s) hs (hA _ hs)
    have l1 := hAl (s &&& ((2 ^ p ||| 2 ^ k) ^^^ 4294967295))
    have l2 := hAl s
    rw [b_Few_firstMate_2, decide_eq_false (show ¬ (4 : Int32) ≤ nI k from by
      show ¬ nI 4 ≤ nI k
      rw [q_le (by omega) (by omega)]; omega), cond_false, hc, am_bd_some, q_app, b_Few_firstMate_14]
    refine ⟨fun z => ?_, fun z => ?_⟩
    · rw [Bool.and_eq_true, decide_eq_true_eq] at z
      rw [if_pos z.1, show decide (nI 1 = (0 : Int32)) = false from rfl, cond_false, em, m1, am_bd_some, q_app, b_Few_firstMate_33, m2, am_bd_some, q_app, b_Few_firstMate_39, show (1 : Int32) + nI (A (s &&& ((2 ^ p ||| 2 ^ k) ^^^ 4294967295))) = nI (1 + A (s &&& ((2 ^ p ||| 2 ^ k) ^^^ 4294967295))) from nI_add 1 _, z.2, decide_eq_false (fun w => w rfl), cond_false]
      rfl
    · cases hcp : cP fr p k s with
      | false =>
        rw [if_neg (by decide), show decide (nI 0 = (0 : Int32)) = true from rfl, cond_true, b_Few_firstMate_44, show nI k + (1 : Int32) = nI (k + 1) from nI_add k 1]
        exact Go_in ⟨rfl, rfl⟩
      | true =>
        rw [hcp, Bool.true_and, decide_eq_false_iff_not] at z
        rw [if_pos rfl, show decide (nI 1 = (0 : Int32)) = false from rfl, cond_false, em, m1, am_bd_some, q_app, b_Few_firstMate_33, m2, am_bd_some, q_app, b_Few_firstMate_39, show (1 : Int32) + nI (A (s &&& ((2 ^ p ||| 2 ^ k) ^^^ 4294967295))) = nI (1 + A (s &&& ((2 ^ p ||| 2 ^ k) ^^^ 4294967295))) from nI_add 1 _, decide_eq_true (show ¬ nI (1 + A (s &&& ((2 ^ p ||| 2 ^ k) ^^^ 4294967295))) = nI (A s) from by rw [q_eq (by omega) (by omega)]; exact z), cond_true, b_Few_firstMate_44, show nI k + (1 : Int32) = nI (k + 1) from nI_add k 1]
        exact Go_in ⟨rfl, rfl⟩
  · obtain ⟨e1, e2⟩ := hI
    subst e1; subst e2
    rw [b_Few_firstMate_2, show decide ((4 : Int32) ≤ nI (0 + 4)) = true from rfl, cond_true]
    rfl
theorem mxI {a b : Nat} (ha : a < 1000) (hb : b < 1000) : (if nI a < nI b then nI b else nI a) = nI (mxN a b) := by
  unfold mxN
  by_cases c : a < b
  · rw [if_pos c, if_pos (by rw [q_lt (by omega) (by omega)]; exact c)]
  · rw [if_neg c, if_neg (by rw [q_lt (by omega) (by omega)]; exact c)]
theorem pq2_le (hA : ∀ L, A L ≤ 100) (s p : Nat) : ∀ k, pq2 fr A s p k ≤ 101
  | 0 => by rw [pq2]; omega
  | k + 1 => by
    have := pq2_le hA s p k
    rw [pq2]
    split
    · unfold mxN
      split
      · have := hA (s &&& ((2 ^ p ||| 2 ^ k) ^^^ 4294967295)); omega
      · exact this
    · exact this
theorem mS_lt (fr A : Nat → Nat) {ev : Nat} (h : ev < 16) : ∀ p, (mS fr A ev p).1 < 16
  | 0 => h
  | p + 1 => by
    have ih := mS_lt fr A h p
    rw [mS]
    split
    · cases fM fr A p (mS fr A ev p).1 with
      | none => exact Nat.lt_of_le_of_lt Nat.and_le_left ih
      | some k => exact Nat.lt_of_le_of_lt Nat.and_le_left (Nat.lt_of_le_of_lt Nat.and_le_left ih)
    · exact ih
theorem y_pairUp (d : Nat) {ev : Nat} (hev : ev < 16) (hf : ∀ p, p < 4 → i 44 p = nI (fr p)) (hfl : ∀ p, fr p < 16) : ∃ i', am_cl (d + 4) mFew_pairUp [.ref 39, .int (nI ev)] (i, l, rX q, kX K) = some (none, (i', l, rX q, kX K)) ∧ Fr [45, 46] i i' ∧ (∀ L, L < 16 → i' 46 L = nI (pA fr 16 L)) ∧ ∀ p, p < 4 → i' 45 p = mI ((mS fr (pA fr 16) ev 4).2 p) := by
  have hAl : ∀ k L, k ≤ 16 → pA fr k L ≤ 100 := fun k L hk => Nat.le_trans (pA_le fr k L) (by omega)
  rw [c_Few_pairUp, b_Few_pairUp_0]
  refine am_loop (d := d + 3) (y := mFew_pairUp) (pc := 2) (fun k ls s => ∃ i1 z3 z4, ls = [.val (.ref 39), .val (.int (nI ev)), .val (.int (nI k)), z3, z4] ∧ s = (i1, l, rX q, kX K) ∧ Fr [45, 46] i i1 ∧ ∀ L, L < k → i1 46 L = nI (pA fr k L)) 16 (fun rs => ∃ i', rs = some (none, (i', l, rX q, kX K)) ∧ Fr [45, 46] i i' ∧ (∀ L, L < 16 → i' 46 L = nI (pA fr 16 L)) ∧ ∀ p, p < 4 → i' 45 p = mI ((mS fr (pA fr 16) ev 4).2 p)) (fun k ls s hk hI => ?_) (fun ls s hI => ?_) ⟨i, _, _, rfl, rfl, Fr_refl _ _, fun L hL => by omega⟩
  · obtain ⟨i1, z3, z4, e1, e2, hf1, h46⟩ := hI
    subst e1; subst e2
    have hfb := fun i1 => s_X_firstBit (i := i1) (l := l) (q := rX q) (K := kX K) (d + 1) (x := k) hk
    rw [b_Few_pairUp_2, decide_eq_false (show ¬ (16 : Int32) ≤ nI k from by
      show ¬ nI 16 ≤ nI k
      rw [q_le (by omega) (by omega)]; omega), cond_false, in16 hk (by decide), cond_true, nI_clamp (by omega), hfb, am_bd_some, q_app, b_Few_pairUp_19]
    -- behind all: the next set
    have next : ∀ i2 z3 z4 v, Fr [45, 46] i i2 → i2 46 k = nI v → (∀ L, L < k → i2 46 L = nI (pA fr k L)) → v = pv fr (pA fr k) k → Go (d + 3) mFew_pairUp 2 (fun ls s => ∃ i1 z3 z4, ls = [.val (.ref 39), .val (.int (nI ev)), .val (.int (nI (k + 1))), z3, z4] ∧ s = (i1, l, rX q, kX K) ∧ Fr [45, 46] i i1 ∧ ∀ L, L < k + 1 → i1 46 L = nI (pA fr (k + 1) L)) (am_Ex (d + 3) mFew_pairUp 115 [.val (.ref 39), .val (.int (nI ev)), .val (.int (nI k)), z3, z4] [] (i2, l, rX q, kX K)) := by
      intro i2 z3 z4 v hf2 hv hL2 hvv
      rw [b_Few_pairUp_115, show nI k + (1 : Int32) = nI (k + 1) from nI_add k 1]
      refine Go_in ⟨i2, _, _, rfl, rfl, hf2, fun L hL => ?_⟩
      rw [pA]
      unfold ug
      by_cases c : L = k
      · rw [if_pos c, c, hv, hvv]
      · rw [if_neg c]; exact hL2 L (by omega)
    have hst : ∀ L, L < k → am_u2 i1 46 k 0 46 L = nI (pA fr k L) := fun L hL => by
      simp only [am_u2]
      rw [if_pos trivial, if_neg (by omega)]
      exact h46 L hL
    have hf10 : Fr [45, 46] i (am_u2 i1 46 k 0) := Fr_u2 rfl hf1
    cases hp : ff (fun p => k.testBit p) 4 0 with
    | none =>
      refine am_loop (d := d + 3) (y := mFew_pairUp) (pc := 23) (fun j ls s => ls = [.val (.ref 39), .val (.int (nI ev)), .val (.int (nI k)), .val (.int (-nI 1)), .val (.int (nI j))] ∧ s = (am_u2 i1 46 k 0, l, rX q, kX K)) 4 _ (fun j ls s hj hI => ?_) (fun ls s hI => ?_) ⟨rfl, rfl⟩
      · obtain ⟨e1, e2⟩ := hI
        subst e1; subst e2
        rw [b_Few_pairUp_23, decide_eq_false (show ¬ (4 : Int32) ≤ nI j from by
          show ¬ nI 4 ≤ nI j
          rw [q_le (by omega) (by omega)]; omega), cond_false, show decide (-nI 1 = (-1 : Int32)) = true from rfl, cond_true, b_Few_pairUp_78, show nI j + (1 : Int32) = nI (j + 1) from nI_add j 1]
        exact Go_in ⟨rfl, rfl⟩
      · obtain ⟨e1, e2⟩ := hI
        subst e1; subst e2
        rw [b_Few_pairUp_23, show decide ((4 : Int32) ≤ nI 4) = true from rfl, cond_true, show decide (-nI 1 = (-1 : Int32)) = true from rfl, cond_true]
        refine next _ _ _ 0 hf10 (by simp [am_u2]; rfl) hst ?_
        unfold pv
        rw [hp]
    | some p =>
      obtain ⟨_, p4, pb, _⟩ := ff_some hp
      have p4 : p < 4 := by omega
      have pb : k.testBit p = true := pb
      have hm1 : ¬ nI p = (-1 : Int32) := by
        show ¬ nI p = -nI 1
        rw [q_m1 (by omega)]; exact id
      refine am_loop (d := d + 3) (y := mFew_pairUp) (pc := 23) (fun j ls s => ∃ i2, ls = [.val (.ref 39), .val (.int (nI ev)), .val (.int (nI k)), .val (.int (nI p)), .val (.int (nI j))] ∧ s = (i2, l, rX q, kX K) ∧ Fr [45, 46] i i2 ∧ i2 46 k = nI (pq2 fr (pA fr k) k p j) ∧ ∀ L, L < k → i2 46 L = nI (pA fr k L)) 4 _ (fun j ls s hj hI => ?_) (fun ls s hI => ?_) ⟨_, rfl, rfl, hf10, by simp [am_u2, pq2]; rfl, hst⟩
      · obtain ⟨i2, e1, e2, hf2, hv, hL2⟩ := hI
        subst e1; subst e2
        have hf44 : i2 44 p = nI (fr p) := by rw [hf2 44 rfl]; exact hf p p4
        have hc := s_Few_canPair (i := i2) (l := l) (q := q) (K := K) (d + 1) p4 hj hk hf44 (hfl p)
        have hle := pq2_le (fr := fr) (A := pA fr k) (fun L => hAl k L (by omega)) k p j
        rw [b_Few_pairUp_23, decide_eq_false (show ¬ (4 : Int32) ≤ nI j from by
          show ¬ nI 4 ≤ nI j
          rw [q_le (by omega) (by omega)]; omega), cond_false, decide_eq_false hm1, cond_false, hc, am_bd_some, q_app, b_Few_pairUp_42]
        cases hcp : cP fr p j k with
        | false =>
          rw [if_neg (by decide), show decide (nI 0 = (0 : Int32)) = true from rfl, cond_true, b_Few_pairUp_78, show nI j + (1 : Int32) = nI (j + 1) from nI_add j 1]
          exact Go_in ⟨i2, rfl, rfl, hf2, by rw [hv, pq2, hcp]; rfl, hL2⟩
        | true =>
          obtain ⟨a1, a2⟩ := k_and3 hk p4 hj pb
          have em : nI k &&& ((((1 : Int32) <<< (nI p &&& 31)) ||| ((1 : Int32) <<< (nI j &&& 31))) ^^^ ((-1) : Int32)) = nI (k &&& ((2 ^ p ||| 2 ^ j) ^^^ 4294967295)) := by
            rw [k_shl1 (by omega), k_shl1 (by omega), fa_or, show nI (2 ^ p ||| 2 ^ j) ^^^ (-1 : Int32) = nI ((2 ^ p ||| 2 ^ j) ^^^ 4294967295) from q_xorm _, fa_and]
          have m1 := s_Few_mostPairs (i := i2) (l := l) (q := q) (K := K) (A := pA fr k) (d + 2) (s := k &&& ((2 ^ p ||| 2 ^ j) ^^^ 4294967295)) (by omega) (hL2 _ a1)
          have l1 := hAl k (k &&& ((2 ^ p ||| 2 ^ j) ^^^ 4294967295)) (by omega)
          rw [if_pos rfl, show decide (nI 1 = (0 : Int32)) = false from rfl, cond_false, in16 hk (by decide), cond_true, em, m1, am_bd_some, q_app, b_Few_pairUp_73, in16 hk (by decide), cond_true, nI_clamp (by omega), hv, show (1 : Int32) + nI (pA fr k (k &&& ((2 ^ p ||| 2 ^ j) ^^^ 4294967295))) = nI (1 + pA fr k (k &&& ((2 ^ p ||| 2 ^ j) ^^^ 4294967295))) from nI_add 1 _, mxI (by omega) (by omega), b_Few_pairUp_78, show nI j + (1 : Int32) = nI (j + 1) from nI_add j 1]
          refine Go_in ⟨_, rfl, rfl, Fr_u2 rfl hf2, ?_, fun L hL => ?_⟩
          · rw [pq2, if_pos hcp]; simp [am_u2]
          · simp only [am_u2]
            rw [if_pos trivial, if_neg (by omega)]
            exact hL2 L hL
      · obtain ⟨i2, e1, e2, hf2, hv, hL2⟩ := hI
        subst e1; subst e2
        obtain ⟨a1, a2⟩ := k_and3 hk p4 p4 pb
        have hle := pq2_le (fr := fr) (A := pA fr k) (fun L => hAl k L (by omega)) k p 4
        have em : nI k &&& (((1 : Int32) <<< (nI p &&& 31)) ^^^ ((-1) : Int32)) = nI (k &&& (2 ^ p ^^^ 4294967295)) := by
          rw [k_shl1 (by omega), show nI (2 ^ p) ^^^ (-1 : Int32) = nI (2 ^ p ^^^ 4294967295) from q_xorm _, fa_and]
        have m1 := s_Few_mostPairs (i := i2) (l := l) (q := q) (K := K) (A := pA fr k) (d + 2) (s := k &&& (2 ^ p ^^^ 4294967295)) (by omega) (hL2 _ a2)
        have l1 := hAl k (k &&& (2 ^ p ^^^ 4294967295)) (by omega)
        rw [b_Few_pairUp_23, show decide ((4 : Int32) ≤ nI 4) = true from rfl, cond_true, decide_eq_false hm1, cond_false, in16 hk (by decide), cond_true, em, m1, am_bd_some, q_app, b_Few_pairUp_111, in16 hk (by decide), cond_true, nI_clamp (by omega), hv, mxI (by omega) (by omega)]
        refine next _ _ _ _ (Fr_u2 rfl hf2) (by simp [am_u2]; rfl) (fun L hL => ?_) ?_
        · simp only [am_u2]
          rw [if_pos trivial, if_neg (by omega)]
          exact hL2 L hL
        · unfold pv
          rw [hp]
  · obtain ⟨i1, z3, z4, e1, e2, hf1, h46⟩ := hI
    subst e1; subst e2
    have f45 : am_cl (d + 3) mJ_fill [.ref 45, .int (-1)] (i1, l, rX q, kX K) = some (none, (am_u1 i1 45 (fun k => if k < 4 then -1 else i1 45 k), l, rX q, kX K)) := s_J_fill (d + 2) (-1) rfl rfl (by decide)
    rw [b_Few_pairUp_2, show decide ((16 : Int32) ≤ nI 16) = true from rfl, cond_true, f45, am_bd_some, q_app0, b_Few_pairUp_129]
    refine am_loop (d := d + 3) (y := mFew_pairUp) (pc := 133) (fun k ls s => ∃ i2 z1 z4, ls = [.val (.ref 39), z1, .val (.int (nI (mS fr (pA fr 16) ev k).1)), .val (.int (nI k)), z4] ∧ s = (i2, l, rX q, kX K) ∧ Fr [45, 46] i i2 ∧ (∀ L, L < 16 → i2 46 L = nI (pA fr 16 L)) ∧ ∀ p, p < 4 → i2 45 p = mI ((mS fr (pA fr 16) ev k).2 p)) 4 (fun rs => ∃ i', rs = some (none, (i', l, rX q, kX K)) ∧ Fr [45, 46] i i' ∧ (∀ L, L < 16 → i' 46 L = nI (pA fr 16 L)) ∧ ∀ p, p < 4 → i' 45 p = mI ((mS fr (pA fr 16) ev 4).2 p)) (fun k ls s hk hI => ?_) (fun ls s hI => ?_) ⟨am_u1 i1 45 (fun k => if k < 4 then -1 else i1 45 k), _, _, rfl, rfl, Fr_u1 rfl hf1, h46, fun p hp => if_pos hp⟩
    · obtain ⟨i2, z1, z4, e1, e2, hf2, hL2, h45⟩ := hI
      subst e1; subst e2
      have hfl2 := mS_lt fr (pA fr 16) hev k
      obtain ⟨free, hfree⟩ : ∃ x, (mS fr (pA fr 16) ev k).1 = x := ⟨_, rfl⟩
      rw [hfree] at hfl2 ⊢
      have hh := s_X_hasBit' (d + 2) (a := free) (k := k) (by omega) (by omega) (i2, l, rX q, kX K)
      rw [b_Few_pairUp_133, decide_eq_false (show ¬ (4 : Int32) ≤ nI k from by
        show ¬ nI 4 ≤ nI k
        rw [q_le (by omega) (by omega)]; omega), cond_false, hh, am_bd_some, q_app, b_Few_pairUp_143]
      cases hb : free.testBit k with
      | false =>
        have eS : mS fr (pA fr 16) ev (k + 1) = mS fr (pA fr 16) ev k := by
          rw [mS, hfree, if_neg (by rw [hb]; decide)]
        rw [if_neg (by decide), show decide (nI 0 = (0 : Int32)) = true from rfl, cond_true, b_Few_pairUp_193, show nI k + (1 : Int32) = nI (k + 1) from nI_add k 1]
        exact Go_in ⟨i2, _, _, by rw [eS, hfree], rfl, hf2, hL2, by rw [eS]; exact h45⟩
      | true =>
        have hf44 : i2 44 k = nI (fr k) := by rw [hf2 44 rfl]; exact hf k hk
        have hm := s_Few_firstMate (i := i2) (l := l) (q := q) (K := K) d hk hfl2 hb hf44 (hfl k) hL2 (fun L => hAl 16 L (by omega))
        have em1 : nI free &&& (((1 : Int32) <<< (nI k &&& 31)) ^^^ ((-1) : Int32)) = nI (free &&& (2 ^ k ^^^ 4294967295)) := by
          rw [k_shl1 (by omega), show nI (2 ^ k) ^^^ (-1 : Int32) = nI (2 ^ k ^^^ 4294967295) from q_xorm _, fa_and]
        rw [if_pos rfl, show decide (nI 1 = (0 : Int32)) = false from rfl, cond_false, hm, am_bd_some, q_app, b_Few_pairUp_152]
        cases hq : fM fr (pA fr 16) k free with
        | none =>
          have eS : mS fr (pA fr 16) ev (k + 1) = (free &&& (2 ^ k ^^^ 4294967295), (mS fr (pA fr 16) ev k).2) := by
            rw [mS, hfree, if_pos hb, hq]
          rw [show decide (vW none = (-1 : Int32)) = true from rfl, cond_true, em1, b_Few_pairUp_193, show nI k + (1 : Int32) = nI (k + 1) from nI_add k 1]
          exact Go_in ⟨i2, _, _, by rw [eS], rfl, hf2, hL2, by rw [eS]; exact h45⟩
        | some j =>
          unfold fM at hq
          obtain ⟨_, j4, _, _⟩ := ff_some hq
          have j4 : j < 4 := by omega
          have eS : mS fr (pA fr 16) ev (k + 1) = ((free &&& (2 ^ k ^^^ 4294967295)) &&& (2 ^ j ^^^ 4294967295), ug (ug (mS fr (pA fr 16) ev k).2 k (j + 1)) j (k + 1)) := by
            rw [mS, hfree, if_pos hb]
            unfold fM
            rw [hq]
          have em2 : nI (free &&& (2 ^ k ^^^ 4294967295)) &&& (((1 : Int32) <<< (nI j &&& 31)) ^^^ ((-1) : Int32)) = nI ((free &&& (2 ^ k ^^^ 4294967295)) &&& (2 ^ j ^^^ 4294967295)) := by
            rw [k_shl1 (by omega), show nI (2 ^ j) ^^^ (-1 : Int32) = nI (2 ^ j ^^^ 4294967295) from q_xorm _, fa_and]
          have hvj : vW (some j) = nI j := rfl
          rw [hvj, decide_eq_false (show ¬ nI j = (-1 : Int32) from by
            show ¬ nI j = -nI 1
            rw [q_m1 (by omega)]; exact id), cond_false, in16 hk (by decide), cond_true, in16 j4 (by decide), cond_true, em1, em2, nI_clamp (by omega), nI_clamp (by omega), b_Few_pairUp_193, show nI k + (1 : Int32) = nI (k + 1) from nI_add k 1]
          refine Go_in ⟨_, _, _, by rw [eS], rfl, Fr_u2 rfl (Fr_u2 rfl hf2), hL2, fun p hp => ?_⟩
          rw [eS]
          simp only [am_u2]
          rw [if_pos trivial, if_pos trivial]
          unfold ug
          by_cases c1 : p = j
          · rw [if_pos c1, if_pos c1]; rfl
          · rw [if_neg c1, if_neg c1]
            by_cases c2 : p = k
            · rw [if_pos c2, if_pos c2]; rfl
            · rw [if_neg c2, if_neg c2]; exact h45 p hp
    · obtain ⟨i2, z1, z4, e1, e2, hf2, hL2, h45⟩ := hI
      subst e1; subst e2
      rw [b_Few_pairUp_133, show decide ((4 : Int32) ≤ nI 4) = true from rfl, cond_true]
      exact ⟨i2, rfl, hf2, hL2, h45⟩
theorem y_friendsOf (d : Nat) {p : Nat} (hp : p < 4) (hC : CV ρ r g m i l q K) (hF : XF ρ i l q K) : ∃ i' l' q', am_cl (d + 4) mX_friendsOf [.ref 0, .int (nI p)] (i, l, rX q, kX K) = some (some (.int (nI (frF (sFr g) (g 2) p))), (i', l', rX q', kX K)) ∧ FG [11, 13, 14, 18, 19, 20, 21] [11] [11] i i' l l' q q' ∧ XF ρ i' l' q' K := by
  obtain ⟨a1, a2, hW, a4, a5, a6⟩ := id hC
  have a1 : rX q 0 2 = some r := a1
  obtain ⟨fP, fS, fL, fE, fF, fB, fU, fV, fK, fW, hk, ra, ra1, ra2, ra3⟩ := CV_f a2 hW
  obtain ⟨fN, fO, fT, fD⟩ := RM_f a6 hW
  have h1 : g 1 ≤ 6 := hW.1.2
  have h2 : g 2 ≤ 4 := hW.2.1
  have hR : ∀ p, p < 4 → g (10 + p) ≤ 4 := hW.2.2.2.1
  have hP : ∀ p, p < 4 → g (18 + p) < 8 := hW.2.2.2.2.2.1
  have hSt : ∀ p, p < 4 → g (22 + p) ≤ 9 := hW.2.2.2.2.2.2.1
  have hn := sNow_lt g hP 4 (by decide)
  have hvs : VS g (sNow g 4) := hW.2.2.2.2.2.2.2.2.2.2
  obtain ⟨i1, l1, q1, e1, hf1, hA1⟩ := y_fordAt0 d hC hF
  have hf1' : FG [11, 13, 14, 18, 19, 20, 21] [11] [11] i i1 l l1 q q1 := FG_tr (FG_refl _ _ _ _ _ _) hf1 rfl rfl rfl
  rw [c_X_friendsOf, b_X_friendsOf_0, a5, e1, am_bd_some, q_app, b_X_friendsOf_10]
  refine am_loop (d := d + 3) (y := mX_friendsOf) (pc := 13) (fun k ls s => ∃ i2, ls = [.val (.ref 0), .val (.int (nI p)), .val (.int (nI (bs (fun k => decide (p < g 2) && decide (p ≠ k) && sFr g p k) k))), .val (.int (nI k))] ∧ s = (i2, l1, rX q1, kX K) ∧ FG [11, 13, 14, 18, 19, 20, 21] [11] [11] i i2 l l1 q q1 ∧ FA r g m i2 l1 q1) (g 2) (fun rs => ∃ i' l' q', rs = some (some (.int (nI (frF (sFr g) (g 2) p))), (i', l', rX q', kX K)) ∧ FG [11, 13, 14, 18, 19, 20, 21] [11] [11] i i' l l' q q' ∧ XF ρ i' l' q' K) (fun k ls s hk2 hI => ?_) (fun ls s hI => ?_) ⟨i1, rfl, rfl, hf1', hA1⟩
  · obtain ⟨i2, e2, e3, hf2, hA2⟩ := hI
    subst e2; subst e3
    have hk4 : k < 4 := by omega
    have hff : FG RF [11] [11] i i2 l l1 q q1 := FG_tr (FG_refl _ _ _ _ _ _) hf2 rfl rfl rfl
    obtain ⟨a1, a2, _, a4, a5, _⟩ := CV_ff hff hC
    have a1 : rX q1 0 2 = some r := a1
    obtain ⟨fP, fS, fL, fE, fF, fB, fU, fV, fK, fW, hk, ra, ra1, ra2, ra3⟩ := CV_f a2 hW
    have hr1 : i2 r 1 = nI (g 2) := a2.2.2.2.1
    rw [b_X_friendsOf_13]
    by_cases c1 : p < g 2
    · by_cases c2 : p = k
      · subst c2
        simp (disch := first | assumption | omega) only [b_X_friendsOf_0, b_X_friendsOf_10, b_X_friendsOf_50, b_X_friendsOf_63, b_X_friendsOf_72, ↓Bool.cond_decide, ↓q_in, q_le, q_lt, q_eq, q_leT, q_leF, q_ltT, q_ltF, q_eqT, q_eqF, ↓reduceIte, not_true_eq_false, not_false_eq_true, true_and, and_true, and_self, false_and, and_false, Nat.zero_le, am_bd_some, q_app, q_app0, nI_add, pk_sub, pk_mul, q_dec, q_ix, q_m1, q_m1', ↓q_ret, q_bool, q_bool1, q_u2, q_u1, q_shl1, q_shr, q_and7, q_dg, fa_or, fa_and, decide_true, decide_false, Bool.or_false, Bool.or_true, Bool.true_or, Bool.false_or, cond_true, cond_false, ite_not, q_some, q_nn, q_xor, q_xorm, Bool.false_eq_true, decide_eq_true_eq, ne_eq, l_0, l_1, l_2, l_3, l_5, l_6, l_8, l_10, l_11, l_13, l_27, l_31, l_50, l_63, l_72, hr1, a1, a5, hk, fP, fS, fL, fE, fF, fB, fU, fV, fK, fW, fN, fO, fT, fD, ra1, ra2, cond_true, Bool.and_true, kd11]
        exact Go_in ⟨i2, by rw [bs]; simp, rfl, hf2, hA2⟩
      · obtain ⟨i3, l3, e3, hl3, hf3, hT3⟩ := r_Ford_trusting (i := i2) (l := l1) (q := q1) (d + 1) (p := p) (o := k) (gap := 1) a2 hW.2.2.2.2.2.2.2.2.2.1 hA2.1 hA2.2.1 hA2.2.2.1 hp hk4 (by decide) hA2.2.2.2.1
        subst hl3
        have hf3' : FG [11, 13, 14, 18, 19, 20, 21] [11] [11] i i3 l l3 q q1 := FG_i hf2 hf3 rfl
        have hA3 : FA r g m i3 l3 q1 := ⟨hA2.1, hA2.2.1, hA2.2.2.1, hT3, by
          have h5 := hA2.2.2.2.2
          unfold HV at h5 ⊢
          rw [hf3 20 rfl, hf3 21 rfl]; exact h5⟩
        cases t1 : sTrust g p k 1 with
        | false =>
          rw [t1] at e3
          simp (disch := first | assumption | omega) only [b_X_friendsOf_0, b_X_friendsOf_10, b_X_friendsOf_50, b_X_friendsOf_63, b_X_friendsOf_72, ↓Bool.cond_decide, ↓q_in, q_le, q_lt, q_eq, q_leT, q_leF, q_ltT, q_ltF, q_eqT, q_eqF, ↓reduceIte, not_true_eq_false, not_false_eq_true, true_and, and_true, and_self, false_and, and_false, Nat.zero_le, am_bd_some, q_app, q_app0, nI_add, pk_sub, pk_mul, q_dec, q_ix, q_m1, q_m1', ↓q_ret, q_bool, q_bool1, q_u2, q_u1, q_shl1, q_shr, q_and7, q_dg, fa_or, fa_and, decide_true, decide_false, Bool.or_false, Bool.or_true, Bool.true_or, Bool.false_or, cond_true, cond_false, ite_not, q_some, q_nn, q_xor, q_xorm, Bool.false_eq_true, decide_eq_true_eq, ne_eq, l_0, l_1, l_2, l_3, l_5, l_6, l_8, l_10, l_11, l_13, l_27, l_31, l_50, l_63, l_72, hr1, c2, e3, a1, a5, hk, fP, fS, fL, fE, fF, fB, fU, fV, fK, fW, fN, fO, fT, fD, ra1, ra2, cond_true, Bool.and_true, kd11]
          exact Go_in ⟨i3, by rw [bs]; unfold sFr; rw [t1]; simp, rfl, hf3', hA3⟩
        | true =>
          rw [t1] at e3
          have hff3 : FG RF [11] [11] i i3 l l3 q q1 := FG_tr (FG_refl _ _ _ _ _ _) hf3' rfl rfl rfl
          have a23 : RV (i3, l3, rX q1, kX K) r g := RV_fr hf3 rfl a2
          obtain ⟨i4, l4, e4, hl4, hf4, hT4⟩ := r_Ford_trusting (i := i3) (l := l3) (q := q1) (d + 1) (p := k) (o := p) (gap := 1) a23 hW.2.2.2.2.2.2.2.2.2.1 hA3.1 hA3.2.1 hA3.2.2.1 hk4 hp (by decide) hA3.2.2.2.1
          subst hl4
          have hf4' : FG [11, 13, 14, 18, 19, 20, 21] [11] [11] i i4 l l4 q q1 := FG_i hf3' hf4 rfl
          have hA4 : FA r g m i4 l4 q1 := ⟨hA3.1, hA3.2.1, hA3.2.2.1, hT4, by
            have h5 := hA3.2.2.2.2
            unfold HV at h5 ⊢
            rw [hf4 20 rfl, hf4 21 rfl]; exact h5⟩
          cases t2 : sTrust g k p 1 with
          | false =>
            rw [t2] at e4
            simp (disch := first | assumption | omega) only [b_X_friendsOf_0, b_X_friendsOf_10, b_X_friendsOf_50, b_X_friendsOf_63, b_X_friendsOf_72, ↓Bool.cond_decide, ↓q_in, q_le, q_lt, q_eq, q_leT, q_leF, q_ltT, q_ltF, q_eqT, q_eqF, ↓reduceIte, not_true_eq_false, not_false_eq_true, true_and, and_true, and_self, false_and, and_false, Nat.zero_le, am_bd_some, q_app, q_app0, nI_add, pk_sub, pk_mul, q_dec, q_ix, q_m1, q_m1', ↓q_ret, q_bool, q_bool1, q_u2, q_u1, q_shl1, q_shr, q_and7, q_dg, fa_or, fa_and, decide_true, decide_false, Bool.or_false, Bool.or_true, Bool.true_or, Bool.false_or, cond_true, cond_false, ite_not, q_some, q_nn, q_xor, q_xorm, Bool.false_eq_true, decide_eq_true_eq, ne_eq, l_0, l_1, l_2, l_3, l_5, l_6, l_8, l_10, l_11, l_13, l_27, l_31, l_50, l_63, l_72, hr1, c2, e3, e4, a1, a5, hk, fP, fS, fL, fE, fF, fB, fU, fV, fK, fW, fN, fO, fT, fD, ra1, ra2, cond_true, Bool.and_true, kd11]
            exact Go_in ⟨i4, by rw [bs]; unfold sFr; rw [t1, t2]; simp, rfl, hf4', hA4⟩
          | true =>
            rw [t2] at e4
            simp (disch := first | assumption | omega) only [b_X_friendsOf_0, b_X_friendsOf_10, b_X_friendsOf_50, b_X_friendsOf_63, b_X_friendsOf_72, ↓Bool.cond_decide, ↓q_in, q_le, q_lt, q_eq, q_leT, q_leF, q_ltT, q_ltF, q_eqT, q_eqF, ↓reduceIte, not_true_eq_false, not_false_eq_true, true_and, and_true, and_self, false_and, and_false, Nat.zero_le, am_bd_some, q_app, q_app0, nI_add, pk_sub, pk_mul, q_dec, q_ix, q_m1, q_m1', ↓q_ret, q_bool, q_bool1, q_u2, q_u1, q_shl1, q_shr, q_and7, q_dg, fa_or, fa_and, decide_true, decide_false, Bool.or_false, Bool.or_true, Bool.true_or, Bool.false_or, cond_true, cond_false, ite_not, q_some, q_nn, q_xor, q_xorm, Bool.false_eq_true, decide_eq_true_eq, ne_eq, l_0, l_1, l_2, l_3, l_5, l_6, l_8, l_10, l_11, l_13, l_27, l_31, l_50, l_63, l_72, hr1, c2, e3, e4, a1, a5, hk, fP, fS, fL, fE, fF, fB, fU, fV, fK, fW, fN, fO, fT, fD, ra1, ra2, cond_true, Bool.and_true, kd11]
            exact Go_in ⟨i4, by rw [bs]; unfold sFr; rw [t1, t2]; simp [c2], rfl, hf4', hA4⟩
    · simp (disch := first | assumption | omega) only [b_X_friendsOf_0, b_X_friendsOf_10, b_X_friendsOf_50, b_X_friendsOf_63, b_X_friendsOf_72, ↓Bool.cond_decide, ↓q_in, q_le, q_lt, q_eq, q_leT, q_leF, q_ltT, q_ltF, q_eqT, q_eqF, ↓reduceIte, not_true_eq_false, not_false_eq_true, true_and, and_true, and_self, false_and, and_false, Nat.zero_le, am_bd_some, q_app, q_app0, nI_add, pk_sub, pk_mul, q_dec, q_ix, q_m1, q_m1', ↓q_ret, q_bool, q_bool1, q_u2, q_u1, q_shl1, q_shr, q_and7, q_dg, fa_or, fa_and, decide_true, decide_false, Bool.or_false, Bool.or_true, Bool.true_or, Bool.false_or, cond_true, cond_false, ite_not, q_some, q_nn, q_xor, q_xorm, Bool.false_eq_true, decide_eq_true_eq, ne_eq, l_0, l_1, l_2, l_3, l_5, l_6, l_8, l_10, l_11, l_13, l_27, l_31, l_50, l_63, l_72, hr1, a1, a5, hk, fP, fS, fL, fE, fF, fB, fU, fV, fK, fW, fN, fO, fT, fD, ra1, ra2, cond_true, Bool.and_true, kd11]
      exact Go_in ⟨i2, by rw [bs]; simp, rfl, hf2, hA2⟩
  · obtain ⟨i2, e2, e3, hf2, hA2⟩ := hI
    subst e2; subst e3
    have hff : FG RF [11] [11] i i2 l l1 q q1 := FG_tr (FG_refl _ _ _ _ _ _) hf2 rfl rfl rfl
    obtain ⟨a1, a2, _, a4, a5, _⟩ := CV_ff hff hC
    have a1 : rX q1 0 2 = some r := a1
    obtain ⟨fP, fS, fL, fE, fF, fB, fU, fV, fK, fW, hk, ra, ra1, ra2, ra3⟩ := CV_f a2 hW
    have hr1 : i2 r 1 = nI (g 2) := a2.2.2.2.1
    rw [b_X_friendsOf_13]
    simp (disch := first | assumption | omega) only [b_X_friendsOf_0, b_X_friendsOf_10, b_X_friendsOf_50, b_X_friendsOf_63, b_X_friendsOf_72, ↓Bool.cond_decide, ↓q_in, q_le, q_lt, q_eq, q_leT, q_leF, q_ltT, q_ltF, q_eqT, q_eqF, ↓reduceIte, not_true_eq_false, not_false_eq_true, true_and, and_true, and_self, false_and, and_false, Nat.zero_le, am_bd_some, q_app, q_app0, nI_add, pk_sub, pk_mul, q_dec, q_ix, q_m1, q_m1', ↓q_ret, q_bool, q_bool1, q_u2, q_u1, q_shl1, q_shr, q_and7, q_dg, fa_or, fa_and, decide_true, decide_false, Bool.or_false, Bool.or_true, Bool.true_or, Bool.false_or, cond_true, cond_false, ite_not, q_some, q_nn, q_xor, q_xorm, Bool.false_eq_true, decide_eq_true_eq, ne_eq, l_0, l_1, l_2, l_3, l_5, l_6, l_8, l_10, l_11, l_13, l_27, l_31, l_50, l_63, l_72, hr1, a1, a5, hk, fP, fS, fL, fE, fF, fB, fU, fV, fK, fW, fN, fO, fT, fD, ra1, ra2, cond_true, Bool.and_true, kd11]
    exact ⟨i2, l1, q1, rfl, hf2, XF_of (CV_ff hff hC) hA2 (gE_refl g) hW⟩
theorem frF_lt (F : Nat → Nat → Bool) {P : Nat} (hP : P ≤ 4) (p : Nat) : frF F P p < 16 := Nat.lt_of_lt_of_le (bs_lt _ _) (Nat.pow_le_pow_right (by decide) hP)
theorem y_X_pairs (d : Nat) (x : Int32) (hC : CV ρ r g m i l q K) (hF : XF ρ i l q K) : YR ρ K i l q (some (.int (v_pairs g x))) (am_cl (d + 5) mX_pairs [.ref 0, .int x] (i, l, rX q, kX K)) := by
  obtain ⟨a1, a2, hW, a4, a5, a6⟩ := id hC
  have a1 : rX q 0 2 = some r := a1
  obtain ⟨fP, fS, fL, fE, fF, fB, fU, fV, fK, fW, hk, ra, ra1, ra2, ra3⟩ := CV_f a2 hW
  obtain ⟨fN, fO, fT, fD⟩ := RM_f a6 hW
  have h1 : g 1 ≤ 6 := hW.1.2
  have h2 : g 2 ≤ 4 := hW.2.1
  have hR : ∀ p, p < 4 → g (10 + p) ≤ 4 := hW.2.2.2.1
  have hP : ∀ p, p < 4 → g (18 + p) < 8 := hW.2.2.2.2.2.1
  have hSt : ∀ p, p < 4 → g (22 + p) ≤ 9 := hW.2.2.2.2.2.2.1
  have hn := sNow_lt g hP 4 (by decide)
  have hvs : VS g (sNow g 4) := hW.2.2.2.2.2.2.2.2.2.2
  have hsy : ∀ p k, sFr g p k = sFr g k p := fun p k => by unfold sFr; rw [Bool.and_comm]
  obtain ⟨k1, k2⟩ := pairs_ok hsy h2
  have hev := evb_lt (g := g) h2
  -- the walk behind the questions
  have walk : ∀ z2, ∃ i1 l1 q1, am_Ex (d + 4) mX_pairs 27 [.val (.ref 0), .val (.int x), z2] [] (i, l, rX q, kX K) = am_Ex (d + 4) mX_pairs 68 [.val (.ref 0), .val (.int x), .val (.int (nI 4))] [] (i1, l1, rX q1, kX K) ∧ FG RF [11] [11] i i1 l l1 q q1 ∧ XF ρ i1 l1 q1 K ∧ (∀ L, L < 16 → i1 46 L = nI (pA (frF (sFr g) (g 2)) 16 L)) ∧ ∀ p, p < 4 → i1 45 p = mI ((mS (frF (sFr g) (g 2)) (pA (frF (sFr g) (g 2)) 16) (evb g) 4).2 p) := by
    intro z2
    rw [b_X_pairs_27]
    refine am_loop (d := d + 4) (y := mX_pairs) (pc := 29) (fun k ls s => ∃ i1 l1 q1, ls = [.val (.ref 0), .val (.int x), .val (.int (nI k))] ∧ s = (i1, l1, rX q1, kX K) ∧ FG RF [11] [11] i i1 l l1 q q1 ∧ XF ρ i1 l1 q1 K ∧ ∀ p, p < k → i1 44 p = nI (frF (sFr g) (g 2) p)) 4 (fun rs => ∃ i1 l1 q1, rs = am_Ex (d + 4) mX_pairs 68 [.val (.ref 0), .val (.int x), .val (.int (nI 4))] [] (i1, l1, rX q1, kX K) ∧ FG RF [11] [11] i i1 l l1 q q1 ∧ XF ρ i1 l1 q1 K ∧ (∀ L, L < 16 → i1 46 L = nI (pA (frF (sFr g) (g 2)) 16 L)) ∧ ∀ p, p < 4 → i1 45 p = mI ((mS (frF (sFr g) (g 2)) (pA (frF (sFr g) (g 2)) 16) (evb g) 4).2 p)) (fun k ls s hk4 hI => ?_) (fun ls s hI => ?_) ⟨i, l, q, rfl, rfl, FG_refl _ _ _ _ _ _, hF, fun p hp => by omega⟩
    · obtain ⟨i1, l1, q1, e1, e2, hf1, hF1, h44⟩ := hI
      subst e1; subst e2
      obtain ⟨i2, l2, q2, e2, hf2, hF2⟩ := y_friendsOf d hk4 (CV_ff hf1 hC) hF1
      rw [b_X_pairs_29, decide_eq_false (show ¬ (4 : Int32) ≤ nI k from by
        show ¬ nI 4 ≤ nI k
        rw [q_le (by omega) (by omega)]; omega), cond_false, e2, am_bd_some, q_app, b_X_pairs_47, in16 hk4 (by decide), cond_true, nI_clamp (by omega), show nI k + (1 : Int32) = nI (k + 1) from nI_add k 1]
      refine Go_in ⟨_, l2, q2, rfl, rfl, FG_i (FG_tr hf1 hf2 rfl rfl rfl) (Fr_u2 (R := RF) rfl (Fr_refl _ _)) rfl, XF_i (Ri := [44]) (Fr_u2 rfl (Fr_refl _ _)) rfl rfl rfl rfl hF2, fun p hp => ?_⟩
      simp only [am_u2]
      rw [if_pos trivial]
      by_cases c : p = k
      · rw [if_pos c, c]
      · rw [if_neg c, hf2.1 44 rfl]; exact h44 p (by omega)
    · obtain ⟨i1, l1, q1, e1, e2, hf1, hF1, h44⟩ := hI
      subst e1; subst e2
      obtain ⟨a1, a2, _, a4, a5, _⟩ := CV_ff hf1 hC
      have a1 : rX q1 0 2 = some r := a1
      obtain ⟨fP, fS, fL, fE, fF, fB, fU, fV, fK, fW, hk, ra, ra1, ra2, ra3⟩ := CV_f a2 hW
      obtain ⟨i2, e2, hf2, hL, hM⟩ := y_pairUp (i := i1) (l := l1) (q := q1) (K := K) (fr := frF (sFr g) (g 2)) d hev h44 (frF_lt _ h2)
      rw [b_X_pairs_29, show decide ((4 : Int32) ≤ nI 4) = true from rfl, cond_true, a1]
      dsimp only
      rw [hk, Bool.true_and, cond_true, fB, am_bd_some, q_app, b_X_pairs_65, e2, am_bd_some, q_app0]
      exact ⟨i2, l1, q1, rfl, FG_i hf1 hf2 rfl, XF_i hf2 rfl rfl rfl rfl hF1, hL, hM⟩
  rw [c_X_pairs, b_X_pairs_0, v_pairs]
  by_cases x0 : x = nI 0
  · obtain ⟨i1, l1, q1, e1, hf1, hF1, hL, hM⟩ := walk .unset
    rw [if_pos x0]
    rw [decide_eq_true (show x = (0 : Int32) from x0), cond_true, e1, b_X_pairs_68, decide_eq_false (show ¬ ¬ x = (0 : Int32) from fun z => z x0), cond_false]
    obtain ⟨a1, a2, _, a4, a5, _⟩ := CV_ff hf1 hC
    have a1 : rX q1 0 2 = some r := a1
    obtain ⟨fP, fS, fL, fE, fF, fB, fU, fV, fK, fW, hk, ra, ra1, ra2, ra3⟩ := CV_f a2 hW
    have m1 := s_Few_mostPairs (i := i1) (l := l1) (q := q1) (K := K) (A := pA (frF (sFr g) (g 2)) 16) (d + 3) hev (hL _ hev)
    rw [a1]
    dsimp only
    rw [hk, Bool.true_and, cond_true, fB, am_bd_some, q_app, b_X_pairs_83, m1, am_bd_some, q_app, b_X_pairs_86, b_X_pairs_101]
    have e : mI (prS g).1 = nI (pA (frF (sFr g) (g 2)) 16 (evb g)) := by
      unfold prS
      rw [k1]; rfl
    rw [e]
    exact YR_some hf1 hF1
  · rw [if_neg x0, decide_eq_false (show ¬ x = (0 : Int32) from x0), cond_false]
    by_cases x1 : x < nI 10
    · rw [decide_eq_true (show x < (10 : Int32) from x1), cond_true, b_X_pairs_24, if_neg (fun z => by
        have := z.1
        rw [fa_le] at this
        rw [fa_lt] at x1
        omega)]
      exact YR_0 hF
    · have x1' : nI 10 ≤ x := by
        rw [fa_le]
        rw [fa_lt] at x1
        omega
      rw [decide_eq_false (show ¬ x < (10 : Int32) from x1), cond_false, a1]
      dsimp only
      have fPx : am_cl (d + 4) mRiver_isPerson [.ref r, .int (x - 10)] (i, l, rX q, kX K) = some (some (.int (if iB (x - nI 10) (g 2) = true then nI 1 else nI 0)), (i, l, rX q, kX K)) := fP (d + 3) (x - 10)
      rw [hk, Bool.true_and, cond_true, fPx, am_bd_some, q_app, b_X_pairs_21]
      by_cases hx : iB (x - nI 10) (g 2) = true
      · obtain ⟨i1, l1, q1, e1, hf1, hF1, hL, hM⟩ := walk .unset
        obtain ⟨p, hp, hpe⟩ := iB_T hx
        have hpe' : x - (10 : Int32) = nI p := hpe
        rw [if_pos ⟨x1', hx⟩, if_pos hx, hpe, show decide (¬ nI 1 = (0 : Int32)) = true from rfl, cond_true, e1, b_X_pairs_68, decide_eq_true (show ¬ x = (0 : Int32) from x0), cond_true, hpe', in16 (show p < 4 by omega) (by decide), cond_true, b_X_pairs_101, nI_clamp (by omega), hM p (by omega)]
        have e : (prS g).2 p = mI ((mS (frF (sFr g) (g 2)) (pA (frF (sFr g) (g 2)) 16) (evb g) 4).2 p) := by
          unfold prS
          rw [k2 p hp]; rfl
        rw [e]
        exact YR_some hf1 hF1
      · rw [if_neg (fun z => hx z.2), if_neg hx, show decide (¬ nI 0 = (0 : Int32)) = false from rfl, cond_false, b_X_pairs_24]
        exact YR_0 hF
end
