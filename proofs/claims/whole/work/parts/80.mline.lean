/-! THE MODEL: lines are read -/
def stF (k v : Nat) (s : PS) : PS := if s.1 = 0 then (s.1, s.2.1, s.2.2.1, ug s.2.2.2 k v) else s
def dpS (B : Nat → Nat) (N : Nat) : Nat → Nat → PS → PS
  | 0, _, s => s
  | n + 1, k, s => if s.1 = 0 then dpS B N n (k + 1) (stF (26 + k) (uj B N s.2.2.1) (tkS B N 0 9 s)) else s
def xpS (B : Nat → Nat) (N k : Nat) (s : PS) : PS := if isS B N k s = true then nxS s else flS B N 2 s
def tkn (f : Nat → Nat) (x by_ : Nat) : Bool := ex (fun p => decide (f (18 + p) = x) && decide (1 ≤ x ∧ x ≤ f 1)) by_
def apS (B : Nat → Nat) (N p : Nat) (s : PS) : PS := if isS B N 23 s = true ∧ tkn s.2.2.2 (uj B N s.2.2.1) p = true then flS B N 3 s else s
def fgS (B : Nat → Nat) (N p : Nat) (s : PS) : PS :=
  if isS B N 5 s = true then stF (22 + p) (uj B N (s.2.2.1 + 1)) (tkS B N 0 9 (nxS s))
  else if isS B N 6 s = true then stF (14 + p) (uj B N (s.2.2.1 + 1)) (tkS B N 0 9 (nxS s))
  else if isS B N 7 s = true then stF (18 + p) (uj B N (s.2.2.1 + 1)) (tkS B N 0 (s.2.2.2 1 + 1) (apS B N p (nxS s)))
  else s
def fgB (B : Nat → Nat) (N p : Nat) (s : PS) : Bool := (isS B N 5 s || isS B N 6 s || isS B N 7 s) && decide ((fgS B N p s).1 = 0)
def flL (B : Nat → Nat) (N p : Nat) : Nat → PS → PS
  | 0, s => s
  | n + 1, s => if s.1 = 0 then (if fgB B N p s = true then flL B N p n (fgS B N p s) else fgS B N p s) else s
def inP (s : PS) : PS := stF 2 (s.2.2.2 2 + 1) s
def peS (B : Nat → Nat) (N : Nat) (s : PS) : PS :=
  if s.2.2.2 2 = 4 then flS B N 4 s else
  inP (flL B N (s.2.2.2 2) 1000 (stF (22 + s.2.2.2 2) 5 (stF (10 + s.2.2.2 2) (uj B N (xpS B N 4 (nxS s)).2.2.1) (tkS B N 1 4 (xpS B N 4 (nxS s))))))
def lwS (B : Nat → Nat) (N law : Nat) (s : PS) : PS :=
  stF (8 + law) ((truL B N law 6 (xpS B N 31 (nxS s))).2.2.2 173 - (xpS B N 31 (nxS s)).2.2.2 173) (stF (6 + law) ((xpS B N 31 (nxS s)).2.2.2 173) (stF (4 + law) 1 (truL B N law 6 (xpS B N 31 (nxS s)))))
def lnS (B : Nat → Nat) (N : Nat) (s : PS) : PS :=
  if s.1 = 0 then (if isS B N 1 s = true then dpS B N (s.2.2.2 1) 0 (nxS s) else if isS B N 2 s = true then stF 3 (uj B N (s.2.2.1 + 1)) (tkS B N 0 9 (nxS s)) else if isS B N 3 s = true then peS B N s else if isS B N 8 s = true then lwS B N 0 s else if isS B N 9 s = true then lwS B N 1 s else flS B N 2 s) else s
def enS (B : Nat → Nat) (N : Nat) (s : PS) : PS := stF 0 ((xpS B N 30 s).2.2.2 0 + 1) (xpS B N 30 s)
def rvL (B : Nat → Nat) (N : Nat) : Nat → PS → PS
  | 0, s => s
  | n + 1, s => if s.1 = 0 ∧ kj B N s.2.2.1 ≠ 24 then rvL B N n (enS B N (lnS B N s)) else s
def pln (k : Nat) : Nat := if k = 1 then 1 else if k = 3 then 5 else 0
def rvS (B : Nat → Nat) (N : Nat) : PS := rvL B N 1000 (enS B N (stF 1 (uj B N (xpS B N 0 (0, 0, 0, pln)).2.2.1) (tkS B N 1 6 (xpS B N 0 (0, 0, 0, pln)))))
/-- spots and people as they can be while a text is read -/
def SP (s : PS) : Prop := s.1 = 0 → s.2.2.2 1 ≤ 6 ∧ s.2.2.2 2 ≤ 4 ∧ s.2.2.2 0 ≤ s.2.2.1
/-- it doesn't go back -/
def Pq (B : Nat → Nat) (N : Nat) (s t : PS) : Prop := t.1 = 0 → s.1 = 0 ∧ s.2.2.1 ≤ t.2.2.1 ∧ t.2.2.2 173 + s.2.2.1 ≤ s.2.2.2 173 + t.2.2.1 ∧ t.2.2.1 ≤ pj B N t.2.2.1
section
variable {B : Nat → Nat} {N : Nat}
theorem Pq_of {s t : PS} (h : Pg B N s t) : Pq B N s t := fun z => by
  obtain ⟨a1, a2, a3, a4, _⟩ := h z
  exact ⟨a1, by omega, a3.2, a4⟩
theorem Pq_cb {s t : PS} (h : Pq B N s t) (hc : CB B N s) : CB B N t := fun z => by
  obtain ⟨q1, q2, q3, q4⟩ := h z
  obtain ⟨c1, c2⟩ := hc q1
  exact ⟨by omega, q4⟩
theorem Pq_tr {s t u : PS} (h : Pq B N s t) (h2 : Pq B N t u) : Pq B N s u := fun z => by
  obtain ⟨a1, a2, a3, a4⟩ := h2 z
  obtain ⟨b1, b2, b3, b4⟩ := h a1
  exact ⟨b1, by omega, by omega, a4⟩
theorem Pq_refl {s : PS} (hc : CB B N s) : Pq B N s s := fun z => ⟨z, Nat.le_refl _, Nat.le_refl _, (hc z).2⟩
theorem stF_w {k v : Nat} {s : PS} : (stF k v s).1 = s.1 := by unfold stF; split <;> rfl
theorem stF_0 {k v : Nat} {s : PS} (h : s.1 = 0) : stF k v s = (s.1, s.2.1, s.2.2.1, ug s.2.2.2 k v) := by unfold stF; rw [if_pos h]
theorem Pq_st {k v : Nat} {s t : PS} (h : Pq B N s t) (hk : k ≠ 173) : Pq B N s (stF k v t) := fun z => by
  rw [stF_w] at z
  obtain ⟨a1, a2, a3, a4⟩ := h z
  rw [stF_0 z]
  refine ⟨a1, a2, ?_, a4⟩
  show ug t.2.2.2 k v 173 + _ ≤ _
  unfold ug
  rw [if_neg (Ne.symm hk)]
  exact a3
theorem Pg_tk {lo hi : Nat} {s : PS} (hc : CB B N s) : Pg B N s (tkS B N lo hi s) := by
  unfold tkS
  split
  · split
    · rename_i hk
      split
      · exact Pg_nx hc (by rw [hk]; decide)
      · exact Pg_fl (by decide)
    · exact Pg_fl (by decide)
  · rename_i h; exact fun z => absurd z h
theorem Pg_xp {k : Nat} {s : PS} (hc : CB B N s) (hk : k ≠ 24) : Pg B N s (xpS B N k s) := by
  unfold xpS
  split
  · rename_i h; exact Pg_nx hc (by rw [(isS_w h).2]; exact hk)
  · exact Pg_fl (by decide)
theorem Pq_dp : ∀ n k s, k + n ≤ 100 → CB B N s → Pq B N s (dpS B N n k s)
  | 0, k, s, _, hc => Pq_refl hc
  | n + 1, k, s, hk, hc => by
    rw [dpS]
    split
    · have h1 : Pq B N s (stF (26 + k) (uj B N s.2.2.1) (tkS B N 0 9 s)) := Pq_st (Pq_of (Pg_tk hc)) (by omega)
      exact Pq_tr h1 (Pq_dp n (k + 1) _ (by omega) (Pq_cb h1 hc))
    · exact Pq_refl hc
theorem Pq_ap {p : Nat} {s : PS} (hc : CB B N s) : Pq B N s (apS B N p s) := by
  unfold apS
  split
  · exact Pq_of (Pg_fl (by decide))
  · exact Pq_refl hc
/-- a flag goes on, if it is one -/
theorem Pq_fg {p : Nat} {s : PS} (hp : p < 10) (hc : CB B N s) : Pq B N s (fgS B N p s) ∧ (fgB B N p s = true → s.2.2.1 < (fgS B N p s).2.2.1) := by
  unfold fgB
  have key : ∀ (k v lo hi : Nat) (u : PS), k < 173 → kj B N s.2.2.1 ≠ 24 → Pq B N (nxS s) u → Pq B N s (stF k v (tkS B N lo hi u)) ∧ ((stF k v (tkS B N lo hi u)).1 = 0 → s.2.2.1 < (stF k v (tkS B N lo hi u)).2.2.1) := by
    intro k v lo hi u hk hk24 hu
    have h1 := Pg_nx hc hk24
    have hcn := Pg_cb h1 hc
    have h2 := Pq_st (k := k) (v := v) (Pq_tr hu (Pq_of (Pg_tk (lo := lo) (hi := hi) (Pq_cb hu hcn)))) (by omega)
    refine ⟨Pq_tr (Pq_of h1) h2, fun z => ?_⟩
    have a := (h2 z).2.1
    have b : (nxS s).2.2.1 = s.2.2.1 + 1 := rfl
    omega
  unfold fgS
  by_cases h5 : isS B N 5 s = true
  · have hk24 : kj B N s.2.2.1 ≠ 24 := by rw [(isS_w h5).2]; decide
    rw [if_pos h5]
    obtain ⟨q1, q2⟩ := key (22 + p) (uj B N (s.2.2.1 + 1)) 0 9 (nxS s) (by omega) hk24 (Pq_refl (Pg_cb (Pg_nx hc hk24) hc))
    exact ⟨q1, fun z => q2 (by rw [Bool.and_eq_true] at z; exact of_decide_eq_true z.2)⟩
  · rw [if_neg h5]
    by_cases h6 : isS B N 6 s = true
    · have hk24 : kj B N s.2.2.1 ≠ 24 := by rw [(isS_w h6).2]; decide
      rw [if_pos h6]
      obtain ⟨q1, q2⟩ := key (14 + p) (uj B N (s.2.2.1 + 1)) 0 9 (nxS s) (by omega) hk24 (Pq_refl (Pg_cb (Pg_nx hc hk24) hc))
      exact ⟨q1, fun z => q2 (by rw [Bool.and_eq_true] at z; exact of_decide_eq_true z.2)⟩
    · rw [if_neg h6]
      by_cases h7 : isS B N 7 s = true
      · have hk24 : kj B N s.2.2.1 ≠ 24 := by rw [(isS_w h7).2]; decide
        rw [if_pos h7]
        obtain ⟨q1, q2⟩ := key (18 + p) (uj B N (s.2.2.1 + 1)) 0 (s.2.2.2 1 + 1) (apS B N p (nxS s)) (by omega) hk24 (Pq_ap (Pg_cb (Pg_nx hc hk24) hc))
        exact ⟨q1, fun z => q2 (by rw [Bool.and_eq_true] at z; exact of_decide_eq_true z.2)⟩
      · rw [if_neg h7]
        refine ⟨Pq_refl hc, fun z => ?_⟩
        rw [Bool.and_eq_true, Bool.or_eq_true, Bool.or_eq_true] at z
        rcases z.1 with (q | q) | q
        · exact absurd q h5
        · exact absurd q h6
        · exact absurd q h7
theorem Pq_flL {p : Nat} (hp : p < 10) : ∀ n s, CB B N s → Pq B N s (flL B N p n s)
  | 0, s, hc => Pq_refl hc
  | n + 1, s, hc => by
    have h1 := (Pq_fg hp hc).1
    rw [flL]
    split
    · split
      · exact Pq_tr h1 (Pq_flL hp n _ (Pq_cb h1 hc))
      · exact h1
    · exact Pq_refl hc
/-- what the reader's memory holds when nothing more is known -/
theorem RP_w {i i' : Nat → Nat → Int32} {R : List Nat} {s : PS} (h : RP B N i s) (hf : Fx R i i') (hw : s.1 ≠ 0) (h1 : R.contains 111 = false) (h2 : R.contains 112 = false) : RP B N i' s := ⟨by rw [hf 0 11 h1]; exact h.1, h.2.1, fun z => by rw [hf 0 12 h2]; exact h.2.2.1 z, fun z => absurd z hw⟩
theorem RP_st {i : Nat → Nat → Int32} {k : Nat} {s : PS} {v : Int32} {x : Nat} (h : RP B N i s) (hv : s.1 = 0 → v = nI x) : RP B N (am_u2 i 4 k v) (stF k x s) := by
  obtain ⟨h1, h2, h3, h4⟩ := h
  by_cases h0 : s.1 = 0
  · rw [stF_0 h0]
    obtain ⟨q1, q2, q3, q4, q5⟩ := h4 h0
    refine ⟨h1, h2, fun z => absurd h0 z, fun _ => ⟨q1, q2, q3, q4, fun j hj => ?_⟩⟩
    show (if j = k then v else i 4 j) = nI (if j = k then x else s.2.2.2 j)
    by_cases e : j = k
    · rw [if_pos e, if_pos e]; exact hv h0
    · rw [if_neg e, if_neg e]; exact q5 j hj
  · have e : stF k x s = s := by unfold stF; rw [if_neg h0]
    rw [e]
    exact ⟨h1, h2, h3, fun z => absurd z h0⟩
end
section
variable {i : Nat → Nat → Int32} {l : Nat → Nat → Int64} {B : Nat → Nat} {N : Nat}
theorem r_M_readDepths (d : Nat) {s : PS} (hS : s.2.2.2 1 ≤ 6) (h0 : s.1 = 0) (hT : TP i B N) (hR : RP B N i s) : MR none (fun i' l' => l' = l ∧ Fx [4, 106, 107, 109, 110, 111, 112] i i' ∧ RP B N i' (dpS B N (s.2.2.2 1) 0 (nxS s))) (am_cl (d + 4) mM_readDepths [.ref 0] (i, l, rM, kM)) := by
  obtain ⟨i2, l2, e2, hl2, hf2, hR2⟩ := r_M_nx (i := i) (l := l) (d + 1) hT hR h0
  subst hl2
  have key : ∀ n k s1 i1, k + n = s.2.2.2 1 → (s1.1 = 0 → s1.2.2.2 1 = s.2.2.2 1) → RP B N i1 s1 → Fx [4, 106, 107, 109, 110, 111, 112] i i1 → MR none (fun i' l' => l' = l2 ∧ Fx [4, 106, 107, 109, 110, 111, 112] i i' ∧ RP B N i' (dpS B N n k s1)) (am_Ex (d + 3) mM_readDepths 6 [.val (.ref 0), .val (.int (nI k))] [] (i1, l2, rM, kM)) := by
    intro n
    induction n with
    | zero =>
      intro k s1 i1 hk hs1 hR1 hf1
      have h11 := hR1.1
      have h4 := hR1.2.1
      refine MR_q ?_
      intro Q hQ
      rw [b_M_readDepths_6]
      by_cases h01 : s1.1 = 0
      · have h41 := (hR1.2.2.2 h01).2.2.2.2 1 (by decide)
        rw [hs1 h01] at h41
        simp (disch := first | assumption | omega) only [b_M_readDepths_0, b_M_readDepths_4, b_M_readDepths_38, b_M_readDepths_45, ↓Bool.cond_decide, ↓q_in, q_le, q_lt, q_eq, q_leT, q_leF, q_ltT, q_ltF, q_eqT, q_eqF, ↓reduceIte, not_true_eq_false, not_false_eq_true, true_and, and_true, and_self, false_and, and_false, Nat.zero_le, am_bd_some, q_app, q_app0, nI_add, pk_sub, pk_mul, q_dec, q_ix, q_m1, q_m1', ↓q_ret, q_bool, q_bool1, q_u2, q_u1, q_shl1, q_shr, q_and7, q_dg, fa_or, fa_and, decide_true, decide_false, Bool.or_false, Bool.or_true, Bool.true_or, Bool.false_or, cond_true, cond_false, ite_not, q_some, q_nn, q_xor, q_xorm, Bool.false_eq_true, decide_eq_true_eq, ne_eq, l_0, l_1, l_3, l_4, l_5, l_6, l_9, l_11, l_22, l_26, l_38, l_45, l_1074, h41]
        exact MR_some (hQ _ _ ⟨rfl, hf1, hR1⟩)
      · simp (disch := first | assumption | omega) only [b_M_readDepths_0, b_M_readDepths_4, b_M_readDepths_38, b_M_readDepths_45, ↓Bool.cond_decide, ↓q_in, q_le, q_lt, q_eq, q_leT, q_leF, q_ltT, q_ltF, q_eqT, q_eqF, ↓reduceIte, not_true_eq_false, not_false_eq_true, true_and, and_true, and_self, false_and, and_false, Nat.zero_le, am_bd_some, q_app, q_app0, nI_add, pk_sub, pk_mul, q_dec, q_ix, q_m1, q_m1', ↓q_ret, q_bool, q_bool1, q_u2, q_u1, q_shl1, q_shr, q_and7, q_dg, fa_or, fa_and, decide_true, decide_false, Bool.or_false, Bool.or_true, Bool.true_or, Bool.false_or, cond_true, cond_false, ite_not, q_some, q_nn, q_xor, q_xorm, Bool.false_eq_true, decide_eq_true_eq, ne_eq, l_0, l_1, l_3, l_4, l_5, l_6, l_9, l_11, l_22, l_26, l_38, l_45, l_1074, h11, h01, ite_self]
        exact MR_some (hQ _ _ ⟨rfl, hf1, hR1⟩)
    | succ n ih =>
      intro k s1 i1 hk hs1 hR1 hf1
      have h11 := hR1.1
      have h4 := hR1.2.1
      refine MR_q ?_
      intro Q hQ
      rw [dpS] at hQ
      rw [b_M_readDepths_6]
      by_cases h01 : s1.1 = 0
      · rw [if_pos h01] at hQ
        have h41 := (hR1.2.2.2 h01).2.2.2.2 1 (by decide)
        rw [hs1 h01] at h41
        obtain ⟨v, hv, i3, l3, e3, hl3, hf3, hR3⟩ := r_M_takes (i := i1) (l := l2) d (lo := 0) (hi := 9) (by decide) (by decide) (TP_fx hf1 hT rfl rfl) hR1
        subst hl3
        simp (disch := first | assumption | omega) only [b_M_readDepths_0, b_M_readDepths_4, b_M_readDepths_38, b_M_readDepths_45, ↓Bool.cond_decide, ↓q_in, q_le, q_lt, q_eq, q_leT, q_leF, q_ltT, q_ltF, q_eqT, q_eqF, ↓reduceIte, not_true_eq_false, not_false_eq_true, true_and, and_true, and_self, false_and, and_false, Nat.zero_le, am_bd_some, q_app, q_app0, nI_add, pk_sub, pk_mul, q_dec, q_ix, q_m1, q_m1', ↓q_ret, q_bool, q_bool1, q_u1, q_shl1, q_shr, q_and7, q_dg, fa_or, fa_and, decide_true, decide_false, Bool.or_false, Bool.or_true, Bool.true_or, Bool.false_or, cond_true, cond_false, ite_not, q_some, q_nn, q_xor, q_xorm, Bool.false_eq_true, decide_eq_true_eq, ne_eq, l_0, l_1, l_3, l_4, l_5, l_6, l_9, l_11, l_22, l_26, l_38, l_45, l_1074, h41, h11, h01, e3]
        refine MR_mono (ih (k + 1) _ _ (by omega) (fun z => ?_) (RP_st hR3 hv) (by (repeat (first | exact Fx_refl _ _ | assumption | refine Fx_u2 rfl ?_ | refine Fx_u1 rfl (by decide) ?_ | refine Fx_step (by assumption) rfl ?_ | refine Fx_stepr (by assumption) rfl rfl ?_)))) (fun i' l' q => hQ i' l' q)
        rw [stF_w] at z
        rw [stF_0 z]
        show ug (tkS B N 0 9 s1).2.2.2 (26 + k) _ 1 = _
        unfold ug
        rw [if_neg (by omega)]
        have : tkS B N 0 9 s1 = nxS s1 := by
          unfold tkS at z ⊢
          rw [if_pos h01] at z ⊢
          by_cases c1 : kj B N s1.2.2.1 = 23
          · rw [if_pos c1] at z ⊢
            by_cases c2 : 0 ≤ uj B N s1.2.2.1 ∧ uj B N s1.2.2.1 ≤ 9
            · rw [if_pos c2]
            · rw [if_neg c2] at z; exact absurd z (flS_w (by decide))
          · rw [if_neg c1] at z; exact absurd z (flS_w (by decide))
        rw [this]
        exact hs1 h01
      · rw [if_neg h01] at hQ
        simp (disch := first | assumption | omega) only [b_M_readDepths_0, b_M_readDepths_4, b_M_readDepths_38, b_M_readDepths_45, ↓Bool.cond_decide, ↓q_in, q_le, q_lt, q_eq, q_leT, q_leF, q_ltT, q_ltF, q_eqT, q_eqF, ↓reduceIte, not_true_eq_false, not_false_eq_true, true_and, and_true, and_self, false_and, and_false, Nat.zero_le, am_bd_some, q_app, q_app0, nI_add, pk_sub, pk_mul, q_dec, q_ix, q_m1, q_m1', ↓q_ret, q_bool, q_bool1, q_u2, q_u1, q_shl1, q_shr, q_and7, q_dg, fa_or, fa_and, decide_true, decide_false, Bool.or_false, Bool.or_true, Bool.true_or, Bool.false_or, cond_true, cond_false, ite_not, q_some, q_nn, q_xor, q_xorm, Bool.false_eq_true, decide_eq_true_eq, ne_eq, l_0, l_1, l_3, l_4, l_5, l_6, l_9, l_11, l_22, l_26, l_38, l_45, l_1074, h11, h01, ite_self]
        exact MR_some (hQ _ _ ⟨rfl, hf1, hR1⟩)
  refine MR_q ?_
  intro Q hQ
  rw [c_M_readDepths, b_M_readDepths_0]
  simp (disch := first | assumption | omega) only [b_M_readDepths_0, b_M_readDepths_4, b_M_readDepths_38, b_M_readDepths_45, ↓Bool.cond_decide, ↓q_in, q_le, q_lt, q_eq, q_leT, q_leF, q_ltT, q_ltF, q_eqT, q_eqF, ↓reduceIte, not_true_eq_false, not_false_eq_true, true_and, and_true, and_self, false_and, and_false, Nat.zero_le, am_bd_some, q_app, q_app0, nI_add, pk_sub, pk_mul, q_dec, q_ix, q_m1, q_m1', ↓q_ret, q_bool, q_bool1, q_u2, q_u1, q_shl1, q_shr, q_and7, q_dg, fa_or, fa_and, decide_true, decide_false, Bool.or_false, Bool.or_true, Bool.true_or, Bool.false_or, cond_true, cond_false, ite_not, q_some, q_nn, q_xor, q_xorm, Bool.false_eq_true, decide_eq_true_eq, ne_eq, l_0, l_1, l_3, l_4, l_5, l_6, l_9, l_11, l_22, l_26, l_38, l_45, l_1074, e2]
  exact MR_mono (key (s.2.2.2 1) 0 (nxS s) i2 (by omega) (fun _ => rfl) hR2 (by (repeat (first | exact Fx_refl _ _ | assumption | refine Fx_u2 rfl ?_ | refine Fx_u1 rfl (by decide) ?_ | refine Fx_step (by assumption) rfl ?_ | refine Fx_stepr (by assumption) rfl rfl ?_)))) (fun i' l' q => hQ i' l' q)
theorem s_M_isTaken (d : Nat) {f : Nat → Nat} {x p : Nat} (hx : x < 1000) (hp : p < 5) (hS : f 1 ≤ 6) (hf4 : ∀ k, k < 1074 → i 4 k = nI (f k)) (hfp : ∀ k, k < p → f (18 + k) < 1000) : am_cl (d + 2) mM_isTaken [.ref 0, .int (nI x), .int (nI p)] (i, l, rM, kM) = some (some (.int (if tkn f x p = true then nI 1 else nI 0)), (i, l, rM, kM)) := by
  have h41 := hf4 1 (by decide)
  have ew : ((1 : Int64) ≤ Int32.toInt64 (nI x) ∧ Int32.toInt64 (nI x) ≤ Int32.toInt64 (nI (f 1))) = (1 ≤ x ∧ x ≤ f 1) := by
    rw [nI_l (show x < 2 ^ 31 by omega), nI_l (show f 1 < 2 ^ 31 by omega), show (1 : Int64) = lN 1 from rfl, propext (pk_lLE (a := 1) (b := x) (by decide) (by omega)), propext (pk_lLE (a := x) (b := f 1) (by omega) (by omega))]
  have eff : ∀ n k, tkn f x (k + n) = (tkn f x k || (ff (fun p => decide (f (18 + p) = x) && decide (1 ≤ x ∧ x ≤ f 1)) n k).isSome) := by
    intro n
    induction n with
    | zero => intro k; simp [ff]
    | succ n ih =>
      intro k
      rw [show k + (n + 1) = k + 1 + n by omega, ih (k + 1), ff]
      show ((tkn f x k || (decide (f (18 + k) = x) && decide (1 ≤ x ∧ x ≤ f 1))) || _) = _
      cases hc : (decide (f (18 + k) = x) && decide (1 ≤ x ∧ x ≤ f 1)) with
      | true => simp
      | false => simp
  have e0 := eff p 0
  rw [Nat.zero_add] at e0
  have e00 : tkn f x 0 = false := rfl
  rw [e00, Bool.false_or] at e0
  rw [e0, c_M_isTaken, b_M_isTaken_0]
  refine am_find (d := d + 1) (y := mM_isTaken) (pc := 2) (fun k ls st => ls = [.val (.ref 0), .val (.int (nI x)), .val (.int (nI p)), .val (.int (nI k))] ∧ st = (i, l, rM, kM)) _ (fun o r => r = some (some (.int (if o.isSome = true then nI 1 else nI 0)), (i, l, rM, kM))) p 0 (fun k ls st _ hk hI => ?_) (fun ls st hI => ?_) _ _ ⟨rfl, rfl⟩
  · obtain ⟨e1, e2⟩ := hI
    subst e1; subst e2
    have h4k := hf4 (18 + k) (by omega)
    have hfk := hfp k (by omega)
    refine ⟨fun hb => ?_, fun hb => ?_⟩
    · rw [Bool.and_eq_true] at hb
      have c1 := of_decide_eq_true hb.1
      have c2 := of_decide_eq_true hb.2
      rw [b_M_isTaken_2]
      simp (disch := first | assumption | omega) only [b_M_isTaken_0, b_M_isTaken_33, b_M_isTaken_38, s_M_within, ↓Bool.cond_decide, ↓q_in, q_le, q_lt, q_eq, q_leT, q_leF, q_ltT, q_ltF, q_eqT, q_eqF, ↓reduceIte, not_true_eq_false, not_false_eq_true, true_and, and_true, and_self, false_and, and_false, Nat.zero_le, am_bd_some, q_app, q_app0, nI_add, pk_sub, pk_mul, q_dec, q_ix, q_m1, q_m1', ↓q_ret, q_bool, q_bool1, q_u2, q_u1, q_shl1, q_shr, q_and7, q_dg, fa_or, fa_and, decide_true, decide_false, Bool.or_false, Bool.or_true, Bool.true_or, Bool.false_or, cond_true, cond_false, ite_not, q_some, q_nn, q_xor, q_xorm, Bool.false_eq_true, decide_eq_true_eq, ne_eq, l_0, l_1, l_2, l_4, l_5, l_6, l_18, l_25, l_33, l_38, l_1074, h4k, c1, h41, ew, c2]
      rfl
    · rw [b_M_isTaken_2]
      by_cases c1 : f (18 + k) = x
      · have c2 : ¬ (1 ≤ x ∧ x ≤ f 1) := fun z => by rw [decide_eq_true c1, decide_eq_true z] at hb; cases hb
        simp (disch := first | assumption | omega) only [b_M_isTaken_0, b_M_isTaken_33, b_M_isTaken_38, s_M_within, ↓Bool.cond_decide, ↓q_in, q_le, q_lt, q_eq, q_leT, q_leF, q_ltT, q_ltF, q_eqT, q_eqF, ↓reduceIte, not_true_eq_false, not_false_eq_true, true_and, and_true, and_self, false_and, and_false, Nat.zero_le, am_bd_some, q_app, q_app0, nI_add, pk_sub, pk_mul, q_dec, q_ix, q_m1, q_m1', ↓q_ret, q_bool, q_bool1, q_u2, q_u1, q_shl1, q_shr, q_and7, q_dg, fa_or, fa_and, decide_true, decide_false, Bool.or_false, Bool.or_true, Bool.true_or, Bool.false_or, cond_true, cond_false, ite_not, q_some, q_nn, q_xor, q_xorm, Bool.false_eq_true, decide_eq_true_eq, ne_eq, l_0, l_1, l_2, l_4, l_5, l_6, l_18, l_25, l_33, l_38, l_1074, h4k, c1, h41, ew, c2]
        exact Go_in ⟨rfl, rfl⟩
      · simp (disch := first | assumption | omega) only [b_M_isTaken_0, b_M_isTaken_33, b_M_isTaken_38, s_M_within, ↓Bool.cond_decide, ↓q_in, q_le, q_lt, q_eq, q_leT, q_leF, q_ltT, q_ltF, q_eqT, q_eqF, ↓reduceIte, not_true_eq_false, not_false_eq_true, true_and, and_true, and_self, false_and, and_false, Nat.zero_le, am_bd_some, q_app, q_app0, nI_add, pk_sub, pk_mul, q_dec, q_ix, q_m1, q_m1', ↓q_ret, q_bool, q_bool1, q_u2, q_u1, q_shl1, q_shr, q_and7, q_dg, fa_or, fa_and, decide_true, decide_false, Bool.or_false, Bool.or_true, Bool.true_or, Bool.false_or, cond_true, cond_false, ite_not, q_some, q_nn, q_xor, q_xorm, Bool.false_eq_true, decide_eq_true_eq, ne_eq, l_0, l_1, l_2, l_4, l_5, l_6, l_18, l_25, l_33, l_38, l_1074, h4k, c1]
        exact Go_in ⟨rfl, rfl⟩
  · obtain ⟨e1, e2⟩ := hI
    subst e1; subst e2
    rw [b_M_isTaken_2]
    simp (disch := first | assumption | omega) only [b_M_isTaken_0, b_M_isTaken_33, b_M_isTaken_38, s_M_within, ↓Bool.cond_decide, ↓q_in, q_le, q_lt, q_eq, q_leT, q_leF, q_ltT, q_ltF, q_eqT, q_eqF, ↓reduceIte, not_true_eq_false, not_false_eq_true, true_and, and_true, and_self, false_and, and_false, Nat.zero_le, am_bd_some, q_app, q_app0, nI_add, pk_sub, pk_mul, q_dec, q_ix, q_m1, q_m1', ↓q_ret, q_bool, q_bool1, q_u2, q_u1, q_shl1, q_shr, q_and7, q_dg, fa_or, fa_and, decide_true, decide_false, Bool.or_false, Bool.or_true, Bool.true_or, Bool.false_or, cond_true, cond_false, ite_not, q_some, q_nn, q_xor, q_xorm, Bool.false_eq_true, decide_eq_true_eq, ne_eq, l_0, l_1, l_2, l_4, l_5, l_6, l_18, l_25, l_33, l_38, l_1074]
    rfl
end
