/-! BOTH: as they are made -/
def aM0 (kd n : Nat) : aM := (fun _ _ => 0, fun _ _ => 0, fun _ _ => none, [(kd, n)])
def xI0 : Option aR := am_ex 700 20 mX_init 0 (am_en mX_init [.ref 0]) [] (aM0 11 16)
/-- what stands in the memory of a new object -/
def xok (i : Nat → Nat → Int32) (l : Nat → Nat → Int64) (q : Nat → Nat → Option Nat) : Bool :=
  ((List.range 58).all fun a => (List.range 16).all fun k => decide (rX q a k = q a k)) &&
  (decide (q 0 2 = some 7) && decide (q 7 5 = some 8) && decide (q 7 6 = some 9) && decide (q 7 7 = none) && decide (q 7 8 = none)) &&
  (decide (i 7 0 = nI 1) && decide (i 7 1 = nI 0) && decide (i 7 2 = nI 5) && decide (i 7 3 = nI 0)) &&
  ((List.range 4).all fun p => decide (i 8 p = nI 0) && decide (i 9 p = nI 0)) &&
  (decide (l 0 3 = lN 0) && decide (i 0 5 = nI 0) && decide (q 48 0 = none) && decide (q 48 1 = none)) &&
  ((List.range 4).all fun t => decide (i (50 + 2 * t) 2 = -nI 1)) &&
  (decide (i 1 1 = nI 0) && decide (i 5 3 = nI 0) && decide (i 5 4 = -nI 1) && decide (i 5 8 = nI 0)) &&
  (decide (q 11 1 = some 15) && decide (l 11 2 = lN 0) && ((List.range 16).all fun k => decide (i 18 k = 0)) && (List.range 128).all fun k => decide (i 20 k = 0)) &&
  (decide (q 22 1 = some 23) && decide (q 22 3 = some 26) && decide (i 22 2 = -nI 1) && decide (i 22 4 = nI 0)) &&
  (decide (q 27 1 = some 28) && decide (q 27 2 = some 29) && decide (i 27 3 = nI 0) && decide (i 27 8 = -nI 1)) &&
  (decide (q 30 1 = some 31) && decide (q 30 2 = some 32) && decide (q 30 3 = some 33) && decide (q 30 4 = some 34)) &&
  (decide (q 35 1 = some 36) && decide (q 35 2 = some 37) && decide (q 35 3 = some 38))
def xchk : Bool := match xI0 with
  | some (none, (i, l, q, K)) => decide (K = kX []) && xok i l q
  | _ => false
set_option maxRecDepth 100000 in
theorem xchk_ok : xchk = true := by decide +kernel
theorem x_made : ∃ i l q, xI0 = some (none, (i, l, q, kX [])) ∧ xok i l q = true := by
  have h := xchk_ok
  unfold xchk at h
  split at h
  · rename_i i l q K e
    have h := Bool.and_eq_true_iff.mp h
    have hK := of_decide_eq_true h.1
    subst hK
    exact ⟨i, l, q, e, h.2⟩
  · cases h
section
variable {i : Nat → Nat → Int32} {l : Nat → Nat → Int64} {q : Nat → Nat → Option Nat} {K : List (Nat × Nat)}
theorem s_plain1 (d : Nat) (hk : am_kd (i, l, q, K) 1 = 100) (hl : am_ln (i, l, q, K) 1 = 3222) : ∃ i', am_cl (d + 1) mM_plain [.ref 1] (i, l, q, K) = some (none, (i', l, q, K)) ∧ (∀ c, c ≠ 1 → i' c = i c) ∧ (∀ k, k < 1074 → i' 1 k = nI (pln k)) ∧ ∀ k, 1074 ≤ k → i' 1 k = i 1 k := by
  have hk' : ∀ i' : Nat → Nat → Int32, Nat.beq (am_kd (i', l, q, K) 1) 100 = true := fun i' => by rw [show am_kd (i', l, q, K) 1 = 100 from hk]; rfl
  have hl' : ∀ i' : Nat → Nat → Int32, am_ln (i', l, q, K) 1 = 3222 := fun i' => hl
  have main : ∀ n k i1, k + n = 1074 → (∀ c, c ≠ 1 → i1 c = i c) → (∀ j, j < k → i1 1 j = nI 0) → (∀ j, k ≤ j → i1 1 j = i 1 j) → ∃ i', am_Ex d mM_plain 2 [.val (.ref 1), .val (.int (nI k))] [] (i1, l, q, K) = some (none, (i', l, q, K)) ∧ (∀ c, c ≠ 1 → i' c = i c) ∧ (∀ k, k < 1074 → i' 1 k = nI (pln k)) ∧ ∀ k, 1074 ≤ k → i' 1 k = i 1 k := by
    intro n
    induction n with
    | zero =>
      intro k i1 hkn h1 h2 h3
      have hk0 : k = 1074 := by omega
      subst hk0
      rw [b_M_plain_2, show decide ((1074 : Int32) ≤ nI 1074) = true from rfl, cond_true, hk', hl', show (true && am_in (1 : Int32) 3222) = true from rfl, cond_true, hk', hl', show (true && am_in (3 : Int32) 3222) = true from rfl, cond_true]
      refine ⟨_, rfl, fun c hc => ?_, fun k hk => ?_, fun k hk => ?_⟩
      · rw [am_u2_ne hc, am_u2_ne hc]; exact h1 c hc
      · rw [am_u2_at, am_u2_at]
        unfold pln
        by_cases k1 : k = 1
        · subst k1; rfl
        · by_cases k3 : k = 3
          · subst k3; rfl
          · rw [if_neg k3, if_neg k1, if_neg k1, if_neg k3]; exact h2 k hk
      · rw [am_u2_at, am_u2_at, if_neg (by omega), if_neg (by omega)]; exact h3 k hk
    | succ n ih =>
      intro k i1 hkn h1 h2 h3
      rw [b_M_plain_2, decide_eq_false (show ¬ (1074 : Int32) ≤ nI k from by
        show ¬ nI 1074 ≤ nI k
        rw [q_le (by omega) (by omega)]; omega), cond_false, hk', hl', in16 (show k < 3222 by omega) (by decide), show (true && true) = true from rfl, cond_true, nI_clamp (by omega), show nI k + (1 : Int32) = nI (k + 1) from nI_add _ 1]
      refine ih (k + 1) _ (by omega) (fun c hc => by rw [am_u2_ne hc]; exact h1 c hc) (fun j hj => ?_) (fun j hj => ?_)
      · rw [am_u2_at]
        by_cases e : j = k
        · rw [if_pos e]; rfl
        · rw [if_neg e]; exact h2 j (by omega)
      · rw [am_u2_at, if_neg (by omega)]; exact h3 j (by omega)
  rw [c_M_plain, b_M_plain_0]
  exact main 1074 0 i (by omega) (fun _ _ => rfl) (fun j hj => absurd hj (Nat.not_lt_zero _)) (fun _ _ => rfl)
end
/-- what stands in the memory of the model -/
def mok (i : Nat → Nat → Int32) (l : Nat → Nat → Int64) (q : Nat → Nat → Option Nat) : Bool :=
  ((List.range 25).all fun a => (List.range 44).all fun k => decide (rM a k = q a k)) &&
  ((List.range 2).all fun k => decide (i 2 k = nI 0)) && (decide (i 0 5 = nI 0) && decide (i 0 13 = nI 0) && decide (i 0 14 = -nI 1)) &&
  ((List.range 4).all fun t => decide (i 22 t = -nI 1) && decide (i 23 t = nI 0)) && ((List.range 160).all fun k => decide (l 24 k = 0))
set_option maxRecDepth 100000 in
theorem m_init0 (d : Nat) : ∃ i l q, am_Ex d mM_init 0 (am_en mM_init [.ref 0]) [] (aM0 12 44) = am_bd (am_cl d mM_plain [.ref 1] (i, l, q, kM)) (fun v t => am_Ex d mM_init 231 [.val (.ref 0)] (Option.toList v ++ []) t) ∧ mok i l q = true ∧ ∀ k, i 1 k = 0 := ⟨_, _, _, (am_bk_eq d mM_init [0, 231] 300 0 _ _ _).trans rfl, by decide +kernel, fun _ => rfl⟩
theorem m_init1 (d : Nat) (s : aM) : am_Ex d mM_init 231 [.val (.ref 0)] [] s = some (none, s) := (am_bk_eq d mM_init [0, 231] 3 231 _ _ _).trans rfl
theorem m_made (d : Nat) : ∃ i l q, am_Ex (d + 1) mM_init 0 (am_en mM_init [.ref 0]) [] (aM0 12 44) = some (none, (i, l, q, kM)) ∧ mok i l q = true ∧ ∀ k, k < 3222 → i 1 k = nI (pln k) := by
  obtain ⟨i, l, q, e, hm, h1⟩ := m_init0 (d + 1)
  obtain ⟨i', e', ho, hp, hq⟩ := s_plain1 (i := i) (l := l) (q := q) (K := kM) d rfl rfl
  rw [e', am_bd_some, q_app0, m_init1] at e
  refine ⟨i', l, q, e, ?_, fun k hk => ?_⟩
  · unfold mok at hm ⊢
    rw [ho 2 (by decide), ho 0 (by decide), ho 22 (by decide), ho 23 (by decide)]
    exact hm
  · by_cases c : k < 1074
    · exact hp k c
    · rw [hq k (by omega), h1 k]
      unfold pln
      rw [if_neg (by omega), if_neg (by omega)]; rfl
