/-! THE MODEL: how far it is -/
/-- all of a set are over -/
def gl (g : Nat → Nat) (z s : Nat) : Bool := decide (sOver g s &&& z = z)
/-- by just n goings all of a set can be over -/
def Rch (g : Nat → Nat) (m z : Nat) : Nat → Nat → Bool
  | 0, s => gl g z s
  | n + 1, s => ex (fun j => avl g m s j && Rch g m z n (tgt s j)) 32
theorem Rch_succ {g : Nat → Nat} {m z n s : Nat} : Rch g m z (n + 1) s = true ↔ ∃ j, j < 32 ∧ avl g m s j = true ∧ Rch g m z n (tgt s j) = true := by
  rw [Rch, ex_iff]
  constructor
  · rintro ⟨j, h1, h2⟩
    rw [Bool.and_eq_true] at h2
    exact ⟨j, h1, h2.1, h2.2⟩
  · rintro ⟨j, h1, h2, h3⟩
    exact ⟨j, h1, by rw [h2, h3]; rfl⟩
/-- the least n below FARN with P; else FARN -/
noncomputable def lst (P : Nat → Bool) : Nat := @dite _ (∃ n, P n = true ∧ n < FARN) (Classical.propDecidable _) (fun h => Classical.choose (pk_least (fun n => P n = true ∧ n < FARN) h)) (fun _ => FARN)
theorem lst_le (P : Nat → Bool) : lst P ≤ FARN := by
  unfold lst
  split
  · rename_i h
    have := (Classical.choose_spec (pk_least (fun n => P n = true ∧ n < FARN) h)).1.2
    exact Nat.le_of_lt this
  · exact Nat.le_refl _
theorem lst_lt {P : Nat → Bool} (h : lst P < FARN) : P (lst P) = true ∧ ∀ n, n < lst P → P n = false := by
  unfold lst at h ⊢
  by_cases hx : ∃ n, P n = true ∧ n < FARN
  · rw [dif_pos hx] at h ⊢
    have hc := Classical.choose_spec (pk_least (fun n => P n = true ∧ n < FARN) hx)
    refine ⟨hc.1.1, fun n hn => ?_⟩
    have := hc.2 n hn
    cases hp : P n with
    | false => rfl
    | true => exact absurd ⟨hp, Nat.lt_trans hn h⟩ this
  · rw [dif_neg hx] at h
    exact absurd h (Nat.lt_irrefl _)
theorem lst_min {P : Nat → Bool} {n : Nat} (h : P n = true) (hn : n < FARN) : lst P ≤ n := by
  have hx : ∃ n, P n = true ∧ n < FARN := ⟨n, h, hn⟩
  unfold lst
  rw [dif_pos hx]
  have hc := Classical.choose_spec (pk_least (fun n => P n = true ∧ n < FARN) hx)
  apply Classical.byContradiction
  intro z
  exact hc.2 n (Nat.lt_of_not_le z) ⟨h, hn⟩
theorem lst_eq {P : Nat → Bool} {v : Nat} (hv : v ≤ FARN) (h1 : v < FARN → P v = true) (h2 : ∀ n, n < v → P n = false) : v = lst P := by
  rcases Nat.lt_or_ge v FARN with h | h
  · have h3 := lst_min (h1 h) h
    have h4 := lst_lt (Nat.lt_of_le_of_lt h3 h)
    rcases Nat.lt_or_ge (lst P) v with q | q
    · rw [h2 _ q] at h4
      exact absurd h4.1 (by decide)
    · omega
  · have e : v = FARN := by omega
    have h3 := lst_le P
    rcases Nat.lt_or_ge (lst P) FARN with q | q
    · have h4 := lst_lt q
      rw [h2 _ (by omega)] at h4
      exact absurd h4.1 (by decide)
    · omega
/-- how far it is till a set is over -/
noncomputable def dst (g : Nat → Nat) (m z s : Nat) : Nat := lst (fun n => Rch g m z n s)
def fb (g : Nat → Nat) (m : Nat) (D : Nat → Nat) (s j : Nat) : Nat := if avl g m s j = true then (if D (tgt s j) = FARN then FARN else D (tgt s j) + 1) else FARN
def rl (g : Nat → Nat) (m : Nat) (D : Nat → Nat) (s : Nat) : Nat → Nat
  | 0 => D s
  | j + 1 => if fb g m D s j < rl g m D s j then fb g m D s j else rl g m D s j
theorem rl_le (g : Nat → Nat) (m : Nat) (D : Nat → Nat) (s : Nat) : ∀ j, rl g m D s j ≤ D s
  | 0 => Nat.le_refl _
  | j + 1 => by
    have := rl_le g m D s j
    rw [rl]
    split <;> omega
theorem rl_fb (g : Nat → Nat) (m : Nat) (D : Nat → Nat) (s : Nat) : ∀ n j, j < n → rl g m D s n ≤ fb g m D s j
  | 0, j, h => by omega
  | n + 1, j, h => by
    rw [rl]
    by_cases e : j = n
    · subst e; split <;> omega
    · have := rl_fb g m D s n j (by omega)
      split <;> omega
theorem rl_is (g : Nat → Nat) (m : Nat) (D : Nat → Nat) (s : Nat) : ∀ n, rl g m D s n = D s ∨ ∃ j, j < n ∧ rl g m D s n = fb g m D s j
  | 0 => Or.inl rfl
  | n + 1 => by
    rw [rl]
    split
    · exact Or.inr ⟨n, by omega, rfl⟩
    · rcases rl_is g m D s n with h | ⟨j, h1, h2⟩
      · exact Or.inl h
      · exact Or.inr ⟨j, by omega, h2⟩
theorem rl_0 {g : Nat → Nat} {m : Nat} {D : Nat → Nat} {s : Nat} : ∀ {k : Nat}, rl g m D s k = 0 → ∀ n, rl g m D s (k + n) = 0
  | k, h, 0 => h
  | k, h, n + 1 => by
    have := rl_0 h n
    show (if fb g m D s (k + n) < rl g m D s (k + n) then _ else rl g m D s (k + n)) = 0
    rw [this, if_neg (by omega)]
theorem fb_le {g : Nat → Nat} {m : Nat} {D : Nat → Nat} (hD : ∀ s, D s ≤ FARN) (s j : Nat) : fb g m D s j ≤ FARN := by
  unfold fb
  split
  · split
    · omega
    · have := hD (tgt s j); omega
  · omega
theorem fb_pos {g : Nat → Nat} {m : Nat} {D : Nat → Nat} (s j : Nat) : 0 < fb g m D s j := by
  have hF : FARN = 268435456 := rfl
  unfold fb
  split
  · split <;> omega
  · omega
theorem sSum_le2 {f h : Nat → Nat} : ∀ n, (∀ k, k < n → f k ≤ h k) → sSum f n ≤ sSum h n
  | 0, _ => Nat.le_refl _
  | n + 1, e => by
    have := sSum_le2 n (fun k hk => e k (by omega))
    have := e n (by omega)
    rw [sSum, sSum]
    omega
theorem sSum_lt2 {f h : Nat → Nat} {j : Nat} : ∀ n, (∀ k, k < n → f k ≤ h k) → j < n → f j < h j → sSum f n < sSum h n
  | 0, _, hj, _ => by omega
  | n + 1, e, hj, hl => by
    rw [sSum, sSum]
    by_cases q : j = n
    · subst q
      have := sSum_le2 j (fun k hk => e k (by omega))
      omega
    · have := sSum_lt2 n (fun k hk => e k (by omega)) (by omega) hl
      have := e n (by omega)
      omega
/-- far as it is told: sound -/
def FS (g : Nat → Nat) (m z : Nat) (L : List Nat) (D : Nat → Nat) : Prop := (∀ s, D s ≤ FARN) ∧ (∀ s, s ∈ L → gl g z s = true → D s = 0) ∧ ∀ s, s ∈ L → D s < FARN → Rch g m z (D s) s = true
theorem FS_upd {g : Nat → Nat} {m z : Nat} {L : List Nat} {D : Nat → Nat} {s : Nat} (h : FS g m z L D) (hs : s ∈ L) (hc : ∀ j, j < 32 → avl g m s j = true → tgt s j ∈ L) : FS g m z L (ug D s (rl g m D s 32)) := by
  obtain ⟨h1, h2, h3⟩ := h
  have hle := rl_le g m D s 32
  refine ⟨fun x => ?_, fun x hx hg => ?_, fun x hx hl => ?_⟩
  · unfold ug; split
    · have := h1 s; omega
    · exact h1 x
  · unfold ug; split
    · rename_i e
      subst e
      have := h2 x hx hg
      omega
    · exact h2 x hx hg
  · unfold ug at hl ⊢
    by_cases e : x = s
    · subst e
      rw [if_pos rfl] at hl ⊢
      rcases rl_is g m D x 32 with e | ⟨j, hj, e⟩
      · rw [e] at hl ⊢; exact h3 x hx hl
      · rw [e] at hl ⊢
        unfold fb at hl ⊢
        by_cases ha : avl g m x j = true
        · rw [if_pos ha] at hl ⊢
          by_cases hf : D (tgt x j) = FARN
          · rw [if_pos hf] at hl; exact absurd hl (Nat.lt_irrefl _)
          · rw [if_neg hf] at hl ⊢
            have := h1 (tgt x j)
            exact Rch_succ.mpr ⟨j, hj, ha, h3 _ (hc j hj ha) (by omega)⟩
        · rw [if_neg ha] at hl; exact absurd hl (Nat.lt_irrefl _)
    · rw [if_neg e] at hl ⊢; exact h3 x hx hl
/-- a fixed row is how far it is -/
theorem FS_dst {g : Nat → Nat} {m z : Nat} {L : List Nat} {D : Nat → Nat} (h : FS g m z L D) (hc : ∀ s, s ∈ L → ∀ j, j < 32 → avl g m s j = true → tgt s j ∈ L) (hx : ∀ s, s ∈ L → ∀ j, j < 32 → D s ≤ fb g m D s j) : ∀ s, s ∈ L → D s = dst g m z s := by
  obtain ⟨h1, h2, h3⟩ := h
  have key : ∀ n, n < FARN → ∀ s, s ∈ L → Rch g m z n s = true → D s ≤ n := by
    intro n
    induction n with
    | zero => intro _ s hs hr; rw [h2 s hs hr]; exact Nat.le_refl _
    | succ n ih =>
      intro hn s hs hr
      obtain ⟨j, hj, ha, hr2⟩ := Rch_succ.mp hr
      have h4 := ih (by omega) (tgt s j) (hc s hs j hj ha) hr2
      have h5 := hx s hs j hj
      unfold fb at h5
      rw [if_pos ha, if_neg (by omega)] at h5
      omega
  intro s hs
  refine lst_eq (h1 s) (fun hl => h3 s hs hl) (fun n hn => ?_)
  cases hp : Rch g m z n s with
  | false => rfl
  | true =>
    have := key n (by have := h1 s; omega) s hs hp
    omega
section
variable {i : Nat → Nat → Int32} {l : Nat → Nat → Int64} {g : Nat → Nat}
theorem s_M_farBy (d : Nat) {m s p q v : Nat} {D : Nat → Nat} (hs : s < 4096) (hp : p < 4) (hq : q < 8) (h1 : g 1 ≤ 6) (hv : 8 * p + q = v) (hG : i 11 (4 * s + p) = nI (gBit g m s p)) (hD : ∀ s, D s ≤ FARN) (h12 : avl g m s v = true → i 12 (tgt s v) = nI (D (tgt s v))) : am_cl (d + 2) mM_farBy [.ref 0, .int (nI s), .int (nI p), .int (nI q)] (i, l, rM, kM) = some (some (.int (nI (fb g m D s v))), (i, l, rM, kM)) := by
  subst hv
  have hF : FARN = 268435456 := rfl
  have hgb := gBit_lt (m := m) (s := s) (p := p) h1
  have hw := wp_lt hs hp hq
  rw [c_M_farBy, b_M_farBy_0]
  unfold fb
  rw [avl_pq hq, tgt_pq hq] at *
  have hDw := hD (wp s p q)
  cases hb : (gBit g m s p).testBit q with
  | false => simp (disch := first | assumption | omega) only [b_M_farBy_0, b_M_farBy_15, b_M_farBy_31, b_M_farBy_50, s_M_isIn, s_M_withPlace, ↓Bool.cond_decide, ↓q_in, q_le, q_lt, q_eq, q_leT, q_leF, q_ltT, q_ltF, q_eqT, q_eqF, ↓reduceIte, not_true_eq_false, not_false_eq_true, true_and, and_true, and_self, false_and, and_false, Nat.zero_le, am_bd_some, q_app, q_app0, nI_add, pk_sub, pk_mul, q_dec, q_ix, q_m1, q_m1', ↓q_ret, q_bool, q_bool1, q_u2, q_u1, q_shl1, q_shr, q_and7, q_dg, fa_or, fa_and, decide_true, decide_false, Bool.or_false, Bool.or_true, Bool.true_or, Bool.false_or, cond_true, cond_false, ite_not, q_some, q_nn, q_xor, q_xorm, Bool.false_eq_true, decide_eq_true_eq, ne_eq, l_0, l_1, l_3, l_4, l_11, l_12, l_13, l_14, l_15, l_31, l_50, l_4096, l_16384, l_268435456, hG, hb, hF]
  | true =>
    have h12' := h12 hb
    by_cases hf : D (wp s p q) = 268435456
    · simp (disch := first | assumption | omega) only [b_M_farBy_0, b_M_farBy_15, b_M_farBy_31, b_M_farBy_50, s_M_isIn, s_M_withPlace, ↓Bool.cond_decide, ↓q_in, q_le, q_lt, q_eq, q_leT, q_leF, q_ltT, q_ltF, q_eqT, q_eqF, ↓reduceIte, not_true_eq_false, not_false_eq_true, true_and, and_true, and_self, false_and, and_false, Nat.zero_le, am_bd_some, q_app, q_app0, nI_add, pk_sub, pk_mul, q_dec, q_ix, q_m1, q_m1', ↓q_ret, q_bool, q_bool1, q_u2, q_u1, q_shl1, q_shr, q_and7, q_dg, fa_or, fa_and, decide_true, decide_false, Bool.or_false, Bool.or_true, Bool.true_or, Bool.false_or, cond_true, cond_false, ite_not, q_some, q_nn, q_xor, q_xorm, Bool.false_eq_true, decide_eq_true_eq, ne_eq, l_0, l_1, l_3, l_4, l_11, l_12, l_13, l_14, l_15, l_31, l_50, l_4096, l_16384, l_268435456, hG, hb, hF, h12', hf]
    · simp (disch := first | assumption | omega) only [b_M_farBy_0, b_M_farBy_15, b_M_farBy_31, b_M_farBy_50, s_M_isIn, s_M_withPlace, ↓Bool.cond_decide, ↓q_in, q_le, q_lt, q_eq, q_leT, q_leF, q_ltT, q_ltF, q_eqT, q_eqF, ↓reduceIte, not_true_eq_false, not_false_eq_true, true_and, and_true, and_self, false_and, and_false, Nat.zero_le, am_bd_some, q_app, q_app0, nI_add, pk_sub, pk_mul, q_dec, q_ix, q_m1, q_m1', ↓q_ret, q_bool, q_bool1, q_u2, q_u1, q_shl1, q_shr, q_and7, q_dg, fa_or, fa_and, decide_true, decide_false, Bool.or_false, Bool.or_true, Bool.true_or, Bool.false_or, cond_true, cond_false, ite_not, q_some, q_nn, q_xor, q_xorm, Bool.false_eq_true, decide_eq_true_eq, ne_eq, l_0, l_1, l_3, l_4, l_11, l_12, l_13, l_14, l_15, l_31, l_50, l_4096, l_16384, l_268435456, hG, hb, hF, h12', hf]
end
