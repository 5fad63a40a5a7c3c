/-! THE CLASS: tokens as the model's -/
def wi (n : Nat) : Nat := ([10, 3, 11, 12, 13, 1, 6, 14, 15, 16, 0, 2, 4, 5, 7, 8, 9, 18, 17, 19] : List Nat).getD n 0
def iw (n : Nat) : Nat := ([10, 5, 11, 1, 12, 13, 6, 14, 15, 16, 0, 2, 3, 4, 7, 8, 9, 18, 17, 19] : List Nat).getD n 0
/-- the class's token of a kind -/
def ct (k : Nat) : Nat := if k < 20 then 128 + wi k else if k = 22 then 3 else if k = 23 then 2 else if k = 24 then 0 else if k = 25 then 1 else (am_ch 3 (k - 30)).toNatClampNeg
theorem w_t1 : ∀ n, n < 20 → cln (wi n) = kln n ∧ wi n < 20 ∧ ∀ j, j < 8 → j < kln n → am_ch 0 (cst (wi n) + j) = am_ch 2 (kst n + j) := by decide +kernel
theorem w_t2 : ∀ n, n < 20 → iw n < 20 ∧ wi (iw n) = n := by decide +kernel
theorem w_t3 : ∀ n, n < 20 → ∀ j, j < 8 → j < kln n → am_ch 2 (kst n + j) = nI (am_ch 2 (kst n + j)).toNatClampNeg ∧ (am_ch 2 (kst n + j)).toNatClampNeg < 128 := by decide +kernel
theorem w_t4 : ∀ n, n < 20 → ∀ k, k < 20 → n ≠ k → kln n = kln k → ∃ j, j < 8 ∧ j < kln n ∧ am_ch 2 (kst n + j) ≠ am_ch 2 (kst k + j) := by decide +kernel
theorem w_sg : ∀ c, c < 256 → (if am_ixg (nI c) (am_tx.getD 1 []) 0 < 0 then 1 else c) = ct (sgK c 12) := by decide +kernel
theorem w_ch : ∀ c, c < 256 → (Int32.toUInt32 (nI c) % 65536).toInt32 = nI c := by decide +kernel
section
variable {B : Nat → Nat} {N a b : Nat}
theorem mtc_C (h256 : ∀ k, B k < 256) {n : Nat} (hn : n < 20) : mtcC B a b (wi n) = mtc B a b n := by
  obtain ⟨t1, t2, t3⟩ := w_t1 n hn
  have t4 := (k_t1 n hn).2.2.2
  unfold mtcC mtc
  rw [t1]
  congr 1
  have : ∀ k, k ≤ kln n → fAll (fun j => decide (am_ch 0 (cst (wi n) + j) = sb (B (a + j)))) k = fAll (fun j => decide (nI (B (a + j)) = am_ch 2 (kst n + j))) k := by
    intro k
    induction k with
    | zero => intro _; rfl
    | succ k ih =>
      intro hk
      rw [fAll, fAll, ih (by omega)]
      congr 1
      obtain ⟨u1, u2⟩ := w_t3 n hn k (by omega) (by omega)
      rw [t3 k (by omega) (by omega), u1, sb_eq (B (a + k)) (h256 _) _ u2]
      apply decide_eq_decide.mpr
      rw [q_eq (by have := h256 (a + k); omega) (by omega)]
  exact this _ (Nat.le_refl _)
theorem mtc_u {n k : Nat} (hn : n < 20) (hk : k < 20) (h1 : mtc B a b n = true) (h2 : mtc B a b k = true) : n = k := by
  apply Classical.byContradiction
  intro hne
  unfold mtc at h1 h2
  rw [Bool.and_eq_true, fAll_iff] at h1 h2
  have e : kln n = kln k := (of_decide_eq_true h1.1).symm.trans (of_decide_eq_true h2.1)
  obtain ⟨j, _, hj, hd⟩ := w_t4 n hn k hk hne e
  exact hd ((of_decide_eq_true (h1.2 j hj)).symm.trans (of_decide_eq_true (h2.2 j (by omega))))
theorem word_tok (h256 : ∀ k, B k < 256) : (match ff (mtcC B a b) 20 0 with | some n => nI (128 + n) | none => nI 3) = nI (ct (key B a b)) := by
  unfold key
  cases h : ff (mtc B a b) 20 0 with
  | none =>
    have hn : ff (mtcC B a b) 20 0 = none := by
      cases h2 : ff (mtcC B a b) 20 0 with
      | none => rfl
      | some n =>
        obtain ⟨_, k2, k3, _⟩ := ff_some h2
        obtain ⟨w1, w2⟩ := w_t2 n (by omega)
        have := ff_none h (iw n) (by omega) (by omega)
        rw [← mtc_C h256 w1, w2, k3] at this
        cases this
    rw [hn]
    rfl
  | some n =>
    obtain ⟨_, k2, k3, _⟩ := ff_some h
    have hn : n < 20 := by omega
    have hw := (w_t1 n hn).2.1
    have hs : ff (mtcC B a b) 20 0 = some (wi n) := ff_uq hw (by rw [mtc_C h256 hn]; exact k3) (fun k hk => by
      cases hc : mtcC B a b k with
      | false => rfl
      | true =>
        obtain ⟨w1, w2⟩ := w_t2 k (by omega)
        have h2 : mtc B a b (iw k) = true := by rw [← mtc_C h256 w1, w2]; exact hc
        have := mtc_u hn w1 k3 h2
        rw [this, w2] at hk
        omega)
    rw [hs]
    show nI (128 + wi n) = nI (ct n)
    unfold ct
    rw [if_pos hn]
end
