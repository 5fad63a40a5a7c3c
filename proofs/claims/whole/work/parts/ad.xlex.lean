/-! THE CLASS: tokens -/
section
variable {i i' : Nat → Nat → Int32} {l l' : Nat → Nat → Int64} {q q' : Nat → Nat → Option Nat} {K K' : List (Nat × Nat)} {B : Nat → Nat} {N : Nat}
/-- the tape as the class's reader sees it -/
def BY (B : Nat → Nat) (N : Nat) (i : Nat → Nat → Int32) : Prop := N ≤ 900 ∧ i 1 2 = nI N ∧ (∀ k, k < N → i 2 k = sb (B k)) ∧ ∀ k, B k < 256
theorem sb_let : ∀ b, b < 256 → (decide (sb b < 97) = decide (b < 97 ∨ 128 ≤ b) ∧ decide (122 < sb b) = decide (122 < b ∧ b < 128)) ∧ (decide (sb b < 48) = decide (b < 48 ∨ 128 ≤ b) ∧ decide (57 < sb b) = decide (57 < b ∧ b < 128)) := by decide +kernel
theorem sb_255 : ∀ b, b < 256 → sb b &&& 255 = nI b := by decide +kernel
theorem sb_eq : ∀ b, b < 256 → ∀ c, c < 128 → (decide (nI c = sb b) = decide (b = c)) := by
  intro b hb c hc
  by_cases e : b < 128
  · have : sb b = nI b := by
      have : ∀ b, b < 128 → sb b = nI b := by decide +kernel
      exact this b e
    rw [this]
    apply decide_eq_decide.mpr
    rw [q_eq (by omega) (by omega)]
    exact ⟨fun z => z.symm, fun z => z.symm⟩
  · have h1 : sb b < nI 0 := by
      have : ∀ b, b < 256 → 128 ≤ b → sb b < nI 0 := by decide +kernel
      exact this b hb (by omega)
    rw [decide_eq_false (show ¬ b = c by omega)]
    apply decide_eq_false
    intro z
    rw [← z, q_lt (by omega) (by omega)] at h1
    omega
theorem s_isLetter (d : Nat) (hB : BY B N i) {k : Nat} (hk : k < N) : am_cl (d + 1) mTape_isLetter [.ref 1, .int (nI k)] (i, l, rX q, kX K) = some (some (.int (if isL B k = true then nI 1 else nI 0)), (i, l, rX q, kX K)) := by
  obtain ⟨hN, _, hb, h256⟩ := hB
  obtain ⟨⟨e1, e2⟩, _⟩ := sb_let (B k) (h256 k)
  have h9 : am_in (nI k) 900 = true := in16 (by omega) (by decide)
  rw [c_Tape_isLetter, b_Tape_isLetter_0, h9, cond_true, nI_clamp (by omega), hb k hk, e1]
  unfold isL
  by_cases c1 : B k < 97 ∨ 128 ≤ B k
  · rw [decide_eq_true c1, cond_true, b_Tape_isLetter_26, b_Tape_isLetter_27, decide_eq_false (show ¬ (97 ≤ B k ∧ B k ≤ 122) by omega), if_neg (by decide)]; rfl
  · rw [decide_eq_false c1, cond_false, cond_true, e2]
    by_cases c2 : 122 < B k ∧ B k < 128
    · rw [decide_eq_true c2, cond_true, b_Tape_isLetter_26, b_Tape_isLetter_27, decide_eq_false (show ¬ (97 ≤ B k ∧ B k ≤ 122) by omega), if_neg (by decide)]; rfl
    · rw [decide_eq_false c2, cond_false, b_Tape_isLetter_27, decide_eq_true (show 97 ≤ B k ∧ B k ≤ 122 by omega), if_pos rfl]; rfl
theorem s_isNumeral (d : Nat) (hB : BY B N i) {k : Nat} (hk : k < N) : am_cl (d + 1) mTape_isNumeral [.ref 1, .int (nI k)] (i, l, rX q, kX K) = some (some (.int (if isD B k = true then nI 1 else nI 0)), (i, l, rX q, kX K)) := by
  obtain ⟨hN, _, hb, h256⟩ := hB
  obtain ⟨_, e1, e2⟩ := sb_let (B k) (h256 k)
  have h9 : am_in (nI k) 900 = true := in16 (by omega) (by decide)
  rw [c_Tape_isNumeral, b_Tape_isNumeral_0, h9, cond_true, nI_clamp (by omega), hb k hk, e1]
  unfold isD
  by_cases c1 : B k < 48 ∨ 128 ≤ B k
  · rw [decide_eq_true c1, cond_true, b_Tape_isNumeral_26, b_Tape_isNumeral_27, decide_eq_false (show ¬ (48 ≤ B k ∧ B k ≤ 57) by omega), if_neg (by decide)]; rfl
  · rw [decide_eq_false c1, cond_false, cond_true, e2]
    by_cases c2 : 57 < B k ∧ B k < 128
    · rw [decide_eq_true c2, cond_true, b_Tape_isNumeral_26, b_Tape_isNumeral_27, decide_eq_false (show ¬ (48 ≤ B k ∧ B k ≤ 57) by omega), if_neg (by decide)]; rfl
    · rw [decide_eq_false c2, cond_false, b_Tape_isNumeral_27, decide_eq_true (show 48 ≤ B k ∧ B k ≤ 57 by omega), if_pos rfl]; rfl
theorem s_Tadd (d : Nat) {m : Nat} (x y : Int32) (hm : i 1 5 = nI m) (hm9 : m < 901) : am_cl (d + 1) mTape_add [.ref 1, .int x, .int y] (i, l, rX q, kX K) = some (none, (am_u2 (am_u2 (am_u2 i 3 m x) 4 m y) 1 5 (nI (m + 1)), l, rX q, kX K)) := by
  rw [c_Tape_add, b_Tape_add_0, hm, decide_eq_false (show ¬ (901 : Int32) ≤ nI m from by
    show ¬ nI 901 ≤ nI m
    rw [q_le (by omega) (by omega)]; omega), cond_false, in16 hm9 (by decide), cond_true, cond_true, nI_clamp (by omega), b_Tape_add_42, show nI m + (1 : Int32) = nI (m + 1) from nI_add m 1]
/-- the class's words -/
def cst (n : Nat) : Nat := ([0, 4, 13, 18, 24, 31, 37, 44, 51, 57, 61, 67, 72, 79, 85, 88, 94, 101, 104, 108, 112] : List Nat).getD n 0
def cln (n : Nat) : Nat := ([3, 8, 4, 5, 6, 5, 6, 6, 5, 3, 5, 4, 6, 5, 2, 5, 6, 2, 3, 3] : List Nat).getD n 0
theorem c_t1 : ∀ n, n < 20 → cst n + cln n < 112 ∧ am_ch 0 (cst n + cln n) = nI 32 ∧ cst (n + 1) = cst n + cln n + 1 ∧ cln n < 9 := by decide +kernel
theorem c_t2 : ∀ n, n < 20 → ∀ j, j < cln n → am_ch 0 (cst n + j) ≠ nI 32 := by decide +kernel
theorem c_t3 : am_tl 0 = 112 ∧ cst 20 = 112 ∧ cst 0 = 0 ∧ am_tl 1 = 12 := by decide +kernel
def mtcC (B : Nat → Nat) (a b n : Nat) : Bool := decide (b - a = cln n) && fAll (fun j => decide (am_ch 0 (cst n + j) = sb (B (a + j)))) (cln n)
theorem s_isWord (d : Nat) (hB : BY B N i) {n a b : Nat} (hn : n < 20) (hab : a < b) (hb : b ≤ N) (hl : b - a = cln n) : am_cl (d + 1) mTape_isWord [.ref 1, .int (nI (cst n)), .int (nI (cst n + cln n)), .int (nI a)] (i, l, rX q, kX K) = some (some (.int (if mtcC B a b n = true then nI 1 else nI 0)), (i, l, rX q, kX K)) := by
  obtain ⟨t1, t2, t3, t4⟩ := c_t1 n hn
  have hN := hB.1
  have ht : am_tl 0 = 112 := c_t3.1
  have main : ∀ f j, j + f = cln n → (∀ k, k < j → am_ch 0 (cst n + k) = sb (B (a + k))) → am_Ex d mTape_isWord 3 [.val (.ref 1), .val (.int (nI (cst n))), .val (.int (nI (cst n + cln n))), .val (.int (nI a)), .val (.int (nI (cst n + j)))] [] (i, l, rX q, kX K) = some (some (.int (if mtcC B a b n = true then nI 1 else nI 0)), (i, l, rX q, kX K)) := by
    intro f
    induction f with
    | zero =>
      intro j hj hall
      have hj : j = cln n := by omega
      subst hj
      rw [b_Tape_isWord_3, decide_eq_true (show nI (cst n + cln n) ≤ nI (cst n + cln n) from by rw [q_le (by omega) (by omega)]; exact Nat.le_refl _), cond_true, if_pos (show mtcC B a b n = true from by
        unfold mtcC
        rw [decide_eq_true hl, Bool.true_and, fAll_iff]
        exact fun k hk => decide_eq_true (hall k hk))]
      rfl
    | succ f ih =>
      intro j hj hall
      have hin : am_in (nI (cst n + j)) (am_tl 0) = true := by rw [ht]; exact in16 (by omega) (by decide)
      have e : nI a + nI (cst n + j) - nI (cst n) = nI (a + j) := by
        rw [nI_add, show a + (cst n + j) = a + j + cst n by omega, ← nI_add]; exact Int32.add_sub_cancel _ _
      rw [b_Tape_isWord_3, decide_eq_false (show ¬ nI (cst n + cln n) ≤ nI (cst n + j) from by rw [q_le (by omega) (by omega)]; omega), cond_false, b_Tape_isWord_13, hin, cond_true, b_Tape_isWord_16, nI_clamp (by omega), e, show am_in (nI (a + j)) 900 = true from in16 (by omega) (by decide), cond_true, nI_clamp (by omega), hB.2.2.1 (a + j) (by omega)]
      by_cases c : am_ch 0 (cst n + j) = sb (B (a + j))
      · rw [decide_eq_true c, cond_true, show nI (cst n + j) + (1 : Int32) = nI (cst n + (j + 1)) from nI_add _ 1]
        exact ih (j + 1) (by omega) (fun k hk => by
          by_cases e : k = j
          · rw [e]; exact c
          · exact hall k (by omega))
      · rw [decide_eq_false c, cond_false, if_neg (fun z => by
          unfold mtcC at z
          rw [decide_eq_true hl, Bool.true_and, fAll_iff] at z
          exact c (of_decide_eq_true (z j (by omega))))]
        rfl
  rw [c_Tape_isWord, b_Tape_isWord_0]
  exact main (cln n) 0 (by omega) (fun k hk => absurd hk (Nat.not_lt_zero _))
theorem s_wordBetween (d : Nat) (hB : BY B N i) {a b : Nat} (hab : a < b) (hb : b ≤ N) : am_cl (d + 2) mTape_wordBetween [.ref 1, .int (nI a), .int (nI b)] (i, l, rX q, kX K) = some (some (.int (match ff (mtcC B a b) 20 0 with | some n => nI (128 + n) | none => nI 3)), (i, l, rX q, kX K)) := by
  have hN := hB.1
  have ht : am_tl 0 = 112 := c_t3.1
  have head : ∀ w s k, k < 112 → am_Ex (d + 1) mTape_wordBetween 10 [.val (.ref 1), .val (.int (nI a)), .val (.int (nI b)), .val (.int (nI w)), .val (.int (nI s)), .val (.int (nI k))] [] (i, l, rX q, kX K) = am_Ex (d + 1) mTape_wordBetween 27 [.val (.ref 1), .val (.int (nI a)), .val (.int (nI b)), .val (.int (nI w)), .val (.int (nI s)), .val (.int (nI k))] [.int (am_ch 0 k)] (i, l, rX q, kX K) := fun w s k hk => by
    rw [b_Tape_wordBetween_10, b_Tape_wordBetween_14, b_Tape_wordBetween_17, decide_eq_false (show ¬ Int32.ofNat (am_tl 0) ≤ nI k from by
      rw [ht]
      show ¬ nI 112 ≤ nI k
      rw [q_le (by omega) (by omega)]; omega), cond_false, b_Tape_wordBetween_24, show am_in (nI k) (am_tl 0) = true from by rw [ht]; exact in16 hk (by decide), cond_true, nI_clamp (by omega)]
  have skip : ∀ w n j f, n < 20 → j + f = cln n → am_Ex (d + 1) mTape_wordBetween 10 [.val (.ref 1), .val (.int (nI a)), .val (.int (nI b)), .val (.int (nI w)), .val (.int (nI (cst n))), .val (.int (nI (cst n + j)))] [] (i, l, rX q, kX K) = am_Ex (d + 1) mTape_wordBetween 10 [.val (.ref 1), .val (.int (nI a)), .val (.int (nI b)), .val (.int (nI w)), .val (.int (nI (cst n))), .val (.int (nI (cst n + cln n)))] [] (i, l, rX q, kX K) := by
    intro w n j f hn
    induction f generalizing j with
    | zero => intro hj; rw [show j = cln n by omega]
    | succ f ih =>
      intro hj
      obtain ⟨t1, t2, t3, t4⟩ := c_t1 n hn
      rw [head w (cst n) (cst n + j) (by omega), b_Tape_wordBetween_27, decide_eq_true (show ¬ am_ch 0 (cst n + j) = (32 : Int32) from c_t2 n hn j (by omega)), cond_true, b_Tape_wordBetween_66, show nI (cst n + j) + (1 : Int32) = nI (cst n + (j + 1)) from nI_add _ 1]
      exact ih (j + 1) (by omega)
  rw [c_Tape_wordBetween, b_Tape_wordBetween_0]
  refine am_find (d := d + 1) (y := mTape_wordBetween) (pc := 10) (fun n ls s => ls = [.val (.ref 1), .val (.int (nI a)), .val (.int (nI b)), .val (.int (nI (128 + n))), .val (.int (nI (cst n))), .val (.int (nI (cst n)))] ∧ s = (i, l, rX q, kX K)) (mtcC B a b) (fun o rs => rs = some (some (.int (match o with | some n => nI (128 + n) | none => nI 3)), (i, l, rX q, kX K))) 20 0 (fun n ls s _ hn hI => ?_) (fun ls s hI => ?_) _ _ ⟨rfl, rfl⟩
  · obtain ⟨e1, e2⟩ := hI
    subst e1; subst e2
    have hn : n < 20 := by omega
    obtain ⟨t1, t2, t3, t4⟩ := c_t1 n hn
    have h57 : ∀ z4, am_Ex (d + 1) mTape_wordBetween 57 [.val (.ref 1), .val (.int (nI a)), .val (.int (nI b)), .val (.int (nI (128 + n))), z4, .val (.int (nI (cst n + cln n)))] [] (i, l, rX q, kX K) = am_Ex (d + 1) mTape_wordBetween 10 [.val (.ref 1), .val (.int (nI a)), .val (.int (nI b)), .val (.int (nI (128 + (n + 1)))), .val (.int (nI (cst (n + 1)))), .val (.int (nI (cst (n + 1))))] [] (i, l, rX q, kX K) := fun z4 => by
      rw [b_Tape_wordBetween_57, b_Tape_wordBetween_66, show nI (cst n + cln n) + (1 : Int32) = nI (cst (n + 1)) from by rw [t3]; exact nI_add _ 1, show nI (128 + n) + (1 : Int32) = nI (128 + (n + 1)) from nI_add _ 1]
    have step : am_Ex (d + 1) mTape_wordBetween 10 [.val (.ref 1), .val (.int (nI a)), .val (.int (nI b)), .val (.int (nI (128 + n))), .val (.int (nI (cst n))), .val (.int (nI (cst n)))] [] (i, l, rX q, kX K) = if mtcC B a b n = true then some (some (.int (nI (128 + n))), (i, l, rX q, kX K)) else am_Ex (d + 1) mTape_wordBetween 10 [.val (.ref 1), .val (.int (nI a)), .val (.int (nI b)), .val (.int (nI (128 + (n + 1)))), .val (.int (nI (cst (n + 1)))), .val (.int (nI (cst (n + 1))))] [] (i, l, rX q, kX K) := by
      have s0 := skip (128 + n) n 0 (cln n) hn (by omega)
      rw [show cst n + 0 = cst n from rfl] at s0
      have e1 : nI (cst n + cln n) - nI (cst n) = nI (cln n) := by
        rw [show cst n + cln n = cln n + cst n by omega, ← nI_add]; exact Int32.add_sub_cancel _ _
      have e2 : nI b - nI a = nI (b - a) := by
        rw [show nI b = nI (b - a) + nI a from by rw [nI_add, show b - a + a = b by omega]]; exact Int32.add_sub_cancel _ _
      rw [s0, head (128 + n) (cst n) (cst n + cln n) (by omega), b_Tape_wordBetween_27, t2, show decide (¬ nI 32 = (32 : Int32)) = false from rfl, cond_false, e1, e2]
      by_cases c : b - a = cln n
      · rw [show decide (¬ nI (cln n) = nI (b - a)) = false from decide_eq_false (by rw [c]; exact fun z => z rfl), cond_false, s_isWord d hB hn hab hb c, am_bd_some, q_app, b_Tape_wordBetween_52]
        cases hm : mtcC B a b n with
        | true => rw [if_pos rfl, show decide (nI 1 = (0 : Int32)) = false from rfl, cond_false, if_pos rfl]
        | false => rw [if_neg (by decide), show decide (nI 0 = (0 : Int32)) = true from rfl, cond_true, if_neg (by decide), h57]
      · rw [show decide (¬ nI (cln n) = nI (b - a)) = true from decide_eq_true (by rw [q_eq (by omega) (by omega)]; exact fun z => c z.symm), cond_true, h57, if_neg (fun z => by
          unfold mtcC at z
          rw [decide_eq_false c] at z
          cases z)]
    refine ⟨fun hm => ?_, fun hm => ?_⟩
    · rw [step, if_pos hm]
    · rw [step, if_neg (by rw [hm]; decide)]
      exact Go_in ⟨rfl, rfl⟩
  · obtain ⟨e1, e2⟩ := hI
    subst e1; subst e2
    rw [b_Tape_wordBetween_10, b_Tape_wordBetween_14, b_Tape_wordBetween_17, decide_eq_true (show Int32.ofNat (am_tl 0) ≤ nI (cst (0 + 20)) from by
      rw [ht, show cst (0 + 20) = 112 from rfl]
      show nI 112 ≤ nI 112
      rw [q_le (by omega) (by omega)]; exact Nat.le_refl _), cond_true]
    rfl
end
