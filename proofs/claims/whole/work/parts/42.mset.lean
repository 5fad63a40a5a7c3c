/-! THE MODEL: who is where. g: the row 'all' as plain numbers; stands: one number of four octal digits -/
def MA (i : Nat → Nat → Int32) (g : Nat → Nat) : Prop := ∀ k, k < 3222 → i 1 k = nI (g k)
/-- digit p of a stand -/
def dg (a p : Nat) : Nat := a / 8 ^ p % 8
theorem dg_lt (a p : Nat) : dg a p < 8 := Nat.mod_lt _ (by decide)
/-- a set of those below n for whom f says so, as bits -/
def bs (f : Nat → Bool) : Nat → Nat
  | 0 => 0
  | n + 1 => bs f n ||| (if f n then 2 ^ n else 0)
theorem bs_bit (f : Nat → Bool) : ∀ (n k : Nat), (bs f n).testBit k = (decide (k < n) && f k)
  | 0, k => by simp [bs]
  | n + 1, k => by
    rw [bs, Nat.testBit_or, bs_bit f n k]
    by_cases hf : f n = true
    · rw [if_pos hf, Nat.testBit_two_pow]
      by_cases hk : n = k
      · subst hk; simp [hf]
      · by_cases h2 : k < n
        · have h3 : k < n + 1 := by omega
          simp [hk, h2, h3]
        · have h3 : ¬ k < n + 1 := by omega
          simp [hk, h2, h3]
    · rw [if_neg hf]
      by_cases hk : n = k
      · subst hk; simp [hf]
      · by_cases h2 : k < n
        · have h3 : k < n + 1 := by omega
          simp [h2, h3]
        · have h3 : ¬ k < n + 1 := by omega
          simp [h2, h3]
theorem bs_lt (f : Nat → Bool) : ∀ n, bs f n < 2 ^ n
  | 0 => by simp [bs]
  | n + 1 => by
    have h := bs_lt f n
    rw [bs]
    apply Nat.or_lt_two_pow
    · exact Nat.lt_trans h (Nat.pow_lt_pow_right (by decide) (by omega))
    · split
      · exact Nat.pow_lt_pow_right (by decide) (by omega)
      · exact Nat.two_pow_pos _
theorem bs_cong {f h : Nat → Bool} : ∀ {n : Nat}, (∀ k, k < n → f k = h k) → bs f n = bs h n
  | 0, _ => rfl
  | n + 1, e => by rw [bs, bs, bs_cong (fun k hk => e k (by omega)), e n (by omega)]
theorem k_sh31 : ∀ p, p < 32 → ((nI p &&& 31).toBitVec.smod 32).toNat = p := by decide +kernel
theorem k_sh3 : ∀ p, p < 4 → (((3 * nI p) &&& 31).toBitVec.smod 32).toNat = 3 * p := by decide +kernel
theorem k_shl1 {p : Nat} (hp : p < 31) : (1 : Int32) <<< (nI p &&& 31) = nI (2 ^ p) := by
  have h := pk_shlN (n := 1) (nI p &&& 31) p (k_sh31 p (by omega)) (by rw [Nat.one_mul]; exact Nat.pow_lt_pow_right (by decide) (by omega))
  rw [Nat.one_mul] at h
  exact h
theorem k_digit {a p : Nat} (ha : a < 2 ^ 31) (hp : p < 4) : (nI a >>> ((3 * nI p) &&& 31)) &&& 7 = nI (dg a p) := by
  rw [pk_shrN ha _ (3 * p) (k_sh3 p hp), pk_andN (Nat.lt_of_le_of_lt (Nat.div_le_self _ _) (by omega)) 3 (by decide)]
  unfold dg
  rw [show (8 : Nat) = 2 ^ 3 from rfl, ← Nat.pow_mul]
theorem k_ret01 {c : Prop} [Decidable c] {X : Option aR} : cond (decide ((if c then (1 : Int32) else 0) = 0) || decide ((if c then (1 : Int32) else 0) = 1)) X none = X := by
  split <;> rfl
theorem k_w64 (y : Int64) (a b : Int) (x z : Int64) (hx : x.toInt = a) (hz : z.toInt = b) : (x ≤ y ∧ y ≤ z) ↔ (a ≤ y.toInt ∧ y.toInt ≤ b) := by
  rw [fa_le64, fa_le64, hx, hz]
section
variable {i : Nat → Nat → Int32} {l : Nat → Nat → Int64} {g : Nat → Nat}
theorem t_M_isSpot (d : Nat) (y : Int64) (hA : MA i g) (h1 : g 1 < 100) : am_cl (d + 2) mM_isSpot [.ref 0, .long y] (i, l, rM, kM) = some (some (.int (if 1 ≤ y.toInt ∧ y.toInt ≤ g 1 then 1 else 0)), (i, l, rM, kM)) := by
  rw [c_M_isSpot, b_M_isSpot_0, s_M_within, am_bd_some]
  show am_Ex (d + 1) mM_isSpot 12 _ [.int _] _ = _
  rw [b_M_isSpot_12, k_ret01]
  have e : (1 : Int64) ≤ y ∧ y ≤ Int32.toInt64 (i 1 1) ↔ 1 ≤ y.toInt ∧ y.toInt ≤ (g 1 : Int) := k_w64 y _ _ _ _ rfl (by rw [Int32.toInt_toInt64, hA 1 (by decide), nI_toInt (by omega)])
  simp only [e]
theorem t_M_isPerson (d : Nat) (y : Int64) (hA : MA i g) (h2 : g 2 < 100) : am_cl (d + 2) mM_isPerson [.ref 0, .long y] (i, l, rM, kM) = some (some (.int (if 0 ≤ y.toInt ∧ y.toInt < g 2 then 1 else 0)), (i, l, rM, kM)) := by
  rw [c_M_isPerson, b_M_isPerson_0, s_M_within, am_bd_some]
  show am_Ex (d + 1) mM_isPerson 14 _ [.int _] _ = _
  rw [b_M_isPerson_14, k_ret01]
  have e : (0 : Int64) ≤ y ∧ y ≤ Int32.toInt64 (i 1 2 - 1) ↔ 0 ≤ y.toInt ∧ y.toInt < (g 2 : Int) := by
    rw [k_w64 y 0 ((g 2 : Int) - 1) _ _ rfl (by rw [Int32.toInt_toInt64, hA 2 (by decide)]; exact pk_sub_toInt (b := 1) (by omega) (by decide))]
    omega
  simp only [e]
theorem t_M_isPlace (d : Nat) (y : Int64) (hA : MA i g) (h1 : g 1 < 100) : am_cl (d + 2) mM_isPlace [.ref 0, .long y] (i, l, rM, kM) = some (some (.int (if 0 ≤ y.toInt ∧ y.toInt ≤ g 1 + 1 then 1 else 0)), (i, l, rM, kM)) := by
  rw [c_M_isPlace, b_M_isPlace_0, s_M_within, am_bd_some]
  show am_Ex (d + 1) mM_isPlace 14 _ [.int _] _ = _
  rw [b_M_isPlace_14, k_ret01]
  have e : (0 : Int64) ≤ y ∧ y ≤ Int32.toInt64 (i 1 1 + 1) ↔ 0 ≤ y.toInt ∧ y.toInt ≤ (g 1 : Int) + 1 := k_w64 y _ _ _ _ rfl (by rw [Int32.toInt_toInt64, hA 1 (by decide), nI_1, nI_toInt (by omega)]; rfl)
  simp only [e]
theorem s_M_placeIn (d : Nat) {a p : Nat} (ha : a < 4096) (hp : p < 4) (s : aM) : am_cl (d + 1) mM_placeIn [.int (nI a), .int (nI p)] s = some (some (.int (nI (dg a p))), s) := by
  obtain ⟨i, l, q, K⟩ := s
  rw [c_M_placeIn, b_M_placeIn_0, k_digit (by omega) hp]
/-- who is on the far bank -/
def sOver (g : Nat → Nat) (a : Nat) : Nat := bs (fun p => decide (dg a p = g 1 + 1)) (g 2)
theorem s_M_over (d : Nat) {a : Nat} (ha : a < 4096) (hA : MA i g) (h1 : g 1 < 100) (h2 : g 2 ≤ 4) : am_cl (d + 2) mM_over [.ref 0, .int (nI a)] (i, l, rM, kM) = some (some (.int (nI (sOver g a))), (i, l, rM, kM)) := by
  rw [c_M_over, b_M_over_0]
  have loop : ∀ n p, p + n = g 2 → am_Ex (d + 1) mM_over 4 [.val (.ref 0), .val (.int (nI a)), .val (.int (nI (bs (fun p => decide (dg a p = g 1 + 1)) p))), .val (.int (nI p))] [] (i, l, rM, kM) = some (some (.int (nI (sOver g a))), (i, l, rM, kM)) := by
    intro n
    induction n with
    | zero =>
      intro p hp
      have e : p = g 2 := by omega
      subst e
      rw [b_M_over_4, hA 2 (by decide), decide_eq_true (nI_le (Nat.le_refl _) (by omega))]
      rfl
    | succ n ih =>
      intro p hp
      rw [b_M_over_4, hA 2 (by decide), decide_eq_false (by exact nI_ge (by omega) (by omega)), s_M_placeIn d ha (by omega), am_bd_some]
      show am_Ex (d + 1) mM_over 20 _ [.int _, .int _] _ = _
      rw [b_M_over_20, hA 1 (by decide), nI_1]
      have hd := dg_lt a p
      by_cases he : dg a p = g 1 + 1
      · rw [decide_eq_false (by rw [nI_eq (by omega) (by omega)]; exact fun z => z he)]
        show am_Ex (d + 1) mM_over 38 _ _ _ = _
        rw [b_M_over_38, k_shl1 (by omega), fa_or, nI_1]
        have := ih (p + 1) (by omega)
        rw [bs, if_pos (decide_eq_true he)] at this
        exact this
      · rw [decide_eq_true (by rw [nI_eq (by omega) (by omega)]; exact he)]
        show am_Ex (d + 1) mM_over 38 _ _ _ = _
        rw [b_M_over_38, ← nI_0, fa_or, nI_1]
        have := ih (p + 1) (by omega)
        rw [bs, if_neg (by simp [he])] at this
        exact this
  exact loop (g 2) 0 (by omega)
end
