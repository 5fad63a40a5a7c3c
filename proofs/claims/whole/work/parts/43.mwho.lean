/-! THE MODEL: who stands, who is on a spot, bits -/
/-- the first from k on, n looked at, for which f says so -/
def ff (f : Nat → Bool) : Nat → Nat → Option Nat
  | 0, _ => none
  | n + 1, k => if f k then some k else ff f n (k + 1)
theorem ff_some {f : Nat → Bool} : ∀ {n k j : Nat}, ff f n k = some j → k ≤ j ∧ j < k + n ∧ f j = true ∧ ∀ m, k ≤ m → m < j → f m = false
  | 0, _, _, h => by cases h
  | n + 1, k, j, h => by
    rw [ff] at h
    by_cases hf : f k = true
    · rw [if_pos hf] at h
      cases h
      exact ⟨Nat.le_refl _, by omega, hf, fun m h1 h2 => by omega⟩
    · rw [if_neg hf] at h
      obtain ⟨h1, h2, h3, h4⟩ := ff_some h
      refine ⟨by omega, by omega, h3, fun m q1 q2 => ?_⟩
      by_cases e : m = k
      · subst e; simpa using hf
      · exact h4 m (by omega) q2
theorem ff_none {f : Nat → Bool} : ∀ {n k : Nat}, ff f n k = none → ∀ m, k ≤ m → m < k + n → f m = false
  | 0, _, _, m, h1, h2 => by omega
  | n + 1, k, h, m, h1, h2 => by
    rw [ff] at h
    by_cases hf : f k = true
    · rw [if_pos hf] at h
      cases h
    · rw [if_neg hf] at h
      by_cases e : m = k
      · subst e; simpa using hf
      · exact ff_none h m (by omega) (by omega)
def vW : Option Nat → Int32
  | none => -1
  | some p => nI p
/-- a spot -/
def sSpot (g : Nat → Nat) (x : Nat) : Bool := decide (1 ≤ x ∧ x ≤ g 1)
def sWho (g : Nat → Nat) (a x : Nat) : Option Nat := if sSpot g x then ff (fun p => decide (dg a p = x)) (g 2) 0 else none
def sUp (g : Nat → Nat) (a : Nat) : Nat := bs (fun p => sSpot g (dg a p)) (g 2)
theorem k_s63 : ∀ k, k < 64 → (((nI k).toInt64 &&& 63).toBitVec.smod 64).toNat = k := by decide +kernel
theorem k_shrL {a k : Nat} (ha : a < 2 ^ 62) (s : Int64) (hs : (s.toBitVec.smod 64).toNat = k) : lN a >>> s = lN (a / 2 ^ k) := by
  apply Int64.toInt_inj.mp
  have h2 : a / 2 ^ k ≤ a := Nat.div_le_self _ _
  have e : (lN a >>> s).toInt = (lN a).toInt >>> k := by
    show ((lN a).toBitVec.sshiftRight (s.toBitVec.smod 64).toNat).toInt = _
    rw [hs, BitVec.toInt_sshiftRight]
    rfl
  rw [e, pk_lT (by omega), pk_lT (by omega), Int.shiftRight_eq_div_pow]
  rfl
theorem k_andL1 (a : Nat) : lN a &&& 1 = lN (a % 2) := by
  apply Int64.toBitVec_inj.1
  show BitVec.ofNat 64 a &&& BitVec.ofNat 64 1 = BitVec.ofNat 64 (a % 2)
  apply BitVec.eq_of_toNat_eq
  rw [BitVec.toNat_and, BitVec.toNat_ofNat, BitVec.toNat_ofNat, BitVec.toNat_ofNat]
  rw [show (1 % 2 ^ 64 : Nat) = 2 ^ 1 - 1 by decide, Nat.and_two_pow_sub_one_eq_mod]
  omega
section
variable {i : Nat → Nat → Int32} {l : Nat → Nat → Int64} {g : Nat → Nat}
theorem s_M_isIn (d : Nat) {m k : Nat} (hm : m < 2 ^ 31) (hk : k < 60) (s : aM) : am_cl (d + 1) mM_isIn [.long (Int32.toInt64 (nI m)), .int (nI k)] s = some (some (.int (if m.testBit k then 1 else 0)), s) := by
  obtain ⟨i, l, q, K⟩ := s
  rw [c_M_isIn, b_M_isIn_0, nI_l hm, k_shrL (by omega) _ (k_s63 k (by omega)), k_andL1]
  have e : (lg_cmp (lN (m / 2 ^ k % 2)) 1 = 0) ↔ m.testBit k = true := by
    rw [k_cmp_eq, show (1 : Int64) = lN 1 from rfl, pk_lEQ (by omega) (by decide), Nat.testBit_eq_decide_div_mod_eq, decide_eq_true_eq]
  by_cases h : m.testBit k = true
  · rw [decide_eq_false (fun z => z (e.mpr h)), if_pos h]
    show am_Ex d mM_isIn 15 _ _ _ = _
    rw [b_M_isIn_15]
    rfl
  · rw [decide_eq_true (show ¬ (lg_cmp (lN (m / 2 ^ k % 2)) 1 = 0) from fun z => h (e.mp z)), if_neg h]
    show am_Ex d mM_isIn 15 _ _ _ = _
    rw [b_M_isIn_15]
    rfl
theorem s_M_isSpot (d : Nat) {x : Nat} (hx : x < 2 ^ 31) (hA : MA i g) (h1 : g 1 < 100) : am_cl (d + 2) mM_isSpot [.ref 0, .long (Int32.toInt64 (nI x))] (i, l, rM, kM) = some (some (.int (if sSpot g x then 1 else 0)), (i, l, rM, kM)) := by
  rw [t_M_isSpot d _ hA h1, Int32.toInt_toInt64, nI_toInt hx]
  unfold sSpot
  by_cases h : 1 ≤ x ∧ x ≤ g 1
  · rw [if_pos (by omega), if_pos (decide_eq_true h)]
  · rw [if_neg (by omega), if_neg (by simp; omega)]
theorem s_M_standing (d : Nat) {a : Nat} (ha : a < 4096) (hA : MA i g) (h1 : g 1 < 100) (h2 : g 2 ≤ 4) : am_cl (d + 3) mM_standing [.ref 0, .int (nI a)] (i, l, rM, kM) = some (some (.int (nI (sUp g a))), (i, l, rM, kM)) := by
  rw [c_M_standing, b_M_standing_0]
  have loop : ∀ n p, p + n = g 2 → am_Ex (d + 2) mM_standing 4 [.val (.ref 0), .val (.int (nI a)), .val (.int (nI (bs (fun p => sSpot g (dg a p)) p))), .val (.int (nI p))] [] (i, l, rM, kM) = some (some (.int (nI (sUp g a))), (i, l, rM, kM)) := by
    intro n
    induction n with
    | zero =>
      intro p hp
      have e : p = g 2 := by omega
      subst e
      rw [b_M_standing_4, hA 2 (by decide), decide_eq_true (nI_le (Nat.le_refl _) (by omega))]
      rfl
    | succ n ih =>
      intro p hp
      have hd := dg_lt a p
      rw [b_M_standing_4, hA 2 (by decide), decide_eq_false (by exact nI_ge (by omega) (by omega)), s_M_placeIn (d + 1) ha (by omega), am_bd_some]
      show am_Ex (d + 2) mM_standing 21 _ [.int _, .ref 0, .int _] _ = _
      rw [b_M_standing_21, s_M_isSpot d (by omega) hA h1, am_bd_some]
      show am_Ex (d + 2) mM_standing 25 _ [.int _, .int _] _ = _
      rw [b_M_standing_25]
      have hi := ih (p + 1) (by omega)
      by_cases he : sSpot g (dg a p) = true
      · rw [if_pos he]
        show am_Ex (d + 2) mM_standing 35 _ _ _ = _
        rw [b_M_standing_35, k_shl1 (by omega), fa_or, nI_1]
        rw [bs, if_pos he] at hi
        exact hi
      · rw [if_neg he]
        show am_Ex (d + 2) mM_standing 35 _ _ _ = _
        rw [b_M_standing_35, ← nI_0, fa_or, nI_1]
        rw [bs, if_neg he] at hi
        exact hi
  exact loop (g 2) 0 (by omega)
theorem s_M_whoIn (d : Nat) {a x : Nat} (ha : a < 4096) (hx : x < 2 ^ 31) (hA : MA i g) (h1 : g 1 < 100) (h2 : g 2 ≤ 4) : am_cl (d + 3) mM_whoIn [.ref 0, .int (nI a), .int (nI x)] (i, l, rM, kM) = some (some (.int (vW (sWho g a x))), (i, l, rM, kM)) := by
  rw [c_M_whoIn, b_M_whoIn_0]
  have loop : ∀ n p, p + n = g 2 → am_Ex (d + 2) mM_whoIn 2 [.val (.ref 0), .val (.int (nI a)), .val (.int (nI x)), .val (.int (nI p))] [] (i, l, rM, kM) = some (some (.int (vW (if sSpot g x then ff (fun p => decide (dg a p = x)) n p else none))), (i, l, rM, kM)) := by
    intro n
    induction n with
    | zero =>
      intro p hp
      have e : p = g 2 := by omega
      subst e
      rw [b_M_whoIn_2, hA 2 (by decide), decide_eq_true (nI_le (Nat.le_refl _) (by omega))]
      show am_Ex (d + 2) mM_whoIn 38 _ _ _ = _
      rw [b_M_whoIn_38, ff, ite_self]
      rfl
    | succ n ih =>
      intro p hp
      have hd := dg_lt a p
      rw [b_M_whoIn_2, hA 2 (by decide), decide_eq_false (by exact nI_ge (by omega) (by omega)), s_M_isSpot d hx hA h1]
      rw [cond_false, am_bd_some]
      show am_Ex (d + 2) mM_whoIn 18 _ [.int _] _ = _
      rw [b_M_whoIn_18]
      by_cases hs : sSpot g x = true
      · rw [if_pos hs, if_pos hs]
        rw [decide_eq_false (by decide), cond_false, s_M_placeIn (d + 1) ha (by omega), am_bd_some]
        show am_Ex (d + 2) mM_whoIn 26 _ [.int _] _ = _
        rw [b_M_whoIn_26, ff]
        have hi := ih (p + 1) (by omega)
        rw [if_pos hs] at hi
        by_cases he : dg a p = x
        · rw [he, decide_eq_false (fun z => z rfl), if_pos (by simp [he])]
          rfl
        · rw [decide_eq_true (by rw [nI_eq (by omega) hx]; exact he), if_neg (by simp [he]), nI_1]
          exact hi
      · rw [if_neg hs, if_neg hs, decide_eq_true rfl, cond_true, b_M_whoIn_38]
        rfl
  exact loop (g 2) 0 (by omega)
end
