/-! THE MODEL's small methods -/
theorem am_bd_some (v : Option Value) (s : aM) (f : Option Value → aM → Option aR) : am_bd (some (v, s)) f = f v s := rfl
theorem k_cmp_lt (x y : Int64) : lg_cmp x y < 0 ↔ x < y := by
  unfold lg_cmp
  rw [fa_lt64]
  by_cases h : x > y
  · rw [if_pos h]
    have h : y < x := h
    rw [fa_lt64] at h
    exact ⟨fun q => absurd q (by decide), fun q => by omega⟩
  · rw [if_neg h]
    have h : ¬ y < x := h
    rw [fa_lt64] at h
    by_cases e : x = y
    · rw [if_pos e]
      subst e
      exact ⟨fun q => absurd q (by decide), fun q => by omega⟩
    · rw [if_neg e]
      rw [fa_eq64] at e
      exact ⟨fun _ => by omega, fun _ => by decide⟩
theorem k_cmp_gt (x y : Int64) : 0 < lg_cmp x y ↔ y < x := by
  unfold lg_cmp
  by_cases h : x > y
  · rw [if_pos h]
    exact ⟨fun _ => h, fun _ => by decide⟩
  · rw [if_neg h]
    by_cases e : x = y
    · rw [if_pos e]
      exact ⟨fun q => absurd q (by decide), fun q => absurd q h⟩
    · rw [if_neg e]
      exact ⟨fun q => absurd q (by decide), fun q => absurd q h⟩
theorem k_cmp_eq (x y : Int64) : lg_cmp x y = 0 ↔ x = y := by
  unfold lg_cmp
  by_cases h : x > y
  · rw [if_pos h]
    refine ⟨fun q => absurd q (by decide), fun q => ?_⟩
    subst q
    have h : x < x := h
    rw [fa_lt64] at h
    omega
  · rw [if_neg h]
    by_cases e : x = y
    · rw [if_pos e]; exact ⟨fun _ => e, fun _ => rfl⟩
    · rw [if_neg e]; exact ⟨fun q => absurd q (by decide), fun q => absurd q e⟩
theorem s_M_within (d : Nat) (a b c : Int64) (s : aM) : am_cl (d + 1) mM_within [.long a, .long b, .long c] s = some (some (.int (if b ≤ a ∧ a ≤ c then 1 else 0)), s) := by
  obtain ⟨i, l, q, K⟩ := s
  rw [c_M_within, b_M_within_0, b_M_within_17, b_M_within_18]
  by_cases h1 : a < b
  · rw [decide_eq_true ((k_cmp_lt a b).mpr h1)]
    rw [if_neg (by rw [fa_lt64] at h1; rw [fa_le64]; omega)]
    rfl
  · rw [decide_eq_false (fun z => h1 ((k_cmp_lt a b).mp z))]
    by_cases h2 : c < a
    · rw [decide_eq_true ((k_cmp_gt a c).mpr h2)]
      rw [if_neg (by rw [fa_lt64] at h2; rw [fa_le64, fa_le64]; omega)]
      rfl
    · rw [decide_eq_false (fun z => h2 ((k_cmp_gt a c).mp z))]
      rw [if_pos (by rw [fa_lt64] at h1 h2; rw [fa_le64, fa_le64]; omega)]
      show am_Ex d mM_within 18 _ [.int 1] _ = _
      rw [b_M_within_18]
      rfl
