/-! fields and arrays -/
theorem am_inj {A : Nat → Prop} {aC : Nat → ClassId} {ad : Nat → Nat} {s : aM} (hD : va_D A (am_W aC ad s)) {r1 r2 : Nat} (h1 : r1 < s.2.2.2.length) (h2 : r2 < s.2.2.2.length) (h : ad r1 = ad r2) : r1 = r2 :=
  hD.1 r1 r2 _ _ (am_W_get h1) (am_W_get h2) h
theorem am_u2_ne {α : Type} {f : Nat → Nat → α} {a k b : Nat} {v : α} (h : b ≠ a) : am_u2 f a k v b = f b := by
  funext j
  unfold am_u2
  rw [if_neg h]
theorem am_u2_at {α : Type} {f : Nat → Nat → α} {a k : Nat} {v : α} (j : Nat) : am_u2 f a k v a j = if j = k then v else f a j := by
  unfold am_u2
  rw [if_pos rfl]
theorem am_E_obj {aC : Nat → ClassId} {ad : Nat → Nat} {s : aM} {r ci : Nat} (h : am_kd s r = ci) (hc : ci < 13) : am_E aC ad s r = .inr (ci, (List.range (am_N ci)).map (am_fv ad s ci r)) := by
  unfold am_E am_Ek
  rw [h, if_pos (by omega)]
theorem am_E_int {aC : Nat → ClassId} {ad : Nat → Nat} {s : aM} {r c : Nat} (h : am_kd s r = c) (h1 : ¬ c < 100) (h2 : ¬ c = 101) (h3 : c < 104) : am_E aC ad s r = .inl (aC c, am_ln s r, .inl (s.1 r)) := by
  unfold am_E am_Ek
  rw [h, if_neg h1, if_neg h2, if_pos h3]
theorem am_E_long {aC : Nat → ClassId} {ad : Nat → Nat} {s : aM} {r : Nat} (h : am_kd s r = 101) : am_E aC ad s r = .inl (aC 101, am_ln s r, .inr (.inl (s.2.1 r))) := by
  unfold am_E am_Ek
  rw [h, if_neg (by omega), if_pos rfl]
theorem am_E_ref {aC : Nat → ClassId} {ad : Nat → Nat} {s : aM} {r c : Nat} (h : am_kd s r = c) (h1 : 104 ≤ c) : am_E aC ad s r = .inl (aC c, am_ln s r, .inr (.inr (.inr (.inr (fun k => (s.2.2.1 r k).map ad))))) := by
  unfold am_E am_Ek
  rw [h, if_neg (by omega), if_neg (by omega), if_neg (by omega)]
theorem am_fs_get {ad : Nat → Nat} {s : aM} {ci r k : Nat} (h : k < am_N ci) : ((List.range (am_N ci)).map (am_fv ad s ci r))[k]? = some (am_fv ad s ci r k) := by
  rw [List.getElem?_map, List.getElem?_range h]
  rfl
theorem am_fs_set {ad : Nat → Nat} {s s2 : aM} {ci r k : Nat} {w : Value} (h : k < am_N ci) (hk : am_fv ad s2 ci r k = w) (hj : ∀ j, j ≠ k → am_fv ad s2 ci r j = am_fv ad s ci r j) : (List.range (am_N ci)).map (am_fv ad s2 ci r) = ((List.range (am_N ci)).map (am_fv ad s ci r)).set k w := by
  apply List.ext_getElem?
  intro j
  rw [List.getElem?_set]
  by_cases e : k = j
  · subst e
    rw [if_pos rfl, if_pos (by simp; exact h), am_fs_get h, hk]
  · rw [if_neg e]
    rcases Nat.lt_or_ge j (am_N ci) with q | q
    · rw [am_fs_get q, am_fs_get q, hj j (Ne.symm e)]
    · rw [List.getElem?_eq_none (by simp; exact q), List.getElem?_eq_none (by simp; exact q)]
theorem am_in_of {i : Int32} {n : Nat} (h : am_in i n = true) : vp_in i n := by
  unfold am_in at h
  rw [Bool.and_eq_true] at h
  have h1 := of_decide_eq_true h.1
  have h2 := of_decide_eq_true h.2
  intro q
  rcases q with q | q
  · exact absurd h1 (by rw [Int32.le_iff_toInt_le]; rw [Int32.lt_iff_toInt_lt] at q; omega)
  · omega
