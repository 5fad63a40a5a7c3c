/-! STANDS FOUND ONE BEHIND THE OTHER -/
/-- to which places one can go, of some movers -/
def gBit (g : Nat → Nat) (m s p : Nat) : Nat := if p < g 2 ∧ m.testBit p = true then sGo g s p (g (10 + p)) else 0
def avl (g : Nat → Nat) (m s j : Nat) : Bool := (gBit g m s (j / 8)).testBit (j % 8)
def tgt (s j : Nat) : Nat := wp s (j / 8) (j % 8)
def addL (L : List Nat) (x : Nat) : List Nat := if x ∈ L then L else L ++ [x]
def sweepL (g : Nat → Nat) (m s : Nat) : Nat → List Nat → List Nat
  | 0, L => L
  | n + 1, L => if avl g m s n = true then addL (sweepL g m s n L) (tgt s n) else sweepL g m s n L
def tideL (g : Nat → Nat) (t : Bool) (s : Nat) (L : List Nat) : List Nat := if t = true then addL L (sFl g (g 3) s) else L
def stepL (g : Nat → Nat) (m : Nat) (t : Bool) (k : Nat) (L : List Nat) : List Nat := match L[k]? with
  | some s => tideL g t s (sweepL g m s 32 L)
  | none => L
def bfs (g : Nat → Nat) (m : Nat) (t : Bool) (a : Nat) : Nat → List Nat
  | 0 => [a]
  | k + 1 => stepL g m t k (bfs g m t a k)
/-- all stands that can be -/
def stds (g : Nat → Nat) (m : Nat) (t : Bool) (a : Nat) : List Nat := bfs g m t a 4096
theorem addL_pre (L : List Nat) (x : Nat) : ∃ M, addL L x = L ++ M := by
  unfold addL
  split
  · exact ⟨[], by simp⟩
  · exact ⟨[x], rfl⟩
theorem addL_mem {L : List Nat} {x y : Nat} : y ∈ addL L x ↔ y ∈ L ∨ y = x := by
  unfold addL
  split
  · rename_i h
    exact ⟨Or.inl, fun q => q.elim id (fun e => e ▸ h)⟩
  · rw [List.mem_append, List.mem_singleton]
theorem addL_nodup {L : List Nat} {x : Nat} (h : L.Nodup) : (addL L x).Nodup := by
  unfold addL
  split
  · exact h
  · rename_i hx
    rw [List.nodup_append]
    refine ⟨h, by simp, fun a ha b hb => ?_⟩
    rw [List.mem_singleton] at hb
    subst hb
    exact fun e => hx (e ▸ ha)
theorem pre_trans {L M N : List Nat} (h1 : ∃ A, M = L ++ A) (h2 : ∃ B, N = M ++ B) : ∃ C, N = L ++ C := by
  obtain ⟨A, rfl⟩ := h1
  obtain ⟨B, rfl⟩ := h2
  exact ⟨A ++ B, by rw [List.append_assoc]⟩
theorem pre_refl (L : List Nat) : ∃ A, L = L ++ A := ⟨[], by simp⟩
theorem sweepL_pre (g : Nat → Nat) (m s : Nat) : ∀ n L, ∃ M, sweepL g m s n L = L ++ M
  | 0, L => pre_refl L
  | n + 1, L => by
    rw [sweepL]
    split
    · exact pre_trans (sweepL_pre g m s n L) (addL_pre _ _)
    · exact sweepL_pre g m s n L
theorem sweepL_mem (g : Nat → Nat) (m s : Nat) {y : Nat} : ∀ n L, y ∈ sweepL g m s n L ↔ y ∈ L ∨ ∃ j, j < n ∧ avl g m s j = true ∧ y = tgt s j
  | 0, L => by simp [sweepL]
  | n + 1, L => by
    rw [sweepL]
    by_cases h : avl g m s n = true
    · rw [if_pos h, addL_mem, sweepL_mem g m s n L]
      constructor
      · rintro ((h1 | ⟨j, h1, h2, h3⟩) | h1)
        · exact Or.inl h1
        · exact Or.inr ⟨j, by omega, h2, h3⟩
        · exact Or.inr ⟨n, by omega, h, h1⟩
      · rintro (h1 | ⟨j, h1, h2, h3⟩)
        · exact Or.inl (Or.inl h1)
        · by_cases e : j = n
          · subst e; exact Or.inr h3
          · exact Or.inl (Or.inr ⟨j, by omega, h2, h3⟩)
    · rw [if_neg h, sweepL_mem g m s n L]
      constructor
      · rintro (h1 | ⟨j, h1, h2, h3⟩)
        · exact Or.inl h1
        · exact Or.inr ⟨j, by omega, h2, h3⟩
      · rintro (h1 | ⟨j, h1, h2, h3⟩)
        · exact Or.inl h1
        · by_cases e : j = n
          · subst e; exact absurd h2 h
          · exact Or.inr ⟨j, by omega, h2, h3⟩
theorem sweepL_nodup (g : Nat → Nat) (m s : Nat) : ∀ n L, L.Nodup → (sweepL g m s n L).Nodup
  | 0, L, h => h
  | n + 1, L, h => by
    rw [sweepL]
    split
    · exact addL_nodup (sweepL_nodup g m s n L h)
    · exact sweepL_nodup g m s n L h
theorem tideL_pre (g : Nat → Nat) (t : Bool) (s : Nat) (L : List Nat) : ∃ M, tideL g t s L = L ++ M := by
  unfold tideL
  split
  · exact addL_pre _ _
  · exact pre_refl _
theorem tideL_mem {g : Nat → Nat} {t : Bool} {s : Nat} {L : List Nat} {y : Nat} : y ∈ tideL g t s L ↔ y ∈ L ∨ (t = true ∧ y = sFl g (g 3) s) := by
  unfold tideL
  split
  · rename_i h
    rw [addL_mem]
    exact ⟨fun q => q.elim Or.inl (fun e => Or.inr ⟨h, e⟩), fun q => q.elim Or.inl (fun e => Or.inr e.2)⟩
  · rename_i h
    exact ⟨Or.inl, fun q => q.elim id (fun e => absurd e.1 h)⟩
theorem stepL_pre (g : Nat → Nat) (m : Nat) (t : Bool) (k : Nat) (L : List Nat) : ∃ M, stepL g m t k L = L ++ M := by
  unfold stepL
  split
  · exact pre_trans (sweepL_pre g m _ 32 L) (tideL_pre g t _ _)
  · exact pre_refl _
theorem bfs_pre (g : Nat → Nat) (m : Nat) (t : Bool) (a k : Nat) : ∀ n, ∃ M, bfs g m t a (k + n) = bfs g m t a k ++ M
  | 0 => pre_refl _
  | n + 1 => pre_trans (bfs_pre g m t a k n) (stepL_pre g m t (k + n) _)
theorem bfs_nodup (g : Nat → Nat) (m : Nat) (t : Bool) (a : Nat) : ∀ k, (bfs g m t a k).Nodup
  | 0 => by rw [bfs]; simp
  | k + 1 => by
    have ih := bfs_nodup g m t a k
    rw [bfs]
    unfold stepL
    split
    · unfold tideL
      split
      · exact addL_nodup (sweepL_nodup g m _ 32 _ ih)
      · exact sweepL_nodup g m _ 32 _ ih
    · exact ih
theorem tgt_lt {s j : Nat} (hs : s < 4096) (hj : j < 32) : tgt s j < 4096 := wp_lt hs (by omega) (by omega)
theorem bfs_lt {g : Nat → Nat} {m : Nat} {t : Bool} {a : Nat} (h2 : g 2 ≤ 4) (ha : a < 4096) : ∀ k, ∀ y, y ∈ bfs g m t a k → y < 4096
  | 0, y, hy => by
    rw [bfs, List.mem_singleton] at hy
    subst hy; exact ha
  | k + 1, y, hy => by
    rw [bfs] at hy
    unfold stepL at hy
    split at hy
    · rename_i s hs
      have hs4 := bfs_lt h2 ha k s (List.mem_of_getElem? hs)
      rw [tideL_mem, sweepL_mem] at hy
      rcases hy with (h | ⟨j, h1, h2', h3⟩) | ⟨_, h⟩
      · exact bfs_lt h2 ha k y h
      · subst h3; exact tgt_lt hs4 h1
      · subst h; exact sFl_lt h2 hs4
    · exact bfs_lt h2 ha k y hy
theorem nodup_len : ∀ (n : Nat) (L : List Nat), L.Nodup → (∀ x, x ∈ L → x < n) → L.length ≤ n
  | 0, L, _, h => by
    cases L with
    | nil => exact Nat.le_refl _
    | cons x L => exact absurd (h x List.mem_cons_self) (Nat.not_lt_zero _)
  | n + 1, L, hn, h => by
    have ih := nodup_len n (L.erase n) (hn.erase n) (fun x hx => by
      have h1 := h x (List.mem_of_mem_erase hx)
      have h2 : x ≠ n := fun e => by
        subst e
        exact hn.not_mem_erase hx
      omega)
    rw [List.length_erase] at ih
    split at ih <;> omega
theorem bfs_len {g : Nat → Nat} {m : Nat} {t : Bool} {a : Nat} (h2 : g 2 ≤ 4) (ha : a < 4096) (k : Nat) : (bfs g m t a k).length ≤ 4096 := nodup_len 4096 _ (bfs_nodup g m t a k) (bfs_lt h2 ha k)
theorem bfs_stop {g : Nat → Nat} {m : Nat} {t : Bool} {a k : Nat} (h : (bfs g m t a k).length ≤ k) : ∀ n, bfs g m t a (k + n) = bfs g m t a k
  | 0 => rfl
  | n + 1 => by
    have ih := bfs_stop h n
    show stepL g m t (k + n) (bfs g m t a (k + n)) = _
    rw [ih]
    unfold stepL
    rw [List.getElem?_eq_none (by omega)]
section
variable {g : Nat → Nat} {m : Nat} {t : Bool} {a : Nat}
theorem stds_len (h2 : g 2 ≤ 4) (ha : a < 4096) : (stds g m t a).length ≤ 4096 := bfs_len h2 ha 4096
theorem stds_lt (h2 : g 2 ≤ 4) (ha : a < 4096) {y : Nat} (hy : y ∈ stds g m t a) : y < 4096 := bfs_lt h2 ha 4096 y hy
theorem stds_nodup : (stds g m t a).Nodup := bfs_nodup g m t a 4096
theorem bfs_in_stds (h2 : g 2 ≤ 4) (ha : a < 4096) (k : Nat) : ∃ M, stds g m t a = bfs g m t a k ++ M := by
  rcases Nat.le_total k 4096 with h | h
  · obtain ⟨M, hM⟩ := bfs_pre g m t a k (4096 - k)
    rw [show k + (4096 - k) = 4096 by omega] at hM
    exact ⟨M, hM⟩
  · have hs := bfs_stop (bfs_len (m := m) (t := t) h2 ha 4096) (k - 4096)
    rw [show 4096 + (k - 4096) = k by omega] at hs
    exact ⟨[], by rw [hs]; simp [stds]⟩
/-- it goes on as long as there are more -/
theorem bfs_more (h2 : g 2 ≤ 4) (ha : a < 4096) {k : Nat} (hk : k < (stds g m t a).length) : k < (bfs g m t a k).length := by
  apply Classical.byContradiction
  intro h
  have hs := bfs_stop (Nat.le_of_not_lt h) (4096 - k)
  have hl := stds_len (m := m) (t := t) h2 ha
  rw [show k + (4096 - k) = 4096 by omega] at hs
  have : stds g m t a = bfs g m t a k := hs
  rw [this] at hk
  exact h hk
theorem bfs_end (h2 : g 2 ≤ 4) (ha : a < 4096) : bfs g m t a (stds g m t a).length = stds g m t a := by
  have hl := stds_len (m := m) (t := t) h2 ha
  obtain ⟨M, hM⟩ := bfs_in_stds (m := m) (t := t) h2 ha (stds g m t a).length
  have h1 := congrArg List.length hM
  rw [List.length_append] at h1
  have hs := bfs_stop (g := g) (m := m) (t := t) (a := a) (k := (stds g m t a).length) (by omega) (4096 - (stds g m t a).length)
  rw [show (stds g m t a).length + (4096 - (stds g m t a).length) = 4096 by omega] at hs
  exact hs.symm
theorem bfs_at (h2 : g 2 ≤ 4) (ha : a < 4096) {k n : Nat} (hk : k < (bfs g m t a n).length) : (stds g m t a)[k]? = (bfs g m t a n)[k]? := by
  obtain ⟨M, hM⟩ := bfs_in_stds (m := m) (t := t) h2 ha n
  rw [hM, List.getElem?_append_left hk]
theorem stds_0 (h2 : g 2 ≤ 4) (ha : a < 4096) : (stds g m t a)[0]? = some a := bfs_at h2 ha (n := 0) (by simp [bfs])
theorem stds_start (h2 : g 2 ≤ 4) (ha : a < 4096) : a ∈ stds g m t a := List.mem_of_getElem? (stds_0 h2 ha)
theorem stds_step (h2 : g 2 ≤ 4) (ha : a < 4096) {s : Nat} (hs : s ∈ stds g m t a) : (∀ j, j < 32 → avl g m s j = true → tgt s j ∈ stds g m t a) ∧ (t = true → sFl g (g 3) s ∈ stds g m t a) := by
  obtain ⟨k, hk, e⟩ := List.getElem_of_mem hs
  have hk2 := bfs_more h2 ha hk
  have e2 : (bfs g m t a k)[k]? = some s := by
    rw [← bfs_at h2 ha hk2, List.getElem?_eq_getElem hk, e]
  have e3 : bfs g m t a (k + 1) = tideL g t s (sweepL g m s 32 (bfs g m t a k)) := by
    show stepL g m t k (bfs g m t a k) = _
    unfold stepL
    rw [e2]
  obtain ⟨M, hM⟩ := bfs_in_stds (m := m) (t := t) h2 ha (k + 1)
  have key : ∀ y, y ∈ bfs g m t a (k + 1) → y ∈ stds g m t a := fun y hy => by rw [hM]; exact List.mem_append_left _ hy
  constructor
  · intro j hj hv
    apply key
    rw [e3, tideL_mem, sweepL_mem]
    exact Or.inl (Or.inr ⟨j, hj, hv, rfl⟩)
  · intro ht
    apply key
    rw [e3, tideL_mem]
    exact Or.inr ⟨ht, rfl⟩
end
