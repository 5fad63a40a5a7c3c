/-! BY TURNS: what people can force; THE MODEL -/
/-- within n turns -/
def VF (g : Nat → Nat) (m w : Nat) : Nat → Nat → Bool
  | 0, s => (sOver g s).testBit w
  | n + 1, s => VF g m w n s || ex (fun j => avl g m s j && (VF g m w n (tgt s j) && VF g m w n (sFl g (g 3) (tgt s j)))) 32
noncomputable def fc (g : Nat → Nat) (m w s : Nat) : Nat := lst (fun n => VF g m w n s)
noncomputable def rf (g : Nat → Nat) (m w s : Nat) : Nat := lst (fun n => VF g m w n s && VF g m w n (sFl g (g 3) s))
theorem VF_s {g : Nat → Nat} {m w n s : Nat} : VF g m w (n + 1) s = true ↔ VF g m w n s = true ∨ ∃ j, j < 32 ∧ avl g m s j = true ∧ VF g m w n (tgt s j) = true ∧ VF g m w n (sFl g (g 3) (tgt s j)) = true := by
  rw [VF, Bool.or_eq_true, ex_iff]
  constructor
  · rintro (h | ⟨j, h1, h2⟩)
    · exact Or.inl h
    · rw [Bool.and_eq_true, Bool.and_eq_true] at h2
      exact Or.inr ⟨j, h1, h2.1, h2.2.1, h2.2.2⟩
  · rintro (h | ⟨j, h1, h2, h3, h4⟩)
    · exact Or.inl h
    · exact Or.inr ⟨j, h1, by rw [h2, h3, h4]; rfl⟩
theorem VF_mono {g : Nat → Nat} {m w n s : Nat} (h : VF g m w n s = true) : ∀ k, VF g m w (n + k) s = true
  | 0 => h
  | k + 1 => VF_s.mpr (Or.inl (VF_mono h k))
theorem VF_le {g : Nat → Nat} {m w n k s : Nat} (h : VF g m w n s = true) (hk : n ≤ k) : VF g m w k s = true := by
  have := VF_mono h (k - n)
  rw [show n + (k - n) = k by omega] at this
  exact this
theorem over_fl {g : Nat → Nat} {w s wa : Nat} (h2 : g 2 ≤ 4) (hs : s < 4096) (h : (sOver g s).testBit w = true) : (sOver g (sFl g wa s)).testBit w = true := by
  unfold sOver at h ⊢
  rw [bs_bit, Bool.and_eq_true] at h ⊢
  have hw := of_decide_eq_true h.1
  have hd := of_decide_eq_true h.2
  refine ⟨h.1, decide_eq_true ?_⟩
  rcases dg_fl (w := wa) h2 4 s hs w (by omega) with e | ⟨e1, e2, e3⟩
  · exact e.trans hd
  · rw [hd] at e3
    unfold sSpot at e3
    have := of_decide_eq_true e3
    omega
def LT (g : Nat → Nat) (m : Nat) (E : Nat → Nat) (s : Nat) : Nat → Nat
  | 0 => E s
  | j + 1 => if avl g m s j = true ∧ E (tgt s j) < LT g m E s j then E (tgt s j) else LT g m E s j
theorem LT_le (g : Nat → Nat) (m : Nat) (E : Nat → Nat) (s : Nat) : ∀ n, LT g m E s n ≤ E s
  | 0 => Nat.le_refl _
  | n + 1 => by
    have := LT_le g m E s n
    rw [LT]
    split <;> omega
theorem LT_at {g : Nat → Nat} {m : Nat} {E : Nat → Nat} {s : Nat} : ∀ {n j : Nat}, j < n → avl g m s j = true → LT g m E s n ≤ E (tgt s j)
  | 0, j, h, _ => by omega
  | n + 1, j, h, ha => by
    rw [LT]
    by_cases e : j = n
    · subst e
      split
      · exact Nat.le_refl _
      · rename_i hq
        exact Nat.le_of_not_lt (fun z => hq ⟨ha, z⟩)
    · have := LT_at (n := n) (E := E) (by omega) ha
      split <;> omega
theorem LT_is (g : Nat → Nat) (m : Nat) (E : Nat → Nat) (s : Nat) : ∀ n, LT g m E s n = E s ∨ ∃ j, j < n ∧ avl g m s j = true ∧ LT g m E s n = E (tgt s j)
  | 0 => Or.inl rfl
  | n + 1 => by
    rw [LT]
    split
    · rename_i h
      exact Or.inr ⟨n, by omega, h.1, rfl⟩
    · rcases LT_is g m E s n with h | ⟨j, h1, h2, h3⟩
      · exact Or.inl h
      · exact Or.inr ⟨j, by omega, h2, h3⟩
def th (g : Nat → Nat) (m : Nat) (E : Nat → Nat) (s : Nat) : Nat := if LT g m E s (8 * g 2) = FARN then FARN else LT g m E s (8 * g 2) + 1
def mx (a b : Nat) : Nat := if b < a then a else b
def FE (g : Nat → Nat) (m w : Nat) (L : List Nat) (D E : Nat → Nat) : Prop := (∀ s, D s ≤ FARN ∧ E s ≤ FARN) ∧ (∀ s, s ∈ L → (sOver g s).testBit w = true → D s = 0 ∧ E s = 0) ∧ (∀ s, s ∈ L → D s < FARN → VF g m w (D s) s = true) ∧ ∀ s, s ∈ L → E s < FARN → VF g m w (E s) s = true ∧ VF g m w (E s) (sFl g (g 3) s) = true
theorem avl_lt {g : Nat → Nat} {m s j : Nat} (h : avl g m s j = true) : j < 8 * g 2 := by
  unfold avl gBit at h
  by_cases hc : j / 8 < g 2 ∧ m.testBit (j / 8) = true
  · omega
  · rw [if_neg hc, Nat.zero_testBit] at h; cases h
theorem th_le {g : Nat → Nat} {m : Nat} {E : Nat → Nat} (h : ∀ s, E s ≤ FARN) (s : Nat) : th g m E s ≤ FARN := by
  have := LT_le g m E s (8 * g 2)
  have := h s
  unfold th
  split <;> omega
theorem FE_upd {g : Nat → Nat} {m w : Nat} {L : List Nat} {D E : Nat → Nat} {s : Nat} (h2 : g 2 ≤ 4) (h : FE g m w L D E) (hs : s ∈ L) (hc : ∀ j, j < 32 → avl g m s j = true → tgt s j ∈ L) (hf : sFl g (g 3) s ∈ L) : FE g m w L (ug D s (mn (th g m E s) (D s))) (ug E s (mn (mx (D (sFl g (g 3) s)) (D s)) (E s))) := by
  obtain ⟨f1, f2, f3, f4⟩ := h
  have hth := th_le (g := g) (m := m) (fun s => (f1 s).2) s
  refine ⟨fun x => ⟨?_, ?_⟩, fun x hx ho => ⟨?_, ?_⟩, fun x hx hl => ?_, fun x hx hl => ?_⟩
  · unfold ug; split
    · unfold mn; split
      · exact hth
      · exact (f1 s).1
    · exact (f1 x).1
  · unfold ug; split
    · have a1 := f1 s
      have a2 := f1 (sFl g (g 3) s)
      unfold mn mx; repeat' split
      all_goals omega
    · exact (f1 x).2
  · unfold ug; split
    · rename_i e
      subst e
      have := (f2 x hx ho).1
      unfold mn; split <;> omega
    · exact (f2 x hx ho).1
  · unfold ug; split
    · rename_i e
      subst e
      have := (f2 x hx ho).2
      unfold mn; split <;> omega
    · exact (f2 x hx ho).2
  · unfold ug at hl ⊢
    by_cases e : x = s
    · subst e
      rw [if_pos rfl] at hl ⊢
      unfold mn at hl ⊢
      by_cases hq : th g m E x < D x
      · rw [if_pos hq] at hl ⊢
        unfold th at hl ⊢
        by_cases hF : LT g m E x (8 * g 2) = FARN
        · rw [if_pos hF] at hl; exact absurd hl (Nat.lt_irrefl _)
        · rw [if_neg hF] at hl ⊢
          rcases LT_is g m E x (8 * g 2) with e | ⟨j, hj, ha, e⟩
          · rw [e] at hl ⊢
            exact VF_le (f4 x hx (by omega)).1 (by omega)
          · rw [e] at hl ⊢
            obtain ⟨q1, q2⟩ := f4 _ (hc j (by omega) ha) (by omega)
            exact VF_s.mpr (Or.inr ⟨j, by omega, ha, q1, q2⟩)
      · rw [if_neg hq] at hl ⊢; exact f3 x hx hl
    · rw [if_neg e] at hl ⊢; exact f3 x hx hl
  · unfold ug at hl ⊢
    by_cases e : x = s
    · subst e
      rw [if_pos rfl] at hl ⊢
      unfold mn at hl ⊢
      by_cases hq : mx (D (sFl g (g 3) x)) (D x) < E x
      · rw [if_pos hq] at hl ⊢
        have hm1 : D (sFl g (g 3) x) ≤ mx (D (sFl g (g 3) x)) (D x) := by unfold mx; split <;> omega
        have hm2 : D x ≤ mx (D (sFl g (g 3) x)) (D x) := by unfold mx; split <;> omega
        exact ⟨VF_le (f3 x hx (by omega)) hm2, VF_le (f3 _ hf (by omega)) hm1⟩
      · rw [if_neg hq] at hl ⊢; exact f4 x hx hl
    · rw [if_neg e] at hl ⊢; exact f4 x hx hl
theorem FE_fix {g : Nat → Nat} {m w : Nat} {L : List Nat} {D E : Nat → Nat} (h2 : g 2 ≤ 4) (hlt : ∀ s, s ∈ L → s < 4096) (h : FE g m w L D E) (hc : ∀ s, s ∈ L → ∀ j, j < 32 → avl g m s j = true → tgt s j ∈ L) (hf : ∀ s, s ∈ L → sFl g (g 3) s ∈ L) (hx : ∀ s, s ∈ L → (sOver g s).testBit w = false → D s ≤ th g m E s ∧ E s ≤ mx (D (sFl g (g 3) s)) (D s)) : ∀ s, s ∈ L → D s = fc g m w s ∧ E s = rf g m w s := by
  obtain ⟨f1, f2, f3, f4⟩ := h
  have kE : ∀ n, n < FARN → (∀ s, s ∈ L → VF g m w n s = true → D s ≤ n) → ∀ s, s ∈ L → VF g m w n s = true → VF g m w n (sFl g (g 3) s) = true → E s ≤ n := by
    intro n hn hD s hs h1 h3
    cases ho : (sOver g s).testBit w with
    | true => rw [(f2 s hs ho).2]; exact Nat.zero_le _
    | false =>
      have q1 := (hx s hs ho).2
      have q2 := hD s hs h1
      have q3 := hD _ (hf s hs) h3
      have : mx (D (sFl g (g 3) s)) (D s) ≤ n := by unfold mx; split <;> omega
      omega
  have kD : ∀ n, n < FARN → ∀ s, s ∈ L → VF g m w n s = true → D s ≤ n := by
    intro n
    induction n with
    | zero => intro _ s hs hv; rw [(f2 s hs hv).1]; exact Nat.le_refl _
    | succ n ih =>
      intro hn s hs hv
      rcases VF_s.mp hv with hv | ⟨j, hj, ha, h3, h4⟩
      · have := ih (by omega) s hs hv; omega
      · cases ho : (sOver g s).testBit w with
        | true => rw [(f2 s hs ho).1]; exact Nat.zero_le _
        | false =>
          have q1 := (hx s hs ho).1
          have q2 := kE n (by omega) (ih (by omega)) _ (hc s hs j hj ha) h3 h4
          have q3 := LT_at (E := E) (avl_lt ha) ha
          unfold th at q1
          rw [if_neg (by omega)] at q1
          omega
  intro s hs
  constructor
  · refine lst_eq (f1 s).1 (fun hl => f3 s hs hl) (fun n hn => ?_)
    cases hp : VF g m w n s with
    | false => rfl
    | true =>
      have := kD n (by have := (f1 s).1; omega) s hs hp
      omega
  · refine lst_eq (f1 s).2 (fun hl => ?_) (fun n hn => ?_)
    · obtain ⟨a, b⟩ := f4 s hs hl
      rw [a, b]; rfl
    · cases hp : VF g m w n s with
      | false => rfl
      | true =>
        cases hp2 : VF g m w n (sFl g (g 3) s) with
        | false => rfl
        | true =>
          have hn' : n < FARN := by have := (f1 s).2; omega
          have := kE n hn' (kD n hn') s hs hp hp2
          omega
def F20 (i : Nat → Nat → Int32) (L : List Nat) (E : Nat → Nat) : Prop := ∀ s, s ∈ L → i 20 s = nI (E s)
theorem F20_fx {R : List Nat} {i i' : Nat → Nat → Int32} {L : List Nat} {D : Nat → Nat} (h : Fx R i i') (hq : F20 i L D) (h1 : R.contains 20 = false) : F20 i' L D := by
  unfold F20
  rw [Fx_row h (by decide) h1]; exact hq
theorem F20_u2 {i : Nat → Nat → Int32} {L : List Nat} {D : Nat → Nat} {s v : Nat} (hq : F20 i L D) : F20 (am_u2 i 20 s (nI v)) L (ug D s v) := by
  intro x hx
  show (if x = s then nI v else i 20 x) = nI (if x = s then v else D x)
  by_cases e : x = s
  · rw [if_pos e, if_pos e]
  · rw [if_neg e, if_neg e, hq x hx]
