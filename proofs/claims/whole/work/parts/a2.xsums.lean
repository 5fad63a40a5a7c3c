/-! Sums over lists of what is not nothing -/
section
variable {g : Nat → Nat}
def inK (M : List Nat) (k x : Nat) : Bool := ex (fun j => decide (M.getD j 0 = x)) k
theorem inK_iff {M : List Nat} {k x : Nat} : inK M k x = true ↔ ∃ j, j < k ∧ M.getD j 0 = x := by
  unfold inK
  rw [ex_iff]
  constructor
  · rintro ⟨j, h1, h2⟩; exact ⟨j, h1, of_decide_eq_true h2⟩
  · rintro ⟨j, h1, h2⟩; exact ⟨j, h1, decide_eq_true h2⟩
theorem ls_sum {M : List Nat} {N : Nat} (f : Nat → Nat) (hd : ∀ j k, j < M.length → k < M.length → M.getD j 0 = M.getD k 0 → j = k) (hl : ∀ j, j < M.length → M.getD j 0 < N) : ∀ k, k ≤ M.length → sSum (fun j => f (M.getD j 0)) k = sSum (fun x => if inK M k x = true then f x else 0) N
  | 0, _ => by
    rw [sSum, show (fun x => if inK M 0 x = true then f x else 0) = fun _ => 0 from funext fun x => if_neg (fun z => by
      obtain ⟨j, hj, _⟩ := inK_iff.mp z
      exact absurd hj (Nat.not_lt_zero _)), sSum_zero]
  | k + 1, hk => by
    rw [sSum, ls_sum f hd hl k (by omega)]
    have e : (fun x => if inK M (k + 1) x = true then f x else 0) = fun x => (if inK M k x = true then f x else 0) + (if M.getD k 0 = x then f x else 0) := by
      funext x
      by_cases c : M.getD k 0 = x
      · have hno : ¬ inK M k x = true := fun z => by
          obtain ⟨j, hj, e⟩ := inK_iff.mp z
          have := hd j k (by omega) (by omega) (e.trans c.symm)
          omega
        rw [if_pos (inK_iff.mpr ⟨k, by omega, c⟩), if_neg hno, if_pos c, Nat.zero_add]
      · rw [if_neg c]
        show _ = _ + 0
        rw [Nat.add_zero]
        by_cases c2 : inK M k x = true
        · obtain ⟨j, hj, e⟩ := inK_iff.mp c2
          rw [if_pos c2, if_pos (inK_iff.mpr ⟨j, by omega, e⟩)]
          rfl
        · rw [if_neg c2, if_neg (fun z => by
            obtain ⟨j, hj, e⟩ := inK_iff.mp z
            by_cases c3 : j = k
            · rw [c3] at e; exact c e
            · exact c2 (inK_iff.mpr ⟨j, by omega, e⟩))]
    rw [e, sSum_add, sum_at, if_pos (hl k (by omega))]
theorem sum_supp {M L : List Nat} {N : Nat} {f : Nat → Nat} (hd : ∀ j k, j < M.length → k < M.length → M.getD j 0 = M.getD k 0 → j = k) (hl : ∀ j, j < M.length → M.getD j 0 < N) (hd' : ∀ j k, j < L.length → k < L.length → L.getD j 0 = L.getD k 0 → j = k) (hl' : ∀ j, j < L.length → L.getD j 0 < N) (h1 : ∀ x, f x ≠ 0 → x ∈ M) (h2 : ∀ x, f x ≠ 0 → x ∈ L) : sSum (fun j => f (M.getD j 0)) M.length = sSum (fun j => f (L.getD j 0)) L.length := by
  rw [ls_sum f hd hl _ (Nat.le_refl _), ls_sum f hd' hl' _ (Nat.le_refl _)]
  apply sSum_cong
  intro x _
  by_cases c : f x = 0
  · rw [c]; simp
  · rw [if_pos (inK_iff.mpr (mem_getD.mp (h1 x c))), if_pos (inK_iff.mpr (mem_getD.mp (h2 x c)))]
theorem sSum_ne {f : Nat → Nat} : ∀ {n : Nat}, sSum f n ≠ 0 → ∃ k, k < n ∧ f k ≠ 0
  | 0, h => absurd rfl h
  | n + 1, h => by
    rw [sSum] at h
    by_cases c : f n = 0
    · obtain ⟨k, hk, e⟩ := sSum_ne (f := f) (n := n) (by omega)
      exact ⟨k, by omega, e⟩
    · exact ⟨n, by omega, c⟩
theorem cnt_ne {m s t : Nat} : ∀ {n : Nat}, cnt g m s t n ≠ 0 → ∃ j, j < n ∧ avl g m s j = true ∧ tgt s j = t
  | 0, h => absurd rfl h
  | n + 1, h => by
    rw [cnt] at h
    by_cases c : avl g m s n = true ∧ tgt s n = t
    · exact ⟨n, by omega, c.1, c.2⟩
    · rw [if_neg c] at h
      obtain ⟨k, hk, e⟩ := cnt_ne (m := m) (s := s) (t := t) (n := n) (by omega)
      exact ⟨k, by omega, e⟩
theorem cnt_mono {m s t : Nat} {n : Nat} : ∀ k, cnt g m s t n ≤ cnt g m s t (n + k)
  | 0 => Nat.le_refl _
  | k + 1 => by
    have := cnt_mono (m := m) (s := s) (t := t) (n := n) k
    show _ ≤ cnt g m s t (n + k) + _
    omega
theorem nd_inj {L : List Nat} (h : L.Nodup) : ∀ j k, j < L.length → k < L.length → L.getD j 0 = L.getD k 0 → j = k := by
  intro j k hj hk e
  have h1 := getD_at (L := L) (k := j) hj
  have h2 := getD_at (L := L) (k := k) hk
  rw [e] at h1
  exact (List.getElem?_inj hj h).mp (h1.trans h2.symm)
theorem wk_in {mv a : Nat} {L : List Nat} (ha : a ∈ L) (hcl : ∀ s, s ∈ L → ∀ j, j < 32 → avl g mv s j = true → tgt s j ∈ L) : ∀ n t, wk g mv L a n t ≠ 0 → t ∈ L
  | 0, t, h => by
    rw [wk] at h
    by_cases c : t = a
    · rw [c]; exact ha
    · rw [if_neg c] at h; exact absurd rfl h
  | n + 1, t, h => by
    rw [wk] at h
    obtain ⟨k, hk, e⟩ := sSum_ne h
    have e2 : cnt g mv (L.getD k 0) t 32 ≠ 0 := fun z => e (by rw [z, Nat.mul_zero])
    obtain ⟨j, hj, e3, e4⟩ := cnt_ne e2
    rw [← e4]
    exact hcl _ (mem_getD.mpr ⟨k, hk, rfl⟩) j hj e3
/-- one going more, over what is not nothing -/
theorem wk_supp {mv a n : Nat} {L M : List Nat} (hd : L.Nodup) (hlt : ∀ s, s ∈ L → s < 4096) (ha : a ∈ L) (hcl : ∀ s, s ∈ L → ∀ j, j < 32 → avl g mv s j = true → tgt s j ∈ L) (hM : ∀ j k, j < M.length → k < M.length → M.getD j 0 = M.getD k 0 → j = k) (hMs : ∀ x, x ∈ M ↔ wk g mv L a n x ≠ 0) (t : Nat) : sSum (fun k => wk g mv L a n (M.getD k 0) * cnt g mv (M.getD k 0) t 32) M.length = wk g mv L a (n + 1) t := by
  rw [wk]
  exact sum_supp (N := 4096) (f := fun x => wk g mv L a n x * cnt g mv x t 32) hM (fun j hj => hlt _ (wk_in ha hcl n _ ((hMs _).mp (mem_getD.mpr ⟨j, hj, rfl⟩)))) (nd_inj hd) (fun j hj => hlt _ (mem_getD.mpr ⟨j, hj, rfl⟩)) (fun x hx => (hMs x).mpr (fun z => hx (by show _ * _ = _; rw [z, Nat.zero_mul]))) (fun x hx => wk_in ha hcl n x (fun z => hx (by show _ * _ = _; rw [z, Nat.zero_mul])))
theorem rw_supp {mv a n z : Nat} {L M : List Nat} (hd : L.Nodup) (hlt : ∀ s, s ∈ L → s < 4096) (ha : a ∈ L) (hcl : ∀ s, s ∈ L → ∀ j, j < 32 → avl g mv s j = true → tgt s j ∈ L) (hM : ∀ j k, j < M.length → k < M.length → M.getD j 0 = M.getD k 0 → j = k) (hMs : ∀ x, x ∈ M ↔ wk g mv L a n x ≠ 0) : sSum (fun k => if gl g z (M.getD k 0) = true then wk g mv L a n (M.getD k 0) else 0) M.length = rwN g mv L a z n := by
  unfold rwN
  have key : ∀ x, (if gl g z x = true then wk g mv L a n x else 0) ≠ 0 → wk g mv L a n x ≠ 0 := fun x hx => by
    by_cases c : gl g z x = true
    · rw [if_pos c] at hx; exact hx
    · rw [if_neg c] at hx; exact absurd rfl hx
  exact sum_supp (N := 4096) (f := fun x => if gl g z x = true then wk g mv L a n x else 0) hM (fun j hj => hlt _ (wk_in ha hcl n _ ((hMs _).mp (mem_getD.mpr ⟨j, hj, rfl⟩)))) (nd_inj hd) (fun j hj => hlt _ (mem_getD.mpr ⟨j, hj, rfl⟩)) (fun x hx => (hMs x).mpr (key x hx)) (fun x hx => wk_in ha hcl n x (key x hx))
theorem avl_15 (h2 : g 2 ≤ 4) {s j : Nat} : avl g 15 s j = avl g (evb g) s j := by
  unfold avl gBit
  by_cases c : j / 8 < g 2
  · have h1 : (15 : Nat).testBit (j / 8) = true := by
      have : ∀ p, p < 4 → (15 : Nat).testBit p = true := by decide
      exact this _ (by omega)
    rw [if_pos ⟨c, h1⟩, if_pos ⟨c, by rw [evb_bit h2]; exact decide_eq_true c⟩]
  · rw [if_neg (fun z => c z.1), if_neg (fun z => c z.1)]
end
