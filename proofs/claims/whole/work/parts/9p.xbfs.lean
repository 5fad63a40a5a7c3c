/-! THE CLASS: a search as a tree; its first goal is by the first of the shortest ways -/
def BT (g : Nat → Nat) (m a N pb : Nat) (S κ : Nat → Nat) : Prop := (S 0 = a ∧ 1 ≤ N) ∧ (∀ j k, j < N → k < N → S j = S k → j = k) ∧ (∀ j, 1 ≤ j → j < N → κ j / 32 < j ∧ κ j < pb ∧ avl g m (S (κ j / 32)) (κ j % 32) = true ∧ S j = tgt (S (κ j / 32)) (κ j % 32)) ∧ (∀ j k, 1 ≤ j → j < k → k < N → κ j < κ k) ∧ ∀ e, e < pb → e / 32 < N → avl g m (S (e / 32)) (e % 32) = true → ∃ j, j < N ∧ S j = tgt (S (e / 32)) (e % 32) ∧ (j = 0 ∨ κ j ≤ e)
/-- so many back from the last -/
def upk (κ : Nat → Nat) (G : Nat) : Nat → Nat
  | 0 => G
  | k + 1 => if upk κ G k = 0 then 0 else κ (upk κ G k) / 32
section
variable {g : Nat → Nat} {m a z N pb : Nat} {S κ : Nat → Nat}
theorem up_le2 (hB : BT g m a N pb S κ) : ∀ k, upk κ (N - 1) k < N ∧ upk κ (N - 1) k ≤ N - 1
  | 0 => by have := hB.1.2; rw [upk]; omega
  | k + 1 => by
    obtain ⟨h1, h2⟩ := up_le2 hB k
    rw [upk]
    by_cases c : upk κ (N - 1) k = 0
    · rw [if_pos c]; have := hB.1.2; omega
    · rw [if_neg c]
      have := (hB.2.2.1 _ (by omega) h1).1
      omega
theorem up_dec2 (hB : BT g m a N pb S κ) (k : Nat) (h : upk κ (N - 1) k ≠ 0) : upk κ (N - 1) (k + 1) < upk κ (N - 1) k := by
  rw [upk, if_neg h]
  exact (hB.2.2.1 _ (by omega) (up_le2 hB k).1).1
/-- before the ancestors of the first goal none comes to a goal so soon -/
theorem bt_no (hB : BT g m a N pb S κ) (hng : ∀ j, j < N - 1 → gl g z (S j) = false) : ∀ k t n, t < upk κ (N - 1) k → n ≤ k → Rch g m z n (S t) = false
  | k, t, 0, ht, _ => by
    rw [Rch]
    exact hng t (by have := (up_le2 hB k).2; omega)
  | 0, t, n + 1, _, hn => by omega
  | k + 1, t, n + 1, ht, hn => by
    cases hr : Rch g m z (n + 1) (S t) with
    | false => rfl
    | true =>
      exfalso
      obtain ⟨c, hc, ha, hr2⟩ := Rch_succ.mp hr
      rw [upk] at ht
      by_cases c0 : upk κ (N - 1) k = 0
      · rw [if_pos c0] at ht; omega
      · rw [if_neg c0] at ht
        obtain ⟨hN, hle⟩ := up_le2 hB k
        obtain ⟨k1, k2, _, _⟩ := hB.2.2.1 _ (by omega) hN
        have e1 : (32 * t + c) / 32 = t := by omega
        have e2 : (32 * t + c) % 32 = c := by omega
        obtain ⟨j, hj, hs, hk⟩ := hB.2.2.2.2 (32 * t + c) (by omega) (by rw [e1]; omega) (by rw [e1, e2]; exact ha)
        rw [e1, e2] at hs
        have hju : j < upk κ (N - 1) k := by
          rcases hk with hk | hk
          · omega
          · apply Classical.byContradiction
            intro hge
            by_cases he : upk κ (N - 1) k = j
            · rw [he] at ht; omega
            · have := hB.2.2.2.1 (upk κ (N - 1) k) j (by omega) (by omega) hj
              omega
        have := bt_no hB hng k j n hju (by omega)
        rw [hs, hr2] at this
        cases this
theorem bt_up (hB : BT g m a N pb S κ) (hg : gl g z (S (N - 1)) = true) : ∀ k, (∀ k', k' < k → upk κ (N - 1) k' ≠ 0) → Rch g m z k (S (upk κ (N - 1) k)) = true
  | 0, _ => by rw [Rch, upk]; exact hg
  | k + 1, h => by
    have ih := bt_up hB hg k (fun k' hk' => h k' (by omega))
    have h0 := h k (by omega)
    obtain ⟨k1, k2, k3, k4⟩ := hB.2.2.1 _ (show 1 ≤ upk κ (N - 1) k by omega) (up_le2 hB k).1
    refine Rch_succ.mpr ⟨κ (upk κ (N - 1) k) % 32, Nat.mod_lt _ (by decide), ?_, ?_⟩
    · rw [upk, if_neg h0]; exact k3
    · rw [upk, if_neg h0, ← k4]; exact ih
theorem bt_dst (hB : BT g m a N pb S κ) (hN : N ≤ 4096) (hng : ∀ j, j < N - 1 → gl g z (S j) = false) (hg : gl g z (S (N - 1)) = true) (k : Nat) (hk : ∀ k', k' < k → upk κ (N - 1) k' ≠ 0) : dst g m z (S (upk κ (N - 1) k)) = k := by
  have hle : k ≤ N := by
    have : ∀ j, j ≤ k → upk κ (N - 1) j + j ≤ N - 1 := by
      intro j
      induction j with
      | zero => intro _; rw [upk]; omega
      | succ j ih =>
        intro hj
        have := ih (by omega)
        have := up_dec2 hB j (hk j (by omega))
        omega
    have := this k (Nat.le_refl _)
    omega
  symm
  unfold dst
  refine lst_eq (by unfold FARN; omega) (fun _ => bt_up hB hg k hk) (fun n hn => ?_)
  cases k with
  | zero => omega
  | succ k =>
    have := up_dec2 hB k (hk k (by omega))
    exact bt_no hB hng k _ n this (by omega)
/-- the first going of the model's way is the tree's -/
theorem bt_gj (hB : BT g m a N pb S κ) (hN : N ≤ 4096) (hng : ∀ j, j < N - 1 → gl g z (S j) = false) (hg : gl g z (S (N - 1)) = true) (k : Nat) (hk : ∀ k', k' < k + 1 → upk κ (N - 1) k' ≠ 0) : gj g m z (S (upk κ (N - 1) (k + 1))) = κ (upk κ (N - 1) k) % 32 ∧ tgt (S (upk κ (N - 1) (k + 1))) (κ (upk κ (N - 1) k) % 32) = S (upk κ (N - 1) k) := by
  have h0 := hk k (by omega)
  obtain ⟨k1, k2, k3, k4⟩ := hB.2.2.1 _ (show 1 ≤ upk κ (N - 1) k by omega) (up_le2 hB k).1
  have eu : upk κ (N - 1) (k + 1) = κ (upk κ (N - 1) k) / 32 := by rw [upk, if_neg h0]
  have d1 := bt_dst hB hN hng hg (k + 1) hk
  have d0 := bt_dst hB hN hng hg k (fun k' hk' => hk k' (by omega))
  have hF : dst g m z (S (upk κ (N - 1) (k + 1))) < FARN := by
    rw [d1]
    have : ∀ j, j ≤ k + 1 → upk κ (N - 1) j + j ≤ N - 1 := by
      intro j
      induction j with
      | zero => intro _; rw [upk]; omega
      | succ j ih =>
        intro hj
        have := ih (by omega)
        have := up_dec2 hB j (hk j (by omega))
        omega
    have := this (k + 1) (Nat.le_refl _)
    unfold FARN; omega
  have ht : tgt (S (upk κ (N - 1) (k + 1))) (κ (upk κ (N - 1) k) % 32) = S (upk κ (N - 1) k) := by rw [eu, ← k4]
  refine ⟨?_, ht⟩
  have hff := gj_ff (g := g) (m := m) (z := z) (s := S (upk κ (N - 1) (k + 1))) (by rw [d1]; omega) hF
  obtain ⟨_, f2, f3, f4⟩ := ff_some hff
  have hb : κ (upk κ (N - 1) k) % 32 < 32 := Nat.mod_lt _ (by decide)
  have own : decide (fb g m (dst g m z) (S (upk κ (N - 1) (k + 1))) (κ (upk κ (N - 1) k) % 32) = dst g m z (S (upk κ (N - 1) (k + 1)))) = true := by
    rw [decide_eq_true_eq, fb_dst hF]
    exact ⟨by rw [eu]; exact k3, by rw [ht, d0, d1]⟩
  rcases Nat.lt_trichotomy (gj g m z (S (upk κ (N - 1) (k + 1)))) (κ (upk κ (N - 1) k) % 32) with c | c | c
  · exfalso
    rw [decide_eq_true_eq, fb_dst hF] at f3
    obtain ⟨ha, hd⟩ := f3
    generalize gj g m z (S (upk κ (N - 1) (k + 1))) = x at ha hd c
    have e1 : (32 * upk κ (N - 1) (k + 1) + x) / 32 = upk κ (N - 1) (k + 1) := by omega
    have e2 : (32 * upk κ (N - 1) (k + 1) + x) % 32 = x := by omega
    have hlt : 32 * upk κ (N - 1) (k + 1) + x < κ (upk κ (N - 1) k) := by rw [eu]; omega
    obtain ⟨j, hj, hs, hkj⟩ := hB.2.2.2.2 (32 * upk κ (N - 1) (k + 1) + x) (by omega) (by rw [e1]; exact (up_le2 hB (k + 1)).1) (by rw [e1, e2]; exact ha)
    rw [e1, e2] at hs
    have hju : j < upk κ (N - 1) k := by
      rcases hkj with hkj | hkj
      · omega
      · apply Classical.byContradiction
        intro hge
        by_cases he : upk κ (N - 1) k = j
        · rw [he] at hlt; omega
        · have := hB.2.2.2.1 (upk κ (N - 1) k) j (by omega) (by omega) hj
          omega
    have hno := bt_no hB hng k j k hju (Nat.le_refl _)
    rw [hs] at hno
    rw [d1] at hd
    have hdk : dst g m z (tgt (S (upk κ (N - 1) (k + 1))) x) = k := by omega
    have hlk : dst g m z (tgt (S (upk κ (N - 1) (k + 1))) x) < FARN := by rw [hdk]; rw [d1] at hF; omega
    have := (lst_lt hlk).1
    have this : Rch g m z (dst g m z (tgt (S (upk κ (N - 1) (k + 1))) x)) (tgt (S (upk κ (N - 1) (k + 1))) x) = true := this
    rw [hdk, hno] at this
    cases this
  · exact c
  · have := f4 _ (by omega) c
    rw [own] at this
    cases this
theorem bt_pth (hB : BT g m a N pb S κ) (hN : N ≤ 4096) (hng : ∀ j, j < N - 1 → gl g z (S j) = false) (hg : gl g z (S (N - 1)) = true) : ∀ n k, n ≤ k → (∀ k', k' < k → upk κ (N - 1) k' ≠ 0) → pth g m z n (S (upk κ (N - 1) k)) = S (upk κ (N - 1) (k - n))
  | 0, k, _, _ => rfl
  | n + 1, 0, h, _ => by omega
  | n + 1, k + 1, h, hk => by
    obtain ⟨e1, e2⟩ := bt_gj hB hN hng hg k hk
    rw [pth, e1, e2, bt_pth hB hN hng hg n k (by omega) (fun k' hk' => hk k' (by omega)), show k + 1 - (n + 1) = k - n by omega]
/-- the way as the model tells it -/
theorem bt_gAt (hB : BT g m a N pb S κ) (hN : N ≤ 4096) (hng : ∀ j, j < N - 1 → gl g z (S j) = false) (hg : gl g z (S (N - 1)) = true) {L : Nat} (hL : upk κ (N - 1) L = 0) (hk : ∀ k', k' < L → upk κ (N - 1) k' ≠ 0) : dst g m z a = L ∧ ∀ n, n < L → gAt g m z a n = nI (deed (κ (upk κ (N - 1) (L - 1 - n)) % 32)) := by
  have hS : S (upk κ (N - 1) L) = a := by rw [hL]; exact hB.1.1
  have hd := bt_dst hB hN hng hg L hk
  rw [hS] at hd
  refine ⟨hd, fun n hn => ?_⟩
  have hle : L ≤ N := by
    have : ∀ j, j ≤ L → upk κ (N - 1) j + j ≤ N - 1 := by
      intro j
      induction j with
      | zero => intro _; rw [upk]; omega
      | succ j ih =>
        intro hj
        have := ih (by omega)
        have := up_dec2 hB j (hk j (by omega))
        omega
    have := this L (Nat.le_refl _)
    omega
  unfold gAt
  rw [hd, if_pos ⟨by unfold FARN; omega, hn⟩]
  have hp := bt_pth hB hN hng hg n L (by omega) hk
  rw [hS] at hp
  rw [hp]
  obtain ⟨k, hk2⟩ : ∃ k, L - n = k + 1 := ⟨L - n - 1, by omega⟩
  rw [hk2, (bt_gj hB hN hng hg k (fun k' hk' => hk k' (by omega))).1, show L - 1 - n = k by omega]
/-- where none is a goal, none comes to one -/
theorem bt_far {P : Nat → Prop} (hc : ∀ s, P s → ∀ j, j < 32 → avl g m s j = true → P (tgt s j)) (hng : ∀ s, P s → gl g z s = false) : ∀ n s, P s → Rch g m z n s = false
  | 0, s, h => hng s h
  | n + 1, s, h => by
    cases hr : Rch g m z (n + 1) s with
    | false => rfl
    | true =>
      obtain ⟨c, hc2, ha, hr2⟩ := Rch_succ.mp hr
      rw [bt_far hc hng n _ (hc s h c hc2 ha)] at hr2
      cases hr2
theorem up_end (hB : BT g m a N pb S κ) : ∃ L, upk κ (N - 1) L = 0 ∧ (∀ k', k' < L → upk κ (N - 1) k' ≠ 0) ∧ L ≤ N - 1 := by
  have key : ∀ f k, upk κ (N - 1) k ≤ f → (∀ k', k' < k → upk κ (N - 1) k' ≠ 0) → k + upk κ (N - 1) k ≤ N - 1 → ∃ L, upk κ (N - 1) L = 0 ∧ (∀ k', k' < L → upk κ (N - 1) k' ≠ 0) ∧ L ≤ N - 1 := by
    intro f
    induction f with
    | zero =>
      intro k h1 h2 h3
      exact ⟨k, by omega, h2, by omega⟩
    | succ f ih =>
      intro k h1 h2 h3
      by_cases c : upk κ (N - 1) k = 0
      · exact ⟨k, c, h2, by omega⟩
      · have := up_dec2 hB k c
        exact ih (k + 1) (by omega) (fun k' hk' => by
          by_cases e : k' = k
          · rw [e]; exact c
          · exact h2 k' (by omega)) (by omega)
  exact key (N - 1) 0 (Nat.le_refl _) (fun k' hk' => by omega) (by rw [upk]; omega)
end
