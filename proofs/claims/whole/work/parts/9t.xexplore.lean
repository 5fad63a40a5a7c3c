/-! THE CLASS: a search -/
section
variable {i i' : Nat → Nat → Int32} {l l' : Nat → Nat → Int64} {q q' : Nat → Nat → Option Nat} {K K' : List (Nat × Nat)} {r m : Nat} {g : Nat → Nat} {ρ : Nat → Nat → Nat}
/-- what a search has found, and how -/
def SX (g : Nat → Nat) (mv a cm : Nat) (L : List Nat) (κ : Nat → Nat) (pb : Nat) (i : Nat → Nat → Int32) : Prop := BT g mv a L.length pb (fun k => L.getD k 0) κ ∧ (∀ x, x ∈ L → VS g x ∧ x < 4096) ∧ i cm a = -nI 1 ∧ ∀ j, 1 ≤ j → j < L.length → i cm (L.getD j 0) = nI (L.getD (κ j / 32) 0 + 1 + deed (κ j % 32) * 8192)
theorem deed_lt {j : Nat} (hj : j < 32) : deed j ≤ 37 := by
  have : ∀ j, j < 32 → deed j ≤ 37 := by decide
  exact this j hj
theorem s_Goings_deedOf (d : Nat) {j : Nat} (hj : j < 32) (s : aM) : am_cl (d + 1) mGoings_deedOf [.int (nI j)] s = some (some (.int (nI (deed j))), s) := by
  obtain ⟨i, l, q, K⟩ := s
  have : ∀ j, j < 32 → ((10 : Int32) * (nI j >>> ((3 : Int32) &&& 31))) + (nI j &&& 7) = nI (deed j) := by decide
  rw [c_Goings_deedOf, b_Goings_deedOf_0, this j hj]
theorem s_Goings_gone (d : Nat) {s j : Nat} (hs : s < 4096) (hj : j < 32) (st : aM) : am_cl (d + 2) mGoings_gone [.int (nI s), .int (nI j)] st = some (some (.int (nI (tgt s j))), st) := by
  obtain ⟨i, l, q, K⟩ := st
  have h1 : ∀ j, j < 32 → nI j >>> ((3 : Int32) &&& 31) = nI (j / 8) := by decide
  have h2 : ∀ j, j < 32 → nI j &&& (7 : Int32) = nI (j % 8) := by decide
  rw [c_Goings_gone, b_Goings_gone_0, h1 j hj, h2 j hj, s_X_moved' d hs (by omega) (Nat.mod_lt _ (by decide)), am_bd_some, q_app, b_Goings_gone_11]
  rfl
def mvI (m : Nat) (x : Int32) : Prop := ∀ j, j < 32 → x.toBitVec.getLsbD j = m.testBit (j / 8)
theorem s_Goings_bitsOf (d : Nat) {m : Nat} (hm : m < 16) (st : aM) : ∃ x, am_cl (d + 2) mGoings_bitsOf [.int (nI m)] st = some (some (.int x), st) ∧ mvI m x := by
  obtain ⟨i, l, q, K⟩ := st
  rw [c_Goings_bitsOf, b_Goings_bitsOf_0]
  refine am_loop (d := d + 1) (y := mGoings_bitsOf) (pc := 4) (fun k ls s => ∃ x, ls = [.val (.int (nI m)), .val (.int x), .val (.int (nI k))] ∧ s = (i, l, q, K) ∧ ∀ j, j < 32 → x.toBitVec.getLsbD j = (decide (j / 8 < k) && m.testBit (j / 8))) 4 (fun rs => ∃ x, rs = some (some (.int x), (i, l, q, K)) ∧ mvI m x) (fun k ls s hk hI => ?_) (fun ls s hI => ?_) ⟨0, rfl, rfl, fun j _ => by
    rw [decide_eq_false (Nat.not_lt_zero _), Bool.false_and]
    show (BitVec.ofNat 32 0).getLsbD j = false
    simp⟩
  · obtain ⟨x, e1, e2, hx⟩ := hI
    subst e1; subst e2
    have hh := s_X_hasBit' d (a := m) (k := k) (by omega) (by omega) (i, l, q, K)
    have hsh : (255 : Int32) <<< (((8 : Int32) * nI k) &&& 31) = nI (255 * 2 ^ (8 * k)) := by
      have : ∀ k, k < 4 → (255 : Int32) <<< (((8 : Int32) * nI k) &&& 31) = nI (255 * 2 ^ (8 * k)) := by decide
      exact this k hk
    have hsl : 255 * 2 ^ (8 * k) < 4294967296 := by
      have h1 : 2 ^ (8 * k) ≤ 2 ^ 24 := Nat.pow_le_pow_right (by decide) (by omega)
      omega
    rw [b_Goings_bitsOf_4, decide_eq_false (show ¬ (4 : Int32) ≤ nI k from by
      show ¬ nI 4 ≤ nI k
      rw [q_le (by omega) (by omega)]; omega), cond_false, hh, am_bd_some, q_app, b_Goings_bitsOf_15]
    cases hb : m.testBit k with
    | false =>
      rw [if_neg (by decide), show decide (nI 0 = (0 : Int32)) = true from rfl, cond_true, b_Goings_bitsOf_30, show nI k + (1 : Int32) = nI (k + 1) from nI_add k 1]
      refine Go_in ⟨_, rfl, rfl, fun j hj => ?_⟩
      rw [Int32.toBitVec_or, BitVec.getLsbD_or, hx j hj]
      have z : (0 : Int32).toBitVec.getLsbD j = false := by
        show (BitVec.ofNat 32 0).getLsbD j = false
        simp
      rw [z, Bool.or_false]
      by_cases c1 : j / 8 < k
      · rw [decide_eq_true c1, decide_eq_true (show j / 8 < k + 1 by omega)]
      · by_cases c2 : j / 8 = k
        · rw [c2, hb]; simp
        · rw [decide_eq_false c1, decide_eq_false (show ¬ j / 8 < k + 1 by omega)]
    | true =>
      rw [if_pos rfl, show decide (nI 1 = (0 : Int32)) = false from rfl, cond_false, hsh, b_Goings_bitsOf_30, show nI k + (1 : Int32) = nI (k + 1) from nI_add k 1]
      refine Go_in ⟨_, rfl, rfl, fun j hj => ?_⟩
      rw [Int32.toBitVec_or, BitVec.getLsbD_or, hx j hj, x_nb hsl, Nat.testBit_mul_two_pow, show (255 : Nat) = 2 ^ 8 - 1 from rfl, Nat.testBit_two_pow_sub_one]
      by_cases c1 : j / 8 < k
      · rw [decide_eq_true c1, decide_eq_true (show j / 8 < k + 1 by omega), decide_eq_false (show ¬ 8 * k ≤ j by omega)]; simp
      · by_cases c2 : j / 8 = k
        · rw [decide_eq_false c1, decide_eq_true (show j / 8 < k + 1 by omega), decide_eq_true (show 8 * k ≤ j by omega), decide_eq_true (show j - 8 * k < 8 by omega), c2, hb]; simp
        · rw [decide_eq_false c1, decide_eq_false (show ¬ j / 8 < k + 1 by omega), decide_eq_false (show ¬ j - 8 * k < 8 by omega)]; simp
  · obtain ⟨x, e1, e2, hx⟩ := hI
    subst e1; subst e2
    rw [b_Goings_bitsOf_4, show decide ((4 : Int32) ≤ nI 4) = true from rfl, cond_true]
    exact ⟨x, rfl, fun j hj => by rw [hx j hj, decide_eq_true (show j / 8 < 4 by omega), Bool.true_and]⟩
theorem avl_mv {a x : Nat} {b y : Int32} {mv : Nat} (hE : EBt g a b) (hm : mvI mv y) {j : Nat} (hj : j < 32) : (b &&& y).toBitVec.getLsbD j = avl g mv a j := by
  rw [Int32.toBitVec_and, BitVec.getLsbD_and, hE j hj, hm j hj]
  unfold avl gBit
  have h15 : (15 : Nat).testBit (j / 8) = true := by
    have : ∀ k, k < 4 → (15 : Nat).testBit k = true := by decide
    exact this _ (by omega)
  by_cases c : j / 8 < g 2
  · cases hb : mv.testBit (j / 8) with
    | true => rw [if_pos ⟨c, h15⟩, if_pos ⟨c, rfl⟩, Bool.and_true]
    | false => rw [if_pos ⟨c, h15⟩, if_neg (fun z => by cases z.2)]; simp
  · rw [if_neg (fun z => c z.1), if_neg (fun z => c z.1)]; simp
theorem getD_app {L : List Nat} {x k : Nat} : (L ++ [x]).getD k 0 = if k = L.length then x else L.getD k 0 := by
  by_cases c : k < L.length
  · rw [if_neg (by omega)]
    rw [List.getD_eq_getElem?_getD, List.getD_eq_getElem?_getD, List.getElem?_append_left c]
  · by_cases c2 : k = L.length
    · rw [if_pos c2, c2]
      rw [List.getD_eq_getElem?_getD]
      simp
    · rw [if_neg c2, List.getD_eq_getElem?_getD, List.getD_eq_getElem?_getD, List.getElem?_eq_none (by rw [List.length_append]; simp; omega), List.getElem?_eq_none (by omega)]
theorem mem_getD {L : List Nat} {x : Nat} : x ∈ L ↔ ∃ k, k < L.length ∧ L.getD k 0 = x := by
  constructor
  · intro h
    obtain ⟨k, hk, he⟩ := List.mem_iff_getElem.mp h
    exact ⟨k, hk, by rw [List.getD_eq_getElem?_getD, List.getElem?_eq_getElem hk]; exact he⟩
  · intro ⟨k, hk, he⟩
    rw [List.getD_eq_getElem?_getD, List.getElem?_eq_getElem hk] at he
    rw [← he]
    exact List.getElem_mem hk
/-- one more key is gone through -/
theorem BT_step {a : Nat} {L : List Nat} {κ : Nat → Nat} {mv pb : Nat} (hB : BT g mv a L.length pb (fun k => L.getD k 0) κ) (hp : pb / 32 < L.length) (h : avl g mv (L.getD (pb / 32) 0) (pb % 32) = true → tgt (L.getD (pb / 32) 0) (pb % 32) ∈ L) : BT g mv a L.length (pb + 1) (fun k => L.getD k 0) κ := by
  unfold BT at hB ⊢
  dsimp only at hB ⊢
  obtain ⟨b1, b2, b3, b4, b5⟩ := hB
  refine ⟨b1, b2, fun j h1 h2 => ?_, b4, fun e he hl ha => ?_⟩
  · obtain ⟨c1, c2, c3, c4⟩ := b3 j h1 h2
    exact ⟨c1, by omega, c3, c4⟩
  · by_cases c : e < pb
    · exact b5 e c hl ha
    · have e1 : e = pb := by omega
      subst e1
      obtain ⟨j, hj, hs⟩ := mem_getD.mp (h ha)
      refine ⟨j, hj, hs, ?_⟩
      by_cases c0 : j = 0
      · exact Or.inl c0
      · exact Or.inr (by have := (b3 j (by omega) hj).2.1; omega)
/-- and one is found by it -/
theorem BT_add {a : Nat} {L : List Nat} {κ : Nat → Nat} {mv pb : Nat} (hB : BT g mv a L.length pb (fun k => L.getD k 0) κ) (hp : pb / 32 < L.length) (ha : avl g mv (L.getD (pb / 32) 0) (pb % 32) = true) (hx : tgt (L.getD (pb / 32) 0) (pb % 32) ∉ L) : BT g mv a (L ++ [tgt (L.getD (pb / 32) 0) (pb % 32)]).length (pb + 1) (fun k => (L ++ [tgt (L.getD (pb / 32) 0) (pb % 32)]).getD k 0) (ug κ L.length pb) := by
  unfold BT at hB ⊢
  dsimp only at hB ⊢
  obtain ⟨⟨b0, b01⟩, b2, b3, b4, b5⟩ := hB
  obtain ⟨x, hxe⟩ : ∃ x, tgt (L.getD (pb / 32) 0) (pb % 32) = x := ⟨_, rfl⟩
  rw [hxe] at hx ⊢
  have hlen : (L ++ [x]).length = L.length + 1 := by simp
  have hold : ∀ k, k < L.length → (L ++ [x]).getD k 0 = L.getD k 0 := fun k hk => by rw [getD_app, if_neg (by omega)]
  have hnew : (L ++ [x]).getD L.length 0 = x := by rw [getD_app, if_pos rfl]
  have kold : ∀ k, k < L.length → ug κ L.length pb k = κ k := fun k hk => by unfold ug; rw [if_neg (by omega)]
  have knew : ug κ L.length pb L.length = pb := by unfold ug; rw [if_pos rfl]
  rw [hlen]
  refine ⟨⟨by rw [hold 0 (by omega)]; exact b0, by omega⟩, fun j k hj hk he => ?_, fun j h1 h2 => ?_, fun j k h1 h2 h3 => ?_, fun e he hl hav => ?_⟩
  · by_cases c1 : j < L.length
    · by_cases c2 : k < L.length
      · rw [hold j c1, hold k c2] at he
        exact b2 j k c1 c2 he
      · have : k = L.length := by omega
        subst this
        rw [hold j c1, hnew] at he
        exact absurd (mem_getD.mpr ⟨j, c1, he⟩) hx
    · have : j = L.length := by omega
      subst this
      by_cases c2 : k < L.length
      · rw [hold k c2, hnew] at he
        exact absurd (mem_getD.mpr ⟨k, c2, he.symm⟩) hx
      · omega
  · by_cases c1 : j < L.length
    · obtain ⟨c1', c2', c3', c4'⟩ := b3 j h1 c1
      rw [kold j c1, hold j c1, hold _ (by omega)]
      exact ⟨c1', by omega, c3', c4'⟩
    · have : j = L.length := by omega
      subst this
      rw [knew, hnew, hold _ hp]
      exact ⟨hp, by omega, ha, hxe.symm⟩
  · by_cases c1 : k < L.length
    · rw [kold j (by omega), kold k c1]
      exact b4 j k h1 h2 c1
    · have : k = L.length := by omega
      subst this
      rw [kold j h2, knew]
      exact (b3 j h1 h2).2.1
  · by_cases c : e < pb
    · have hlt : e / 32 < L.length := by
        have : e / 32 ≤ pb / 32 := Nat.div_le_div_right (by omega)
        omega
      rw [hold _ hlt] at hav ⊢
      obtain ⟨j, hj, hs, hk⟩ := b5 e c hlt hav
      refine ⟨j, by omega, by rw [hold j hj]; exact hs, ?_⟩
      rcases hk with hk | hk
      · exact Or.inl hk
      · exact Or.inr (by rw [kold j hj]; exact hk)
    · have e1 : e = pb := by omega
      subst e1
      rw [hold _ hp]
      exact ⟨L.length, by omega, by rw [hnew]; exact hxe.symm, Or.inr (by rw [knew]; exact Nat.le_refl _)⟩
theorem nd_len {L : List Nat} {n x : Nat} (hd : ∀ j k, j < L.length → k < L.length → L.getD j 0 = L.getD k 0 → j = k) (hl : ∀ y, y ∈ L → y < n) (hx : x < n) (hxL : x ∉ L) : L.length < n := by
  have hnd : L.Nodup := by
    rw [List.nodup_iff_pairwise_ne, List.pairwise_iff_getElem]
    intro j k hj hk hjk he
    have := hd j k hj hk (by rw [List.getD_eq_getElem?_getD, List.getElem?_eq_getElem hj, List.getD_eq_getElem?_getD, List.getElem?_eq_getElem hk]; exact he)
    omega
  have hnd2 : (x :: L).Nodup := List.nodup_cons.mpr ⟨hxL, hnd⟩
  have := nodup_len n (x :: L) hnd2 (fun y hy => by
    rcases List.mem_cons.mp hy with h | h
    · rw [h]; exact hx
    · exact hl y h)
  rw [List.length_cons] at this
  omega
end
