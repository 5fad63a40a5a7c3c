/-! THE CLASS: the way that a search found -/
section
variable {i i' : Nat → Nat → Int32} {l l' : Nat → Nat → Int64} {q q' : Nat → Nat → Option Nat} {K K' : List (Nat × Nat)} {r m : Nat} {g : Nat → Nat} {ρ : Nat → Nat → Nat}
theorem ju13 {x : Nat} (hx : x < 2 ^ 31) : ju (nI x) (nI 13) = nI (x / 8192) := by
  have e2 : (ju (nI x) (nI 13)).toBitVec = (nI x).toBitVec >>> 13 := by
    unfold ju
    rw [show (Int32.toUInt32 (nI 13) &&& Int32.toUInt32 31) = UInt32.ofNat 13 from by decide]
    rfl
  apply Int32.toBitVec_inj.mp
  rw [e2]
  apply BitVec.eq_of_toNat_eq
  rw [BitVec.toNat_ushiftRight, Nat.shiftRight_eq_div_pow]
  show (BitVec.ofNat 32 x).toNat / 2 ^ 13 = (BitVec.ofNat 32 (x / 8192)).toNat
  rw [BitVec.toNat_ofNat, BitVec.toNat_ofNat, Nat.mod_eq_of_lt (by omega), Nat.mod_eq_of_lt (by omega)]
theorem sx_came {g : Nat → Nat} {mv a cm : Nat} {L : List Nat} {κ : Nat → Nat} {pb : Nat} (hX : SX g mv a cm L κ pb i) {t : Nat} (ht : t < L.length) : (t = 0 → i cm (L.getD t 0) = -nI 1) ∧ (t ≠ 0 → ∃ c, c = L.getD (κ t / 32) 0 + 1 + deed (κ t % 32) * 8192 ∧ i cm (L.getD t 0) = nI c ∧ c % 8192 = L.getD (κ t / 32) 0 + 1 ∧ c / 8192 = deed (κ t % 32) ∧ 0 < c ∧ c < 2 ^ 31) := by
  obtain ⟨hB, hx, hc, hk⟩ := hX
  constructor
  · intro h; subst h
    rw [show L.getD 0 0 = a from hB.1.1]; exact hc
  · intro h
    have hj := hk t (by omega) ht
    have hp := (hB.2.2.1 t (by omega) ht).1
    have h4 := (hx (L.getD (κ t / 32) 0) (mem_getD.mpr ⟨_, by omega, rfl⟩)).2
    have hd := deed_lt (j := κ t % 32) (by omega)
    exact ⟨_, rfl, hj, by omega, by omega, by omega, by omega⟩
theorem s_hasBefore (d : Nat) {mv a cm qu n : Nat} {L : List Nat} {κ : Nat → Nat} {pb : Nat} (hS : SC cm qu n q K) (hL : SL cm qu n L i) (hX : SX g mv a cm L κ pb i) {t : Nat} (ht : t < L.length) : am_cl (d + 1) mSearch_hasBefore [.ref 27, .int (nI (L.getD t 0))] (i, l, rX q, kX K) = some (some (.int (nI (if t = 0 then 0 else 1))), (i, l, rX q, kX K)) := by
  obtain ⟨⟨q1, q2⟩, ⟨w1, w2, w3⟩, ⟨k1, k2⟩, l1, l2, hn⟩ := id hS
  have q1' : rX q 27 1 = some cm := q1
  have hm := mem_getD.mpr ⟨t, ht, rfl⟩
  have hx4 := (hX.2.1 _ hm).2
  have hxn := hL.2.2.2.1 _ hm
  obtain ⟨h0, h1⟩ := sx_came hX ht
  rw [c_Search_hasBefore, b_Search_hasBefore_0, q1', decide_eq_false (show ¬ nI (L.getD t 0) < 0 from by
    show ¬ nI (L.getD t 0) < nI 0
    rw [q_lt (by omega) (by omega)]; omega), cond_false]
  dsimp only
  rw [show (Nat.ble 100 (am_kd (i, l, rX q, kX K) cm) && Nat.ble (am_kd (i, l, rX q, kX K) cm) 105) = true from by rw [show am_kd (i, l, rX q, kX K) cm = 100 from k1]; rfl, cond_true, decide_eq_false (show ¬ Int32.ofNat (am_ln (i, l, rX q, kX K) cm) ≤ nI (L.getD t 0) from by
    rw [show am_ln (i, l, rX q, kX K) cm = n from l1]
    show ¬ nI n ≤ _
    rw [q_le (by omega) (by omega)]; omega), cond_false, show (Nat.beq (am_kd (i, l, rX q, kX K) cm) 100 && am_in (nI (L.getD t 0)) (am_ln (i, l, rX q, kX K) cm)) = true from by
      rw [show am_kd (i, l, rX q, kX K) cm = 100 from k1, show am_ln (i, l, rX q, kX K) cm = n from l1, in16 hxn (by omega)]; rfl, cond_true, nI_clamp (by omega)]
  by_cases c : t = 0
  · rw [h0 c, show decide (-nI 1 ≤ (0 : Int32)) = true from rfl, cond_true, b_Search_hasBefore_26, b_Search_hasBefore_27, if_pos c]; rfl
  · obtain ⟨x, _, hx, _, _, hx0, hx1⟩ := h1 c
    rw [hx, decide_eq_false (show ¬ nI x ≤ (0 : Int32) from by
      show ¬ nI x ≤ nI 0
      rw [q_le (by omega) (by omega)]; omega), cond_false, b_Search_hasBefore_27, if_neg c]; rfl
theorem s_before (d : Nat) {mv a cm qu n : Nat} {L : List Nat} {κ : Nat → Nat} {pb : Nat} (hS : SC cm qu n q K) (hL : SL cm qu n L i) (hX : SX g mv a cm L κ pb i) {t : Nat} (ht : t < L.length) (h0 : t ≠ 0) : am_cl (d + 2) mSearch_before [.ref 27, .int (nI (L.getD t 0))] (i, l, rX q, kX K) = some (some (.int (nI (L.getD (κ t / 32) 0))), (i, l, rX q, kX K)) := by
  have e := s_hasBefore (l := l) d hS hL hX ht
  rw [if_neg h0] at e
  obtain ⟨⟨q1, q2⟩, ⟨w1, w2, w3⟩, ⟨k1, k2⟩, l1, l2, hn⟩ := id hS
  have q1' : rX q 27 1 = some cm := q1
  have hm := mem_getD.mpr ⟨t, ht, rfl⟩
  have hx4 := (hX.2.1 _ hm).2
  have hxn := hL.2.2.2.1 _ hm
  obtain ⟨x, _, hx, hx2, _, hx0, hx1⟩ := (sx_came hX ht).2 h0
  rw [c_Search_before, b_Search_before_0, e, am_bd_some, q_app, b_Search_before_5, show decide (nI 1 = (0 : Int32)) = false from rfl, cond_false, q1']
  dsimp only
  rw [show (Nat.beq (am_kd (i, l, rX q, kX K) cm) 100 && am_in (nI (L.getD t 0)) (am_ln (i, l, rX q, kX K) cm)) = true from by
      rw [show am_kd (i, l, rX q, kX K) cm = 100 from k1, show am_ln (i, l, rX q, kX K) cm = n from l1, in16 hxn (by omega)]; rfl, cond_true, nI_clamp (by omega), hx, b_Search_before_24, show (8191 : Int32) = nI (2 ^ 13 - 1) from rfl, fa_mask, show x % 2 ^ 13 = L.getD (κ t / 32) 0 + 1 from hx2]
  rw [show nI (L.getD (κ t / 32) 0 + 1) - 1 = nI (L.getD (κ t / 32) 0) from by
    rw [← nI_add]; exact Int32.add_sub_cancel _ _]
/-- how many steps the way has -/
theorem s_rowLength (d : Nat) {mv a cm qu n : Nat} {L : List Nat} {κ : Nat → Nat} {pb : Nat} (hS : SC cm qu n q K) (hL : SL cm qu n L i) (hX : SX g mv a cm L κ pb i) (h5 : i 27 5 = nI (L.getD (L.length - 1) 0)) {T : Nat} (hT : upk κ (L.length - 1) T = 0) (hk : ∀ k', k' < T → upk κ (L.length - 1) k' ≠ 0) (hTN : T ≤ L.length - 1) : am_cl (d + 3) mSearch_rowLength [.ref 27] (i, l, rX q, kX K) = some (some (.int (nI T)), (i, l, rX q, kX K)) := by
  have hN := hX.1.1.2
  have hnn := hS.2.2.2.2.2
  have hLn := hL.2.1
  have main : ∀ f c, c + f = T → am_Ex (d + 2) mSearch_rowLength 7 [.val (.ref 27), .val (.int (nI c)), .val (.int (nI (L.getD (upk κ (L.length - 1) c) 0)))] [] (i, l, rX q, kX K) = some (some (.int (nI T)), (i, l, rX q, kX K)) := by
    intro f
    induction f with
    | zero =>
      intro c hc
      have hc : c = T := by omega
      subst hc
      have e := s_hasBefore (l := l) (d + 1) hS hL hX (t := upk κ (L.length - 1) c) (up_le2 hX.1 c).1
      rw [if_pos hT] at e
      rw [b_Search_rowLength_7, hL.1, decide_eq_false (show ¬ nI L.length ≤ nI c from by rw [q_le (by omega) (by omega)]; omega), cond_false, e, am_bd_some, q_app, b_Search_rowLength_20, show decide (nI 0 = (0 : Int32)) = true from rfl, cond_true, b_Search_rowLength_35]
    | succ f ih =>
      intro c hc
      have hne := hk c (by omega)
      have hlt := (up_le2 hX.1 c).1
      have e := s_hasBefore (l := l) (d + 1) hS hL hX (t := upk κ (L.length - 1) c) hlt
      rw [if_neg hne] at e
      have e2 := s_before (l := l) d hS hL hX (t := upk κ (L.length - 1) c) hlt hne
      rw [b_Search_rowLength_7, hL.1, decide_eq_false (show ¬ nI L.length ≤ nI c from by rw [q_le (by omega) (by omega)]; omega), cond_false, e, am_bd_some, q_app, b_Search_rowLength_20, show decide (nI 1 = (0 : Int32)) = false from rfl, cond_false, e2, am_bd_some, q_app, b_Search_rowLength_31, show nI c + (1 : Int32) = nI (c + 1) from nI_add c 1]
      have := ih (c + 1) (by omega)
      rw [upk, if_neg hne] at this
      exact this
  rw [c_Search_rowLength, b_Search_rowLength_0, h5]
  exact main T 0 (by omega)
/-- the going at a place of the way -/
theorem s_goingAt (d : Nat) {mv a cm qu n : Nat} {L : List Nat} {κ : Nat → Nat} {pb : Nat} (hS : SC cm qu n q K) (hL : SL cm qu n L i) (hX : SX g mv a cm L κ pb i) (h5 : i 27 5 = nI (L.getD (L.length - 1) 0)) {T : Nat} (hT : upk κ (L.length - 1) T = 0) (hk : ∀ k', k' < T → upk κ (L.length - 1) k' ≠ 0) (hTN : T ≤ L.length - 1) {x : Nat} (hx : x < T) : am_cl (d + 4) mSearch_goingAt [.ref 27, .int (nI x)] (i, l, rX q, kX K) = some (some (.int (nI (deed (κ (upk κ (L.length - 1) (T - 1 - x)) % 32)))), (i, l, rX q, kX K)) := by
  have hN := hX.1.1.2
  have hnn := hS.2.2.2.2.2
  have hLn := hL.2.1
  obtain ⟨⟨q1, q2⟩, ⟨w1, w2, w3⟩, ⟨k1, k2⟩, l1, l2, hn⟩ := id hS
  have q1' : rX q 27 1 = some cm := q1
  have main : ∀ f c, c + f = T - 1 - x → am_Ex (d + 3) mSearch_goingAt 12 [.val (.ref 27), .val (.int (nI x)), .val (.int (nI (L.getD (upk κ (L.length - 1) c) 0))), .val (.int (nI (T - 1 - c)))] [] (i, l, rX q, kX K) = some (some (.int (nI (deed (κ (upk κ (L.length - 1) (T - 1 - x)) % 32)))), (i, l, rX q, kX K)) := by
    intro f
    induction f with
    | zero =>
      intro c hc
      have hc : c = T - 1 - x := by omega
      subst hc
      have hne := hk (T - 1 - x) (by omega)
      have hlt := (up_le2 hX.1 (T - 1 - x)).1
      have e := s_hasBefore (l := l) (d + 2) hS hL hX hlt
      rw [if_neg hne] at e
      have hm := mem_getD.mpr ⟨_, hlt, rfl⟩
      have hx4 := (hX.2.1 _ hm).2
      have hxn := hL.2.2.2.1 _ hm
      obtain ⟨y, _, hy, _, hy2, hy0, hy1⟩ := (sx_came hX hlt).2 hne
      rw [b_Search_goingAt_12, decide_eq_true (show nI (T - 1 - (T - 1 - x)) ≤ nI x from by rw [q_le (by omega) (by omega)]; omega), cond_true, e, am_bd_some, q_app, b_Search_goingAt_34, show decide (nI 1 = (0 : Int32)) = false from rfl, cond_false, q1']
      dsimp only
      rw [show (Nat.beq (am_kd (i, l, rX q, kX K) cm) 100 && am_in (nI (L.getD (upk κ (L.length - 1) (T - 1 - x)) 0)) (am_ln (i, l, rX q, kX K) cm)) = true from by
        rw [show am_kd (i, l, rX q, kX K) cm = 100 from k1, show am_ln (i, l, rX q, kX K) cm = n from l1, in16 hxn (by omega)]; rfl, cond_true, nI_clamp (by omega), hy, b_Search_goingAt_50]
      rw [show (Int32.toUInt32 (nI y) >>> (Int32.toUInt32 (13 : Int32) &&& Int32.toUInt32 31)).toInt32 = nI (y / 8192) from ju13 hy1, hy2]
    | succ f ih =>
      intro c hc
      have hne := hk c (by omega)
      have hlt := (up_le2 hX.1 c).1
      have e2 := s_before (l := l) (d + 1) hS hL hX (t := upk κ (L.length - 1) c) hlt hne
      rw [b_Search_goingAt_12, decide_eq_false (show ¬ nI (T - 1 - c) ≤ nI x from by rw [q_le (by omega) (by omega)]; omega), cond_false, e2, am_bd_some, q_app, b_Search_goingAt_22, b_Search_goingAt_26, show nI (T - 1 - c) + (-1 : Int32) = nI (T - 1 - (c + 1)) from by
        rw [show T - 1 - c = T - 1 - (c + 1) + 1 by omega, ← nI_add]
        show nI _ + nI 1 + -nI 1 = _
        rw [Int32.add_assoc, show nI 1 + -nI 1 = 0 from rfl, Int32.add_zero]]
      have := ih (c + 1) (by omega)
      rw [upk, if_neg hne] at this
      exact this
  have e0 := s_rowLength (l := l) d hS hL hX h5 hT hk hTN
  rw [c_Search_goingAt, b_Search_goingAt_0, e0, am_bd_some, q_app, b_Search_goingAt_9, h5, show nI T - (1 : Int32) = nI (T - 1 - 0) from by
    rw [show nI T = nI (T - 1 - 0) + 1 from by rw [show T = T - 1 - 0 + 1 by omega, ← nI_add]; rfl]
    exact Int32.add_sub_cancel _ _]
  exact main (T - 1 - x) 0 (by omega)
theorem s_placingAt (d : Nat) {mv a cm qu n : Nat} {L : List Nat} {κ : Nat → Nat} {pb : Nat} (hS : SC cm qu n q K) (hL : SL cm qu n L i) {t : Nat} (ht : t < L.length) : am_cl (d + 1) mSearch_placingAt [.ref 27, .int (nI t)] (i, l, rX q, kX K) = some (some (.int (nI (L.getD t 0))), (i, l, rX q, kX K)) := by
  obtain ⟨⟨q1, q2⟩, ⟨w1, w2, w3⟩, ⟨k1, k2⟩, l1, l2, hn⟩ := id hS
  have q2' : rX q 27 2 = some qu := q2
  have hLn := hL.2.1
  rw [c_Search_placingAt, b_Search_placingAt_0, q2', decide_eq_false (show ¬ nI t < 0 from by
    show ¬ nI t < nI 0
    rw [q_lt (by omega) (by omega)]; omega), cond_false, hL.1, decide_eq_false (show ¬ nI L.length ≤ nI t from by rw [q_le (by omega) (by omega)]; omega), cond_false]
  dsimp only
  rw [show (Nat.beq (am_kd (i, l, rX q, kX K) qu) 100 && am_in (nI t) (am_ln (i, l, rX q, kX K) qu)) = true from by
    rw [show am_kd (i, l, rX q, kX K) qu = 100 from k2, show am_ln (i, l, rX q, kX K) qu = n from l2, in16 (show t < n by omega) (by omega)]; rfl, cond_true, nI_clamp (by omega), b_Search_placingAt_22, hL.2.2.1 t ht]
end
