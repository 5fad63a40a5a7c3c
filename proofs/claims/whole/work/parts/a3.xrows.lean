/-! THE CLASS: rows, one going more -/
section
variable {i i' : Nat → Nat → Int32} {l l' : Nat → Nat → Int64} {q q' : Nat → Nat → Option Nat} {K K' : List (Nat × Nat)} {r m v v' : Nat} {g h : Nat → Nat} {ρ : Nat → Nat → Nat} {W W' : Nat → Nat}
theorem lN_p (a b : Nat) : lN a + lN b = lN (a + b) := (Int64.ofNat_add a b).symm
theorem in101 {c n t : Nat} (hk : kK K c = 101) (hl : lK K c = n) (hn : n ≤ 4096) (ht : t < n) (i1 : Nat → Nat → Int32) (l1 : Nat → Nat → Int64) (q1 : Nat → Nat → Option Nat) : (Nat.beq (am_kd (i1, l1, q1, kX K) c) 101 && am_in (nI t) (am_ln (i1, l1, q1, kX K) c)) = true := by
  rw [show am_kd (i1, l1, q1, kX K) c = 101 from hk, show am_ln (i1, l1, q1, kX K) c = n from hl, in16 ht (by omega)]; rfl
theorem in100 {c n t : Nat} (hk : kK K c = 100) (hl : lK K c = n) (hn : n ≤ 4096) (ht : t < n) (i1 : Nat → Nat → Int32) (l1 : Nat → Nat → Int64) (q1 : Nat → Nat → Option Nat) : (Nat.beq (am_kd (i1, l1, q1, kX K) c) 100 && am_in (nI t) (am_ln (i1, l1, q1, kX K) c)) = true := by
  rw [show am_kd (i1, l1, q1, kX K) c = 100 from hk, show am_ln (i1, l1, q1, kX K) c = n from hl, in16 ht (by omega)]; rfl
theorem bl101 {c : Nat} (hk : kK K c = 101) (i1 : Nat → Nat → Int32) (l1 : Nat → Nat → Int64) (q1 : Nat → Nat → Option Nat) : (Nat.ble 100 (am_kd (i1, l1, q1, kX K) c) && Nat.ble (am_kd (i1, l1, q1, kX K) c) 105) = true := by
  rw [show am_kd (i1, l1, q1, kX K) c = 101 from hk]; rfl
theorem bl100 {c : Nat} (hk : kK K c = 100) (i1 : Nat → Nat → Int32) (l1 : Nat → Nat → Int64) (q1 : Nat → Nat → Option Nat) : (Nat.ble 100 (am_kd (i1, l1, q1, kX K) c) && Nat.ble (am_kd (i1, l1, q1, kX K) c) 105) = true := by
  rw [show am_kd (i1, l1, q1, kX K) c = 100 from hk]; rfl
theorem y_add (d : Nat) {w4 w6 n t x y c : Nat} (q2 : rX q 30 2 = some w4) (q4 : rX q 30 4 = some w6) (k4 : kK K w4 = 101) (k6 : kK K w6 = 100) (l4 : lK K w4 = n) (l6 : lK K w6 = n) (hn : n ≤ 4096) (ht : t < n) (hy : l w4 t = lN y) (hyb : y < 2 ^ 62) (hc : i 30 6 = nI c) (hcb : c ≤ n) (hcn : y = 0 → c < n) (h30 : w6 ≠ 30) : am_cl (d + 1) mRows_add [.ref 30, .int (nI t), .long (lN x)] (i, l, rX q, kX K) = some (none, ((if y = 0 then am_u2 (am_u2 i w6 c (nI t)) 30 6 (nI (c + 1)) else i), am_u2 l w4 t (lN (y + x)), rX q, kX K)) := by
  have fin : ∀ (i1 : Nat → Nat → Int32), am_Ex d mRows_add 57 [.val (.ref 30), .val (.int (nI t)), .val (.long (lN x)), .second] [] (i1, l, rX q, kX K) = some (none, (i1, am_u2 l w4 t (lN (y + x)), rX q, kX K)) := fun i1 => by
    rw [b_Rows_add_57, q2]
    dsimp only
    rw [in101 k4 l4 hn ht, cond_true, cond_true, nI_clamp (by omega), hy, lN_p]
  rw [c_Rows_add, b_Rows_add_0, decide_eq_false (show ¬ nI t < 0 from by
    show ¬ nI t < nI 0
    rw [q_lt (by omega) (by omega)]; omega), cond_false, q2]
  dsimp only
  rw [bl101 k4, cond_true, decide_eq_true (show nI t < Int32.ofNat (am_ln (i, l, rX q, kX K) w4) from by
    rw [show am_ln (i, l, rX q, kX K) w4 = n from l4]
    show nI t < nI n
    rw [q_lt (by omega) (by omega)]; exact ht), cond_true, in101 k4 l4 hn ht, cond_true, nI_clamp (by omega), hy, decide_not, lcmp0 (by omega)]
  by_cases c0 : y = 0
  · rw [decide_eq_true c0, show (!true) = false from rfl, cond_false, q4]
    dsimp only
    rw [bl100 k6, cond_true, hc, decide_eq_false (show ¬ Int32.ofNat (am_ln (i, l, rX q, kX K) w6) ≤ nI c from by
      rw [show am_ln (i, l, rX q, kX K) w6 = n from l6]
      show ¬ nI n ≤ nI c
      have := hcn c0
      rw [q_le (by omega) (by omega)]; omega), cond_false, in100 k6 l6 hn (hcn c0), cond_true, nI_clamp (by omega), if_pos c0]
    have e : am_u2 i w6 c (nI t) 30 6 = nI c := by
      unfold am_u2; rw [if_neg (fun z => h30 z.symm)]; exact hc
    rw [e, show nI c + (1 : Int32) = nI (c + 1) from nI_add c 1]
    exact fin _
  · rw [decide_eq_false c0, show (!false) = true from rfl, cond_true, if_neg c0]
    exact fin _
/-- within one going more -/
def GOs (g : Nat → Nat) (W : Nat → Nat) (w N : Nat → Nat) (M M' : List Nat) (n k : Nat) (i : Nat → Nat → Int32) (l : Nat → Nat → Int64) : Prop := i 30 5 = nI M.length ∧ (∀ x, x < M.length → i (W 5) x = nI (M.getD x 0)) ∧ (i 30 6 = nI M'.length ∧ M'.length ≤ n) ∧ (∀ a b, a < M'.length → b < M'.length → M'.getD a 0 = M'.getD b 0 → a = b) ∧ (∀ x, x < M'.length → i (W 6) x = nI (M'.getD x 0)) ∧ (∀ t, t ∈ M' ↔ N t ≠ 0) ∧ (∀ t, t ∈ M' → VS g t ∧ t < 4096) ∧ (∀ t, t < n → l (W 4) t = lN (N t)) ∧ ∀ t, t < n → l (W 3) t = lN (if inK M k t = true then 0 else w t)
theorem GOs_eq {w N N' : Nat → Nat} {M M' : List Nat} {n k : Nat} (e : ∀ t, N' t = N t) (h : GOs g W w N M M' n k i l) : GOs g W w N' M M' n k i l := by
  have : N' = N := funext e
  rw [this]; exact h
theorem GOs_add {w N : Nat → Nat} {M M' : List Nat} {n k t x : Nat} (h2 : g 2 ≤ 4) (hn : 8 ^ g 2 ≤ n) (hO : WO W) (hx : x ≠ 0) (hv : VS g t) (ht : t < 4096) (h : GOs g W w N M M' n k i l) : ∃ M'', GOs g W w (fun s => N s + if t = s then x else 0) M M'' n k (if N t = 0 then am_u2 (am_u2 i (W 6) M'.length (nI t)) 30 6 (nI (M'.length + 1)) else i) (am_u2 l (W 4) t (lN (N t + x))) ∧ (N t = 0 → M'.length < n) := by
  obtain ⟨h1, h3, ⟨h4, h4'⟩, h5, h6, h7, h8, h9, h10⟩ := h
  have htn : t < n := Nat.lt_of_lt_of_le (VS_lt h2 ht hv) hn
  have ne : ∀ a b, a < 10 → b < 10 → a ≠ b → W a ≠ W b := fun a b ha hb hab z => hab (hO.2 a b ha hb z)
  have n30 : ∀ a, a < 10 → W a ≠ 30 := fun a ha z => by
    have := hO.1 a ha
    unfold WDc at this
    omega
  have hl4 : ∀ s, s < n → am_u2 l (W 4) t (lN (N t + x)) (W 4) s = lN (N s + if t = s then x else 0) := fun s hs => by
    unfold am_u2
    rw [if_pos rfl]
    by_cases c : s = t
    · rw [if_pos c, if_pos c.symm, c]
    · rw [if_neg c, if_neg (fun z => c z.symm), h9 s hs]; rfl
  have hl3 : ∀ s, s < n → am_u2 l (W 4) t (lN (N t + x)) (W 3) s = lN (if inK M k s = true then 0 else w s) := fun s hs => by
    unfold am_u2
    rw [if_neg (ne 3 4 (by decide) (by decide) (by decide))]
    exact h10 s hs
  by_cases c0 : N t = 0
  · have htM : t ∉ M' := fun z => (h7 t).mp z c0
    have hlen : M'.length < n := nd_len h5 (fun y hy => Nat.lt_of_lt_of_le (VS_lt h2 (h8 y hy).2 (h8 y hy).1) hn) htn htM
    refine ⟨M' ++ [t], ⟨?_, fun y hy => ?_, ⟨?_, ?_⟩, fun a b ha hb e => ?_, fun y hy => ?_, fun s => ?_, fun s hs => ?_, hl4, hl3⟩, fun _ => hlen⟩
    · rw [if_pos c0]
      unfold am_u2
      rw [if_pos rfl, if_neg (by decide), if_neg (fun z => n30 6 (by decide) z.symm)]
      exact h1
    · rw [if_pos c0]
      unfold am_u2
      rw [if_neg (n30 5 (by decide)), if_neg (ne 5 6 (by decide) (by decide) (by decide))]
      exact h3 y hy
    · rw [if_pos c0]
      unfold am_u2
      rw [if_pos rfl, if_pos rfl, List.length_append]
      rfl
    · rw [List.length_append]; exact hlen
    · rw [List.length_append] at ha hb
      have ha : a < M'.length + 1 := ha
      have hb : b < M'.length + 1 := hb
      rw [getD_app, getD_app] at e
      by_cases ca : a = M'.length
      · by_cases cb : b = M'.length
        · omega
        · rw [if_pos ca, if_neg cb] at e
          exact absurd (mem_getD.mpr ⟨b, by omega, e.symm⟩) htM
      · by_cases cb : b = M'.length
        · rw [if_neg ca, if_pos cb] at e
          exact absurd (mem_getD.mpr ⟨a, by omega, e⟩) htM
        · rw [if_neg ca, if_neg cb] at e
          exact h5 a b (by omega) (by omega) e
    · rw [List.length_append] at hy
      have hy : y < M'.length + 1 := hy
      rw [if_pos c0, getD_app]
      unfold am_u2
      rw [if_neg (n30 6 (by decide)), if_pos rfl]
      by_cases c : y = M'.length
      · rw [if_pos c, if_pos c]
      · rw [if_neg c, if_neg c]; exact h6 y (by omega)
    · rw [List.mem_append, List.mem_singleton, h7 s]
      dsimp only
      by_cases c : s = t
      · rw [if_pos c.symm]
        exact ⟨fun _ => by omega, fun _ => Or.inr c⟩
      · rw [if_neg (fun z => c z.symm)]
        exact ⟨fun z => by rcases z with z | z; (· omega); (· exact absurd z c), fun z => Or.inl (by omega)⟩
    · rcases List.mem_append.mp hs with z | z
      · exact h8 s z
      · rw [List.mem_singleton.mp z]; exact ⟨hv, ht⟩
  · refine ⟨M', ⟨?_, fun y hy => ?_, ⟨?_, h4'⟩, h5, fun y hy => ?_, fun s => ?_, h8, hl4, hl3⟩, fun z => absurd z c0⟩
    · rw [if_neg c0]; exact h1
    · rw [if_neg c0]; exact h3 y hy
    · rw [if_neg c0]; exact h4
    · rw [if_neg c0]; exact h6 y hy
    · rw [h7 s]
      dsimp only
      by_cases c : s = t
      · rw [if_pos c.symm, c]; omega
      · rw [if_neg (fun z => c z.symm)]; omega
end
