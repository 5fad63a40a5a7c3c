/-! THE CLASS: the tape is cut -/
section
variable {i i' : Nat → Nat → Int32} {l l' : Nat → Nat → Int64} {q q' : Nat → Nat → Option Nat} {K K' : List (Nat × Nat)} {B : Nat → Nat} {N : Nat}
theorem rn_uq {P : Nat → Bool} {k y : Nat} (h1 : k ≤ y) (h2 : y ≤ N) (h3 : ∀ x, k ≤ x → x < y → P x = true) (h4 : y < N → P y = false) : rn P N k = y := by
  obtain ⟨r1, r2, r3, r4⟩ := rn_is (P := P) (N := N) (k := k) (by omega)
  by_cases c : rn P N k < y
  · have := r4 (by omega)
    rw [h3 _ r1 c] at this; cases this
  · by_cases c2 : y < rn P N k
    · have := h4 (by omega)
      rw [r3 y h1 c2] at this; cases this
    · omega
theorem rn_s {P : Nat → Bool} {x : Nat} (hx : x < N) (h : P x = true) : rn P N (x + 1) = rn P N x := by
  obtain ⟨r1, r2, r3, r4⟩ := rn_is (P := P) (N := N) (k := x + 1) (by omega)
  exact (rn_uq (by omega) r2 (fun y a b => by
    by_cases c : y = x
    · rw [c]; exact h
    · exact r3 y (by omega) b) r4).symm
theorem rn_0 {P : Nat → Bool} {x : Nat} (hx : x ≤ N) (h : x < N → P x = false) : rn P N x = x := rn_uq (Nat.le_refl _) hx (fun y a b => by omega) h
/-- so far cut -/
def CX (B : Nat → Nat) (N m x : Nat) (i0 i : Nat → Nat → Int32) : Prop := BY B N i ∧ x ≤ N ∧ m ≤ x ∧ sk B N x = aj B N m ∧ i 1 5 = nI m ∧ i 1 1 = nI 0 ∧ (∀ j, j < m → i 3 j = nI (ct (kj B N j)) ∧ i 4 j = nI (aj B N j) ∧ aj B N j < N) ∧ ∀ c, c ≠ 1 → c ≠ 3 → c ≠ 4 → i c = i0 c
/-- all cut -/
def CK (B : Nat → Nat) (N M : Nat) (i0 i : Nat → Nat → Int32) : Prop := BY B N i ∧ M ≤ N ∧ aj B N M = N ∧ i 1 5 = nI (M + 1) ∧ i 1 1 = nI 0 ∧ (∀ j, j < M + 1 → i 3 j = nI (ct (kj B N j)) ∧ i 4 j = nI (aj B N j)) ∧ (∀ j, j < M → aj B N j < N) ∧ ∀ c, c ≠ 1 → c ≠ 3 → c ≠ 4 → i c = i0 c
theorem CX_add {m x y : Nat} {i0 : Nat → Nat → Int32} (h : CX B N m x i0 i) (hx : aj B N m = x) (hxN : x < N) (hy : y = te B N x) : CX B N (m + 1) y i0 (am_u2 (am_u2 (am_u2 i 3 m (nI (ct (kj B N m)))) 4 m (nI x)) 1 5 (nI (m + 1))) := by
  obtain ⟨⟨b1, b2, b3, b4⟩, h2, h3, h4, h5, h5', h6, h7⟩ := h
  obtain ⟨t1, t2, t3⟩ := te_le (B := B) (N := N) (a := x) (by omega)
  have t3 := t3 hxN
  refine ⟨⟨b1, ?_, fun k hk => ?_, b4⟩, by omega, by omega, ?_, ?_, ?_, fun j hj => ?_, fun c c1 c3 c4 => ?_⟩
  · unfold am_u2; rw [if_pos rfl, if_neg (by decide), if_neg (by decide), if_neg (by decide)]; exact b2
  · unfold am_u2; rw [if_neg (by decide), if_neg (by decide), if_neg (by decide)]; exact b3 k hk
  · rw [hy]
    show sk B N (te B N x) = sk B N (pj B N (m + 1))
    rw [pj]
    show _ = sk B N (te B N (aj B N m))
    rw [hx]
  · unfold am_u2; rw [if_pos rfl, if_pos rfl]
  · unfold am_u2; rw [if_pos rfl, if_neg (by decide), if_neg (by decide), if_neg (by decide)]; exact h5'
  · have e3 : am_u2 (am_u2 (am_u2 i 3 m (nI (ct (kj B N m)))) 4 m (nI x)) 1 5 (nI (m + 1)) 3 j = if j = m then nI (ct (kj B N m)) else i 3 j := by
      unfold am_u2; rw [if_neg (by decide), if_neg (by decide), if_pos rfl]
    have e4 : am_u2 (am_u2 (am_u2 i 3 m (nI (ct (kj B N m)))) 4 m (nI x)) 1 5 (nI (m + 1)) 4 j = if j = m then nI x else i 4 j := by
      simp [am_u2]
    rw [e3, e4]
    by_cases c : j = m
    · rw [if_pos c, if_pos c, c, hx]; exact ⟨rfl, rfl, hxN⟩
    · rw [if_neg c, if_neg c]; exact h6 j (by omega)
  · rw [← h7 c c1 c3 c4]
    funext t
    unfold am_u2; rw [if_neg c1, if_neg c4, if_neg c3]
theorem y_cut (d : Nat) {F : Nat} (hF : F ≤ 900) (hNF : N ≤ F) (h1 : i 1 1 = nI F) (hb : ∀ k, k < F → i 2 k = sb (B k)) (h256 : ∀ k, B k < 256) : ∃ i' M, am_cl (d + 3) mTape_cut [.ref 1, .int (nI N)] (i, l, rX q, kX K) = some (none, (i', l, rX q, kX K)) ∧ CK B N M i i' := by
  obtain ⟨i0, hi0⟩ : ∃ i0, am_u2 (am_u2 (am_u2 i 1 2 (nI N)) 1 1 (nI 0)) 1 5 (nI 0) = i0 := ⟨_, rfl⟩
  have h0 : CX B N 0 0 i i0 := by
    refine ⟨⟨by omega, ?_, fun k hk => ?_, h256⟩, Nat.zero_le _, Nat.le_refl _, rfl, ?_, ?_, fun j hj => absurd hj (Nat.not_lt_zero _), fun c c1 c3 c4 => ?_⟩
    · rw [← hi0]; unfold am_u2; rw [if_pos rfl, if_neg (by decide), if_pos rfl, if_neg (by decide), if_pos rfl, if_pos rfl]
    · rw [← hi0]; unfold am_u2; rw [if_neg (by decide), if_neg (by decide), if_neg (by decide)]; exact hb k (by omega)
    · rw [← hi0]; unfold am_u2; rw [if_pos rfl, if_pos rfl]
    · rw [← hi0]; unfold am_u2; rw [if_pos rfl, if_neg (by decide), if_pos rfl, if_pos rfl]
    · rw [← hi0]; funext t; unfold am_u2; rw [if_neg c1, if_neg c1, if_neg c1]
  have run57 : ∀ i1, BY B N i1 → ∀ x z4 f y z1, y + f = N → x < y → (∀ z, x ≤ z → z < y → isL B z = true) → ∃ z1', am_Ex (d + 2) mTape_cut 57 [.val (.ref 1), z1, .val (.int (nI y)), .val (.int (nI x)), z4] [] (i1, l, rX q, kX K) = am_Ex (d + 2) mTape_cut 79 [.val (.ref 1), z1', .val (.int (nI (rn (isL B) N x))), .val (.int (nI x)), z4] [] (i1, l, rX q, kX K) := by
    intro i1 hB x z4 f
    have hN := hB.1
    induction f with
    | zero =>
      intro y z1 hy hxy hall
      have hy : y = N := by omega
      subst hy
      refine ⟨z1, ?_⟩
      rw [b_Tape_cut_57, hB.2.1, decide_eq_true (show nI y ≤ nI y from by rw [q_le (by omega) (by omega)]; exact Nat.le_refl _), cond_true, rn_uq (by omega) (Nat.le_refl _) hall (fun z => by omega)]
    | succ f ih =>
      intro y z1 hy hxy hall
      rw [b_Tape_cut_57, hB.2.1, decide_eq_false (show ¬ nI N ≤ nI y from by rw [q_le (by omega) (by omega)]; omega), cond_false, s_isLetter (d + 1) hB (show y < N by omega), am_bd_some, q_app, b_Tape_cut_70]
      cases hl : isL B y with
      | false =>
        refine ⟨z1, ?_⟩
        rw [if_neg (by decide), show decide (nI 0 = (0 : Int32)) = true from rfl, cond_true, rn_uq (by omega) (by omega) hall (fun _ => hl)]
      | true =>
        rw [if_pos rfl, show decide (nI 1 = (0 : Int32)) = false from rfl, cond_false, show nI y + (1 : Int32) = nI (y + 1) from nI_add y 1]
        exact ih (y + 1) _ (by omega) (by omega) (fun z a b => by
          by_cases c : z = y
          · rw [c]; exact hl
          · exact hall z a (by omega))
  have run101 : ∀ i1, BY B N i1 → ∀ x z4 f y z1, y + f = N → x < y → (∀ z, x ≤ z → z < y → isD B z = true) → ∃ z1', am_Ex (d + 2) mTape_cut 101 [.val (.ref 1), z1, .val (.int (nI y)), .val (.int (nI x)), z4] [] (i1, l, rX q, kX K) = am_Ex (d + 2) mTape_cut 123 [.val (.ref 1), z1', .val (.int (nI (rn (isD B) N x))), .val (.int (nI x)), z4] [] (i1, l, rX q, kX K) := by
    intro i1 hB x z4 f
    have hN := hB.1
    induction f with
    | zero =>
      intro y z1 hy hxy hall
      have hy : y = N := by omega
      subst hy
      refine ⟨z1, ?_⟩
      rw [b_Tape_cut_101, hB.2.1, decide_eq_true (show nI y ≤ nI y from by rw [q_le (by omega) (by omega)]; exact Nat.le_refl _), cond_true, rn_uq (by omega) (Nat.le_refl _) hall (fun z => by omega)]
    | succ f ih =>
      intro y z1 hy hxy hall
      rw [b_Tape_cut_101, hB.2.1, decide_eq_false (show ¬ nI N ≤ nI y from by rw [q_le (by omega) (by omega)]; omega), cond_false, s_isNumeral (d + 1) hB (show y < N by omega), am_bd_some, q_app, b_Tape_cut_114]
      cases hl : isD B y with
      | false =>
        refine ⟨z1, ?_⟩
        rw [if_neg (by decide), show decide (nI 0 = (0 : Int32)) = true from rfl, cond_true, rn_uq (by omega) (by omega) hall (fun _ => hl)]
      | true =>
        rw [if_pos rfl, show decide (nI 1 = (0 : Int32)) = false from rfl, cond_false, show nI y + (1 : Int32) = nI (y + 1) from nI_add y 1]
        exact ih (y + 1) _ (by omega) (by omega) (fun z a b => by
          by_cases c : z = y
          · rw [c]; exact hl
          · exact hall z a (by omega))
  have main : ∀ f x m i1 z1 z3 z4, N - x < f → CX B N m x i i1 → ∃ i' M, am_Ex (d + 2) mTape_cut 24 [.val (.ref 1), z1, .val (.int (nI x)), z3, z4] [] (i1, l, rX q, kX K) = some (none, (i', l, rX q, kX K)) ∧ CK B N M i i' := by
    intro f
    induction f with
    | zero => intro x m i1 z1 z3 z4 hf; omega
    | succ f ih =>
      intro x m i1 z1 z3 z4 hf hX
      obtain ⟨hB, g2, g3, g4, g5, g5', g6, g7⟩ := id hX
      have hN := hB.1
      rw [b_Tape_cut_24, hB.2.1]
      by_cases cN : N ≤ x
      · have hxN : x = N := by omega
        subst hxN
        have ha : aj B x m = x := by rw [← g4]; exact rn_0 (Nat.le_refl _) (fun z => absurd z (Nat.lt_irrefl _))
        have hk : kj B x m = 24 := by unfold kj knd; rw [ha, if_pos (Nat.le_refl _)]
        rw [decide_eq_true (show nI x ≤ nI x from by rw [q_le (by omega) (by omega)]; exact Nat.le_refl _), cond_true, s_Tadd (d + 1) 0 (nI x) g5 (by omega), am_bd_some, q_app0, b_Tape_cut_191]
        refine ⟨_, m, rfl, ⟨hB.1, ?_, fun k hk' => ?_, h256⟩, g3, ha, ?_, ?_, fun j hj => ?_, fun j hj => (g6 j hj).2.2, fun c c1 c3 c4 => ?_⟩
        · unfold am_u2; rw [if_pos rfl, if_neg (by decide), if_neg (by decide), if_neg (by decide)]; exact hB.2.1
        · unfold am_u2; rw [if_neg (by decide), if_neg (by decide), if_neg (by decide)]; exact hB.2.2.1 k hk'
        · unfold am_u2; rw [if_pos rfl, if_pos rfl]
        · unfold am_u2; rw [if_pos rfl, if_neg (by decide), if_neg (by decide), if_neg (by decide)]; exact g5'
        · have e3 : am_u2 (am_u2 (am_u2 i1 3 m 0) 4 m (nI x)) 1 5 (nI (m + 1)) 3 j = if j = m then 0 else i1 3 j := by
            unfold am_u2; rw [if_neg (by decide), if_neg (by decide), if_pos rfl]
          have e4 : am_u2 (am_u2 (am_u2 i1 3 m 0) 4 m (nI x)) 1 5 (nI (m + 1)) 4 j = if j = m then nI x else i1 4 j := by
            simp [am_u2]
          rw [e3, e4]
          by_cases c : j = m
          · rw [if_pos c, if_pos c, c, hk, ha]; exact ⟨rfl, rfl⟩
          · rw [if_neg c, if_neg c]; exact ⟨(g6 j (by omega)).1, (g6 j (by omega)).2.1⟩
        · rw [← g7 c c1 c3 c4]; funext t; unfold am_u2; rw [if_neg c1, if_neg c4, if_neg c3]
      · have hxN : x < N := by omega
        have hsk : isBl B x = false → aj B N m = x := fun hn => by rw [← g4]; exact rn_0 (by omega) (fun _ => hn)
        have h9 : am_in (nI x) 900 = true := in16 (by omega) (by decide)
        have hte := te_le (B := B) (N := N) (a := x) (by omega)
        have htl := hte.2.2 hxN
        rw [decide_eq_false (show ¬ nI N ≤ nI x from by rw [q_le (by omega) (by omega)]; omega), cond_false, h9, cond_true, s_isLetter (d + 1) hB hxN, am_bd_some, q_app, nI_clamp (by omega), hB.2.2.1 x hxN, sb_255 (B x) (h256 x), show nI x + (1 : Int32) = nI (x + 1) from nI_add x 1, b_Tape_cut_54]
        cases hl : isL B x with
        | true =>
          have hlr := of_decide_eq_true hl
          have hbl : isBl B x = false := decide_eq_false (by omega)
          have ha := hsk hbl
          have hteL : te B N x = rn (isL B) N x := by unfold te; rw [if_neg (by omega), if_pos hl]
          have hk : kj B N m = key B x (te B N x) := by unfold kj knd; rw [ha, if_neg (by omega), if_pos hl]
          obtain ⟨z1', e1⟩ := run57 i1 hB x (.val (.int (nI (B x)))) (N - (x + 1)) (x + 1) (am_k1 z1) (by omega) (by omega) (fun z a b => by rw [show z = x by omega]; exact hl)
          have hwb : am_cl (d + 2) mTape_wordBetween [.ref 1, .int (nI x), .int (nI (te B N x))] (i1, l, rX q, kX K) = some (some (.int (nI (ct (kj B N m)))), (i1, l, rX q, kX K)) := by
            rw [hk, ← word_tok h256]; exact s_wordBetween d hB htl hte.2.1
          rw [if_pos rfl, show decide (nI 1 = (0 : Int32)) = false from rfl, cond_false, e1, ← hteL, b_Tape_cut_79, hwb, am_bd_some]
          show ∃ i' M, am_Ex _ _ _ _ [.int (nI (ct (kj B N m))), .ref 1] _ = _ ∧ _
          rw [b_Tape_cut_86, s_Tadd (d + 1) _ _ g5 (by omega), am_bd_some, q_app0, b_Tape_cut_90, b_Tape_cut_179]
          exact ih (te B N x) (m + 1) _ _ _ _ (by omega) (CX_add hX ha hxN rfl)
        | false =>
          have hlr := of_decide_eq_false hl
          rw [if_neg (by decide), show decide (nI 0 = (0 : Int32)) = true from rfl, cond_true, s_isNumeral (d + 1) hB hxN, am_bd_some, q_app, b_Tape_cut_98]
          cases hd : isD B x with
          | true =>
            have hdr := of_decide_eq_true hd
            have hbl : isBl B x = false := decide_eq_false (by omega)
            have ha := hsk hbl
            have hteL : te B N x = rn (isD B) N x := by unfold te; rw [if_neg (by omega), if_neg (by rw [hl]; decide), if_pos hd]
            have hk : kj B N m = if 3 < te B N x - x then 25 else 23 := by unfold kj knd; rw [ha, if_neg (by omega), if_neg (by rw [hl]; decide), if_pos hd]
            obtain ⟨z1', e1⟩ := run101 i1 hB x (.val (.int (nI (B x)))) (N - (x + 1)) (x + 1) (am_k1 z1) (by omega) (by omega) (fun z a b => by rw [show z = x by omega]; exact hd)
            have esub : nI (te B N x) - nI x = nI (te B N x - x) := by
              rw [show nI (te B N x) = nI (te B N x - x) + nI x from by rw [nI_add, show te B N x - x + x = te B N x by omega]]; exact Int32.add_sub_cancel _ _
            rw [if_pos rfl, show decide (nI 1 = (0 : Int32)) = false from rfl, cond_false, e1, ← hteL, b_Tape_cut_123, esub]
            have fin : ∀ t, t = ct (kj B N m) → ∃ i' M, am_Ex (d + 2) mTape_cut 136 [.val (.ref 1), z1', .val (.int (nI (te B N x))), .val (.int (nI x)), .val (.int (nI (B x)))] [.int (nI t), .ref 1] (i1, l, rX q, kX K) = some (none, (i', l, rX q, kX K)) ∧ CK B N M i i' := fun t ht => by
              rw [ht, b_Tape_cut_136, s_Tadd (d + 1) _ _ g5 (by omega), am_bd_some, q_app0, b_Tape_cut_140, b_Tape_cut_179]
              exact ih (te B N x) (m + 1) _ _ _ _ (by omega) (CX_add hX ha hxN rfl)
            by_cases c3 : 3 < te B N x - x
            · rw [decide_eq_false (show ¬ nI (te B N x - x) ≤ (3 : Int32) from by
                show ¬ nI (te B N x - x) ≤ nI 3
                rw [q_le (by omega) (by omega)]; omega), cond_false]
              exact fin 1 (by rw [hk, if_pos c3]; rfl)
            · rw [decide_eq_true (show nI (te B N x - x) ≤ (3 : Int32) from by
                show nI (te B N x - x) ≤ nI 3
                rw [q_le (by omega) (by omega)]; omega), cond_true]
              exact fin 2 (by rw [hk, if_neg c3]; rfl)
          | false =>
            have hdr := of_decide_eq_false hd
            have h256x := h256 x
            rw [if_neg (by decide), show decide (nI 0 = (0 : Int32)) = true from rfl, cond_true]
            have blank : isBl B x = true → CX B N m (x + 1) i i1 := fun hbl => ⟨hB, by omega, by omega, by rw [← g4]; exact rn_s hxN hbl, g5, g5', g6, g7⟩
            by_cases c32 : B x = 32
            · rw [decide_eq_true (show nI (B x) = (32 : Int32) from by rw [c32]; rfl), cond_true, b_Tape_cut_179]
              exact ih (x + 1) m i1 _ _ _ (by omega) (blank (decide_eq_true (Or.inr c32)))
            · rw [decide_eq_false (show ¬ nI (B x) = (32 : Int32) from by
                show ¬ nI (B x) = nI 32
                rw [q_eq (by omega) (by omega)]; exact c32), cond_false]
              by_cases c10 : B x = 10
              · rw [decide_eq_true (show nI (B x) = (10 : Int32) from by rw [c10]; rfl), cond_true, b_Tape_cut_179]
                exact ih (x + 1) m i1 _ _ _ (by omega) (blank (decide_eq_true (Or.inl c10)))
              · have hbl : isBl B x = false := decide_eq_false (by omega)
                have ha := hsk hbl
                have hteL : te B N x = x + 1 := by unfold te; rw [if_neg (by omega), if_neg (by rw [hl]; decide), if_neg (by rw [hd]; decide)]
                have hk : kj B N m = sgK (B x) 12 := by unfold kj knd; rw [ha, if_neg (by omega), if_neg (by rw [hl]; decide), if_neg (by rw [hd]; decide)]
                have hsg := w_sg (B x) h256x
                rw [decide_eq_false (show ¬ nI (B x) = (10 : Int32) from by
                  show ¬ nI (B x) = nI 10
                  rw [q_eq (by omega) (by omega)]; exact c10), cond_false, w_ch (B x) h256x, b_Tape_cut_163, show (decide ((0 : Int32) ≤ nI (B x)) && decide (nI (B x) ≤ (255 : Int32))) = true from by
                    rw [decide_eq_true (show (0 : Int32) ≤ nI (B x) from by
                      show nI 0 ≤ _
                      rw [q_le (by omega) (by omega)]; omega), decide_eq_true (show nI (B x) ≤ (255 : Int32) from by
                      show _ ≤ nI 255
                      rw [q_le (by omega) (by omega)]; omega)]; rfl, cond_true, b_Tape_cut_166]
                have fin : ∀ t, t = ct (kj B N m) → ∃ i' M, am_Ex (d + 2) mTape_cut 175 [.val (.ref 1), am_k1 z1, .val (.int (nI (x + 1))), .val (.int (nI x)), .val (.int (nI (B x)))] [.int (nI t), .ref 1] (i1, l, rX q, kX K) = some (none, (i', l, rX q, kX K)) ∧ CK B N M i i' := fun t ht => by
                  rw [ht, b_Tape_cut_175, s_Tadd (d + 1) _ _ g5 (by omega), am_bd_some, q_app0, b_Tape_cut_179]
                  exact ih (x + 1) (m + 1) _ _ _ _ (by omega) (CX_add hX ha hxN hteL.symm)
                by_cases cs : am_ixg (nI (B x)) (am_tx.getD 1 []) 0 < 0
                · rw [decide_eq_true cs, cond_true]
                  rw [if_pos cs] at hsg
                  exact fin 1 (by rw [hk]; exact hsg)
                · rw [decide_eq_false cs, cond_false]
                  rw [if_neg cs] at hsg
                  exact fin (B x) (by rw [hk]; exact hsg)
  have hmin : (if i 1 1 < nI N then i 1 1 else nI N) = nI N := by
    rw [h1, if_neg (by rw [q_lt (by omega) (by omega)]; omega)]
  rw [c_Tape_cut, b_Tape_cut_0, hmin]
  have := main (N + 1) 0 0 i0 (.val (.int (nI N))) .unset .unset (by omega) h0
  rw [← hi0] at this
  exact this
end
