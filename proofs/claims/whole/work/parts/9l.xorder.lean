/-! THE CLASS: orders, by sets of those gone -/
def stG (g : Nat → Nat) (G : Nat) : Nat := sSend (sNow g 4) (G ^^^ 15) 4
def lfG (g : Nat → Nat) (G : Nat) : Nat := oW g &&& (G ^^^ 4294967295)
def sub (g : Nat → Nat) (G : Nat) : Prop := G &&& (oW g ^^^ 4294967295) = 0
def nX (g : Nat → Nat) (G : Nat) : Nat := if G &&& (oW g ^^^ 4294967295) = 0 then bs (oA g (stG g G) (lfG g G)) (g 2) else 0
def oV (g : Nat → Nat) (G : Nat) : Nat := if G &&& (oW g ^^^ 4294967295) = 0 then oN g (4 - bc G 4) (stG g G) (lfG g G) else 0
def nB (g : Nat → Nat) (G : Nat) : Nat := bs (fun p => (nX g G).testBit p && decide (0 < oV g (G ||| 2 ^ p))) 4
theorem k_or1 : ∀ G, G < 16 → ∀ p, p < 4 → (G ||| 2 ^ p < 16 ∧ G ≤ G ||| 2 ^ p ∧ (G.testBit p = false → G < G ||| 2 ^ p ∧ bc (G ||| 2 ^ p) 4 = bc G 4 + 1)) := by decide +kernel
theorem k_sub1 : ∀ A, A < 16 → ∀ G, G < 16 → G &&& (A ^^^ 4294967295) = 0 → (bc G 4 + bc (A &&& (G ^^^ 4294967295)) 4 = bc A 4 ∧ A &&& (G ^^^ 4294967295) < 16 ∧ (A &&& (G ^^^ 4294967295) = 0 ↔ G = A)) := by decide +kernel
def kS (A G p : Nat) : Bool := !(decide (G &&& (A ^^^ 4294967295) = 0) && (A &&& (G ^^^ 4294967295)).testBit p) || (decide ((G ||| 2 ^ p) &&& (A ^^^ 4294967295) = 0) && !G.testBit p && decide (A &&& ((G ||| 2 ^ p) ^^^ 4294967295) = (A &&& (G ^^^ 4294967295)) &&& (2 ^ p ^^^ 4294967295)))
theorem kS_ok : ∀ x, x < 256 → ∀ p, p < 4 → kS (x / 16) (x % 16) p = true := by decide +kernel
theorem k_sub2 : ∀ A, A < 16 → ∀ G, G < 16 → ∀ p, p < 4 → (G &&& (A ^^^ 4294967295) = 0 ∧ (A &&& (G ^^^ 4294967295)).testBit p = true) → ((G ||| 2 ^ p) &&& (A ^^^ 4294967295) = 0 ∧ G.testBit p = false ∧ A &&& ((G ||| 2 ^ p) ^^^ 4294967295) = (A &&& (G ^^^ 4294967295)) &&& (2 ^ p ^^^ 4294967295)) := by
  intro A hA G hG p hp ⟨h1, h2⟩
  have := kS_ok (16 * A + G) (by omega) p hp
  rw [show (16 * A + G) / 16 = A by omega, show (16 * A + G) % 16 = G by omega] at this
  unfold kS at this
  rw [decide_eq_true h1, h2] at this
  simpa [and_assoc] using this
theorem k_bcP : ∀ A, A < 16 → ∀ P, P < 5 → A < 2 ^ P → bc A 4 ≤ P := by decide +kernel
theorem k_x15 : ∀ G, G < 16 → ∀ p, p < 4 → (G ^^^ 15).testBit p = !G.testBit p := by decide +kernel
theorem k_x32 : ∀ G, G < 16 → ∀ p, p < 4 → (nI G ^^^ (-1 : Int32)).toBitVec.getLsbD p = (G ^^^ 15).testBit p := by decide +kernel
theorem k_slf : ∀ A, A < 16 → A &&& (0 ^^^ 4294967295) = A := by decide +kernel
section
variable {g : Nat → Nat} {G p : Nat}
theorem dg_stG (hW : WG g) (hG : G < 16) (hp : p < 4) : dg (stG g G) p = if G.testBit p = true then g (18 + p) else 0 := by
  have hP := hW.2.2.2.2.2.1
  unfold stG
  rw [dg_sSend (sNow_lt g hP 4 (by decide)) 4 (by omega) p hp, k_x15 G hG p hp, dg_sNow hP p hp]
  cases G.testBit p with
  | true => simp
  | false => simp [hp]
theorem stG_lt (hW : WG g) : stG g G < 4096 := sSend_lt (sNow_lt g hW.2.2.2.2.2.1 4 (by decide)) 4 (by omega)
theorem VS_stG (hW : WG g) (hG : G < 16) : VS g (stG g G) := by
  have hvs : VS g (sNow g 4) := hW.2.2.2.2.2.2.2.2.2.2
  have hP := hW.2.2.2.2.2.1
  have hd := fun p hp => dg_sNow hP p hp
  refine ⟨fun p hp => ?_, fun p k hp hk hne hs => ?_, fun p h1 hp => ?_⟩
  · rw [dg_stG hW hG hp]
    split
    · rw [← hd p hp]; exact hvs.1 p hp
    · omega
  · rw [dg_stG hW hG hp] at hs ⊢
    rw [dg_stG hW hG hk]
    cases hb : G.testBit p with
    | false =>
      rw [hb, if_neg (by decide)] at hs
      rw [sSpot_0] at hs; cases hs
    | true =>
      rw [hb, if_pos rfl] at hs
      rw [if_pos rfl]
      cases hb2 : G.testBit k with
      | true =>
        rw [if_pos rfl, ← hd p hp, ← hd k hk]
        exact hvs.2.1 p k hp hk hne (by rw [hd p hp]; exact hs)
      | false =>
        rw [if_neg (by decide)]
        intro z
        rw [z, sSpot_0] at hs; cases hs
  · rw [dg_stG hW hG hp]
    split
    · rw [← hd p hp]; exact hvs.2.2 p h1 hp
    · rfl
theorem stG_s (hW : WG g) (hG : G < 16) (hp : p < 4) : stG g (G ||| 2 ^ p) = oS g (stG g G) p := by
  have hlt : stG g G < 4096 := stG_lt hW
  have h8 := hW.2.2.2.2.2.1 p hp
  refine dg_ext (stG_lt hW) (wp_lt hlt hp h8) (fun k hk => ?_)
  rw [dg_stG hW (k_or1 G hG p hp).1 hk, Nat.testBit_or, Nat.testBit_two_pow]
  unfold oS
  by_cases e : k = p
  · subst e
    rw [dg_wp hlt hk h8, decide_eq_true rfl, Bool.or_true, if_pos rfl]
  · rw [dg_wn hlt hp hk h8 e, dg_stG hW hG hk, decide_eq_false (fun z => e z.symm), Bool.or_false]
theorem sSum_4 {f : Nat → Nat} {n : Nat} (hn : n ≤ 4) (h : ∀ k, n ≤ k → f k = 0) : sSum f 4 = sSum f n := by
  obtain ⟨k, hk⟩ : ∃ k, 4 = n + k := ⟨4 - n, by omega⟩
  rw [hk]
  clear hn hk
  induction k with
  | zero => rfl
  | succ k ih => rw [show n + (k + 1) = (n + k) + 1 from rfl, sSum, ih, h _ (by omega), Nat.add_zero]
theorem oV_rec (hW : WG g) (hG : G < 16) : oV g G = (if G = oW g then 1 else 0) + sSum (fun p => if (nX g G).testBit p = true then oV g (G ||| 2 ^ p) else 0) 4 := by
  have h2 := hW.2.1
  have hA := oW_lt (g := g) h2
  by_cases hs : G &&& (oW g ^^^ 4294967295) = 0
  · obtain ⟨s1, s2, s3⟩ := k_sub1 (oW g) hA G hG hs
    have eX : nX g G = bs (oA g (stG g G) (lfG g G)) (g 2) := by unfold nX; rw [if_pos hs]
    have eV : oV g G = oN g (4 - bc G 4) (stG g G) (lfG g G) := by unfold oV; rw [if_pos hs]
    rw [eV]
    by_cases hl : lfG g G = 0
    · rw [if_pos (s3.mp hl), hl]
      have z : sSum (fun p => if (nX g G).testBit p = true then oV g (G ||| 2 ^ p) else 0) 4 = 0 := by
        rw [show (fun p => if (nX g G).testBit p = true then oV g (G ||| 2 ^ p) else 0) = fun _ => 0 from funext (fun p => by
          rw [eX, bs_bit, hl]
          unfold oA
          simp)]
        exact sSum_zero 4
      rw [z]
      cases 4 - bc G 4 with
      | zero => rw [oN, if_pos rfl]
      | succ f => rw [oN, if_pos rfl]
    · rw [if_neg (fun z => hl (s3.mpr z)), Nat.zero_add]
      have hb : bc (lfG g G) 4 ≠ 0 := fun z => hl (bc_0 _ s2 z)
      have hb4 := bc_le (oW g) 4
      have s1 : bc G 4 + bc (lfG g G) 4 = bc (oW g) 4 := s1
      obtain ⟨f, hf⟩ : ∃ f, 4 - bc G 4 = f + 1 := ⟨3 - bc G 4, by omega⟩
      rw [hf, oN, if_neg hl]
      rw [sSum_4 (n := g 2) h2 (fun k hk => by rw [eX, bs_bit, decide_eq_false (by omega)]; rfl)]
      apply sSum_cong
      intro p hp
      rw [eX, bs_bit, decide_eq_true hp, Bool.true_and]
      by_cases ha : oA g (stG g G) (lfG g G) p = true
      · rw [if_pos ha, if_pos ha]
        have hlp : (lfG g G).testBit p = true := by
          unfold oA at ha
          rw [Bool.and_eq_true] at ha
          exact ha.1
        obtain ⟨u1, u2, u3⟩ := k_sub2 (oW g) hA G hG p (by omega) ⟨hs, hlp⟩
        obtain ⟨w1, w2, w3⟩ := k_or1 G hG p (by omega)
        unfold oV
        rw [if_pos u1, (w3 u2).2, stG_s hW hG (by omega), show 4 - (bc G 4 + 1) = f by omega]
        unfold lfG oR
        rw [u3]
      · rw [if_neg ha, if_neg ha]
  · have eX : nX g G = 0 := by unfold nX; rw [if_neg hs]
    have eV : oV g G = 0 := by unfold oV; rw [if_neg hs]
    have hne : G ≠ oW g := by
      intro z
      apply hs
      rw [z]
      have : ∀ A, A < 16 → A &&& (A ^^^ 4294967295) = 0 := by decide +kernel
      exact this _ hA
    rw [eV, if_neg hne, eX, show (fun p => if (0 : Nat).testBit p = true then oV g (G ||| 2 ^ p) else 0) = fun _ => 0 from funext (fun p => by simp), sSum_zero]
theorem oV_le (hW : WG g) (G : Nat) : oV g G ≤ 256 := by
  unfold oV
  split
  · have := oN_le (g := g) hW.2.1 (4 - bc G 4) (stG g G) (lfG g G)
    have h4 : 4 ^ (4 - bc G 4) ≤ 4 ^ 4 := Nat.pow_le_pow_right (by decide) (by omega)
    omega
  · omega
theorem nX_lt (hW : WG g) (G : Nat) : nX g G < 16 := by
  unfold nX
  split
  · exact Nat.lt_of_lt_of_le (bs_lt _ _) (Nat.pow_le_pow_right (by decide) hW.2.1)
  · omega
theorem nX_bit (hW : WG g) (hG : G < 16) (h : (nX g G).testBit p = true) : p < g 2 ∧ sub g G ∧ oA g (stG g G) (lfG g G) p = true ∧ G < G ||| 2 ^ p ∧ G ||| 2 ^ p < 16 := by
  have h2 := hW.2.1
  unfold nX at h
  by_cases hs : G &&& (oW g ^^^ 4294967295) = 0
  · rw [if_pos hs, bs_bit, Bool.and_eq_true, decide_eq_true_eq] at h
    have hlp : (lfG g G).testBit p = true := by
      have ha := h.2
      unfold oA at ha
      rw [Bool.and_eq_true] at ha
      exact ha.1
    obtain ⟨u1, u2, u3⟩ := k_sub2 (oW g) (oW_lt h2) G hG p (by omega) ⟨hs, hlp⟩
    obtain ⟨w1, w2, w3⟩ := k_or1 G hG p (by omega)
    exact ⟨h.1, hs, h.2, (w3 u2).1, w1⟩
  · rw [if_neg hs] at h; simp at h
end
section
variable {i i' : Nat → Nat → Int32} {l l' : Nat → Nat → Int64} {q q' : Nat → Nat → Option Nat} {K : List (Nat × Nat)} {r m : Nat} {g : Nat → Nat} {ρ : Nat → Nat → Nat}
theorem FA_i {Ri : List Nat} (h : Fr Ri i i') (h18 : Ri.contains 18 = false) (h19 : Ri.contains 19 = false) (h20 : Ri.contains 20 = false) (h21 : Ri.contains 21 = false) (hA : FA r g m i l q) : FA r g m i' l q := by
  obtain ⟨f1, f2, f3, f4, f5⟩ := hA
  refine ⟨f1, f2, f3, ?_, ?_⟩
  · unfold TV at f4 ⊢
    rw [h 18 h18, h 19 h19]; exact f4
  · unfold HV at f5 ⊢
    rw [h 20 h20, h 21 h21]; exact f5
theorem y_ableToGo (d : Nat) {G lf : Nat} (hC : CV ρ r g m i l q K) (hA : FA r g m i l q) (hG : G < 16) (hlf : lf < 16) : ∃ i', am_cl (d + 5) mX_ableToGo [.ref 0, .int (nI (sNow g 4)), .int (nI G), .int (nI lf)] (i, l, rX q, kX K) = some (some (.int (nI (bs (oA g (stG g G) lf) (g 2)))), (i', l, rX q, kX K)) ∧ Fr [11, 13, 14, 18, 19, 20, 21] i i' ∧ FA r g m i' l q := by
  obtain ⟨a1, a2, hW, a4, a5, a6⟩ := id hC
  have a1 : rX q 0 2 = some r := a1
  obtain ⟨fP, fS, fL, fE, fF, fB, fU, fV, fK, fW, hk, ra, ra1, ra2, ra3⟩ := CV_f a2 hW
  obtain ⟨fN, fO, fT, fD⟩ := RM_f a6 hW
  have h1 : g 1 ≤ 6 := hW.1.2
  have h2 : g 2 ≤ 4 := hW.2.1
  have hR : ∀ p, p < 4 → g (10 + p) ≤ 4 := hW.2.2.2.1
  have hP : ∀ p, p < 4 → g (18 + p) < 8 := hW.2.2.2.2.2.1
  have hSt : ∀ p, p < 4 → g (22 + p) ≤ 9 := hW.2.2.2.2.2.2.1
  have hn := sNow_lt g hP 4 (by decide)
  have hvs : VS g (sNow g 4) := hW.2.2.2.2.2.2.2.2.2.2
  have hsl : stG g G < 4096 := stG_lt hW
  have hV := VS_stG hW hG
  have hsb := s_X_sentBack (d + 2) (a := sNow g 4) (m := G ^^^ 15) hn (k_x32 G hG) (i, l, rX q, kX K)
  have hl : Int32.toInt64 (nI (sNow g 4)) = lN (sNow g 4) := nI_l (by omega)
  rw [c_X_ableToGo, b_X_ableToGo_0, hsb, am_bd_some, q_app, b_X_ableToGo_7]
  refine am_loop (d := d + 4) (y := mX_ableToGo) (pc := 15) (fun k ls s => ∃ i1 z2, ls = [.val (.ref 0), .val (.int (nI (sNow g 4))), z2, .val (.int (nI lf)), .val (.int (nI (stG g G))), .val (.int (nI (bs (oA g (stG g G) lf) k))), .val (.int (nI k))] ∧ s = (i1, l, rX q, kX K) ∧ Fr [11, 13, 14, 18, 19, 20, 21] i i1 ∧ FA r g m i1 l q) (g 2) (fun rs => ∃ i', rs = some (some (.int (nI (bs (oA g (stG g G) lf) (g 2)))), (i', l, rX q, kX K)) ∧ Fr [11, 13, 14, 18, 19, 20, 21] i i' ∧ FA r g m i' l q) (fun k ls s hk2 hI => ?_) (fun ls s hI => ?_) ⟨i, _, rfl, rfl, Fr_refl _ _, hA⟩
  · obtain ⟨i1, z2, e1, e2, hf1, hA1⟩ := hI
    subst e1; subst e2
    have hk4 : k < 4 := by omega
    have hff : FG RF [11] [11] i i1 l l q q := ⟨Fr_step hf1 rfl (Fr_refl _ _), fun _ _ => rfl, fun _ _ => rfl⟩
    obtain ⟨a1, a2, _, a4, a5, _⟩ := CV_ff hff hC
    have a1 : rX q 0 2 = some r := a1
    obtain ⟨fP, fS, fL, fE, fF, fB, fU, fV, fK, fW, hk, ra, ra1, ra2, ra3⟩ := CV_f a2 hW
    have hr1 : i1 r 1 = nI (g 2) := a2.2.2.2.1
    have e5 := ra3 k hk4
    have hR4 := hR k hk4
    have hpl := s_X_placeOf (m := sNow g 4) (p := k) (d + 3) (by omega) (by omega)
    rw [dg_sNow hP k hk4] at hpl
    have hp8 := hP k hk4
    have hh := s_X_hasBit' (d + 3) (a := lf) (k := k) (by omega) (by omega) (i1, l, rX q, kX K)
    rw [b_X_ableToGo_15]
    cases hb : lf.testBit k with
    | false =>
      have ha : oA g (stG g G) lf k = false := by unfold oA; rw [hb]; rfl
      rw [hb] at hh
      simp (disch := first | assumption | omega) only [b_X_ableToGo_0, b_X_ableToGo_7, b_X_ableToGo_33, b_X_ableToGo_59, b_X_ableToGo_66, b_X_ableToGo_69, b_X_ableToGo_81, s_X_sentBack, ↓Bool.cond_decide, ↓q_in, q_le, q_lt, q_eq, q_leT, q_leF, q_ltT, q_ltF, q_eqT, q_eqF, ↓reduceIte, not_true_eq_false, not_false_eq_true, true_and, and_true, and_self, false_and, and_false, Nat.zero_le, am_bd_some, q_app, q_app0, nI_add, pk_sub, pk_mul, q_dec, q_ix, q_m1, q_m1', ↓q_ret, q_bool, q_bool1, q_u2, q_u1, q_shl1, q_shr, q_and7, q_dg, fa_or, fa_and, decide_true, decide_false, Bool.or_false, Bool.or_true, Bool.true_or, Bool.false_or, cond_true, cond_false, ite_not, q_some, q_nn, q_xor, q_xorm, Bool.false_eq_true, decide_eq_true_eq, ne_eq, l_0, l_1, l_2, l_3, l_5, l_6, l_7, l_8, l_11, l_13, l_15, l_18, l_31, l_33, l_59, l_66, l_69, l_81, l_100, hr1, hh, a1, a5, hk, fP, fS, fL, fE, fF, fB, fU, fV, fK, fW, fN, fO, fT, fD, ra1, ra2, cond_true, Bool.and_true, kd11]
      exact Go_in ⟨i1, _, by rw [bs, ha, if_neg (by decide), Nat.or_zero], rfl, hf1, hA1⟩
    | true =>
      rw [hb] at hh
      obtain ⟨i2, e2, hf2, hA2⟩ := y_spread d a2 hW hA1 hk2 hsl (show g (10 + k) ≤ 9 by omega) (show 8 ≤ 8 by decide) hV
      obtain ⟨i2', l2', e2', hl2', hf2', hT2'⟩ := r_Ford_spread (i := i1) (l := l) (q := q) d a2 hW.2.2.2.2.2.2.2.2.2.1 hA1.1 hA1.2.1 hA1.2.2.1 h1 h2 hk2 hsl (show g (10 + k) ≤ 9 by omega) (show 8 ≤ 8 by decide) hV hA1.2.2.2.1
      have ei : i2' = i2 := by
        rw [e2] at e2'
        have := (Prod.mk.inj (Prod.mk.inj (Option.some.inj e2')).2).1
        exact this.symm
      subst ei
      rw [sEn8] at e2
      have hfr : Fr [11, 13, 14, 18, 19, 20, 21] i i2' := Fr_step hf2' rfl hf1
      have hb2 := s_X_hasBit' (d + 3) (a := sGo g (stG g G) k (g (10 + k))) (k := g (18 + k)) (by have := sGo_lt (g := g) (a := stG g G) (p := k) (r := g (10 + k)) h1; omega) (by omega) (i2', l, rX q, kX K)
      cases hb3 : (sGo g (stG g G) k (g (10 + k))).testBit (g (18 + k)) with
      | false =>
        have ha : oA g (stG g G) lf k = false := by unfold oA; rw [hb, hb3]; rfl
        rw [hb3] at hb2
        simp (disch := first | assumption | omega) only [b_X_ableToGo_0, b_X_ableToGo_7, b_X_ableToGo_33, b_X_ableToGo_59, b_X_ableToGo_66, b_X_ableToGo_69, b_X_ableToGo_81, s_X_sentBack, ↓Bool.cond_decide, ↓q_in, q_le, q_lt, q_eq, q_leT, q_leF, q_ltT, q_ltF, q_eqT, q_eqF, ↓reduceIte, not_true_eq_false, not_false_eq_true, true_and, and_true, and_self, false_and, and_false, Nat.zero_le, am_bd_some, q_app, q_app0, nI_add, pk_sub, pk_mul, q_dec, q_ix, q_m1, q_m1', ↓q_ret, q_bool, q_bool1, q_u2, q_u1, q_shl1, q_shr, q_and7, q_dg, fa_or, fa_and, decide_true, decide_false, Bool.or_false, Bool.or_true, Bool.true_or, Bool.false_or, cond_true, cond_false, ite_not, q_some, q_nn, q_xor, q_xorm, Bool.false_eq_true, decide_eq_true_eq, ne_eq, l_0, l_1, l_2, l_3, l_5, l_6, l_7, l_8, l_11, l_13, l_15, l_18, l_31, l_33, l_59, l_66, l_69, l_81, l_100, hr1, hh, e5, e2, hl, hpl, hb2, a1, a5, hk, fP, fS, fL, fE, fF, fB, fU, fV, fK, fW, fN, fO, fT, fD, ra1, ra2, cond_true, Bool.and_true, kd11]
        exact Go_in ⟨i2', _, by rw [bs, ha, if_neg (by decide), Nat.or_zero], rfl, hfr, hA2⟩
      | true =>
        have ha : oA g (stG g G) lf k = true := by unfold oA; rw [hb, hb3]; rfl
        rw [hb3] at hb2
        simp (disch := first | assumption | omega) only [b_X_ableToGo_0, b_X_ableToGo_7, b_X_ableToGo_33, b_X_ableToGo_59, b_X_ableToGo_66, b_X_ableToGo_69, b_X_ableToGo_81, s_X_sentBack, ↓Bool.cond_decide, ↓q_in, q_le, q_lt, q_eq, q_leT, q_leF, q_ltT, q_ltF, q_eqT, q_eqF, ↓reduceIte, not_true_eq_false, not_false_eq_true, true_and, and_true, and_self, false_and, and_false, Nat.zero_le, am_bd_some, q_app, q_app0, nI_add, pk_sub, pk_mul, q_dec, q_ix, q_m1, q_m1', ↓q_ret, q_bool, q_bool1, q_u2, q_u1, q_shl1, q_shr, q_and7, q_dg, fa_or, fa_and, decide_true, decide_false, Bool.or_false, Bool.or_true, Bool.true_or, Bool.false_or, cond_true, cond_false, ite_not, q_some, q_nn, q_xor, q_xorm, Bool.false_eq_true, decide_eq_true_eq, ne_eq, l_0, l_1, l_2, l_3, l_5, l_6, l_7, l_8, l_11, l_13, l_15, l_18, l_31, l_33, l_59, l_66, l_69, l_81, l_100, hr1, hh, e5, e2, hl, hpl, hb2, a1, a5, hk, fP, fS, fL, fE, fF, fB, fU, fV, fK, fW, fN, fO, fT, fD, ra1, ra2, cond_true, Bool.and_true, kd11]
        exact Go_in ⟨i2', _, by rw [bs, ha]; rfl, rfl, hfr, hA2⟩
  · obtain ⟨i1, z2, e1, e2, hf1, hA1⟩ := hI
    subst e1; subst e2
    have hff : FG RF [11] [11] i i1 l l q q := ⟨Fr_step hf1 rfl (Fr_refl _ _), fun _ _ => rfl, fun _ _ => rfl⟩
    obtain ⟨a1, a2, _, a4, a5, _⟩ := CV_ff hff hC
    have a1 : rX q 0 2 = some r := a1
    obtain ⟨fP, fS, fL, fE, fF, fB, fU, fV, fK, fW, hk, ra, ra1, ra2, ra3⟩ := CV_f a2 hW
    have hr1 : i1 r 1 = nI (g 2) := a2.2.2.2.1
    rw [b_X_ableToGo_15]
    simp (disch := first | assumption | omega) only [b_X_ableToGo_0, b_X_ableToGo_7, b_X_ableToGo_33, b_X_ableToGo_59, b_X_ableToGo_66, b_X_ableToGo_69, b_X_ableToGo_81, s_X_hasBit, s_X_hasBit', s_X_sentBack, ↓Bool.cond_decide, ↓q_in, q_le, q_lt, q_eq, q_leT, q_leF, q_ltT, q_ltF, q_eqT, q_eqF, ↓reduceIte, not_true_eq_false, not_false_eq_true, true_and, and_true, and_self, false_and, and_false, Nat.zero_le, am_bd_some, q_app, q_app0, nI_add, pk_sub, pk_mul, q_dec, q_ix, q_m1, q_m1', ↓q_ret, q_bool, q_bool1, q_u2, q_u1, q_shl1, q_shr, q_and7, q_dg, fa_or, fa_and, decide_true, decide_false, Bool.or_false, Bool.or_true, Bool.true_or, Bool.false_or, cond_true, cond_false, ite_not, q_some, q_nn, q_xor, q_xorm, Bool.false_eq_true, decide_eq_true_eq, ne_eq, l_0, l_1, l_2, l_3, l_5, l_6, l_7, l_8, l_11, l_13, l_15, l_18, l_31, l_33, l_59, l_66, l_69, l_81, l_100, hr1, a1, a5, hk, fP, fS, fL, fE, fF, fB, fU, fV, fK, fW, fN, fO, fT, fD, ra1, ra2, cond_true, Bool.and_true, kd11]
    exact ⟨i1, rfl, hf1, hA1⟩
/-- what is known of orders from n on -/
def OD (g : Nat → Nat) (n : Nat) (i : Nat → Nat → Int32) : Prop := ∀ G, n ≤ G → G < 16 → i 40 G = nI (oV g G) ∧ i 41 G = nI (nX g G)
theorem y_countOrders (d : Nat) (hC : CV ρ r g m i l q K) (hF : XF ρ i l q K) : ∃ i' l' q', am_cl (d + 6) mX_countOrders [.ref 0] (i, l, rX q, kX K) = some (some (.int (nI (oV g 0))), (i', l', rX q', kX K)) ∧ FG RF [11] [11] i i' l l' q q' ∧ XF ρ i' l' q' K ∧ OD g 0 i' := by
  obtain ⟨a1, a2, hW, a4, a5, a6⟩ := id hC
  have a1 : rX q 0 2 = some r := a1
  obtain ⟨fP, fS, fL, fE, fF, fB, fU, fV, fK, fW, hk, ra, ra1, ra2, ra3⟩ := CV_f a2 hW
  obtain ⟨fN, fO, fT, fD⟩ := RM_f a6 hW
  have h1 : g 1 ≤ 6 := hW.1.2
  have h2 : g 2 ≤ 4 := hW.2.1
  have hR : ∀ p, p < 4 → g (10 + p) ≤ 4 := hW.2.2.2.1
  have hP : ∀ p, p < 4 → g (18 + p) < 8 := hW.2.2.2.2.2.1
  have hSt : ∀ p, p < 4 → g (22 + p) ≤ 9 := hW.2.2.2.2.2.2.1
  have hn := sNow_lt g hP 4 (by decide)
  have hvs : VS g (sNow g 4) := hW.2.2.2.2.2.2.2.2.2.2
  have hA := oW_lt (g := g) h2
  obtain ⟨i1, l1, q1, e1, hf1, hA1⟩ := y_fordAt (d + 2) hC hF (gE_refl g) a6
  rw [c_X_countOrders, b_X_countOrders_0]
  simp (disch := first | assumption | omega) only [b_X_countOrders_0, b_X_countOrders_7, b_X_countOrders_16, b_X_countOrders_24, b_X_countOrders_34, b_X_countOrders_60, b_X_countOrders_74, b_X_countOrders_88, b_X_countOrders_92, b_X_countOrders_116, b_X_countOrders_145, b_X_countOrders_154, s_X_hasBit, s_X_hasBit', ↓Bool.cond_decide, ↓q_in, q_le, q_lt, q_eq, q_leT, q_leF, q_ltT, q_ltF, q_eqT, q_eqF, ↓reduceIte, not_true_eq_false, not_false_eq_true, true_and, and_true, and_self, false_and, and_false, Nat.zero_le, am_bd_some, q_app, q_app0, nI_add, pk_sub, pk_mul, q_dec, q_ix, q_m1, q_m1', ↓q_ret, q_bool, q_bool1, q_u2, q_u1, q_shl1, q_shr, q_and7, q_dg, fa_or, fa_and, decide_true, decide_false, Bool.or_false, Bool.or_true, Bool.true_or, Bool.false_or, cond_true, cond_false, ite_not, q_some, q_nn, q_xor, q_xorm, Bool.false_eq_true, decide_eq_true_eq, ne_eq, l_0, l_1, l_2, l_3, l_4, l_5, l_6, l_7, l_8, l_9, l_13, l_14, l_15, l_16, l_22, l_24, l_31, l_34, l_38, l_40, l_41, l_60, l_74, l_88, l_92, l_96, l_116, l_145, l_154, e1, a1, a5, hk, fP, fS, fL, fE, fF, fB, fU, fV, fK, fW, fN, fO, fT, fD, ra1, ra2, cond_true, Bool.and_true, kd11]
  have eW : sUp g (sNow g 4) ||| sOver g (sNow g 4) = oW g := rfl
  rw [eW]
  have loop : ∀ n i2 z4, n ≤ 16 → FG RF [11] [11] i i2 l l1 q q1 → FA r g m i2 l1 q1 → OD g n i2 → ∃ i' l' q', am_Ex (d + 5) mX_countOrders 38 [.val (.ref 0), .val (.int (nI (sNow g 4))), .val (.int (nI (oW g))), .val (.int (mI n)), z4] [] (i2, l1, rX q1, kX K) = some (some (.int (nI (oV g 0))), (i', l', rX q', kX K)) ∧ FG RF [11] [11] i i' l l' q q' ∧ XF ρ i' l' q' K ∧ OD g 0 i' := by
    intro n
    induction n with
    | zero =>
      intro i2 z4 _ hf2 hA2 hO
      rw [b_X_countOrders_38, show decide (mI 0 < (0 : Int32)) = true from rfl, cond_true, (hO 0 (by omega) (by omega)).1]
      exact ⟨i2, l1, q1, rfl, hf2, XF_of (CV_ff hf2 hC) hA2 (gE_refl g) hW, hO⟩
    | succ n ih =>
      intro i2 z4 hn16 hf2 hA2 hO
      have hG : n < 16 := by omega
      have emI : mI (n + 1) = nI n := rfl
      have hin : am_in (nI n) 16 = true := by
        unfold am_in
        rw [nI_clamp (by omega), decide_eq_true (show (0 : Int32) ≤ nI n from by
          show nI 0 ≤ nI n
          rw [q_le (by omega) (by omega)]; omega), decide_eq_true hG]; rfl
      -- the row begins
      obtain ⟨b, hb⟩ : ∃ b, (if n = oW g then 1 else 0) = b := ⟨_, rfl⟩
      have hstart : am_Ex (d + 5) mX_countOrders 38 [.val (.ref 0), .val (.int (nI (sNow g 4))), .val (.int (nI (oW g))), .val (.int (mI (n + 1))), z4] [] (i2, l1, rX q1, kX K) = am_Ex (d + 5) mX_countOrders 74 [.val (.ref 0), .val (.int (nI (sNow g 4))), .val (.int (nI (oW g))), .val (.int (nI n)), z4] [.int (nI (n &&& (oW g ^^^ 4294967295))), .int (nI n), .ref 41] (am_u2 i2 40 n (nI b), l1, rX q1, kX K) := by
        rw [emI, b_X_countOrders_38, decide_eq_false (show ¬ nI n < (0 : Int32) from by
          show ¬ nI n < nI 0
          rw [q_lt (by omega) (by omega)]; omega), cond_false]
        by_cases c : n = oW g
        · rw [if_pos c] at hb
          rw [decide_eq_false (show ¬ ¬ nI n = nI (oW g) from fun z => z (by rw [c])), cond_false, b_X_countOrders_60, hin, cond_true, nI_clamp (by omega), ← hb, show nI (oW g) ^^^ (-1 : Int32) = nI (oW g ^^^ 4294967295) from q_xorm _, fa_and]
          rfl
        · rw [if_neg c] at hb
          rw [decide_eq_true (show ¬ nI n = nI (oW g) from by rw [q_eq (by omega) (by omega)]; exact c), cond_true, b_X_countOrders_60, hin, cond_true, nI_clamp (by omega), ← hb, show nI (oW g) ^^^ (-1 : Int32) = nI (oW g ^^^ 4294967295) from q_xorm _, fa_and]
          rfl
      rw [hstart]
      -- who can be next
      have hmid : ∃ i3 z4', am_Ex (d + 5) mX_countOrders 74 [.val (.ref 0), .val (.int (nI (sNow g 4))), .val (.int (nI (oW g))), .val (.int (nI n)), z4] [.int (nI (n &&& (oW g ^^^ 4294967295))), .int (nI n), .ref 41] (am_u2 i2 40 n (nI b), l1, rX q1, kX K) = am_Ex (d + 5) mX_countOrders 96 [.val (.ref 0), .val (.int (nI (sNow g 4))), .val (.int (nI (oW g))), .val (.int (nI n)), .val (.int (nI 0))] [] (i3, l1, rX q1, kX K) ∧ z4' = (Slot.unset : Slot) ∧ FG RF [11] [11] i i3 l l1 q q1 ∧ FA r g m i3 l1 q1 ∧ i3 40 n = nI b ∧ i3 41 n = nI (nX g n) ∧ ∀ G, n < G → G < 16 → i3 40 G = nI (oV g G) ∧ i3 41 G = nI (nX g G) := by
        have hlt : n &&& (oW g ^^^ 4294967295) ≤ n := Nat.and_le_left
        have hf2' : FG RF [11] [11] i (am_u2 i2 40 n (nI b)) l l1 q q1 := FG_i hf2 (Fr_u2 (R := RF) rfl (Fr_refl _ _)) rfl
        have hA2' : FA r g m (am_u2 i2 40 n (nI b)) l1 q1 := FA_i (Ri := [40]) (Fr_u2 rfl (Fr_refl _ _)) rfl rfl rfl rfl hA2
        rw [b_X_countOrders_74]
        by_cases hs : n &&& (oW g ^^^ 4294967295) = 0
        · have eX : nX g n = bs (oA g (stG g n) (lfG g n)) (g 2) := by unfold nX; rw [if_pos hs]
          have hlf : lfG g n < 16 := (k_sub1 (oW g) hA n hG hs).2.1
          obtain ⟨i4, e4, hf4, hA4⟩ := y_ableToGo d (G := n) (lf := lfG g n) (CV_ff hf2' hC) hA2' hG hlf
          rw [hs, show decide (¬ nI 0 = (0 : Int32)) = false from rfl, cond_false, show nI n ^^^ (-1 : Int32) = nI (n ^^^ 4294967295) from q_xorm _, fa_and]
          have e4 : am_cl (d + 5) mX_ableToGo [.ref 0, .int (nI (sNow g 4)), .int (nI n), .int (nI (oW g &&& (n ^^^ 4294967295)))] (am_u2 i2 40 n (nI b), l1, rX q1, kX K) = _ := e4
          rw [e4, am_bd_some, q_app, b_X_countOrders_88, b_X_countOrders_92, hin, cond_true, nI_clamp (by omega)]
          have h40 : i4 40 = am_u2 i2 40 n (nI b) 40 := hf4 40 rfl
          have h41 : i4 41 = i2 41 := hf4 41 rfl
          refine ⟨_, .unset, rfl, rfl, FG_i (FG_i hf2' hf4 rfl) (Fr_u2 (R := RF) rfl (Fr_refl _ _)) rfl, FA_i (Ri := [41]) (Fr_u2 rfl (Fr_refl _ _)) rfl rfl rfl rfl hA4, ?_, ?_, fun G h1 h2 => ⟨?_, ?_⟩⟩
          · show i4 40 n = _
            rw [h40]; simp [am_u2]
          · rw [eX]; simp [am_u2]
          · show i4 40 G = _
            rw [h40]
            simp only [am_u2]
            rw [if_pos trivial, if_neg (by omega)]
            exact (hO G (by omega) h2).1
          · simp only [am_u2]
            rw [if_pos trivial, if_neg (by omega), h41]
            exact (hO G (by omega) h2).2
        · have eX : nX g n = 0 := by unfold nX; rw [if_neg hs]
          rw [decide_eq_true (show ¬ nI (n &&& (oW g ^^^ 4294967295)) = (0 : Int32) from by
            show ¬ nI (n &&& (oW g ^^^ 4294967295)) = nI 0
            rw [q_eq (by omega) (by omega)]; exact hs), cond_true, b_X_countOrders_92, hin, cond_true, nI_clamp (by omega)]
          refine ⟨_, .unset, rfl, rfl, FG_i hf2' (Fr_u2 (R := RF) rfl (Fr_refl _ _)) rfl, FA_i (Ri := [41]) (Fr_u2 rfl (Fr_refl _ _)) rfl rfl rfl rfl hA2', ?_, ?_, fun G h1 h2 => ⟨?_, ?_⟩⟩
          · simp [am_u2]
          · rw [eX]
            simp only [am_u2]
            rw [if_pos trivial, if_pos trivial]; rfl
          · simp only [am_u2]
            rw [if_neg (by decide), if_pos trivial, if_neg (by omega)]
            exact (hO G (by omega) h2).1
          · simp only [am_u2]
            rw [if_pos trivial, if_neg (by omega), if_neg (by decide)]
            exact (hO G (by omega) h2).2
      obtain ⟨i3, _, e3, _, hf3, hA3, h340, h341, hO3⟩ := hmid
      rw [e3]
      have hXl := nX_lt hW n
      refine am_loop (d := d + 5) (y := mX_countOrders) (pc := 96) (fun k ls s => ∃ i4, ls = [.val (.ref 0), .val (.int (nI (sNow g 4))), .val (.int (nI (oW g))), .val (.int (nI n)), .val (.int (nI k))] ∧ s = (i4, l1, rX q1, kX K) ∧ FG RF [11] [11] i i4 l l1 q q1 ∧ FA r g m i4 l1 q1 ∧ i4 40 n = nI (b + sSum (fun p => if (nX g n).testBit p = true then oV g (n ||| 2 ^ p) else 0) k) ∧ i4 41 n = nI (nX g n) ∧ ∀ G, n < G → G < 16 → i4 40 G = nI (oV g G) ∧ i4 41 G = nI (nX g G)) 4 (fun rs => ∃ i' l' q', rs = some (some (.int (nI (oV g 0))), (i', l', rX q', kX K)) ∧ FG RF [11] [11] i i' l l' q q' ∧ XF ρ i' l' q' K ∧ OD g 0 i') (fun k ls s hk hI => ?_) (fun ls s hI => ?_) ⟨i3, rfl, rfl, hf3, hA3, h340, h341, hO3⟩
      · obtain ⟨i4, e1, e2, hf4, hA4, h440, h441, hO4⟩ := hI
        subst e1; subst e2
        have hh := s_X_hasBit' (d + 4) (a := nX g n) (k := k) (by omega) (by omega) (i4, l1, rX q1, kX K)
        rw [← h441] at hh
        rw [b_X_countOrders_96, decide_eq_false (show ¬ (4 : Int32) ≤ nI k from by
          show ¬ nI 4 ≤ nI k
          rw [q_le (by omega) (by omega)]; omega), cond_false, hin, cond_true, nI_clamp (show n < 2147483648 by omega), hh, am_bd_some, q_app, b_X_countOrders_116]
        cases hb2 : (nX g n).testBit k with
        | false =>
          rw [if_neg (by decide), show decide (nI 0 = (0 : Int32)) = true from rfl, cond_true, b_X_countOrders_145, show nI k + (1 : Int32) = nI (k + 1) from nI_add k 1]
          refine Go_in ⟨i4, rfl, rfl, hf4, hA4, ?_, h441, hO4⟩
          rw [h440, sSum, hb2]; rfl
        | true =>
          obtain ⟨w1, w2, w3, w4, w5⟩ := nX_bit hW hG hb2
          have e1 : nI n ||| ((1 : Int32) <<< (nI k &&& 31)) = nI (n ||| 2 ^ k) := by rw [k_shl1 (by omega), fa_or]
          have hin2 : am_in (nI (n ||| 2 ^ k)) 16 = true := by
            unfold am_in
            rw [nI_clamp (by omega), decide_eq_true (show (0 : Int32) ≤ nI (n ||| 2 ^ k) from by
              show nI 0 ≤ nI (n ||| 2 ^ k)
              rw [q_le (by omega) (by omega)]; omega), decide_eq_true w5]; rfl
          rw [if_pos rfl, show decide (nI 1 = (0 : Int32)) = false from rfl, cond_false, hin, cond_true, e1, hin2, cond_true, cond_true, nI_clamp (show n < 2147483648 by omega), nI_clamp (show n ||| 2 ^ k < 2147483648 by omega), h440, (hO4 (n ||| 2 ^ k) w4 w5).1, nI_add, b_X_countOrders_145, show nI k + (1 : Int32) = nI (k + 1) from nI_add k 1]
          refine Go_in ⟨_, rfl, rfl, FG_i hf4 (Fr_u2 (R := RF) rfl (Fr_refl _ _)) rfl, FA_i (Ri := [40]) (Fr_u2 rfl (Fr_refl _ _)) rfl rfl rfl rfl hA4, ?_, h441, fun G h1 h2 => ⟨?_, (hO4 G h1 h2).2⟩⟩
          · rw [sSum, if_pos hb2]
            simp only [am_u2]
            rw [if_pos trivial, if_pos trivial, Nat.add_assoc]
          · simp only [am_u2]
            rw [if_pos trivial, if_neg (by omega)]
            exact (hO4 G h1 h2).1
      · obtain ⟨i4, e1, e2, hf4, hA4, h440, h441, hO4⟩ := hI
        subst e1; subst e2
        have e3 : nI n + (-1 : Int32) = mI n := mI_dec (by omega)
        rw [b_X_countOrders_96, show decide ((4 : Int32) ≤ nI 4) = true from rfl, cond_true, e3, b_X_countOrders_154]
        refine ih i4 _ (by omega) hf4 hA4 (fun G h1 h2 => ?_)
        by_cases e : G = n
        · subst e
          rw [h440, h441, ← hb, ← oV_rec hW hG]
          exact ⟨rfl, rfl⟩
        · exact hO4 G (by omega) h2
  exact loop 16 i1 _ (Nat.le_refl _) hf1 hA1 (fun G h1 h2 => by omega)
end
