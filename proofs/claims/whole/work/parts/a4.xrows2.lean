/-! THE CLASS: rows, one going more, all of it -/
section
variable {i i' : Nat → Nat → Int32} {l l' : Nat → Nat → Int64} {q q' : Nat → Nat → Option Nat} {K K' : List (Nat × Nat)} {r m v v' : Nat} {g h : Nat → Nat} {ρ : Nat → Nat → Nat} {W W' : Nat → Nat}
/-- rows as they stand -/
def RWs (g : Nat → Nat) (W : Nat → Nat) (w : Nat → Nat) (M : List Nat) (n : Nat) (i : Nat → Nat → Int32) (l : Nat → Nat → Int64) : Prop := i 30 5 = nI M.length ∧ (∀ a b, a < M.length → b < M.length → M.getD a 0 = M.getD b 0 → a = b) ∧ (∀ x, x < M.length → i (W 5) x = nI (M.getD x 0)) ∧ (∀ t, t < n → l (W 3) t = lN (w t)) ∧ (∀ t, t ∈ M ↔ w t ≠ 0) ∧ ∀ t, t ∈ M → VS g t ∧ t < 4096
def sw (W : Nat → Nat) (k : Nat) : Nat := if k = 3 then W 4 else if k = 4 then W 3 else if k = 5 then W 6 else if k = 6 then W 5 else W k
def nw (g : Nat → Nat) (w : Nat → Nat) (M : List Nat) (k t : Nat) : Nat := sSum (fun j => w (M.getD j 0) * cnt g (evb g) (M.getD j 0) t 32) k
theorem nw_le {w : Nat → Nat} {M : List Nat} {k t j : Nat} (hk : k < M.length) (hj : j ≤ 32) : nw g w M k t + w (M.getD k 0) * cnt g (evb g) (M.getD k 0) t j ≤ nw g w M M.length t := by
  have h1 : cnt g (evb g) (M.getD k 0) t j ≤ cnt g (evb g) (M.getD k 0) t 32 := by
    have := cnt_mono (g := g) (m := evb g) (s := M.getD k 0) (t := t) (n := j) (32 - j)
    rw [show j + (32 - j) = 32 by omega] at this
    exact this
  have h2 := Nat.mul_le_mul_left (w (M.getD k 0)) h1
  have h3 : nw g w M (k + 1) t ≤ nw g w M M.length t := by
    have := sSum_part (f := fun j => w (M.getD j 0) * cnt g (evb g) (M.getD j 0) t 32) (n := k + 1) (M.length - (k + 1))
    rw [show k + 1 + (M.length - (k + 1)) = M.length by omega] at this
    exact this
  have h4 : nw g w M (k + 1) t = nw g w M k t + w (M.getD k 0) * cnt g (evb g) (M.getD k 0) t 32 := rfl
  omega
theorem y_goOn (d : Nat) {w : Nat → Nat} {M : List Nat} {n : Nat} (hM : MD ρ r g m W v i l q K) (hR : RWs g W w M n i l) (hln : lK K (W 3) = n) (h8 : 8 ^ g 2 ≤ n) (hb : ∀ t, nw g w M M.length t < 2 ^ 62) : ∃ i' l' q' M', am_cl (d + 6) mRows_goOn [.ref 30] (i, l, rX q, kX K) = some (none, (i', l', rX q', kX K)) ∧ MD ρ r g m (sw W) v i' l' q' K ∧ RWs g (sw W) (nw g w M M.length) M' n i' l' ∧ GFx W i i' l l' q q' K K ∧ lK K (sw W 3) = n := by
  obtain ⟨hC, hG, ⟨n0, hS⟩, hRw, hFo, hO, hN⟩ := hM
  obtain ⟨r1, r2, r3, r4, r5, r6⟩ := hR
  obtain ⟨⟨x1, x2, x3, x4⟩, ⟨k3, k4, k5, k6⟩, n', hn', ⟨l3, l4, l5, l6⟩, hz⟩ := id hRw
  have hnn : n' = n := l3.symm.trans hln
  subst hnn
  have hW := hC.2.2.1
  have h2 : g 2 ≤ 4 := hW.2.1
  have h1 : g 1 ≤ 6 := hW.1.2
  have y1 : rX q 30 1 = some (W 3) := x1
  have y2 : rX q 30 2 = some (W 4) := x2
  have y3 : rX q 30 3 = some (W 5) := x3
  have y4 : rX q 30 4 = some (W 6) := x4
  have ne : ∀ a b, a < 10 → b < 10 → a ≠ b → W a ≠ W b := fun a b ha hb hab z => hab (hO.2 a b ha hb z)
  have n30 : ∀ a, a < 10 → W a ≠ 30 := fun a ha z => by
    have := hO.1 a ha
    unfold WDc at this
    omega
  have hlt := wkc_lt hRw hFo ⟨n0, hS.1⟩ hG.2.2.2.2.2.1.2.1
  have hMn : M.length ≤ n' := by
    apply Classical.byContradiction
    intro hc
    have hx := nd_len (L := M.take n') (n := n') (x := M.getD n' 0) (fun a b ha hb e => by
      rw [List.length_take] at ha hb
      have e1 : ∀ a, a < n' → (M.take n').getD a 0 = M.getD a 0 := fun a ha => by
        rw [List.getD_eq_getElem?_getD, List.getD_eq_getElem?_getD, List.getElem?_take_of_lt ha]
      rw [e1 a (by omega), e1 b (by omega)] at e
      exact r2 a b (by omega) (by omega) e) (fun y hy => by
        have := r6 y (List.mem_of_mem_take hy)
        exact Nat.lt_of_lt_of_le (VS_lt h2 this.2 this.1) h8) (by
        have := r6 (M.getD n' 0) (mem_getD.mpr ⟨n', by omega, rfl⟩)
        exact Nat.lt_of_lt_of_le (VS_lt h2 this.2 this.1) h8) (fun z => by
        obtain ⟨a, ha, e⟩ := mem_getD.mp z
        rw [List.length_take] at ha
        have e1 : (M.take n').getD a 0 = M.getD a 0 := by
          rw [List.getD_eq_getElem?_getD, List.getD_eq_getElem?_getD, List.getElem?_take_of_lt (show a < n' by omega)]
        rw [e1] at e
        have := r2 a n' (by omega) (by omega) e
        omega)
    rw [List.length_take] at hx
    omega
  have hin : ∀ w, w ∈ [W 0, W 3, W 4, W 6] → ∃ k, k < 10 ∧ w = W k ∧ k ≠ 1 ∧ k ≠ 2 := fun w hw => by
    simp only [List.mem_cons, List.not_mem_nil, or_false] at hw
    rcases hw with h | h | h | h
    · exact ⟨0, by decide, h, by decide, by decide⟩
    · exact ⟨3, by decide, h, by decide, by decide⟩
    · exact ⟨4, by decide, h, by decide, by decide⟩
    · exact ⟨6, by decide, h, by decide, by decide⟩
  -- all heads
  have main : ∀ f k M' i3 l3 z2 z3 z4, k + f = M.length → GOs g W w (nw g w M k) M M' n' k i3 l3 → GA r g m (W 0) v i3 l3 q K → FK [13, 14, 18, 19, 30] [W 0, W 3, W 4, W 6] [] [] i i3 l l3 q q K K → ∃ i4 l4 M4, am_Ex (d + 5) mRows_goOn 7 [.val (.ref 30), .val (.int (nI k)), z2, z3, z4] [] (i3, l3, rX q, kX K) = some (none, (am_u2 i4 30 5 (i4 30 6), l4, am_u2 (am_u2 (am_u2 (am_u2 (rX q) 30 1 (some (W 4))) 30 2 (some (W 3))) 30 3 (some (W 6))) 30 4 (some (W 5)), kX K)) ∧ GOs g W w (nw g w M M.length) M M4 n' M.length i4 l4 ∧ GA r g m (W 0) v i4 l4 q K ∧ FK [13, 14, 18, 19, 30] [W 0, W 3, W 4, W 6] [] [] i i4 l l4 q q K K := by
    intro f
    induction f with
    | zero =>
      intro k M' i3 l3 z2 z3 z4 hk hGO hG3 hF3
      have hk : k = M.length := by omega
      subst hk
      refine ⟨i3, l3, M', ?_, hGO, hG3, hF3⟩
      rw [b_Rows_goOn_7, hGO.1, decide_eq_true (show nI M.length ≤ nI M.length from by rw [q_le (by omega) (by omega)]; exact Nat.le_refl _), cond_true, y1, y2, y3, y4]
    | succ f ih =>
      intro k M' i3 l3 z2 z3 z4 hk hGO hG3 hF3
      have hkM : k < M.length := by omega
      obtain ⟨s, hs⟩ : ∃ s, M.getD k 0 = s := ⟨_, rfl⟩
      have hsM : s ∈ M := mem_getD.mpr ⟨k, hkM, hs⟩
      obtain ⟨hvs, hs4⟩ := r6 s hsM
      have hws : w s ≠ 0 := (r5 s).mp hsM
      have hsn : s < n' := Nat.lt_of_lt_of_le (VS_lt h2 hs4 hvs) h8
      have hV3 : RV (i3, l3, rX q, kX K) r g := RV_fk hF3 rfl rfl (fun w hw => by obtain ⟨k, hk, rfl, _⟩ := hin w hw; exact hN k hk) hC.2.1
      obtain ⟨i4, b, e4, hEb, _, _, hfr4, hG4⟩ := y_endsOf (i := i3) (l := l3) (q := q) (K := K) d hV3 hW (hN 0 (by decide)) hG3 hs4 hvs
      have r4w : ∀ a, a < 10 → a ≠ 0 → i4 (W a) = i3 (W a) := fun a ha h0 => hfr4 (W a) (wd_no (hO.1 a ha) rfl) (ne a 0 ha (by decide) h0)
      have r430 : i4 30 = i3 30 := hfr4 30 rfl (fun z => n30 0 (by decide) z.symm)
      have hGO4 : GOs g W w (nw g w M k) M M' n' k i4 l3 := by
        unfold GOs at hGO ⊢
        rw [r430, r4w 5 (by decide) (by decide), r4w 6 (by decide) (by decide)]
        exact hGO
      have hF4 : FK [13, 14, 18, 19, 30] [W 0, W 3, W 4, W 6] [] [] i i4 l l3 q q K K := FK_tr hF3 (Ri' := [13, 14, 18, 19]) (ws' := [W 0]) (Rl' := []) (Rq' := []) ⟨⟨[], by rw [List.append_nil]⟩, fun c _ => ⟨fun z1 z2 => hfr4 c z1 (fun z => by rw [z] at z2; simp at z2), fun _ _ => rfl, fun _ => rfl⟩⟩ rfl rfl rfl (fun w hw => Or.inl (by rw [List.mem_singleton.mp hw]; simp))
      rw [b_Rows_goOn_7, hGO.1, decide_eq_false (show ¬ nI M.length ≤ nI k from by rw [q_le (by omega) (by omega)]; omega), cond_false, y3]
      dsimp only
      rw [in100 k5 l5 hn' (show k < n' by omega), cond_true, nI_clamp (by omega), hGO.2.1 k hkM, hs, e4, am_bd_some, q_app, b_Rows_goOn_30]
      -- the bits of one head
      have inner : ∀ f2 j M5 i5 l5, j + f2 = 32 → GOs g W w (fun t => nw g w M k t + w s * cnt g (evb g) s t j) M M5 n' k i5 l5 → GA r g m (W 0) v i5 l5 q K → FK [13, 14, 18, 19, 30] [W 0, W 3, W 4, W 6] [] [] i i5 l l5 q q K K → ∃ i4 l4 M4, am_Ex (d + 5) mRows_goOn 34 [.val (.ref 30), .val (.int (nI k)), .val (.int (nI s)), .val (.int b), .val (.int (nI j))] [] (i5, l5, rX q, kX K) = some (none, (am_u2 i4 30 5 (i4 30 6), l4, am_u2 (am_u2 (am_u2 (am_u2 (rX q) 30 1 (some (W 4))) 30 2 (some (W 3))) 30 3 (some (W 6))) 30 4 (some (W 5)), kX K)) ∧ GOs g W w (nw g w M M.length) M M4 n' M.length i4 l4 ∧ GA r g m (W 0) v i4 l4 q K ∧ FK [13, 14, 18, 19, 30] [W 0, W 3, W 4, W 6] [] [] i i4 l l4 q q K K := by
        intro f2
        induction f2 with
        | zero =>
          intro j M5 i5 l5 hj hGO5 hG5 hF5
          have hj : j = 32 := by omega
          subst hj
          rw [b_Rows_goOn_34, show decide ((32 : Int32) ≤ nI 32) = true from rfl, cond_true, y1]
          dsimp only
          rw [in101 k3 hln hn' hsn, cond_true, nI_clamp (by omega), show nI k + (1 : Int32) = nI (k + 1) from nI_add k 1]
          have hF6 : FK [] [W 3] [] [] i5 i5 l5 (am_u2 l5 (W 3) s 0) q q K K := ⟨⟨[], by rw [List.append_nil]⟩, fun c _ => ⟨fun _ _ => rfl, fun _ z => by
            funext t
            unfold am_u2
            rw [if_neg (fun e => by rw [e] at z; simp at z)], fun _ => rfl⟩⟩
          refine ih (k + 1) M5 i5 (am_u2 l5 (W 3) s 0) _ _ _ (by omega) ?_ (GA_fk hF6 rfl rfl rfl rfl rfl (fun w hw => by rw [List.mem_singleton.mp hw]; exact ⟨hO.1 3 (by decide), ne 3 0 (by decide) (by decide) (by decide)⟩) hG5) (FK_tr hF5 hF6 rfl rfl rfl (fun w hw => Or.inl (by rw [List.mem_singleton.mp hw]; simp)))
          have hGO6 : GOs g W w (nw g w M (k + 1)) M M5 n' k i5 l5 := GOs_eq (fun t => by
            show nw g w M k t + w (M.getD k 0) * cnt g (evb g) (M.getD k 0) t 32 = _
            rw [hs]) hGO5
          obtain ⟨h1, h3, h4, h5, h6, h7, h8', h9, h10⟩ := hGO6
          refine ⟨h1, h3, h4, h5, h6, h7, h8', fun t ht => ?_, fun t ht => ?_⟩
          · unfold am_u2
            rw [if_neg (ne 4 3 (by decide) (by decide) (by decide))]; exact h9 t ht
          · unfold am_u2
            rw [if_pos rfl]
            by_cases c : t = s
            · rw [if_pos c, if_pos (inK_iff.mpr ⟨k, by omega, by rw [hs, c]⟩)]; rfl
            · rw [if_neg c, h10 t ht]
              by_cases c2 : inK M k t = true
              · obtain ⟨a, ha, e⟩ := inK_iff.mp c2
                rw [if_pos c2, if_pos (inK_iff.mpr ⟨a, by omega, e⟩)]
              · rw [if_neg c2, if_neg (fun z => by
                  obtain ⟨a, ha, e⟩ := inK_iff.mp z
                  by_cases c3 : a = k
                  · rw [c3, hs] at e; exact c e.symm
                  · exact c2 (inK_iff.mpr ⟨a, by omega, e⟩))]
        | succ f2 ih2 =>
          intro j M5 i5 l5 hj hGO5 hG5 hF5
          have hj32 : j < 32 := by omega
          have hh := s_X_hasBit (d + 4) b (k := j) hj32 (i5, l5, rX q, kX K)
          rw [hEb j hj32, avl_15 h2] at hh
          rw [b_Rows_goOn_34, decide_eq_false (show ¬ (32 : Int32) ≤ nI j from by
            show ¬ nI 32 ≤ nI j
            rw [q_le (by omega) (by omega)]; omega), cond_false, hh, am_bd_some, q_app, b_Rows_goOn_47]
          cases hav : avl g (evb g) s j with
          | false =>
            rw [if_neg (by decide), show decide (nI 0 = (0 : Int32)) = true from rfl, cond_true, b_Rows_goOn_66, show nI j + (1 : Int32) = nI (j + 1) from nI_add j 1]
            refine ih2 (j + 1) M5 i5 l5 (by omega) (GOs_eq (fun t => ?_) hGO5) hG5 hF5
            rw [cnt_s, if_neg (fun z => by rw [hav] at z; cases z.1), Nat.add_zero]
          | true =>
            obtain ⟨hvt, ht4⟩ := VS_go h2 h1 hs4 hvs hav
            have htn : tgt s j < n' := Nat.lt_of_lt_of_le (VS_lt h2 ht4 hvt) h8
            rw [if_pos rfl, show decide (nI 1 = (0 : Int32)) = false from rfl, cond_false, s_Goings_gone (d + 3) hs4 hj32, am_bd_some]
            show ∃ i4 l4 M4, am_Ex _ _ _ _ [.int (nI (tgt s j)), .ref 30] _ = _ ∧ _
            have hl3s : l5 (W 3) s = lN (w s) := by
              rw [hGO5.2.2.2.2.2.2.2.2 s hsn, if_neg (fun z => by
                obtain ⟨a, ha, e⟩ := inK_iff.mp z
                have := r2 a k (by omega) hkM (e.trans hs.symm)
                omega)]
            rw [b_Rows_goOn_57, y1]
            dsimp only
            rw [in101 k3 hln hn' hsn, cond_true, nI_clamp (by omega), hl3s]
            obtain ⟨M6, hGO6, hcl⟩ := GOs_add h2 h8 hO hws hvt ht4 hGO5
            have hbt : nw g w M k (tgt s j) + w s * cnt g (evb g) s (tgt s j) j < 2 ^ 62 := by
              have := nw_le (g := g) (w := w) (t := tgt s j) (j := j) hkM (by omega)
              rw [hs] at this
              have := hb (tgt s j)
              omega
            rw [y_add (d + 4) y2 y4 k4 k6 l4 l6 hn' htn (hGO5.2.2.2.2.2.2.2.1 _ htn) hbt hGO5.2.2.1.1 hGO5.2.2.1.2 hcl (n30 6 (by decide)), am_bd_some, q_app0, b_Rows_goOn_66, show nI j + (1 : Int32) = nI (j + 1) from nI_add j 1]
            have hF6 : FK [30] [W 4, W 6] [] [] i5 (if nw g w M k (tgt s j) + w s * cnt g (evb g) s (tgt s j) j = 0 then am_u2 (am_u2 i5 (W 6) M5.length (nI (tgt s j))) 30 6 (nI (M5.length + 1)) else i5) l5 (am_u2 l5 (W 4) (tgt s j) (lN (nw g w M k (tgt s j) + w s * cnt g (evb g) s (tgt s j) j + w s))) q q K K := ⟨⟨[], by rw [List.append_nil]⟩, fun c _ => ⟨fun z1 z2 => by
              have n1 : c ≠ 30 := fun e => by rw [e] at z1; cases z1
              have n2 : c ≠ W 6 := fun e => by rw [e] at z2; simp at z2
              split
              · funext t
                unfold am_u2
                rw [if_neg n1, if_neg n2]
              · rfl, fun _ z => by
              funext t
              unfold am_u2
              rw [if_neg (fun e => by rw [e] at z; simp at z)], fun _ => rfl⟩⟩
            refine ih2 (j + 1) M6 _ _ (by omega) (GOs_eq (fun t => ?_) hGO6) (GA_fk hF6 rfl rfl rfl rfl rfl (fun w hw => ?_) hG5) (FK_tr hF5 hF6 rfl rfl rfl (fun w hw => Or.inl ?_))
            · rw [cnt_s]
              by_cases c : tgt s j = t
              · rw [if_pos ⟨hav, c⟩, if_pos c, Nat.mul_add, Nat.mul_one]; omega
              · rw [if_neg (fun z => c z.2), if_neg c]; rfl
            · rcases List.mem_cons.mp hw with h | h
              · rw [h]; exact ⟨hO.1 4 (by decide), ne 4 0 (by decide) (by decide) (by decide)⟩
              · rw [List.mem_singleton.mp h]; exact ⟨hO.1 6 (by decide), ne 6 0 (by decide) (by decide) (by decide)⟩
            · rcases List.mem_cons.mp hw with h | h
              · rw [h]; simp
              · rw [List.mem_singleton.mp h]; simp
      exact inner 32 0 M' i4 l3 (by omega) (GOs_eq (fun t => by rw [cnt, Nat.mul_zero, Nat.add_zero]) hGO4) hG4 hF4
  have hF0' : FK [30] [] [] [] i (am_u2 i 30 6 (nI 0)) l l q q K K := ⟨⟨[], by rw [List.append_nil]⟩, fun c _ => ⟨fun z1 _ => by
    funext t
    unfold am_u2
    rw [if_neg (fun e => by rw [e] at z1; cases z1)], fun _ _ => rfl, fun _ => rfl⟩⟩
  have hF0 : FK [13, 14, 18, 19, 30] [W 0, W 3, W 4, W 6] [] [] i (am_u2 i 30 6 (nI 0)) l l q q K K := FK_tr (FK_refl _ _ _ _ _ _ _ _) hF0' rfl rfl rfl (fun w hw => by cases hw)
  have hGO0 : GOs g W w (nw g w M 0) M [] n' 0 (am_u2 i 30 6 (nI 0)) l := by
    refine ⟨?_, fun x hx => ?_, ⟨?_, Nat.zero_le _⟩, fun a b ha => absurd ha (Nat.not_lt_zero _), fun x hx => absurd hx (Nat.not_lt_zero _), fun t => ⟨fun z => (by cases z), fun z => absurd rfl z⟩, fun t ht => (by cases ht), fun t ht => ?_, fun t ht => ?_⟩
    · unfold am_u2; rw [if_pos rfl, if_neg (by decide)]; exact r1
    · unfold am_u2; rw [if_neg (n30 5 (by decide))]; exact r3 x hx
    · unfold am_u2; rw [if_pos rfl, if_pos rfl]; rfl
    · exact hz t ht
    · rw [if_neg (fun z => by obtain ⟨a, ha, _⟩ := inK_iff.mp z; exact absurd ha (Nat.not_lt_zero _))]
      exact r4 t ht
  obtain ⟨i4, l4', M4, e4, hGO4, hG4, hF4⟩ := main M.length 0 [] (am_u2 i 30 6 (nI 0)) l .unset .unset .unset (by omega) hGO0 (GA_fk hF0' rfl rfl rfl rfl rfl (fun w hw => by cases hw) hG) hF0
  obtain ⟨g1, g3, ⟨g4, g4'⟩, g5, g6, g7, g8, g9, g10⟩ := hGO4
  obtain ⟨q5, hq5⟩ : ∃ q5, am_u2 (am_u2 (am_u2 (am_u2 q 30 1 (some (W 4))) 30 2 (some (W 3))) 30 3 (some (W 6))) 30 4 (some (W 5)) = q5 := ⟨_, rfl⟩
  obtain ⟨i5, hi5⟩ : ∃ i5, am_u2 i4 30 5 (i4 30 6) = i5 := ⟨_, rfl⟩
  rw [rX_u2 _ _ rfl, rX_u2 _ _ rfl, rX_u2 _ _ rfl, rX_u2 _ _ rfl, hq5, hi5] at e4
  have hq30 : q5 30 1 = some (W 4) ∧ q5 30 2 = some (W 3) ∧ q5 30 3 = some (W 6) ∧ q5 30 4 = some (W 5) := by
    rw [← hq5]; simp [am_u2]
  have hi30 : i5 30 5 = nI M4.length := by rw [← hi5]; unfold am_u2; rw [if_pos rfl, if_pos rfl]; exact g4
  have hio : ∀ c, c ≠ 30 → i5 c = i4 c := fun c hc => by rw [← hi5]; funext t; unfold am_u2; rw [if_neg hc]
  have hF5 : FK [30] [] [] [30] i4 i5 l4' l4' q q5 K K := ⟨⟨[], by rw [List.append_nil]⟩, fun c _ => ⟨fun z1 _ => hio c (fun e => by rw [e] at z1; cases z1), fun _ _ => rfl, fun z => by
    have hc : c ≠ 30 := fun e => by rw [e] at z; cases z
    rw [← hq5]; funext t; unfold am_u2; rw [if_neg hc, if_neg hc, if_neg hc, if_neg hc]⟩⟩
  have hFw : FK [13, 14, 18, 19, 30] [W 0, W 3, W 4, W 6] [] [30] i i4 l l4' q q K K := FK_tr (FK_refl _ _ _ _ _ _ _ _) hF4 rfl rfl rfl (fun w hw => Or.inl hw)
  have hFa : FK [13, 14, 18, 19, 30] [W 0, W 3, W 4, W 6] [] [30] i i5 l l4' q q5 K K := FK_tr hFw hF5 rfl rfl rfl (fun w hw => by cases hw)
  have hrow : ∀ c, c < 58 + K.length → ([13, 14, 18, 19, 30] : List Nat).contains c = false → (∀ k, k < 10 → k ≠ 1 → k ≠ 2 → c ≠ W k) → i5 c = i c := fun c hc h1 h2 => (hFa.2 c hc).1 h1 (nc_of (fun w hw e => by
    obtain ⟨k, hk, rfl, k1, k2⟩ := hin w hw
    exact h2 k hk k1 k2 e.symm))
  have pi : ∀ k, k < 10 → ∃ j, j < 10 ∧ sw W k = W j ∧ j = (if k = 3 then 4 else if k = 4 then 3 else if k = 5 then 6 else if k = 6 then 5 else k) := fun k hk => by
    unfold sw
    by_cases c3 : k = 3
    · rw [if_pos c3, if_pos c3]; exact ⟨4, by decide, rfl, rfl⟩
    · rw [if_neg c3, if_neg c3]
      by_cases c4 : k = 4
      · rw [if_pos c4, if_pos c4]; exact ⟨3, by decide, rfl, rfl⟩
      · rw [if_neg c4, if_neg c4]
        by_cases c5 : k = 5
        · rw [if_pos c5, if_pos c5]; exact ⟨6, by decide, rfl, rfl⟩
        · rw [if_neg c5, if_neg c5]
          by_cases c6 : k = 6
          · rw [if_pos c6, if_pos c6]; exact ⟨5, by decide, rfl, rfl⟩
          · rw [if_neg c6, if_neg c6]; exact ⟨k, hk, rfl, rfl⟩
  refine ⟨i5, l4', q5, M4, ?_, ⟨?_, ?_, ⟨n0, ?_⟩, ⟨hq30, ⟨k4, k3, k6, k5⟩, n', hn', ⟨l4, l3, l6, l5⟩, fun k hk => ?_⟩, ?_, ⟨fun k hk => ?_, fun a b ha hb hab => ?_⟩, fun k hk => ?_⟩, ⟨hi30, g5, fun x hx => ?_, g9, g7, g8⟩, ?_, l4⟩
  · rw [c_Rows_goOn, b_Rows_goOn_0]
    exact e4
  · exact CV_fk hFa rfl rfl rfl rfl (fun w hw => by obtain ⟨k, hk, rfl, _⟩ := hin w hw; exact hN k hk) (fun w hw => by obtain ⟨k, hk, rfl, _⟩ := hin w hw; exact hO.1 k hk) hC
  · exact GA_fk hF5 rfl rfl rfl rfl rfl (fun w hw => by cases hw) hG4
  · exact SS_fk hFa rfl (hrow 27 (by omega) rfl (fun k hk _ _ => (wd27 (hO.1 k hk)).1)) (hrow (W 1) (hlt 1 (by decide)) (wd_no (hO.1 1 (by decide)) rfl) (fun k hk k1 _ => ne 1 k (by decide) hk (fun e => k1 e.symm))) (hrow (W 2) (hlt 2 (by decide)) (wd_no (hO.1 2 (by decide)) rfl) (fun k hk _ k2 => ne 2 k (by decide) hk (fun e => k2 e.symm))) hS
  · show l4' (W 3) k = 0
    rw [g10 k hk]
    by_cases c : inK M M.length k = true
    · rw [if_pos c]; rfl
    · have : w k = 0 := Classical.byContradiction fun z => c (inK_iff.mpr (mem_getD.mp ((r5 k).mpr z)))
      rw [if_neg c, this]; rfl
  · exact XFo_fk hFa rfl hFo
  · obtain ⟨j, hj, e, _⟩ := pi k hk
    rw [e]; exact hO.1 j hj
  · obtain ⟨j, hj, e, ej⟩ := pi a ha
    obtain ⟨j', hj', e', ej'⟩ := pi b hb
    rw [e, e'] at hab
    have := hO.2 j j' hj hj' hab
    rw [ej, ej'] at this
    have key : ∀ a, a < 10 → ∀ b, b < 10 → (if a = 3 then 4 else if a = 4 then 3 else if a = 5 then 6 else if a = 6 then 5 else a) = (if b = 3 then 4 else if b = 4 then 3 else if b = 5 then 6 else if b = 6 then 5 else b) → a = b := by decide
    exact key a ha b hb this
  · obtain ⟨j, hj, e, _⟩ := pi k hk
    rw [e]; exact RNc_fk hFa rfl hC.2.1 (hN j hj)
  · show i5 (W 6) x = _
    rw [hio (W 6) (n30 6 (by decide))]; exact g6 x hx
  · refine GFx_of hFa rfl rfl rfl (fun w hw => by obtain ⟨k, hk, rfl, _⟩ := hin w hw; exact ⟨k, hk, rfl⟩) ?_
    have hq0 : QW W q := ⟨hG.2.2.1, hS.1.1, hRw.1, hFo.1⟩
    have hq1 : QW (sw W) q5 := ⟨by rw [(hFa.2 22 (by omega)).2.2 rfl]; exact hq0.1, by rw [(hFa.2 27 (by omega)).2.2 rfl]; exact hq0.2.1, hq30, by rw [(hFa.2 35 (by omega)).2.2 rfl]; exact hq0.2.2.2⟩
    have p1 := PHI_q (K := K) hq0
    have p2 := PHI_q (K := K) hq1
    rw [show sw W 0 = W 0 from rfl, show sw W 1 = W 1 from rfl, show sw W 2 = W 2 from rfl, show sw W 3 = W 4 from rfl, show sw W 4 = W 3 from rfl, show sw W 5 = W 6 from rfl, show sw W 6 = W 5 from rfl, show sw W 7 = W 7 from rfl, show sw W 8 = W 8 from rfl, show sw W 9 = W 9 from rfl] at p2
    unfold GW
    omega
theorem MQx_sw : MQx K W (sw W) := fun k hk => Or.inl (by
  unfold sw
  split
  · exact ⟨4, by decide, rfl⟩
  · split
    · exact ⟨3, by decide, rfl⟩
    · split
      · exact ⟨6, by decide, rfl⟩
      · split
        · exact ⟨5, by decide, rfl⟩
        · exact ⟨k, hk, rfl⟩)
end
