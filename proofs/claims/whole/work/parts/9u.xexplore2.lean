/-! THE CLASS: a search is gone through -/
section
variable {i i' : Nat → Nat → Int32} {l l' : Nat → Nat → Int64} {q q' : Nat → Nat → Option Nat} {K K' : List (Nat × Nat)} {r m : Nat} {g : Nat → Nat} {ρ : Nat → Nat → Nat}
theorem kd_fk {Ri ws Rl Rq : List Nat} (h : FK Ri ws Rl Rq i i' l l' q q' K K') {c : Nat} (hc : c < 58 + K.length) : kK K' c = kK K c ∧ lK K' c = lK K c := by
  obtain ⟨⟨L, rfl⟩, _⟩ := h
  unfold kK lK
  have hkL : kX (K ++ L) = kX K ++ L := by unfold kX; rw [List.append_assoc]
  rw [hkL]
  exact kd_app (by rw [kX_len]; exact hc)
theorem kK_lt {c n : Nat} (h : kK K c = n) (hn : n < 999) : c < 58 + K.length := by
  have := kd_lt (K := kX K) h hn
  rw [kX_len] at this
  exact this
theorem GA_fk {Ri ws Rl Rq : List Nat} {e v : Nat} (h : FK Ri ws Rl Rq i i' l l' q q' K K') (hR : ([18, 19, 20, 21, 22].all fun x => !Ri.contains x) = true) (hR2 : (Ri.all fun x => !(x == 26 || x == 28 || x == 29 || x == 31 || x == 32 || x == 33 || x == 34 || x == 36 || x == 37 || x == 38) && Nat.blt x 58) = true) (hl : Rl.contains 11 = false) (hq : Rq.contains 11 = false) (hq2 : Rq.contains 22 = false) (hw : ∀ w, w ∈ ws → WDc w ∧ w ≠ e) (hG : GA r g m e v i l q K) : GA r g m e v i' l' q' K' := by
  obtain ⟨⟨f1, f2, f3, f4, f5⟩, q1, q3, i4, i2, ⟨we, ke, l1, l2⟩, hV⟩ := hG
  have he := kK_lt ke (by decide)
  obtain ⟨ke', le'⟩ := kd_fk h he
  have row : ∀ t, t = 18 ∨ t = 19 ∨ t = 20 ∨ t = 21 ∨ t = 22 → i' t = i t := fun t ht => by
    refine (h.2 t (by omega)).1 ?_ (nc_of (fun w hw' => ?_))
    · have := List.all_eq_true.mp hR t (by rcases ht with rfl | rfl | rfl | rfl | rfl <;> simp)
      simpa using this
    · have := (hw w hw').1
      rcases this with h | h | h | h | h | h | h | h | h | h | h <;> omega
  have rowe : i' e = i e := (h.2 e he).1 (wd_no we hR2) (nc_of (fun w hw' => (hw w hw').2))
  have w11 : ws.contains 11 = false := nc_of (fun w hw' => by
    have := (hw w hw').1
    rcases this with h | h | h | h | h | h | h | h | h | h | h <;> omega)
  refine ⟨⟨by rw [(h.2 11 (by omega)).2.2 hq]; exact f1, by rw [(h.2 11 (by omega)).2.1 hl w11]; exact f2, f3, ?_, ?_⟩, by rw [(h.2 22 (by omega)).2.2 hq2]; exact q1, by rw [(h.2 22 (by omega)).2.2 hq2]; exact q3, by rw [row 22 (by omega)]; exact i4, by rw [row 22 (by omega)]; exact i2, ⟨we, ke'.trans ke, by rw [le']; exact l1, by rw [le']; exact l2⟩, ?_⟩
  · unfold TV at f4 ⊢
    rw [row 18 (by omega), row 19 (by omega)]; exact f4
  · unfold HV at f5 ⊢
    rw [row 20 (by omega), row 21 (by omega)]; exact f5
  · unfold GV at hV ⊢
    rw [rowe]; exact hV
theorem SL_add {cm qu n x : Nat} {L : List Nat} {by_ : Int32} (hS : SL cm qu n L i) (hx : x < n) (hxL : x ∉ L) (hNn : L.length < n) (hb : by_ ≠ nI 0) (h1 : ∀ k, i' cm k = if k = x then by_ else i cm k) (h2 : ∀ k, i' qu k = if k = L.length then nI x else i qu k) (h3 : i' 27 3 = nI (L.length + 1)) : SL cm qu n (L ++ [x]) i' := by
  obtain ⟨s1, s2, s3, s4, s5⟩ := hS
  have hlen : (L ++ [x]).length = L.length + 1 := by simp
  refine ⟨by rw [hlen]; exact h3, by omega, fun k hk => ?_, fun y hy => ?_, fun y hy => ?_⟩
  · rw [hlen] at hk
    rw [h2, getD_app]
    by_cases c : k = L.length
    · rw [if_pos c, if_pos c]
    · rw [if_neg c, if_neg c]; exact s3 k (by omega)
  · rcases List.mem_append.mp hy with h | h
    · exact s4 y h
    · rw [List.mem_singleton.mp h]; exact hx
  · rw [h1]
    by_cases c : y = x
    · rw [if_pos c]
      exact ⟨fun _ => List.mem_append.mpr (Or.inr (List.mem_singleton.mpr c)), fun _ => hb⟩
    · rw [if_neg c, s5 y hy]
      constructor
      · intro z; exact List.mem_append.mpr (Or.inl z)
      · intro z
        rcases List.mem_append.mp z with h | h
        · exact h
        · exact absurd (List.mem_singleton.mp h) c
/-- how it comes out -/
def OUT (g : Nat → Nat) (mv a : Nat) (z : Option Nat) (L : List Nat) (i : Nat → Nat → Int32) : Prop := (i 27 5 = -nI 1 ∧ L = stds g mv false a ∧ ∀ x, x ∈ L → gz g z x = false) ∨ (i 27 5 = nI (L.getD (L.length - 1) 0) ∧ gz g z (L.getD (L.length - 1) 0) = true ∧ (∀ j, j < L.length - 1 → gz g z (L.getD j 0) = false) ∧ ∀ x, x ∈ L → x ∈ stds g mv false a)
/-- a search's state behind it -/
def SR (g : Nat → Nat) (mv a v : Nat) (z : Option Nat) (cm qu n : Nat) (L : List Nat) (κ : Nat → Nat) (pb : Nat) (i : Nat → Nat → Int32) : Prop := SL cm qu n L i ∧ SX g mv a cm L κ pb i ∧ (i 27 4 = vW z ∧ i 27 6 = nI a ∧ i 27 7 = nI mv ∧ i 27 8 = nI v) ∧ OUT g mv a z L i
theorem y_loop (d : Nat) {e v cm qu n mv a : Nat} {z : Option Nat} {y : Int32} (hW : WG g) (hV : RV (i, l, rX q, kX K) r g) (hN : RNc q r e) (hN1 : RNc q r cm) (hN2 : RNc q r qu) (hS : SC cm qu n q K) (hn8 : 8 ^ g 2 ≤ n) (hec : e ≠ cm) (heq : e ≠ qu) (hz : ∀ zz, z = some zz → zz < 16) (hy : mvI mv y) (ha : a < 4096) :
    ∀ f k L κ i1 z1 z2 z3 z6 z7 z8, k + f = n → L = bfs g mv false a k → k ≤ L.length → SL cm qu n L i1 → SX g mv a cm L κ (32 * k) i1 → i1 27 5 = -nI 1 → (∀ x, x ∈ L → gz g z x = false) → (i1 27 4 = vW z ∧ i1 27 6 = nI a ∧ i1 27 7 = nI mv ∧ i1 27 8 = nI v) → GA r g m e v i1 l q K → FK [13, 14, 18, 19, 27] [e, cm, qu] [] [] i i1 l l q q K K →
    ∃ i' L κ pb, am_Ex (d + 6) mSearch_explore 88 [.val (.ref 27), z1, z2, z3, .val (.int y), .val (.int (nI k)), z6, z7, z8] [] (i1, l, rX q, kX K) = some (some (.int (i' 27 5)), (i', l, rX q, kX K)) ∧ SR g mv a v z cm qu n L κ pb i' ∧ GA r g m e v i' l q K ∧ FK [13, 14, 18, 19, 27] [e, cm, qu] [] [] i i' l l q q K K := by
  obtain ⟨⟨q1, q2⟩, ⟨w1, w2, w3⟩, ⟨k1, k2⟩, l1, l2, hn⟩ := id hS
  have q2' : rX q 27 2 = some qu := q2
  have h2 := hW.2.1
  have kq : ∀ i' : Nat → Nat → Int32, (Nat.ble 100 (am_kd (i', l, rX q, kX K) qu) && Nat.ble (am_kd (i', l, rX q, kX K) qu) 105) = true := fun i' => by rw [show am_kd (i', l, rX q, kX K) qu = 100 from k2]; rfl
  intro f
  induction f with
  | zero =>
    intro k L κ i1 z1 z2 z3 z6 z7 z8 hk hL hkL hSL hSX h5 hng hfl hG hF
    have hlen : L.length ≤ k := by have := hSL.2.1; omega
    rw [b_Search_explore_88, hSL.1, decide_eq_true (show nI L.length ≤ nI k from by rw [q_le (by omega) (by omega)]; exact hlen), cond_true, b_Search_explore_202]
    refine ⟨i1, L, κ, 32 * k, rfl, ⟨hSL, hSX, hfl, Or.inl ⟨h5, ?_, hng⟩⟩, hG, hF⟩
    have := bfs_stop (g := g) (m := mv) (t := false) (a := a) (k := k) (by rw [← hL]; exact hlen) (4096 - k)
    rw [show k + (4096 - k) = 4096 by omega] at this
    rw [hL]; exact this.symm
  | succ f ih =>
    intro k L κ i1 z1 z2 z3 z6 z7 z8 hk hL hkL hSL hSX h5 hng hfl hG hF
    by_cases cl : L.length ≤ k
    · rw [b_Search_explore_88, hSL.1, decide_eq_true (show nI L.length ≤ nI k from by rw [q_le (by omega) (by omega)]; exact cl), cond_true, b_Search_explore_202]
      refine ⟨i1, L, κ, 32 * k, rfl, ⟨hSL, hSX, hfl, Or.inl ⟨h5, ?_, hng⟩⟩, hG, hF⟩
      have := bfs_stop (g := g) (m := mv) (t := false) (a := a) (k := k) (by rw [← hL]; exact cl) (4096 - k)
      rw [show k + (4096 - k) = 4096 by omega] at this
      rw [hL]; exact this.symm
    · have hkl : k < L.length := by omega
      obtain ⟨s, hs⟩ : ∃ s, L.getD k 0 = s := ⟨_, rfl⟩
      have hsL : s ∈ L := mem_getD.mpr ⟨k, hkl, hs⟩
      obtain ⟨hvs, hs4⟩ := hSX.2.1 s hsL
      have hV1 : RV (i1, l, rX q, kX K) r g := RV_fk hF rfl rfl (fun w hw => by
        rcases List.mem_cons.mp hw with h | h
        · rw [h]; exact hN
        · rcases List.mem_cons.mp h with h | h
          · rw [h]; exact hN1
          · rw [List.mem_singleton.mp h]; exact hN2) hV
      obtain ⟨i2, b, e2, hEb, _, _, hfr2, hG2⟩ := y_endsOf (i := i1) (l := l) (q := q) (K := K) (d + 1) hV1 hW hN hG hs4 hvs
      have hnc : ([13, 14, 18, 19] : List Nat).contains cm = false := wd_no w1 rfl
      have hnq : ([13, 14, 18, 19] : List Nat).contains qu = false := wd_no w2 rfl
      have h2cm : i2 cm = i1 cm := hfr2 cm hnc (fun z => hec z.symm)
      have h2qu : i2 qu = i1 qu := hfr2 qu hnq (fun z => heq z.symm)
      have h227 : i2 27 = i1 27 := hfr2 27 rfl (wd27 hG.2.2.2.2.2.1.1).1
      have hSL2 : SL cm qu n L i2 := by unfold SL at hSL ⊢; rw [h2cm, h2qu, h227]; exact hSL
      have hSX2 : SX g mv a cm L κ (32 * k) i2 := by unfold SX at hSX ⊢; rw [h2cm]; exact hSX
      have hF2 : FK [13, 14, 18, 19, 27] [e, cm, qu] [] [] i i2 l l q q K K := FK_tr hF (Ri' := [13, 14, 18, 19]) (ws' := [e]) (Rl' := []) (Rq' := []) ⟨⟨[], by rw [List.append_nil]⟩, fun c _ => ⟨fun z1 z2 => hfr2 c z1 (fun z => by rw [z] at z2; simp at z2), fun _ _ => rfl, fun _ => rfl⟩⟩ rfl rfl rfl (fun w hw => Or.inl (by rw [List.mem_singleton.mp hw]; simp))
      have hqk : i1 qu k = nI s := by rw [hSL.2.2.1 k hkl, hs]
      rw [b_Search_explore_88, hSL.1, decide_eq_false (show ¬ nI L.length ≤ nI k from by rw [q_le (by have := hSL.2.1; omega) (by omega)]; exact cl), cond_false, q2']
      dsimp only
      rw [kq, cond_true, decide_eq_false (show ¬ Int32.ofNat (am_ln (i1, l, rX q, kX K) qu) ≤ nI k from by
        rw [show am_ln (i1, l, rX q, kX K) qu = n from l2]
        show ¬ nI n ≤ nI k
        rw [q_le (by omega) (by omega)]; omega), cond_false, h5, show decide (¬ -nI 1 = (-1 : Int32)) = false from rfl, cond_false, show (Nat.beq (am_kd (i1, l, rX q, kX K) qu) 100 && am_in (nI k) (am_ln (i1, l, rX q, kX K) qu)) = true from by
        rw [show am_kd (i1, l, rX q, kX K) qu = 100 from k2, show am_ln (i1, l, rX q, kX K) qu = n from l2, in16 (show k < n by omega) (by omega)]; rfl, cond_true, nI_clamp (by omega), hqk, e2, am_bd_some, q_app, b_Search_explore_133]
      -- the bits of one head
      have inner : ∀ j c L1 κ1 i3, c + j = 32 → L1 = sweepL g mv s c L → SL cm qu n L1 i3 → SX g mv a cm L1 κ1 (32 * k + c) i3 → i3 27 5 = -nI 1 → (∀ x, x ∈ L1 → gz g z x = false) → (i3 27 4 = vW z ∧ i3 27 6 = nI a ∧ i3 27 7 = nI mv ∧ i3 27 8 = nI v) → GA r g m e v i3 l q K → FK [13, 14, 18, 19, 27] [e, cm, qu] [] [] i i3 l l q q K K → ∃ i' L κ pb, am_Ex (d + 6) mSearch_explore 141 [.val (.ref 27), z1, z2, z3, .val (.int y), .val (.int (nI k)), .val (.int (nI s)), .val (.int (b &&& y)), .val (.int (nI c))] [] (i3, l, rX q, kX K) = some (some (.int (i' 27 5)), (i', l, rX q, kX K)) ∧ SR g mv a v z cm qu n L κ pb i' ∧ GA r g m e v i' l q K ∧ FK [13, 14, 18, 19, 27] [e, cm, qu] [] [] i i' l l q q K K := by
        intro j
        induction j with
        | zero =>
          intro c L1 κ1 i3 hc hL1 hSL3 hSX3 h53 hng3 hfl3 hG3 hF3
          have hc : c = 32 := by omega
          subst hc
          rw [b_Search_explore_141, show decide ((32 : Int32) ≤ nI 32) = true from rfl, cond_true, b_Search_explore_196, show nI k + (1 : Int32) = nI (k + 1) from nI_add k 1]
          obtain ⟨M, hM⟩ := sweepL_pre g mv s 32 L
          refine ih (k + 1) L1 κ1 i3 _ _ _ _ _ _ (by omega) ?_ ?_ hSL3 (by rw [show 32 * (k + 1) = 32 * k + 32 by omega]; exact hSX3) h53 hng3 hfl3 hG3 hF3
          · rw [hL1, bfs, stepL, ← hL, show L[k]? = some s from by rw [getD_at hkl, hs]]
            rfl
          · rw [hL1, hM, List.length_append]; omega
        | succ j ihj =>
          intro c L1 κ1 i3 hc hL1 hSL3 hSX3 h53 hng3 hfl3 hG3 hF3
          have hc32 : c < 32 := by omega
          obtain ⟨M, hM⟩ := sweepL_pre g mv s c L
          have hL1M : L1 = L ++ M := by rw [hL1]; exact hM
          have hkL1 : k < L1.length := by rw [hL1M, List.length_append]; omega
          have hsk : L1.getD k 0 = s := by
            rw [hL1M, List.getD_eq_getElem?_getD, List.getElem?_append_left hkl, ← List.getD_eq_getElem?_getD]; exact hs
          have e1 : (32 * k + c) / 32 = k := by omega
          have e2 : (32 * k + c) % 32 = c := by omega
          have hh := s_X_hasBit (d + 5) (b &&& y) (k := c) hc32 (i3, l, rX q, kX K)
          rw [avl_mv hEb hy hc32 (x := 0)] at hh
          rw [b_Search_explore_141, decide_eq_false (show ¬ (32 : Int32) ≤ nI c from by
            show ¬ nI 32 ≤ nI c
            rw [q_le (by omega) (by omega)]; omega), cond_false, h53, show decide (¬ -nI 1 = (-1 : Int32)) = false from rfl, cond_false, hh, am_bd_some, q_app, b_Search_explore_163]
          cases hav : avl g mv s c with
          | false =>
            rw [if_neg (by decide), show decide (nI 0 = (0 : Int32)) = true from rfl, cond_true, b_Search_explore_190, show nI c + (1 : Int32) = nI (c + 1) from nI_add c 1]
            refine ihj (c + 1) L1 κ1 i3 (by omega) (by rw [sweepL, hav, hL1]; rfl) hSL3 ?_ h53 hng3 hfl3 hG3 hF3
            refine ⟨?_, hSX3.2⟩
            have := BT_step hSX3.1 (by rw [e1]; exact hkL1) (by rw [e1, e2, hsk, hav]; intro z; cases z)
            exact this
          | true =>
            obtain ⟨hvt, ht4⟩ := VS_go h2 hW.1.2 hs4 hvs hav
            have htn : tgt s c < n := by have := VS_lt h2 ht4 hvt; omega
            have hgo := s_Goings_gone (d + 4) hs4 hc32 (i3, l, rX q, kX K)
            have hde := s_Goings_deedOf (d + 5) hc32 (i3, l, rX q, kX K)
            have hdl := deed_lt hc32
            have hby : (nI s + (1 : Int32)) + (nI (deed c) <<< ((13 : Int32) &&& 31)) = nI (s + 1 + deed c * 8192) := by
              rw [show nI s + (1 : Int32) = nI (s + 1) from nI_add s 1, show ((13 : Int32) &&& 31) = nI (13 &&& 31) from rfl, q_shl (by decide) (by omega), nI_add]
            rw [if_pos rfl, show decide (nI 1 = (0 : Int32)) = false from rfl, cond_false, hgo, am_bd_some, q_app, b_Search_explore_174, hde, am_bd_some, q_app, b_Search_explore_183, hby]
            by_cases hin : tgt s c ∈ L1
            · have hne := (hSL3.2.2.2.2 (tgt s c) htn).mpr hin
              rw [y_seen (d + 5) _ hS htn hne, am_bd_some, q_app0, b_Search_explore_190, show nI c + (1 : Int32) = nI (c + 1) from nI_add c 1]
              refine ihj (c + 1) L1 κ1 i3 (by omega) (by rw [sweepL, hav, if_pos rfl, ← hL1]; unfold addL; rw [if_pos hin]) hSL3 ⟨?_, hSX3.2⟩ h53 hng3 hfl3 hG3 hF3
              have := BT_step hSX3.1 (by rw [e1]; exact hkL1) (by rw [e1, e2, hsk]; intro _; exact hin)
              exact this
            · have h0 : i3 cm (tgt s c) = nI 0 := by
                apply Classical.byContradiction
                intro z
                exact hin ((hSL3.2.2.2.2 (tgt s c) htn).mp z)
              have hNn : L1.length < n := nd_len hSX3.1.2.1 hSL3.2.2.2.1 htn hin
              have hV3 : RV (i3, l, rX q, kX K) r g := RV_fk hF3 rfl rfl (fun w hw => by
                rcases List.mem_cons.mp hw with h | h
                · rw [h]; exact hN
                · rcases List.mem_cons.mp h with h | h
                  · rw [h]; exact hN1
                  · rw [List.mem_singleton.mp h]; exact hN2) hV
              obtain ⟨i4, e4, v1, v2, v3, v4, v5, v6⟩ := y_visit (i := i3) (l := l) (q := q) (K := K) (d + 3) (nI (s + 1 + deed c * 8192)) hV3 hW hG3.2.1 hN1 hN2 hS htn ht4 h0 hSL3.1 hNn hfl3.1 hz
              have hbn : nI (s + 1 + deed c * 8192) ≠ nI 0 := by
                rw [ne_eq, q_eq (by omega) (by omega)]; omega
              have hSL4 := SL_add hSL3 htn hin hNn hbn v1 v2 v3
              have hBT4 := BT_add hSX3.1 (by rw [e1]; exact hkL1) (by rw [e1, e2, hsk]; exact hav) (by rw [e1, e2, hsk]; exact hin)
              rw [e1, e2, hsk] at hBT4
              have hlen : (L1 ++ [tgt s c]).length = L1.length + 1 := by simp
              have haL1 : a ∈ L1 := by
                have := hSX3.1.1
                exact mem_getD.mpr ⟨0, this.2, this.1⟩
              have hSX4 : SX g mv a cm (L1 ++ [tgt s c]) (ug κ1 L1.length (32 * k + c)) (32 * k + c + 1) i4 := by
                refine ⟨hBT4, fun x hx => ?_, ?_, fun t ht1 ht2 => ?_⟩
                · rcases List.mem_append.mp hx with h | h
                  · exact hSX3.2.1 x h
                  · rw [List.mem_singleton.mp h]; exact ⟨hvt, ht4⟩
                · rw [v1, if_neg (fun z => hin (by rw [← z]; exact haL1))]
                  exact hSX3.2.2.1
                · rw [hlen] at ht2
                  rw [getD_app, v1]
                  by_cases ct : t = L1.length
                  · rw [if_pos ct, if_pos rfl, ct]
                    unfold ug
                    rw [if_pos rfl, e1, e2, getD_app, if_neg (by omega), hsk]
                  · have ht3 : t < L1.length := by omega
                    have hne : L1.getD t 0 ≠ tgt s c := fun z => hin (mem_getD.mpr ⟨t, ht3, z⟩)
                    have hlt := (hSX3.1.2.2.1 t ht1 ht3).1
                    rw [if_neg ct, if_neg hne, hSX3.2.2.2 t ht1 ht3]
                    unfold ug
                    rw [if_neg ct, getD_app, if_neg (by omega)]
              have hfl4 : i4 27 4 = vW z ∧ i4 27 6 = nI a ∧ i4 27 7 = nI mv ∧ i4 27 8 = nI v := by
                obtain ⟨y1, y2, y3, y4⟩ := hfl3
                exact ⟨by rw [v5 4 (by decide) (by decide)]; exact y1, by rw [v5 6 (by decide) (by decide)]; exact y2, by rw [v5 7 (by decide) (by decide)]; exact y3, by rw [v5 8 (by decide) (by decide)]; exact y4⟩
              have hFs : FK [27] [cm, qu] [] [] i3 i4 l l q q K K := ⟨⟨[], by rw [List.append_nil]⟩, fun x _ => ⟨fun z1 z2 => v6 x (fun z => by rw [z] at z1; cases z1) (fun z => by rw [z] at z2; simp at z2) (fun z => by rw [z] at z2; simp at z2), fun _ _ => rfl, fun _ => rfl⟩⟩
              have hG4 := GA_fk hFs rfl rfl rfl rfl rfl (fun w hw => by
                rcases List.mem_cons.mp hw with h | h
                · rw [h]; exact ⟨w1, fun z => hec z.symm⟩
                · rw [List.mem_singleton.mp h]; exact ⟨w2, fun z => heq z.symm⟩) hG3
              have hF4 : FK [13, 14, 18, 19, 27] [e, cm, qu] [] [] i i4 l l q q K K := FK_tr hF3 hFs rfl rfl rfl (fun w hw => Or.inl (List.mem_cons_of_mem _ hw))
              have hsw : sweepL g mv s (c + 1) L = L1 ++ [tgt s c] := by
                rw [sweepL, hav, if_pos rfl, ← hL1]
                unfold addL
                rw [if_neg hin]
              rw [e4, am_bd_some, q_app0, b_Search_explore_190, show nI c + (1 : Int32) = nI (c + 1) from nI_add c 1]
              cases hgz : gz g z (tgt s c) with
              | false =>
                refine ihj (c + 1) _ _ i4 (by omega) hsw.symm hSL4 hSX4 (by rw [v4, hgz]; exact h53) (fun x hx => ?_) hfl4 hG4 hF4
                rcases List.mem_append.mp hx with h | h
                · exact hng3 x h
                · rw [List.mem_singleton.mp h]; exact hgz
              | true =>
                have h54 : i4 27 5 = nI (tgt s c) := by rw [v4, hgz, if_pos rfl]
                have hneg : decide (¬ nI (tgt s c) = (-1 : Int32)) = true := decide_eq_true (by
                  show ¬ nI (tgt s c) = -nI 1
                  rw [q_m1 (by omega)]; exact id)
                -- the loops end
                have hend : ∃ z5, am_Ex (d + 6) mSearch_explore 141 [.val (.ref 27), z1, z2, z3, .val (.int y), .val (.int (nI k)), .val (.int (nI s)), .val (.int (b &&& y)), .val (.int (nI (c + 1)))] [] (i4, l, rX q, kX K) = am_Ex (d + 6) mSearch_explore 196 [.val (.ref 27), z1, z2, z3, .val (.int y), .val (.int (nI k)), .val (.int (nI s)), .val (.int (b &&& y)), z5] [] (i4, l, rX q, kX K) := by
                  rw [b_Search_explore_141, h54, hneg]
                  cases decide ((32 : Int32) ≤ nI (c + 1)) with
                  | true => exact ⟨_, rfl⟩
                  | false => exact ⟨_, rfl⟩
                obtain ⟨z5, hend⟩ := hend
                have hgo2 : am_Ex (d + 6) mSearch_explore 88 [.val (.ref 27), z1, z2, z3, .val (.int y), .val (.int (nI (k + 1))), .val (.int (nI s)), .val (.int (b &&& y)), z5] [] (i4, l, rX q, kX K) = some (some (.int (i4 27 5)), (i4, l, rX q, kX K)) := by
                  rw [b_Search_explore_88, q2']
                  dsimp only
                  rw [kq, cond_true, h54, hneg, cond_true]
                  cases decide (i4 27 3 ≤ nI (k + 1)) with
                  | true =>
                    rw [cond_true, b_Search_explore_202, h54]
                  | false =>
                    rw [cond_false]
                    cases decide (Int32.ofNat (am_ln (i4, l, rX q, kX K) qu) ≤ nI (k + 1)) with
                    | true => rw [cond_true, b_Search_explore_202, h54]
                    | false => rw [cond_false, b_Search_explore_202, h54]
                rw [hend, b_Search_explore_196, show nI k + (1 : Int32) = nI (k + 1) from nI_add k 1, hgo2]
                have hlast : (L1 ++ [tgt s c]).getD ((L1 ++ [tgt s c]).length - 1) 0 = tgt s c := by
                  rw [hlen, Nat.add_sub_cancel, getD_app, if_pos rfl]
                refine ⟨i4, _, _, _, rfl, ⟨hSL4, hSX4, hfl4, Or.inr ⟨by rw [hlast]; exact h54, by rw [hlast]; exact hgz, fun t ht => ?_, fun x hx => ?_⟩⟩, hG4, hF4⟩
                · rw [hlen, Nat.add_sub_cancel] at ht
                  rw [getD_app, if_neg (by omega)]
                  exact hng3 _ (mem_getD.mpr ⟨t, ht, rfl⟩)
                · -- all are among the model's
                  have hx2 : x ∈ sweepL g mv s (c + 1) L := by rw [hsw]; exact hx
                  obtain ⟨M2, hM2⟩ := bfs_in_stds (g := g) (m := mv) (t := false) (a := a) h2 ha k
                  rcases (sweepL_mem g mv s (c + 1) L).mp hx2 with h | ⟨j2, hj2, ha2, hxe⟩
                  · rw [hM2, ← hL]; exact List.mem_append.mpr (Or.inl h)
                  · rw [hxe]
                    have hsS : s ∈ stds g mv false a := by rw [hM2, ← hL]; exact List.mem_append.mpr (Or.inl hsL)
                    exact (stds_step h2 ha hsS).1 j2 (by omega) ha2
      exact inner 32 0 L κ i2 (by omega) rfl hSL2 (by rw [Nat.add_zero]; exact hSX2) (by rw [h227]; exact h5) hng (by rw [h227]; exact hfl) hG2 hF2
end
