/-! THE CLASS: lines, and a river read -/
section
variable {i i' i'' : Nat → Nat → Int32} {l l' l'' : Nat → Nat → Int64} {q q' q'' : Nat → Nat → Option Nat} {K K' K'' : List (Nat × Nat)} {B : Nat → Nat} {N M r : Nat} {s t : PS} {f f' : Nat → Nat}
theorem l_line (d : Nat) (s0 : s.1 = 0) (hQ : SQ s) (hI : IL s) (h : LB B N M r i l q K s) : ∃ i' l' q' K', am_cl (d + 29) mReader_readLine [.ref 5] (i, l, rX q, kX K) = some (none, (i', l', rX q', kX K')) ∧ LB B N M r i' l' q' K' (lnS B N s) ∧ RW r i i' l l' q q' K K' ∧ (K' = K ∨ ∃ c, c < 900 ∧ K' = K ++ [(100, c)] ∧ ((lnS B N s).1 = 0 → c + s.2.2.1 < (lnS B N s).2.2.1)) := by
  have e55 : rX q 5 5 = some r := h.2.1.2.1
  have h58 := h.2.1.1
  have hk : ∀ i l, Nat.beq (am_kd (i, l, rX q, kX K) r) 6 = true := fun i l => by rw [show am_kd (i, l, rX q, kX K) r = 6 from h.2.1.2.2.2.1.1]; rfl
  have hR := h.1.2.2.1
  have htok := (hR.2.2.2 s0).2.2
  have isk : ∀ k, kj B N s.2.2.1 = k → ∀ j, isS B N j s = decide (k = j) := fun k hk j => by
    unfold isS
    rw [hk]
    exact decide_eq_decide.mpr ⟨fun z => z.2, fun z => ⟨s0, z⟩⟩
  obtain ⟨⟨a1, a2, a3, a4⟩, _⟩ := h.2.2 s0
  obtain ⟨hS6, _, _⟩ := hQ s0
  unfold lnS
  rw [if_pos s0, c_Reader_readLine, b_Reader_readLine_0]
  by_cases c1 : kj B N s.2.2.1 = 1
  · obtain ⟨i1, e1, hb1, ho1⟩ := l_adv (d + 27) h s0 (by rw [c1]; decide)
    obtain ⟨i2, l2, e2, hb2, hw2⟩ := l_depths (d + 24) hS6 hb1 (by rw [ho1 r (by omega)]; exact a1)
    rw [htok, c1, show ct 1 = 131 from rfl, show decide (nI 131 = (131 : Int32)) = true from rfl, cond_true, e1, am_bd_some, q_app0, b_Reader_readLine_80, e2, am_bd_some, q_app0, b_Reader_readLine_84, b_Reader_readLine_127, isk 1 c1, if_pos (by decide)]
    exact ⟨i2, l2, q, K, rfl, hb2, RW_tr (RW_s ho1) hw2, Or.inl rfl⟩
  by_cases c2 : kj B N s.2.2.1 = 2
  · obtain ⟨i1, e1, hb1, ho1⟩ := l_adv (d + 27) h s0 (by rw [c2]; decide)
    obtain ⟨i2, v, e2, hb2, ho2, _, hv9, hvu⟩ := l_num (lo := 0) (hi := 9) (d + 25) (by decide) (by decide) (by decide) hb1
    have e2' : am_cl (d + 28) mReader_readNumber [.ref 5, .int 0, .int 9] (i1, l, rX q, kX K) = _ := e2
    obtain ⟨hb3, hw3⟩ := l_field (k := 2) (kk := 3) (v := v) (x := nI v) (by omega) (fun _ => rfl) hb2
    rw [htok, c2, show ct 2 = 139 from rfl, show decide (nI 139 = (131 : Int32)) = false from rfl, cond_false, show decide (nI 139 = (132 : Int32)) = false from rfl, cond_false, show decide (nI 139 = (133 : Int32)) = false from rfl, cond_false, show decide (nI 139 = (134 : Int32)) = false from rfl, cond_false, show decide (nI 139 = (135 : Int32)) = false from rfl, cond_false, show decide (nI 139 = (136 : Int32)) = false from rfl, cond_false, show decide (nI 139 = (137 : Int32)) = false from rfl, cond_false, show decide (nI 139 = (138 : Int32)) = false from rfl, cond_false, show decide (nI 139 = (139 : Int32)) = true from rfl, cond_true, e1, am_bd_some, q_app0, b_Reader_readLine_91, e55]
    dsimp only
    rw [e2', am_bd_some]
    show ∃ i' l' q' K', am_Ex _ _ _ _ [.int (nI v), .ref r] _ = _ ∧ _
    rw [b_Reader_readLine_102, hk, cond_true, b_Reader_readLine_127, isk 2 c2, if_neg (by decide), isk 2 c2, if_pos (by decide), stF_v (u := uj B N (s.2.2.1 + 1)) hvu]
    exact ⟨_, l, q, K, rfl, hb3, RW_tr (RW_s ho1) (RW_tr (RW_s ho2) hw3), Or.inl rfl⟩
  by_cases c3 : kj B N s.2.2.1 = 3
  · obtain ⟨i1, l1, e1, hb1, hw1⟩ := l_person (d + 22) s0 c3 hQ h
    rw [htok, c3, show ct 3 = 140 from rfl, show decide (nI 140 = (131 : Int32)) = false from rfl, cond_false, show decide (nI 140 = (132 : Int32)) = false from rfl, cond_false, show decide (nI 140 = (133 : Int32)) = false from rfl, cond_false, show decide (nI 140 = (134 : Int32)) = false from rfl, cond_false, show decide (nI 140 = (135 : Int32)) = false from rfl, cond_false, show decide (nI 140 = (136 : Int32)) = false from rfl, cond_false, show decide (nI 140 = (137 : Int32)) = false from rfl, cond_false, show decide (nI 140 = (138 : Int32)) = false from rfl, cond_false, show decide (nI 140 = (139 : Int32)) = false from rfl, cond_false, show decide (nI 140 = (140 : Int32)) = true from rfl, cond_true, e1, am_bd_some, q_app0, b_Reader_readLine_112, b_Reader_readLine_127, isk 3 c3, if_neg (by decide), isk 3 c3, if_neg (by decide), isk 3 c3, if_pos (by decide)]
    exact ⟨i1, l1, q, K, rfl, hb1, hw1, Or.inl rfl⟩
  by_cases c8 : kj B N s.2.2.1 = 8
  · obtain ⟨i1, l1, q1, K1, e1, hb1, hw1, hg1⟩ := l_law d (w := 0) (by decide) s0 c8 hI h
    rw [htok, c8, show ct 8 = 143 from rfl, show decide (nI 143 = (131 : Int32)) = false from rfl, cond_false, show decide (nI 143 = (132 : Int32)) = false from rfl, cond_false, show decide (nI 143 = (133 : Int32)) = false from rfl, cond_false, show decide (nI 143 = (134 : Int32)) = false from rfl, cond_false, show decide (nI 143 = (135 : Int32)) = false from rfl, cond_false, show decide (nI 143 = (136 : Int32)) = false from rfl, cond_false, show decide (nI 143 = (137 : Int32)) = false from rfl, cond_false, show decide (nI 143 = (138 : Int32)) = false from rfl, cond_false, show decide (nI 143 = (139 : Int32)) = false from rfl, cond_false, show decide (nI 143 = (140 : Int32)) = false from rfl, cond_false, show decide (nI 143 = (141 : Int32)) = false from rfl, cond_false, show decide (nI 143 = (142 : Int32)) = false from rfl, cond_false, show decide (nI 143 = (143 : Int32)) = true from rfl, cond_true, e1, am_bd_some, q_app0, b_Reader_readLine_119, b_Reader_readLine_127, isk 8 c8, if_neg (by decide), isk 8 c8, if_neg (by decide), isk 8 c8, if_neg (by decide), isk 8 c8, if_pos (by decide)]
    exact ⟨i1, l1, q1, K1, rfl, hb1, hw1, Or.inr hg1⟩
  by_cases c9 : kj B N s.2.2.1 = 9
  · obtain ⟨i1, l1, q1, K1, e1, hb1, hw1, hg1⟩ := l_law d (w := 1) (by decide) s0 c9 hI h
    rw [htok, c9, show ct 9 = 144 from rfl, show decide (nI 144 = (131 : Int32)) = false from rfl, cond_false, show decide (nI 144 = (132 : Int32)) = false from rfl, cond_false, show decide (nI 144 = (133 : Int32)) = false from rfl, cond_false, show decide (nI 144 = (134 : Int32)) = false from rfl, cond_false, show decide (nI 144 = (135 : Int32)) = false from rfl, cond_false, show decide (nI 144 = (136 : Int32)) = false from rfl, cond_false, show decide (nI 144 = (137 : Int32)) = false from rfl, cond_false, show decide (nI 144 = (138 : Int32)) = false from rfl, cond_false, show decide (nI 144 = (139 : Int32)) = false from rfl, cond_false, show decide (nI 144 = (140 : Int32)) = false from rfl, cond_false, show decide (nI 144 = (141 : Int32)) = false from rfl, cond_false, show decide (nI 144 = (142 : Int32)) = false from rfl, cond_false, show decide (nI 144 = (143 : Int32)) = false from rfl, cond_false, show decide (nI 144 = (144 : Int32)) = true from rfl, cond_true, e1, am_bd_some, q_app0, b_Reader_readLine_119, b_Reader_readLine_127, isk 9 c9, if_neg (by decide), isk 9 c9, if_neg (by decide), isk 9 c9, if_neg (by decide), isk 9 c9, if_neg (by decide), isk 9 c9, if_pos (by decide)]
    exact ⟨i1, l1, q1, K1, rfl, hb1, hw1, Or.inr hg1⟩
  obtain ⟨i1, e1, hb1, ho1⟩ := l_ref (d + 27) (k := 2) (by decide) (by decide) h
  have e1' : am_cl (d + 28) mReader_refuse [.ref 5, .int 2] (i, l, rX q, kX K) = _ := e1
  have nk : ∀ k0, okK k0 = true → k0 ≠ 25 → kj B N s.2.2.1 ≠ k0 → decide (i 5 2 = nI (ct k0)) = false := fun k0 ho h25 hne => by
    rw [tok_is ho h25 hR]
    exact decide_eq_false (fun z => hne z.2)
  rw [show decide (i 5 2 = (131 : Int32)) = false from nk 1 rfl (by decide) c1, show decide (i 5 2 = (139 : Int32)) = false from nk 2 rfl (by decide) c2, show decide (i 5 2 = (140 : Int32)) = false from nk 3 rfl (by decide) c3, show decide (i 5 2 = (143 : Int32)) = false from nk 8 rfl (by decide) c8, show decide (i 5 2 = (144 : Int32)) = false from nk 9 rfl (by decide) c9]
  simp only [cond_false, cnd_s]
  rw [e1', am_bd_some, q_app0, b_Reader_readLine_127]
  have nS : ∀ j, kj B N s.2.2.1 ≠ j → ¬ isS B N j s = true := fun j hj z => hj (isS_w z).2
  rw [if_neg (nS 1 c1), if_neg (nS 2 c2), if_neg (nS 3 c3), if_neg (nS 8 c8), if_neg (nS 9 c9)]
  exact ⟨i1, l, q, K, rfl, hb1, RW_s ho1, Or.inl rfl⟩
/-- how much a reading has made -/
def SZ (b1 b2 : Nat) (s : PS) (K : List (Nat × Nat)) : Prop := (s.1 = 0 → am_sz K ≤ b1 + s.2.2.1 ∧ K.length ≤ b2 + s.2.2.1) ∧ am_sz K ≤ b1 + 1800 ∧ K.length ≤ b2 + 902
theorem SZ_mo {b1 b2 : Nat} (h : SZ b1 b2 s K) (he : t.1 = 0 → s.1 = 0 ∧ s.2.2.1 ≤ t.2.2.1) : SZ b1 b2 t K := ⟨fun z => by
    obtain ⟨z1, z2⟩ := he z
    have := h.1 z1
    omega, h.2⟩
theorem am_sz1 (K : List (Nat × Nat)) (x : Nat × Nat) : am_sz (K ++ [x]) = am_sz K + x.2 ∧ (K ++ [x]).length = K.length + 1 := by
  rw [am_sz_app, List.length_append]
  exact ⟨rfl, rfl⟩
theorem l_end (d : Nat) (h : LB B N M r i l q K s) : ∃ i', am_cl (d + 3) mReader_endLine [.ref 5] (i, l, rX q, kX K) = some (none, (i', l, rX q, kX K)) ∧ LB B N M r i' l q K (enS B N s) ∧ RW r i i' l l q q K K := by
  have e55 : rX q 5 5 = some r := h.2.1.2.1
  have hk : ∀ i l, Nat.beq (am_kd (i, l, rX q, kX K) r) 6 = true := fun i l => by rw [show am_kd (i, l, rX q, kX K) r = 6 from h.2.1.2.2.2.1.1]; rfl
  obtain ⟨i1, e1, hb1, ho1⟩ := l_exp d (k0 := 30) rfl (by decide) (by decide) h
  have e1' : am_cl (d + 2) mReader_expect [.ref 5, .int 59] (i, l, rX q, kX K) = _ := e1
  obtain ⟨hb2, hw2⟩ := l_field (k := 3) (kk := 0) (v := (xpS B N 30 s).2.2.2 0 + 1) (x := i1 r 3 + 1) (by omega) (fun z => by
    rw [(hb1.2.2 z).1.2.2.2]; exact nI_add _ 1) hb1
  rw [c_Reader_endLine, b_Reader_endLine_0, e1', am_bd_some, q_app0, b_Reader_endLine_6, e55]
  dsimp only
  rw [hk, cond_true, cond_true]
  exact ⟨_, rfl, hb2, RW_tr (RW_s ho1) hw2⟩
theorem l_lines (d : Nat) {b1 b2 : Nat} (hB : ∀ k, B k < 256) : ∀ n k i l q K s, n + k = 1000 → k ≤ 901 → LB B N M r i l q K s → SQ s → IL s → (s.1 = 0 → k ≤ s.2.2.1) → SZ b1 b2 s K → ∃ i' l' q' K' x1, am_Ex (d + 29) mReader_read 66 [.val (.ref 5), .val (.int (nI k))] [] (i, l, rX q, kX K) = am_Ex (d + 29) mReader_read 105 [.val (.ref 5), x1] [] (i', l', rX q', kX K') ∧ LB B N M r i' l' q' K' (rvL B N n s) ∧ RW r i i' l l' q q' K K' ∧ SZ b1 b2 (rvL B N n s) K' := by
  intro n
  induction n with
  | zero => intro k i l q K s hnk hk; omega
  | succ n ih =>
    intro k i l q K s hnk hk hb hQ hI hks hZ
    have hM := hb.1.2.1.1
    have hR := hb.1.2.2.1
    rw [b_Reader_read_66, hb.1.2.1.2.2.1, hR.1, rvL]
    by_cases s0 : s.1 = 0
    · have hkk := hks s0
      have hjM := (hR.2.2.2 s0).1
      rw [decide_eq_false (show ¬ nI (M + 1) ≤ nI k from by rw [q_le (by omega) (by omega)]; omega), cond_false, s0, show decide (¬ nI 0 = (0 : Int32)) = false from rfl, cond_false, show decide (i 5 2 = (0 : Int32)) = isS B N 24 s from tok_is (k0 := 24) rfl (by decide) hR]
      by_cases c24 : kj B N s.2.2.1 = 24
      · rw [show isS B N 24 s = true from decide_eq_true ⟨s0, c24⟩, cond_true, if_neg (fun z => z.2 c24)]
        exact ⟨i, l, q, K, _, rfl, hb, RW_refl, hZ⟩
      · obtain ⟨i1, l1, q1, K1, e1, hb1, hw1, hg⟩ := l_line d s0 hQ hI hb
        obtain ⟨i2, e2, hb2, hw2⟩ := l_end (d + 26) hb1
        obtain ⟨g1, g2⟩ := ln_go hb.1.2.2.2.1 hQ
        have c1 := Pq_cb g1 hb.1.2.2.2.1
        obtain ⟨g3, g4, g5⟩ := en_go c1 g2
        have hZ1 : SZ b1 b2 (lnS B N s) K1 := by
          rcases hg with hg | ⟨c, hc, hg, hz⟩
          · rw [hg]; exact SZ_mo hZ (fun z => ⟨s0, (g1 z).2.1⟩)
          · obtain ⟨u1, u2⟩ := am_sz1 K (100, c)
            have u1 : am_sz (K ++ [(100, c)]) = am_sz K + c := u1
            have h1 := hZ.1 s0
            rw [hg]
            refine ⟨fun z => ?_, ?_, ?_⟩
            · have := hz z
              omega
            · omega
            · omega
        obtain ⟨i3, l3, q3, K3, x1, e3, hb3, hw3, hZ3⟩ := ih (k + 1) i2 l1 q1 K1 _ (by omega) (by omega) hb2 g4 (IL_en (IL_ln hB hb.1.2.2.2.1 hI)) (fun z => by
          have y1 := g5 z
          have y2 := (g1 (g3 z).1).2.1
          omega) (SZ_mo hZ1 (fun z => ⟨(g3 z).1, (g3 z).2.1⟩))
        rw [show isS B N 24 s = false from decide_eq_false (fun z => c24 z.2), cond_false, e1, am_bd_some, q_app0, b_Reader_read_95, e2, am_bd_some, q_app0, b_Reader_read_99, show nI k + (1 : Int32) = nI (k + 1) from nI_add _ 1, if_pos ⟨rfl, c24⟩]
        exact ⟨i3, l3, q3, K3, x1, e3, hb3, RW_tr hw1 (RW_tr hw2 hw3), hZ3⟩
    · rw [decide_eq_true (show ¬ nI s.1 = (0 : Int32) from by
        show ¬ nI s.1 = nI 0
        have := hR.2.1
        rw [q_eq (by omega) (by omega)]; exact s0), cond_true, cnd_s, if_neg (fun z => s0 z.1)]
      exact ⟨i, l, q, K, _, rfl, hb, RW_refl, hZ⟩
theorem RV_draft (hS : DS l q K r) (hD : DC i l q K r f) : RV (i, l, rX q, kX K) r f := by
  obtain ⟨h58, _, ⟨r5, r6⟩, ⟨k1, k2, k3, k4, k5⟩, _⟩ := hS
  obtain ⟨⟨a1, a2, a3, a4⟩, b, c, ⟨d0, d1⟩, _⟩ := hD
  have hd : ∀ x, 58 ≤ x → Dyn x := fun x hx => Or.inr (Or.inr (Or.inr hx))
  have law : ∀ w, DLl i q K r w f → RVl (i, l, rX q, kX K) r w f := fun w hw => ⟨hw.1, fun z => by
    obtain ⟨c, c1, c2, c3, c4, c5⟩ := hw.2 z
    exact ⟨c, c2, c3, c4, hd c (by omega), c5⟩⟩
  exact ⟨hd r h58, k1, a1, a2, a3, a4, ⟨r + 1, r5, k2, k3, hd _ (by omega), b⟩, ⟨r + 2, r6, k4, k5, hd _ (by omega), c⟩, law 0 d0, law 1 d1⟩
theorem IL_st0 : SQ (stF 1 (uj B N (xpS B N 0 (0, 0, 0, pln)).2.2.1) (tkS B N 1 6 (xpS B N 0 (0, 0, 0, pln)))) ∧ IL (stF 1 (uj B N (xpS B N 0 (0, 0, 0, pln)).2.2.1) (tkS B N 1 6 (xpS B N 0 (0, 0, 0, pln)))) := by
  have hQ2 : SQ (0, 0, 0, pln) := fun _ => ⟨by decide, by decide, fun k hk => by
    show (if 18 + k = 1 then 1 else if 18 + k = 3 then 5 else 0) ≤ 7
    rw [if_neg (by omega), if_neg (by omega)]; decide⟩
  have hQ4 := SQ_xp (B := B) (N := N) (k := 0) hQ2
  refine ⟨fun z => ?_, fun z => ?_⟩
  · rw [stF_w] at z
    obtain ⟨a, b, c⟩ := SQ_tk (lo := 1) (hi := 6) hQ4 z
    obtain ⟨_, _, _, t4⟩ := tkS_0 z
    rw [stF_0 z]
    refine ⟨t4, b, fun k hk => ?_⟩
    show ug _ 1 _ (18 + k) ≤ 7
    unfold ug
    rw [if_neg (by omega)]
    exact c k hk
  · rw [stF_w] at z
    obtain ⟨t1, t2, t3, t4⟩ := tkS_0 z
    rw [stF_0 z, t2, (xpS_0 t1).2]
    rw [(xpS_0 t1).2] at t3 t4
    generalize uj B N (nxS (0, 0, 0, pln)).2.2.1 = v at *
    have e : ∀ j, j ≠ 1 → ug pln 1 v j = pln j := fun j hj => by unfold ug; rw [if_neg hj]
    have e1 : ug pln 1 v 1 = v := by unfold ug; rw [if_pos rfl]
    have e0 : ∀ j, j ≠ 1 → j ≠ 3 → ug pln 1 v j = 0 := fun j h1 h3 => by rw [e j h1]; unfold pln; rw [if_neg h1, if_neg h3]
    have e3 : ug pln 1 v 3 = 5 := e 3 (by decide)
    have main : IV 0 (0, 0, 0, ug pln 1 v) := fun _ => by
      refine ⟨by show 1 ≤ ug pln 1 v 1 ∧ ug pln 1 v 1 ≤ 6; rw [e1]; exact ⟨t3, t4⟩, by show ug pln 1 v 2 ≤ 4; rw [e0 2 (by decide) (by decide)]; decide, fun j hj => ?_, ?_, ?_, fun p q hp hq hpq => ?_, fun p hp hp4 => ?_⟩
      · show OKc (ug pln 1 v 1) j (ug pln 1 v j)
        by_cases j1 : j = 1
        · subst j1
          refine ⟨fun _ => ?_, fun _ _ => ?_, fun _ _ => ?_, fun _ _ => ?_, fun _ _ => ?_, fun _ => ?_⟩ <;> omega
        · by_cases j3 : j = 3
          · subst j3
            rw [e3]
            refine ⟨fun _ => by decide, fun _ _ => ?_, fun _ _ => ?_, fun _ _ => ?_, fun _ _ => ?_, fun _ => ?_⟩ <;> omega
          · rw [e0 j j1 j3]
            exact ⟨fun _ => Nat.zero_le _, fun _ _ => Nat.zero_le _, fun _ _ => Nat.zero_le _, fun _ _ => Nat.zero_le _, fun _ _ => Nat.zero_le _, fun _ => rfl⟩
      · show LI (ug pln 1 v) 0
        exact ⟨by rw [e0 _ (by decide) (by decide)]; decide, fun z => absurd (e0 _ (by decide) (by decide)) z⟩
      · show LI (ug pln 1 v) 1
        exact ⟨by rw [e0 _ (by decide) (by decide)]; decide, fun z => absurd (e0 _ (by decide) (by decide)) z⟩
      · show 1 ≤ ug pln 1 v (18 + p) → _
        rw [e0 (18 + p) (by omega) (by omega)]
        intro z; omega
      · exact e0 (18 + p) (by omega) (by omega)
    have := IV_mo main (Nat.zero_le (ug pln 1 v 2)) rfl
    exact this
end
