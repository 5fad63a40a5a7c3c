/-! THE CLASS: a person is read -/
section
variable {i i' i'' : Nat → Nat → Int32} {l l' l'' : Nat → Nat → Int64} {q q' q'' : Nat → Nat → Option Nat} {K K' K'' : List (Nat × Nat)} {B : Nat → Nat} {N M r : Nat} {s t : PS} {f f' : Nat → Nat}
theorem flL_f {p n : Nat} (h : s.1 ≠ 0) : flL B N p n s = s := by
  cases n with
  | zero => rfl
  | succ n => rw [flL, if_neg h]
theorem cnd_s (b : Bool) (x : Option aR) : cond b x x = x := by cases b <;> rfl
theorem l_flags (d : Nat) {S P : Nat} (hS6 : S ≤ 6) (hP : P < 4) (h58 : 58 ≤ r) : ∀ n k i l s, n + k = 1000 → k ≤ 901 → LB B N M r i l q K s → (s.1 = 0 → k ≤ s.2.2.1) → i r 0 = nI S → i r 1 = nI P → (s.1 = 0 → s.2.2.2 1 = S) → ∃ i' l' x2 x3, am_Ex (d + 5) mReader_readPerson 74 [.val (.ref 5), .val (.int (nI P)), .val (.int (nI 1)), .val (.int (nI k))] [] (i, l, rX q, kX K) = am_Ex (d + 5) mReader_readPerson 101 [.val (.ref 5), .val (.int (nI P)), x2, x3] [] (i', l', rX q, kX K) ∧ LB B N M r i' l' q K (flL B N P n s) ∧ RW r i i' l l' q q K K ∧ i' r 1 = nI P := by
  intro n
  induction n with
  | zero => intro k i l s hnk hk; omega
  | succ n ih =>
    intro k i l s hnk hk hb hks h0 h1 hs1
    have hM := hb.1.2.1.1
    rw [b_Reader_readPerson_74, hb.1.2.1.2.2.1]
    by_cases c1 : M + 1 ≤ k
    · have hne : s.1 ≠ 0 := fun z => by
        have := hks z
        have := (hb.1.2.2.1.2.2.2 z).1
        omega
      rw [decide_eq_true (show nI (M + 1) ≤ nI k from by rw [q_le (by omega) (by omega)]; exact c1), cond_true, flL_f hne]
      exact ⟨i, l, _, _, rfl, hb, RW_refl, h1⟩
    · obtain ⟨i1, l1, e1, hb1, hw1, h10, h11⟩ := l_flag d hS6 hP h0 h1 hs1 hb
      rw [decide_eq_false (show ¬ nI (M + 1) ≤ nI k from by rw [q_le (by omega) (by omega)]; exact c1), cond_false, show decide (nI 1 = (0 : Int32)) = false from rfl, cond_false, e1, am_bd_some, q_app, b_Reader_readPerson_94, show nI k + (1 : Int32) = nI (k + 1) from nI_add _ 1]
      have hpq := Pq_fg (p := P) (by omega) hb.1.2.2.2.1
      cases hm : (isS B N 5 s || isS B N 6 s || isS B N 7 s) with
      | true =>
        have s0 : s.1 = 0 := by
          cases a5 : isS B N 5 s with
          | true => exact (isS_w a5).1
          | false =>
            cases a6 : isS B N 6 s with
            | true => exact (isS_w a6).1
            | false =>
              rw [a5, a6] at hm
              exact (isS_w (k := 7) hm).1
        have hfb : (fgS B N P s).1 = 0 → fgB B N P s = true := fun z => by unfold fgB; rw [hm, decide_eq_true z]; rfl
        have hkM := (hb.1.2.2.1.2.2.2 s0).1
        rw [if_pos rfl]
        obtain ⟨i2, l2, x2, x3, e2, hb2, hw2, h21⟩ := ih (k + 1) i1 l1 (fgS B N P s) (by omega) (by omega) hb1 (fun z => by
          have := hpq.2 (hfb z)
          have := hks s0
          omega) h10 h11 (fun z => by rw [fgS_2 hP (by decide) z]; exact hs1 s0)
        refine ⟨i2, l2, x2, x3, e2, ?_, RW_tr hw1 hw2, h21⟩
        rw [flL, if_pos s0]
        by_cases cf : fgB B N P s = true
        · rw [if_pos cf]; exact hb2
        · rw [if_neg cf]
          rw [flL_f (fun z => cf (hfb z))] at hb2
          exact hb2
      | false =>
        have hb1' := hb1
        have a5 : isS B N 5 s = false := by cases a : isS B N 5 s with | true => rw [a] at hm; cases hm | false => rfl
        have a6 : isS B N 6 s = false := by cases a : isS B N 6 s with | true => rw [a5, a] at hm; cases hm | false => rfl
        have a7 : isS B N 7 s = false := by cases a : isS B N 7 s with | true => rw [a5, a6, a] at hm; cases hm | false => rfl
        have hfg : fgS B N P s = s := by
          unfold fgS
          rw [if_neg (by rw [a5]; decide), if_neg (by rw [a6]; decide), if_neg (by rw [a7]; decide)]
        have hfl : flL B N P (n + 1) s = s := by
          rw [flL]
          by_cases z : s.1 = 0
          · rw [if_pos z, if_neg (show ¬ fgB B N P s = true from by unfold fgB; rw [hm, Bool.false_and]; decide), hfg]
          · rw [if_neg z]
        rw [if_neg (by decide), b_Reader_readPerson_74, show decide (nI 0 = (0 : Int32)) = true from rfl, cond_true, cnd_s, hfl]
        rw [hfg] at hb1
        exact ⟨i1, l1, _, _, rfl, hb1, hw1, h11⟩
theorem l_person (d : Nat) (s0 : s.1 = 0) (hk3 : kj B N s.2.2.1 = 3) (hQ : SQ s) (h : LB B N M r i l q K s) : ∃ i' l', am_cl (d + 6) mReader_readPerson [.ref 5] (i, l, rX q, kX K) = some (none, (i', l', rX q, kX K)) ∧ LB B N M r i' l' q K (peS B N s) ∧ RW r i i' l l' q q K K := by
  have e55 : rX q 5 5 = some r := h.2.1.2.1
  have h58 := h.2.1.1
  have hk : ∀ i l, Nat.beq (am_kd (i, l, rX q, kX K) r) 6 = true := fun i l => by rw [show am_kd (i, l, rX q, kX K) r = 6 from h.2.1.2.2.2.1.1]; rfl
  obtain ⟨⟨a1, a2, a3, a4⟩, _⟩ := h.2.2 s0
  obtain ⟨hS6, hP4, _⟩ := hQ s0
  obtain ⟨P, hPe⟩ : ∃ P, s.2.2.2 2 = P := ⟨_, rfl⟩
  obtain ⟨S, hSe⟩ : ∃ S, s.2.2.2 1 = S := ⟨_, rfl⟩
  rw [hPe] at a2 hP4
  rw [hSe] at a1 hS6
  unfold peS
  rw [c_Reader_readPerson, b_Reader_readPerson_0, e55, hPe]
  dsimp only
  rw [hk, cond_true, a2]
  by_cases c4 : P = 4
  · obtain ⟨i1, e1, hb1, ho1⟩ := l_ref (d + 4) (k := 4) (by decide) (by decide) h
    have e1' : am_cl (d + 5) mReader_refuse [.ref 5, .int 4] (i, l, rX q, kX K) = _ := e1
    rw [decide_eq_false (show ¬ nI P < (4 : Int32) from by
      show ¬ nI P < nI 4
      rw [q_lt (by omega) (by omega)]; omega), cond_false, e1', am_bd_some, q_app0, b_Reader_readPerson_16, if_pos c4]
    exact ⟨i1, l, rfl, hb1, RW_s ho1⟩
  · have hP : P < 4 := by omega
    obtain ⟨i1, e1, hb1, ho1⟩ := l_adv (d + 4) h s0 (by rw [hk3]; decide)
    obtain ⟨i2, e2, hb2, ho2⟩ := l_exp (d + 3) (k0 := 4) rfl (by decide) (by decide) hb1
    obtain ⟨i3, v, e3, hb3, ho3, hv1, hv4, hvu⟩ := l_num (lo := 1) (hi := 4) (d + 2) (by decide) (by decide) (by decide) hb2
    have e3' : am_cl (d + 5) mReader_readNumber [.ref 5, .int 1, .int 4] (i2, l, rX q, kX K) = _ := e3
    obtain ⟨m, hm, em⟩ := h.2.1.2.2.2.2
    have hm' := wb_lt (n := 52) (s := 12 + 4 * P) (k := 4) (v := 5) (by decide) hm (by omega)
    obtain ⟨hb4, hw4⟩ := l_reach (v := v) hP hb3
    obtain ⟨hb5, hw5⟩ := l_start (k := 4 + P) (v := 5) (by omega) hm em hm' (fun z => RM_strength z hP (by omega)) hb4
    rw [show 18 + (4 + P) = 22 + P by omega] at hb5
    have e4 : am_cl (d + 5) mX_withStrength [.long (lN m), .int (nI P), .int 5] (am_u2 i3 (r + 1) P (nI v), l, rX q, kX K) = _ := s_X_withStrength (d + 3) (v := 5) (by omega) (by decide) _
    have er5 : rX q r 5 = some (r + 1) := h.2.1.2.2.1.1
    have hin : (Nat.beq (am_kd (i3, l, rX q, kX K) (r + 1)) 100 && am_in (nI P) (am_ln (i3, l, rX q, kX K) (r + 1))) = true := by
      rw [show am_kd (i3, l, rX q, kX K) (r + 1) = 100 from h.2.1.2.2.2.1.2.1, show am_ln (i3, l, rX q, kX K) (r + 1) = 4 from h.2.1.2.2.2.1.2.2.1]
      rcases (show P = 0 ∨ P = 1 ∨ P = 2 ∨ P = 3 by omega) with rfl | rfl | rfl | rfl <;> rfl
    have hro : i3 r = i r := by rw [ho3 r (by omega), ho2 r (by omega), ho1 r (by omega)]
    have hu4 : ∀ j, am_u2 i3 (r + 1) P (nI v) r j = i r j := fun j => by unfold am_u2; rw [if_neg (by omega), hro]
    have hx : (tkS B N 1 4 (xpS B N 4 (nxS s))).1 = 0 → (tkS B N 1 4 (xpS B N 4 (nxS s))).2.2.2 = s.2.2.2 := fun z => by
      obtain ⟨z1, z2, _⟩ := tkS_0 z
      rw [z2]
      show (xpS B N 4 (nxS s)).2.2.2 = _
      rw [(xpS_0 z1).2]; rfl
    have hu : ∀ j, j < 10 → (stF (22 + P) 5 (stF (10 + P) v (tkS B N 1 4 (xpS B N 4 (nxS s))))).1 = 0 → (stF (22 + P) 5 (stF (10 + P) v (tkS B N 1 4 (xpS B N 4 (nxS s))))).2.2.2 j = s.2.2.2 j := fun j hj z => by
      rw [stF_w] at z
      rw [stF_0 z]
      show ug _ _ _ j = _
      rw [ug_o (by omega)]
      rw [stF_w] at z
      rw [stF_0 z]
      show ug _ _ _ j = _
      rw [ug_o (by omega), hx z]
    obtain ⟨i6, l6, x2, x3, e6, hb6, hw6, h61⟩ := l_flags d hS6 hP h58 1000 0 _ _ _ (by omega) (by omega) hb5 (fun _ => Nat.zero_le _) (by rw [hu4]; exact a1) (by rw [hu4]; exact a2) (fun z => by rw [hu 1 (by decide) z]; exact hSe)
    obtain ⟨hb7, hw7⟩ := l_field (k := 1) (kk := 2) (v := P + 1) (x := nI (P + 1)) (by omega) (fun _ => rfl) hb6
    rw [decide_eq_true (show nI P < (4 : Int32) from by
      show nI P < nI 4
      rw [q_lt (by omega) (by omega)]; omega), cond_true, cond_true, e1, am_bd_some, q_app0, b_Reader_readPerson_29, show (141 : Int32) = nI (ct 4) from rfl, e2, am_bd_some, q_app0, b_Reader_readPerson_36, e55]
    dsimp only
    rw [hk, cond_true, er5]
    dsimp only
    rw [e3', am_bd_some]
    show ∃ i' l', am_Ex _ _ _ _ [.int (nI v), .int (nI P), .ref (r + 1)] _ = _ ∧ _
    rw [b_Reader_readPerson_50, hin, cond_true, e55, nI_clamp (by omega)]
    dsimp only
    rw [hk, cond_true, em, e4, am_bd_some]
    show ∃ i' l', am_Ex _ _ _ _ [.long _, .ref r] _ = _ ∧ _
    rw [b_Reader_readPerson_67, hk, cond_true, show (1 : Int32) = nI 1 from rfl, show (0 : Int32) = nI 0 from rfl, e6, b_Reader_readPerson_101, e55]
    dsimp only
    rw [hk, cond_true, cond_true, h61, show nI P + (1 : Int32) = nI (P + 1) from nI_add _ 1, if_neg c4]
    refine ⟨_, _, rfl, ?_, RW_tr (RW_s ho1) (RW_tr (RW_s ho2) (RW_tr (RW_s ho3) (RW_tr hw4 (RW_tr hw5 (RW_tr hw6 hw7)))))⟩
    rw [stF_v hvu]
    unfold inP
    rw [stF_v (v := P + 1) (fun z => by
      obtain ⟨z1, z2⟩ := flL_2 (B := B) (N := N) hP (show 2 ≤ 13 by decide) 1000 _ z
      rw [z2, hu 2 (by decide) z1, hPe])]
    exact hb7
end
