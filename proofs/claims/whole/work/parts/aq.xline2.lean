/-! THE CLASS: depths, flags, people -/
section
variable {i i' i'' : Nat → Nat → Int32} {l l' l'' : Nat → Nat → Int64} {q q' q'' : Nat → Nat → Option Nat} {K K' K'' : List (Nat × Nat)} {B : Nat → Nat} {N M r : Nat} {s t : PS} {f f' : Nat → Nat}
theorem dpS_f {n k : Nat} (h : s.1 ≠ 0) : dpS B N n k s = s := by
  cases n with
  | zero => rfl
  | succ n => rw [dpS, if_neg h]
theorem tkS_f {lo hi : Nat} (h : s.1 ≠ 0) : tkS B N lo hi s = s := by unfold tkS; rw [if_neg h]
theorem stF_f {k v : Nat} (h : s.1 ≠ 0) : stF k v s = s := by unfold stF; rw [if_neg h]
theorem l_depths (d : Nat) {S : Nat} (hS6 : S ≤ 6) (h : LB B N M r i l q K s) (h0 : i r 0 = nI S) : ∃ i' l', am_cl (d + 4) mReader_readDepths [.ref 5] (i, l, rX q, kX K) = some (none, (i', l', rX q, kX K)) ∧ LB B N M r i' l' q K (dpS B N S 0 s) ∧ RW r i i' l l' q q K K := by
  have e55 : rX q 5 5 = some r := h.2.1.2.1
  have h58 := h.2.1.1
  have hk : ∀ i l, Nat.beq (am_kd (i, l, rX q, kX K) r) 6 = true := fun i l => by rw [show am_kd (i, l, rX q, kX K) r = 6 from h.2.1.2.2.2.1.1]; rfl
  have main : ∀ n k i l s, k + n = S → LB B N M r i l q K s → i r 0 = nI S → ∃ i' l', am_Ex (d + 3) mReader_readDepths 2 [.val (.ref 5), .val (.int (nI (k + 1)))] [] (i, l, rX q, kX K) = some (none, (i', l', rX q, kX K)) ∧ LB B N M r i' l' q K (dpS B N n k s) ∧ RW r i i' l l' q q K K := by
    intro n
    induction n with
    | zero =>
      intro k i l s hkn hb h0
      rw [b_Reader_readDepths_2, e55]
      dsimp only
      rw [hk, cond_true, h0, decide_eq_true (show nI S < nI (k + 1) from by rw [q_lt (by omega) (by omega)]; omega), cond_true]
      exact ⟨i, l, rfl, hb, RW_refl⟩
    | succ n ih =>
      intro k i l s hkn hb h0
      obtain ⟨i1, v, e1, hb1, ho1, _, hv9, hvu⟩ := l_num (lo := 0) (hi := 9) d (by decide) (by decide) (by decide) hb
      obtain ⟨m, hm, em⟩ := hb.2.1.2.2.2.2
      have hm' := wb_lt (n := 52) (s := 28 + 4 * k) (k := 4) (v := v) (show v < 2 ^ 4 by omega) hm (by omega)
      have e1' : am_cl (d + 3) mReader_readNumber [.ref 5, .int 0, .int 9] (i, l, rX q, kX K) = _ := e1
      rw [b_Reader_readDepths_2, e55]
      dsimp only
      rw [hk, cond_true, h0, decide_eq_false (show ¬ nI S < nI (k + 1) from by rw [q_lt (by omega) (by omega)]; omega), cond_false, cond_true, e1', am_bd_some]
      show ∃ i' l', am_Ex _ _ _ _ [.int (nI v), .int (nI (k + 1)), .long (l r 4), .ref r] _ = _ ∧ _
      rw [b_Reader_readDepths_32, em, s_X_withDepth (d + 1) (by omega) (by omega), am_bd_some]
      show ∃ i' l', am_Ex _ _ _ _ [.long _, .ref r] _ = _ ∧ _
      rw [b_Reader_readDepths_35, hk, cond_true, show nI (k + 1) + (1 : Int32) = nI (k + 1 + 1) from nI_add _ 1]
      obtain ⟨hb2, hw2⟩ := l_start (k := 8 + k) (v := v) (by omega) hm em hm' (fun z => RM_depth z (by omega) (by omega)) hb1
      rw [show 18 + (8 + k) = 26 + k by omega] at hb2
      obtain ⟨i3, l3, e3, hb3, hw3⟩ := ih (k + 1) i1 _ _ (by omega) hb2 (by rw [ho1 r (by omega)]; exact h0)
      refine ⟨i3, l3, e3, ?_, RW_tr (RW_s ho1) (RW_tr hw2 hw3)⟩
      by_cases z : s.1 = 0
      · rw [dpS, if_pos z, stF_v hvu]; exact hb3
      · rw [tkS_f z, stF_f z, dpS_f z] at hb3
        rw [dpS_f z]; exact hb3
  obtain ⟨i1, l1, e1, hb1, hw1⟩ := main S 0 i l s (by omega) h h0
  rw [c_Reader_readDepths, b_Reader_readDepths_0]
  exact ⟨i1, l1, e1, hb1, hw1⟩
theorem dg_m {m p : Nat} (hp : p < 4) : dg (m % 4096) p = dg m p := by
  unfold dg
  rcases (show p = 0 ∨ p = 1 ∨ p = 2 ∨ p = 3 by omega) with rfl | rfl | rfl | rfl <;> simp <;> omega
/-- a spot that is taken -/
theorem l_taken (d : Nat) {P : Nat} (hP : P < 4) (h1 : i r 1 = nI P) (hf1 : s.1 = 0 → s.2.2.2 1 ≤ 6) (h : LB B N M r i l q K s) : ∃ i', am_cl (d + 4) mReader_refuseTakenSpot [.ref 5] (i, l, rX q, kX K) = some (none, (i', l, rX q, kX K)) ∧ LB B N M r i' l q K (apS B N P s) ∧ (∀ c, c ≠ 5 → i' c = i c) := by
  have e55 : rX q 5 5 = some r := h.2.1.2.1
  have hk : ∀ i l, Nat.beq (am_kd (i, l, rX q, kX K) r) 6 = true := fun i l => by rw [show am_kd (i, l, rX q, kX K) r = 6 from h.2.1.2.2.2.1.1]; rfl
  rw [c_Reader_refuseTakenSpot, b_Reader_refuseTakenSpot_0, show decide (i 5 2 = (2 : Int32)) = isS B N 23 s from tok_is (k0 := 23) rfl (by decide) h.1.2.2.1]
  unfold apS
  cases c23 : isS B N 23 s with
  | false =>
    rw [cond_false, if_neg (fun z => by cases z.1)]
    exact ⟨i, rfl, h, fun _ _ => rfl⟩
  | true =>
    have hss := of_decide_eq_true c23
    obtain ⟨⟨hB, hT, hR, hc, _⟩, hS, hD⟩ := id h
    obtain ⟨⟨a1, a2, a3, a4⟩, _, _, _, m, m1, m2⟩ := hD hss.1
    have hu := uj_lt hB.2.2.2 hss.2
    have hS6 := hf1 hss.1
    rw [cond_true, (hR.2.2.2 hss.1).2.1, s_numberAt (d + 1) hB hT (by have := (hR.2.2.2 hss.1).1; omega) hss.2, am_bd_some, q_app, b_Reader_refuseTakenSpot_20, e55]
    dsimp only
    rw [hk, show (true && true) = true from rfl, cond_true, s_River_isSpot (d + 2) _ (hk i l) a1 (by omega), am_bd_some, q_app, b_Reader_refuseTakenSpot_29]
    have hiS : iS s.2.2.2 (nI (uj B N s.2.2.1)) = decide (1 ≤ uj B N s.2.2.1 ∧ uj B N s.2.2.1 ≤ s.2.2.2 1) := by
      unfold iS
      rw [nI_toInt (by omega)]
      apply decide_eq_decide.mpr
      omega
    rw [hiS]
    by_cases c : 1 ≤ uj B N s.2.2.1 ∧ uj B N s.2.2.1 ≤ s.2.2.2 1
    · rw [if_pos (decide_eq_true c), show decide (nI 1 = (0 : Int32)) = false from rfl, cond_false, e55]
      dsimp only
      rw [hk, cond_true, m1, s_X_placingOf, am_bd_some]
      show ∃ i', am_Ex _ _ _ _ [.int (nI (m % 4096)), .ref r] _ = _ ∧ _
      rw [b_Reader_refuseTakenSpot_46, hk, show (true && true) = true from rfl, cond_true, s_River_whoIsAt (d + 1) (Nat.mod_lt _ (by decide)) (by omega) (hk i l) h1 (by omega), am_bd_some, q_app, b_Reader_refuseTakenSpot_50]
      have hd : ∀ p, p < P → dg (m % 4096) p = s.2.2.2 (18 + p) := fun p hp => by rw [dg_m (by omega)]; exact m2.2.1 p (by omega)
      cases hff : ff (fun p => decide (dg (m % 4096) p = uj B N s.2.2.1)) P 0 with
      | none =>
        have htk : ¬ tkn s.2.2.2 (uj B N s.2.2.1) P = true := fun z => by
          unfold tkn at z
          obtain ⟨p, hp, hz⟩ := (ex_iff _ P).mp z
          have h3 := ff_none hff p (by omega) (by omega)
          have h4 := of_decide_eq_false h3
          rw [hd p hp] at h4
          rw [decide_eq_false h4] at hz
          cases hz
        dsimp only
        rw [show decide (-nI 1 = (-1 : Int32)) = true from rfl, cond_true, b_Reader_refuseTakenSpot_59, if_neg (fun z => htk z.2)]
        exact ⟨i, rfl, h, fun _ _ => rfl⟩
      | some p =>
        obtain ⟨_, f1, f2, _⟩ := ff_some hff
        have h4 := of_decide_eq_true f2
        rw [hd p (by omega)] at h4
        have htk : tkn s.2.2.2 (uj B N s.2.2.1) P = true := by
          unfold tkn
          exact (ex_iff _ P).mpr ⟨p, by omega, by rw [decide_eq_true h4, decide_eq_true c]; rfl⟩
        obtain ⟨i1, e1, hb1, ho1⟩ := l_ref (d + 2) (k := 3) (by decide) (by decide) h
        have hne : decide (nI p = (-1 : Int32)) = false := by
          apply decide_eq_false
          show ¬ nI p = -nI 1
          rw [q_m1 (by omega)]; exact id
        dsimp only
        rw [hne, cond_false, show (3 : Int32) = nI 3 from rfl, e1, am_bd_some, q_app0, b_Reader_refuseTakenSpot_59, if_pos ⟨rfl, htk⟩]
        exact ⟨i1, rfl, hb1, ho1⟩
    · have htk : ¬ tkn s.2.2.2 (uj B N s.2.2.1) P = true := fun z => by
        unfold tkn at z
        obtain ⟨p, hp, hz⟩ := (ex_iff _ P).mp z
        rw [decide_eq_false c, Bool.and_false] at hz
        cases hz
      rw [if_neg (by rw [decide_eq_false c]; decide), show decide (nI 0 = (0 : Int32)) = true from rfl, cond_true, b_Reader_refuseTakenSpot_59, if_neg (fun z => htk z.2)]
      exact ⟨i, rfl, h, fun _ _ => rfl⟩
/-- one flag of a person -/
theorem l_flag (d : Nat) {S P : Nat} (hS6 : S ≤ 6) (hP : P < 4) (h0 : i r 0 = nI S) (h1 : i r 1 = nI P) (hs1 : s.1 = 0 → s.2.2.2 1 = S) (h : LB B N M r i l q K s) : ∃ i' l', am_cl (d + 5) mReader_readFlag [.ref 5, .int (nI P)] (i, l, rX q, kX K) = some (some (.int (if (isS B N 5 s || isS B N 6 s || isS B N 7 s) = true then nI 1 else nI 0)), (i', l', rX q, kX K)) ∧ LB B N M r i' l' q K (fgS B N P s) ∧ RW r i i' l l' q q K K ∧ i' r 0 = nI S ∧ i' r 1 = nI P := by
  have e55 : rX q 5 5 = some r := h.2.1.2.1
  have h58 := h.2.1.1
  have hk : ∀ i l, Nat.beq (am_kd (i, l, rX q, kX K) r) 6 = true := fun i l => by rw [show am_kd (i, l, rX q, kX K) r = 6 from h.2.1.2.2.2.1.1]; rfl
  have hR := h.1.2.2.1
  rw [c_Reader_readFlag, b_Reader_readFlag_0, show decide (i 5 2 = (129 : Int32)) = isS B N 5 s from tok_is (k0 := 5) rfl (by decide) hR, show decide (i 5 2 = (134 : Int32)) = isS B N 6 s from tok_is (k0 := 6) rfl (by decide) hR, show decide (i 5 2 = (142 : Int32)) = isS B N 7 s from tok_is (k0 := 7) rfl (by decide) hR]
  unfold fgS
  cases c5 : isS B N 5 s with
  | true =>
    have hss := of_decide_eq_true c5
    obtain ⟨i1, e1, hb1, ho1⟩ := l_adv (d + 3) h hss.1 (by rw [hss.2]; decide)
    obtain ⟨i2, v, e2, hb2, ho2, _, hv9, hvu⟩ := l_num (lo := 0) (hi := 9) (d + 1) (by decide) (by decide) (by decide) hb1
    obtain ⟨m, hm, em⟩ := hb2.2.1.2.2.2.2
    have hm' := wb_lt (n := 52) (s := 12 + 4 * P) (k := 4) (v := v) (show v < 2 ^ 4 by omega) hm (by omega)
    have e2' : am_cl (d + 4) mReader_readNumber [.ref 5, .int 0, .int 9] (i1, l, rX q, kX K) = _ := e2
    obtain ⟨hb3, hw3⟩ := l_start (k := 4 + P) (v := v) (by omega) hm em hm' (fun z => RM_strength z hP (by omega)) hb2
    rw [show 18 + (4 + P) = 22 + P by omega] at hb3
    rw [cond_true, e1, am_bd_some, q_app0, b_Reader_readFlag_44, e55]
    dsimp only
    rw [hk, cond_true, e2', am_bd_some]
    show ∃ i' l', am_Ex _ _ _ _ [.int (nI v), .int (nI P), .long (l r 4), .ref r] _ = _ ∧ _
    rw [b_Reader_readFlag_63, em, s_X_withStrength (d + 2) (by omega) (by omega), am_bd_some]
    show ∃ i' l', am_Ex _ _ _ _ [.long _, .ref r] _ = _ ∧ _
    rw [b_Reader_readFlag_66, hk, cond_true, if_pos (show (true || isS B N 6 s || isS B N 7 s) = true from rfl), if_pos rfl, stF_v (u := uj B N (s.2.2.1 + 1)) hvu]
    refine ⟨_, _, rfl, hb3, RW_tr (RW_s ho1) (RW_tr (RW_s ho2) hw3), ?_, ?_⟩
    · rw [ho2 r (by omega), ho1 r (by omega)]; exact h0
    · rw [ho2 r (by omega), ho1 r (by omega)]; exact h1
  | false =>
    rw [cond_false, if_neg (show ¬ (false = true) from by decide)]
    cases c6 : isS B N 6 s with
    | true =>
      have hss := of_decide_eq_true c6
      obtain ⟨i1, e1, hb1, ho1⟩ := l_adv (d + 3) h hss.1 (by rw [hss.2]; decide)
      obtain ⟨i2, v, e2, hb2, ho2, _, hv9, hvu⟩ := l_num (lo := 0) (hi := 9) (d + 1) (by decide) (by decide) (by decide) hb1
      have e2' : am_cl (d + 4) mReader_readNumber [.ref 5, .int 0, .int 9] (i1, l, rX q, kX K) = _ := e2
      obtain ⟨hb3, hw3⟩ := l_family (v := v) hP hb2
      have er6 : rX q r 6 = some (r + 2) := h.2.1.2.2.1.2
      have hin : (Nat.beq (am_kd (i2, l, rX q, kX K) (r + 2)) 100 && am_in (nI P) (am_ln (i2, l, rX q, kX K) (r + 2))) = true := by
        rw [show am_kd (i2, l, rX q, kX K) (r + 2) = 100 from h.2.1.2.2.2.1.2.2.2.1, show am_ln (i2, l, rX q, kX K) (r + 2) = 4 from h.2.1.2.2.2.1.2.2.2.2]
        rcases (show P = 0 ∨ P = 1 ∨ P = 2 ∨ P = 3 by omega) with rfl | rfl | rfl | rfl <;> rfl
      rw [cond_true, e1, am_bd_some, q_app0, b_Reader_readFlag_75, e55]
      dsimp only
      rw [hk, cond_true, er6]
      dsimp only
      rw [e2', am_bd_some]
      show ∃ i' l', am_Ex _ _ _ _ [.int (nI v), .int (nI P), .ref (r + 2)] _ = _ ∧ _
      rw [b_Reader_readFlag_90, hin, cond_true, nI_clamp (by omega), if_pos (show (false || true || isS B N 7 s) = true from rfl), if_pos rfl, stF_v (u := uj B N (s.2.2.1 + 1)) hvu]
      refine ⟨_, _, rfl, hb3, RW_tr (RW_s ho1) (RW_tr (RW_s ho2) hw3), ?_, ?_⟩
      · show am_u2 i2 (r + 2) P (nI v) r 0 = _
        unfold am_u2; rw [if_neg (by omega), ho2 r (by omega), ho1 r (by omega)]; exact h0
      · show am_u2 i2 (r + 2) P (nI v) r 1 = _
        unfold am_u2; rw [if_neg (by omega), ho2 r (by omega), ho1 r (by omega)]; exact h1
    | false =>
      rw [cond_false, if_neg (show ¬ (false = true) from by decide)]
      cases c7 : isS B N 7 s with
      | true =>
        have hss := of_decide_eq_true c7
        have hsS := hs1 hss.1
        obtain ⟨i1, e1, hb1, ho1⟩ := l_adv (d + 3) h hss.1 (by rw [hss.2]; decide)
        have h1r : i1 r 0 = nI S := by rw [ho1 r (by omega)]; exact h0
        obtain ⟨i2, e2, hb2, ho2⟩ := l_taken d hP (by rw [ho1 r (by omega)]; exact h1) (fun _ => by show s.2.2.2 1 ≤ 6; omega) hb1
        have h2r : i2 r 0 = nI S := by rw [ho2 r (by omega)]; exact h1r
        obtain ⟨i3, v, e3, hb3, ho3, _, hv9, hvu⟩ := l_num (lo := 0) (hi := S + 1) (d + 1) (by decide) (by omega) (by omega) hb2
        obtain ⟨m, hm, em⟩ := hb3.2.1.2.2.2.2
        have hm' := wb_lt (n := 52) (s := 3 * P) (k := 3) (v := v) (show v < 2 ^ 3 by omega) hm (by omega)
        obtain ⟨hb4, hw4⟩ := l_start (k := P) (v := v) (by omega) hm em hm' (fun z => RM_place z hP (by omega)) hb3
        have e3' : am_cl (d + 4) mReader_readNumber [.ref 5, .int 0, .int (nI (S + 1))] (i2, l, rX q, kX K) = _ := e3
        rw [cond_true, e1, am_bd_some, q_app0, b_Reader_readFlag_97, e2, am_bd_some, q_app0, b_Reader_readFlag_101, e55]
        dsimp only
        rw [hk, cond_true, show (true && true) = true from rfl, cond_true, s_River_farBank (d + 3) (hk i2 l) h2r, am_bd_some]
        show ∃ i' l', am_Ex _ _ _ _ [.int (nI (S + 1)), .int 0, .ref 5, .int (nI P), .long (l r 4), .ref r] _ = _ ∧ _
        rw [b_Reader_readFlag_122, e3', am_bd_some]
        show ∃ i' l', am_Ex _ _ _ _ [.int (nI v), .int (nI P), .long (l r 4), .ref r] _ = _ ∧ _
        rw [b_Reader_readFlag_125, em, s_X_withPlace (d + 2) (by omega) (by omega), am_bd_some]
        show ∃ i' l', am_Ex _ _ _ _ [.long _, .ref r] _ = _ ∧ _
        rw [b_Reader_readFlag_128, hk, cond_true, if_pos (show (false || false || true) = true from rfl), if_pos rfl, hsS]
        refine ⟨_, _, rfl, ?_, RW_tr (RW_s ho1) (RW_tr (RW_s ho2) (RW_tr (RW_s ho3) hw4)), ?_, ?_⟩
        · rw [stF_v (v := v) (fun z => by
            rw [hvu z]
            have e := apS_0 (tkS_0 z).1
            rw [e]; rfl)]
          exact hb4
        · rw [ho3 r (by omega)]; exact h2r
        · rw [ho3 r (by omega), ho2 r (by omega), ho1 r (by omega)]; exact h1
      | false =>
        rw [cond_false, if_neg (show ¬ ((false || false || false) = true) from by decide), if_neg (show ¬ (false = true) from by decide)]
        exact ⟨i, l, rfl, h, RW_refl, h0, h1⟩
end
