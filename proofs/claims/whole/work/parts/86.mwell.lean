/-! WHAT IS READ IS WELL FORMED: the river -/
def LI (f : Nat → Nat) (law : Nat) : Prop := f (4 + law) ≤ 1 ∧ (f (4 + law) ≠ 0 → f (6 + law) + f (8 + law) ≤ f 173 ∧ (∀ k, f (6 + law) ≤ k → k < f (6 + law) + f (8 + law) → 1000 ≤ f (174 + k) → f (174 + k) < 1010 → wOk law (f (174 + k) - 1000)) ∧ Ru (fun k => f (174 + k)) (f (6 + law)) (f (6 + law) + f (8 + law)) [] [true])
/-- what a cell may hold -/
def OKc (S k v : Nat) : Prop := (k = 3 → v ≤ 9) ∧ (10 ≤ k → k < 14 → v ≤ 4) ∧ (14 ≤ k → k < 18 → v ≤ 9) ∧ (18 ≤ k → k < 22 → v ≤ S + 1) ∧ (22 ≤ k → k < 32 → v ≤ 9) ∧ (k = 32 → v = 0)
def Dj (f : Nat → Nat) : Prop := ∀ p q, p < 4 → q < 4 → p ≠ q → 1 ≤ f (18 + p) → f (18 + p) ≤ f 1 → f (18 + p) ≠ f (18 + q)
/-- all is well; people from a on are not there -/
def IV (a : Nat) (s : PS) : Prop := s.1 = 0 → (1 ≤ s.2.2.2 1 ∧ s.2.2.2 1 ≤ 6) ∧ s.2.2.2 2 ≤ 4 ∧ (∀ k, k < 173 → OKc (s.2.2.2 1) k (s.2.2.2 k)) ∧ LI s.2.2.2 0 ∧ LI s.2.2.2 1 ∧ Dj s.2.2.2 ∧ ∀ p, a ≤ p → p < 4 → s.2.2.2 (18 + p) = 0
theorem LI_cg {f f' : Nat → Nat} {law : Nat} (hl : law < 2) (h : LI f law) (h1 : f' (4 + law) = f (4 + law)) (h2 : f' (6 + law) = f (6 + law)) (h3 : f' (8 + law) = f (8 + law)) (h4 : f 173 ≤ f' 173) (h5 : ∀ k, k < f 173 → f' (174 + k) = f (174 + k)) : LI f' law := by
  obtain ⟨a1, a2⟩ := h
  refine ⟨by omega, fun hz => ?_⟩
  obtain ⟨b1, b2, b3⟩ := a2 (by omega)
  refine ⟨by omega, fun k k1 k2 => ?_, ?_⟩
  · rw [h2] at k1; rw [h2, h3] at k2
    rw [h5 k (by omega)]; exact b2 k k1 k2
  · rw [h2, h3]
    exact Ru_cg b3 (fun k hk => h5 k (by omega))
theorem IV_of {a : Nat} {s t : PS} (h : IV a s) (he : t.1 = 0 → s.1 = 0 ∧ t.2.2.2 = s.2.2.2) : IV a t := fun z => by
  obtain ⟨e1, e2⟩ := he z
  rw [e2]
  exact h e1
theorem IV_st {a k v : Nat} {s : PS} (h : IV a s) (hk : k < 173) (hk1 : k ≠ 1) (hk2 : k ≠ 2) (hk4 : k < 4 ∨ 10 ≤ k) (hk5 : k < 18 ∨ 22 ≤ k) (hv : s.1 = 0 → OKc (s.2.2.2 1) k v) : IV a (stF k v s) := fun z => by
  rw [stF_w] at z
  obtain ⟨a1, a2, a3, a4, a5, a6, a7⟩ := h z
  rw [stF_0 z]
  have e : ∀ j, j ≠ k → ug s.2.2.2 k v j = s.2.2.2 j := fun j hj => by unfold ug; rw [if_neg hj]
  have e1 := e 1 (by omega)
  have e2 := e 2 (by omega)
  refine ⟨?_, ?_, fun j hj => ?_, ?_, ?_, fun p q hp hq hpq => ?_, fun p hp hp4 => ?_⟩
  · show 1 ≤ ug s.2.2.2 k v 1 ∧ ug s.2.2.2 k v 1 ≤ 6
    rw [e1]; exact a1
  · show ug s.2.2.2 k v 2 ≤ 4
    rw [e2]; exact a2
  · show OKc (ug s.2.2.2 k v 1) j (ug s.2.2.2 k v j)
    rw [e1]
    by_cases ej : j = k
    · subst ej
      have : ug s.2.2.2 j v j = v := by unfold ug; rw [if_pos rfl]
      rw [this]; exact hv z
    · rw [e j ej]; exact a3 j hj
  · exact LI_cg (by decide) a4 (e _ (by omega)) (e _ (by omega)) (e _ (by omega)) (Nat.le_of_eq (e _ (by omega)).symm) (fun k _ => e _ (by omega))
  · exact LI_cg (by decide) a5 (e _ (by omega)) (e _ (by omega)) (e _ (by omega)) (Nat.le_of_eq (e _ (by omega)).symm) (fun k _ => e _ (by omega))
  · show 1 ≤ ug s.2.2.2 k v (18 + p) → ug s.2.2.2 k v (18 + p) ≤ ug s.2.2.2 k v 1 → ug s.2.2.2 k v (18 + p) ≠ ug s.2.2.2 k v (18 + q)
    rw [e1, e (18 + p) (by omega), e (18 + q) (by omega)]
    exact a6 p q hp hq hpq
  · show ug s.2.2.2 k v (18 + p) = 0
    rw [e _ (by omega)]; exact a7 p hp hp4
section
variable {B : Nat → Nat} {N : Nat}
theorem IV_nx {a : Nat} {s : PS} (h : IV a s) : IV a (nxS s) := IV_of h (fun z => ⟨z, rfl⟩)
theorem IV_tk {a lo hi : Nat} {s : PS} (h : IV a s) : IV a (tkS B N lo hi s) := IV_of h (fun z => by
  obtain ⟨q1, q2, _, _⟩ := tkS_0 z
  exact ⟨q1, by rw [q2]; rfl⟩)
theorem IV_xp {a k : Nat} {s : PS} (h : IV a s) : IV a (xpS B N k s) := IV_of h (fun z => by
  obtain ⟨q1, q2⟩ := xpS_0 z
  exact ⟨q1, by rw [q2]; rfl⟩)
theorem IV_fl {a k : Nat} {s : PS} (hk : k ≠ 0) : IV a (flS B N k s) := fun z => absurd z (flS_w hk)
theorem IV_mo {a b : Nat} {s : PS} (h : IV a s) (hab : a ≤ b) : IV b s := fun z => by
  obtain ⟨a1, a2, a3, a4, a5, a6, a7⟩ := h z
  exact ⟨a1, a2, a3, a4, a5, a6, fun p hp => a7 p (by omega)⟩
theorem OKc_9 {S k v : Nat} (h : v ≤ 9) (hk : k = 3 ∨ 14 ≤ k ∧ k < 18 ∨ 22 ≤ k ∧ k < 32) : OKc S k v := by
  refine ⟨fun _ => h, fun _ _ => ?_, fun _ _ => h, fun _ _ => ?_, fun _ _ => h, fun _ => ?_⟩ <;> omega
theorem IV_dp {a : Nat} : ∀ n k s, k + n ≤ 6 → IV a s → IV a (dpS B N n k s)
  | 0, k, s, _, h => h
  | n + 1, k, s, hk, h => by
    rw [dpS]
    split
    · refine IV_dp n (k + 1) _ (by omega) (IV_st (IV_tk h) (by omega) (by omega) (by omega) (by omega) (by omega) (fun z => ?_))
      exact OKc_9 (tkS_0 z).2.2.2 (by omega)
    · exact h
/-- the place of one who comes -/
theorem IV_pl {P v : Nat} {s : PS} (hP : P < 4) (h : IV (P + 1) s) (hv : s.1 = 0 → v ≤ s.2.2.2 1 + 1 ∧ ∀ p, p < P → 1 ≤ v → v ≤ s.2.2.2 1 → s.2.2.2 (18 + p) ≠ v) : IV (P + 1) (stF (18 + P) v s) := fun z => by
  rw [stF_w] at z
  obtain ⟨a1, a2, a3, a4, a5, a6, a7⟩ := h z
  obtain ⟨v1, v2⟩ := hv z
  rw [stF_0 z]
  have e : ∀ j, j ≠ 18 + P → ug s.2.2.2 (18 + P) v j = s.2.2.2 j := fun j hj => by unfold ug; rw [if_neg hj]
  have e' : ug s.2.2.2 (18 + P) v (18 + P) = v := by unfold ug; rw [if_pos rfl]
  have e1 := e 1 (by omega)
  have e2 := e 2 (by omega)
  refine ⟨?_, ?_, fun j hj => ?_, ?_, ?_, fun p q hp hq hpq => ?_, fun p hp hp4 => ?_⟩
  · show 1 ≤ ug s.2.2.2 (18 + P) v 1 ∧ ug s.2.2.2 (18 + P) v 1 ≤ 6
    rw [e1]; exact a1
  · show ug s.2.2.2 (18 + P) v 2 ≤ 4
    rw [e2]; exact a2
  · show OKc (ug s.2.2.2 (18 + P) v 1) j (ug s.2.2.2 (18 + P) v j)
    rw [e1]
    by_cases ej : j = 18 + P
    · subst ej
      rw [e']
      refine ⟨fun _ => ?_, fun _ _ => ?_, fun _ _ => ?_, fun _ _ => v1, fun _ _ => ?_, fun _ => ?_⟩ <;> omega
    · rw [e j ej]; exact a3 j hj
  · exact LI_cg (by decide) a4 (e _ (by omega)) (e _ (by omega)) (e _ (by omega)) (Nat.le_of_eq (e _ (by omega)).symm) (fun k _ => e _ (by omega))
  · exact LI_cg (by decide) a5 (e _ (by omega)) (e _ (by omega)) (e _ (by omega)) (Nat.le_of_eq (e _ (by omega)).symm) (fun k _ => e _ (by omega))
  · show 1 ≤ ug s.2.2.2 (18 + P) v (18 + p) → ug s.2.2.2 (18 + P) v (18 + p) ≤ ug s.2.2.2 (18 + P) v 1 → ug s.2.2.2 (18 + P) v (18 + p) ≠ ug s.2.2.2 (18 + P) v (18 + q)
    rw [e1]
    by_cases ep : p = P
    · subst ep
      rw [e', e (18 + q) (by omega)]
      intro c1 c2
      by_cases hqp : q < p
      · exact fun z => v2 q hqp c1 c2 z.symm
      · have := a7 q (by omega) hq
        omega
    · rw [e (18 + p) (by omega)]
      by_cases eq : q = P
      · subst eq
        rw [e']
        intro c1 c2 c3
        by_cases hqp : p < q
        · exact v2 p hqp (by omega) (by omega) c3
        · have := a7 p (by omega) hp
          omega
      · rw [e (18 + q) (by omega)]
        exact a6 p q hp hq hpq
  · show ug s.2.2.2 (18 + P) v (18 + p) = 0
    rw [e _ (by omega)]; exact a7 p hp hp4
theorem tkn_f {f : Nat → Nat} {x : Nat} : ∀ {P}, tkn f x P = false → ∀ p, p < P → 1 ≤ x → x ≤ f 1 → f (18 + p) ≠ x
  | 0, _, p, hp => by omega
  | P + 1, h, p, hp => by
    intro c1 c2 c3
    have h' : (tkn f x P || (decide (f (18 + P) = x) && decide (1 ≤ x ∧ x ≤ f 1))) = false := h
    rw [Bool.or_eq_false_iff] at h'
    by_cases e : p = P
    · subst e
      rw [decide_eq_true c3, decide_eq_true ⟨c1, c2⟩] at h'
      cases h'.2
    · exact tkn_f h'.1 p (by omega) c1 c2 c3
theorem IV_fg {P : Nat} {s : PS} (hP : P < 4) (h : IV (P + 1) s) : IV (P + 1) (fgS B N P s) := by
  unfold fgS
  split
  · refine IV_st (IV_tk (IV_nx h)) (by omega) (by omega) (by omega) (by omega) (by omega) (fun z => ?_)
    exact OKc_9 (tkS_0 z).2.2.2 (by omega)
  · split
    · refine IV_st (IV_tk (IV_nx h)) (by omega) (by omega) (by omega) (by omega) (by omega) (fun z => ?_)
      exact OKc_9 (tkS_0 z).2.2.2 (by omega)
    · split
      · have hap : IV (P + 1) (apS B N P (nxS s)) := IV_of (IV_nx h) (fun z => by have := apS_0 z; rw [this] at z; rw [this]; exact ⟨z, rfl⟩)
        refine IV_pl hP (IV_tk hap) (fun z => ?_)
        obtain ⟨q1, q2, q3, q4⟩ := tkS_0 z
        have ea := apS_0 q1
        have h23 : isS B N 23 (nxS s) = true := by
          rw [ea] at z q1
          unfold tkS at z
          rw [if_pos q1] at z
          by_cases c1 : kj B N (nxS s).2.2.1 = 23
          · exact decide_eq_true ⟨q1, c1⟩
          · rw [if_neg c1] at z; exact absurd z (flS_w (by decide))
        have hf : tkn s.2.2.2 (uj B N (s.2.2.1 + 1)) P = false := by
          cases ht : tkn s.2.2.2 (uj B N (s.2.2.1 + 1)) P with
          | false => rfl
          | true =>
            exfalso
            unfold apS at q1
            rw [if_pos ⟨h23, ht⟩] at q1
            exact absurd q1 (flS_w (by decide))
        rw [ea] at q4
        have e2 : (tkS B N 0 (s.2.2.2 1 + 1) (apS B N P (nxS s))).2.2.2 = s.2.2.2 := by rw [q2, ea]; rfl
        rw [e2]
        exact ⟨q4, tkn_f hf⟩
      · exact h
theorem IV_flL {P : Nat} (hP : P < 4) : ∀ n s, IV (P + 1) s → IV (P + 1) (flL B N P n s)
  | 0, s, h => h
  | n + 1, s, h => by
    rw [flL]
    split
    · split
      · exact IV_flL hP n _ (IV_fg hP h)
      · exact IV_fg hP h
    · exact h
/-- between lines -/
def IL (s : PS) : Prop := IV (s.2.2.2 2) s
theorem IL_mk {a : Nat} {t : PS} (h : IV a t) (z : t.1 = 0) (e : t.2.2.2 2 = a) : (1 ≤ t.2.2.2 1 ∧ t.2.2.2 1 ≤ 6) ∧ t.2.2.2 2 ≤ 4 ∧ (∀ k, k < 173 → OKc (t.2.2.2 1) k (t.2.2.2 k)) ∧ LI t.2.2.2 0 ∧ LI t.2.2.2 1 ∧ Dj t.2.2.2 ∧ ∀ p, t.2.2.2 2 ≤ p → p < 4 → t.2.2.2 (18 + p) = 0 := by
  subst e; exact h z
theorem IL_pe {s : PS} (h : IL s) (h0 : s.1 = 0) : IL (peS B N s) := by
  unfold peS
  by_cases hp4 : s.2.2.2 2 = 4
  · rw [if_pos hp4]; exact IV_fl (by decide)
  · rw [if_neg hp4]
    have hp : s.2.2.2 2 < 4 := by have := (h h0).2.1; omega
    have h1 := IV_mo h (Nat.le_succ _)
    generalize hP : s.2.2.2 2 = P at *
    have h2 : IV (P + 1) (stF (22 + P) 5 (stF (10 + P) (uj B N (xpS B N 4 (nxS s)).2.2.1) (tkS B N 1 4 (xpS B N 4 (nxS s))))) := by
      refine IV_st (IV_st (IV_tk (IV_xp (IV_nx h1))) (by omega) (by omega) (by omega) (by omega) (by omega) (fun z => ?_)) (by omega) (by omega) (by omega) (by omega) (by omega) (fun z => OKc_9 (by decide) (by omega))
      have := (tkS_0 z).2.2.2
      refine ⟨fun _ => ?_, fun _ _ => this, fun _ _ => ?_, fun _ _ => ?_, fun _ _ => ?_, fun _ => ?_⟩ <;> omega
    have h3 : (stF (22 + P) 5 (stF (10 + P) (uj B N (xpS B N 4 (nxS s)).2.2.1) (tkS B N 1 4 (xpS B N 4 (nxS s))))).1 = 0 → (stF (22 + P) 5 (stF (10 + P) (uj B N (xpS B N 4 (nxS s)).2.2.1) (tkS B N 1 4 (xpS B N 4 (nxS s))))).2.2.2 2 = P := fun z => by
      rw [stF_w, stF_w] at z
      rw [stF_0 (by rw [stF_w]; exact z), stF_0 z]
      obtain ⟨a1, a2, _, _⟩ := tkS_0 z
      show ug (ug (tkS B N 1 4 (xpS B N 4 (nxS s))).2.2.2 (10 + P) _) (22 + P) 5 2 = P
      unfold ug
      rw [if_neg (by omega), if_neg (by omega), a2]
      show (xpS B N 4 (nxS s)).2.2.2 2 = P
      rw [(xpS_0 a1).2]
      exact hP
    generalize stF (22 + P) 5 (stF (10 + P) (uj B N (xpS B N 4 (nxS s)).2.2.1) (tkS B N 1 4 (xpS B N 4 (nxS s)))) = t at h2 h3
    have h4 := IV_flL (B := B) (N := N) hp 1000 t h2
    intro z
    have z' : (flL B N P 1000 t).1 = 0 := by unfold inP at z; rw [stF_w] at z; exact z
    obtain ⟨f1, f2⟩ := flL_2 (k := 2) hp (by decide) 1000 t z'
    rw [h3 f1] at f2
    obtain ⟨a1, a2, a3, a4, a5, a6, a7⟩ := h4 z'
    unfold inP
    rw [stF_0 z', f2]
    generalize (flL B N P 1000 t).2.2.2 = f at *
    have e : ∀ j, j ≠ 2 → ug f 2 (P + 1) j = f j := fun j hj => by unfold ug; rw [if_neg hj]
    have e2 : ug f 2 (P + 1) 2 = P + 1 := by unfold ug; rw [if_pos rfl]
    refine ⟨?_, ?_, fun j hj => ?_, ?_, ?_, fun p q hp hq hpq => ?_, fun p hp hp4 => ?_⟩
    · show 1 ≤ ug f 2 (P + 1) 1 ∧ ug f 2 (P + 1) 1 ≤ 6
      rw [e 1 (by decide)]; exact a1
    · show ug f 2 (P + 1) 2 ≤ 4
      rw [e2]; omega
    · show OKc (ug f 2 (P + 1) 1) j (ug f 2 (P + 1) j)
      rw [e 1 (by decide)]
      by_cases ej : j = 2
      · subst ej
        refine ⟨fun _ => ?_, fun _ _ => ?_, fun _ _ => ?_, fun _ _ => ?_, fun _ _ => ?_, fun _ => ?_⟩ <;> omega
      · rw [e j ej]; exact a3 j hj
    · exact LI_cg (f' := ug f 2 (P + 1)) (by decide) a4 (e 4 (by decide)) (e 6 (by decide)) (e 8 (by decide)) (Nat.le_of_eq (e 173 (by decide)).symm) (fun k _ => e _ (by omega))
    · exact LI_cg (f' := ug f 2 (P + 1)) (by decide) a5 (e 5 (by decide)) (e 7 (by decide)) (e 9 (by decide)) (Nat.le_of_eq (e 173 (by decide)).symm) (fun k _ => e _ (by omega))
    · show 1 ≤ ug f 2 (P + 1) (18 + p) → ug f 2 (P + 1) (18 + p) ≤ ug f 2 (P + 1) 1 → ug f 2 (P + 1) (18 + p) ≠ ug f 2 (P + 1) (18 + q)
      rw [e 1 (by decide), e (18 + p) (by omega), e (18 + q) (by omega)]
      exact a6 p q hp hq hpq
    · have hp : ug f 2 (P + 1) 2 ≤ p := hp
      show ug f 2 (P + 1) (18 + p) = 0
      rw [e _ (by omega)]
      exact a7 p (by omega) hp4
/-- a law is told -/
theorem IL_lw {law : Nat} {s : PS} (hl : law < 2) (hB : ∀ k, B k < 256) (hC : CB B N s) (hk : kj B N s.2.2.1 ≠ 24) (h : IL s) : IL (lwS B N law s) := by
  have g1 := Pg_nx hC hk
  have c1 := Pg_cb g1 hC
  have g2 := Pg_xp (k := 31) c1 (by decide)
  have c2 := Pg_cb g2 c1
  have g3 := ok_truL (law := law) (r := 6) _ c2
  have hY := ty_truL (N := N) hB hl (xpS B N 31 (nxS s))
  have h1 : IV (s.2.2.2 2) (xpS B N 31 (nxS s)) := IV_xp (IV_nx h)
  have e0 : (xpS B N 31 (nxS s)).1 = 0 → (xpS B N 31 (nxS s)).2.2.2 = s.2.2.2 := fun z => by rw [(xpS_0 z).2]; rfl
  unfold lwS
  generalize xpS B N 31 (nxS s) = u at g3 hY h1 e0
  generalize truL B N law 6 u = t at g3 hY
  intro z
  rw [stF_w, stF_w, stF_w] at z
  obtain ⟨p1, p2, p3, p4, p5⟩ := g3 z
  obtain ⟨y1, y2, y3, y4, y5⟩ := hY z
  obtain ⟨a1, a2, a3, a4, a5, a6, a7⟩ := h1 p1
  have e0 := e0 p1
  rw [← e0] at a7
  rw [stF_0 (by rw [stF_w, stF_w]; exact z), stF_0 (by rw [stF_w]; exact z), stF_0 z]
  have y5 := y5 [] (by decide)
  have y3 : ∀ k, k < u.2.2.2 173 → t.2.2.2 (174 + k) = u.2.2.2 (174 + k) := y3
  have y4 : ∀ k, u.2.2.2 173 ≤ k → k < t.2.2.2 173 → 1000 ≤ t.2.2.2 (174 + k) → t.2.2.2 (174 + k) < 1010 → wOk law (t.2.2.2 (174 + k) - 1000) := y4
  have y5 : Ru (fun k => t.2.2.2 (174 + k)) (u.2.2.2 173) (t.2.2.2 173) [] [true] := y5
  clear h1 h g1 c1 g2 c2 g3 hY e0
  generalize u.2.2.2 = f at *
  generalize t.2.2.2 = f' at *
  dsimp only
  have e : ∀ j, j ≠ 4 + law → j ≠ 6 + law → j ≠ 8 + law → ug (ug (ug f' (4 + law) 1) (6 + law) (f 173)) (8 + law) (f' 173 - f 173) j = f' j := fun j h1 h2 h3 => by unfold ug; rw [if_neg h3, if_neg h2, if_neg h1]
  have e8 : ug (ug (ug f' (4 + law) 1) (6 + law) (f 173)) (8 + law) (f' 173 - f 173) (8 + law) = f' 173 - f 173 := by unfold ug; rw [if_pos rfl]
  have e6 : ug (ug (ug f' (4 + law) 1) (6 + law) (f 173)) (8 + law) (f' 173 - f 173) (6 + law) = f 173 := by unfold ug; rw [if_neg (by omega), if_pos rfl]
  have e4 : ug (ug (ug f' (4 + law) 1) (6 + law) (f 173)) (8 + law) (f' 173 - f 173) (4 + law) = 1 := by unfold ug; rw [if_neg (by omega), if_neg (by omega), if_pos rfl]
  generalize ug (ug (ug f' (4 + law) 1) (6 + law) (f 173)) (8 + law) (f' 173 - f 173) = F at *
  have q : ∀ j, j < 173 → j ≠ 4 + law → j ≠ 6 + law → j ≠ 8 + law → F j = f j := fun j hj h1 h2 h3 => by rw [e j h1 h2 h3]; exact p5 j hj
  have q173 := e 173 (by omega) (by omega) (by omega)
  have qc : ∀ k, F (174 + k) = f' (174 + k) := fun k => e _ (by omega) (by omega) (by omega)
  have own : LI F law := by
    refine ⟨by omega, fun _ => ⟨by omega, fun k k1 k2 => ?_, ?_⟩⟩
    · rw [e6] at k1; rw [e6, e8] at k2
      rw [qc]; exact y4 k k1 (by omega)
    · rw [e6, e8, show f 173 + (f' 173 - f 173) = f' 173 by omega]
      exact Ru_cg y5 (fun k _ => qc k)
  have other : ∀ m, m < 2 → m ≠ law → LI f m → LI F m := fun m hm hne hL => LI_cg hm hL (q _ (by omega) (by omega) (by omega) (by omega)) (q _ (by omega) (by omega) (by omega) (by omega)) (q _ (by omega) (by omega) (by omega) (by omega)) (by omega) (fun k hk => by rw [qc]; exact y3 k hk)
  have q1 := q 1 (by omega) (by omega) (by omega) (by omega)
  have q2 := q 2 (by omega) (by omega) (by omega) (by omega)
  refine ⟨by rw [q1]; exact a1, by rw [q2]; exact a2, fun j hj => ?_, ?_, ?_, fun p r hp hr hpr => ?_, fun p hp hp4 => ?_⟩
  · rw [q1]
    by_cases ej : j = 4 + law ∨ j = 6 + law ∨ j = 8 + law
    · refine ⟨fun _ => ?_, fun _ _ => ?_, fun _ _ => ?_, fun _ _ => ?_, fun _ _ => ?_, fun _ => ?_⟩ <;> omega
    · rw [q j hj (by omega) (by omega) (by omega)]; exact a3 j hj
  · by_cases e0 : law = 0
    · subst e0; exact own
    · exact other 0 (by decide) (by omega) a4
  · by_cases e0 : law = 1
    · subst e0; exact own
    · exact other 1 (by decide) (by omega) a5
  · rw [q1, q (18 + p) (by omega) (by omega) (by omega) (by omega), q (18 + r) (by omega) (by omega) (by omega) (by omega)]
    exact a6 p r hp hr hpr
  · rw [q (18 + p) (by omega) (by omega) (by omega) (by omega)]
    exact a7 p (by rw [q2] at hp; exact hp) hp4
theorem IL_ln {s : PS} (hB : ∀ k, B k < 256) (hC : CB B N s) (h : IL s) : IL (lnS B N s) := by
  unfold lnS
  by_cases h0 : s.1 = 0
  · have h1 := (h h0).1
    rw [if_pos h0]
    split
    · refine fun z => ?_
      have d2 : ∀ n k (u : PS), u.2.2.2 2 = s.2.2.2 2 → (dpS B N n k u).1 = 0 → (dpS B N n k u).2.2.2 2 = s.2.2.2 2 := by
        intro n
        induction n with
        | zero => intro k u hu _; exact hu
        | succ n ih =>
          intro k u hu z
          rw [dpS] at z ⊢
          by_cases hu0 : u.1 = 0
          · rw [if_pos hu0] at z ⊢
            by_cases hw : (tkS B N 0 9 u).1 = 0
            · refine ih (k + 1) _ ?_ z
              rw [stF_0 hw]
              show ug (tkS B N 0 9 u).2.2.2 (26 + k) _ 2 = _
              unfold ug
              rw [if_neg (by omega), (tkS_0 hw).2.1]
              exact hu
            · exfalso
              have bad : ∀ n k (v : PS), v.1 ≠ 0 → (dpS B N n k v).1 ≠ 0 := by
                intro n
                cases n with
                | zero => intro k v hv; exact hv
                | succ n => intro k v hv; rw [dpS, if_neg hv]; exact hv
              exact bad n (k + 1) _ (by rw [stF_w]; exact hw) z
          · rw [if_neg hu0]; exact hu
      have e2 := d2 (s.2.2.2 1) 0 (nxS s) rfl z
      exact IL_mk (IV_dp (s.2.2.2 1) 0 (nxS s) (by omega) (IV_nx h)) z e2
    · split
      · have h2 : IV (s.2.2.2 2) (stF 3 (uj B N (s.2.2.1 + 1)) (tkS B N 0 9 (nxS s))) := IV_st (IV_tk (IV_nx h)) (by decide) (by decide) (by decide) (by decide) (by decide) (fun z => OKc_9 (tkS_0 z).2.2.2 (by omega))
        intro z
        have e2 : (stF 3 (uj B N (s.2.2.1 + 1)) (tkS B N 0 9 (nxS s))).2.2.2 2 = s.2.2.2 2 := by
          rw [stF_w] at z
          rw [stF_0 z]
          show ug (tkS B N 0 9 (nxS s)).2.2.2 3 (uj B N (s.2.2.1 + 1)) 2 = _
          unfold ug
          rw [if_neg (by decide), (tkS_0 z).2.1]
          rfl
        exact IL_mk h2 z e2
      · split
        · exact IL_pe h h0
        · split
          · rename_i hi
            exact IL_lw (by decide) hB hC (by rw [(isS_w hi).2]; decide) h
          · split
            · rename_i hi
              exact IL_lw (by decide) hB hC (by rw [(isS_w hi).2]; decide) h
            · exact IV_fl (by decide)
  · rw [if_neg h0]; exact h
theorem IL_en {s : PS} (h : IL s) : IL (enS B N s) := by
  unfold enS
  intro z
  have z' := z
  rw [stF_w] at z'
  have h2 : IV (s.2.2.2 2) (stF 0 ((xpS B N 30 s).2.2.2 0 + 1) (xpS B N 30 s)) := IV_st (IV_xp h) (by decide) (by decide) (by decide) (by decide) (by decide) (fun z => by refine ⟨fun _ => ?_, fun _ _ => ?_, fun _ _ => ?_, fun _ _ => ?_, fun _ _ => ?_, fun _ => ?_⟩ <;> omega)
  have e2 : (stF 0 ((xpS B N 30 s).2.2.2 0 + 1) (xpS B N 30 s)).2.2.2 2 = s.2.2.2 2 := by
    rw [stF_0 z']
    show ug (xpS B N 30 s).2.2.2 0 ((xpS B N 30 s).2.2.2 0 + 1) 2 = _
    unfold ug
    rw [if_neg (by decide), (xpS_0 z').2]
    rfl
  exact IL_mk h2 z e2
theorem IL_rv (hB : ∀ k, B k < 256) : ∀ n s, CB B N s → SQ s → IL s → IL (rvL B N n s) ∧ CB B N (rvL B N n s)
  | 0, s, hC, _, h => ⟨h, hC⟩
  | n + 1, s, hC, hQ, h => by
    rw [rvL]
    split
    · obtain ⟨g1, g2⟩ := ln_go hC hQ
      have c1 := Pq_cb g1 hC
      obtain ⟨g3, g4, _⟩ := en_go c1 g2
      exact IL_rv hB n _ (Pq_cb g3 c1) g4 (IL_en (IL_ln hB hC h))
    · exact ⟨h, hC⟩
theorem IL_rvS (hB : ∀ k, B k < 256) : IL (rvS B N) ∧ CB B N (rvS B N) := by
  have hC2 : CB B N (0, 0, 0, pln) := fun _ => ⟨Nat.le_refl _, Nat.le_refl _⟩
  have hQ2 : SQ (0, 0, 0, pln) := fun _ => ⟨by decide, by decide, fun k hk => by
    show (if 18 + k = 1 then 1 else if 18 + k = 3 then 5 else 0) ≤ 7
    rw [if_neg (by omega), if_neg (by omega)]; decide⟩
  have hC4 := Pg_cb (Pg_xp (k := 0) hC2 (by decide)) hC2
  have hQ4 := SQ_xp (B := B) (N := N) (k := 0) hQ2
  have hC6 := Pq_cb (Pq_st (k := 1) (v := uj B N (xpS B N 0 (0, 0, 0, pln)).2.2.1) (Pq_of (Pg_tk (lo := 1) (hi := 6) hC4)) (by decide)) hC4
  have hQ6 : SQ (stF 1 (uj B N (xpS B N 0 (0, 0, 0, pln)).2.2.1) (tkS B N 1 6 (xpS B N 0 (0, 0, 0, pln)))) := fun z => by
    rw [stF_w] at z
    obtain ⟨a, b, c⟩ := SQ_tk (lo := 1) (hi := 6) hQ4 z
    obtain ⟨_, _, _, t4⟩ := tkS_0 z
    rw [stF_0 z]
    refine ⟨t4, b, fun k hk => ?_⟩
    show ug _ 1 _ (18 + k) ≤ 7
    unfold ug
    rw [if_neg (by omega)]
    exact c k hk
  have hI : IL (stF 1 (uj B N (xpS B N 0 (0, 0, 0, pln)).2.2.1) (tkS B N 1 6 (xpS B N 0 (0, 0, 0, pln)))) := fun z => by
    rw [stF_w] at z
    obtain ⟨t1, t2, t3, t4⟩ := tkS_0 z
    rw [stF_0 z, t2, (xpS_0 t1).2]
    rw [(xpS_0 t1).2] at t3 t4
    generalize uj B N (nxS (0, 0, 0, pln)).2.2.1 = v at *
    have e : ∀ j, j ≠ 1 → ug pln 1 v j = pln j := fun j hj => by unfold ug; rw [if_neg hj]
    have e1 : ug pln 1 v 1 = v := by unfold ug; rw [if_pos rfl]
    have e0 : ∀ j, j ≠ 1 → j ≠ 3 → ug pln 1 v j = 0 := fun j h1 h3 => by rw [e j h1]; unfold pln; rw [if_neg h1, if_neg h3]
    have e3 : ug pln 1 v 3 = 5 := e 3 (by decide)
    have main : IV 0 (0, 0, 0, ug pln 1 v) := fun _ => by
      refine ⟨by show 1 ≤ ug pln 1 v 1 ∧ ug pln 1 v 1 ≤ 6; rw [e1]; exact ⟨t3, t4⟩, by show ug pln 1 v 2 ≤ 4; rw [e0 2 (by decide) (by decide)]; decide, fun j hj => ?_, ?_, ?_, fun p q hp hq hpq => ?_, fun p hp hp4 => ?_⟩
      · show OKc (ug pln 1 v 1) j (ug pln 1 v j)
        by_cases j1 : j = 1
        · subst j1
          refine ⟨fun _ => ?_, fun _ _ => ?_, fun _ _ => ?_, fun _ _ => ?_, fun _ _ => ?_, fun _ => ?_⟩ <;> omega
        · by_cases j3 : j = 3
          · subst j3
            rw [e3]
            refine ⟨fun _ => by decide, fun _ _ => ?_, fun _ _ => ?_, fun _ _ => ?_, fun _ _ => ?_, fun _ => ?_⟩ <;> omega
          · rw [e0 j j1 j3]
            exact ⟨fun _ => Nat.zero_le _, fun _ _ => Nat.zero_le _, fun _ _ => Nat.zero_le _, fun _ _ => Nat.zero_le _, fun _ _ => Nat.zero_le _, fun _ => rfl⟩
      · show LI (ug pln 1 v) 0
        exact ⟨by rw [e0 _ (by decide) (by decide)]; decide, fun z => absurd (e0 _ (by decide) (by decide)) z⟩
      · show LI (ug pln 1 v) 1
        exact ⟨by rw [e0 _ (by decide) (by decide)]; decide, fun z => absurd (e0 _ (by decide) (by decide)) z⟩
      · show 1 ≤ ug pln 1 v (18 + p) → _
        rw [e0 (18 + p) (by omega) (by omega)]
        intro z; omega
      · exact e0 (18 + p) (by omega) (by omega)
    have := IV_mo main (Nat.zero_le (ug pln 1 v 2)) rfl
    exact this
  obtain ⟨g3, g4, _⟩ := en_go hC6 hQ6
  exact IL_rv hB 1000 _ (Pq_cb g3 hC6) g4 (IL_en hI)
theorem WG_riv {g : Nat → Nat} (hB : ∀ k, B k < 256) (hN : N ≤ 900) (h0 : (rvS B N).1 = 0) : WG (gRiv g (rvS B N).2.2.2) ∧ gRiv g (rvS B N).2.2.2 32 = 0 := by
  obtain ⟨hI, hC⟩ := IL_rvS (N := N) hB
  obtain ⟨a1, a2, a3, a4, a5, a6, a7⟩ := hI h0
  obtain ⟨c1, c2⟩ := hC h0
  have c3 := pj_le B N (rvS B N).2.2.1
  generalize (rvS B N).2.2.2 = f at *
  have e : ∀ j, j < 1074 → gRiv g f j = f j := fun j hj => by unfold gRiv; rw [if_pos hj]
  have e1 := e 1 (by decide)
  have e2 := e 2 (by decide)
  have hP : ∀ p, p < 4 → gRiv g f (18 + p) < 8 := fun p hp => by
    rw [e _ (by omega)]
    have := (a3 (18 + p) (by omega)).2.2.2.1 (by omega) (by omega)
    omega
  have law : ∀ m, m < 2 → LI f m → LW (gRiv g f) m := by
    intro m hm ⟨b1, b2⟩
    unfold LW
    rw [e (4 + m) (by omega)]
    refine ⟨b1, fun z => ?_⟩
    obtain ⟨d1, d2, T, t1, t2, t3⟩ := b2 z
    rw [e (6 + m) (by omega), e (8 + m) (by omega)]
    have ec : ∀ k, k < f (8 + m) → cdl (gRiv g f) m k = f (174 + (f (6 + m) + k)) := fun k hk => by
      unfold cdl
      rw [e (6 + m) (by omega), e _ (by omega)]
      congr 1; omega
    refine ⟨by omega, fun k hk => ?_, fun k => T (f (6 + m) + k), t1, t2, fun k hk => ?_⟩
    · rw [ec k hk]; exact d2 _ (by omega) (by omega)
    · rw [ec k hk]; exact t3 _ (by omega) (by omega)
  have hd := dg_sNow hP
  refine ⟨⟨by rw [e1]; exact a1, by rw [e2]; exact a2, by rw [e 3 (by decide)]; exact (a3 3 (by decide)).1 rfl, fun p hp => ?_, fun p hp => ?_, hP, fun p hp => ?_, fun s hs => ?_, law 0 (by decide) a4, law 1 (by decide) a5, fun p hp => ?_, fun p q hp hq hpq => ?_, fun p hp hp4 => ?_⟩, by rw [e 32 (by decide)]; exact (a3 32 (by decide)).2.2.2.2.2 rfl⟩
  · rw [e _ (by omega)]; exact (a3 (10 + p) (by omega)).2.1 (by omega) (by omega)
  · rw [e _ (by omega)]; exact (a3 (14 + p) (by omega)).2.2.1 (by omega) (by omega)
  · rw [e _ (by omega)]; exact (a3 (22 + p) (by omega)).2.2.2.2.1 (by omega) (by omega)
  · rw [e _ (by omega)]; exact (a3 (26 + s) (by omega)).2.2.2.2.1 (by omega) (by omega)
  · rw [hd p hp, e1, e _ (by omega)]; exact (a3 (18 + p) (by omega)).2.2.2.1 (by omega) (by omega)
  · rw [hd p hp, hd q hq, e _ (by omega), e _ (by omega)]
    intro hs
    unfold sSpot at hs
    rw [e1] at hs
    have hs := of_decide_eq_true hs
    exact a6 p q hp hq hpq hs.1 hs.2
  · rw [hd p hp4, e _ (by omega)]
    exact a7 p (by rw [e2] at hp; exact hp) hp4
end
