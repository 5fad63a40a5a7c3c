/-! THE CLASS: turns solved -/
section
variable {i i' : Nat → Nat → Int32} {l l' : Nat → Nat → Int64} {q q' : Nat → Nat → Option Nat} {K K' : List (Nat × Nat)} {r m v v' : Nat} {g h : Nat → Nat} {ρ : Nat → Nat → Nat} {W W' : Nat → Nat}
theorem FTs_eq {L : List Nat} {T T' : Nat → Nat} (e : ∀ y, y ∈ L → T' y = T y) (h : FTs g W L T i) : FTs g W L T' i := by
  obtain ⟨t1, t2, t3, t4, t5⟩ := h
  exact ⟨t1, t2, t3, fun x hx => by rw [e x hx]; exact t4 x hx, t5⟩
theorem FTs_set {L : List Nat} {T : Nat → Nat} {x N : Nat} (hO : WO W) (h : FTs g W L T i) : FTs g W L (ug T x N) (am_u2 i (W 8) x (nI N)) := by
  obtain ⟨t1, t2, t3, t4, t5⟩ := h
  have ne : ∀ a b, a < 10 → b < 10 → a ≠ b → W a ≠ W b := fun a b ha hb hab z => hab (hO.2 a b ha hb z)
  have n35 : (35 : Nat) ≠ W 8 := fun z => by
    have := hO.1 8 (by decide)
    unfold WDc at this
    omega
  have row : ∀ c, c ≠ W 8 → am_u2 i (W 8) x (nI N) c = i c := fun c hc => by funext t; unfold am_u2; rw [if_neg hc]
  refine ⟨by rw [row 35 n35]; exact t1, by rw [row (W 9) (ne 9 8 (by decide) (by decide) (by decide))]; exact t2, by rw [row (W 7) (ne 7 8 (by decide) (by decide) (by decide))]; exact t3, fun y hy => ?_, by rw [row (W 0) (ne 0 8 (by decide) (by decide) (by decide))]; exact t5⟩
  unfold am_u2 ug
  rw [if_pos rfl]
  by_cases c : y = x
  · rw [if_pos c, if_pos c]
  · rw [if_neg c, if_neg c]; exact t4 y hy
theorem inK_s {L : List Nat} {k x : Nat} : inK L (k + 1) x = true ↔ inK L k x = true ∨ L.getD k 0 = x := by
  rw [inK_iff, inK_iff]
  constructor
  · rintro ⟨j, hj, e⟩
    by_cases c : j = k
    · rw [c] at e; exact Or.inr e
    · exact Or.inl ⟨j, by omega, e⟩
  · rintro (⟨j, hj, e⟩ | e)
    · exact ⟨j, by omega, e⟩
    · exact ⟨k, by omega, e⟩
noncomputable def TM (g : Nat → Nat) (w c : Nat) (L : List Nat) (k x : Nat) : Nat := if inK L k x = true then TL g (evb g) w (c + 1) x else TL g (evb g) w c x
theorem TM_lt {w c k x : Nat} {L : List Nat} (hc : c < 9000) : TM g w c L k x < c + 1 ↔ VF g (evb g) w c x = true := by
  unfold TM
  split
  · exact TL_lt (by omega) (by omega) (by omega)
  · exact TL_lt (by omega) (by omega) (by omega)
theorem TM_b {w c k x : Nat} {L : List Nat} (hc : c < 9000) : TM g w c L k x ≤ 1000000 := by
  unfold TM
  split
  · exact TL_b (by omega)
  · exact TL_b (by omega)
theorem y_solve (d : Nat) {n w c : Nat} {L : List Nat} (h2 : g 2 ≤ 4) (hO : WO W) (hQ : FQs W n q K) (hL : FL g n L) (hq : q 22 3 = some (W 0)) (he : kK K (W 0) = 100 ∧ 8 ^ g 2 ≤ lK K (W 0) ∧ lK K (W 0) ≤ 4096) (hc : c < 9000) (hT : FTs g W L (TL g (evb g) w c) i) : ∃ i' b, am_cl (d + 4) mForcing_solve [.ref 35, .int (nI (c + 1))] (i, l, rX q, kX K) = some (some (.int (nI b)), (i', l, rX q, kX K)) ∧ FTs g W L (TL g (evb g) w (c + 1)) i' ∧ (∀ x, x ≠ W 8 → i' x = i x) ∧ ((b = 0 ∧ ∀ x, x ∈ L → VF g (evb g) w (c + 1) x = true → VF g (evb g) w c x = true) ∨ (b = 1 ∧ ∃ a, a < L.length ∧ VF g (evb g) w c (L.getD a 0) = false ∧ VF g (evb g) w (c + 1) (L.getD a 0) = true)) := by
  obtain ⟨⟨x1, x2, x3⟩, ⟨k7, k8, k9⟩, ⟨l7, l8, l9⟩, hn⟩ := id hQ
  have y2 : rX q 35 2 = some (W 8) := x2
  have y3 : rX q 35 3 = some (W 9) := x3
  obtain ⟨f1, f2, f3, f4, f5, _⟩ := id hL
  have main : ∀ f k i1 b, k + f = L.length → FTs g W L (TM g w c L k) i1 → (∀ x, x ≠ W 8 → i1 x = i x) → ((b = 0 ∧ ∀ x, inK L k x = true → VF g (evb g) w (c + 1) x = true → VF g (evb g) w c x = true) ∨ (b = 1 ∧ ∃ a, a < L.length ∧ VF g (evb g) w c (L.getD a 0) = false ∧ VF g (evb g) w (c + 1) (L.getD a 0) = true)) → ∃ i' b', am_Ex (d + 3) mForcing_solve 4 [.val (.ref 35), .val (.int (nI (c + 1))), .val (.int (nI b)), .val (.int (nI k))] [] (i1, l, rX q, kX K) = some (some (.int (nI b')), (i', l, rX q, kX K)) ∧ FTs g W L (TL g (evb g) w (c + 1)) i' ∧ (∀ x, x ≠ W 8 → i' x = i x) ∧ ((b' = 0 ∧ ∀ x, x ∈ L → VF g (evb g) w (c + 1) x = true → VF g (evb g) w c x = true) ∨ (b' = 1 ∧ ∃ a, a < L.length ∧ VF g (evb g) w c (L.getD a 0) = false ∧ VF g (evb g) w (c + 1) (L.getD a 0) = true)) := by
    intro f
    induction f with
    | zero =>
      intro k i1 b hk hT1 ho hb
      have hk : k = L.length := by omega
      subst hk
      rw [b_Forcing_solve_4, hT1.1, decide_eq_true (show nI L.length ≤ nI L.length from by rw [q_le (by omega) (by omega)]; exact Nat.le_refl _), cond_true, show (decide (nI b = (0 : Int32)) || decide (nI b = (1 : Int32))) = true from by rcases hb with ⟨h, _⟩ | ⟨h, _⟩ <;> (rw [h]; rfl), cond_true]
      refine ⟨i1, b, rfl, FTs_eq (fun y hy => ?_) hT1, ho, ?_⟩
      · unfold TM
        rw [if_pos (inK_iff.mpr (mem_getD.mp hy))]
      · rcases hb with ⟨h1, h2⟩ | h
        · exact Or.inl ⟨h1, fun x hx => h2 x (inK_iff.mpr (mem_getD.mp hx))⟩
        · exact Or.inr h
    | succ f ih =>
      intro k i1 b hk hT1 ho hb
      have hkl : k < L.length := by omega
      obtain ⟨x, hx⟩ : ∃ x, L.getD k 0 = x := ⟨_, rfl⟩
      have hxL : x ∈ L := mem_getD.mpr ⟨k, hkl, hx⟩
      obtain ⟨hvx, hx4, hxn⟩ := f1 x hxL
      have hno : ¬ inK L k x = true := fun z => by
        obtain ⟨a, ha, e⟩ := inK_iff.mp z
        have := nd_inj f4 a k (by omega) hkl (e.trans hx.symm)
        omega
      have hTx : TM g w c L k x = TL g (evb g) w c x := by unfold TM; rw [if_neg hno]
      have hbx := TL_b (g := g) (mv := evb g) (w := w) (N := c) (x := x) (by omega)
      have hTs : ∀ y, y ∈ L → y ≠ x → TM g w c L (k + 1) y = TM g w c L k y := fun y _ hy => by
        unfold TM
        by_cases e : inK L k y = true
        · rw [if_pos e, if_pos (inK_s.mpr (Or.inl e))]
        · rw [if_neg e, if_neg (fun z => by
            rcases inK_s.mp z with z | z
            · exact e z
            · exact hy (z.symm.trans hx))]
      have hTx1 : TM g w c L (k + 1) x = TL g (evb g) w (c + 1) x := by unfold TM; rw [if_pos (inK_s.mpr (Or.inr hx))]
      rw [b_Forcing_solve_4, hT1.1, decide_eq_false (show ¬ nI L.length ≤ nI k from by rw [q_le (by omega) (by omega)]; omega), cond_false, y2, y3]
      dsimp only
      rw [in100 k9 l9 hn (show k < n by omega), cond_true, nI_clamp (show k < 2147483648 by omega), hT1.2.1 k hkl, hx, in100 k8 l8 hn hxn, cond_true, nI_clamp (show x < 2147483648 by omega), hT1.2.2.2.1 x hxL, hTx]
      by_cases cv : VF g (evb g) w c x = true
      · have hne : TL g (evb g) w c x ≠ 1000000 := fun z => by
          rw [(TL_nv (by omega)).mp z] at cv; cases cv
        rw [decide_eq_true (show ¬ nI (TL g (evb g) w c x) = (1000000 : Int32) from by
          show ¬ nI (TL g (evb g) w c x) = nI 1000000
          rw [q_eq (by omega) (by omega)]; exact hne), cond_true, b_Forcing_solve_57, show nI k + (1 : Int32) = nI (k + 1) from nI_add k 1]
        refine ih (k + 1) i1 b (by omega) (FTs_eq (fun y hy => ?_) hT1) ho ?_
        · by_cases e : y = x
          · rw [e, hTx1, hTx, TL_keep cv]
          · exact hTs y hy e
        · rcases hb with ⟨h1, h2⟩ | h
          · exact Or.inl ⟨h1, fun y hy hv => by
              rcases inK_s.mp hy with z | z
              · exact h2 y z hv
              · rw [← z, hx]; exact cv⟩
          · exact Or.inr h
      · have cv : VF g (evb g) w c x = false := by simpa using cv
        have hnv := (TL_nv (g := g) (mv := evb g) (w := w) (N := c) (x := x) (by omega)).mpr cv
        have hfg := s_firstGoing (l := l) d (N := c + 1) (e := 0) h2 hQ hL hT1 (fun y => TM_b hc) hxL (by omega) hq he
        have hwx : wth g (TM g w c L k) (c + 1) x = false := decide_eq_false (fun z => by
          have := z.1
          rw [hTx, hnv] at this
          omega)
        rw [hwx, if_neg (by decide)] at hfg
        rw [decide_eq_false (show ¬ ¬ nI (TL g (evb g) w c x) = (1000000 : Int32) from by rw [hnv]; exact fun z => z rfl), cond_false, cond_true, hfg, am_bd_some, q_app, b_Forcing_solve_39]
        cases hff : ff (fun j => avl g (evb g) x j && wth g (TM g w c L k) (c + 1) (tgt x j)) 32 0 with
        | some j =>
          obtain ⟨_, j2, j3, _⟩ := ff_some hff
          have j3 : (avl g (evb g) x j && wth g (TM g w c L k) (c + 1) (tgt x j)) = true := j3
          rw [Bool.and_eq_true] at j3
          have j4 := of_decide_eq_true j3.2
          have hvc : VF g (evb g) w (c + 1) x = true := VF_s.mpr (Or.inr ⟨j, by omega, j3.1, (TM_lt hc).mp j4.1, (TM_lt hc).mp j4.2⟩)
          have hdl := deed_lt (j := j) (by omega)
          dsimp only
          rw [decide_eq_false (show ¬ nI (deed j) = (-1 : Int32) from by
            show ¬ nI (deed j) = -nI 1
            rw [q_m1 (by omega)]; exact id), cond_false, y2, y3]
          dsimp only
          rw [in100 k9 l9 hn (show k < n by omega), cond_true, nI_clamp (show k < 2147483648 by omega), hT1.2.1 k hkl, hx, in100 k8 l8 hn hxn, cond_true, nI_clamp (show x < 2147483648 by omega), b_Forcing_solve_57, show nI k + (1 : Int32) = nI (k + 1) from nI_add k 1]
          refine ih (k + 1) _ 1 (by omega) (FTs_eq (fun y hy => ?_) (FTs_set (x := x) (N := c + 1) hO hT1)) (fun y hy => ?_) (Or.inr ⟨rfl, k, hkl, by rw [hx]; exact cv, by rw [hx]; exact hvc⟩)
          · unfold ug
            by_cases e : y = x
            · rw [if_pos e, e, hTx1]; exact TL_new (by omega) cv hvc
            · rw [if_neg e]; exact hTs y hy e
          · rw [← ho y hy]; funext t; unfold am_u2; rw [if_neg hy]
        | none =>
          have hvc : VF g (evb g) w (c + 1) x = false := by
            cases hv : VF g (evb g) w (c + 1) x with
            | false => rfl
            | true =>
              rcases VF_s.mp hv with z | ⟨j, hj, ha, z1, z2⟩
              · rw [cv] at z; cases z
              · have := ff_none hff j (by omega) (by omega)
                have this : (avl g (evb g) x j && wth g (TM g w c L k) (c + 1) (tgt x j)) = false := this
                rw [ha, show wth g (TM g w c L k) (c + 1) (tgt x j) = true from decide_eq_true ⟨(TM_lt hc).mpr z1, (TM_lt hc).mpr z2⟩] at this
                cases this
          dsimp only
          rw [show decide (-nI 1 = (-1 : Int32)) = true from rfl, cond_true, b_Forcing_solve_57, show nI k + (1 : Int32) = nI (k + 1) from nI_add k 1]
          refine ih (k + 1) i1 b (by omega) (FTs_eq (fun y hy => ?_) hT1) ho ?_
          · by_cases e : y = x
            · rw [e, hTx1, hTx, TL_no hvc]
            · exact hTs y hy e
          · rcases hb with ⟨h1, h2⟩ | h
            · exact Or.inl ⟨h1, fun y hy hv => by
                rcases inK_s.mp hy with z | z
                · exact h2 y z hv
                · rw [← z, hx, hvc] at hv; cases hv⟩
            · exact Or.inr h
  rw [c_Forcing_solve, b_Forcing_solve_0]
  exact main L.length 0 i 0 (by omega) (FTs_eq (fun y _ => by
    unfold TM
    rw [if_neg (fun z => by obtain ⟨a, ha, _⟩ := inK_iff.mp z; exact absurd ha (Nat.not_lt_zero _))]) hT) (fun _ _ => rfl) (Or.inl ⟨rfl, fun x hx => by obtain ⟨a, ha, _⟩ := inK_iff.mp hx; exact absurd ha (Nat.not_lt_zero _)⟩)
end
