/-! THE CLASS: what people can force, and how -/
section
variable {i i' : Nat → Nat → Int32} {l l' : Nat → Nat → Int64} {q q' : Nat → Nat → Option Nat} {K K' : List (Nat × Nat)} {r m v v' : Nat} {g h : Nat → Nat} {ρ : Nat → Nat → Nat} {W W' : Nat → Nat}
noncomputable def T0 (g : Nat → Nat) (w : Nat) (L : List Nat) (k x : Nat) : Nat := if inK L k x = true ∧ VF g (evb g) w 0 x = true then 0 else 1000000
theorem y_turnsFor (d : Nat) {n w a : Nat} {L : List Nat} (hw : w < 4) (hV : RV (i, l, rX q, kX K) r g) (hWG : WG g) (hN : RNc q r (W 8)) (hO : WO W) (hQ : FQs W n q K) (hL : FL g n L) (hq1 : q 22 1 = some r) (hq : q 22 3 = some (W 0)) (he : kK K (W 0) = 100 ∧ 8 ^ g 2 ≤ lK K (W 0) ∧ lK K (W 0) ≤ 4096) (ha : a ∈ L) (hT : FTs g W L (fun _ => 1000000) i) : ∃ i' N, am_cl (d + 5) mForcing_turnsFor [.ref 35, .int (nI a), .int (nI w)] (i, l, rX q, kX K) = some (some (.int (if fc g (evb g) w a = FARN then -nI 1 else nI (fc g (evb g) w a))), (i', l, rX q, kX K)) ∧ (∀ x, x ≠ W 8 → i' x = i x) ∧ FTs g W L (TL g (evb g) w N) i' ∧ N ≤ 4096 ∧ (fc g (evb g) w a ≠ FARN → fc g (evb g) w a ≤ N) := by
  have hF : FARN = 268435456 := rfl
  obtain ⟨⟨x1, x2, x3⟩, ⟨k7, k8, k9⟩, ⟨l7, l8, l9⟩, hn⟩ := id hQ
  have h2 : g 2 ≤ 4 := hWG.2.1
  have y2 : rX q 35 2 = some (W 8) := x2
  have y3 : rX q 35 3 = some (W 9) := x3
  have y22 : rX q 22 1 = some r := hq1
  obtain ⟨f1, f2, f3, f4, f5, _⟩ := id hL
  obtain ⟨hva, ha4, han⟩ := f1 a ha
  have hRV : ∀ i1, (∀ x, x ≠ W 8 → i1 x = i x) → RV (i1, l, rX q, kX K) r g := fun i1 h => RV_fk (Ri := []) (ws := [W 8]) (Rl := []) (Rq := []) ⟨⟨[], by rw [List.append_nil]⟩, fun c _ => ⟨fun _ z => h c (fun e => by rw [e] at z; simp at z), fun _ _ => rfl, fun _ => rfl⟩⟩ rfl rfl (fun w hw => by rw [List.mem_singleton.mp hw]; exact hN) hV
  -- layers
  have fin : ∀ c i1 z2 z3 z4, c ≤ 4096 → FTs g W L (TL g (evb g) w c) i1 → (∀ x, x ≠ W 8 → i1 x = i x) → (VF g (evb g) w c a = false → fc g (evb g) w a = FARN) → ∃ i' N, am_Ex (d + 4) mForcing_turnsFor 108 [.val (.ref 35), .val (.int (nI a)), z2, z3, z4] [] (i1, l, rX q, kX K) = some (some (.int (if fc g (evb g) w a = FARN then -nI 1 else nI (fc g (evb g) w a))), (i', l, rX q, kX K)) ∧ (∀ x, x ≠ W 8 → i' x = i x) ∧ FTs g W L (TL g (evb g) w N) i' ∧ N ≤ 4096 ∧ (fc g (evb g) w a ≠ FARN → fc g (evb g) w a ≤ N) := fun c i1 z2 z3 z4 hc hT1 ho hfar => by
    have hbx := TL_b (g := g) (mv := evb g) (w := w) (N := c) (x := a) (by omega)
    refine ⟨i1, c, ?_, ho, hT1, hc, fun z => ?_⟩
    · rw [b_Forcing_turnsFor_108, y2]
      dsimp only
      rw [in100 k8 l8 hn han, cond_true, nI_clamp (by omega), hT1.2.2.2.1 a ha]
      cases hv : VF g (evb g) w c a with
      | true =>
        have hfc := fc_n hv (by omega)
        have hne : TL g (evb g) w c a = fc g (evb g) w a := by unfold TL; rw [if_pos hv]
        rw [hne, decide_eq_true (show ¬ nI (fc g (evb g) w a) = (1000000 : Int32) from by
          show ¬ nI (fc g (evb g) w a) = nI 1000000
          rw [q_eq (by omega) (by omega)]; omega), cond_true, cond_true, b_Forcing_turnsFor_129, if_neg (by omega)]
      | false =>
        rw [(TL_nv (by omega)).mpr hv, show decide (¬ nI 1000000 = (1000000 : Int32)) = false from rfl, cond_false, b_Forcing_turnsFor_129, if_pos (hfar hv)]
        rfl
    · cases hv : VF g (evb g) w c a with
      | true => exact fc_n hv (by omega)
      | false => exact absurd (hfar hv) z
  have main : ∀ f c i1 b z2, c + f = L.length + 1 → c ≤ L.length → FTs g W L (TL g (evb g) w c) i1 → (∀ x, x ≠ W 8 → i1 x = i x) → ((b = 1 ∧ c ≤ csN g (evb g) w L c) ∨ (b = 0 ∧ ∃ c0, c = c0 + 1 ∧ ∀ x, x ∈ L → VF g (evb g) w (c0 + 1) x = true → VF g (evb g) w c0 x = true)) → ∃ i' N, am_Ex (d + 4) mForcing_turnsFor 71 [.val (.ref 35), .val (.int (nI a)), z2, .val (.int (nI b)), .val (.int (nI (c + 1)))] [] (i1, l, rX q, kX K) = some (some (.int (if fc g (evb g) w a = FARN then -nI 1 else nI (fc g (evb g) w a))), (i', l, rX q, kX K)) ∧ (∀ x, x ≠ W 8 → i' x = i x) ∧ FTs g W L (TL g (evb g) w N) i' ∧ N ≤ 4096 ∧ (fc g (evb g) w a ≠ FARN → fc g (evb g) w a ≤ N) := by
    intro f
    induction f with
    | zero =>
      intro c i1 b z2 hcf hcl hT1 ho hb
      omega
    | succ f ih =>
      intro c i1 b z2 hcf hcl hT1 ho hb
      have hcn : c ≤ 4096 := by omega
      have hbx := TL_b (g := g) (mv := evb g) (w := w) (N := c) (x := a) (by omega)
      have far0 : ∀ c0, c = c0 + 1 → (∀ x, x ∈ L → VF g (evb g) w (c0 + 1) x = true → VF g (evb g) w c0 x = true) → VF g (evb g) w c a = false → fc g (evb g) w a = FARN := fun c0 hc0 hst hv => by
        refine (lst_eq (P := fun n => VF g (evb g) w n a) (Nat.le_refl _) (fun z => absurd z (Nat.lt_irrefl _)) (fun k _ => ?_)).symm
        cases hk : VF g (evb g) w k a with
        | false => rfl
        | true =>
          exfalso
          have h3 : VF g (evb g) w c0 a = true := by
            by_cases e : k ≤ c0
            · exact VF_le hk e
            · exact VF_stop (P := fun s => s ∈ L) f2 f3 hst (k - c0) a ha (by rw [show c0 + (k - c0) = k by omega]; exact hk)
          rw [VF_le h3 (show c0 ≤ c by omega)] at hv
          cases hv
      rw [b_Forcing_turnsFor_71, hT1.1]
      by_cases e1 : L.length < c + 1
      · rw [decide_eq_true (show nI L.length < nI (c + 1) from by rw [q_lt (by omega) (by omega)]; exact e1), cond_true]
        refine fin c i1 _ _ _ hcn hT1 ho (fun hv => ?_)
        rcases hb with ⟨_, h⟩ | ⟨_, c0, h3, h4⟩
        · obtain ⟨k, hk, ek⟩ := mem_getD.mp ha
          have := cs_all (show L.length ≤ csN g (evb g) w L c by omega) hk
          rw [ek, hv] at this; cases this
        · exact far0 c0 h3 h4 hv
      · rw [decide_eq_false (show ¬ nI L.length < nI (c + 1) from by rw [q_lt (by omega) (by omega)]; exact e1), cond_false]
        rcases hb with ⟨hb1, hcs⟩ | ⟨hb0, c0, h3, h4⟩
        · subst hb1
          rw [show decide (nI 1 = (0 : Int32)) = false from rfl, cond_false, y2]
          dsimp only
          rw [in100 k8 l8 hn han, cond_true, nI_clamp (by omega), hT1.2.2.2.1 a ha]
          cases hv : VF g (evb g) w c a with
          | true =>
            have hne : TL g (evb g) w c a ≠ 1000000 := fun z => by rw [(TL_nv (by omega)).mp z] at hv; cases hv
            rw [decide_eq_true (show ¬ nI (TL g (evb g) w c a) = (1000000 : Int32) from by
              show ¬ nI (TL g (evb g) w c a) = nI 1000000
              rw [q_eq (by omega) (by omega)]; exact hne), cond_true]
            exact fin c i1 _ _ _ hcn hT1 ho (fun z => by rw [hv] at z; cases z)
          | false =>
            obtain ⟨i2, b2, e2, hT2, ho2, hb2⟩ := y_solve (l := l) (i := i1) d h2 hO hQ hL hq he (show c < 9000 by omega) hT1
            rw [(TL_nv (by omega)).mpr hv, show decide (¬ nI 1000000 = (1000000 : Int32)) = false from rfl, cond_false, e2, am_bd_some, q_app, b_Forcing_turnsFor_101, show nI (c + 1) + (1 : Int32) = nI (c + 1 + 1) from nI_add _ 1]
            refine ih (c + 1) i2 b2 _ (by omega) (by omega) hT2 (fun x hx => (ho2 x hx).trans (ho x hx)) ?_
            rcases hb2 with ⟨h5, h6⟩ | ⟨h5, k, hk, h6, h7⟩
            · exact Or.inr ⟨h5, c, rfl, h6⟩
            · have := cs_grow (g := g) (mv := evb g) (w := w) hk h6 h7
              exact Or.inl ⟨h5, by omega⟩
        · subst hb0
          rw [show decide (nI 0 = (0 : Int32)) = true from rfl, cond_true]
          exact fin c i1 _ _ _ hcn hT1 ho (far0 c0 h3 h4)
  -- who is over
  have init : ∀ f k i1 z4, k + f = L.length → FTs g W L (T0 g w L k) i1 → (∀ x, x ≠ W 8 → i1 x = i x) → ∃ i' N, am_Ex (d + 4) mForcing_turnsFor 17 [.val (.ref 35), .val (.int (nI a)), .val (.int (nI w)), .val (.int (nI k)), z4] [] (i1, l, rX q, kX K) = some (some (.int (if fc g (evb g) w a = FARN then -nI 1 else nI (fc g (evb g) w a))), (i', l, rX q, kX K)) ∧ (∀ x, x ≠ W 8 → i' x = i x) ∧ FTs g W L (TL g (evb g) w N) i' ∧ N ≤ 4096 ∧ (fc g (evb g) w a ≠ FARN → fc g (evb g) w a ≤ N) := by
    intro f
    induction f with
    | zero =>
      intro k i1 z4 hk hT1 ho
      have hk : k = L.length := by omega
      subst hk
      rw [b_Forcing_turnsFor_17, hT1.1, decide_eq_true (show nI L.length ≤ nI L.length from by rw [q_le (by omega) (by omega)]; exact Nat.le_refl _), cond_true]
      refine main (L.length + 1) 0 i1 1 _ (by omega) (Nat.zero_le _) (FTs_eq (fun y hy => ?_) hT1) ho (Or.inl ⟨rfl, Nat.zero_le _⟩)
      unfold T0 TL
      by_cases e : VF g (evb g) w 0 y = true
      · have := fc_n e (by omega)
        rw [if_pos e, if_pos ⟨inK_iff.mpr (mem_getD.mp hy), e⟩]; omega
      · rw [if_neg e, if_neg (fun z => e z.2)]
    | succ f ih =>
      intro k i1 z4 hk hT1 ho
      have hkl : k < L.length := by omega
      obtain ⟨x, hx⟩ : ∃ x, L.getD k 0 = x := ⟨_, rfl⟩
      have hxL : x ∈ L := mem_getD.mpr ⟨k, hkl, hx⟩
      obtain ⟨hvx, hx4, hxn⟩ := f1 x hxL
      have hV1 := hRV i1 ho
      have fV := (CV_f hV1 hWG).2.2.2.2.2.2.2.1
      have hov := sOver_lt (g := g) (a := x) h2
      have hTs : ∀ y, y ≠ x → T0 g w L (k + 1) y = T0 g w L k y := fun y hy => by
        unfold T0
        by_cases e : inK L k y = true ∧ VF g (evb g) w 0 y = true
        · rw [if_pos e, if_pos ⟨inK_s.mpr (Or.inl e.1), e.2⟩]
        · rw [if_neg e, if_neg (fun z => by
            rcases inK_s.mp z.1 with z1 | z1
            · exact e ⟨z1, z.2⟩
            · exact hy (z1.symm.trans hx))]
      rw [b_Forcing_turnsFor_17, hT1.1, decide_eq_false (show ¬ nI L.length ≤ nI k from by rw [q_le (by omega) (by omega)]; omega), cond_false, y22, y3]
      dsimp only
      rw [in100 k9 l9 hn (show k < n by omega), cond_true, show Nat.beq (am_kd (i1, l, rX q, kX K) r) 6 = true from by rw [hV1.2.1]; rfl, Bool.true_and, cond_true, nI_clamp (show k < 2147483648 by omega), hT1.2.1 k hkl, hx, fV (d + 2) x hx4, am_bd_some, q_app, b_Forcing_turnsFor_41, s_X_hasBit' (d + 3) (by omega) (by omega), am_bd_some, q_app, b_Forcing_turnsFor_45]
      have hv0 : VF g (evb g) w 0 x = (sOver g x).testBit w := rfl
      cases hb : (sOver g x).testBit w with
      | false =>
        rw [if_neg (by decide), show decide (nI 0 = (0 : Int32)) = true from rfl, cond_true, b_Forcing_turnsFor_60, show nI k + (1 : Int32) = nI (k + 1) from nI_add k 1]
        refine ih (k + 1) i1 _ (by omega) (FTs_eq (fun y hy => ?_) hT1) ho
        by_cases e : y = x
        · rw [e]
          unfold T0
          rw [if_neg (fun z => by rw [hv0, hb] at z; cases z.2), if_neg (fun z => by rw [hv0, hb] at z; cases z.2)]
        · exact hTs y e
      | true =>
        rw [if_pos rfl, show decide (nI 1 = (0 : Int32)) = false from rfl, cond_false, y2, y3]
        dsimp only
        rw [in100 k9 l9 hn (show k < n by omega), cond_true, nI_clamp (show k < 2147483648 by omega), hT1.2.1 k hkl, hx, in100 k8 l8 hn hxn, cond_true, nI_clamp (show x < 2147483648 by omega), b_Forcing_turnsFor_60, show nI k + (1 : Int32) = nI (k + 1) from nI_add k 1]
        refine ih (k + 1) _ _ (by omega) (FTs_eq (fun y hy => ?_) (FTs_set (x := x) (N := 0) hO hT1)) (fun y hy => ?_)
        · unfold ug
          by_cases e : y = x
          · rw [if_pos e, e]
            unfold T0
            rw [if_pos ⟨inK_s.mpr (Or.inr hx), by rw [hv0]; exact hb⟩]
          · rw [if_neg e]; exact hTs y e
        · rw [← ho y hy]; funext t; unfold am_u2; rw [if_neg hy]
  rw [c_Forcing_turnsFor, b_Forcing_turnsFor_0, decide_eq_false (show ¬ nI a < 0 from by
    show ¬ nI a < nI 0
    rw [q_lt (by omega) (by omega)]; omega), cond_false, y2]
  dsimp only
  rw [bl100 k8, cond_true, decide_eq_true (show nI a < Int32.ofNat (am_ln (i, l, rX q, kX K) (W 8)) from by
    rw [show am_ln (i, l, rX q, kX K) (W 8) = n from l8]
    show nI a < nI n
    rw [q_lt (by omega) (by omega)]; exact han), cond_true]
  exact init L.length 0 i _ (by omega) (FTs_eq (fun y _ => by
    unfold T0
    rw [if_neg (fun z => by obtain ⟨b, hb, _⟩ := inK_iff.mp z.1; exact absurd hb (Nat.not_lt_zero _))]) hT) (fun _ _ => rfl)
end
