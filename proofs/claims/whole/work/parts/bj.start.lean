/-! THE LAW: from its entry -/
/-- where an element of a text stands among the words of the start -/
def lw_el (i j : Nat) : Cond := Cond.eq (.elem (.field (.string (am_so i) (am_si i)) "java/lang/String" "value" "[B") (.int (Int32.ofNat j))) (.int (([am_tx0, am_tx1, am_tx2].getD i []).getD j 0))
def lw_flat : List Cond := flatC (Cond.and given_1 narrow_1)
set_option maxRecDepth 100000 in
theorem lw_els : ((List.range 3).all fun i => (List.range ([am_tx0.length, am_tx1.length, am_tx2.length].getD i 0)).all fun j => decide (lw_flat[([39, 155, 172].getD i 0) + j]? = some (lw_el i j))) = true := by decide +kernel
set_option maxRecDepth 100000 in
theorem lw_els2 : ((List.range 3).all fun i => decide (lw_flat[([35, 151, 168].getD i 0)]? = some (Cond.exactly (.string (am_so i) (am_si i)) "java/lang/String")) && decide (lw_flat[([35, 151, 168].getD i 0) + 1]? = some (Cond.eq (.field (.string (am_so i) (am_si i)) "java/lang/String" "coder" "B") (.int 0))) && decide (lw_flat[([35, 151, 168].getD i 0) + 2]? = some (Cond.arrayOf (.field (.string (am_so i) (am_si i)) "java/lang/String" "value" "[B") .byte)) && decide (lw_flat[([35, 151, 168].getD i 0) + 3]? = some (Cond.eq (.length (.field (.string (am_so i) (am_si i)) "java/lang/String" "value" "[B")) (.int (Int32.ofNat ([am_tx0.length, am_tx1.length, am_tx2.length].getD i 0)))))) = true := by decide +kernel
set_option maxRecDepth 100000 in
theorem lw_els3 : (decide (lw_flat[167]? = some (Cond.not (Cond.eq (.string (am_so 0) (am_si 0)) (.string (am_so 1) (am_si 1))))) && decide (lw_flat[285]? = some (Cond.not (Cond.eq (.string (am_so 0) (am_si 0)) (.string (am_so 2) (am_si 2))))) && decide (lw_flat[286]? = some (Cond.not (Cond.eq (.string (am_so 1) (am_si 1)) (.string (am_so 2) (am_si 2))))) && decide (lw_flat[304]? = some (Cond.eq (.string (am_so 1) (am_si 1)) (.string (am_so 3) (am_si 3)))) && decide (lw_flat[4]? = some (Cond.eq (.static "java/lang/String" "COMPACT_STRINGS" "Z") (.int 1))) && decide (lw_flat[5]? = some (Cond.isRef (.static "jdk/internal/util/Preconditions" "SIOOBE_FORMATTER" "Ljava/util/function/BiFunction;")))) = true := by decide +kernel
theorem lw_lens : ∀ i, i < 3 → [am_tx0.length, am_tx1.length, am_tx2.length].getD i 0 < 2 ^ 31 := by decide +kernel
theorem lw_srefs : ∀ k, k < 4 → Cond.stringRef (am_so k) (am_si k) (am_tS k) ∈ lw_tbl := by decide +kernel
/-- the texts and the statics -/
theorem lw_Sy {s : State} {b : Nat} (hts : ∀ w ∈ lw_tbl, w.before #[Value.ref b] s = true) (hgv : (Jvm.Cond.and given_1 narrow_1).before #[Value.ref b] s = true) : ∃ tx : Nat → Nat, ∀ ad : Nat → Nat, (∀ k, k < 4 → ad (1000000 + k) = tx k) → am_Sy ad (lw_A s) s := by
  have hs : ∀ w ∈ lw_flat, w.before #[Value.ref b] s = true := flat_of_before _ hgv
  have hg : ∀ {k : Nat} {w : Cond}, lw_flat[k]? = some w → w.before #[Value.ref b] s = true := fun h => hs _ (List.mem_of_getElem? h)
  have hA : ∀ a : Nat, a < s.heap.size → ¬ lw_A s a := fun a h z => by
    have z : s.heap.size ≤ a := z
    omega
  have e1 := lw_els
  have e2 := lw_els2
  have e3 := lw_els3
  simp only [List.all_eq_true, List.mem_range, decide_eq_true_eq, Bool.and_eq_true] at e1 e2 e3
  obtain ⟨⟨⟨⟨⟨n01, n02⟩, n12⟩, n13⟩, c1⟩, c2⟩ := e3
  obtain ⟨adK, adV, hV, hK⟩ := vk_Sof (args := #[Value.ref b]) (s := s) (N := 3) (tm := fun i => .string (am_so i) (am_si i)) (len := [am_tx0.length, am_tx1.length, am_tx2.length]) (byt := [am_tx0, am_tx1, am_tx2]) (A := lw_A s) lw_lens (fun i hi => hg (e2 i hi).1.1.1) (fun i hi => hg (e2 i hi).1.1.2) (fun i hi => hg (e2 i hi).1.2) (fun i hi => hg (e2 i hi).2) (fun i hi j hj => hg (e1 i hi j hj)) (fun i j hi hj hne => by
    rcases (show i = 0 ∨ i = 1 ∨ i = 2 by omega) with rfl | rfl | rfl <;> rcases (show j = 0 ∨ j = 1 ∨ j = 2 by omega) with rfl | rfl | rfl
    · exact absurd rfl hne
    · exact Or.inl (hg n01)
    · exact Or.inl (hg n02)
    · exact Or.inr (hg n01)
    · exact absurd rfl hne
    · exact Or.inl (hg n12)
    · exact Or.inr (hg n02)
    · exact Or.inr (hg n12)
    · exact absurd rfl hne) hA
  obtain ⟨y, y1, y2⟩ := Cond.eq_one (hg n13)
  have hk1 : (Term.string (am_so 1) (am_si 1)).eval #[Value.ref b] s none [] s = some (.ref (adK 1)) := hK 1 (by decide)
  rw [hk1] at y1
  injection y1 with y1
  rw [← y1] at y2
  refine ⟨fun k => if k = 3 then adK 1 else adK k, fun ad had => ⟨⟨fun k hk => ?_, ?_, adV, ?_⟩, va_Zof (hts _ (by decide +kernel)) (hts _ (by decide +kernel)) (va_eqt (hg c1)) hA, ?_⟩⟩
  · rw [had k hk]
    refine vk_R.of (hts _ (lw_srefs k hk)) ?_
    dsimp only
    by_cases c : k = 3
    · subst c; rw [if_pos rfl]; exact y2
    · rw [if_neg c]; exact hK k (by omega)
  · rw [had 3 (by decide), had 1 (by decide)]; rfl
  · have ek : ∀ i, i < 3 → ad (1000000 + i) = adK i := fun i hi => by rw [had i (by omega)]; exact if_neg (by omega)
    refine ⟨fun i hi => ?_, fun i j hi hj h => ?_⟩
    · dsimp only
      rw [ek i hi]; exact hV.1 i hi
    · have h : ad (1000000 + i) = ad (1000000 + j) := h
      rw [ek i hi, ek j hj] at h
      exact hV.2 i j hi hj h
  · obtain ⟨v, hv, hr⟩ := Cond.isRef_spec (hg c2)
    have z := fun v hv => va_Zof (C := "jdk/internal/util/Preconditions") (n := "SIOOBE_FORMATTER") (d := "Ljava/util/function/BiFunction;") (v := v) (A := lw_A s) (hts _ (by decide +kernel)) (hts _ (by decide +kernel)) hv hA
    cases v with
    | null => exact Or.inl (z _ hv)
    | ref t => exact Or.inr ⟨t, z _ hv⟩
    | _ => cases hr
theorem am_ca_in : ∀ w ∈ [Cond.arrayClass .int, Cond.arrayClass .long, Cond.arrayClass .byte, Cond.arrayClass .boolean, Cond.arrayOver (.object "FordLine$Tray"), Cond.arrayOver (.object "FordLine$River")], w ∈ lw_tbl := by decide +kernel
/-- the tables' classes -/
theorem lw_Kn {s : State} {b : Nat} (hts : ∀ w ∈ lw_tbl, w.before #[Value.ref b] s = true) : ∃ (dC : Nat → ClassId) (dI : Nat → Nat → Nat) (aC : Nat → ClassId), va_K (dC, dI) vwCl (am_tys aC) s := by
  have hgw : ∀ w ∈ am_gw, w.before #[Value.ref b] s = true := fun w hw => hts w (List.mem_filter.mp hw).1
  have hk : ∀ ci, ∃ (cC : ClassId) (iS : Nat → Nat), ci < 13 → u_Kn s (am_Rn ci) (am_T ci) (am_N ci) cC iS := fun ci => by
    by_cases h : ci < 13
    · obtain ⟨cC, iS, h2⟩ := u_known (C := am_Rn ci) (T := am_T ci) (N := am_N ci) (n := am_N ci) hts (fun w hw => (List.mem_filter.mp (am_cin h w hw)).1) (hgw _ (am_cnew h).1)
      exact ⟨cC, iS, fun _ => h2⟩
    · obtain ⟨cC, iS, _⟩ := u_known (C := am_Rn 0) (T := am_T 0) (N := am_N 0) (n := am_N 0) hts (fun w hw => (List.mem_filter.mp (am_cin (show 0 < 13 by decide) w hw)).1) (hgw _ (am_cnew (show 0 < 13 by decide)).1)
      exact ⟨cC, iS, fun z => absurd z h⟩
  obtain ⟨a0, k0, m0, p0, q0, r0⟩ := Cond.arrayClass_spec (hts _ (am_ca_in (.arrayClass .int) (by simp)))
  obtain ⟨a1, k1, m1, p1, q1, r1⟩ := Cond.arrayClass_spec (hts _ (am_ca_in (.arrayClass .long) (by simp)))
  obtain ⟨a2, k2, m2, p2, q2, r2⟩ := Cond.arrayClass_spec (hts _ (am_ca_in (.arrayClass .byte) (by simp)))
  obtain ⟨a3, k3, m3, p3, q3, r3⟩ := Cond.arrayClass_spec (hts _ (am_ca_in (.arrayClass .boolean) (by simp)))
  obtain ⟨m4, a4, k4, p4, _, q4, r4, t4⟩ := Cond.arrayOver_spec (hts _ (am_ca_in (.arrayOver (.object "FordLine$Tray")) (by simp)))
  obtain ⟨m5, a5, k5, p5, _, q5, r5, t5⟩ := Cond.arrayOver_spec (hts _ (am_ca_in (.arrayOver (.object "FordLine$River")) (by simp)))
  refine ⟨fun ci => (hk ci).choose, fun ci => (hk ci).choose_spec.choose, fun k => if k = 100 then a0 else if k = 101 then a1 else if k = 102 then a2 else if k = 103 then a3 else if k = 104 then a4 else a5, fun ci q hq => ?_, fun k q hq => ?_⟩
  · have hlt : ci < 13 := by
      rcases Nat.lt_or_ge ci 13 with z | z
      · exact z
      · rw [List.getElem?_eq_none (show vwCl.length ≤ ci from z)] at hq; cases hq
    rw [am_cg hlt] at hq
    injection hq with hq
    subst hq
    exact (hk ci).choose_spec.choose_spec hlt
  · have hlt : k < 6 := by
      rcases Nat.lt_or_ge k 6 with z | z
      · exact z
      · rw [List.getElem?_eq_none (show (6 : Nat) ≤ k from z)] at hq; cases hq
    rcases (show k = 0 ∨ k = 1 ∨ k = 2 ∨ k = 3 ∨ k = 4 ∨ k = 5 by omega) with rfl | rfl | rfl | rfl | rfl | rfl <;> cases hq
    · exact ⟨fun N z => ⟨fun k h => (by cases h), k0, q0, m0, r0⟩, p0⟩
    · exact ⟨fun N z => ⟨fun k h => (by cases h), k1, q1, m1, r1⟩, p1⟩
    · exact ⟨fun N z => ⟨fun k h => (by cases h), k2, q2, m2, r2⟩, p2⟩
    · exact ⟨fun N z => ⟨fun k h => (by cases h), k3, q3, m3, r3⟩, p3⟩
    · exact ⟨fun N z => ⟨fun k h => (by cases h), k4, q4, m4, r4⟩, k4, m4, q4, r4, p4, t4⟩
    · exact ⟨fun N z => ⟨fun k h => (by cases h), k5, q5, m5, r5⟩, k5, m5, q5, r5, p5, t5⟩
/-- the worlds that the constructors leave, as the lemmas want them -/
theorem W_X {aC : Nat → ClassId} {ad : Nat → Nat} {i : Nat → Nat → Int32} {l : Nat → Nat → Int64} {q : Nat → Nat → Option Nat} (h : ∀ a k, a < 58 → k < 16 → rX q a k = q a k) : am_W aC ad (i, l, q, kX []) = am_W aC ad (i, l, rX q, kX []) := by
  have kd : ∀ r, r < 58 → (am_kd (i, l, q, kX []) r < 100 → am_N (am_kd (i, l, q, kX []) r) ≤ 16) ∧ (104 ≤ am_kd (i, l, q, kX []) r → r = 47 ∨ r = 48) := by
    have : ∀ r, r < 58 → (kK [] r < 100 → am_N (kK [] r) ≤ 16) ∧ (104 ≤ kK [] r → r = 47 ∨ r = 48) := by decide +kernel
    exact this
  unfold am_W
  refine List.map_congr_left (fun r hr => ?_)
  have hr : r < 58 := List.mem_range.mp hr
  obtain ⟨kd1, kd2⟩ := kd r hr
  have e : am_E aC ad (i, l, q, kX []) r = am_E aC ad (i, l, rX q, kX []) r := by
    unfold am_E
    show am_Ek aC ad (i, l, q, kX []) r (am_kd (i, l, q, kX []) r) (am_ln (i, l, q, kX []) r) = am_Ek aC ad (i, l, rX q, kX []) r (am_kd (i, l, q, kX []) r) (am_ln (i, l, q, kX []) r)
    generalize am_kd (i, l, q, kX []) r = c at kd1 kd2
    generalize am_ln (i, l, q, kX []) r = nn
    unfold am_Ek
    by_cases c1 : c < 100
    · rw [if_pos c1, if_pos c1]
      congr 2
      refine List.map_congr_left (fun k hk => ?_)
      have hk := List.mem_range.mp hk
      have := kd1 c1
      unfold am_fv
      dsimp only
      rw [h r k hr (by omega)]
    · rw [if_neg c1, if_neg c1]
      by_cases c2 : c = 101
      · rw [if_pos c2, if_pos c2]
      · rw [if_neg c2, if_neg c2]
        by_cases c3 : c < 104
        · rw [if_pos c3, if_pos c3]
        · rw [if_neg c3, if_neg c3]
          have eq : rX q r = q r := by
            rcases kd2 (by omega) with rfl | rfl
            · funext k
              match k with
              | 0 => exact h 47 0 (by decide) (by decide)
              | 1 => exact h 47 1 (by decide) (by decide)
              | 2 => exact h 47 2 (by decide) (by decide)
              | 3 => exact h 47 3 (by decide) (by decide)
              | k + 4 => rfl
            · rfl
          dsimp only
          rw [eq]
  rw [e]
theorem W_M {aC : Nat → ClassId} {ad : Nat → Nat} {i : Nat → Nat → Int32} {l : Nat → Nat → Int64} {q : Nat → Nat → Option Nat} (h : ∀ a k, a < 25 → k < 44 → rM a k = q a k) : am_W aC ad (i, l, q, kM) = am_W aC ad (i, l, rM, kM) := by
  have kd : ∀ r, r < 25 → (am_kd (i, l, q, kM) r < 100 → am_N (am_kd (i, l, q, kM) r) ≤ 44) ∧ am_kd (i, l, q, kM) r < 104 := by
    have : ∀ r, r < 25 → (am_kd ((fun _ _ => 0), (fun _ _ => 0), (fun _ _ => none), kM) r < 100 → am_N (am_kd ((fun _ _ => 0), (fun _ _ => 0), (fun _ _ => none), kM) r) ≤ 44) ∧ am_kd ((fun _ _ => 0), (fun _ _ => 0), (fun _ _ => none), kM) r < 104 := by decide +kernel
    exact this
  unfold am_W
  refine List.map_congr_left (fun r hr => ?_)
  have hr : r < 25 := List.mem_range.mp hr
  obtain ⟨kd1, kd2⟩ := kd r hr
  have e : am_E aC ad (i, l, q, kM) r = am_E aC ad (i, l, rM, kM) r := by
    unfold am_E
    show am_Ek aC ad (i, l, q, kM) r (am_kd (i, l, q, kM) r) (am_ln (i, l, q, kM) r) = am_Ek aC ad (i, l, rM, kM) r (am_kd (i, l, q, kM) r) (am_ln (i, l, q, kM) r)
    generalize am_kd (i, l, q, kM) r = c at kd1 kd2
    generalize am_ln (i, l, q, kM) r = nn
    unfold am_Ek
    by_cases c1 : c < 100
    · rw [if_pos c1, if_pos c1]
      congr 2
      refine List.map_congr_left (fun k hk => ?_)
      have hk := List.mem_range.mp hk
      have := kd1 c1
      unfold am_fv
      dsimp only
      rw [h r k hr (by omega)]
    · rw [if_neg c1, if_neg c1]
      by_cases c2 : c = 101
      · rw [if_pos c2, if_pos c2]
      · rw [if_neg c2, if_neg c2, if_pos kd2, if_pos kd2]
  rw [e]
