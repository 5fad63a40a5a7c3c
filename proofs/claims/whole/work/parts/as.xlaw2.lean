/-! THE CLASS: a law is read -/
section
variable {i i' i'' : Nat → Nat → Int32} {l l' l'' : Nat → Nat → Int64} {q q' q'' : Nat → Nat → Option Nat} {K K' K'' : List (Nat × Nat)} {B : Nat → Nat} {N M r : Nat} {s t : PS} {f f' : Nat → Nat}
theorem s_J_copyOf (d : Nat) {r0 c n : Nat} (hk : am_kd (i, l, q, K) r0 = 100) (hn : am_ln (i, l, q, K) r0 = n) (hn2 : n ≤ 100000) (hc : c < n) : am_cl (d + 1) mJ_copyOf [.ref r0, .int (nI c)] (i, l, q, K) = some (some (.ref K.length), (am_cpyl (am_u1 i K.length (fun _ => 0)) r0 K.length 0 0 c, am_u1 l K.length (fun _ => 0), am_u1 q K.length (fun _ => none), K ++ [(100, c)])) := by
  have hlt := kd_lt hk (by decide)
  have ha : ∀ i' l' q', am_kd (i', l', q', K ++ [(100, c)]) r0 = 100 ∧ am_ln (i', l', q', K ++ [(100, c)]) r0 = n := fun i' l' q' => by
    obtain ⟨a, b⟩ := kd_app (i := i) (i' := i') (l := l) (l' := l') (q := q) (q' := q') (L := [(100, c)]) hlt
    exact ⟨a.trans hk, b.trans hn⟩
  have hb : ∀ i' l' q', am_kd (i', l', q', K ++ [(100, c)]) K.length = 100 ∧ am_ln (i', l', q', K ++ [(100, c)]) K.length = c := fun i' l' q' => by
    unfold am_kd am_ln
    dsimp only
    rw [show (K ++ [(100, c)])[K.length]? = some (100, c) from by simp]
    exact ⟨rfl, rfl⟩
  have hne : decide (¬ nI c = Int32.ofNat n) = true := decide_eq_true (by
    show ¬ nI c = nI n
    rw [q_eq (by omega) (by omega)]; omega)
  have hif : (if nI c < Int32.ofNat n then nI c else Int32.ofNat n) = nI c := if_pos (by
    show nI c < nI n
    rw [q_lt (by omega) (by omega)]; exact hc)
  have h0 : decide ((0 : Int32) ≤ nI c) = true := decide_eq_true (by
    show nI 0 ≤ nI c
    rw [q_le (by omega) (by omega)]; omega)
  rw [c_J_copyOf, b_J_copyOf_0]
  simp only [hk, hn, nI_clamp (show c < 2147483648 by omega), (ha _ _ _).1, (ha _ _ _).2, (hb _ _ _).1, (hb _ _ _).2, hne, hif, h0]
  have b1 : Nat.ble c 60000000 = true := Nat.ble_eq.mpr (by omega)
  have b2 : Nat.ble (0 + c) n = true := Nat.ble_eq.mpr (by omega)
  have b3 : Nat.ble (0 + c) c = true := Nat.ble_eq.mpr (by omega)
  rw [b1, b2, b3]
  rfl
theorem DLl_mv {law : Nat} (hl : law < 2) (h : DLl i q K r law f) (hL : f (4 + law) ≠ 0 → f (6 + law) + f (8 + law) ≤ f 173) (hi : ∀ c, r + 3 ≤ c → c < 58 + K.length → i' c = i c) (hq : rX q' r (7 + law) = rX q r (7 + law)) (hK : ∀ c, c < 58 + K.length → kK K' c = kK K c ∧ lK K' c = lK K c) (h4 : f' (4 + law) = f (4 + law)) (h6 : f' (6 + law) = f (6 + law)) (h8 : f' (8 + law) = f (8 + law)) (hc : ∀ k, k < f 173 → f' (174 + k) = f (174 + k)) : DLl i' q' K' r law f' := by
  obtain ⟨a, b⟩ := h
  refine ⟨fun z => by rw [hq]; exact a (by rw [← h4]; exact z), fun z => ?_⟩
  rw [h4] at z
  have hz := hL z
  obtain ⟨c, c1, c2, c3, c4, c5⟩ := b z
  have hcl := kK_lt c3 (by decide)
  obtain ⟨k1, k2⟩ := hK c hcl
  refine ⟨c, c1, by rw [hq]; exact c2, by rw [k1]; exact c3, by rw [k2, h8]; exact c4, fun k hk => ?_⟩
  rw [h8] at hk
  rw [hi c c1 hcl, c5 k hk]
  unfold cdl
  rw [h6, Nat.add_assoc, hc _ (by omega)]
theorem kK_app {c : Nat} {x : Nat × Nat} (hc : c < 58 + K.length) : kK (K ++ [x]) c = kK K c ∧ lK (K ++ [x]) c = lK K c := by
  unfold kK lK
  rw [← kX_app]
  exact kd_app (by rw [kX_len]; exact hc)
theorem kK_new {x : Nat × Nat} : kK (K ++ [x]) (58 + K.length) = x.1 ∧ lK (K ++ [x]) (58 + K.length) = x.2 := by
  unfold kK lK am_kd am_ln
  dsimp only
  rw [ln_new]
  exact ⟨rfl, rfl⟩
theorem l_law (d : Nat) {w : Nat} (hw : w < 2) (s0 : s.1 = 0) (hkw : kj B N s.2.2.1 = 8 + w) (hI : IL s) (h : LB B N M r i l q K s) : ∃ i' l' q' K', am_cl (d + 28) mReader_readLaw [.ref 5] (i, l, rX q, kX K) = some (none, (i', l', rX q', kX K')) ∧ LB B N M r i' l' q' K' (lwS B N w s) ∧ RW r i i' l l' q q' K K' ∧ ∃ c, c < 900 ∧ K' = K ++ [(100, c)] ∧ ((lwS B N w s).1 = 0 → c + s.2.2.1 < (lwS B N w s).2.2.1) := by
  have e55 : rX q 5 5 = some r := h.2.1.2.1
  have h58 := h.2.1.1
  obtain ⟨⟨hB, hT, hR, hc, hf4, _⟩, hS, hD⟩ := id h
  obtain ⟨_, _, ⟨hr5, hr6⟩, ⟨k1, k2, k3, k4, k5⟩, hm⟩ := id hS
  have hrl := kK_lt k1 (by decide)
  have hrl2 := kK_lt k4 (by decide)
  obtain ⟨j1, j2, j3⟩ := hR.2.2.2 s0
  have hM := hT.1
  obtain ⟨ia, eia⟩ : ∃ ia, am_u2 (am_u2 i 5 6 (i 5 2)) 5 8 0 = ia := ⟨_, rfl⟩
  have ia5 : ∀ k, k ≠ 6 → k ≠ 8 → ia 5 k = i 5 k := fun k a b => by rw [← eia]; simp [am_u2, a, b]
  have iao : ∀ c, c ≠ 5 → ia c = i c := fun c a => by rw [← eia]; funext k; simp [am_u2, a]
  have ia6 : ia 5 6 = nI (143 + w) := by
    rw [← eia]
    show i 5 2 = _
    rw [j3, hkw]
    rcases (show w = 0 ∨ w = 1 by omega) with rfl | rfl <;> rfl
  have ia8 : ia 5 8 = nI 0 := by rw [← eia]; rfl
  have hb0 : RB B N M w (s.2.2.2 173) ia s := by
    refine ⟨?_, ?_, ?_, ⟨⟨0, by decide, ia8⟩, fun _ => ⟨Nat.le_refl _, by rw [ia8, Nat.sub_self], fun k hk => by omega⟩, fun z => by rw [ia5 4 (by decide) (by decide)]; exact hf4 z⟩, hc, ia6⟩
    · unfold BY at hB ⊢
      rw [iao 1 (by decide), iao 2 (by decide)]; exact hB
    · unfold TKs at hT ⊢
      rw [iao 1 (by decide), iao 3 (by decide), iao 4 (by decide)]; exact hT
    · unfold RD at hR ⊢
      rw [ia5 1 (by decide) (by decide), ia5 2 (by decide) (by decide), ia5 3 (by decide) (by decide), ia5 4 (by decide) (by decide)]; exact hR
  have hk24 : kj B N s.2.2.1 ≠ 24 := by rw [hkw]; omega
  obtain ⟨i1, e1, hb1, hf1⟩ := b_adv (l := l) (q := q) (K := K) (d + 26) hb0 s0 hk24
  obtain ⟨i2, e2, hb2, hf2⟩ := b_exp (l := l) (q := q) (K := K) (d + 25) (k0 := 31) rfl (by decide) (by decide) hb1
  obtain ⟨i3, e3, hb3, hf3⟩ := y_truL (l := l) (q := q) (K := K) hw d i2 _ hb2
  have hf := RFr_tr hf1 (RFr_tr hf2 hf3)
  obtain ⟨t2, et2⟩ : ∃ t2, xpS B N 31 (nxS s) = t2 := ⟨_, rfl⟩
  have et2' : (if isS B N 31 (nxS s) = true then nxS (nxS s) else flS B N 2 (nxS s)) = t2 := et2
  rw [et2'] at hb3
  obtain ⟨t, et⟩ : ∃ t, truL B N w 6 t2 = t := ⟨_, rfl⟩
  rw [et] at hb3
  obtain ⟨c, hc9, ec⟩ := hb3.2.2.2.1.1
  have hclt : c < 900 := by
    obtain ⟨_, u1, u2⟩ := hf
    rw [ia5 1 (by decide) (by decide), j2, nI_toInt (by omega)] at u1 u2
    rw [ia8, ec, nI_toInt (by omega), show (nI 0).toInt = 0 from rfl] at u1
    have u3 := u2 (by omega)
    omega
  have i3o : ∀ c, c ≠ 5 → c ≠ 6 → i3 c = i c := fun c a b => by rw [hf.1.1 c a b, iao c a]
  obtain ⟨n0, en0⟩ : ∃ n0, 58 + K.length = n0 := ⟨_, rfl⟩
  obtain ⟨i4, ei4⟩ : ∃ i4, am_cpyl (am_u1 i3 n0 (fun _ => 0)) 6 n0 0 0 c = i4 := ⟨_, rfl⟩
  obtain ⟨l4, el4⟩ : ∃ l4, am_u1 l n0 (fun _ => 0) = l4 := ⟨_, rfl⟩
  obtain ⟨q5, eq5⟩ : ∃ q5, am_u2 (am_u1 q n0 (fun _ => none)) r (7 + w) (some n0) = q5 := ⟨_, rfl⟩
  have i4o : ∀ x, x ≠ n0 → i4 x = i3 x := fun x hx => by
    rw [← ei4]; funext k; unfold am_cpyl am_u1; rw [if_neg hx, if_neg hx]
  have i4n : ∀ k, k < c → i4 n0 k = i3 6 k := fun k hk => by
    rw [← ei4]
    unfold am_cpyl am_u1 va_cpy
    rw [if_pos rfl, if_pos (by omega)]
    dsimp only
    rw [if_neg (show ¬ 6 = n0 by omega), show 0 + (k - 0) = k by omega]
  have l4o : ∀ x, x ≠ n0 → l4 x = l x := fun x hx => by
    rw [← el4]; funext k; unfold am_u1; rw [if_neg hx]
  have q5o : ∀ x, x ≠ n0 → x ≠ r → q5 x = q x := fun x hx hr => by
    rw [← eq5]; funext k; unfold am_u2 am_u1; rw [if_neg hr, if_neg hx]
  have q5r : ∀ k, k ≠ 7 + w → q5 r k = q r k := fun k hk => by
    rw [← eq5]; unfold am_u2 am_u1; rw [if_pos rfl, if_neg hk, if_neg (by omega)]
  have q5n : q5 r (7 + w) = some n0 := by
    rw [← eq5]; unfold am_u2; rw [if_pos rfl, if_pos rfl]
  have eqX : am_u2 (am_u1 (rX q) (kX K).length (fun _ => none)) r (7 + w) (some n0) = rX q5 := by
    rw [kX_len, en0, rX_u1 q _ (by omega), rX_u2 _ _ (rX_hi _ h58 _), eq5]
  have hkX : ∀ i l q, Nat.beq (am_kd (i, l, q, kX (K ++ [(100, c)])) r) 6 = true := fun i l q => by
    rw [show am_kd (i, l, q, kX (K ++ [(100, c)])) r = 6 from (kK_app hrl).1.trans k1]; rfl
  have ecp := s_J_copyOf (i := i3) (l := l) (q := rX q) (K := kX K) (d + 26) (r0 := 6) (c := c) (n := 900) rfl rfl (by decide) hclt
  rw [kX_app] at ecp
  have run : am_cl (d + 28) mReader_readLaw [.ref 5] (i, l, rX q, kX K) = some (none, (i4, l4, rX q5, kX (K ++ [(100, c)]))) := by
    rw [c_Reader_readLaw, b_Reader_readLaw_0, eia, e1, am_bd_some, q_app0, b_Reader_readLaw_17, show (58 : Int32) = nI (ct 31) from rfl, e2, am_bd_some, q_app0, b_Reader_readLaw_23, show (0 : Int32) = nI 0 from rfl, e3, am_bd_some, q_app0, b_Reader_readLaw_28, hb3.2.2.2.2.2, ec, e55]
    rcases (show w = 0 ∨ w = 1 by omega) with rfl | rfl
    · rw [show decide (¬ nI (143 + 0) = (143 : Int32)) = false from rfl, cond_false]
      dsimp only
      rw [ecp, am_bd_some]
      show am_Ex _ _ _ _ [.ref (kX K).length, .ref r] _ = _
      rw [rX_u1 q _ (by rw [kX_len]; omega), b_Reader_readLaw_53, hkX, cond_true, ← rX_u1 q _ (by rw [kX_len]; omega), show (7 : Nat) = 7 + 0 from rfl, show (some (kX K).length) = some n0 from by rw [kX_len, en0], eqX, b_Reader_readLaw_77, kX_len, en0, ei4, el4]
    · rw [show decide (¬ nI (143 + 1) = (143 : Int32)) = true from rfl, cond_true]
      dsimp only
      rw [ecp, am_bd_some]
      show am_Ex _ _ _ _ [.ref (kX K).length, .ref r] _ = _
      rw [rX_u1 q _ (by rw [kX_len]; omega), b_Reader_readLaw_74, hkX, cond_true, ← rX_u1 q _ (by rw [kX_len]; omega), show (8 : Nat) = 7 + 1 from rfl, show (some (kX K).length) = some n0 from by rw [kX_len, en0], eqX, b_Reader_readLaw_77, kX_len, en0, ei4, el4]
  have hw0 : RW r i i4 l l4 q q5 K (K ++ [(100, c)]) := ⟨⟨_, rfl⟩, fun x hx => ⟨fun a b => (i4o x (by omega)).trans (i3o x a b), l4o x (by omega), fun _ => q5o x (by omega) (by omega)⟩⟩
  refine ⟨i4, l4, q5, K ++ [(100, c)], run, ?_, hw0, c, hclt, rfl, ?_⟩
  rotate_left
  · intro z
    have elw : lwS B N w s = stF (8 + w) (t.2.2.2 173 - t2.2.2.2 173) (stF (6 + w) (t2.2.2.2 173) (stF (4 + w) 1 t)) := by unfold lwS; rw [et2, et]
    rw [elw, stF_w, stF_w, stF_w] at z
    rw [elw, stF_0 (by rw [stF_w, stF_w]; exact z), stF_0 (k := 6 + w) (by rw [stF_w]; exact z), stF_0 (k := 4 + w) z]
    show c + s.2.2.1 < t.2.2.1
    have hC2 : CB B N t2 := by rw [← et2']; exact hb2.2.2.2.2.1
    have hpg := ok_truL (law := w) (r := 6) t2 hC2
    rw [et] at hpg
    obtain ⟨p1, p2, p3, _, _⟩ := hpg z
    have hxp := xpS_0 (B := B) (N := N) (k := 31) (s := nxS s) (by rw [et2]; exact p1)
    have et3 : t2.2.2.2 = s.2.2.2 := by rw [← et2, hxp.2]; rfl
    have et4 : t2.2.2.1 = s.2.2.1 + 1 + 1 := by rw [← et2, hxp.2]; rfl
    obtain ⟨c1, c2, _⟩ := hb3.2.2.2.1.2.1 z
    have hb5 := (hb3.2.2.2.2.1 z).1
    have hjm := (hb3.2.2.1.2.2.2 z).1
    rw [ec, q_eq (by omega) (by omega)] at c2
    rw [et3, et4] at p3
    omega
  have elw : lwS B N w s = stF (8 + w) (t.2.2.2 173 - t2.2.2.2 173) (stF (6 + w) (t2.2.2.2 173) (stF (4 + w) 1 t)) := by unfold lwS; rw [et2, et]
  rw [elw]
  have es : ∀ (a b x y z u : Nat), (stF a b (stF x y (stF z u t))).1 = t.1 ∧ (stF a b (stF x y (stF z u t))).2.1 = t.2.1 ∧ (stF a b (stF x y (stF z u t))).2.2.1 = t.2.2.1 := fun a b x y z u => by
    by_cases z0 : t.1 = 0
    · rw [stF_0 (k := z) (v := u) z0, stF_0 (k := x) (v := y) (by exact z0), stF_0 (by exact z0)]
      exact ⟨rfl, rfl, rfl⟩
    · rw [stF_f (k := z) (v := u) z0, stF_f (k := x) (v := y) z0, stF_f z0]
      exact ⟨rfl, rfl, rfl⟩
  obtain ⟨es1, es2, es3⟩ := es (8 + w) (t.2.2.2 173 - t2.2.2.2 173) (6 + w) (t2.2.2.2 173) (4 + w) 1
  have ef : t.1 = 0 → (stF (8 + w) (t.2.2.2 173 - t2.2.2.2 173) (stF (6 + w) (t2.2.2.2 173) (stF (4 + w) 1 t))).2.2.2 = ug (ug (ug t.2.2.2 (4 + w) 1) (6 + w) (t2.2.2.2 173)) (8 + w) (t.2.2.2 173 - t2.2.2.2 173) := fun z0 => by
    rw [stF_0 (k := 4 + w) (v := 1) z0, stF_0 (k := 6 + w) (by exact z0), stF_0 (by exact z0)]
  obtain ⟨b1, b2, b3, b4, b5, b6⟩ := hb3
  refine ⟨⟨?_, ?_, ?_, ?_, fun z => by rw [i4o 5 (by omega)]; exact b4.2.2 (by rw [← es1]; exact z), c, hc9, ?_⟩, ⟨h58, ?_, ⟨?_, ?_⟩, ⟨(kK_app hrl).1.trans k1, (kK_app (by omega)).1.trans k2, (kK_app (by omega)).2.trans k3, (kK_app hrl2).1.trans k4, (kK_app hrl2).2.trans k5⟩, ?_⟩, fun z => ?_⟩
  · unfold BY at b1 ⊢
    rw [i4o 1 (by omega), i4o 2 (by omega)]; exact b1
  · unfold TKs at b2 ⊢
    rw [i4o 1 (by omega), i4o 3 (by omega), i4o 4 (by omega)]; exact b2
  · unfold RD at b3 ⊢
    rw [es1, es2, es3, i4o 5 (by omega)]; exact b3
  · unfold CB at b5 ⊢
    rw [es1, es3]
    intro z0
    rw [ef z0, ug_o (by omega), ug_o (by omega), ug_o (by omega)]
    exact b5 z0
  · rw [i4o 5 (by omega)]; exact ec
  · rw [q5o 5 (by omega) (by omega)]; exact e55
  · rw [rX_hi _ h58, q5r 5 (by omega), ← rX_hi q h58]; exact hr5
  · rw [rX_hi _ h58, q5r 6 (by omega), ← rX_hi q h58]; exact hr6
  · obtain ⟨m, m1, m2⟩ := hm
    exact ⟨m, m1, by rw [l4o r (by omega)]; exact m2⟩
  · rw [es1] at z
    rw [ef z]
    have hC2 : CB B N t2 := by rw [← et2']; exact hb2.2.2.2.2.1
    have hpg := ok_truL (law := w) (r := 6) t2 hC2
    rw [et] at hpg
    obtain ⟨p1, _, _, _, p5⟩ := hpg z
    have hxp := xpS_0 (B := B) (N := N) (k := 31) (s := nxS s) (by rw [et2]; exact p1)
    have et3 : t2.2.2.2 = s.2.2.2 := by rw [← et2, hxp.2]; rfl
    have hY := ty_truL (N := N) hB.2.2.2 hw t2
    rw [et] at hY
    obtain ⟨_, y1, y2, _⟩ := hY z
    rw [et3] at p5 y1 y2
    rw [et3]
    obtain ⟨⟨a1, a2, a3, a4⟩, ab, ac, ad, m, m1, m2⟩ := hD s0
    obtain ⟨_, _, _, L0, L1, _⟩ := hI s0
    obtain ⟨c1, c2, c3⟩ := b4.2.1 z
    have ecc : c = t.2.2.2 173 - s.2.2.2 173 := by
      have hb5 := (b5 z).1
      have := (b3.2.2.2 z).1
      rw [ec, q_eq (by omega) (by omega)] at c2; exact c2
    have i4r : ∀ x, r ≤ x → x < n0 → i4 x = i x := fun x hx hn => (i4o x (by omega)).trans (i3o x (by omega) (by omega))
    have uo : ∀ j, j ≠ 4 + w → j ≠ 6 + w → j ≠ 8 + w → ug (ug (ug t.2.2.2 (4 + w) 1) (6 + w) (s.2.2.2 173)) (8 + w) (t.2.2.2 173 - s.2.2.2 173) j = t.2.2.2 j := fun j x y z => by rw [ug_o z, ug_o y, ug_o x]
    have oth : ∀ w', w' < 2 → w' ≠ w → DLl i q K r w' s.2.2.2 → LI s.2.2.2 w' → DLl i4 q5 (K ++ [(100, c)]) r w' (ug (ug (ug t.2.2.2 (4 + w) 1) (6 + w) (s.2.2.2 173)) (8 + w) (t.2.2.2 173 - s.2.2.2 173)) := fun w' hw' hne hd hL => by
      refine DLl_mv hw' hd (fun z => (hL.2 z).1) (fun x hx hn => i4r x (by omega) (by omega)) (by rw [rX_hi _ h58, q5r (7 + w') (by omega), ← rX_hi q h58]) (fun x hx => kK_app hx) ?_ ?_ ?_ (fun k hk => ?_)
      · rw [uo _ (by omega) (by omega) (by omega), p5 _ (by omega)]
      · rw [uo _ (by omega) (by omega) (by omega), p5 _ (by omega)]
      · rw [uo _ (by omega) (by omega) (by omega), p5 _ (by omega)]
      · rw [uo _ (by omega) (by omega) (by omega)]; exact (y2 k hk).trans (by unfold cs; rw [et3])
    have own : DLl i4 q5 (K ++ [(100, c)]) r w (ug (ug (ug t.2.2.2 (4 + w) 1) (6 + w) (s.2.2.2 173)) (8 + w) (t.2.2.2 173 - s.2.2.2 173)) := by
      have u4 : ug (ug (ug t.2.2.2 (4 + w) 1) (6 + w) (s.2.2.2 173)) (8 + w) (t.2.2.2 173 - s.2.2.2 173) (4 + w) = 1 := by rw [ug_o (by omega), ug_o (by omega), ug_s]
      have u6 : ug (ug (ug t.2.2.2 (4 + w) 1) (6 + w) (s.2.2.2 173)) (8 + w) (t.2.2.2 173 - s.2.2.2 173) (6 + w) = s.2.2.2 173 := by rw [ug_o (by omega), ug_s]
      refine ⟨fun z => ?_, fun _ => ⟨n0, by omega, by rw [rX_hi _ h58]; exact q5n, by rw [← en0]; exact kK_new.1, by rw [← en0, kK_new.2, ug_s]; exact ecc, fun k hk => ?_⟩⟩
      · rw [u4] at z; cases z
      · rw [ug_s] at hk
        unfold cdl
        rw [u6, uo _ (by omega) (by omega) (by omega), i4n k (by omega), c3 k (by omega), Nat.add_assoc]
    refine ⟨?_, fun p hp => ?_, fun p hp => ?_, ?_, m, by rw [l4o r (by omega)]; exact m1, RM_cg m2 (fun j hj => ?_)⟩
    · rw [i4r r (Nat.le_refl _) (by omega), uo 1 (by omega) (by omega) (by omega), uo 2 (by omega) (by omega) (by omega), uo 3 (by omega) (by omega) (by omega), uo 0 (by omega) (by omega) (by omega), p5 1 (by decide), p5 2 (by decide), p5 3 (by decide), p5 0 (by decide)]
      exact ⟨a1, a2, a3, a4⟩
    · rw [i4r (r + 1) (by omega) (by omega), uo _ (by omega) (by omega) (by omega), p5 _ (by omega)]; exact ab p hp
    · rw [i4r (r + 2) (by omega) (by omega), uo _ (by omega) (by omega) (by omega), p5 _ (by omega)]; exact ac p hp
    · rcases (show w = 0 ∨ w = 1 by omega) with rfl | rfl
      · exact ⟨own, oth 1 (by decide) (by decide) ad.2 L1⟩
      · exact ⟨oth 0 (by decide) (by decide) ad.1 L0, own⟩
    · unfold gCur
      rw [uo _ (by omega) (by omega) (by omega), p5 _ (by omega)]
end
