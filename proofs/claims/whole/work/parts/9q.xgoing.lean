/-! THE CLASS: goings, kept by where all are -/
def lK (K : List (Nat × Nat)) (c : Nat) : Nat := am_ln ((fun _ _ => 0), (fun _ _ => 0), (fun _ _ => none), kX K) c
def kK (K : List (Nat × Nat)) (c : Nat) : Nat := am_kd ((fun _ _ => 0), (fun _ _ => 0), (fun _ _ => none), kX K) c
/-- cells of work -/
def WDc (c : Nat) : Prop := c = 26 ∨ c = 28 ∨ c = 29 ∨ c = 31 ∨ c = 32 ∨ c = 33 ∨ c = 34 ∨ c = 36 ∨ c = 37 ∨ c = 38 ∨ 58 ≤ c
/-- a river's cells are not this one -/
def RNc (q : Nat → Nat → Option Nat) (r c : Nat) : Prop := r ≠ c ∧ ∀ k x, 5 ≤ k → k ≤ 8 → rX q r k = some x → x ≠ c
/-- frames with new cells and cells of work -/
def FK (Ri ws Rl Rq : List Nat) (i i' : Nat → Nat → Int32) (l l' : Nat → Nat → Int64) (q q' : Nat → Nat → Option Nat) (K K' : List (Nat × Nat)) : Prop := (∃ L, K' = K ++ L) ∧ ∀ c, c < 58 + K.length → (Ri.contains c = false → ws.contains c = false → i' c = i c) ∧ (Rl.contains c = false → ws.contains c = false → l' c = l c) ∧ (Rq.contains c = false → q' c = q c)
theorem FK_refl (Ri ws Rl Rq : List Nat) (i : Nat → Nat → Int32) (l : Nat → Nat → Int64) (q : Nat → Nat → Option Nat) (K : List (Nat × Nat)) : FK Ri ws Rl Rq i i l l q q K K := ⟨⟨[], by rw [List.append_nil]⟩, fun _ _ => ⟨fun _ _ => rfl, fun _ _ => rfl, fun _ => rfl⟩⟩
theorem FK_tr {Ri ws Rl Rq Ri' ws' Rl' Rq' : List Nat} {i i' i'' : Nat → Nat → Int32} {l l' l'' : Nat → Nat → Int64} {q q' q'' : Nat → Nat → Option Nat} {K K' K'' : List (Nat × Nat)} (h : FK Ri ws Rl Rq i i' l l' q q' K K') (h2 : FK Ri' ws' Rl' Rq' i' i'' l' l'' q' q'' K' K'') (e1 : Ri'.all (fun x => Ri.contains x) = true) (e2 : Rl'.all (fun x => Rl.contains x) = true) (e3 : Rq'.all (fun x => Rq.contains x) = true) (e4 : ∀ w, w ∈ ws' → w ∈ ws ∨ 58 + K.length ≤ w) : FK Ri ws Rl Rq i i'' l l'' q q'' K K'' := by
  obtain ⟨⟨L, rfl⟩, h1⟩ := h
  obtain ⟨⟨L', rfl⟩, h2⟩ := h2
  refine ⟨⟨L ++ L', by rw [List.append_assoc]⟩, fun c hc => ?_⟩
  obtain ⟨a1, a2, a3⟩ := h1 c hc
  obtain ⟨b1, b2, b3⟩ := h2 c (by rw [List.length_append]; omega)
  have hw : ws.contains c = false → ws'.contains c = false := fun z => by
    cases hb : ws'.contains c with
    | false => rfl
    | true =>
      have hm : c ∈ ws' := by simpa using hb
      rcases e4 c hm with h | h
      · have : ws.contains c = true := by simpa using h
        rw [this] at z; cases z
      · omega
  exact ⟨fun z1 z2 => (b1 (sub_c e1 z1) (hw z2)).trans (a1 z1 z2), fun z1 z2 => (b2 (sub_c e2 z1) (hw z2)).trans (a2 z1 z2), fun z1 => (b3 (sub_c e3 z1)).trans (a3 z1)⟩
theorem FK_fg {Ri ws Rl Rq : List Nat} {i i' : Nat → Nat → Int32} {l l' : Nat → Nat → Int64} {q q' : Nat → Nat → Option Nat} {K : List (Nat × Nat)} (h : FG Ri Rl Rq i i' l l' q q') : FK Ri ws Rl Rq i i' l l' q q' K K := ⟨⟨[], by rw [List.append_nil]⟩, fun c _ => ⟨fun z _ => h.1 c z, fun z _ => h.2.1 c z, fun z => h.2.2 c z⟩⟩
section
variable {i i' : Nat → Nat → Int32} {l l' : Nat → Nat → Int64} {q q' : Nat → Nat → Option Nat} {K K' : List (Nat × Nat)} {r m : Nat} {g h : Nat → Nat} {ρ : Nat → Nat → Nat}
theorem nc_of {ws : List Nat} {c : Nat} (h : ∀ w, w ∈ ws → w ≠ c) : ws.contains c = false := by
  cases hb : ws.contains c with
  | false => rfl
  | true =>
    have hm : c ∈ ws := by simpa using hb
    exact absurd rfl (h c hm)
theorem RV_fk {Ri ws Rl Rq : List Nat} (h : FK Ri ws Rl Rq i i' l l' q q' K K') (hR : (Ri.all fun x => Nat.blt x 58 && !(x == 7 || x == 8 || x == 9)) = true) (hRq : (Rq.all fun x => Nat.blt x 58 && !(x == 7 || x == 8 || x == 9)) = true) (hN : ∀ w, w ∈ ws → RNc q r w) (hV : RV (i, l, rX q, kX K) r g) : RV (i', l', rX q', kX K') r g := by
  obtain ⟨⟨L, rfl⟩, h⟩ := h
  have hkL : kX (K ++ L) = kX K ++ L := by unfold kX; rw [List.append_assoc]
  refine RV_mv hV (fun c hc hd hl => ?_) ?_
  · rw [kX_len] at hl
    have hw : ws.contains c = false := nc_of (fun w hw => by
      obtain ⟨n1, n2⟩ := hN w hw
      rcases hc with hc | ⟨k, k5, k8, hc⟩
      · rw [hc]; exact fun z => n1 z.symm
      · exact fun z => n2 k c k5 k8 hc z.symm)
    refine ⟨(h c hl).1 (Dyn_RF hR hd) hw, ?_⟩
    rw [hkL]
    exact kd_app (by rw [kX_len]; exact hl)
  · have hr := kd_lt hV.2.1 (by decide)
    rw [kX_len] at hr
    exact rX_row ((h r hr).2.2 (Dyn_RF hRq hV.1))
theorem RNc_fk {Ri ws Rl Rq : List Nat} {c : Nat} (h : FK Ri ws Rl Rq i i' l l' q q' K K') (hRq : (Rq.all fun x => Nat.blt x 58 && !(x == 7 || x == 8 || x == 9)) = true) (hV : RV (i, l, rX q, kX K) r g) (hN : RNc q r c) : RNc q' r c := by
  have hr := kd_lt hV.2.1 (by decide)
  rw [kX_len] at hr
  have e := rX_row ((h.2 r hr).2.2 (Dyn_RF hRq hV.1))
  exact ⟨hN.1, fun k x k5 k8 hx => hN.2 k x k5 k8 (by rw [← e]; exact hx)⟩
/-- new cells are none of a river's -/
theorem RNc_new {c : Nat} (hV : RV (i, l, rX q, kX K) r g) (hc : 58 + K.length ≤ c) : RNc q r c := by
  have hr := kd_lt hV.2.1 (by decide)
  rw [kX_len] at hr
  obtain ⟨a1, a2, a3, a4, a5, a6, ⟨x, x1, x2, _⟩, ⟨y, y1, y2, _⟩, a9, a10⟩ := hV
  have small : ∀ {z : Nat}, am_kd (i, l, rX q, kX K) z = 100 → z < 58 + K.length := fun h => by
    have := kd_lt h (by decide)
    rw [kX_len] at this; exact this
  have law : ∀ m z, RVl (i, l, rX q, kX K) r m g → rX q r (7 + m) = some z → z < 58 + K.length := fun m z ⟨b1, b2⟩ hz => by
    by_cases c0 : g (4 + m) = 0
    · have := b1 c0
      have this : rX q r (7 + m) = none := this
      rw [this] at hz; cases hz
    · obtain ⟨c', c1, c2, _⟩ := b2 c0
      have c1 : rX q r (7 + m) = some c' := c1
      rw [c1] at hz
      rw [← Option.some.inj hz]; exact small c2
  refine ⟨by omega, fun k z k5 k8 hz => ?_⟩
  have : z < 58 + K.length := by
    rcases (show k = 5 ∨ k = 6 ∨ k = 7 ∨ k = 8 by omega) with rfl | rfl | rfl | rfl
    · have x1 : rX q r 5 = some x := x1
      rw [x1] at hz
      rw [← Option.some.inj hz]; exact small x2
    · have y1 : rX q r 6 = some y := y1
      rw [y1] at hz
      rw [← Option.some.inj hz]; exact small y2
    · exact law 0 z a9 hz
    · exact law 1 z a10 hz
  omega
theorem sWho_E (he : gE g h) (a x : Nat) : sWho h a x = sWho g a x := by
  unfold sWho sSpot
  rw [he 1 (by decide) (by decide), he 2 (by decide) (by decide)]
theorem sSpot_E (he : gE g h) (x : Nat) : sSpot h x = sSpot g x := by
  unfold sSpot
  rw [he 1 (by decide) (by decide)]
theorem sD_E (he : gE g h) (hL : LW g 1) (h2 : g 2 ≤ 4) (hs : ∀ p, p < 4 → h (22 + p) = g (22 + p)) {a p r : Nat} (hp : p < 4) : ∀ n x, sD h a p r n x = sD g a p r n x
  | 0, x => by rw [sD, sD]
  | n + 1, x => by
    have ih := fun x => sD_E he hL h2 hs (a := a) (r := r) hp n x
    rw [sD, sD, show sD h a p r n = sD g a p r n from funext ih]
    unfold wD
    have e1 : h 1 = g 1 := he 1 (by decide) (by decide)
    have eT : sTk h a p r (sD g a p r n) n (h 1 + 2) x = sTk g a p r (sD g a p r n) n (g 1 + 2) x := by
      unfold sTk
      rw [e1]
      congr 1
      funext y
      unfold sX sLd sOn
      rw [sWho_E he, sWho_E he, sSpot_E he, sSpot_E he]
      cases hw : sWho g a x with
      | none => cases sSpot g x <;> rfl
      | some k =>
        cases hsp : sSpot g x with
        | false => rfl
        | true =>
          dsimp only
          rw [sTrust_E he hL hp (by have := (sWho_some hw).1; omega) hs]
    rw [eT, e1]
theorem sGo_E (he : gE g h) (hL : LW g 1) (h2 : g 2 ≤ 4) (hs : ∀ p, p < 4 → h (22 + p) = g (22 + p)) {a p r : Nat} (hp : p < 4) : sGo h a p r = sGo g a p r := by
  unfold sGo
  rw [he 1 (by decide) (by decide)]
  apply bs_cong
  intro x _
  unfold sGB
  rw [sD_E he hL h2 hs hp, sWho_E he]
theorem avl_E (he : gE g h) (hL : LW g 1) (h2 : g 2 ≤ 4) (hs : ∀ p, p < 4 → h (22 + p) = g (22 + p)) (m a j : Nat) : avl h m a j = avl g m a j := by
  unfold avl gBit
  rw [he 2 (by decide) (by decide)]
  by_cases c : j / 8 < g 2 ∧ m.testBit (j / 8) = true
  · rw [if_pos c, if_pos c, he (10 + j / 8) (by omega) (by omega), sGo_E he hL h2 hs (by omega)]
  · rw [if_neg c, if_neg c]
theorem VS_E (he : gE g h) {a : Nat} (hv : VS h a) : VS g a := by
  obtain ⟨v1, v2, v3⟩ := hv
  rw [he 1 (by decide) (by decide)] at v1
  rw [he 2 (by decide) (by decide)] at v3
  exact ⟨v1, fun p k hp hk hne hs => v2 p k hp hk hne (by rw [sSpot_E he]; exact hs), v3⟩
/-- all goings as bits -/
def EBt (g : Nat → Nat) (a : Nat) (x : Int32) : Prop := ∀ j, j < 32 → x.toBitVec.getLsbD j = avl g 15 a j
def GV (i : Nat → Nat → Int32) (e : Nat) (g : Nat → Nat) : Prop := ∀ a, a < 4096 → VS g a → i e a = -nI 1 ∨ EBt g a (i e a)
theorem GV_E {e : Nat} (he : gE g h) (hL : LW g 1) (h2 : g 2 ≤ 4) (hs : ∀ p, p < 4 → h (22 + p) = g (22 + p)) (hG : GV i e g) : GV i e h := by
  intro a ha hv
  rcases hG a ha (VS_E he hv) with z | z
  · exact Or.inl z
  · exact Or.inr (fun j hj => by rw [z j hj, avl_E he hL h2 hs])
theorem VS_lt (h2 : g 2 ≤ 4) {a : Nat} (ha : a < 4096) (hv : VS g a) : a < 8 ^ g 2 := by
  have h3 := hv.2.2
  have e0 := dg_0 a
  have e1 := dg_1 a
  have e2 := dg_2 a
  have e3 := dg_3 a
  rcases (show g 2 = 0 ∨ g 2 = 1 ∨ g 2 = 2 ∨ g 2 = 3 ∨ g 2 = 4 by omega) with h | h | h | h | h
  · have z0 := h3 0 (by omega) (by omega)
    have z1 := h3 1 (by omega) (by omega)
    have z2 := h3 2 (by omega) (by omega)
    have z3 := h3 3 (by omega) (by omega)
    rw [h]; show a < 1; omega
  · have z1 := h3 1 (by omega) (by omega)
    have z2 := h3 2 (by omega) (by omega)
    have z3 := h3 3 (by omega) (by omega)
    rw [h]; show a < 8; omega
  · have z2 := h3 2 (by omega) (by omega)
    have z3 := h3 3 (by omega) (by omega)
    rw [h]; show a < 64; omega
  · have z3 := h3 3 (by omega) (by omega)
    rw [h]; show a < 512; omega
  · rw [h]; exact ha
theorem EBt_ne {a : Nat} {x : Int32} (hE : EBt g a x) : x ≠ -nI 1 := by
  intro z
  have h1 := hE (dg a 0) (by have := dg_lt a 0; omega)
  have hd := dg_lt a 0
  rw [z] at h1
  have e1 : (-nI 1).toBitVec.getLsbD (dg a 0) = true := by
    show (BitVec.allOnes 32).getLsbD (dg a 0) = true
    rw [BitVec.getLsbD_allOnes, decide_eq_true (by omega)]
  rw [e1] at h1
  have e2 : avl g 15 a (dg a 0) = false := by
    unfold avl gBit
    rw [show dg a 0 / 8 = 0 by omega, show dg a 0 % 8 = dg a 0 by omega]
    by_cases c : 0 < g 2 ∧ (15 : Nat).testBit 0 = true
    · rw [if_pos c]
      unfold sGo
      rw [bs_bit]
      unfold sGB
      simp
    · rw [if_neg c]; simp
  rw [e2] at h1; cases h1
/-- goings, at a river and a moment -/
def GA (r : Nat) (g : Nat → Nat) (m e v : Nat) (i : Nat → Nat → Int32) (l : Nat → Nat → Int64) (q : Nat → Nat → Option Nat) (K : List (Nat × Nat)) : Prop := FA r g m i l q ∧ q 22 1 = some r ∧ q 22 3 = some e ∧ i 22 4 = nI v ∧ i 22 2 = nI (m / 4096 % 65536) ∧ (WDc e ∧ kK K e = 100 ∧ 8 ^ g 2 ≤ lK K e ∧ lK K e ≤ 4096) ∧ GV i e g
theorem wd_no {c : Nat} (h : WDc c) {R : List Nat} (hR : (R.all fun x => !(x == 26 || x == 28 || x == 29 || x == 31 || x == 32 || x == 33 || x == 34 || x == 36 || x == 37 || x == 38) && Nat.blt x 58) = true) : R.contains c = false := by
  cases hb : R.contains c with
  | false => rfl
  | true =>
    exfalso
    have hm : c ∈ R := by simpa using hb
    have := List.all_eq_true.mp hR c hm
    rcases h with rfl | rfl | rfl | rfl | rfl | rfl | rfl | rfl | rfl | rfl | h
    all_goals first
      | (simp at this; done)
      | (rw [blt_f h, Bool.and_false] at this; cases this)
theorem y_endsOf (d : Nat) {a e v : Nat} (hV : RV (i, l, rX q, kX K) r g) (hW : WG g) (hN : RNc q r e) (hG : GA r g m e v i l q K) (ha : a < 4096) (hvs : VS g a) : ∃ i' x, am_cl (d + 5) mGoings_endsOf [.ref 22, .int (nI a)] (i, l, rX q, kX K) = some (some (.int x), (i', l, rX q, kX K)) ∧ EBt g a x ∧ i' e a = x ∧ (∀ b, i e b ≠ -nI 1 → i' e b = i e b) ∧ (∀ c, ([13, 14, 18, 19] : List Nat).contains c = false → c ≠ e → i' c = i c) ∧ GA r g m e v i' l q K := by
  obtain ⟨hA, q1, q3, i4, i2, ⟨hWe, hke, hl1, hl2⟩, hGV⟩ := hG
  have q1' : rX q 22 1 = some r := q1
  have q3' : rX q 22 3 = some e := q3
  have hwe : ([13, 14, 18, 19] : List Nat).contains e = false := wd_no hWe rfl
  have h22 : ([13, 14, 18, 19] : List Nat).contains 22 = false := rfl
  have he22 : (22 : Nat) ≠ e := by
    rcases hWe with h | h | h | h | h | h | h | h | h | h | h <;> omega
  have halt := VS_lt hW.2.1 ha hvs
  have kin : ∀ i' : Nat → Nat → Int32, (Nat.beq (am_kd (i', l, rX q, kX K) e) 100 && am_in (nI a) (am_ln (i', l, rX q, kX K) e)) = true := fun i' => by
    rw [show am_kd (i', l, rX q, kX K) e = 100 from hke, show am_ln (i', l, rX q, kX K) e = lK K e from rfl, in16 (by omega) (by omega)]; rfl
  have k1 : (Nat.ble 100 (am_kd (i, l, rX q, kX K) e) && Nat.ble (am_kd (i, l, rX q, kX K) e) 105) = true := by
    rw [show am_kd (i, l, rX q, kX K) e = 100 from hke]; rfl
  have k2 : decide (nI a < Int32.ofNat (am_ln (i, l, rX q, kX K) e)) = true := decide_eq_true (by
    show nI a < nI (lK K e)
    rw [q_lt (by omega) (by omega)]; omega)
  rw [c_Goings_endsOf, b_Goings_endsOf_0, decide_eq_false (show ¬ nI a < (0 : Int32) from by
    show ¬ nI a < nI 0
    rw [q_lt (by omega) (by omega)]; omega), cond_false, q3']
  dsimp only
  rw [k1, cond_true, k2, cond_true, kin, cond_true, nI_clamp (by omega)]
  by_cases c : i e a = -nI 1
  · rw [decide_eq_false (show ¬ ¬ i e a = (-1 : Int32) from fun z => z c), cond_false]
    -- what is behind the loop
    refine am_loop (d := d + 4) (y := mGoings_endsOf) (pc := 29) (fun k ls s => ∃ i1 x, ls = [.val (.ref 22), .val (.int (nI a)), .val (.int x), .val (.int (nI k))] ∧ s = (i1, l, rX q, kX K) ∧ (∀ j, j < 32 → x.toBitVec.getLsbD j = (decide (j / 8 < k) && avl g 15 a j)) ∧ (∀ c, ([13, 14, 18, 19] : List Nat).contains c = false → i1 c = i c) ∧ FA r g m i1 l q) (g 2) (fun rs => ∃ i' x, rs = some (some (.int x), (i', l, rX q, kX K)) ∧ EBt g a x ∧ i' e a = x ∧ (∀ b, i e b ≠ -nI 1 → i' e b = i e b) ∧ (∀ c, ([13, 14, 18, 19] : List Nat).contains c = false → c ≠ e → i' c = i c) ∧ GA r g m e v i' l q K) (fun k ls s hk hI => ?_) (fun ls s hI => ?_) ⟨i, 0, rfl, rfl, fun j _ => by
      rw [decide_eq_false (Nat.not_lt_zero _), Bool.false_and]
      show (BitVec.ofNat 32 0).getLsbD j = false
      simp, fun _ _ => rfl, hA⟩
    · obtain ⟨i1, x, e1, e2, hx, hf1, hA1⟩ := hI
      subst e1; subst e2
      have hk4 : k < 4 := by have := hW.2.1; omega
      have hf1' : Fr [13, 14, 18, 19] i i1 := hf1
      have hV1 : RV (i1, l, rX q, kX K) r g := RV_fr hf1' rfl hV
      obtain ⟨fP, fS, fL, fE, fF, fB, fU, fV', fK', fW, hk6, ra, ra1, ra2, ra3⟩ := CV_f hV1 hW
      have hr1 : i1 r 1 = nI (g 2) := hV1.2.2.2.1
      have hR4 := hW.2.2.2.1 k hk4
      have h2 := hW.2.1
      obtain ⟨i2', l2', e2', hl2', hf2', hT2'⟩ := r_Ford_spread (i := i1) (l := l) (q := q) d hV1 hW.2.2.2.2.2.2.2.2.2.1 hA1.1 hA1.2.1 hA1.2.2.1 hW.1.2 hW.2.1 hk ha (show g (10 + k) ≤ 9 by omega) (show 8 ≤ 8 by decide) hvs hA1.2.2.2.1
      subst hl2'
      have hA2 : FA r g m i2' l2' q := ⟨hA1.1, hA1.2.1, hA1.2.2.1, hT2', by
        have h5 := hA1.2.2.2.2
        unfold HV at h5 ⊢
        rw [hf2' 20 rfl, hf2' 21 rfl]; exact h5⟩
      rw [sEn8] at e2'
      have hs := sGo_lt (g := g) (a := a) (p := k) (r := g (10 + k)) hW.1.2
      have hsh : (nI (sGo g a k (g (10 + k)))) <<< (((8 : Int32) * nI k) &&& 31) = nI (sGo g a k (g (10 + k)) * 2 ^ (8 * k)) := by
        rw [show (8 : Int32) * nI k = nI (8 * k) from pk_mul 8 k, show nI (8 * k) &&& (31 : Int32) = nI (8 * k &&& 31) from fa_and (8 * k) 31]
        refine q_shl (by omega) ?_
        have h1 : 2 ^ (8 * k) ≤ 2 ^ 24 := Nat.pow_le_pow_right (by decide) (by omega)
        have h3 : sGo g a k (g (10 + k)) * 2 ^ (8 * k) ≤ 255 * 2 ^ 24 := Nat.mul_le_mul (by omega) h1
        omega
      have hsl : sGo g a k (g (10 + k)) * 2 ^ (8 * k) < 4294967296 := by
        have h1 : 2 ^ (8 * k) ≤ 2 ^ 24 := Nat.pow_le_pow_right (by decide) (by omega)
        have h3 : sGo g a k (g (10 + k)) * 2 ^ (8 * k) ≤ 255 * 2 ^ 24 := Nat.mul_le_mul (by omega) h1
        omega
      rw [b_Goings_endsOf_29, q1']
      dsimp only
      rw [hk6, cond_true, hr1, decide_eq_false (show ¬ nI (g 2) ≤ nI k from by rw [q_le (by omega) (by omega)]; omega), cond_false, cond_true, ra1]
      dsimp only
      rw [ra2, in16 hk4 (by decide), cond_true, nI_clamp (by omega), ra3 k hk4]
      have e2'' : am_cl (d + 4) mFord_spread [.ref 11, .int (nI a), .int (nI k), .int (nI (g (10 + k))), .int 8] (i1, l2', rX q, kX K) = _ := e2'
      rw [e2'', am_bd_some, q_app, b_Goings_endsOf_61, hsh, show nI k + (1 : Int32) = nI (k + 1) from nI_add k 1]
      refine Go_in ⟨i2', _, rfl, rfl, fun j hj => ?_, fun c hc => (hf2' c hc).trans (hf1 c hc), hA2⟩
      rw [Int32.toBitVec_or, BitVec.getLsbD_or, hx j hj, x_nb hsl, Nat.testBit_mul_two_pow]
      unfold avl gBit
      by_cases c1 : j / 8 < k
      · rw [decide_eq_true c1, decide_eq_true (show j / 8 < k + 1 by omega), decide_eq_false (show ¬ 8 * k ≤ j by omega)]
        simp
      · by_cases c2 : j / 8 = k
        · have h15 : (15 : Nat).testBit k = true := by
            have : ∀ k, k < 4 → (15 : Nat).testBit k = true := by decide
            exact this k hk4
          rw [decide_eq_false c1, decide_eq_true (show j / 8 < k + 1 by omega), decide_eq_true (show 8 * k ≤ j by omega), c2, if_pos ⟨hk, h15⟩, show j - 8 * k = j % 8 by omega]
          simp
        · rw [decide_eq_false c1, decide_eq_false (show ¬ j / 8 < k + 1 by omega), tb_lt (n := 8) hs (show 8 ≤ j - 8 * k by omega)]
          simp
    · obtain ⟨i1, x, e1, e2, hx, hf1, hA1⟩ := hI
      subst e1; subst e2
      have hf1' : Fr [13, 14, 18, 19] i i1 := hf1
      have hV1 : RV (i1, l, rX q, kX K) r g := RV_fr hf1' rfl hV
      have hr1 : i1 r 1 = nI (g 2) := hV1.2.2.2.1
      have hk6 : Nat.beq (am_kd (i1, l, rX q, kX K) r) 6 = true := by rw [hV1.2.1]; rfl
      have hEx : EBt g a x := fun j hj => by
        rw [hx j hj]
        by_cases c1 : j / 8 < g 2
        · rw [decide_eq_true c1, Bool.true_and]
        · rw [decide_eq_false c1, Bool.false_and]
          unfold avl gBit
          rw [if_neg (fun z => c1 z.1)]; simp
      rw [b_Goings_endsOf_29, q1']
      dsimp only
      rw [hk6, cond_true, hr1, decide_eq_true (show nI (g 2) ≤ nI (g 2) from by rw [q_le (by have := hW.2.1; omega) (by have := hW.2.1; omega)]; exact Nat.le_refl _), cond_true, q3']
      dsimp only
      rw [kin, cond_true, nI_clamp (by omega), b_Goings_endsOf_81, q3']
      dsimp only
      rw [kin, cond_true, nI_clamp (by omega)]
      have hown : am_u2 i1 e a x e a = x := q_u2s _ _ _ _
      refine ⟨_, x, by rw [hown], hEx, hown, fun b hb => ?_, fun c hc hce => ?_, ?_⟩
      · have hba : b ≠ a := fun z => hb (by rw [z]; exact c)
        simp only [am_u2]
        rw [if_pos trivial, if_neg hba, hf1 e hwe]
      · funext k
        simp only [am_u2]
        rw [if_neg hce, hf1 c hc]
      · refine ⟨?_, q1, q3, ?_, ?_, ⟨hWe, hke, hl1, hl2⟩, fun b hb hvb => ?_⟩
        · have e18 : ∀ t, t = 18 ∨ t = 19 ∨ t = 20 ∨ t = 21 → am_u2 i1 e a x t = i1 t := fun t ht => by
            funext k
            simp only [am_u2]
            rw [if_neg]
            rcases hWe with h | h | h | h | h | h | h | h | h | h | h <;> omega
          obtain ⟨f1, f2, f3, f4, f5⟩ := hA1
          refine ⟨f1, f2, f3, ?_, ?_⟩
          · unfold TV at f4 ⊢
            rw [e18 18 (by omega), e18 19 (by omega)]; exact f4
          · unfold HV at f5 ⊢
            rw [e18 20 (by omega), e18 21 (by omega)]; exact f5
        · simp only [am_u2]
          rw [if_neg he22, hf1 22 rfl]; exact i4
        · simp only [am_u2]
          rw [if_neg he22, hf1 22 rfl]; exact i2
        · simp only [am_u2]
          rw [if_pos trivial]
          by_cases cb : b = a
          · rw [if_pos cb, cb]; exact Or.inr hEx
          · rw [if_neg cb, hf1 e hwe]; exact hGV b hb hvb
  · rw [decide_eq_true (show ¬ i e a = (-1 : Int32) from c), cond_true, b_Goings_endsOf_81, q3']
    dsimp only
    rw [kin, cond_true, nI_clamp (by omega)]
    have hEx := (hGV a ha hvs).resolve_left c
    exact ⟨i, _, rfl, hEx, rfl, fun _ _ => rfl, fun _ _ _ => rfl, hA, q1, q3, i4, i2, ⟨hWe, hke, hl1, hl2⟩, hGV⟩
end
