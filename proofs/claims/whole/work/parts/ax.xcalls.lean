/-! THE CLASS: each call leaves all as it should be -/
section
variable {i i' : Nat → Nat → Int32} {l l' : Nat → Nat → Int64} {q q' : Nat → Nat → Option Nat} {K K' : List (Nat × Nat)} {r m v v' n : Nat} {ρ : Nat → Nat → Nat} {W W' : Nat → Nat} {σ σ' : St} {vv : Value} {o : Option aR}
/-- images and the rest as they were -/
def So (σ σ' : St) : Prop := σ'.2 = σ.2 ∧ ∀ j, 1074 ≤ j → σ'.1 j = σ.1 j
theorem so_refl : So σ σ := ⟨rfl, fun _ _ => rfl⟩
theorem so_note {g1 : Nat → Nat} (h : SI σ) (ho : ∀ j, (j < 18 ∨ 32 ≤ j) → g1 j = σ.1 j) : So σ (gNote g1 (gCur σ.1), σ.2) := by
  have e32 := ho 32 (by omega)
  have := h.2.1.1
  obtain ⟨n1, _⟩ := gNote_e (g := g1) (w := gCur σ.1) (by omega)
  exact ⟨rfl, fun j hj => by
    show gNote g1 (gCur σ.1) j = σ.1 j
    rw [n1 j (by omega), ho j (by omega)]⟩
theorem so_do {n : Nat} (h : SI σ) (h0 : dWhy σ.1 n = 0) : So σ (gNote (dDo σ.1 n) (gCur σ.1), σ.2) := so_note h (fun j hj => dDo_out h.1 h0 hj)
theorem so_go (x y : Int32) (h : SI σ) : So σ (a_go σ x y) := by
  unfold a_go
  by_cases h0 : sWhy σ.1 x y = 0
  · rw [if_pos h0]
    have h0' := h0
    obtain ⟨p, t, hp, ht, rfl, rfl, _⟩ := sWhy_0 h0'
    have g1 := h.1.1.2
    have g2 := h.1.2.1
    have hd : dWhy σ.1 (10 * p + t) = 0 := by
      unfold dWhy
      rw [if_pos (by omega), show (10 * p + t) / 10 = p by omega, show (10 * p + t) % 10 = t by omega]
      exact h0
    have := so_do h hd
    unfold dDo at this
    rw [if_pos (by omega), show (10 * p + t) / 10 = p by omega, show (10 * p + t) % 10 = t by omega] at this
    rw [nI_clamp (by omega), nI_clamp (by omega)]
    exact this
  · rw [if_neg h0]; exact so_refl
theorem so_flood (x : Int32) (h : SI σ) : So σ (a_flood σ x) := by
  unfold a_flood
  by_cases h0 : iB x 10 = true
  · rw [if_pos h0]
    obtain ⟨w, hw, rfl⟩ := iB_T h0
    have hd : dWhy σ.1 (100 + w) = 0 := by
      unfold dWhy
      rw [if_neg (by omega), if_pos (by omega)]
    have := so_do h hd
    unfold dDo at this
    rw [if_neg (by omega), if_pos (by omega), Nat.add_sub_cancel_left] at this
    rw [nI_clamp (by omega)]
    exact this
  · rw [if_neg h0]; exact so_refl
theorem so_strength (x y : Int32) (h : SI σ) : So σ (a_strength σ x y) := by
  unfold a_strength
  by_cases h0 : iB x (σ.1 2) = true ∧ iR 0 9 y = true
  · rw [if_pos h0]
    have g2 := h.1.2.1
    obtain ⟨p, hp, rfl⟩ := iB_T h0.1
    obtain ⟨w, _, hw, rfl⟩ := iR_T h0.2
    have hd : dWhy σ.1 (200 + 10 * p + w) = 0 := by
      unfold dWhy
      rw [if_neg (by omega), if_neg (by omega), if_neg (by omega), if_pos (by omega), if_pos (by omega)]
    have := so_do h hd
    unfold dDo at this
    rw [if_neg (by omega), if_neg (by omega), if_pos (by omega), show (200 + 10 * p + w) % 100 / 10 = p by omega, show (200 + 10 * p + w) % 10 = w by omega] at this
    rw [nI_clamp (by omega), nI_clamp (by omega)]
    exact this
  · rw [if_neg h0]; exact so_refl
theorem so_depth (x y : Int32) (h : SI σ) : So σ (a_depth σ x y) := by
  unfold a_depth
  by_cases h0 : iS σ.1 x = true ∧ iR 0 9 y = true
  · rw [if_pos h0]
    have g1 := h.1.1.2
    obtain ⟨s, hs1, hs2, rfl⟩ := iS_T h0.1
    obtain ⟨w, _, hw, rfl⟩ := iR_T h0.2
    have hd : dWhy σ.1 (300 + 10 * s + w) = 0 := by
      unfold dWhy
      rw [if_neg (by omega), if_neg (by omega), if_neg (by omega), if_neg (by omega), if_pos (by omega), if_pos (by omega)]
    have := so_do h hd
    unfold dDo at this
    rw [if_neg (by omega), if_neg (by omega), if_neg (by omega), show (300 + 10 * s + w) % 100 / 10 = s by omega, show (300 + 10 * s + w) % 10 = w by omega] at this
    rw [nI_clamp (by omega), nI_clamp (by omega)]
    exact this
  · rw [if_neg h0]; exact so_refl
theorem so_perform (x : Int32) (h : SI σ) : So σ (a_perform σ x) := by
  unfold a_perform
  split
  · obtain ⟨t1, t2, _⟩ := tl_ok (f := fun k => σ.2.2.2.2.2.2.2.2 (40 * x.toNatClampNeg + k)) (σ.2.2.2.2.2.2.2.1 x.toNatClampNeg) 0 σ.1 h.1
    exact so_note h t2
  · exact so_refl
theorem so_season (x y : Int32) (h : SI σ) : So σ (a_season σ x y) := by
  unfold a_season
  split
  · obtain ⟨t1, t2, _⟩ := ssn_ok y.toNatClampNeg x σ.1 0 h.1
    exact so_note h t2
  · exact so_refl
theorem so_undo (x : Int32) : So σ (a_undo σ x) := by
  unfold a_undo
  split
  · refine ⟨rfl, fun j hj => ?_⟩
    show (if j = 32 then _ else if 18 ≤ j ∧ j < 32 then _ else σ.1 j) = σ.1 j
    rw [if_neg (by omega), if_neg (by omega)]
  · exact so_refl
theorem SI_lists (x y : Int32) (h : SI σ) : SI (a_lists σ x y) := by
  unfold a_lists
  split
  · obtain ⟨s1, s2, s3, s4, s5, s6⟩ := h
    exact ⟨s1, s2, s3, s4, s5, s6⟩
  · exact h
theorem so_lists (x y : Int32) : (a_lists σ x y).1 = σ.1 ∧ (a_lists σ x y).2.1 = σ.2.1 ∧ (a_lists σ x y).2.2.1 = σ.2.2.1 ∧ (a_lists σ x y).2.2.2.1 = σ.2.2.2.1 ∧ (a_lists σ x y).2.2.2.2.1 = σ.2.2.2.2.1 ∧ (a_lists σ x y).2.2.2.2.2.1 = σ.2.2.2.2.2.1 := by
  unfold a_lists
  split <;> exact ⟨rfl, rfl, rfl, rfl, rfl, rfl⟩
theorem so_numbers (x y z : Int32) : (a_numbers σ x y z).1 = σ.1 ∧ (a_numbers σ x y z).2.1 = σ.2.1 ∧ (a_numbers σ x y z).2.2.1 = σ.2.2.1 ∧ (a_numbers σ x y z).2.2.2.1 = σ.2.2.2.1 ∧ (a_numbers σ x y z).2.2.2.2.1 = σ.2.2.2.2.1 ∧ (a_numbers σ x y z).2.2.2.2.2.1 = σ.2.2.2.2.2.1 := by
  unfold a_numbers
  split <;> exact ⟨rfl, rfl, rfl, rfl, rfl, rfl⟩
theorem so_write (x y : Int32) (u : Int64) : (a_write σ x y u).1 = σ.1 ∧ (a_write σ x y u).2.1 = σ.2.1 ∧ (a_write σ x y u).2.2.1 = σ.2.2.1 ∧ (a_write σ x y u).2.2.2.1 = σ.2.2.2.1 ∧ (a_write σ x y u).2.2.2.2.1 = σ.2.2.2.2.1 ∧ (a_write σ x y u).2.2.2.2.2.1 = σ.2.2.2.2.2.1 := by
  unfold a_write
  split <;> exact ⟨rfl, rfl, rfl, rfl, rfl, rfl⟩
theorem so_feed (a b c d e : Int32) : (a_feed σ a b c d e).1 = σ.1 ∧ (a_feed σ a b c d e).2.1 = σ.2.1 ∧ (a_feed σ a b c d e).2.2.2.2.2.2 = σ.2.2.2.2.2.2 := by
  unfold a_feed
  split <;> exact ⟨rfl, rfl, rfl⟩
theorem so_image (x : Int32) : (a_image σ x).2.2 = σ.2.2 := by
  unfold a_image
  split <;> rfl
theorem so_restore (x : Int32) : (a_restore σ x).2 = σ.2 := by
  unfold a_restore
  split <;> rfl
theorem so_river (x : Int32) : (a_river σ x).2.1 = σ.2.1 ∧ (a_river σ x).2.2.2.2.2.2 = σ.2.2.2.2.2.2 := by
  unfold a_river
  split
  · split <;> exact ⟨rfl, rfl⟩
  · exact ⟨rfl, rfl⟩
theorem IM_s (h1 : σ'.2.1 = σ.2.1) (h2 : ∀ j, 1074 ≤ j → σ'.1 j = σ.1 j) (hM : IM ρ σ i l q K) : IM ρ σ' i l q K := by
  have e : ∀ x, gIm σ'.1 x = gIm σ.1 x := fun x => by
    funext j
    exact h2 _ (by omega)
  intro x hx
  rw [h1, e x]
  exact hM x hx
theorem TY_s (h : σ'.2.2.2.2.2.2 = σ.2.2.2.2.2.2) (hY : TY σ i l) : TY σ' i l := by
  unfold TY at hY ⊢
  rw [h]; exact hY
theorem TB_s (h1 : σ'.2.2.1 = σ.2.2.1) (h2 : σ'.2.2.2.1 = σ.2.2.2.1) (h3 : σ'.2.2.2.2.1 = σ.2.2.2.2.1) (h4 : σ'.2.2.2.2.2.1 = σ.2.2.2.2.2.1) (hB : TB σ i) : TB σ' i := by
  unfold TB at hB ⊢
  rw [h1, h2, h3, h4]; exact hB
theorem nw0 : ∀ w, w ∈ ([] : List Nat) → WDc w := fun w hw => by cases hw
theorem XS_id (h : XS n σ i l q K) (e : o = some (some vv, (i, l, rX q, kX K))) : XO n σ vv o := by
  obtain ⟨ρ, W, v, r, m, a, b, c, d, f, g, hh, j, k, hv, p, s, z⟩ := h
  exact ⟨i, l, q, K, e, ρ, W, v, r, m, a, b, c, d, f, g, hh, j, k, by omega, p, s, ZS_mo (by omega) z⟩
theorem XS_yr (h : XS n σ i l q K) (hy : ∀ ρ r m, CV ρ r σ.1 m i l q K → XF ρ i l q K → TY σ i l → SI σ → YR ρ K i l q (some vv) o) : XO n σ vv o := by
  obtain ⟨ρ, W, v, r, m, hC, hP, hM, hY, hB, hF, hX, hN, hRI, hv, h8, hI, hZ⟩ := h
  obtain ⟨i', l', q', e, hfg, hF'⟩ := hy ρ r m hC hF hY hI
  have hk : FK RF [] [11] [11] i i' l l' q q' K K := FK_fg hfg
  exact ⟨i', l', q', K, e, ρ, W, v, r, m, CV_ff hfg hC, PH_fk hk rfl rfl nw0 hP, IM_fk hk rfl rfl rfl rfl nw0 (fun _ _ _ _ w hw => by cases hw) (fun _ _ => rfl) hM, TY_fk hk rfl rfl nw0 hY, TB_fk hk rfl rfl rfl nw0 hB, hF', XGs_fk hk rfl rfl rfl rfl rfl rfl rfl rfl (fun _ _ => rfl) hX, RN_fk hk rfl hC.2.1 hN (MQx_refl _ _), RI_fk hk rfl rfl hM hRI (MQx_refl _ _), by omega, i5_fk hk rfl nw0 h8, hI, ZS_mo (by omega) (ZS_gw (GW_row (hfg.2.2 22 rfl) (hfg.2.2 27 rfl) (hfg.2.2 30 rfl) (hfg.2.2 35 rfl)) hZ)⟩
theorem XS_dr (h : XS n σ i l q K) (hs : So σ σ') (hI' : SI σ') (hy : ∀ ρ r m, CV ρ r σ.1 m i l q K → XF ρ i l q K → PH σ.1 i l → TY σ i l → SI σ → DR ρ r K i l q (some vv) σ'.1 o) : XO n σ' vv o := by
  obtain ⟨ρ, W, v, r, m, hC, hP, hM, hY, hB, hF, hX, hN, hRI, hv, h8, hI, hZ⟩ := h
  obtain ⟨i', l', q', m', e, hfg, hF', hC', hP'⟩ := hy ρ r m hC hF hP hY hI
  have hk : FK (0 :: RF) [] [0, 10, 11] [11] i i' l l' q q' K K := FK_fg hfg
  have hM' := IM_fk hk rfl rfl rfl rfl nw0 (fun _ _ _ _ w hw => by cases hw) (fun _ _ => rfl) hM
  exact ⟨i', l', q', K, e, ρ, W, v, r, m', hC', hP', IM_s (by rw [hs.1]) hs.2 hM', TY_s (by rw [hs.1]) (TY_fk hk rfl rfl nw0 hY), TB_s (by rw [hs.1]) (by rw [hs.1]) (by rw [hs.1]) (by rw [hs.1]) (TB_fk hk rfl rfl rfl nw0 hB), hF', XGs_fk hk rfl rfl rfl rfl rfl rfl rfl rfl (fun _ _ => rfl) hX, RN_fk hk rfl hC.2.1 hN (MQx_refl _ _), RI_fk hk rfl rfl hM hRI (MQx_refl _ _), by omega, i5_fk hk rfl nw0 h8, hI', ZS_mo (by omega) (ZS_gw (GW_row (hfg.2.2 22 rfl) (hfg.2.2 27 rfl) (hfg.2.2 30 rfl) (hfg.2.2 35 rfl)) hZ)⟩
theorem WL_wd (hO : WO W) : ∀ w, w ∈ WL W → WDc w := fun w hw => by
  obtain ⟨k, hk, rfl⟩ := WL_mem.mp hw
  exact hO.1 k hk
theorem XS_gr (hn : n < 1000000) (h : XS n σ i l q K) (hy : ∀ ρ W v r m, XA ρ r σ.1 m W v i l q K → GR ρ W v i l q K (some vv) o) : XO n σ vv o := by
  obtain ⟨ρ, W, v, r, m, hC, hP, hM, hY, hB, hF, hX, hN, hRI, hv, h8, hI, hZ⟩ := h
  obtain ⟨i', l', q', K', W', v', e, hG, hQ, hX', hF', hv'⟩ := hy ρ W v r m ⟨hC, hF, hX, hN, by omega⟩
  have hO : WO W := hX.2.2.2
  have hw := WL_wd hO
  have hN1 : ∀ w, w ∈ WL W → RNc q r w := fun w h => by obtain ⟨k, hk, rfl⟩ := WL_mem.mp h; exact hN k hk
  have hN2 : ∀ x r', x < 2 → q 48 x = some r' → ∀ w, w ∈ WL W → RNc q r' w := fun x r' hx hq w h => by obtain ⟨k, hk, rfl⟩ := WL_mem.mp h; exact hRI x r' hx hq k hk
  exact ⟨i', l', q', K', e, ρ, W', v', r, m, CV_fk hG.1 rfl rfl rfl rfl hN1 hw hC, PH_fk hG.1 rfl rfl hw hP, IM_fk hG.1 rfl rfl rfl rfl hw hN2 (fun _ _ => rfl) hM, TY_fk hG.1 rfl rfl hw hY, TB_fk hG.1 rfl rfl rfl hw hB, hF', hX', RN_fk hG.1 rfl hC.2.1 hN hQ, RI_fk hG.1 rfl rfl hM hRI hQ, by omega, i5_fk hG.1 rfl hw h8, hI, ZS_mo (by omega) (ZS_gw hG.2 hZ)⟩
theorem XS_lists (hn : n < 1000000) (x y : Int32) (d : Nat) (h : XS n σ i l q K) : XO n (a_lists σ x y) (.int (v_lists σ x y)) (am_cl (d + 9) mX_lists [.ref 0, .int x, .int y] (i, l, rX q, kX K)) := by
  obtain ⟨ρ, W, v, r, m, hC, hP, hM, hY, hB, hF, hX, hN, hRI, hv, h8, hI, hZ⟩ := h
  obtain ⟨i', l', q', K', W', v', e, hG, hQ, hX', hF', hv', hY'⟩ := y_X_lists d x y ⟨hC, hF, hX, hN, by omega⟩ hY hI.2.2.2.1
  obtain ⟨s1, s2, s3, s4, s5, s6⟩ := so_lists (σ := σ) x y
  have hO : WO W := hX.2.2.2
  have hw := WL_wd hO
  have hN1 : ∀ w, w ∈ WL W → RNc q r w := fun w h => by obtain ⟨k, hk, rfl⟩ := WL_mem.mp h; exact hN k hk
  have hN2 : ∀ x r', x < 2 → q 48 x = some r' → ∀ w, w ∈ WL W → RNc q r' w := fun x r' hx hq w h => by obtain ⟨k, hk, rfl⟩ := WL_mem.mp h; exact hRI x r' hx hq k hk
  exact ⟨i', l', q', K', e, ρ, W', v', r, m, by rw [s1]; exact CV_fk hG.1 rfl rfl rfl rfl hN1 hw hC, by rw [s1]; exact PH_fk hG.1 rfl rfl hw hP, IM_s s2 (fun j _ => by rw [s1]) (IM_fk hG.1 rfl rfl rfl rfl hw hN2 (fun _ _ => rfl) hM), hY', TB_s s3 s4 s5 s6 (TB_fk hG.1 rfl rfl rfl hw hB), hF', hX', RN_fk hG.1 rfl hC.2.1 hN hQ, RI_fk hG.1 rfl rfl hM hRI hQ, by omega, i5_fk hG.1 rfl hw h8, SI_lists x y hI, ZS_mo (by omega) (ZS_gw hG.2 hZ)⟩
/-- a frame that touches nothing of a river -/
theorem XS_part {Ri Rl : List Nat} (hfg : FG Ri Rl [] i i' l l' q q) (h1 : (Ri.all fun x => Nat.blt x 58 && !(x == 7 || x == 8 || x == 9)) = true) (h2 : Ri.contains 0 = false) (h3 : Rl.contains 0 = false) (h4 : Rl.contains 10 = false) (h5 : Rl.contains 49 = false) (h6 : (Ri.all fun x => !(x == 26 || x == 28 || x == 29 || x == 31 || x == 32 || x == 33 || x == 34 || x == 36 || x == 37 || x == 38) && Nat.blt x 58) = true) (h7 : (Rl.all fun x => !(x == 26 || x == 28 || x == 29 || x == 31 || x == 32 || x == 33 || x == 34 || x == 36 || x == 37 || x == 38) && Nat.blt x 58) = true) (h22 : Ri.contains 22 = false) (h27 : Ri.contains 27 = false) (h18 : Ri.contains 18 = false) (h19 : Ri.contains 19 = false) (h20 : Ri.contains 20 = false) (h21 : Ri.contains 21 = false) (l11 : Rl.contains 11 = false) (e1 : σ'.1 = σ.1) (e2 : σ'.2.1 = σ.2.1) (hY' : TY σ' i' l') (hB' : TB σ' i') (h8' : ∃ c, c ≤ 900 ∧ i' 5 8 = nI c) (hI' : SI σ') (h : XS n σ i l q K) : XS (n + 1) σ' i' l' q K := by
  obtain ⟨ρ, W, v, r, m, hC, hP, hM, hY, hB, hF, hX, hN, hRI, hv, h8, hI, hZ⟩ := h
  have hk : FK Ri [] Rl [] i i' l l' q q K K := FK_fg hfg
  exact ⟨ρ, W, v, r, m, by rw [e1]; exact CV_fk hk h1 rfl rfl h3 (fun w hw => by cases hw) nw0 hC, by rw [e1]; exact PH_fk hk h2 h4 nw0 hP, IM_s e2 (fun j _ => by rw [e1]) (IM_fk hk h1 rfl rfl h5 nw0 (fun _ _ _ _ w hw => by cases hw) (fun _ _ => rfl) hM), hY', hB', XF_fk hk h18 h19 h20 h21 l11 rfl (fun _ _ => rfl) hF, XGs_fk hk h6 h7 h22 h27 rfl rfl rfl rfl (fun _ _ => rfl) hX, hN, hRI, by omega, h8', hI', ZS_mo (by omega) hZ⟩
theorem XS_numbers (x y z : Int32) (d : Nat) (h : XS n σ i l q K) : XO n (a_numbers σ x y z) (.int (v_numbers x y z)) (am_cl (d + 3) mX_numbers [.ref 0, .int x, .int y, .int z] (i, l, rX q, kX K)) := by
  obtain ⟨ρ, W, v, r, m, hC, hP, hM, hY, hB, hF, hX, hN, hRI, hv, h8, hI, hZ⟩ := id h
  obtain ⟨i', l', e, hfg, hY'⟩ := y_X_numbers (q := q) (K := K) d x y z hY hI.2.2.2.1
  obtain ⟨s1, s2, s3, s4, s5, s6⟩ := so_numbers (σ := σ) x y z
  have hk : FK [50, 52, 54, 56] [] [51, 53, 55, 57] [] i i' l l' q q K K := FK_fg hfg
  exact ⟨i', l', q, K, e, XS_part hfg rfl rfl rfl rfl rfl rfl rfl rfl rfl rfl rfl rfl rfl rfl s1 s2 hY' (TB_s s3 s4 s5 s6 (TB_fk hk rfl rfl rfl nw0 hB)) (i5_fk hk rfl nw0 h8) (SI_numbers x y z hI) h⟩
theorem XS_write (x y : Int32) (u : Int64) (d : Nat) (h : XS n σ i l q K) : XO n (a_write σ x y u) (.long (v_write σ x y u)) (am_cl (d + 2) mX_write [.ref 0, .int x, .int y, .long u] (i, l, rX q, kX K)) := by
  obtain ⟨ρ, W, v, r, m, hC, hP, hM, hY, hB, hF, hX, hN, hRI, hv, h8, hI, hZ⟩ := id h
  obtain ⟨l', e, hfg, hY'⟩ := y_X_write (q := q) (K := K) d x y u hY hI.2.2.2.1
  obtain ⟨s1, s2, s3, s4, s5, s6⟩ := so_write (σ := σ) x y u
  exact ⟨i, l', q, K, e, XS_part hfg rfl rfl rfl rfl rfl rfl rfl rfl rfl rfl rfl rfl rfl rfl s1 s2 hY' (TB_s s3 s4 s5 s6 hB) h8 (SI_write x y u hI) h⟩
theorem XS_feed (a b c e f : Int32) (d : Nat) (h : XS n σ i l q K) : XO n (a_feed σ a b c e f) (.int (v_feed σ)) (am_cl (d + 2) mX_feed [.ref 0, .int a, .int b, .int c, .int e, .int f] (i, l, rX q, kX K)) := by
  obtain ⟨ρ, W, v, r, m, hC, hP, hM, hY, hB, hF, hX, hN, hRI, hv, h8, hI, hZ⟩ := id h
  obtain ⟨i', e1, hfr, hB'⟩ := y_X_feed (l := l) (q := q) (K := K) d a b c e f hB hI.2.2.2.2.1
  obtain ⟨s1, s2, s3⟩ := so_feed (σ := σ) a b c e f
  have hfg : FG [1, 2] [] [] i i' l l q q := ⟨hfr, fun _ _ => rfl, fun _ _ => rfl⟩
  have hk : FK [1, 2] [] [] [] i i' l l q q K K := FK_fg hfg
  exact ⟨i', l, q, K, e1, XS_part hfg rfl rfl rfl rfl rfl rfl rfl rfl rfl rfl rfl rfl rfl rfl s1 s2 (TY_s s3 (TY_fk hk rfl rfl nw0 hY)) hB' (i5_fk hk rfl nw0 h8) (SI_feed a b c e f hI) h⟩
theorem XS_image (x : Int32) (d : Nat) (h : XS n σ i l q K) : XO n (a_image σ x) (.int (v_image x)) (am_cl (d + 1) mX_image [.ref 0, .int x] (i, l, rX q, kX K)) := by
  obtain ⟨ρ, W, v, r, m, hC, hP, hM, hY, hB, hF, hX, hN, hRI, hv, h8, hI, hZ⟩ := h
  obtain ⟨l', q', e, hfg, hC', hP', hM', hq⟩ := y_X_image d x hC hP hM hI
  have hk : FK [] [] [49] [48] i i l l' q q' K K := FK_fg hfg
  have s := so_image (σ := σ) x
  refine ⟨i, l', q', K, e, ρ, W, v, r, m, hC', hP', hM', TY_s (by rw [s]) (TY_fk hk rfl rfl nw0 hY), TB_s (by rw [s]) (by rw [s]) (by rw [s]) (by rw [s]) hB, XF_fk hk rfl rfl rfl rfl rfl rfl (fun _ _ => rfl) hF, XGs_fk hk rfl rfl rfl rfl rfl rfl rfl rfl (fun _ _ => rfl) hX, RN_fk hk rfl hC.2.1 hN (MQx_refl _ _), fun y r' hy hq' k hk' => ?_, by omega, h8, SI_image x hI, ZS_mo (by omega) (ZS_gw (GW_row (hfg.2.2 22 rfl) (hfg.2.2 27 rfl) (hfg.2.2 30 rfl) (hfg.2.2 35 rfl)) hZ)⟩
  rcases hq y r' hq' with h | h
  · rw [h]; exact RN_fk hk rfl hC.2.1 hN (MQx_refl _ _) k hk'
  · exact RNc_fk hk rfl (IM_river hy hM h) (hRI y r' hy h k hk')
theorem XS_restore (x : Int32) (d : Nat) (h : XS n σ i l q K) : XO n (a_restore σ x) (.int (v_restore σ x)) (am_cl (d + 1) mX_restore [.ref 0, .int x] (i, l, rX q, kX K)) := by
  obtain ⟨ρ, W, v, r, m, hC, hP, hM, hY, hB, hF, hX, hN, hRI, hv, h8, hI, hZ⟩ := h
  obtain ⟨i', l', q', r', m', e, hfg, hC', hP', hM', hr⟩ := y_X_restore d x hC hP hM hI
  have hk : FK [0] [] [0] [0] i i' l l' q q' K K := FK_fg hfg
  have s := so_restore (σ := σ) x
  refine ⟨i', l', q', K, e, ρ, W, v, r', m', hC', hP', hM', TY_s (by rw [s]) (TY_fk hk rfl rfl nw0 hY), TB_s (by rw [s]) (by rw [s]) (by rw [s]) (by rw [s]) (TB_fk hk rfl rfl rfl nw0 hB), XF_fk hk rfl rfl rfl rfl rfl rfl (fun _ _ => rfl) hF, XGs_fk hk rfl rfl rfl rfl rfl rfl rfl rfl (fun _ _ => rfl) hX, fun k hk' => ?_, RI_fk hk rfl rfl hM hRI (MQx_refl _ _), by omega, i5_fk hk rfl nw0 h8, SI_restore x hI, ZS_mo (by omega) (ZS_gw (GW_row (hfg.2.2 22 rfl) (hfg.2.2 27 rfl) (hfg.2.2 30 rfl) (hfg.2.2 35 rfl)) hZ)⟩
  rcases hr with h | ⟨y, hy, h⟩
  · rw [h]; exact RN_fk hk rfl hC.2.1 hN (MQx_refl _ _) k hk'
  · exact RNc_fk hk rfl (IM_river hy hM h) (hRI y r' hy h k hk')
theorem XS_river (x : Int32) (d : Nat) (h : XS n σ i l q K) : XO n (a_river σ x) (.int (v_river σ x)) (am_cl (d + 31) mX_river [.ref 0, .int x] (i, l, rX q, kX K)) := by
  obtain ⟨ρ, W, v, r, m, hC, hP, hM, hY, hB, hF, hX, hN, hRI, hv, h8, hI, hZ⟩ := h
  obtain ⟨i', l', q', K', e, hB', h8', hO, hz1, hz2⟩ := y_X_river (l := l) (q := q) (K := K) d x hB hI h8
  obtain ⟨s1, s2⟩ := so_river (σ := σ) x
  have hS' := SI_river x hI
  rcases hO with ⟨eg, hk⟩ | ⟨hk, ⟨f, ef⟩, q02, hV, ⟨m', hm1, hm2⟩, h05, h32, hRN⟩
  · exact ⟨i', l', q', K', e, ρ, W, v, r, m, by rw [eg]; exact CV_fk hk rfl rfl rfl rfl (fun w hw => by cases hw) nw0 hC, by rw [eg]; exact PH_fk hk rfl rfl nw0 hP, IM_s s1 (fun j _ => by rw [eg]) (IM_fk hk rfl rfl rfl rfl nw0 (fun _ _ _ _ w hw => by cases hw) (fun _ _ => rfl) hM), TY_s s2 (TY_fk hk rfl rfl nw0 hY), hB', XF_fk hk rfl rfl rfl rfl rfl rfl (fun _ _ => rfl) hF, XGs_fk hk rfl rfl rfl rfl rfl rfl rfl rfl (fun _ _ => rfl) hX, RN_fk hk rfl hC.2.1 hN (MQx_refl _ _), RI_fk hk rfl rfl hM hRI (MQx_refl _ _), by omega, h8', hS', ZS_fk (a := 0) (b := 0) hk rfl rfl rfl rfl hX hz1 hz2 hZ⟩
  · obtain ⟨ρ', eρ⟩ : ∃ ρ' : Nat → Nat → Nat, (fun c => if c = 58 + K.length then (a_river σ x).1 else ρ c) = ρ' := ⟨_, rfl⟩
    have hρ : ∀ c, c < 58 + K.length → ρ' c = ρ c := fun c hc => by rw [← eρ]; exact if_neg (by omega)
    have hρn : ρ' (58 + K.length) = (a_river σ x).1 := by rw [← eρ]; exact if_pos rfl
    have hX' := XGs_fk hk rfl rfl rfl rfl rfl rfl rfl rfl hρ hX
    have hlt : ∀ k, k < 10 → W k < 58 + K.length := by
      obtain ⟨⟨gg, ⟨rg, g1, g2, g3, g4, ⟨g5, g6, g7⟩, g8⟩, nn, hS⟩, hR, hFo, hO⟩ := hX
      exact wkc_lt hR hFo ⟨nn, hS.1⟩ g6
    refine ⟨i', l', q', K', e, ρ', W, v, 58 + K.length, m', ⟨q02, hV, hS'.1, by rw [hρn]; exact gE_refl _, hm1, hm2⟩, ⟨by rw [h05, h32], fun k hk' => by rw [h32] at hk'; omega⟩, IM_s s1 (fun j hj => ?_) (IM_fk hk rfl rfl rfl rfl nw0 (fun _ _ _ _ w hw => by cases hw) hρ hM), TY_s s2 (TY_fk hk rfl rfl nw0 hY), hB', XF_fk hk rfl rfl rfl rfl rfl rfl hρ hF, hX', fun k hk' => hRN _ (hlt k hk'), RI_fk hk rfl rfl hM hRI (MQx_refl _ _), by omega, h8', hS', ZS_fk (a := 0) (b := 0) hk rfl rfl rfl rfl hX hz1 hz2 hZ⟩
    rw [ef]
    unfold gRiv
    rw [if_neg (by omega)]
end
