/-! THE CLASS: all cells of work together -/
section
variable {i i' i'' : Nat → Nat → Int32} {l l' l'' : Nat → Nat → Int64} {q q' q'' : Nat → Nat → Option Nat} {K K' K'' : List (Nat × Nat)} {r m v v' : Nat} {g h : Nat → Nat} {ρ : Nat → Nat → Nat} {W W' W'' : Nat → Nat}
/-- rows as they lie -/
def XRw (W : Nat → Nat) (l : Nat → Nat → Int64) (q : Nat → Nat → Option Nat) (K : List (Nat × Nat)) : Prop := (q 30 1 = some (W 3) ∧ q 30 2 = some (W 4) ∧ q 30 3 = some (W 5) ∧ q 30 4 = some (W 6)) ∧ (kK K (W 3) = 101 ∧ kK K (W 4) = 101 ∧ kK K (W 5) = 100 ∧ kK K (W 6) = 100) ∧ ∃ n, n ≤ 4096 ∧ (lK K (W 3) = n ∧ lK K (W 4) = n ∧ lK K (W 5) = n ∧ lK K (W 6) = n) ∧ ∀ k, k < n → l (W 4) k = 0
/-- forcing as it lies -/
def XFo (W : Nat → Nat) (q : Nat → Nat → Option Nat) (K : List (Nat × Nat)) : Prop := (q 35 1 = some (W 7) ∧ q 35 2 = some (W 8) ∧ q 35 3 = some (W 9)) ∧ (kK K (W 7) = 100 ∧ kK K (W 8) = 100 ∧ kK K (W 9) = 100) ∧ ∃ n, n ≤ 4096 ∧ lK K (W 7) = n ∧ lK K (W 8) = n ∧ lK K (W 9) = n
/-- ten cells of work, all others -/
def WO (W : Nat → Nat) : Prop := (∀ k, k < 10 → WDc (W k)) ∧ ∀ a b, a < 10 → b < 10 → W a = W b → a = b
/-- between calls -/
def XGs (ρ : Nat → Nat → Nat) (W : Nat → Nat) (v : Nat) (i : Nat → Nat → Int32) (l : Nat → Nat → Int64) (q : Nat → Nat → Option Nat) (K : List (Nat × Nat)) : Prop := (∃ gg, GS ρ gg (W 0) v i l q K ∧ ∃ n, SS gg v (W 1) (W 2) n i q K) ∧ XRw W l q K ∧ XFo W q K ∧ WO W
/-- behind attune -/
def MD (ρ : Nat → Nat → Nat) (r : Nat) (g : Nat → Nat) (m : Nat) (W : Nat → Nat) (v : Nat) (i : Nat → Nat → Int32) (l : Nat → Nat → Int64) (q : Nat → Nat → Option Nat) (K : List (Nat × Nat)) : Prop := CV ρ r g m i l q K ∧ GA r g m (W 0) v i l q K ∧ (∃ n, SS g v (W 1) (W 2) n i q K) ∧ XRw W l q K ∧ XFo W q K ∧ WO W ∧ ∀ k, k < 10 → RNc q r (W k)
def RGx : List Nat := [11, 13, 14, 18, 19, 20, 21, 22, 27, 30, 35, 40, 41, 42, 43, 44, 45, 46]
def RQx : List Nat := [11, 22, 27, 30, 35]
def WL (W : Nat → Nat) : List Nat := [W 0, W 1, W 2, W 3, W 4, W 5, W 6, W 7, W 8, W 9]
/-- cells of work stay, or are new -/
def MQx (K : List (Nat × Nat)) (W W' : Nat → Nat) : Prop := ∀ k, k < 10 → (∃ j, j < 10 ∧ W' k = W j) ∨ 58 + K.length ≤ W' k
/-- what has been made for a row as long as this -/
def pw (n : Nat) : Nat := (if 1 ≤ n then 1 else 0) + (if 8 ≤ n then 8 else 0) + (if 64 ≤ n then 64 else 0) + (if 512 ≤ n then 512 else 0) + (if 4096 ≤ n then 4096 else 0)
theorem pw_up {n b : Nat} (hb : b ≤ 4) (h : n < 8 ^ b) : pw n + 8 ^ b ≤ pw (8 ^ b) ∧ 1 ≤ 8 ^ b := by
  unfold pw
  have e1 : (if 1 ≤ n then 1 else 0) ≤ 1 := by split <;> omega
  have e2 : (if 8 ≤ n then 8 else 0) ≤ 8 := by split <;> omega
  have e3 : (if 64 ≤ n then 64 else 0) ≤ 64 := by split <;> omega
  have e4 : (if 512 ≤ n then 512 else 0) ≤ 512 := by split <;> omega
  rcases (show b = 0 ∨ b = 1 ∨ b = 2 ∨ b = 3 ∨ b = 4 by omega) with rfl | rfl | rfl | rfl | rfl
  · have h : n < 1 := h
    rw [if_neg (show ¬ 1 ≤ n by omega), if_neg (show ¬ 8 ≤ n by omega), if_neg (show ¬ 64 ≤ n by omega), if_neg (show ¬ 512 ≤ n by omega), if_neg (show ¬ 4096 ≤ n by omega)]
    decide
  · have h : n < 8 := h
    rw [if_neg (show ¬ 8 ≤ n by omega), if_neg (show ¬ 64 ≤ n by omega), if_neg (show ¬ 512 ≤ n by omega), if_neg (show ¬ 4096 ≤ n by omega)]
    refine ⟨?_, by decide⟩
    show _ + 8 ≤ 9
    omega
  · have h : n < 64 := h
    rw [if_neg (show ¬ 64 ≤ n by omega), if_neg (show ¬ 512 ≤ n by omega), if_neg (show ¬ 4096 ≤ n by omega)]
    refine ⟨?_, by decide⟩
    show _ + 64 ≤ 73
    omega
  · have h : n < 512 := h
    rw [if_neg (show ¬ 512 ≤ n by omega), if_neg (show ¬ 4096 ≤ n by omega)]
    refine ⟨?_, by decide⟩
    show _ + 512 ≤ 585
    omega
  · have h : n < 4096 := h
    rw [if_neg (show ¬ 4096 ≤ n by omega)]
    refine ⟨?_, by decide⟩
    show _ + 4096 ≤ 4681
    omega
theorem pw_le (n : Nat) : pw n ≤ 4681 := by
  unfold pw
  have e1 : (if 1 ≤ n then 1 else 0) ≤ 1 := by split <;> omega
  have e2 : (if 8 ≤ n then 8 else 0) ≤ 8 := by split <;> omega
  have e3 : (if 64 ≤ n then 64 else 0) ≤ 64 := by split <;> omega
  have e4 : (if 512 ≤ n then 512 else 0) ≤ 512 := by split <;> omega
  have e5 : (if 4096 ≤ n then 4096 else 0) ≤ 4096 := by split <;> omega
  omega
def gLn (q : Nat → Nat → Option Nat) (K : List (Nat × Nat)) (a k : Nat) : Nat := match q a k with | some c => pw (lK K c) | none => 0
def PHI (q : Nat → Nat → Option Nat) (K : List (Nat × Nat)) : Nat := gLn q K 22 3 + gLn q K 27 1 + gLn q K 27 2 + gLn q K 30 1 + gLn q K 30 2 + gLn q K 30 3 + gLn q K 30 4 + gLn q K 35 1 + gLn q K 35 2 + gLn q K 35 3
/-- what is made is paid by longer rows -/
def GW (q q' : Nat → Nat → Option Nat) (K K' : List (Nat × Nat)) : Prop := am_sz K' + PHI q K ≤ am_sz K + PHI q' K' ∧ K'.length + PHI q K ≤ K.length + PHI q' K'
def QW (W : Nat → Nat) (q : Nat → Nat → Option Nat) : Prop := q 22 3 = some (W 0) ∧ (q 27 1 = some (W 1) ∧ q 27 2 = some (W 2)) ∧ (q 30 1 = some (W 3) ∧ q 30 2 = some (W 4) ∧ q 30 3 = some (W 5) ∧ q 30 4 = some (W 6)) ∧ q 35 1 = some (W 7) ∧ q 35 2 = some (W 8) ∧ q 35 3 = some (W 9)
theorem gLn_some {a k c : Nat} (h : q a k = some c) : gLn q K a k = pw (lK K c) := by unfold gLn; rw [h]
theorem gLn_le (a k : Nat) : gLn q K a k ≤ 4681 := by
  unfold gLn
  split
  · exact pw_le _
  · exact Nat.zero_le _
theorem PHI_le : PHI q K ≤ 46810 := by
  unfold PHI
  have := gLn_le (q := q) (K := K)
  have h1 := this 22 3
  have h2 := this 27 1
  have h3 := this 27 2
  have h4 := this 30 1
  have h5 := this 30 2
  have h6 := this 30 3
  have h7 := this 30 4
  have h8 := this 35 1
  have h9 := this 35 2
  have h10 := this 35 3
  omega
theorem PHI_q (h : QW W q) : PHI q K = pw (lK K (W 0)) + pw (lK K (W 1)) + pw (lK K (W 2)) + pw (lK K (W 3)) + pw (lK K (W 4)) + pw (lK K (W 5)) + pw (lK K (W 6)) + pw (lK K (W 7)) + pw (lK K (W 8)) + pw (lK K (W 9)) := by
  obtain ⟨a, ⟨b, c⟩, ⟨d, e, f, g⟩, x, y, z⟩ := h
  unfold PHI
  rw [gLn_some a, gLn_some b, gLn_some c, gLn_some d, gLn_some e, gLn_some f, gLn_some g, gLn_some x, gLn_some y, gLn_some z]
theorem GW_refl : GW q q K K := ⟨Nat.le_refl _, Nat.le_refl _⟩
theorem GW_tr {q'' : Nat → Nat → Option Nat} {K'' : List (Nat × Nat)} (h1 : GW q q' K K') (h2 : GW q' q'' K' K'') : GW q q'' K K'' := by
  unfold GW at *
  omega
theorem GW_row (h22 : q' 22 = q 22) (h27 : q' 27 = q 27) (h30 : q' 30 = q 30) (h35 : q' 35 = q 35) : GW q q' K K := by
  have : PHI q' K = PHI q K := by unfold PHI gLn; rw [h22, h27, h30, h35]
  unfold GW
  omega
theorem QW_md (h : MD ρ r g m W v i l q K) : QW W q := by
  obtain ⟨_, hG, ⟨n, hS⟩, hR, hF, _⟩ := h
  exact ⟨hG.2.2.1, hS.1.1, hR.1, hF.1⟩
theorem QW_xg (h : XGs ρ W v i l q K) : QW W q := by
  obtain ⟨⟨gg, ⟨rg, _, _, h3, _⟩, n, hS⟩, hR, hF, _⟩ := h
  exact ⟨h3, hS.1.1, hR.1, hF.1⟩
def GFx (W : Nat → Nat) (i i' : Nat → Nat → Int32) (l l' : Nat → Nat → Int64) (q q' : Nat → Nat → Option Nat) (K K' : List (Nat × Nat)) : Prop := FK RGx (WL W) [11] RQx i i' l l' q q' K K' ∧ GW q q' K K'
theorem WL_mem {x : Nat} : x ∈ WL W ↔ ∃ k, k < 10 ∧ x = W k := by
  unfold WL
  constructor
  · intro h
    simp only [List.mem_cons, List.not_mem_nil, or_false] at h
    rcases h with h | h | h | h | h | h | h | h | h | h
    · exact ⟨0, by decide, h⟩
    · exact ⟨1, by decide, h⟩
    · exact ⟨2, by decide, h⟩
    · exact ⟨3, by decide, h⟩
    · exact ⟨4, by decide, h⟩
    · exact ⟨5, by decide, h⟩
    · exact ⟨6, by decide, h⟩
    · exact ⟨7, by decide, h⟩
    · exact ⟨8, by decide, h⟩
    · exact ⟨9, by decide, h⟩
  · rintro ⟨k, hk, rfl⟩
    rcases (show k = 0 ∨ k = 1 ∨ k = 2 ∨ k = 3 ∨ k = 4 ∨ k = 5 ∨ k = 6 ∨ k = 7 ∨ k = 8 ∨ k = 9 by omega) with rfl | rfl | rfl | rfl | rfl | rfl | rfl | rfl | rfl | rfl <;> simp
theorem MQx_refl (K : List (Nat × Nat)) (W : Nat → Nat) : MQx K W W := fun k hk => Or.inl ⟨k, hk, rfl⟩
theorem MQx_s (h : ∀ k, k < 10 → W' k = W k ∨ 58 + K.length ≤ W' k) : MQx K W W' := fun k hk => (h k hk).imp (fun e => ⟨k, hk, e⟩) id
theorem fk_len {Ri ws Rl Rq : List Nat} (h : FK Ri ws Rl Rq i i' l l' q q' K K') : K.length ≤ K'.length := by
  obtain ⟨⟨L, rfl⟩, _⟩ := h
  rw [List.length_append]; omega
theorem MQx_tr (hK : K.length ≤ K'.length) (h1 : MQx K W W') (h2 : MQx K' W' W'') : MQx K W W'' := fun k hk => by
  rcases h2 k hk with ⟨j, hj, h⟩ | h
  · rw [h]; exact h1 j hj
  · exact Or.inr (by omega)
theorem GFx_refl : GFx W i i l l q q K K := ⟨FK_refl _ _ _ _ _ _ _ _, GW_refl⟩
theorem GFx_tr (h1 : GFx W i i' l l' q q' K K') (hq : MQx K W W') (h2 : GFx W' i' i'' l' l'' q' q'' K' K'') : GFx W i i'' l l'' q q'' K K'' := ⟨FK_tr h1.1 h2.1 rfl rfl rfl (fun w hw => by
  obtain ⟨k, hk, rfl⟩ := WL_mem.mp hw
  rcases hq k hk with ⟨j, hj, h⟩ | h
  · exact Or.inl (WL_mem.mpr ⟨j, hj, h⟩)
  · exact Or.inr h), GW_tr h1.2 h2.2⟩
/-- a small frame is a great one -/
theorem GFx_of {Ri ws Rl Rq : List Nat} (h : FK Ri ws Rl Rq i i' l l' q q' K K') (e1 : Ri.all (fun x => RGx.contains x) = true) (e2 : Rl.all (fun x => ([11] : List Nat).contains x) = true) (e3 : Rq.all (fun x => RQx.contains x) = true) (e4 : ∀ w, w ∈ ws → ∃ k, k < 10 ∧ w = W k) (e5 : GW q q' K K') : GFx W i i' l l' q q' K K' := ⟨FK_tr (FK_refl _ _ _ _ _ _ _ _) h e1 e2 e3 (fun w hw => Or.inl (WL_mem.mpr (e4 w hw))), e5⟩
theorem CV_fk {Ri ws Rl Rq : List Nat} (h : FK Ri ws Rl Rq i i' l l' q q' K K') (hR : (Ri.all fun x => Nat.blt x 58 && !(x == 7 || x == 8 || x == 9)) = true) (hRq : (Rq.all fun x => Nat.blt x 58 && !(x == 7 || x == 8 || x == 9)) = true) (h0 : Rq.contains 0 = false) (hl : Rl.contains 0 = false) (hN : ∀ w, w ∈ ws → RNc q r w) (hw : ∀ w, w ∈ ws → WDc w) (hC : CV ρ r g m i l q K) : CV ρ r g m i' l' q' K' := by
  obtain ⟨a1, a2, a3, a4, a5, a6⟩ := hC
  refine ⟨by rw [(h.2 0 (by omega)).2.2 h0]; exact a1, RV_fk h hR hRq hN a2, a3, a4, ?_, a6⟩
  rw [(h.2 0 (by omega)).2.1 hl (nc_of (fun w hw' => by
    have := hw w hw'
    unfold WDc at this
    omega))]
  exact a5
theorem XRw_fk {Ri ws Rl Rq : List Nat} (h : FK Ri ws Rl Rq i i' l l' q q' K K') (h30 : Rq.contains 30 = false) (hl : l' (W 4) = l (W 4)) (hX : XRw W l q K) : XRw W l' q' K' := by
  obtain ⟨⟨a1, a2, a3, a4⟩, ⟨b1, b2, b3, b4⟩, n, hn, ⟨c1, c2, c3, c4⟩, hz⟩ := hX
  have e := (h.2 30 (by omega)).2.2 h30
  have k1 := kd_fk h (kK_lt b1 (by decide))
  have k2 := kd_fk h (kK_lt b2 (by decide))
  have k3 := kd_fk h (kK_lt b3 (by decide))
  have k4 := kd_fk h (kK_lt b4 (by decide))
  unfold XRw
  rw [e, k1.1, k2.1, k3.1, k4.1, k1.2, k2.2, k3.2, k4.2, hl]
  exact ⟨⟨a1, a2, a3, a4⟩, ⟨b1, b2, b3, b4⟩, n, hn, ⟨c1, c2, c3, c4⟩, hz⟩
theorem XFo_fk {Ri ws Rl Rq : List Nat} (h : FK Ri ws Rl Rq i i' l l' q q' K K') (h35 : Rq.contains 35 = false) (hX : XFo W q K) : XFo W q' K' := by
  obtain ⟨⟨a1, a2, a3⟩, ⟨b1, b2, b3⟩, n, hn, c1, c2, c3⟩ := hX
  have e := (h.2 35 (by omega)).2.2 h35
  have k1 := kd_fk h (kK_lt b1 (by decide))
  have k2 := kd_fk h (kK_lt b2 (by decide))
  have k3 := kd_fk h (kK_lt b3 (by decide))
  unfold XFo
  rw [e, k1.1, k2.1, k3.1, k1.2, k2.2, k3.2]
  exact ⟨⟨a1, a2, a3⟩, ⟨b1, b2, b3⟩, n, hn, c1, c2, c3⟩
theorem SC_fk {Ri ws Rl Rq : List Nat} {cm qu n : Nat} (h : FK Ri ws Rl Rq i i' l l' q q' K K') (h27 : Rq.contains 27 = false) (hS : SC cm qu n q K) : SC cm qu n q' K' := by
  obtain ⟨⟨a1, a2⟩, a3, ⟨b1, b2⟩, c1, c2, hn⟩ := hS
  have e := (h.2 27 (by omega)).2.2 h27
  have k1 := kd_fk h (kK_lt b1 (by decide))
  have k2 := kd_fk h (kK_lt b2 (by decide))
  unfold SC
  rw [e, k1.1, k2.1, k1.2, k2.2]
  exact ⟨⟨a1, a2⟩, a3, ⟨b1, b2⟩, c1, c2, hn⟩
/-- the search's cache lies as it lay -/
theorem SS_fk {Ri ws Rl Rq : List Nat} {cm qu n : Nat} (h : FK Ri ws Rl Rq i i' l l' q q' K K') (h27 : Rq.contains 27 = false) (e27 : i' 27 = i 27) (e1 : i' cm = i cm) (e2 : i' qu = i qu) (hS : SS g v cm qu n i q K) : SS g v cm qu n i' q' K' := by
  obtain ⟨a, ⟨L, b1, b2⟩, c⟩ := hS
  refine ⟨SC_fk h h27 a, ⟨L, by unfold SL at b1 ⊢; rw [e27, e1, e2]; exact b1, fun z => ?_⟩, by rw [e27]; exact c⟩
  rw [e27] at z
  obtain ⟨a', mv, zz, κ, pb, h1, h2, h3, h4⟩ := b2 z
  refine ⟨a', mv, zz, κ, pb, h1, h2, h3, ?_⟩
  unfold SR SL SX OUT at h4 ⊢
  rw [e27, e1, e2]; exact h4
/-- a cell of work that is kept -/
theorem wkc_lt (hX : XRw W l q K) (hF : XFo W q K) (hS : ∃ n, SC (W 1) (W 2) n q K) (h0 : kK K (W 0) = 100) : ∀ k, k < 10 → W k < 58 + K.length := by
  obtain ⟨_, ⟨b1, b2, b3, b4⟩, _⟩ := hX
  obtain ⟨_, ⟨d1, d2, d3⟩, _⟩ := hF
  obtain ⟨n, _, _, ⟨s1, s2⟩, _⟩ := hS
  intro k hk
  rcases (show k = 0 ∨ k = 1 ∨ k = 2 ∨ k = 3 ∨ k = 4 ∨ k = 5 ∨ k = 6 ∨ k = 7 ∨ k = 8 ∨ k = 9 by omega) with rfl | rfl | rfl | rfl | rfl | rfl | rfl | rfl | rfl | rfl
  · exact kK_lt h0 (by decide)
  · exact kK_lt s1 (by decide)
  · exact kK_lt s2 (by decide)
  · exact kK_lt b1 (by decide)
  · exact kK_lt b2 (by decide)
  · exact kK_lt b3 (by decide)
  · exact kK_lt b4 (by decide)
  · exact kK_lt d1 (by decide)
  · exact kK_lt d2 (by decide)
  · exact kK_lt d3 (by decide)
/-- from within to between -/
theorem MD_out (hM : MD ρ r g m W v i l q K) : XGs ρ W v i l q K ∧ XF ρ i l q K := by
  obtain ⟨⟨a1, a2, a3, a4, a5, a6⟩, hG, hS, hR, hF, hO, hN⟩ := hM
  obtain ⟨f, q1, q3, i4, i2, ⟨we, ke, l1, l2⟩, hV⟩ := hG
  exact ⟨⟨⟨g, ⟨r, q1, a2.2.1, q3, i4, ⟨we, ke, l2⟩, Or.inr ⟨m, i2, a6, a4, a3, l1, hV⟩⟩, hS⟩, hR, hF, hO⟩, ⟨r, m, g, f, a2.2.1, a4, a3.2.2.2.2.2.2.2.2.1, a3.2.2.2.2.2.2.2.2.2.1⟩⟩
/-- goings are tuned -/
theorem y_tune (d : Nat) (hC : CV ρ r g m i l q K) (hF : XF ρ i l q K) (hX : XGs ρ W v i l q K) (hN : ∀ k, k < 10 → RNc q r (W k)) (hv : v + 1 < 2 ^ 31) : ∃ i' l' q' K' W' v', am_cl (d + 3) mGoings_attune [.ref 22, .ref r, .long (lN m)] (i, l, rX q, kX K) = some (none, (i', l', rX q', kX K')) ∧ MD ρ r g m W' v' i' l' q' K' ∧ GFx W i i' l l' q q' K K' ∧ MQx K W W' ∧ v' ≤ v + 1 := by
  obtain ⟨⟨gg, hG, n, hS⟩, hR, hFo, ⟨hW, hO⟩⟩ := hX
  obtain ⟨i', l', q', K', e', v', e1, hGA, hFK, he, hv', hgr⟩ := y_attune (i := i) (l := l) (q := q) (K := K) d hC hF hG (hN 0 (by decide))
  have hke : kK K (W 0) = 100 := by obtain ⟨_, _, _, _, _, ⟨_, h, _⟩, _⟩ := hG; exact h
  have hlt := wkc_lt hR hFo ⟨n, hS.1⟩ hke
  have hne : ∀ k, k < 10 → k ≠ 0 → W k ≠ e' := fun k hk h0 z => by
    rcases he with h | h
    · rw [h] at z; exact h0 (hO k 0 hk (by decide) z)
    · have := hlt k hk; omega
  have hwe : WDc e' := hGA.2.2.2.2.2.1.1
  have row : ∀ k, k < 10 → k ≠ 0 → i' (W k) = i (W k) ∧ l' (W k) = l (W k) := fun k hk h0 => by
    have hw := hW k hk
    have hc : ([W 0] : List Nat).contains (W k) = false := nc_of (fun w hw z => by
      rw [List.mem_singleton.mp hw] at z
      exact h0 (hO 0 k (by decide) hk z).symm)
    have := hFK.2 (W k) (hlt k hk)
    exact ⟨this.1 (wd_no hw rfl) hc, this.2.1 (wd_no hw rfl) hc⟩
  have e27 : i' 27 = i 27 := (hFK.2 27 (by omega)).1 rfl (nc_of (fun w hw z => by
    rw [List.mem_singleton.mp hw] at z
    exact (wd27 (hW 0 (by decide))).1 z.symm))
  have hC' : CV ρ r g m i' l' q' K' := CV_fk hFK rfl rfl rfl rfl (fun w hw => by rw [List.mem_singleton.mp hw]; exact hN 0 (by decide)) (fun w hw => by rw [List.mem_singleton.mp hw]; exact hW 0 (by decide)) hC
  refine ⟨i', l', q', K', ug W 0 e', v', e1, ⟨hC', ?_, ⟨n, ?_⟩, ?_, ?_, ⟨fun k hk => ?_, fun a b ha hb hab => ?_⟩, fun k hk => ?_⟩, ?_, MQx_s (fun k hk => ?_), ?_⟩
  · show GA r g m (ug W 0 e' 0) v' i' l' q' K'
    rw [ug, if_pos rfl]; exact hGA
  · have hS' := SS_fk hFK rfl e27 (row 1 (by decide) (by decide)).1 (row 2 (by decide) (by decide)).1 hS
    show SS g v' (W 1) (W 2) n i' q' K'
    rcases hv' with h | ⟨h1, _, h2, h3⟩
    · obtain ⟨s1, ⟨L, s2, _⟩, s3⟩ := hS'
      refine ⟨s1, ⟨L, s2, fun z => ?_⟩, ?_⟩
      · exfalso
        rcases s3 with s3 | ⟨u, hu, s3⟩
        · exact (q_m1 (a := v + 1) (by omega)).mp (by rw [← h]; exact (s3.symm.trans z).symm)
        · rw [s3, h, q_eq (by omega) (by omega)] at z; omega
      · rcases s3 with s3 | ⟨u, hu, s3⟩
        · exact Or.inl s3
        · exact Or.inr ⟨u, by omega, s3⟩
    · rw [h1]
      obtain ⟨s1, ⟨L, s2, s4⟩, s3⟩ := hS'
      refine ⟨s1, ⟨L, s2, fun z => ?_⟩, s3⟩
      obtain ⟨a', mv, zz, κ, pb, t1, t2, t3, t4⟩ := s4 z
      exact ⟨a', mv, zz, κ, pb, t1, t2, t3, SR_S h3 h2 t4⟩
  · exact XRw_fk hFK rfl (row 4 (by decide) (by decide)).2 hR
  · exact XFo_fk hFK rfl hFo
  · show WDc (ug W 0 e' k)
    rw [ug]
    by_cases c : k = 0
    · rw [if_pos c]; exact hwe
    · rw [if_neg c]; exact hW k hk
  · rw [ug, ug] at hab
    by_cases c1 : a = 0
    · by_cases c2 : b = 0
      · omega
      · rw [if_pos c1, if_neg c2] at hab; exact absurd hab.symm (hne b hb c2)
    · by_cases c2 : b = 0
      · rw [if_neg c1, if_pos c2] at hab; exact absurd hab (hne a ha c1)
      · rw [if_neg c1, if_neg c2] at hab; exact hO a b ha hb hab
  · rw [ug]
    by_cases c : k = 0
    · rw [if_pos c]
      rcases he with h | h
      · rw [h]; exact RNc_fk hFK rfl hC.2.1 (hN 0 (by decide))
      · exact RNc_fk hFK rfl hC.2.1 (RNc_new hC.2.1 h)
    · rw [if_neg c]; exact RNc_fk hFK rfl hC.2.1 (hN k hk)
  · refine GFx_of hFK rfl rfl rfl (fun w hw => ⟨0, by decide, List.mem_singleton.mp hw⟩) ?_
    have hq0 : QW W q := by
      obtain ⟨rg, _, _, h3, _⟩ := hG
      exact ⟨h3, hS.1.1, hR.1, hFo.1⟩
    have hq1 : QW (ug W 0 e') q' := ⟨hGA.2.2.1, (SC_fk hFK rfl hS.1).1, (XRw_fk hFK rfl (row 4 (by decide) (by decide)).2 hR).1, (XFo_fk hFK rfl hFo).1⟩
    have ek : ∀ k, k < 10 → lK K' (W k) = lK K (W k) := fun k hk => (kd_fk hFK (hlt k hk)).2
    have p1 := PHI_q (K := K) hq0
    have p2 := PHI_q (K := K') hq1
    rw [show ug W 0 e' 0 = e' from rfl, show ug W 0 e' 1 = W 1 from rfl, show ug W 0 e' 2 = W 2 from rfl, show ug W 0 e' 3 = W 3 from rfl, show ug W 0 e' 4 = W 4 from rfl, show ug W 0 e' 5 = W 5 from rfl, show ug W 0 e' 6 = W 6 from rfl, show ug W 0 e' 7 = W 7 from rfl, show ug W 0 e' 8 = W 8 from rfl, show ug W 0 e' 9 = W 9 from rfl] at p2
    rw [ek 1 (by decide), ek 2 (by decide), ek 3 (by decide), ek 4 (by decide), ek 5 (by decide), ek 6 (by decide), ek 7 (by decide), ek 8 (by decide), ek 9 (by decide)] at p2
    rcases hgr with ⟨g1, g2⟩ | ⟨g1, g2, g3⟩
    · rw [g2, ek 0 (by decide)] at p2
      unfold GW
      rw [g1] at p2 ⊢
      omega
    · obtain ⟨u1, u2⟩ := pw_up hC.2.2.1.2.1 g2
      have z1 : am_sz K' = am_sz K + 8 ^ g 2 := by rw [g1, am_sz_app]; rfl
      have z2 : K'.length = K.length + 1 := by rw [g1, List.length_append]; rfl
      rw [g3] at p2
      unfold GW
      omega
  · rw [ug]
    by_cases c : k = 0
    · rw [if_pos c, c]; exact he
    · rw [if_neg c]; exact Or.inl rfl
  · rcases hv' with h | ⟨h, _⟩ <;> omega
/-- a search among all -/
theorem y_ex (d : Nat) {mv a : Nat} {z : Option Nat} (hM : MD ρ r g m W v i l q K) (hz : ∀ zz, z = some zz → zz < 16) (ha : a < 4096) (hva : VS g a) (hmv : mv < 16) : ∃ i' l' q' K' W' n L κ pb, am_cl (d + 7) mSearch_explore [.ref 27, .int (nI a), .int (nI mv), .int (vW z)] (i, l, rX q, kX K) = some (some (.int (i' 27 5)), (i', l', rX q', kX K')) ∧ MD ρ r g m W' v i' l' q' K' ∧ GFx W i i' l l' q q' K K' ∧ MQx K W W' ∧ SC (W' 1) (W' 2) n q' K' ∧ SR g mv a v z (W' 1) (W' 2) n L κ pb i' := by
  obtain ⟨hC, hG, ⟨n0, hS⟩, hR, hFo, ⟨hW, hO⟩, hN⟩ := hM
  have d1 : W 0 ≠ W 1 := fun z => by have := hO 0 1 (by decide) (by decide) z; omega
  have d2 : W 0 ≠ W 2 := fun z => by have := hO 0 2 (by decide) (by decide) z; omega
  obtain ⟨i', l', q', K', cm', qu', n, L, κ, pb, e1, hSC, hSR, hGA, hFK, hcq, hgr⟩ := y_explore d hC.2.2.1 hC.2.1 (hN 0 (by decide)) (hN 1 (by decide)) (hN 2 (by decide)) hG hS d1 d2 hz ha hva hmv
  have hke : kK K (W 0) = 100 := hG.2.2.2.2.2.1.2.1
  have hlt := wkc_lt hR hFo ⟨n0, hS.1⟩ hke
  have hin : ∀ w, w ∈ [W 0, W 1, W 2] → ∃ k, k < 3 ∧ w = W k := fun w hw => by
    simp only [List.mem_cons, List.not_mem_nil, or_false] at hw
    rcases hw with h | h | h
    · exact ⟨0, by decide, h⟩
    · exact ⟨1, by decide, h⟩
    · exact ⟨2, by decide, h⟩
  have hC' : CV ρ r g m i' l' q' K' := CV_fk hFK rfl rfl rfl rfl (fun w hw => by obtain ⟨k, hk, rfl⟩ := hin w hw; exact hN k (by omega)) (fun w hw => by obtain ⟨k, hk, rfl⟩ := hin w hw; exact hW k (by omega)) hC
  obtain ⟨W', hW'⟩ : ∃ W', W' = ug (ug W 1 cm') 2 qu' := ⟨_, rfl⟩
  have w1 : W' 1 = cm' := by rw [hW']; rfl
  have w2 : W' 2 = qu' := by rw [hW']; rfl
  have w0 : ∀ k, k ≠ 1 → k ≠ 2 → W' k = W k := fun k h1 h2 => by rw [hW', ug, if_neg h2, ug, if_neg h1]
  have hQ : ∀ k, k < 10 → W' k = W k ∨ 58 + K.length ≤ W' k := fun k hk => by
    by_cases c1 : k = 1
    · rw [c1, w1]; rcases hcq with h | h
      · exact Or.inl h.1
      · exact Or.inr h.1
    · by_cases c2 : k = 2
      · rw [c2, w2]; rcases hcq with h | h
        · exact Or.inl h.2
        · exact Or.inr h.2
      · exact Or.inl (w0 k c1 c2)
  have hl4 : l' (W 4) = l (W 4) := (hFK.2 (W 4) (hlt 4 (by decide))).2.1 rfl (nc_of (fun w hw z => by
    obtain ⟨k, hk, rfl⟩ := hin w hw
    have := hO k 4 (by omega) (by decide) z
    omega))
  have hRw : XRw W' l' q' K' := by
    have := XRw_fk hFK rfl hl4 hR
    unfold XRw at this ⊢
    rw [w0 3 (by decide) (by decide), w0 4 (by decide) (by decide), w0 5 (by decide) (by decide), w0 6 (by decide) (by decide)]; exact this
  have hFo' : XFo W' q' K' := by
    have := XFo_fk hFK rfl hFo
    unfold XFo at this ⊢
    rw [w0 7 (by decide) (by decide), w0 8 (by decide) (by decide), w0 9 (by decide) (by decide)]; exact this
  have hcq' : cm' ≠ qu' := hSC.2.1.2.2
  refine ⟨i', l', q', K', W', n, L, κ, pb, e1, ⟨hC', ?_, ⟨n, ?_⟩, hRw, hFo', ⟨fun k hk => ?_, fun a b ha hb hab => ?_⟩, fun k hk => ?_⟩, ?_, MQx_s hQ, by rw [w1, w2]; exact hSC, by rw [w1, w2]; exact hSR⟩
  · rw [w0 0 (by decide) (by decide)]; exact hGA
  · rw [w1, w2]
    exact ⟨hSC, ⟨L, hSR.1, fun _ => ⟨a, mv, z, κ, pb, ha, hmv, hz, hSR⟩⟩, Or.inr ⟨v, Nat.le_refl _, hSR.2.2.1.2.2.2⟩⟩
  · by_cases c1 : k = 1
    · rw [c1, w1]; exact hSC.2.1.1
    · by_cases c2 : k = 2
      · rw [c2, w2]; exact hSC.2.1.2.1
      · rw [w0 k c1 c2]; exact hW k hk
  · have key : ∀ k, k < 10 → k ≠ 1 → k ≠ 2 → W k ≠ cm' ∧ W k ≠ qu' := fun k hk h1 h2 => by
      have hl := hlt k hk
      rcases hcq with h | h
      · exact ⟨fun z => h1 (hO k 1 hk (by decide) (z.trans h.1)), fun z => h2 (hO k 2 hk (by decide) (z.trans h.2))⟩
      · exact ⟨by omega, by omega⟩
    by_cases a1 : a = 1
    · by_cases b1 : b = 1
      · omega
      · by_cases b2 : b = 2
        · rw [a1, b2, w1, w2] at hab; exact absurd hab hcq'
        · rw [a1, w1, w0 b b1 b2] at hab; exact absurd hab.symm (key b hb b1 b2).1
    · by_cases a2 : a = 2
      · by_cases b1 : b = 1
        · rw [a2, b1, w1, w2] at hab; exact absurd hab.symm hcq'
        · by_cases b2 : b = 2
          · omega
          · rw [a2, w2, w0 b b1 b2] at hab; exact absurd hab.symm (key b hb b1 b2).2
      · by_cases b1 : b = 1
        · rw [b1, w1, w0 a a1 a2] at hab; exact absurd hab (key a ha a1 a2).1
        · by_cases b2 : b = 2
          · rw [b2, w2, w0 a a1 a2] at hab; exact absurd hab (key a ha a1 a2).2
          · rw [w0 a a1 a2, w0 b b1 b2] at hab; exact hO a b ha hb hab
  · rcases hQ k hk with h | h
    · rw [h]; exact RNc_fk hFK rfl hC.2.1 (hN k hk)
    · exact RNc_fk hFK rfl hC.2.1 (RNc_new hC.2.1 h)
  · refine GFx_of hFK rfl rfl rfl (fun w hw => by obtain ⟨k, hk, rfl⟩ := hin w hw; exact ⟨k, by omega, rfl⟩) ?_
    have hq0 : QW W q := ⟨hG.2.2.1, hS.1.1, hR.1, hFo.1⟩
    have hq1 : QW W' q' := ⟨by rw [w0 0 (by decide) (by decide)]; exact hGA.2.2.1, by rw [w1, w2]; exact hSC.1, hRw.1, hFo'.1⟩
    have ek : ∀ k, k < 10 → lK K' (W k) = lK K (W k) := fun k hk => (kd_fk hFK (hlt k hk)).2
    have p1 := PHI_q (K := K) hq0
    have p2 := PHI_q (K := K') hq1
    rw [w1, w2, w0 0 (by decide) (by decide), w0 3 (by decide) (by decide), w0 4 (by decide) (by decide), w0 5 (by decide) (by decide), w0 6 (by decide) (by decide), w0 7 (by decide) (by decide), w0 8 (by decide) (by decide), w0 9 (by decide) (by decide), ek 0 (by decide), ek 3 (by decide), ek 4 (by decide), ek 5 (by decide), ek 6 (by decide), ek 7 (by decide), ek 8 (by decide), ek 9 (by decide), hSC.2.2.2.1, hSC.2.2.2.2.1] at p2
    rw [hS.1.2.2.2.1, hS.1.2.2.2.2.1] at p1
    rcases hgr with ⟨g1, g2⟩ | ⟨g1, g2, g3⟩
    · unfold GW
      rw [g2] at p2
      rw [g1] at p2 ⊢
      omega
    · obtain ⟨u1, u2⟩ := pw_up hC.2.2.1.2.1 g2
      have z1 : am_sz K' = am_sz K + 8 ^ g 2 + 8 ^ g 2 := by rw [g1, am_sz_app, am_sz_app]; rfl
      have z2 : K'.length = K.length + 1 + 1 := by rw [g1, List.length_append, List.length_append]; rfl
      rw [g3] at p2
      unfold GW
      omega
end
