/-! WHAT STAYS: the whole state after every call -/
theorem WC_cg {g g' w w' : Nat → Nat} (h : WC g w) (h1 : g' 1 = g 1) (h2 : g' 2 = g 2) (hw : ∀ k, k < 14 → w' k = w k) : WC g' w' := by
  obtain ⟨c1, c2, c3, c4', c5⟩ := h
  have es : ∀ x, sSpot g' x = sSpot g x := fun x => by unfold sSpot; rw [h1]
  refine ⟨fun p hp => ?_, fun p hp => ?_, fun s hs => ?_, fun p q hp hq hpq => ?_, fun p hp hp4 => ?_⟩
  · rw [hw p (by omega), h1]; exact c1 p hp
  · rw [hw _ (by omega)]; exact c2 p hp
  · rw [hw _ (by omega)]; exact c3 s hs
  · rw [hw p (by omega), hw q (by omega), es]; exact c4' p q hp hq hpq
  · rw [hw p (by omega)]; exact c5 p (by rw [← h2]; exact hp) hp4
theorem WG_cg {g g' : Nat → Nat} (h : WG g) (hs : ∀ j, j < 1074 → (j < 32 ∨ 173 ≤ j) → g' j = g j) : WG g' := by
  have hc := WG_cur h
  obtain ⟨⟨h1', h1⟩, h2, h3, hR, hF, hP, hSt, hD, hL0, hL1, hV⟩ := h
  have e1 := hs 1 (by omega) (by omega)
  have e2 := hs 2 (by omega) (by omega)
  have e3 := hs 3 (by omega) (by omega)
  have hP' : ∀ p, p < 4 → g' (18 + p) < 8 := fun p hp => by rw [hs _ (by omega) (by omega)]; exact hP p hp
  have hd := dg_sNow hP
  have hd' := dg_sNow hP'
  have es : ∀ x, sSpot g' x = sSpot g x := fun x => by unfold sSpot; rw [e1]
  have law : ∀ m, m < 2 → LW g m → LW g' m := by
    intro m hm ⟨b1, b2⟩
    unfold LW
    rw [hs (4 + m) (by omega) (by omega)]
    refine ⟨b1, fun z => ?_⟩
    obtain ⟨d1, d2, T, t1, t2, t3⟩ := b2 z
    rw [hs (6 + m) (by omega) (by omega), hs (8 + m) (by omega) (by omega)]
    have ec : ∀ k, k < g (8 + m) → cdl g' m k = cdl g m k := fun k hk => by
      unfold cdl
      rw [hs (6 + m) (by omega) (by omega), hs _ (by omega) (by omega)]
    exact ⟨d1, fun k hk => by rw [ec k hk]; exact d2 k hk, T, t1, t2, fun k hk => by rw [ec k hk]; exact t3 k hk⟩
  refine ⟨by rw [e1]; exact ⟨h1', h1⟩, by rw [e2]; exact h2, by rw [e3]; exact h3, fun p hp => by rw [hs _ (by omega) (by omega)]; exact hR p hp, fun p hp => by rw [hs _ (by omega) (by omega)]; exact hF p hp, hP', fun p hp => by rw [hs _ (by omega) (by omega)]; exact hSt p hp, fun s h6 => by rw [hs _ (by omega) (by omega)]; exact hD s h6, law 0 (by decide) hL0, law 1 (by decide) hL1, fun p hp => ?_, fun p q hp hq hpq => ?_, fun p hp hp4 => ?_⟩
  · rw [hd' p hp, hs _ (by omega) (by omega), e1, ← hd p hp]; exact hV.1 p hp
  · rw [hd' p hp, hd' q hq, hs (18 + p) (by omega) (by omega), hs (18 + q) (by omega) (by omega), es, ← hd p hp, ← hd q hq]; exact hV.2.1 p q hp hq hpq
  · rw [hd' p hp4, hs _ (by omega) (by omega), ← hd p hp4]; exact hV.2.2 p (by rw [← e2]; exact hp) hp4
/-- the past -/
def PO (g : Nat → Nat) : Prop := g 32 ≤ 10 ∧ ∀ n, n < g 32 → WC g (fun k => g (33 + 14 * n + k))
def gIm (g : Nat → Nat) (x : Nat) : Nat → Nat := fun j => g (1074 * (x + 1) + j)
def SI (σ : St) : Prop := WG σ.1 ∧ PO σ.1 ∧ (∀ x, x < 2 → σ.2.1 x = true → WG (gIm σ.1 x)) ∧ WT σ ∧ σ.2.2.2.1 ≤ 900 ∧ ∀ k, k < σ.2.2.2.1 → σ.2.2.1 k < 256
theorem gNote_e {g w : Nat → Nat} (h : g 32 ≤ 10) : (∀ j, (j < 32 ∨ 173 ≤ j) → gNote g w j = g j) ∧ gNote g w 32 = (if g 32 = 10 then 10 else g 32 + 1) ∧ (∀ n k, n + 1 < gNote g w 32 → k < 14 → gNote g w (33 + 14 * n + k) = if g 32 = 10 then g (33 + 14 * (n + 1) + k) else g (33 + 14 * n + k)) ∧ ∀ n k, n + 1 = gNote g w 32 → k < 14 → gNote g w (33 + 14 * n + k) = w k := by
  have e32 : gNote g w 32 = (if g 32 = 10 then 10 else g 32 + 1) := by
    unfold gNote gPush gShift
    by_cases h10 : g 32 = 10
    · simp [h10]
    · simp [h10]
  have es : gShift g 32 = if g 32 = 10 then 9 else g 32 := by
    unfold gShift
    by_cases h10 : g 32 = 10
    · simp [h10]
    · simp [h10]
  have e : ∀ j, gNote g w j = if j = 32 then gShift g 32 + 1 else if 33 + 14 * gShift g 32 ≤ j ∧ j < 33 + 14 * gShift g 32 + 14 then w (j - (33 + 14 * gShift g 32)) else gShift g j := fun _ => rfl
  have e' : ∀ j, j ≠ 32 → gShift g j = if g 32 = 10 then (if 33 ≤ j ∧ j < 159 then g (j + 14) else g j) else g j := fun j hj => by unfold gShift; rw [if_neg hj]
  generalize hG : gShift g 32 = G at *
  have hG9 : G ≤ 9 := by
    by_cases h10 : g 32 = 10
    · rw [if_pos h10] at es; omega
    · rw [if_neg h10] at es; omega
  refine ⟨fun j hj => ?_, e32, fun n k hn hk => ?_, fun n k hn hk => ?_⟩
  · rw [e, if_neg (by omega), if_neg (by omega), e' j (by omega)]
    by_cases h10 : g 32 = 10
    · rw [if_pos h10, if_neg (by omega)]
    · rw [if_neg h10]
  · rw [e32] at hn
    by_cases h10 : g 32 = 10
    · rw [if_pos h10] at hn es ⊢
      rw [e, if_neg (by omega), if_neg (by omega), e' _ (by omega), if_pos h10, if_pos (by omega)]
      congr 1; omega
    · rw [if_neg h10] at hn es ⊢
      rw [e, if_neg (by omega), if_neg (by omega), e' _ (by omega), if_neg h10]
  · rw [e32] at hn
    have hnG : n = G := by
      by_cases h10 : g 32 = 10
      · rw [if_pos h10] at hn es; omega
      · rw [if_neg h10] at hn es; omega
    subst hnG
    rw [e, if_neg (by omega), if_pos (by omega)]
    congr 1; omega
/-- a deed is done and noted -/
theorem SI_note {σ : St} {g1 : Nat → Nat} (h : SI σ) (h1 : WG g1) (ho : ∀ j, (j < 18 ∨ 32 ≤ j) → g1 j = σ.1 j) : SI (gNote g1 (gCur σ.1), σ.2) := by
  obtain ⟨s1, ⟨s2, s2'⟩, s3, s4, s5, s6⟩ := h
  have e32 := ho 32 (by omega)
  obtain ⟨n1, n2, n3, n4⟩ := gNote_e (g := g1) (w := gCur σ.1) (by omega)
  have q1 : gNote g1 (gCur σ.1) 1 = σ.1 1 := by rw [n1 1 (by omega), ho 1 (by omega)]
  have q2 : gNote g1 (gCur σ.1) 2 = σ.1 2 := by rw [n1 2 (by omega), ho 2 (by omega)]
  refine ⟨WG_cg h1 (fun j _ hj => n1 j hj), ⟨?_, fun n hn => ?_⟩, fun x hx hh => ?_, s4, s5, s6⟩
  · show gNote g1 (gCur σ.1) 32 ≤ 10
    rw [n2]; split <;> omega
  · have hn : n < gNote g1 (gCur σ.1) 32 := hn
    show WC (gNote g1 (gCur σ.1)) (fun k => gNote g1 (gCur σ.1) (33 + 14 * n + k))
    by_cases hl : n + 1 = gNote g1 (gCur σ.1) 32
    · exact WC_cg (WG_cur s1) q1 q2 (fun k hk => n4 n k hl hk)
    · have hn3 := n3 n
      by_cases h10 : g1 32 = 10
      · rw [if_pos h10] at n2
        refine WC_cg (s2' (n + 1) (by omega)) q1 q2 (fun k hk => ?_)
        rw [hn3 k (by omega) hk, if_pos h10]
        exact ho _ (by omega)
      · rw [if_neg h10] at n2
        refine WC_cg (s2' n (by omega)) q1 q2 (fun k hk => ?_)
        rw [hn3 k (by omega) hk, if_neg h10]
        exact ho _ (by omega)
  · refine WG_cg (s3 x hx hh) (fun j _ _ => ?_)
    show gNote g1 (gCur σ.1) (1074 * (x + 1) + j) = σ.1 (1074 * (x + 1) + j)
    rw [n1 _ (by omega), ho _ (by omega)]
theorem SI_do {σ : St} {n : Nat} (h : SI σ) (h0 : dWhy σ.1 n = 0) : SI (gNote (dDo σ.1 n) (gCur σ.1), σ.2) := SI_note h (WG_do h.1 h0) (fun j hj => dDo_out h.1 h0 hj)
theorem SI_go {σ : St} (x y : Int32) (h : SI σ) : SI (a_go σ x y) := by
  unfold a_go
  by_cases h0 : sWhy σ.1 x y = 0
  · rw [if_pos h0]
    have h0' := h0
    obtain ⟨p, t, hp, ht, rfl, rfl, _⟩ := sWhy_0 h0'
    have g1 := h.1.1.2
    have g2 := h.1.2.1
    have hd : dWhy σ.1 (10 * p + t) = 0 := by
      unfold dWhy
      rw [if_pos (by omega), show (10 * p + t) / 10 = p by omega, show (10 * p + t) % 10 = t by omega]
      exact h0
    have := SI_do h hd
    unfold dDo at this
    rw [if_pos (by omega), show (10 * p + t) / 10 = p by omega, show (10 * p + t) % 10 = t by omega] at this
    rw [nI_clamp (by omega), nI_clamp (by omega)]
    exact this
  · rw [if_neg h0]; exact h
theorem SI_flood {σ : St} (x : Int32) (h : SI σ) : SI (a_flood σ x) := by
  unfold a_flood
  by_cases h0 : iB x 10 = true
  · rw [if_pos h0]
    obtain ⟨w, hw, rfl⟩ := iB_T h0
    have hd : dWhy σ.1 (100 + w) = 0 := by
      unfold dWhy
      rw [if_neg (by omega), if_pos (by omega)]
    have := SI_do h hd
    unfold dDo at this
    rw [if_neg (by omega), if_pos (by omega), Nat.add_sub_cancel_left] at this
    rw [nI_clamp (by omega)]
    exact this
  · rw [if_neg h0]; exact h
theorem SI_strength {σ : St} (x y : Int32) (h : SI σ) : SI (a_strength σ x y) := by
  unfold a_strength
  by_cases h0 : iB x (σ.1 2) = true ∧ iR 0 9 y = true
  · rw [if_pos h0]
    have g2 := h.1.2.1
    obtain ⟨p, hp, rfl⟩ := iB_T h0.1
    obtain ⟨w, _, hw, rfl⟩ := iR_T h0.2
    have hd : dWhy σ.1 (200 + 10 * p + w) = 0 := by
      unfold dWhy
      rw [if_neg (by omega), if_neg (by omega), if_neg (by omega), if_pos (by omega), if_pos (by omega)]
    have := SI_do h hd
    unfold dDo at this
    rw [if_neg (by omega), if_neg (by omega), if_pos (by omega), show (200 + 10 * p + w) % 100 / 10 = p by omega, show (200 + 10 * p + w) % 10 = w by omega] at this
    rw [nI_clamp (by omega), nI_clamp (by omega)]
    exact this
  · rw [if_neg h0]; exact h
theorem SI_depth {σ : St} (x y : Int32) (h : SI σ) : SI (a_depth σ x y) := by
  unfold a_depth
  by_cases h0 : iS σ.1 x = true ∧ iR 0 9 y = true
  · rw [if_pos h0]
    have g1 := h.1.1.2
    obtain ⟨s, hs1, hs2, rfl⟩ := iS_T h0.1
    obtain ⟨w, _, hw, rfl⟩ := iR_T h0.2
    have hd : dWhy σ.1 (300 + 10 * s + w) = 0 := by
      unfold dWhy
      rw [if_neg (by omega), if_neg (by omega), if_neg (by omega), if_neg (by omega), if_pos (by omega), if_pos (by omega)]
    have := SI_do h hd
    unfold dDo at this
    rw [if_neg (by omega), if_neg (by omega), if_neg (by omega), show (300 + 10 * s + w) % 100 / 10 = s by omega, show (300 + 10 * s + w) % 10 = w by omega] at this
    rw [nI_clamp (by omega), nI_clamp (by omega)]
    exact this
  · rw [if_neg h0]; exact h
theorem SI_perform {σ : St} (x : Int32) (h : SI σ) : SI (a_perform σ x) := by
  unfold a_perform
  split
  · obtain ⟨t1, t2, _⟩ := tl_ok (f := fun k => σ.2.2.2.2.2.2.2.2 (40 * x.toNatClampNeg + k)) (σ.2.2.2.2.2.2.2.1 x.toNatClampNeg) 0 σ.1 h.1
    exact SI_note h t1 t2
  · exact h
theorem SI_season {σ : St} (x y : Int32) (h : SI σ) : SI (a_season σ x y) := by
  unfold a_season
  split
  · obtain ⟨t1, t2, _⟩ := ssn_ok y.toNatClampNeg x σ.1 0 h.1
    exact SI_note h t1 t2
  · exact h
theorem SI_undo {σ : St} (x : Int32) (h : SI σ) : SI (a_undo σ x) := by
  unfold a_undo
  by_cases h0 : iR 1 10 x = true ∧ x.toNatClampNeg ≤ σ.1 32
  · rw [if_pos h0]
    obtain ⟨n, hn1, hn2, rfl⟩ := iR_T h0.1
    have hn3 := h0.2
    rw [nI_clamp (by omega)] at hn3 ⊢
    obtain ⟨s1, ⟨s2, s2'⟩, s3, s4, s5, s6⟩ := h
    have e : ∀ j, gBack σ.1 n j = if j = 32 then σ.1 32 - n else if 18 ≤ j ∧ j < 32 then σ.1 (33 + 14 * (σ.1 32 - n) + (j - 18)) else σ.1 j := fun _ => rfl
    have eo : ∀ j, (j < 18 ∨ 33 ≤ j) → gBack σ.1 n j = σ.1 j := fun j hj => by rw [e, if_neg (by omega), if_neg (by omega)]
    have e32 : gBack σ.1 n 32 = σ.1 32 - n := by rw [e, if_pos rfl]
    refine ⟨?_, ⟨by show gBack σ.1 n 32 ≤ 10; omega, fun m hm => ?_⟩, fun x hx hh => ?_, s4, s5, s6⟩
    · refine WG_of s1 (fun j hj => eo j (by omega)) ?_
      refine WC_cg (s2' (σ.1 32 - n) (by omega)) rfl rfl (fun k hk => ?_)
      show gBack σ.1 n (18 + k) = _
      rw [e, if_neg (by omega), if_pos (by omega), Nat.add_sub_cancel_left]
    · have hm : m < gBack σ.1 n 32 := hm
      exact WC_cg (s2' m (by omega)) (eo 1 (by omega)) (eo 2 (by omega)) (fun k hk => eo _ (by omega))
    · exact WG_cg (s3 x hx hh) (fun j _ _ => eo _ (by omega))
  · rw [if_neg h0]; exact h
theorem SI_feed {σ : St} (a b c d e : Int32) (h : SI σ) : SI (a_feed σ a b c d e) := by
  unfold a_feed
  split
  · rename_i hn
    obtain ⟨s1, s2, s3, s4, s5, s6⟩ := h
    refine ⟨s1, s2, s3, s4, hn, fun k hk => ?_⟩
    have hk : k < σ.2.2.2.1 + 20 := hk
    show (if σ.2.2.2.1 ≤ k ∧ k < σ.2.2.2.1 + 20 then fB a b c d e (k - σ.2.2.2.1) else σ.2.2.1 k) < 256
    split
    · unfold fB; omega
    · exact s6 k (by omega)
  · exact h
theorem SI_image {σ : St} (x : Int32) (h : SI σ) : SI (a_image σ x) := by
  unfold a_image
  split
  · rename_i h0
    obtain ⟨n, _, hn, rfl⟩ := iR_T h0
    rw [nI_clamp (by omega)]
    obtain ⟨s1, ⟨s2, s2'⟩, s3, s4, s5, s6⟩ := h
    have e : ∀ j, gImage σ.1 n j = if 1074 * (n + 1) ≤ j ∧ j < 1074 * (n + 1) + 1074 then σ.1 (j - 1074 * (n + 1)) else σ.1 j := fun _ => rfl
    have el : ∀ j, j < 1074 → gImage σ.1 n j = σ.1 j := fun j hj => by rw [e, if_neg (by omega)]
    refine ⟨WG_cg s1 (fun j hj _ => el j hj), ⟨by show gImage σ.1 n 32 ≤ 10; rw [el 32 (by decide)]; exact s2, fun m hm => ?_⟩, fun x hx hh => ?_, s4, s5, s6⟩
    · have hm : m < gImage σ.1 n 32 := hm
      rw [el 32 (by decide)] at hm
      exact WC_cg (s2' m hm) (el 1 (by decide)) (el 2 (by decide)) (fun k hk => el _ (by omega))
    · by_cases ex : x = n
      · subst ex
        refine WG_cg s1 (fun j hj _ => ?_)
        show gImage σ.1 x (1074 * (x + 1) + j) = σ.1 j
        rw [e, if_pos (by omega), Nat.add_sub_cancel_left]
      · have hh : (decide (x = n) || σ.2.1 x) = true := hh
        rw [decide_eq_false ex, Bool.false_or] at hh
        refine WG_cg (s3 x hx hh) (fun j hj _ => ?_)
        show gImage σ.1 n (1074 * (x + 1) + j) = _
        rw [e, if_neg (by omega)]
        rfl
  · exact h
theorem SI_restore {σ : St} (x : Int32) (h : SI σ) : SI (a_restore σ x) := by
  unfold a_restore
  split
  · rename_i h0
    obtain ⟨n, _, hn, rfl⟩ := iR_T h0.1
    have hh := h0.2
    rw [nI_clamp (by omega)] at hh ⊢
    obtain ⟨s1, ⟨s2, s2'⟩, s3, s4, s5, s6⟩ := h
    have e : ∀ j, gRest σ.1 n j = if j = 32 then 0 else if j < 1074 then σ.1 (1074 * (n + 1) + j) else σ.1 j := fun _ => rfl
    refine ⟨WG_cg (s3 n (by omega) hh) (fun j hj h2 => ?_), ⟨?_, fun m hm => ?_⟩, fun x hx hx2 => ?_, s4, s5, s6⟩
    · show gRest σ.1 n j = _
      rw [e, if_neg (by omega), if_pos hj]; rfl
    · show gRest σ.1 n 32 ≤ 10
      rw [e, if_pos rfl]; decide
    · have hm : m < gRest σ.1 n 32 := hm
      rw [e, if_pos rfl] at hm; omega
    · refine WG_cg (s3 x hx hx2) (fun j hj _ => ?_)
      show gRest σ.1 n (1074 * (x + 1) + j) = _
      rw [e, if_neg (by omega), if_neg (by omega)]; rfl
  · exact h
theorem SI_numbers {σ : St} (x y z : Int32) (h : SI σ) : SI (a_numbers σ x y z) := by
  unfold a_numbers
  split
  · rename_i h0
    obtain ⟨n, _, hn, rfl⟩ := iR_T h0.1
    obtain ⟨m, _, hm, rfl⟩ := iR_T h0.2.1
    obtain ⟨q, _, hq, rfl⟩ := iR_T h0.2.2
    rw [nI_clamp (by omega), nI_clamp (by omega)]
    obtain ⟨s1, s2, s3, s4, s5, s6⟩ := h
    refine ⟨s1, s2, s3, fun t ht => ?_, s5, s6⟩
    obtain ⟨t1, t2⟩ := s4 t ht
    refine ⟨?_, ?_⟩
    · show (if t = n then q else σ.2.2.2.2.2.2.2.1 t) ≤ 40
      split
      · exact hq
      · exact t1
    · show (if t = n then nI m else σ.2.2.2.2.2.2.1 t) = -nI 1 ∨ ∃ s, s < 4 ∧ (if t = n then nI m else σ.2.2.2.2.2.2.1 t) = nI s
      split
      · exact Or.inr ⟨m, by omega, rfl⟩
      · exact t2
  · exact h
theorem SI_write {σ : St} (x y : Int32) (v : Int64) (h : SI σ) : SI (a_write σ x y v) := by
  unfold a_write
  split
  · obtain ⟨s1, s2, s3, s4, s5, s6⟩ := h
    exact ⟨s1, s2, s3, s4, s5, s6⟩
  · exact h
theorem rB_lt {σ : St} (h : SI σ) (k : Nat) : rB σ k < 256 := by
  unfold rB
  split
  · rename_i hk; exact h.2.2.2.2.2 k hk
  · decide
theorem SI_river {σ : St} (x : Int32) (h : SI σ) : SI (a_river σ x) := by
  unfold a_river
  by_cases h0 : iR 0 σ.2.2.2.1 x = true
  · rw [if_pos h0]
    have h5 := h.2.2.2.2.1
    have h0' := h0
    obtain ⟨N, _, hN, rfl⟩ := iR_T h0'
    have hB := rB_lt h
    obtain ⟨s1, ⟨s2, s2'⟩, s3, s4, s5, s6⟩ := h
    by_cases hw : (rP σ (nI N)).1 = 0
    · rw [if_pos hw]
      have er : rP σ (nI N) = rvS (rB σ) N := by unfold rP; rw [nI_clamp (by omega)]
      rw [er] at hw ⊢
      obtain ⟨w1, w2⟩ := WG_riv (g := σ.1) hB (by omega) hw
      refine ⟨w1, ⟨?_, fun m hm => ?_⟩, fun x hx hh => ?_, s4, Nat.zero_le _, fun k hk => absurd hk (Nat.not_lt_zero _)⟩
      · show gRiv σ.1 (rvS (rB σ) N).2.2.2 32 ≤ 10
        omega
      · have hm : m < gRiv σ.1 (rvS (rB σ) N).2.2.2 32 := hm
        omega
      · refine WG_cg (s3 x hx hh) (fun j hj _ => ?_)
        show gRiv σ.1 (rvS (rB σ) N).2.2.2 (1074 * (x + 1) + j) = _
        unfold gRiv
        rw [if_neg (by omega)]; rfl
    · rw [if_neg hw]
      exact ⟨s1, ⟨s2, s2'⟩, s3, s4, Nat.zero_le _, fun k hk => absurd hk (Nat.not_lt_zero _)⟩
  · rw [if_neg h0]; exact h
