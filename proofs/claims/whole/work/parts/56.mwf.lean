/-! WHAT STAYS: the river's people after deeds -/
/-- places, strengths, depths, as they can be -/
def WC (g w : Nat → Nat) : Prop := (∀ p, p < 4 → w p ≤ g 1 + 1) ∧ (∀ p, p < 4 → w (4 + p) ≤ 9) ∧ (∀ s, s < 6 → w (8 + s) ≤ 9) ∧ (∀ p q, p < 4 → q < 4 → p ≠ q → sSpot g (w p) = true → w p ≠ w q) ∧ ∀ p, g 2 ≤ p → p < 4 → w p = 0
theorem LW_cong {g g' : Nat → Nat} {law : Nat} (hl : law < 2) (h : LW g law) (hs : ∀ j, (j < 18 ∨ 173 ≤ j) → g' j = g j) : LW g' law := by
  have e4 : g' (4 + law) = g (4 + law) := hs _ (by omega)
  have e6 : g' (6 + law) = g (6 + law) := hs _ (by omega)
  have e8 : g' (8 + law) = g (8 + law) := hs _ (by omega)
  have ec : cdl g' law = cdl g law := by
    funext k
    unfold cdl
    rw [e6]
    exact hs _ (by omega)
  unfold LW
  rw [e4, e6, e8, ec]
  exact h
theorem WG_cur {g : Nat → Nat} (h : WG g) : WC g (gCur g) := by
  obtain ⟨⟨h1', h1⟩, h2, h3, hR, hF, hP, hSt, hD, hL0, hL1, hV⟩ := h
  have hd := dg_sNow hP
  refine ⟨fun p hp => ?_, fun p hp => ?_, fun s hs => ?_, fun p q hp hq hpq => ?_, fun p hp hp4 => ?_⟩
  · show g (18 + p) ≤ _
    rw [← hd p hp]; exact hV.1 p hp
  · show g (18 + (4 + p)) ≤ 9
    rw [show 18 + (4 + p) = 22 + p by omega]; exact hSt p hp
  · show g (18 + (8 + s)) ≤ 9
    rw [show 18 + (8 + s) = 26 + s by omega]; exact hD s hs
  · show sSpot g (g (18 + p)) = true → g (18 + p) ≠ g (18 + q)
    rw [← hd p hp, ← hd q hq]; exact hV.2.1 p q hp hq hpq
  · show g (18 + p) = 0
    rw [← hd p hp4]; exact hV.2.2 p hp hp4
theorem WG_of {g g' : Nat → Nat} (h : WG g) (hs : ∀ j, (j < 18 ∨ 173 ≤ j) → g' j = g j) (hc : WC g (gCur g')) : WG g' := by
  obtain ⟨⟨h1', h1⟩, h2, h3, hR, hF, hP, hSt, hD, hL0, hL1, hV⟩ := h
  obtain ⟨c1, c2, c3, c4', c5⟩ := hc
  have e1 := hs 1 (by omega)
  have e2 := hs 2 (by omega)
  have e3 := hs 3 (by omega)
  have hP' : ∀ p, p < 4 → g' (18 + p) < 8 := fun p hp => by have : g' (18 + p) ≤ g 1 + 1 := c1 p hp; omega
  have hd := dg_sNow hP'
  have es : ∀ x, sSpot g' x = sSpot g x := fun x => by unfold sSpot; rw [e1]
  refine ⟨by rw [e1]; exact ⟨h1', h1⟩, by rw [e2]; exact h2, by rw [e3]; exact h3, fun p hp => by rw [hs _ (by omega)]; exact hR p hp, fun p hp => by rw [hs _ (by omega)]; exact hF p hp, hP', fun p hp => ?_, fun s hs => ?_, LW_cong (by decide) hL0 hs, LW_cong (by decide) hL1 hs, fun p hp => ?_, fun p q hp hq hpq => ?_, fun p hp hp4 => ?_⟩
  · have : g' (18 + (4 + p)) ≤ 9 := c2 p hp
    rw [show 18 + (4 + p) = 22 + p by omega] at this; exact this
  · have : g' (18 + (8 + s)) ≤ 9 := c3 s hs
    rw [show 18 + (8 + s) = 26 + s by omega] at this; exact this
  · rw [hd p hp, e1]; exact c1 p hp
  · rw [hd p hp, hd q hq, es]; exact c4' p q hp hq hpq
  · rw [hd p hp4]; exact c5 p (by rw [← e2]; exact hp) hp4
/-- a deed, by its number -/
def dWhy (g : Nat → Nat) (n : Nat) : Nat := if n < 100 then sWhy g (nI (n / 10)) (nI (n % 10)) else if n < 110 then 0 else if n < 200 then 1 else if n < 300 then (if n % 100 / 10 < g 2 then 0 else 1) else if n < 400 then (if 1 ≤ n % 100 / 10 ∧ n % 100 / 10 ≤ g 1 then 0 else 1) else 1
def dDo (g : Nat → Nat) (n : Nat) : Nat → Nat := if n < 100 then ug g (18 + n / 10) (n % 10) else if n < 200 then gStand g (sFl g (n - 100) (sNow g 4)) else if n < 300 then ug g (22 + n % 100 / 10) (n % 10) else ug g (25 + n % 100 / 10) (n % 10)
theorem sWhy_0 {g : Nat → Nat} {x y : Int32} (h : sWhy g x y = 0) : ∃ p t, p < g 2 ∧ t < g 1 + 2 ∧ x = nI p ∧ y = nI t ∧ (p < 2147483648 → t < 2147483648 → sWho g (sNow g 4) t = none ∧ g (18 + p) ≠ t) := by
  unfold sWhy at h
  by_cases hxy : iB x (g 2) = true ∧ iB y (g 1 + 2) = true
  · rw [if_pos hxy] at h
    obtain ⟨p, hp, rfl⟩ := iB_T hxy.1
    obtain ⟨t, ht, rfl⟩ := iB_T hxy.2
    refine ⟨p, t, hp, ht, rfl, rfl, fun hp' ht' => ?_⟩
    rw [q_ix hp', q_ix ht'] at h
    by_cases hc : g (18 + p) = t ∨ sWho g (sNow g 4) t ≠ none
    · rw [if_pos hc] at h; cases h
    · refine ⟨?_, fun z => hc (Or.inl z)⟩
      apply Classical.byContradiction
      exact fun z => hc (Or.inr z)
  · rw [if_neg hxy] at h; cases h
theorem sWho_none {g : Nat → Nat} {a x : Nat} (h : sWho g a x = none) (hs : sSpot g x = true) : ∀ q, q < g 2 → dg a q ≠ x := by
  intro q hq e
  unfold sWho at h
  rw [if_pos hs] at h
  have := ff_none h q (by omega) (by omega)
  simp [e] at this
theorem WC_place {g w : Nat → Nat} {p t : Nat} (h : WC g w) (h2 : g 2 ≤ 4) (hp : p < g 2) (ht : t ≤ g 1 + 1) (hf : ∀ q, q < 4 → q ≠ p → sSpot g t = true → w q ≠ t) : WC g (ug w p t) := by
  obtain ⟨c1, c2, c3, c4', c5⟩ := h
  have hp4 : p < 4 := by omega
  refine ⟨fun q hq => ?_, fun q hq => ?_, fun s hs => ?_, fun q r hq hr hqr hsp => ?_, fun q h1 h2 => ?_⟩
  · unfold ug; split
    · exact ht
    · exact c1 q hq
  · unfold ug; rw [if_neg (by omega)]; exact c2 q hq
  · unfold ug; rw [if_neg (by omega)]; exact c3 s hs
  · unfold ug at hsp ⊢
    by_cases e1 : q = p
    · rw [if_pos e1] at hsp
      rw [if_pos e1, if_neg (by omega)]
      exact fun z => hf r hr (by omega) hsp z.symm
    · rw [if_neg e1] at hsp
      rw [if_neg e1]
      by_cases e2 : r = p
      · rw [if_pos e2]
        intro z
        rw [z] at hsp
        exact hf q hq e1 hsp z
      · rw [if_neg e2]; exact c4' q r hq hr hqr hsp
  · unfold ug; rw [if_neg (by omega)]; exact c5 q h1 h2
theorem dg_fl {g : Nat → Nat} {w : Nat} (h2 : g 2 ≤ 4) : ∀ n a, a < 4096 → ∀ p, p < 4 → dg (fl g w n a).1 p = dg a p ∨ (dg (fl g w n a).1 p = 0 ∧ p < g 2 ∧ sSpot g (dg a p) = true)
  | 0, a, _, p, _ => Or.inl rfl
  | n + 1, a, ha, p, hp => by
    rw [fl]
    by_cases h0 : sSw g w a = 0
    · rw [if_pos h0]; exact Or.inl rfl
    · rw [if_neg h0]
      have hs := dg_sSend ha (m := sSw g w a) (g 2) h2 p hp
      have ih := dg_fl h2 (w := w) n _ (sSend_lt (m := sSw g w a) ha (g 2) h2) p hp
      by_cases hc : p < g 2 ∧ (sSw g w a).testBit p = true
      · rw [if_pos hc] at hs
        have hsp : sSpot g (dg a p) = true := by
          have := hc.2
          unfold sSw at this
          rw [bs_bit, Bool.and_eq_true, Bool.and_eq_true] at this
          exact this.2.1
        right
        rcases ih with ih | ih
        · exact ⟨by rw [ih, hs], hc.1, hsp⟩
        · exact ⟨ih.1, hc.1, hsp⟩
      · rw [if_neg hc] at hs
        rw [hs] at ih
        exact ih
theorem WC_ug {g w : Nat → Nat} {k n : Nat} (h : WC g w) (hk : 4 ≤ k) (hn : n ≤ 9) : WC g (ug w k n) := by
  obtain ⟨c1, c2, c3, c4', c5⟩ := h
  refine ⟨fun q hq => ?_, fun q hq => ?_, fun s hs => ?_, fun q r hq hr hqr hsp => ?_, fun q h1 h2 => ?_⟩
  · unfold ug; rw [if_neg (by omega)]; exact c1 q hq
  · unfold ug; split
    · exact hn
    · exact c2 q hq
  · unfold ug; split
    · exact hn
    · exact c3 s hs
  · unfold ug at hsp ⊢; rw [if_neg (by omega)] at hsp; rw [if_neg (by omega), if_neg (by omega)]; exact c4' q r hq hr hqr hsp
  · unfold ug; rw [if_neg (by omega)]; exact c5 q h1 h2
theorem WC_flood {g w : Nat → Nat} {wa a : Nat} (h : WC g w) (h2 : g 2 ≤ 4) (ha : a < 4096) (hw : ∀ p, p < 4 → w p = dg a p) : WC g (fun k => if k < 4 then dg (sFl g wa a) k else w k) := by
  obtain ⟨c1, c2, c3, c4', c5⟩ := h
  have hd : ∀ p, p < 4 → dg (sFl g wa a) p = w p ∨ (dg (sFl g wa a) p = 0 ∧ p < g 2 ∧ sSpot g (w p) = true) := fun p hp => by
    rw [hw p hp]; exact dg_fl h2 4 a ha p hp
  refine ⟨fun q hq => ?_, fun q hq => ?_, fun s hs => ?_, fun q r hq hr hqr hsp => ?_, fun q h1 h2 => ?_⟩
  all_goals (try dsimp only)
  · rw [if_pos hq]
    rcases hd q hq with e | e
    · rw [e]; exact c1 q hq
    · rw [e.1]; omega
  · rw [if_neg (by omega)]; exact c2 q hq
  · rw [if_neg (by omega)]; exact c3 s hs
  · dsimp only at hsp
    rw [if_pos hq] at hsp
    rw [if_pos hq, if_pos hr]
    rcases hd q hq with e | e
    · rw [e] at hsp ⊢
      rcases hd r hr with e2 | e2
      · rw [e2]; exact c4' q r hq hr hqr hsp
      · rw [e2.1]
        intro z
        rw [z, sSpot_0] at hsp
        cases hsp
    · rw [e.1, sSpot_0] at hsp
      cases hsp
  · rw [if_pos h2]
    rcases hd q h2 with e | e
    · rw [e]; exact c5 q h1 h2
    · exact e.1
theorem WG_do {g : Nat → Nat} {n : Nat} (h : WG g) (h0 : dWhy g n = 0) : WG (dDo g n) := by
  have hc := WG_cur h
  have h' := h
  obtain ⟨⟨h1', h1⟩, h2, h3, hR, hF, hP, hSt, hD, hL0, hL1, hV⟩ := h
  have hn4 := sNow_lt g hP 4 (by decide)
  have hd := dg_sNow hP
  unfold dWhy at h0
  unfold dDo
  by_cases n1 : n < 100
  · rw [if_pos n1] at h0 ⊢
    obtain ⟨p, t, hp, ht, e1, e2, hh⟩ := sWhy_0 h0
    rw [nI_eq (by omega) (by omega)] at e1 e2
    obtain ⟨hw, hne⟩ := hh (by omega) (by omega)
    rw [e1, e2]
    refine WG_of h' (fun j hj => if_neg (by omega)) ?_
    have e : gCur (ug g (18 + p) t) = ug (gCur g) p t := by
      funext k
      unfold gCur ug
      by_cases e : k = p
      · rw [if_pos e, if_pos (by omega)]
      · rw [if_neg e, if_neg (by omega)]
    rw [e]
    refine WC_place hc h2 hp (by omega) (fun q hq hqp hs => ?_)
    by_cases hq2 : q < g 2
    · have := sWho_none hw hs q hq2
      rw [hd q hq] at this
      exact this
    · intro z
      have h5 := hc.2.2.2.2 q (by omega) hq
      rw [h5] at z
      rw [← z, sSpot_0] at hs
      cases hs
  rw [if_neg n1] at h0 ⊢
  by_cases n2 : n < 200
  · rw [if_pos n2]
    have e : gCur (gStand g (sFl g (n - 100) (sNow g 4))) = fun k => if k < 4 then dg (sFl g (n - 100) (sNow g 4)) k else gCur g k := by
      funext k
      unfold gCur gStand
      by_cases e : k < 4
      · rw [if_pos e, if_pos (by omega), Nat.add_sub_cancel_left]
      · rw [if_neg e, if_neg (by omega)]
    refine WG_of h' (fun j hj => if_neg (by omega)) ?_
    rw [e]
    exact WC_flood hc h2 hn4 (fun p hp => (hd p hp).symm)
  rw [if_neg n2] at ⊢
  rw [if_neg (by omega), if_neg n2] at h0
  by_cases n3 : n < 300
  · rw [if_pos n3] at h0 ⊢
    refine WG_of h' (fun j hj => if_neg (by omega)) ?_
    have e : gCur (ug g (22 + n % 100 / 10) (n % 10)) = ug (gCur g) (4 + n % 100 / 10) (n % 10) := by
      funext k
      unfold gCur ug
      by_cases e : k = 4 + n % 100 / 10
      · rw [if_pos e, if_pos (by omega)]
      · rw [if_neg e, if_neg (by omega)]
    rw [e]
    exact WC_ug hc (by omega) (by omega)
  · rw [if_neg n3] at h0 ⊢
    by_cases n4 : n < 400
    · rw [if_pos n4] at h0
      by_cases hs : 1 ≤ n % 100 / 10 ∧ n % 100 / 10 ≤ g 1
      · refine WG_of h' (fun j hj => if_neg (by omega)) ?_
        have e : gCur (ug g (25 + n % 100 / 10) (n % 10)) = ug (gCur g) (7 + n % 100 / 10) (n % 10) := by
          funext k
          unfold gCur ug
          by_cases e : k = 7 + n % 100 / 10
          · rw [if_pos e, if_pos (by omega)]
          · rw [if_neg e, if_neg (by omega)]
        rw [e]
        exact WC_ug hc (by omega) (by omega)
      · rw [if_neg hs] at h0; cases h0
    · rw [if_neg n4] at h0; cases h0
