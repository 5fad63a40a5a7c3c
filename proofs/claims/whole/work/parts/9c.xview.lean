/-! THE CLASS: what a call sees; frames -/
def Fl (R : List Nat) (l l' : Nat → Nat → Int64) : Prop := ∀ c, R.contains c = false → l' c = l c
def Fq (R : List Nat) (q q' : Nat → Nat → Option Nat) : Prop := ∀ c, R.contains c = false → q' c = q c
def RF : List Nat := [11, 13, 14, 18, 19, 20, 21, 40, 41, 42, 43, 44, 45, 46]
def FG (Ri Rl Rq : List Nat) (i i' : Nat → Nat → Int32) (l l' : Nat → Nat → Int64) (q q' : Nat → Nat → Option Nat) : Prop := Fr Ri i i' ∧ Fl Rl l l' ∧ Fq Rq q q'
theorem sub_c {R R' : List Nat} (hR : R'.all (fun x => R.contains x) = true) {c : Nat} (h : R.contains c = false) : R'.contains c = false := by
  cases hc : R'.contains c with
  | false => rfl
  | true =>
    have hm : c ∈ R' := by simpa using hc
    have := List.all_eq_true.mp hR c hm
    rw [h] at this; cases this
theorem FG_refl (Ri Rl Rq : List Nat) (i : Nat → Nat → Int32) (l : Nat → Nat → Int64) (q : Nat → Nat → Option Nat) : FG Ri Rl Rq i i l l q q := ⟨Fr_refl _ _, fun _ _ => rfl, fun _ _ => rfl⟩
theorem FG_tr {Ri Rl Rq Ri' Rl' Rq' : List Nat} {i i' i'' : Nat → Nat → Int32} {l l' l'' : Nat → Nat → Int64} {q q' q'' : Nat → Nat → Option Nat} (h : FG Ri Rl Rq i i' l l' q q') (h2 : FG Ri' Rl' Rq' i' i'' l' l'' q' q'') (e1 : Ri'.all (fun x => Ri.contains x) = true) (e2 : Rl'.all (fun x => Rl.contains x) = true) (e3 : Rq'.all (fun x => Rq.contains x) = true) : FG Ri Rl Rq i i'' l l'' q q'' :=
  ⟨Fr_step h2.1 e1 h.1, fun c hc => (h2.2.1 c (sub_c e2 hc)).trans (h.2.1 c hc), fun c hc => (h2.2.2 c (sub_c e3 hc)).trans (h.2.2 c hc)⟩
theorem FG_i {Ri Rl Rq Ri' : List Nat} {i i' i'' : Nat → Nat → Int32} {l l' : Nat → Nat → Int64} {q q' : Nat → Nat → Option Nat} (h : FG Ri Rl Rq i i' l l' q q') (h2 : Fr Ri' i' i'') (e1 : Ri'.all (fun x => Ri.contains x) = true) : FG Ri Rl Rq i i'' l l' q q' := ⟨Fr_step h2 e1 h.1, h.2⟩
theorem rX_row {q q' : Nat → Nat → Option Nat} {c : Nat} (h : q' c = q c) : rX q' c = rX q c := by
  funext j
  rw [rX_or q', rX_or q, h]
/-- a river stands as long as its cells do -/
theorem RV_mv {i i' : Nat → Nat → Int32} {l l' : Nat → Nat → Int64} {q q' : Nat → Nat → Option Nat} {K K' : List (Nat × Nat)} {r : Nat} {g : Nat → Nat} (hV : RV (i, l, q, K) r g) (h : ∀ c, (c = r ∨ ∃ k, 5 ≤ k ∧ k ≤ 8 ∧ q r k = some c) → Dyn c → c < K.length → i' c = i c ∧ am_kd (i', l', q', K') c = am_kd (i, l, q, K) c ∧ am_ln (i', l', q', K') c = am_ln (i, l, q, K) c) (hq : q' r = q r) : RV (i', l', q', K') r g := by
  obtain ⟨a1, a2, a3, a4, a5, a6, ⟨x, x1, x2, x3, x4, x5⟩, ⟨y, y1, y2, y3, y4, y5⟩, a9, a10⟩ := hV
  have hqk : ∀ k, q' r k = q r k := fun k => by rw [hq]
  obtain ⟨r1, r2, r3⟩ := h r (Or.inl rfl) a1 (kd_lt a2 (by decide))
  have hrr : ∀ k, i' r k = i r k := fun k => by rw [r1]
  have law : ∀ m, m < 2 → RVl (i, l, q, K) r m g → RVl (i', l', q', K') r m g := fun m hm ⟨b1, b2⟩ => ⟨fun z => (hqk _).trans (b1 z), fun z => by
    obtain ⟨c, c1, c2, c3, c4', c5⟩ := b2 z
    obtain ⟨d1, d2, d3⟩ := h c (Or.inr ⟨7 + m, by omega, by omega, c1⟩) c4' (kd_lt c2 (by decide))
    exact ⟨c, (hqk _).trans c1, d2.trans c2, d3.trans c3, c4', fun k hk => by show i' c k = _; rw [d1]; exact c5 k hk⟩⟩
  obtain ⟨d1, d2, d3⟩ := h x (Or.inr ⟨5, by decide, by decide, x1⟩) x4 (kd_lt x2 (by decide))
  obtain ⟨e1, e2, e3⟩ := h y (Or.inr ⟨6, by decide, by decide, y1⟩) y4 (kd_lt y2 (by decide))
  exact ⟨a1, r2.trans a2, (hrr 0).trans a3, (hrr 1).trans a4, (hrr 2).trans a5, (hrr 3).trans a6, ⟨x, (hqk _).trans x1, d2.trans x2, d3.trans x3, x4, fun p hp => by show i' x p = _; rw [d1]; exact x5 p hp⟩, ⟨y, (hqk _).trans y1, e2.trans y2, e3.trans y3, y4, fun p hp => by show i' y p = _; rw [e1]; exact y5 p hp⟩, law 0 (by decide) a9, law 1 (by decide) a10⟩
theorem RV_E {s : aM} {r : Nat} {g h : Nat → Nat} (hV : RV s r g) (he : gE g h) (h0 : LW g 0) (h1 : LW g 1) : RV s r h := by
  obtain ⟨a1, a2, a3, a4, a5, a6, ⟨x, x1, x2, x3, x4, x5⟩, ⟨y, y1, y2, y3, y4, y5⟩, a9, a10⟩ := hV
  have law : ∀ m, m < 2 → LW g m → RVl s r m g → RVl s r m h := fun m hm hL ⟨b1, b2⟩ => ⟨fun z => b1 (by rw [← he (4 + m) (by omega) (by omega)]; exact z), fun z => by
    rw [he (4 + m) (by omega) (by omega)] at z
    obtain ⟨c, c1, c2, c3, c4', c5⟩ := b2 z
    have e8 := he (8 + m) (by omega) (by omega)
    exact ⟨c, c1, c2, by rw [e8]; exact c3, c4', fun k hk => by rw [e8] at hk; rw [cdl_E hm he hL z k hk]; exact c5 k hk⟩⟩
  exact ⟨a1, a2, by rw [he 1 (by decide) (by decide)]; exact a3, by rw [he 2 (by decide) (by decide)]; exact a4, by rw [he 3 (by decide) (by decide)]; exact a5, by rw [he 0 (by decide) (by decide)]; exact a6, ⟨x, x1, x2, x3, x4, fun p hp => by rw [he (10 + p) (by omega) (by omega)]; exact x5 p hp⟩, ⟨y, y1, y2, y3, y4, fun p hp => by rw [he (14 + p) (by omega) (by omega)]; exact y5 p hp⟩, law 0 (by decide) h0 a9, law 1 (by decide) h1 a10⟩
theorem gE_refl (g : Nat → Nat) : gE g g := fun _ _ _ => rfl
theorem gE_tr {f g h : Nat → Nat} (h1 : gE f g) (h2 : gE g h) : gE f h := fun j hj hk => (h2 j hj hk).trans (h1 j hj hk)
theorem gE_sy {g h : Nat → Nat} (h1 : gE g h) : gE h g := fun j hj hk => (h1 j hj hk).symm
/-- the ford stands at a river and a moment -/
def FA (r : Nat) (g : Nat → Nat) (m : Nat) (i : Nat → Nat → Int32) (l : Nat → Nat → Int64) (q : Nat → Nat → Option Nat) : Prop := q 11 1 = some r ∧ l 11 2 = lN m ∧ RM m (gCur g) ∧ TV i g ∧ HV i g
/-- the ford, wherever -/
def XF (ρ : Nat → Nat → Nat) (i : Nat → Nat → Int32) (l : Nat → Nat → Int64) (q : Nat → Nat → Option Nat) (K : List (Nat × Nat)) : Prop := ∃ rf mf gf, FA rf gf mf i l q ∧ am_kd (i, l, rX q, kX K) rf = 6 ∧ gE (ρ rf) gf ∧ LW gf 0 ∧ LW gf 1
/-- the river told, and now -/
def CV (ρ : Nat → Nat → Nat) (r : Nat) (g : Nat → Nat) (m : Nat) (i : Nat → Nat → Int32) (l : Nat → Nat → Int64) (q : Nat → Nat → Option Nat) (K : List (Nat × Nat)) : Prop := q 0 2 = some r ∧ RV (i, l, rX q, kX K) r g ∧ WG g ∧ gE (ρ r) g ∧ l 0 3 = lN m ∧ RM m (gCur g)
section
variable {i i' : Nat → Nat → Int32} {l l' : Nat → Nat → Int64} {q q' : Nat → Nat → Option Nat} {K : List (Nat × Nat)} {r m : Nat} {g : Nat → Nat} {ρ : Nat → Nat → Nat}
theorem Dyn_RF {Ri : List Nat} (hR : (Ri.all fun x => Nat.blt x 58 && !(x == 7 || x == 8 || x == 9)) = true) {c : Nat} (h : Dyn c) : Ri.contains c = false := by
  cases hc : Ri.contains c with
  | false => rfl
  | true =>
    exfalso
    have := Dyn_fr (R := Ri) (i := fun _ _ => nI 0) (i' := fun x _ => if Ri.contains x = true then nI 1 else nI 0) (fun x hx => by funext k; dsimp only; rw [if_neg (by rw [hx]; decide)]) hR h
    have h2 := congrFun this 0
    simp only [hc, if_true] at h2
    exact absurd h2 (by decide)
theorem RV_fg {Ri Rl Rq : List Nat} (h : FG Ri Rl Rq i i' l l' q q') (hR : (Ri.all fun x => Nat.blt x 58 && !(x == 7 || x == 8 || x == 9)) = true) (hRq : (Rq.all fun x => Nat.blt x 58 && !(x == 7 || x == 8 || x == 9)) = true) (hV : RV (i, l, rX q, kX K) r g) : RV (i', l', rX q', kX K) r g :=
  RV_mv hV (fun c _ hd _ => ⟨Dyn_fr h.1 hR hd, rfl, rfl⟩) (rX_row (h.2.2 r (Dyn_RF hRq hV.1)))
theorem CV_ff (h : FG RF [11] [11] i i' l l' q q') (hC : CV ρ r g m i l q K) : CV ρ r g m i' l' q' K := by
  obtain ⟨a1, a2, a3, a4, a5, a6⟩ := hC
  exact ⟨by rw [h.2.2 0 rfl]; exact a1, RV_fg h rfl rfl a2, a3, a4, by rw [h.2.1 0 rfl]; exact a5, a6⟩
theorem XF_of {g2 : Nat → Nat} {m2 : Nat} (hC : CV ρ r g m i l q K) (hA : FA r g2 m2 i l q) (he : gE g g2) (hW : WG g2) : XF ρ i l q K :=
  ⟨r, m2, g2, hA, hC.2.1.2.1, gE_tr hC.2.2.2.1 he, hW.2.2.2.2.2.2.2.2.1, hW.2.2.2.2.2.2.2.2.2.1⟩
theorem y_fordAt (d : Nat) {g2 : Nat → Nat} {m2 : Nat} (hC : CV ρ r g m i l q K) (hF : XF ρ i l q K) (he : gE g g2) (hM2 : RM m2 (gCur g2)) : ∃ i' l' q', am_cl (d + 3) mX_fordAt [.ref 0, .long (lN m2)] (i, l, rX q, kX K) = some (some (.ref 11), (i', l', rX q', kX K)) ∧ FG RF [11] [11] i i' l l' q q' ∧ FA r g2 m2 i' l' q' := by
  obtain ⟨rf, mf, gf, ⟨f1, f2, f3, f4, f5⟩, f6, f7, f8, f9⟩ := hF
  obtain ⟨a1, a2, a3, a4, a5, a6⟩ := hC
  obtain ⟨i', e, hf, hT, hH⟩ := r_Ford_attune (g := g2) (gf := gf) (r := r) (rf := rf) d (by rw [a2.2.1]; rfl) (by rw [f6]; rfl) f1 f2 hM2 f3 f8 f9 (fun z => by rw [z] at f7; exact gE_tr (gE_sy f7) (gE_tr a4 he)) f4 f5
  have a1' : rX q 0 2 = some r := a1
  rw [c_X_fordAt, b_X_fordAt_0, a1']
  dsimp only
  rw [e, am_bd_some, q_app0, b_X_fordAt_12]
  refine ⟨_, _, _, rfl, ⟨Fr_step hf rfl (Fr_refl _ _), fun c hc => ?_, fun c hc => ?_⟩, ⟨rfl, rfl, hM2, hT, hH⟩⟩
  · funext k
    have : c ≠ 11 := fun z => by rw [z] at hc; cases hc
    unfold am_u2
    rw [if_neg this]
  · funext k
    have : c ≠ 11 := fun z => by rw [z] at hc; cases hc
    unfold am_u2
    rw [if_neg this]
theorem y_spread (d : Nat) {a p rr most : Nat} (hV : RV (i, l, rX q, kX K) r g) (hW : WG g) (hA : FA r g m i l q) (hp : p < g 2) (ha : a < 4096) (hr : rr ≤ 9) (hmo : most ≤ 8) (hvs : VS g a) : ∃ i', am_cl (d + 4) mFord_spread [.ref 11, .int (nI a), .int (nI p), .int (nI rr), .int (nI most)] (i, l, rX q, kX K) = some (some (.int (nI (sEn g a p rr most))), (i', l, rX q, kX K)) ∧ Fr RF i i' ∧ FA r g m i' l q := by
  obtain ⟨f1, f2, f3, f4, f5⟩ := hA
  obtain ⟨i', l', e, hl, hf, hT⟩ := r_Ford_spread (i := i) (l := l) (q := q) d hV hW.2.2.2.2.2.2.2.2.2.1 f1 f2 f3 hW.1.2 hW.2.1 hp ha hr hmo hvs f4
  subst hl
  refine ⟨i', e, Fr_step hf rfl (Fr_refl _ _), f1, f2, f3, hT, ?_⟩
  unfold HV at f5 ⊢
  rw [hf 20 rfl, hf 21 rfl]; exact f5
theorem y_flooded (d : Nat) {a w : Nat} (hV : RV (i, l, rX q, kX K) r g) (hW : WG g) (hA : FA r g m i l q) (ha : a < 4096) (hw : w < 16) (hv : ∀ p, p < 4 → dg a p ≤ g 1 + 1) : ∃ i', am_cl (d + 4) mFord_flooded [.ref 11, .int (nI a), .int (nI w)] (i, l, rX q, kX K) = some (some (.int (nI (sFl g w a))), (i', l, rX q, kX K)) ∧ Fr RF i i' ∧ FA r g m i' l q ∧ i' 11 7 = nI (sLk g w a) := by
  obtain ⟨f1, f2, f3, f4, f5⟩ := hA
  obtain ⟨i', l', e, hl, hf, hH, h7⟩ := r_Ford_flooded (i := i) (l := l) (q := q) d hV hW.2.2.2.2.2.2.2.2.1 f1 f2 f3 hW.1.2 hW.2.1 hW.2.2.2.2.2.2.1 ha hw hv f5
  subst hl
  refine ⟨i', e, Fr_step hf rfl (Fr_refl _ _), ⟨f1, f2, f3, ?_, hH⟩, h7⟩
  unfold TV at f4 ⊢
  rw [hf 18 rfl, hf 19 rfl]; exact f4
theorem y_trusting (d : Nat) {p o gap : Nat} (hV : RV (i, l, rX q, kX K) r g) (hW : WG g) (hA : FA r g m i l q) (hp : p < 4) (ho : o < 4) (hg : gap < 16) : ∃ i', am_cl (d + 2) mFord_trusting [.ref 11, .int (nI p), .int (nI o), .int (nI gap)] (i, l, rX q, kX K) = some (some (.int (if sTrust g p o gap = true then nI 1 else nI 0)), (i', l, rX q, kX K)) ∧ Fr RF i i' ∧ FA r g m i' l q := by
  obtain ⟨f1, f2, f3, f4, f5⟩ := hA
  obtain ⟨i', l', e, hl, hf, hT⟩ := r_Ford_trusting (i := i) (l := l) (q := q) d hV hW.2.2.2.2.2.2.2.2.2.1 f1 f2 f3 hp ho hg f4
  subst hl
  refine ⟨i', e, Fr_step hf rfl (Fr_refl _ _), f1, f2, f3, hT, ?_⟩
  unfold HV at f5 ⊢
  rw [hf 20 rfl, hf 21 rfl]; exact f5
theorem y_wouldHold (d : Nat) {p str x b w : Nat} (hV : RV (i, l, rX q, kX K) r g) (hW : WG g) (hA : FA r g m i l q) (hx1 : 1 ≤ x) (hx6 : x ≤ 6) (hs : str < 1000) (hw : w < 1000) : ∃ i', am_cl (d + 2) mFord_wouldHold [.ref 11, .int (nI p), .int (nI str), .int (nI x), .int (nI b), .int (nI w)] (i, l, rX q, kX K) = some (some (.int (if sWould g p str x b w = true then nI 1 else nI 0)), (i', l, rX q, kX K)) ∧ Fr RF i i' ∧ FA r g m i' l q := by
  obtain ⟨f1, f2, f3, f4, f5⟩ := hA
  have hdp : dpm m (x - 1) = g (25 + x) := by
    rw [f3.2.2.2 (x - 1) (by omega)]
    unfold gCur; congr 1; omega
  obtain ⟨i', l', e, hl, hf⟩ := r_Ford_wouldHold (i := i) (l := l) (q := q) d (p := p) (bes := b) hV hW.2.2.2.2.2.2.2.2.1 f1 f2 f3.1 hdp hx1 hx6 hs hw
  subst hl
  refine ⟨i', e, Fr_step hf rfl (Fr_refl _ _), f1, f2, f3, ?_, ?_⟩
  · unfold TV at f4 ⊢
    rw [hf 18 rfl, hf 19 rfl]; exact f4
  · unfold HV at f5 ⊢
    rw [hf 20 rfl, hf 21 rfl]; exact f5
/-- the small questions, of a river that stands -/
theorem CV_f (hV : RV (i, l, rX q, kX K) r g) (hW : WG g) : (∀ d x, am_cl (d + 1) mRiver_isPerson [.ref r, .int x] (i, l, rX q, kX K) = some (some (.int (if iB x (g 2) = true then nI 1 else nI 0)), (i, l, rX q, kX K))) ∧ (∀ d x, am_cl (d + 1) mRiver_isSpot [.ref r, .int x] (i, l, rX q, kX K) = some (some (.int (if iS g x = true then nI 1 else nI 0)), (i, l, rX q, kX K))) ∧ (∀ d x, am_cl (d + 2) mRiver_isPlace [.ref r, .int x] (i, l, rX q, kX K) = some (some (.int (if iB x (g 1 + 2) = true then nI 1 else nI 0)), (i, l, rX q, kX K))) ∧ (∀ d x, am_cl (d + 2) mRiver_isSet [.ref r, .int x] (i, l, rX q, kX K) = some (some (.int (if iB x (2 ^ g 2) = true then nI 1 else nI 0)), (i, l, rX q, kX K))) ∧ (∀ d, am_cl (d + 1) mRiver_farBank [.ref r] (i, l, rX q, kX K) = some (some (.int (nI (g 1 + 1))), (i, l, rX q, kX K))) ∧ (∀ d, am_cl (d + 1) mRiver_everybody [.ref r] (i, l, rX q, kX K) = some (some (.int (nI (evb g))), (i, l, rX q, kX K))) ∧ (∀ d a, a < 4096 → am_cl (d + 2) mRiver_standing [.ref r, .int (nI a)] (i, l, rX q, kX K) = some (some (.int (nI (sUp g a))), (i, l, rX q, kX K))) ∧ (∀ d a, a < 4096 → am_cl (d + 2) mRiver_over [.ref r, .int (nI a)] (i, l, rX q, kX K) = some (some (.int (nI (sOver g a))), (i, l, rX q, kX K))) ∧ (∀ d a, a < 4096 → (∀ p, p < 4 → dg a p ≤ g 1 + 1) → am_cl (d + 2) mRiver_spotsTaken [.ref r, .int (nI a)] (i, l, rX q, kX K) = some (some (.int (nI (tkB g a))), (i, l, rX q, kX K))) ∧ (∀ d a x, a < 4096 → x < 100 → sSpot g x = true → am_cl (d + 2) mRiver_whoIsAt [.ref r, .int (nI a), .int (nI x)] (i, l, rX q, kX K) = some (some (.int (vW (sWho g a x))), (i, l, rX q, kX K))) ∧ (Nat.beq (am_kd (i, l, rX q, kX K) r) 6 = true) ∧ ∃ ra, rX q r 5 = some ra ∧ (∀ x, (Nat.beq (am_kd (i, l, rX q, kX K) ra) 100 && am_in x (am_ln (i, l, rX q, kX K) ra)) = am_in x 4) ∧ ∀ p, p < 4 → i ra p = nI (g (10 + p)) := by
  obtain ⟨a1, a2, a3, a4, a5, a6, ⟨x, x1, x2, x3, x4, x5⟩, _⟩ := hV
  have hk : Nat.beq (am_kd (i, l, rX q, kX K) r) 6 = true := by rw [a2]; rfl
  have h1 := hW.1.2
  have h2 := hW.2.1
  refine ⟨fun d x => s_River_isPerson d x hk a4 (by omega), fun d x => s_River_isSpot d x hk a3 (by omega), fun d x => s_River_isPlace d x hk a3 (by omega), fun d x => s_River_isSet d x hk a4 h2, fun d => s_River_farBank d hk a3, fun d => s_River_everybody d hk a4 h2, fun d a ha => s_River_standing d ha hk a3 a4 h1 h2, fun d a ha => s_River_over d ha hk a3 a4 h1 h2, fun d a ha hv => s_River_spotsTaken d ha hk a3 a4 h1 h2 hv, fun d a x ha hx hs => ?_, hk, x, x1, fun y => ?_, fun p hp => x5 p hp⟩
  · rw [s_River_whoIsAt d ha hx hk a4 h2]
    unfold sWho
    rw [if_pos hs]
    cases ff (fun p => decide (dg a p = x)) (g 2) 0 <;> rfl
  · rw [x2, x3]; rfl
theorem RM_f {m : Nat} (hM : RM m (gCur g)) (hW : WG g) : (∀ d s, am_cl (d + 1) mX_placingOf [.long (lN m)] s = some (some (.int (nI (sNow g 4))), s)) ∧ (∀ d p s, p < 4 → am_cl (d + 1) mX_placeOf [.long (lN m), .int (nI p)] s = some (some (.int (nI (g (18 + p)))), s)) ∧ (∀ d p s, p < 4 → am_cl (d + 1) mX_strengthOf [.long (lN m), .int (nI p)] s = some (some (.int (nI (g (22 + p)))), s)) ∧ ∀ d t s, 1 ≤ t → t ≤ 6 → am_cl (d + 1) mX_depthOf [.long (lN m), .int (nI t)] s = some (some (.int (nI (g (25 + t)))), s) := by
  have h0 := hM.1
  refine ⟨fun d s => by rw [s_X_placingOf, RM_now hM hW.2.2.2.2.2.1], fun d p s hp => ?_, fun d p s hp => ?_, fun d t s h1 h6 => ?_⟩
  · rw [s_X_placeOf d (by omega) (by omega), hM.2.1 p hp]; rfl
  · rw [s_X_strengthOf d (by omega) (by omega), hM.2.2.1 p hp]
    unfold gCur
    rw [show 18 + (4 + p) = 22 + p by omega]
  · obtain ⟨y, rfl⟩ : ∃ y, t = y + 1 := ⟨t - 1, by omega⟩
    rw [s_X_depthOf d (by omega) (by omega), hM.2.2.2 y (by omega)]
    unfold gCur
    rw [show 18 + (8 + y) = 25 + (y + 1) by omega]
end
