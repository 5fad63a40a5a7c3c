/-! THE CLASS: the draft of a river, small steps -/
section
variable {i i' i'' : Nat → Nat → Int32} {l l' l'' : Nat → Nat → Int64} {q q' q'' : Nat → Nat → Option Nat} {K K' K'' : List (Nat × Nat)} {B : Nat → Nat} {N M r : Nat} {s t : PS} {f f' : Nat → Nat}
def RN (B : Nat → Nat) (N M : Nat) (i : Nat → Nat → Int32) (s : PS) : Prop := BY B N i ∧ TKs B N M i ∧ RD B N M i s ∧ CB B N s ∧ (s.1 = 0 → i 5 4 = -nI 1) ∧ ∃ c, c ≤ 900 ∧ i 5 8 = nI c
/-- the cells below L stay, but the reader's own -/
def RW (L : Nat) (i i' : Nat → Nat → Int32) (l l' : Nat → Nat → Int64) (q q' : Nat → Nat → Option Nat) (K K' : List (Nat × Nat)) : Prop := (∃ X, K' = K ++ X) ∧ ∀ c, c < L → (c ≠ 5 → c ≠ 6 → i' c = i c) ∧ l' c = l c ∧ (c ≠ 5 → q' c = q c)
def DLl (i : Nat → Nat → Int32) (q : Nat → Nat → Option Nat) (K : List (Nat × Nat)) (r law : Nat) (f : Nat → Nat) : Prop := (f (4 + law) = 0 → rX q r (7 + law) = none) ∧ (f (4 + law) ≠ 0 → ∃ c, r + 3 ≤ c ∧ rX q r (7 + law) = some c ∧ kK K c = 100 ∧ lK K c = f (8 + law) ∧ ∀ k, k < f (8 + law) → i c k = tc (cdl f law k))
/-- the draft's cells -/
def DS (l : Nat → Nat → Int64) (q : Nat → Nat → Option Nat) (K : List (Nat × Nat)) (r : Nat) : Prop := 58 ≤ r ∧ q 5 5 = some r ∧ (rX q r 5 = some (r + 1) ∧ rX q r 6 = some (r + 2)) ∧ (kK K r = 6 ∧ kK K (r + 1) = 100 ∧ lK K (r + 1) = 4 ∧ kK K (r + 2) = 100 ∧ lK K (r + 2) = 4) ∧ ∃ m, m < 4503599627370496 ∧ l r 4 = lN m
/-- what they hold -/
def DC (i : Nat → Nat → Int32) (l : Nat → Nat → Int64) (q : Nat → Nat → Option Nat) (K : List (Nat × Nat)) (r : Nat) (f : Nat → Nat) : Prop := (i r 0 = nI (f 1) ∧ i r 1 = nI (f 2) ∧ i r 2 = nI (f 3) ∧ i r 3 = nI (f 0)) ∧ (∀ p, p < 4 → i (r + 1) p = nI (f (10 + p))) ∧ (∀ p, p < 4 → i (r + 2) p = nI (f (14 + p))) ∧ (DLl i q K r 0 f ∧ DLl i q K r 1 f) ∧ ∃ m, l r 4 = lN m ∧ RM m (gCur f)
def LB (B : Nat → Nat) (N M r : Nat) (i : Nat → Nat → Int32) (l : Nat → Nat → Int64) (q : Nat → Nat → Option Nat) (K : List (Nat × Nat)) (s : PS) : Prop := RN B N M i s ∧ DS l q K r ∧ (s.1 = 0 → DC i l q K r s.2.2.2)
theorem RW_refl {L : Nat} : RW L i i l l q q K K := ⟨⟨[], by rw [List.append_nil]⟩, fun _ _ => ⟨fun _ _ => rfl, rfl, fun _ => rfl⟩⟩
theorem RW_tr {L : Nat} (h1 : RW L i i' l l' q q' K K') (h2 : RW L i' i'' l' l'' q' q'' K' K'') : RW L i i'' l l'' q q'' K K'' := by
  obtain ⟨⟨X, e1⟩, a⟩ := h1
  obtain ⟨⟨Y, e2⟩, b⟩ := h2
  refine ⟨⟨X ++ Y, by rw [e2, e1, List.append_assoc]⟩, fun c hc => ?_⟩
  obtain ⟨a1, a2, a3⟩ := a c hc
  obtain ⟨b1, b2, b3⟩ := b c hc
  exact ⟨fun x y => (b1 x y).trans (a1 x y), b2.trans a2, fun x => (b3 x).trans (a3 x)⟩
theorem RW_i {L : Nat} (h : ∀ c, c < L → c ≠ 5 → c ≠ 6 → i' c = i c) : RW L i i' l l q q K K := ⟨⟨[], by rw [List.append_nil]⟩, fun c hc => ⟨fun x y => h c hc x y, rfl, fun _ => rfl⟩⟩
theorem RW_s {L : Nat} (h : ∀ c, c ≠ 5 → i' c = i c) : RW L i i' l l q q K K := RW_i (fun c _ x _ => h c x)
theorem RW_l {L : Nat} (h : ∀ c, c < L → l' c = l c) : RW L i i l l' q q K K := ⟨⟨[], by rw [List.append_nil]⟩, fun c hc => ⟨fun _ _ => rfl, h c hc, fun _ => rfl⟩⟩
theorem DLl_cg {law : Nat} (hl : law < 2) (h : DLl i q K r law f) (hi : ∀ c, r + 3 ≤ c → i' c = i c) (hf : ∀ j, (4 ≤ j ∧ j < 10) ∨ 174 ≤ j → f' j = f j) : DLl i' q K r law f' := by
  obtain ⟨a, b⟩ := h
  have e4 := hf (4 + law) (by omega)
  have e6 := hf (6 + law) (by omega)
  have e8 := hf (8 + law) (by omega)
  refine ⟨fun z => a (by rw [← e4]; exact z), fun z => ?_⟩
  rw [e4] at z
  obtain ⟨c, c1, c2, c3, c4, c5⟩ := b z
  refine ⟨c, c1, c2, c3, by rw [e8]; exact c4, fun k hk => ?_⟩
  rw [e8] at hk
  rw [hi c c1, c5 k hk]
  unfold cdl
  rw [e6, hf (174 + f (6 + law) + k) (by omega)]
theorem DC_mv (h : DC i l q K r f) (hi : ∀ c, r ≤ c → i' c = i c) : DC i' l q K r f := by
  obtain ⟨a, b, c, d, e⟩ := h
  refine ⟨by rw [hi r (Nat.le_refl _)]; exact a, by rw [hi (r + 1) (by omega)]; exact b, by rw [hi (r + 2) (by omega)]; exact c, ⟨DLl_cg (by decide) d.1 (fun c hc => hi c (by omega)) (fun _ _ => rfl), DLl_cg (by decide) d.2 (fun c hc => hi c (by omega)) (fun _ _ => rfl)⟩, e⟩
/-- a step of the reader alone -/
theorem l_step (h : LB B N M r i l q K s) (hR : RD B N M i' t) (ho : ∀ c, c ≠ 5 → i' c = i c) (hk : ∀ k, k ≠ 1 → k ≠ 2 → k ≠ 3 → k ≠ 4 → i' 5 k = i 5 k) (hc : CB B N t) (he : t.1 = 0 → s.1 = 0 ∧ t.2.2.2 = s.2.2.2) (h4' : t.1 = 0 → i' 5 4 = i 5 4) : LB B N M r i' l q K t := by
  obtain ⟨⟨hB, hT, _, _, h4, c0, hc0, e0⟩, hS, hD⟩ := h
  have h58 := hS.1
  refine ⟨⟨?_, ?_, hR, hc, fun z => by rw [h4' z]; exact h4 (he z).1, c0, hc0, by rw [hk 8 (by decide) (by decide) (by decide) (by decide)]; exact e0⟩, hS, fun z => ?_⟩
  · unfold BY at hB ⊢
    rw [ho 1 (by decide), ho 2 (by decide)]; exact hB
  · unfold TKs at hT ⊢
    rw [ho 1 (by decide), ho 3 (by decide), ho 4 (by decide)]; exact hT
  · obtain ⟨z1, z2⟩ := he z
    rw [z2]
    exact DC_mv (hD z1) (fun c hc => ho c (by omega))
theorem l_adv (d : Nat) (h : LB B N M r i l q K s) (h0 : s.1 = 0) (hk : kj B N s.2.2.1 ≠ 24) : ∃ i', am_cl (d + 1) mReader_advance [.ref 5] (i, l, rX q, kX K) = some (none, (i', l, rX q, kX K)) ∧ LB B N M r i' l q K (nxS s) ∧ (∀ c, c ≠ 5 → i' c = i c) := by
  obtain ⟨i1, e1, hR1, ho, hk1⟩ := y_adv (l := l) (q := q) (K := K) d h.1.2.1 h.1.2.2.1 h0 hk
  have a := l_step h hR1 ho (fun k x y _ _ => hk1 k x y) (Pg_cb (Pg_nx h.1.2.2.2.1 hk) h.1.2.2.2.1) (fun z => ⟨z, rfl⟩) (fun _ => hk1 4 (by decide) (by decide))
  exact ⟨i1, e1, a, ho⟩
theorem l_ref (d : Nat) {k : Nat} (hk1 : 1 ≤ k) (hk4 : k ≤ 4) (h : LB B N M r i l q K s) : ∃ i', am_cl (d + 1) mReader_refuse [.ref 5, .int (nI k)] (i, l, rX q, kX K) = some (none, (i', l, rX q, kX K)) ∧ LB B N M r i' l q K (flS B N k s) ∧ (∀ c, c ≠ 5 → i' c = i c) := by
  obtain ⟨i1, e1, hR1, ho, hk'⟩ := y_ref (l := l) (q := q) (K := K) d hk1 hk4 h.1.2.1 h.1.2.2.1
  have a := l_step h hR1 ho (fun k _ y z w => hk' k y z w) (fun z => absurd z (fl_ne hk1)) (fun z => absurd z (fl_ne hk1)) (fun z => absurd z (fl_ne hk1))
  exact ⟨i1, e1, a, ho⟩
theorem l_exp (d : Nat) {k0 : Nat} (hk0 : okK k0 = true) (h24 : k0 ≠ 24) (h25 : k0 ≠ 25) (h : LB B N M r i l q K s) : ∃ i', am_cl (d + 2) mReader_expect [.ref 5, .int (nI (ct k0))] (i, l, rX q, kX K) = some (none, (i', l, rX q, kX K)) ∧ LB B N M r i' l q K (xpS B N k0 s) ∧ (∀ c, c ≠ 5 → i' c = i c) := by
  rw [c_Reader_expect, b_Reader_expect_0, decide_not, tok_is hk0 h25 h.1.2.2.1]
  unfold xpS
  cases hs : isS B N k0 s with
  | true =>
    have hss := of_decide_eq_true hs
    obtain ⟨i1, e1, hb, hf⟩ := l_adv (l := l) (q := q) (K := K) d h hss.1 (by rw [hss.2]; exact h24)
    rw [show (!true) = false from rfl, cond_false, e1, am_bd_some, q_app0, b_Reader_expect_12, b_Reader_expect_20, if_pos rfl]
    exact ⟨i1, rfl, hb, hf⟩
  | false =>
    obtain ⟨i1, e1, hb, hf⟩ := l_ref (l := l) (q := q) (K := K) d (k := 2) (by decide) (by decide) h
    rw [show (!false) = true from rfl, cond_true, show (2 : Int32) = nI 2 from rfl, e1, am_bd_some, q_app0, b_Reader_expect_20, if_neg (by decide)]
    exact ⟨i1, rfl, hb, hf⟩
theorem l_num (d : Nat) {lo hi : Nat} (hlo : lo < 1000) (hhi : hi < 1000) (hlh : lo ≤ hi) (h : LB B N M r i l q K s) : ∃ i' v, am_cl (d + 3) mReader_readNumber [.ref 5, .int (nI lo), .int (nI hi)] (i, l, rX q, kX K) = some (some (.int (nI v)), (i', l, rX q, kX K)) ∧ LB B N M r i' l q K (tkS B N lo hi s) ∧ (∀ c, c ≠ 5 → i' c = i c) ∧ lo ≤ v ∧ v ≤ hi ∧ ((tkS B N lo hi s).1 = 0 → v = uj B N s.2.2.1) := by
  obtain ⟨i1, e1, hR1, ho, hk', h4'⟩ := y_number (l := l) (q := q) (K := K) d hlo hhi h.1.1 h.1.2.1 h.1.2.2.1
  have a := l_step (t := tkS B N lo hi s) h hR1 ho hk' (Pg_cb (Pg_tk h.1.2.2.2.1) h.1.2.2.2.1) (fun z => by
    obtain ⟨x1, x2, _⟩ := tkS_0 z
    rw [x2]; exact ⟨x1, rfl⟩) h4'
  refine ⟨i1, _, e1, a, ho, ?_, ?_, fun z => ?_⟩
  · split
    · rename_i c; exact c.2.2.1
    · exact Nat.le_refl _
  · split
    · rename_i c; exact c.2.2.2
    · exact hlh
  · obtain ⟨x1, x2, x3, x4⟩ := tkS_0 z
    have hk : kj B N s.2.2.1 = 23 := by
      unfold tkS at z
      rw [if_pos x1] at z
      by_cases c : kj B N s.2.2.1 = 23
      · exact c
      · rw [if_neg c] at z; exact absurd z (fl_ne (by decide))
    rw [if_pos ⟨x1, hk, x3, x4⟩]
/-- something is written down -/
theorem l_set {k v : Nat} (h : LB B N M r i l q K s) (hk : k ≠ 173) (hi : ∀ c, c < r → i' c = i c) (hl : ∀ c, c < r → l' c = l c) (hm : ∃ m, m < 4503599627370496 ∧ l' r 4 = lN m) (hD : s.1 = 0 → DC i' l' q K r (ug s.2.2.2 k v)) : LB B N M r i' l' q K (stF k v s) ∧ RW r i i' l l' q q K K := by
  obtain ⟨⟨hB, hT, hR, hc, h4, c0, hc0, e0⟩, hS, _⟩ := h
  have h58 := hS.1
  have es : (stF k v s).1 = s.1 ∧ (stF k v s).2.1 = s.2.1 ∧ (stF k v s).2.2.1 = s.2.2.1 := by unfold stF; split <;> exact ⟨rfl, rfl, rfl⟩
  refine ⟨⟨⟨?_, ?_, ?_, ?_, fun z => by rw [hi 5 (by omega)]; exact h4 (by rw [← es.1]; exact z), c0, hc0, by rw [hi 5 (by omega)]; exact e0⟩, ⟨hS.1, hS.2.1, hS.2.2.1, hS.2.2.2.1, hm⟩, fun z => ?_⟩, ⟨[], by rw [List.append_nil]⟩, fun c hc => ⟨fun _ _ => hi c hc, hl c hc, fun _ => rfl⟩⟩
  · unfold BY at hB ⊢
    rw [hi 1 (by omega), hi 2 (by omega)]; exact hB
  · unfold TKs at hT ⊢
    rw [hi 1 (by omega), hi 3 (by omega), hi 4 (by omega)]; exact hT
  · unfold RD at hR ⊢
    rw [es.1, es.2.1, es.2.2, hi 5 (by omega)]; exact hR
  · unfold CB at hc ⊢
    rw [es.1, es.2.2]
    intro z
    have e3 : (stF k v s).2.2.2 173 = s.2.2.2 173 := by
      unfold stF
      rw [if_pos z]
      show ug s.2.2.2 k v 173 = _
      unfold ug; rw [if_neg (fun y => hk y.symm)]
    rw [e3]; exact hc z
  · rw [es.1] at z
    have e3 : (stF k v s).2.2.2 = ug s.2.2.2 k v := by unfold stF; rw [if_pos z]
    rw [e3]; exact hD z
theorem stF_v {k u v : Nat} (h : s.1 = 0 → v = u) : stF k u s = stF k v s := by
  unfold stF
  by_cases c : s.1 = 0
  · rw [if_pos c, if_pos c, h c]
  · rw [if_neg c, if_neg c]
theorem ug_o {g : Nat → Nat} {k v j : Nat} (h : j ≠ k) : ug g k v j = g j := by unfold ug; rw [if_neg h]
theorem ug_s {g : Nat → Nat} {k v : Nat} : ug g k v k = v := by unfold ug; rw [if_pos rfl]
theorem gC_o {k v : Nat} (hk : k < 18 ∨ 32 ≤ k) : ∀ j, j < 14 → gCur (ug f k v) j = gCur f j := fun j hj => by
  unfold gCur
  exact ug_o (by omega)
theorem gC_s {k v : Nat} : ∀ j, j < 14 → gCur (ug f (18 + k) v) j = ug (gCur f) k v j := fun j hj => by
  unfold gCur ug
  by_cases c : j = k
  · rw [if_pos (by omega), if_pos c]
  · rw [if_neg (by omega), if_neg c]
/-- a field of the draft -/
theorem l_field {k kk v : Nat} {x : Int32} (hk : (k = 0 ∧ kk = 1) ∨ (k = 1 ∧ kk = 2) ∨ (k = 2 ∧ kk = 3) ∨ (k = 3 ∧ kk = 0)) (hx : s.1 = 0 → x = nI v) (h : LB B N M r i l q K s) : LB B N M r (am_u2 i r k x) l q K (stF kk v s) ∧ RW r i (am_u2 i r k x) l l q q K K := by
  have ho : ∀ c, c ≠ r → am_u2 i r k x c = i c := fun c hc => by funext j; unfold am_u2; rw [if_neg hc]
  refine l_set h (by omega) (fun c hc => ho c (by omega)) (fun _ _ => rfl) h.2.1.2.2.2.2 (fun z => ?_)
  obtain ⟨⟨a1, a2, a3, a4⟩, b, c, d, m, m1, m2⟩ := h.2.2 z
  have hj : ∀ j, 4 ≤ j → ug s.2.2.2 kk v j = s.2.2.2 j := fun j hj => ug_o (by omega)
  refine ⟨?_, fun p hp => ?_, fun p hp => ?_, ⟨DLl_cg (by decide) d.1 (fun c hc => ho c (by omega)) (fun j hj' => hj j (by omega)), DLl_cg (by decide) d.2 (fun c hc => ho c (by omega)) (fun j hj' => hj j (by omega))⟩, m, m1, RM_cg m2 (gC_o (by omega))⟩
  · rw [hx z]
    rcases hk with ⟨rfl, rfl⟩ | ⟨rfl, rfl⟩ | ⟨rfl, rfl⟩ | ⟨rfl, rfl⟩ <;> simp [am_u2, ug, a1, a2, a3, a4]
  · rw [ho _ (by omega), hj _ (by omega)]; exact b p hp
  · rw [ho _ (by omega), hj _ (by omega)]; exact c p hp
/-- a reach -/
theorem l_reach {p v : Nat} (hp : p < 4) (h : LB B N M r i l q K s) : LB B N M r (am_u2 i (r + 1) p (nI v)) l q K (stF (10 + p) v s) ∧ RW r i (am_u2 i (r + 1) p (nI v)) l l q q K K := by
  have ho : ∀ c, c ≠ r + 1 → am_u2 i (r + 1) p (nI v) c = i c := fun c hc => by funext j; unfold am_u2; rw [if_neg hc]
  refine l_set h (by omega) (fun c hc => ho c (by omega)) (fun _ _ => rfl) h.2.1.2.2.2.2 (fun z => ?_)
  obtain ⟨⟨a1, a2, a3, a4⟩, b, c, d, m, m1, m2⟩ := h.2.2 z
  refine ⟨?_, fun j hj => ?_, fun j hj => ?_, ⟨DLl_cg (by decide) d.1 (fun c hc => ho c (by omega)) (fun j hj => ug_o (by omega)), DLl_cg (by decide) d.2 (fun c hc => ho c (by omega)) (fun j hj => ug_o (by omega))⟩, m, m1, RM_cg m2 (gC_o (by omega))⟩
  · rw [ho r (by omega), ug_o (by omega), ug_o (by omega), ug_o (by omega), ug_o (by omega)]; exact ⟨a1, a2, a3, a4⟩
  · by_cases e : j = p
    · rw [e, ug_s]; simp [am_u2]
    · rw [ug_o (by omega), ← b j hj]; simp [am_u2, e]
  · rw [ho _ (by omega), ug_o (by omega)]; exact c j hj
/-- a family -/
theorem l_family {p v : Nat} (hp : p < 4) (h : LB B N M r i l q K s) : LB B N M r (am_u2 i (r + 2) p (nI v)) l q K (stF (14 + p) v s) ∧ RW r i (am_u2 i (r + 2) p (nI v)) l l q q K K := by
  have ho : ∀ c, c ≠ r + 2 → am_u2 i (r + 2) p (nI v) c = i c := fun c hc => by funext j; unfold am_u2; rw [if_neg hc]
  refine l_set h (by omega) (fun c hc => ho c (by omega)) (fun _ _ => rfl) h.2.1.2.2.2.2 (fun z => ?_)
  obtain ⟨⟨a1, a2, a3, a4⟩, b, c, d, m, m1, m2⟩ := h.2.2 z
  refine ⟨?_, fun j hj => ?_, fun j hj => ?_, ⟨DLl_cg (by decide) d.1 (fun c hc => ho c (by omega)) (fun j hj => ug_o (by omega)), DLl_cg (by decide) d.2 (fun c hc => ho c (by omega)) (fun j hj => ug_o (by omega))⟩, m, m1, RM_cg m2 (gC_o (by omega))⟩
  · rw [ho r (by omega), ug_o (by omega), ug_o (by omega), ug_o (by omega), ug_o (by omega)]; exact ⟨a1, a2, a3, a4⟩
  · rw [ho _ (by omega), ug_o (by omega)]; exact b j hj
  · by_cases e : j = p
    · rw [e, ug_s]; simp [am_u2]
    · rw [ug_o (by omega), ← c j hj]; simp [am_u2, e]
theorem lN_inj {a b : Nat} (ha : a < 4503599627370496) (hb : b < 4503599627370496) (h : lN a = lN b) : a = b := by
  have e := congrArg (fun x : Int64 => x.toBitVec.toNat) h
  rw [x_nat (by omega), x_nat (by omega)] at e
  exact e
/-- the moment -/
theorem l_start {k v m0 m' : Nat} (hk : k < 14) (h0 : m0 < 4503599627370496) (e0 : l r 4 = lN m0) (hm' : m' < 4503599627370496) (hM : RM m0 (gCur s.2.2.2) → RM m' (ug (gCur s.2.2.2) k v)) (h : LB B N M r i l q K s) : LB B N M r i (am_u2 l r 4 (lN m')) q K (stF (18 + k) v s) ∧ RW r i i l (am_u2 l r 4 (lN m')) q q K K := by
  refine l_set h (by omega) (fun c hc => rfl) (fun c hc => by funext j; unfold am_u2; rw [if_neg (by omega)]) ⟨m', hm', by simp [am_u2]⟩ (fun z => ?_)
  obtain ⟨⟨a1, a2, a3, a4⟩, b, c, d, m, m1, m2⟩ := h.2.2 z
  refine ⟨?_, fun j hj => ?_, fun j hj => ?_, ⟨DLl_cg (by decide) d.1 (fun c hc => rfl) (fun j hj => ug_o (by omega)), DLl_cg (by decide) d.2 (fun c hc => rfl) (fun j hj => ug_o (by omega))⟩, m', by simp [am_u2], RM_cg (hM (by rw [lN_inj h0 m2.1 (e0.symm.trans m1)]; exact m2)) gC_s⟩
  · rw [ug_o (by omega), ug_o (by omega), ug_o (by omega), ug_o (by omega)]; exact ⟨a1, a2, a3, a4⟩
  · rw [ug_o (by omega)]; exact b j hj
  · rw [ug_o (by omega)]; exact c j hj
end
