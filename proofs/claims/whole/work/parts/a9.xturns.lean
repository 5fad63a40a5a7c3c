/-! THE CLASS: turns, layer by layer -/
section
variable {g : Nat → Nat} {mv w : Nat}
noncomputable def TL (g : Nat → Nat) (mv w n x : Nat) : Nat := if VF g mv w n x = true then fc g mv w x else 1000000
theorem fc_n {n x : Nat} (h : VF g mv w n x = true) (hn : n < FARN) : fc g mv w x ≤ n := lst_min (P := fun n => VF g mv w n x) h hn
theorem fc_v {x : Nat} (h : fc g mv w x < FARN) : VF g mv w (fc g mv w x) x = true ∧ ∀ n, n < fc g mv w x → VF g mv w n x = false := lst_lt (P := fun n => VF g mv w n x) h
theorem TL_lt {N c x : Nat} (hc : c ≤ N + 1) (hN : N < 10000) (h1 : 1 ≤ c) : TL g mv w N x < c ↔ VF g mv w (c - 1) x = true := by
  have hF : FARN = 268435456 := rfl
  unfold TL
  by_cases h : VF g mv w N x = true
  · rw [if_pos h]
    have hf := fc_n h (by omega)
    constructor
    · intro z
      exact VF_le (fc_v (by omega)).1 (by omega)
    · intro z
      have := fc_n z (by omega)
      omega
  · rw [if_neg h]
    constructor
    · intro z; omega
    · intro z; exact absurd (VF_le z (show c - 1 ≤ N by omega)) h
theorem TL_b {N x : Nat} (hN : N < 10000) : TL g mv w N x ≤ 1000000 := by
  have hF : FARN = 268435456 := rfl
  unfold TL
  by_cases h : VF g mv w N x = true
  · rw [if_pos h]; have := fc_n h (by omega); omega
  · rw [if_neg h]; omega
theorem TL_nv {N x : Nat} (hN : N < 10000) : TL g mv w N x = 1000000 ↔ VF g mv w N x = false := by
  have hF : FARN = 268435456 := rfl
  unfold TL
  by_cases h : VF g mv w N x = true
  · rw [if_pos h]
    have := fc_n h (by omega)
    exact ⟨fun z => by omega, fun z => by rw [h] at z; cases z⟩
  · rw [if_neg h]; exact ⟨fun _ => by simpa using h, fun _ => rfl⟩
theorem TL_keep {N x : Nat} (h : VF g mv w N x = true) : TL g mv w (N + 1) x = TL g mv w N x := by
  unfold TL
  rw [if_pos h, if_pos (VF_le h (by omega))]
theorem TL_new {N x : Nat} (hN : N < 10000) (h : VF g mv w N x = false) (h2 : VF g mv w (N + 1) x = true) : TL g mv w (N + 1) x = N + 1 := by
  have hF : FARN = 268435456 := rfl
  unfold TL
  rw [if_pos h2]
  have h3 := fc_n h2 (by omega)
  by_cases c : fc g mv w x ≤ N
  · have := VF_le (fc_v (show fc g mv w x < FARN by omega)).1 c
    rw [this] at h; cases h
  · omega
theorem TL_no {N x : Nat} (h : VF g mv w (N + 1) x = false) : TL g mv w (N + 1) x = TL g mv w N x := by
  have h0 : ¬ VF g mv w N x = true := fun z => by rw [VF_le z (show N ≤ N + 1 by omega)] at h; cases h
  unfold TL
  rw [if_neg h0, if_neg (by rw [h]; decide)]
/-- when no more come in, none ever do -/
theorem VF_stop {P : Nat → Prop} {N : Nat} (hc : ∀ s, P s → ∀ j, j < 32 → avl g mv s j = true → P (tgt s j)) (hf : ∀ s, P s → P (sFl g (g 3) s)) (h : ∀ s, P s → VF g mv w (N + 1) s = true → VF g mv w N s = true) : ∀ k s, P s → VF g mv w (N + k) s = true → VF g mv w N s = true
  | 0, s, _, hv => hv
  | k + 1, s, hs, hv => by
    apply h s hs
    rcases VF_s.mp hv with z | ⟨j, hj, ha, z1, z2⟩
    · exact VF_le (VF_stop hc hf h k s hs z) (by omega)
    · have ht := hc s hs j hj ha
      exact VF_s.mpr (Or.inr ⟨j, hj, ha, VF_stop hc hf h k _ ht z1, VF_stop hc hf h k _ (hf _ ht) z2⟩)
/-- how many are in -/
def csN (g : Nat → Nat) (mv w : Nat) (L : List Nat) (n : Nat) : Nat := sSum (fun k => if VF g mv w n (L.getD k 0) = true then 1 else 0) L.length
theorem sSum_mono {f h : Nat → Nat} : ∀ {n : Nat}, (∀ k, k < n → f k ≤ h k) → sSum f n ≤ sSum h n
  | 0, _ => Nat.le_refl _
  | n + 1, e => by
    have := sSum_mono (n := n) (fun k hk => e k (by omega))
    have := e n (by omega)
    rw [sSum, sSum]; omega
theorem sSum_mono1 {f h : Nat → Nat} {a : Nat} : ∀ {n : Nat}, (∀ k, k < n → f k ≤ h k) → a < n → f a < h a → sSum f n < sSum h n
  | 0, _, ha, _ => by omega
  | n + 1, e, ha, hl => by
    rw [sSum, sSum]
    have h2 := e n (by omega)
    by_cases c : a = n
    · rw [c] at hl
      have := sSum_mono (n := n) (fun k hk => e k (by omega))
      omega
    · have := sSum_mono1 (n := n) (fun k hk => e k (by omega)) (by omega) hl
      omega
theorem cs_grow {L : List Nat} {n a : Nat} (ha : a < L.length) (h0 : VF g mv w n (L.getD a 0) = false) (h1 : VF g mv w (n + 1) (L.getD a 0) = true) : csN g mv w L n < csN g mv w L (n + 1) := by
  apply sSum_mono1 (a := a) _ ha
  · rw [if_neg (by rw [h0]; decide), if_pos h1]; decide
  · intro k _
    by_cases c : VF g mv w n (L.getD k 0) = true
    · rw [if_pos c, if_pos (VF_le c (by omega))]; exact Nat.le_refl _
    · rw [if_neg c]; exact Nat.zero_le _
theorem sSum_one : ∀ n, sSum (fun _ => 1) n = n
  | 0 => rfl
  | n + 1 => by rw [sSum, sSum_one n]
theorem cs_all {L : List Nat} {n a : Nat} (h : L.length ≤ csN g mv w L n) (ha : a < L.length) : VF g mv w n (L.getD a 0) = true := by
  apply Classical.byContradiction
  intro hc
  have : csN g mv w L n < sSum (fun _ => 1) L.length := by
    apply sSum_mono1 (a := a) _ ha
    · rw [if_neg hc]; decide
    · intro k _
      split <;> omega
  rw [sSum_one] at this
  omega
end
section
variable {i i' : Nat → Nat → Int32} {l l' : Nat → Nat → Int64} {q q' : Nat → Nat → Option Nat} {K K' : List (Nat × Nat)} {r m v v' : Nat} {g h : Nat → Nat} {ρ : Nat → Nat → Nat} {W W' : Nat → Nat}
/-- turns as they stand -/
def FTs (g : Nat → Nat) (W : Nat → Nat) (L : List Nat) (T : Nat → Nat) (i : Nat → Nat → Int32) : Prop := i 35 4 = nI L.length ∧ (∀ k, k < L.length → i (W 9) k = nI (L.getD k 0)) ∧ (∀ x, x ∈ L → i (W 7) x = nI (sFl g (g 3) x)) ∧ (∀ x, x ∈ L → i (W 8) x = nI (T x)) ∧ ∀ x, x ∈ L → EBt g x (i (W 0) x)
/-- what is true of all that can be brought -/
def FL (g : Nat → Nat) (n : Nat) (L : List Nat) : Prop := (∀ x, x ∈ L → VS g x ∧ x < 4096 ∧ x < n) ∧ (∀ x, x ∈ L → ∀ j, j < 32 → avl g (evb g) x j = true → tgt x j ∈ L) ∧ (∀ x, x ∈ L → sFl g (g 3) x ∈ L) ∧ L.Nodup ∧ L.length ≤ n ∧ n ≤ 4096
theorem s_isWithin (d : Nat) {n x N : Nat} {L : List Nat} {T : Nat → Nat} (hQ : FQs W n q K) (hL : FL g n L) (hT : FTs g W L T i) (hb : ∀ y, T y ≤ 1000000) (hx : x ∈ L) (hN : N < 10000) : am_cl (d + 1) mForcing_isWithin [.ref 35, .int (nI x), .int (nI N)] (i, l, rX q, kX K) = some (some (.int (if T x < N ∧ T (sFl g (g 3) x) < N then nI 1 else nI 0)), (i, l, rX q, kX K)) := by
  obtain ⟨⟨x1, x2, x3⟩, ⟨k7, k8, k9⟩, ⟨l7, l8, l9⟩, hn⟩ := hQ
  obtain ⟨t1, t2, t3, t4, t5⟩ := hT
  have y1 : rX q 35 1 = some (W 7) := x1
  have y2 : rX q 35 2 = some (W 8) := x2
  obtain ⟨_, hx4, hxn⟩ := hL.1 x hx
  have hfx := hL.2.2.1 x hx
  obtain ⟨_, hf4, hfn⟩ := hL.1 _ hfx
  have b1 := hb x
  have b2 := hb (sFl g (g 3) x)
  rw [c_Forcing_isWithin, b_Forcing_isWithin_0, decide_eq_false (show ¬ nI x < 0 from by
    show ¬ nI x < nI 0
    rw [q_lt (by omega) (by omega)]; omega), cond_false, y2]
  dsimp only
  rw [bl100 k8, cond_true, decide_eq_false (show ¬ Int32.ofNat (am_ln (i, l, rX q, kX K) (W 8)) ≤ nI x from by
    rw [show am_ln (i, l, rX q, kX K) (W 8) = n from l8]
    show ¬ nI n ≤ nI x
    rw [q_le (by omega) (by omega)]; omega), cond_false, in100 k8 l8 hn hxn, cond_true, nI_clamp (by omega), t4 x hx]
  by_cases c1 : T x < N
  · rw [decide_eq_false (show ¬ nI N ≤ nI (T x) from by rw [q_le (by omega) (by omega)]; omega), cond_false, y1]
    dsimp only
    rw [in100 k7 l7 hn hxn, cond_true, t3 x hx, decide_eq_false (show ¬ nI (sFl g (g 3) x) = (-1 : Int32) from by
      show ¬ nI (sFl g (g 3) x) = -nI 1
      rw [q_m1 (by omega)]; exact id), cond_false, cond_true, in100 k8 l8 hn hfn, cond_true, nI_clamp (by omega), t4 _ hfx]
    by_cases c2 : T (sFl g (g 3) x) < N
    · rw [decide_eq_false (show ¬ nI N ≤ nI (T (sFl g (g 3) x)) from by rw [q_le (by omega) (by omega)]; omega), cond_false, b_Forcing_isWithin_53, if_pos ⟨c1, c2⟩]; rfl
    · rw [decide_eq_true (show nI N ≤ nI (T (sFl g (g 3) x)) from by rw [q_le (by omega) (by omega)]; omega), cond_true, b_Forcing_isWithin_52, b_Forcing_isWithin_53, if_neg (fun z => c2 z.2)]; rfl
  · rw [decide_eq_true (show nI N ≤ nI (T x) from by rw [q_le (by omega) (by omega)]; omega), cond_true, b_Forcing_isWithin_52, b_Forcing_isWithin_53, if_neg (fun z => c1 z.1)]; rfl
def wth (g : Nat → Nat) (T : Nat → Nat) (N x : Nat) : Bool := decide (T x < N ∧ T (sFl g (g 3) x) < N)
theorem s_firstGoing (d : Nat) {n x N e : Nat} {L : List Nat} {T : Nat → Nat} (h2 : g 2 ≤ 4) (hQ : FQs W n q K) (hL : FL g n L) (hT : FTs g W L T i) (hb : ∀ y, T y ≤ 1000000) (hx : x ∈ L) (hN : N < 10000) (hq : q 22 3 = some (W 0)) (he : kK K (W 0) = 100 ∧ 8 ^ g 2 ≤ lK K (W 0) ∧ lK K (W 0) ≤ 4096) : am_cl (d + 3) mForcing_firstGoing [.ref 35, .int (nI x), .int (nI N)] (i, l, rX q, kX K) = some (some (.int (match ff (fun j => avl g (evb g) x j && wth g T N (tgt x j)) 32 0 with | some j => nI (deed j) | none => if wth g T N x = true then nI 99 else -nI 1)), (i, l, rX q, kX K)) := by
  obtain ⟨hvx, hx4, hxn⟩ := hL.1 x hx
  have y22 : rX q 22 3 = some (W 0) := hq
  have hEx := hT.2.2.2.2 x hx
  have hxe : x < lK K (W 0) := Nat.lt_of_lt_of_le (VS_lt h2 hx4 hvx) he.2.1
  have hek : am_cl (d + 2) mGoings_endsKept [.ref 22, .int (nI x)] (i, l, rX q, kX K) = some (some (.int (i (W 0) x)), (i, l, rX q, kX K)) := by
    rw [c_Goings_endsKept, b_Goings_endsKept_0, decide_eq_false (show ¬ nI x < 0 from by
      show ¬ nI x < nI 0
      rw [q_lt (by omega) (by omega)]; omega), cond_false, y22]
    dsimp only
    rw [bl100 he.1, cond_true, decide_eq_false (show ¬ Int32.ofNat (am_ln (i, l, rX q, kX K) (W 0)) ≤ nI x from by
      show ¬ nI (lK K (W 0)) ≤ nI x
      rw [q_le (by omega) (by omega)]; omega), cond_false, in100 he.1 rfl he.2.2 hxe, cond_true, nI_clamp (by omega), decide_eq_true (show ¬ i (W 0) x = (-1 : Int32) from EBt_ne hEx), cond_true, cond_true, b_Goings_endsKept_33]
  rw [c_Forcing_firstGoing, b_Forcing_firstGoing_0, hek, am_bd_some, q_app, b_Forcing_firstGoing_8]
  refine am_find (d := d + 2) (y := mForcing_firstGoing) (pc := 12) (fun k ls s => ls = [.val (.ref 35), .val (.int (nI x)), .val (.int (nI N)), .val (.int (i (W 0) x)), .val (.int (nI k))] ∧ s = (i, l, rX q, kX K)) (fun j => avl g (evb g) x j && wth g T N (tgt x j)) (fun o rs => rs = some (some (.int (match o with | some j => nI (deed j) | none => if wth g T N x = true then nI 99 else -nI 1)), (i, l, rX q, kX K))) 32 0 (fun k ls s _ hk hI => ?_) (fun ls s hI => ?_) _ _ ⟨rfl, rfl⟩
  · obtain ⟨e1, e2⟩ := hI
    subst e1; subst e2
    have hk32 : k < 32 := by omega
    have hh := s_X_hasBit (d + 1) (i (W 0) x) (k := k) hk32 (i, l, rX q, kX K)
    rw [hEx k hk32, avl_15 h2] at hh
    have step : am_Ex (d + 2) mForcing_firstGoing 12 [.val (.ref 35), .val (.int (nI x)), .val (.int (nI N)), .val (.int (i (W 0) x)), .val (.int (nI k))] [] (i, l, rX q, kX K) = if (avl g (evb g) x k && wth g T N (tgt x k)) = true then some (some (.int (nI (deed k))), (i, l, rX q, kX K)) else am_Ex (d + 2) mForcing_firstGoing 12 [.val (.ref 35), .val (.int (nI x)), .val (.int (nI N)), .val (.int (i (W 0) x)), .val (.int (nI (k + 1)))] [] (i, l, rX q, kX K) := by
      rw [b_Forcing_firstGoing_12, decide_eq_false (show ¬ (32 : Int32) ≤ nI k from by
        show ¬ nI 32 ≤ nI k
        rw [q_le (by omega) (by omega)]; omega), cond_false, hh, am_bd_some, q_app, b_Forcing_firstGoing_25]
      cases hav : avl g (evb g) x k with
      | false =>
        rw [if_neg (by decide), show decide (nI 0 = (0 : Int32)) = true from rfl, cond_true, b_Forcing_firstGoing_48, show nI k + (1 : Int32) = nI (k + 1) from nI_add k 1, Bool.false_and, if_neg (by decide)]
      | true =>
        have ht := hL.2.1 x hx k hk32 hav
        rw [if_pos rfl, show decide (nI 1 = (0 : Int32)) = false from rfl, cond_false, s_Goings_gone d hx4 hk32, am_bd_some]
        show am_Ex _ _ _ _ [.int (nI (tgt x k)), .ref 35] _ = _
        rw [b_Forcing_firstGoing_35, s_isWithin (d + 1) hQ hL hT hb ht hN, am_bd_some, q_app, b_Forcing_firstGoing_39, Bool.true_and]
        by_cases c : T (tgt x k) < N ∧ T (sFl g (g 3) (tgt x k)) < N
        · rw [if_pos c, show decide (nI 1 = (0 : Int32)) = false from rfl, cond_false, s_Goings_deedOf (d + 1) hk32, am_bd_some, q_app, b_Forcing_firstGoing_47, if_pos (show wth g T N (tgt x k) = true from decide_eq_true c)]
        · rw [if_neg c, show decide (nI 0 = (0 : Int32)) = true from rfl, cond_true, b_Forcing_firstGoing_48, show nI k + (1 : Int32) = nI (k + 1) from nI_add k 1, if_neg (show ¬ wth g T N (tgt x k) = true from by unfold wth; rw [decide_eq_false c]; decide)]
    refine ⟨fun hbb => ?_, fun hbb => ?_⟩
    · rw [step, if_pos hbb]
    · rw [step, if_neg (by
        have hbb : (avl g (evb g) x k && wth g T N (tgt x k)) = false := hbb
        rw [hbb]; decide)]
      exact Go_in ⟨rfl, rfl⟩
  · obtain ⟨e1, e2⟩ := hI
    subst e1; subst e2
    rw [b_Forcing_firstGoing_12, show decide ((32 : Int32) ≤ nI (0 + 32)) = true from rfl, cond_true, s_isWithin (d + 1) hQ hL hT hb hx hN, am_bd_some, q_app, b_Forcing_firstGoing_60]
    by_cases c : T x < N ∧ T (sFl g (g 3) x) < N
    · rw [if_pos c, show decide (nI 1 = (0 : Int32)) = false from rfl, cond_false, b_Forcing_firstGoing_69, if_pos (show wth g T N x = true from decide_eq_true c)]; rfl
    · rw [if_neg c, show decide (nI 0 = (0 : Int32)) = true from rfl, cond_true, b_Forcing_firstGoing_69, if_neg (show ¬ wth g T N x = true from by unfold wth; rw [decide_eq_false c]; decide)]; rfl
end
