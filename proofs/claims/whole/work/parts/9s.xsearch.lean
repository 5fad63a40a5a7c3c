/-! THE CLASS: a search's rows -/
theorem VS_go {g : Nat → Nat} {m s j : Nat} (h2 : g 2 ≤ 4) (h1 : g 1 ≤ 6) (hs : s < 4096) (hv : VS g s) (ha : avl g m s j = true) : VS g (tgt s j) ∧ tgt s j < 4096 := by
  have hj : j < 8 * g 2 := avl_lt ha
  have hp : j / 8 < g 2 := by omega
  have hx8 : j % 8 < 8 := Nat.mod_lt _ (by decide)
  unfold avl gBit at ha
  have hb : (sGo g s (j / 8) (g (10 + j / 8))).testBit (j % 8) = true := by
    by_cases c : j / 8 < g 2 ∧ m.testBit (j / 8) = true
    · rw [if_pos c] at ha; exact ha
    · rw [if_neg c] at ha; simp at ha
  unfold sGo at hb
  rw [bs_bit, Bool.and_eq_true, decide_eq_true_eq] at hb
  obtain ⟨b1, b2⟩ := hb
  unfold sGB at b2
  rw [Bool.and_eq_true] at b2
  have hw : sWho g s (j % 8) = none := by simpa using b2.2
  obtain ⟨v1, v2, v3⟩ := hv
  unfold tgt
  have dp : ∀ k, k < 4 → dg (wp s (j / 8) (j % 8)) k = if k = j / 8 then j % 8 else dg s k := by
    intro k hk
    by_cases e : k = j / 8
    · rw [if_pos e, e]; exact dg_wp hs (by omega) hx8
    · rw [if_neg e]; exact dg_wn hs (by omega) hk hx8 e
  refine ⟨⟨fun k hk => ?_, fun k t hk ht hne hsp => ?_, fun k h1 hk => ?_⟩, wp_lt hs (by omega) hx8⟩
  · rw [dp k hk]
    split
    · omega
    · exact v1 k hk
  · rw [dp k hk] at hsp ⊢
    rw [dp t ht]
    by_cases e1 : k = j / 8
    · rw [if_pos e1] at hsp
      rw [if_pos e1, if_neg (by omega)]
      by_cases ht2 : t < g 2
      · exact fun z => sWho_none hw hsp t ht2 z.symm
      · rw [v3 t (by omega) ht]
        intro z
        rw [z, sSpot_0] at hsp; cases hsp
    · rw [if_neg e1] at hsp
      rw [if_neg e1]
      by_cases e2 : t = j / 8
      · rw [if_pos e2]
        by_cases hk2 : k < g 2
        · intro z
          exact sWho_none hw (by rw [← z]; exact hsp) k hk2 z
        · rw [v3 k (by omega) hk, sSpot_0] at hsp; cases hsp
      · rw [if_neg e2]
        exact v2 k t hk ht hne hsp
  · rw [dp k hk, if_neg (by omega)]
    exact v3 k h1 hk
section
variable {i i' : Nat → Nat → Int32} {l l' : Nat → Nat → Int64} {q q' : Nat → Nat → Option Nat} {K K' : List (Nat × Nat)} {r m : Nat} {g : Nat → Nat} {ρ : Nat → Nat → Nat}
/-- the search's cells -/
def SC (cm qu n : Nat) (q : Nat → Nat → Option Nat) (K : List (Nat × Nat)) : Prop := (q 27 1 = some cm ∧ q 27 2 = some qu) ∧ (WDc cm ∧ WDc qu ∧ cm ≠ qu) ∧ (kK K cm = 100 ∧ kK K qu = 100) ∧ lK K cm = n ∧ lK K qu = n ∧ n ≤ 4096
/-- what is in them -/
def SL (cm qu n : Nat) (L : List Nat) (i : Nat → Nat → Int32) : Prop := i 27 3 = nI L.length ∧ L.length ≤ n ∧ (∀ k, k < L.length → i qu k = nI (L.getD k 0)) ∧ (∀ x, x ∈ L → x < n) ∧ ∀ x, x < n → (i cm x ≠ nI 0 ↔ x ∈ L)
theorem wd27 {c : Nat} (h : WDc c) : (27 : Nat) ≠ c ∧ (22 : Nat) ≠ c ∧ (11 : Nat) ≠ c := by
  rcases h with h | h | h | h | h | h | h | h | h | h | h <;> omega
theorem y_seen (d : Nat) {cm qu n x : Nat} (by_ : Int32) (hS : SC cm qu n q K) (hx : x < n) (hs : i cm x ≠ nI 0) : am_cl (d + 1) mSearch_visit [.ref 27, .int (nI x), .int by_] (i, l, rX q, kX K) = some (none, (i, l, rX q, kX K)) := by
  obtain ⟨⟨q1, q2⟩, ⟨w1, w2, w3⟩, ⟨k1, k2⟩, l1, l2, hn⟩ := hS
  have q1' : rX q 27 1 = some cm := q1
  rw [c_Search_visit, b_Search_visit_0, decide_eq_false (show ¬ nI x < (0 : Int32) from by
    show ¬ nI x < nI 0
    rw [q_lt (by omega) (by omega)]; omega), cond_false, q1']
  dsimp only
  rw [show (Nat.ble 100 (am_kd (i, l, rX q, kX K) cm) && Nat.ble (am_kd (i, l, rX q, kX K) cm) 105) = true from by rw [show am_kd (i, l, rX q, kX K) cm = 100 from k1]; rfl, cond_true, decide_eq_false (show ¬ Int32.ofNat (am_ln (i, l, rX q, kX K) cm) ≤ nI x from by
    rw [show am_ln (i, l, rX q, kX K) cm = n from l1]
    show ¬ nI n ≤ nI x
    rw [q_le (by omega) (by omega)]; omega), cond_false, show (Nat.beq (am_kd (i, l, rX q, kX K) cm) 100 && am_in (nI x) (am_ln (i, l, rX q, kX K) cm)) = true from by
    rw [show am_kd (i, l, rX q, kX K) cm = 100 from k1, show am_ln (i, l, rX q, kX K) cm = n from l1, in16 hx (by omega)]; rfl, cond_true, nI_clamp (by omega), decide_eq_true (show ¬ i cm x = (0 : Int32) from hs), cond_true, b_Search_visit_34]
/-- a goal, or none -/
def gz (g : Nat → Nat) (z : Option Nat) (x : Nat) : Bool := match z with
  | none => false
  | some zz => gl g zz x
theorem y_visit (d : Nat) {cm qu n x N : Nat} {z : Option Nat} (by_ : Int32) (hV : RV (i, l, rX q, kX K) r g) (hW : WG g) (hq : q 22 1 = some r) (hN1 : RNc q r cm) (hN2 : RNc q r qu) (hS : SC cm qu n q K) (hx : x < n) (hx4 : x < 4096) (h0 : i cm x = nI 0) (h3 : i 27 3 = nI N) (hNn : N < n) (h4 : i 27 4 = vW z) (hz : ∀ zz, z = some zz → zz < 16) : ∃ i', am_cl (d + 3) mSearch_visit [.ref 27, .int (nI x), .int by_] (i, l, rX q, kX K) = some (none, (i', l, rX q, kX K)) ∧ (∀ k, i' cm k = if k = x then by_ else i cm k) ∧ (∀ k, i' qu k = if k = N then nI x else i qu k) ∧ i' 27 3 = nI (N + 1) ∧ i' 27 5 = (if gz g z x = true then nI x else i 27 5) ∧ (∀ k, k ≠ 3 → k ≠ 5 → i' 27 k = i 27 k) ∧ ∀ c, c ≠ 27 → c ≠ cm → c ≠ qu → i' c = i c := by
  obtain ⟨⟨q1, q2⟩, ⟨w1, w2, w3⟩, ⟨k1, k2⟩, l1, l2, hn⟩ := hS
  have q1' : rX q 27 1 = some cm := q1
  have q2' : rX q 27 2 = some qu := q2
  have hq' : rX q 22 1 = some r := hq
  have n1 := (wd27 w1).1
  have n2 := (wd27 w2).1
  have kc : ∀ i' : Nat → Nat → Int32, (Nat.ble 100 (am_kd (i', l, rX q, kX K) cm) && Nat.ble (am_kd (i', l, rX q, kX K) cm) 105) = true := fun i' => by rw [show am_kd (i', l, rX q, kX K) cm = 100 from k1]; rfl
  have kq : ∀ i' : Nat → Nat → Int32, (Nat.ble 100 (am_kd (i', l, rX q, kX K) qu) && Nat.ble (am_kd (i', l, rX q, kX K) qu) 105) = true := fun i' => by rw [show am_kd (i', l, rX q, kX K) qu = 100 from k2]; rfl
  have ic : ∀ i' : Nat → Nat → Int32, (Nat.beq (am_kd (i', l, rX q, kX K) cm) 100 && am_in (nI x) (am_ln (i', l, rX q, kX K) cm)) = true := fun i' => by
    rw [show am_kd (i', l, rX q, kX K) cm = 100 from k1, show am_ln (i', l, rX q, kX K) cm = n from l1, in16 hx (by omega)]; rfl
  have iq : ∀ i' : Nat → Nat → Int32, (Nat.beq (am_kd (i', l, rX q, kX K) qu) 100 && am_in (nI N) (am_ln (i', l, rX q, kX K) qu)) = true := fun i' => by
    rw [show am_kd (i', l, rX q, kX K) qu = 100 from k2, show am_ln (i', l, rX q, kX K) qu = n from l2, in16 hNn (by omega)]; rfl
  obtain ⟨i1, hi1⟩ : ∃ i1, am_u2 i cm x by_ = i1 := ⟨_, rfl⟩
  have h13 : i1 27 3 = nI N := by rw [← hi1]; simp only [am_u2]; rw [if_neg n1]; exact h3
  obtain ⟨i2, hi2⟩ : ∃ i2, am_u2 i1 qu N (nI x) = i2 := ⟨_, rfl⟩
  have h23 : i2 27 3 = nI N := by rw [← hi2]; simp only [am_u2]; rw [if_neg n2]; exact h13
  have h24 : i2 27 4 = vW z := by
    rw [← hi2, ← hi1]; simp only [am_u2]; rw [if_neg n2, if_neg n1]; exact h4
  obtain ⟨i3, hi3⟩ : ∃ i3, am_u2 i2 27 3 (nI (N + 1)) = i3 := ⟨_, rfl⟩
  have rows : (∀ k, i3 cm k = if k = x then by_ else i cm k) ∧ (∀ k, i3 qu k = if k = N then nI x else i qu k) ∧ i3 27 3 = nI (N + 1) ∧ i3 27 5 = i 27 5 ∧ (∀ k, k ≠ 3 → i3 27 k = i 27 k) ∧ ∀ c, c ≠ 27 → c ≠ cm → c ≠ qu → i3 c = i c := by
    rw [← hi3, ← hi2, ← hi1]
    refine ⟨fun k => ?_, fun k => ?_, ?_, ?_, fun k hk => ?_, fun c c1 c2 c3 => ?_⟩
    · simp only [am_u2]
      rw [if_neg (fun z => n1 z.symm), if_neg w3, if_pos trivial]
    · simp only [am_u2]
      rw [if_neg (fun z => n2 z.symm), if_pos trivial, if_neg (show ¬ qu = cm from fun z => w3 z.symm)]
    · simp only [am_u2]
      rw [if_pos trivial, if_pos trivial]
    · simp only [am_u2]
      rw [if_pos trivial, if_neg (by decide), if_neg n2, if_neg n1]
    · simp only [am_u2]
      rw [if_pos trivial, if_neg hk, if_neg n2, if_neg n1]
    · funext k
      simp only [am_u2]
      rw [if_neg c1, if_neg c3, if_neg c2]
  obtain ⟨r1, r2, r3, r4, r5, r6⟩ := rows
  rw [c_Search_visit, b_Search_visit_0, decide_eq_false (show ¬ nI x < (0 : Int32) from by
    show ¬ nI x < nI 0
    rw [q_lt (by omega) (by omega)]; omega), cond_false, q1']
  dsimp only
  rw [kc, cond_true, decide_eq_false (show ¬ Int32.ofNat (am_ln (i, l, rX q, kX K) cm) ≤ nI x from by
    rw [show am_ln (i, l, rX q, kX K) cm = n from l1]
    show ¬ nI n ≤ nI x
    rw [q_le (by omega) (by omega)]; omega), cond_false, ic, cond_true, nI_clamp (by omega), decide_eq_false (show ¬ ¬ i cm x = (0 : Int32) from fun z => z h0), cond_false, q2']
  dsimp only
  rw [kq, cond_true, h3, decide_eq_true (show nI N < Int32.ofNat (am_ln (i, l, rX q, kX K) qu) from by
    rw [show am_ln (i, l, rX q, kX K) qu = n from l2]
    show nI N < nI n
    rw [q_lt (by omega) (by omega)]; exact hNn), cond_true, cond_true, hi1, h13, iq, cond_true, nI_clamp (by omega), hi2, h23, h24, show nI N + (1 : Int32) = nI (N + 1) from nI_add N 1, hi3]
  cases z with
  | none =>
    rw [show decide (vW none = (-1 : Int32)) = true from rfl, cond_true, b_Search_visit_98]
    exact ⟨i3, rfl, r1, r2, r3, by rw [r4]; rfl, fun k a _ => r5 k a, r6⟩
  | some zz =>
    have hzz := hz zz rfl
    have hvz : vW (some zz) = nI zz := rfl
    have hV3 : RV (i3, l, rX q, kX K) r g := RV_mv hV (fun c hc hd _ => ⟨r6 c (by rcases hd with h | h | h | h <;> omega) (by
      rcases hc with hc | ⟨k, k5, k8, hc⟩
      · rw [hc]; exact hN1.1
      · exact hN1.2 k c k5 k8 hc) (by
      rcases hc with hc | ⟨k, k5, k8, hc⟩
      · rw [hc]; exact hN2.1
      · exact hN2.2 k c k5 k8 hc), rfl, rfl⟩) rfl
    have hov := s_River_over (i := i3) (l := l) (q := rX q) (K := kX K) (r := r) d (a := x) (g := g) hx4 (by rw [hV3.2.1]; rfl) hV3.2.2.1 hV3.2.2.2.1 hW.1.2 hW.2.1
    have hkr : Nat.beq (am_kd (i3, l, rX q, kX K) r) 6 = true := by rw [hV3.2.1]; rfl
    rw [hvz, decide_eq_false (show ¬ nI zz = (-1 : Int32) from by
      show ¬ nI zz = -nI 1
      rw [q_m1 (by omega)]; exact id), cond_false, hq']
    dsimp only
    rw [hkr, Bool.true_and, cond_true, hov, am_bd_some, q_app, b_Search_visit_81, show i3 27 4 = nI zz from by rw [r5 4 (by decide), h4, hvz], fa_and]
    have hlt : sOver g x &&& zz ≤ zz := Nat.and_le_right
    by_cases c : sOver g x &&& zz = zz
    · have hgz : gz g (some zz) x = true := by unfold gz gl; exact decide_eq_true c
      rw [c, decide_eq_false (fun w => w rfl), cond_false, b_Search_visit_98]
      refine ⟨_, rfl, fun k => ?_, fun k => ?_, ?_, ?_, fun k a b => ?_, fun c' a b e => ?_⟩
      · simp only [am_u2]; rw [if_neg (fun z => n1 z.symm)]; exact r1 k
      · simp only [am_u2]; rw [if_neg (fun z => n2 z.symm)]; exact r2 k
      · simp only [am_u2]; rw [if_pos trivial, if_neg (by decide)]; exact r3
      · rw [if_pos hgz]; simp [am_u2]
      · simp only [am_u2]; rw [if_pos trivial, if_neg b]; exact r5 k a
      · funext k
        simp only [am_u2]
        rw [if_neg a, r6 c' a b e]
    · have hgz : ¬ gz g (some zz) x = true := by unfold gz gl; rw [decide_eq_true_eq]; exact c
      rw [decide_eq_true (show ¬ nI (sOver g x &&& zz) = nI zz from by rw [q_eq (by omega) (by omega)]; exact c), cond_true, b_Search_visit_98]
      exact ⟨i3, rfl, r1, r2, r3, by rw [r4, if_neg hgz], fun k a _ => r5 k a, r6⟩
end
