/-! THE CLASS: a river as it is kept, would-hold -/
/-- cells of rivers that can be told -/
def Dyn (x : Nat) : Prop := x = 7 ∨ x = 8 ∨ x = 9 ∨ 58 ≤ x
def RVl (s : aM) (r law : Nat) (g : Nat → Nat) : Prop := (g (4 + law) = 0 → s.2.2.1 r (7 + law) = none) ∧ (g (4 + law) ≠ 0 → ∃ c, s.2.2.1 r (7 + law) = some c ∧ am_kd s c = 100 ∧ am_ln s c = g (8 + law) ∧ Dyn c ∧ ∀ k, k < g (8 + law) → s.1 c k = tc (cdl g law k))
def RVa (s : aM) (r k b : Nat) (g : Nat → Nat) : Prop := ∃ a, s.2.2.1 r k = some a ∧ am_kd s a = 100 ∧ am_ln s a = 4 ∧ Dyn a ∧ ∀ p, p < 4 → s.1 a p = nI (g (b + p))
/-- cell r is the river that g tells -/
def RV (s : aM) (r : Nat) (g : Nat → Nat) : Prop := Dyn r ∧ am_kd s r = 6 ∧ s.1 r 0 = nI (g 1) ∧ s.1 r 1 = nI (g 2) ∧ s.1 r 2 = nI (g 3) ∧ s.1 r 3 = nI (g 0) ∧ RVa s r 5 10 g ∧ RVa s r 6 14 g ∧ RVl s r 0 g ∧ RVl s r 1 g
theorem Dyn_fr {R : List Nat} {i i' : Nat → Nat → Int32} (h : Fr R i i') (hR : (R.all fun x => Nat.blt x 58 && !(x == 7 || x == 8 || x == 9)) = true) {x : Nat} (hx : Dyn x) : i' x = i x := by
  apply h
  cases hc : R.contains x with
  | false => rfl
  | true =>
    exfalso
    have hm : x ∈ R := by simpa using hc
    have := List.all_eq_true.mp hR x hm
    rcases hx with rfl | rfl | rfl | h
    · simp at this
    · simp at this
    · simp at this
    · have e1 : Nat.blt x 58 = false := by
        cases hb : Nat.blt x 58 with
        | false => rfl
        | true => exact absurd (Nat.le_of_ble_eq_true hb) (by omega)
      rw [e1] at this
      simp at this
theorem RV_fr {R : List Nat} {i i' : Nat → Nat → Int32} {l l' : Nat → Nat → Int64} {q : Nat → Nat → Option Nat} {K : List (Nat × Nat)} {r : Nat} {g : Nat → Nat} (h : Fr R i i') (hR : (R.all fun x => Nat.blt x 58 && !(x == 7 || x == 8 || x == 9)) = true) (hV : RV (i, l, q, K) r g) : RV (i', l', q, K) r g := by
  obtain ⟨a1, a2, a3, a4, a5, a6, ⟨x, x1, x2, x3, x4, x5⟩, ⟨y, y1, y2, y3, y4, y5⟩, a9, a10⟩ := hV
  have hr := Dyn_fr h hR a1
  have hrr : ∀ k, i' r k = i r k := fun k => by rw [hr]
  have law : ∀ m, RVl (i, l, q, K) r m g → RVl (i', l', q, K) r m g := fun m ⟨b1, b2⟩ => ⟨b1, fun z => by
    obtain ⟨c, c1, c2, c3, c4', c5⟩ := b2 z
    exact ⟨c, c1, c2, c3, c4', fun k hk => by show i' c k = _; rw [Dyn_fr h hR c4']; exact c5 k hk⟩⟩
  exact ⟨a1, a2, (hrr 0).trans a3, (hrr 1).trans a4, (hrr 2).trans a5, (hrr 3).trans a6, ⟨x, x1, x2, x3, x4, fun p hp => by show i' x p = _; rw [Dyn_fr h hR x4]; exact x5 p hp⟩, ⟨y, y1, y2, y3, y4, fun p hp => by show i' y p = _; rw [Dyn_fr h hR y4]; exact y5 p hp⟩, law 0 a9, law 1 a10⟩
/-- a run of the class ends so, with no new cells -/
def XR (q : Nat → Nat → Option Nat) (K : List (Nat × Nat)) (v : Option Value) (P : (Nat → Nat → Int32) → (Nat → Nat → Int64) → Prop) (o : Option aR) : Prop := ∃ i' l', o = some (v, (i', l', rX q, kX K)) ∧ P i' l'
section
variable {i : Nat → Nat → Int32} {l : Nat → Nat → Int64} {q : Nat → Nat → Option Nat} {K : List (Nat × Nat)} {r : Nat} {g : Nat → Nat}
theorem XR_some {v : Option Value} {P : (Nat → Nat → Int32) → (Nat → Nat → Int64) → Prop} (h : P i l) : XR q K v P (some (v, (i, l, rX q, kX K))) := ⟨i, l, rfl, h⟩
theorem XR_q {v : Option Value} {P : (Nat → Nat → Int32) → (Nat → Nat → Int64) → Prop} {o : Option aR} (h : ∀ Q : (Nat → Nat → Int32) → (Nat → Nat → Int64) → Prop, (∀ i' l', P i' l' → Q i' l') → XR q K v Q o) : XR q K v P o := h P (fun _ _ z => z)
theorem r_Ford_wouldHold (d : Nat) {m p str x bes water : Nat} (hV : RV (i, l, rX q, kX K) r g) (hL : LW g 0) (hq : rX q 11 1 = some r) (hm : l 11 2 = lN m) (hm2 : m < 4503599627370496) (hd : dpm m (x - 1) = g (25 + x)) (hx1 : 1 ≤ x) (hx6 : x ≤ 6) (hs : str < 1000) (hw : water < 1000) : XR q K (some (.int (if sWould g p str x bes water = true then nI 1 else nI 0))) (fun i' l' => l' = l ∧ Fr [13, 14] i i') (am_cl (d + 2) mFord_wouldHold [.ref 11, .int (nI p), .int (nI str), .int (nI x), .int (nI bes), .int (nI water)] (i, l, rX q, kX K)) := by
  obtain ⟨a1, a2, a3, a4, a5, a6, _, _, ⟨b1, b2⟩, _⟩ := hV
  have hk : ∀ i', Nat.beq (am_kd (i', l, rX q, kX K) r) 6 = true := fun i' => by rw [show am_kd (i', l, rX q, kX K) r = 6 from a2]; rfl
  refine XR_q ?_
  intro Q hQ
  rw [c_Ford_wouldHold, b_Ford_wouldHold_0, hq]
  unfold sWould
  by_cases h4 : g 4 = 0
  · rw [if_pos h4]
    have b1 : rX q r 7 = none := b1 h4
    by_cases hc : water ≤ str
    · simp (disch := first | assumption | omega) only [b_Ford_wouldHold_0, b_Ford_wouldHold_21, b_Ford_wouldHold_33, b_Ford_wouldHold_44, b_Ford_wouldHold_55, b_Ford_wouldHold_70, b_Ford_wouldHold_73, b_Ford_wouldHold_85, b_Ford_wouldHold_97, b_Ford_wouldHold_111, s_Law_isTrue, s_Law_tell, s_X_depthOf, ↓Bool.cond_decide, ↓q_in, q_le, q_lt, q_eq, q_leT, q_leF, q_ltT, q_ltF, q_eqT, q_eqF, ↓reduceIte, not_true_eq_false, not_false_eq_true, true_and, and_true, and_self, false_and, and_false, Nat.zero_le, am_bd_some, q_app, q_app0, nI_add, pk_sub, pk_mul, q_dec, q_ix, q_m1, q_m1', ↓q_ret, q_bool, q_bool1, q_u2, q_u1, q_shl1, q_shr, q_and7, q_dg, fa_or, fa_and, decide_true, decide_false, Bool.or_false, Bool.or_true, Bool.true_or, Bool.false_or, cond_true, cond_false, ite_not, q_some, q_nn, q_xor, q_xorm, Bool.false_eq_true, decide_eq_true_eq, ne_eq, l_0, l_1, l_2, l_3, l_6, l_7, l_9, l_10, l_11, l_12, l_21, l_33, l_44, l_55, l_70, l_73, l_85, l_97, l_111, l_128, l_129, l_130, l_131, l_132, l_133, hk, b1, cond_true, hc]
      exact XR_some (hQ _ _ ⟨rfl, Fr_refl _ _⟩)
    · simp (disch := first | assumption | omega) only [b_Ford_wouldHold_0, b_Ford_wouldHold_21, b_Ford_wouldHold_33, b_Ford_wouldHold_44, b_Ford_wouldHold_55, b_Ford_wouldHold_70, b_Ford_wouldHold_73, b_Ford_wouldHold_85, b_Ford_wouldHold_97, b_Ford_wouldHold_111, s_Law_isTrue, s_Law_tell, s_X_depthOf, ↓Bool.cond_decide, ↓q_in, q_le, q_lt, q_eq, q_leT, q_leF, q_ltT, q_ltF, q_eqT, q_eqF, ↓reduceIte, not_true_eq_false, not_false_eq_true, true_and, and_true, and_self, false_and, and_false, Nat.zero_le, am_bd_some, q_app, q_app0, nI_add, pk_sub, pk_mul, q_dec, q_ix, q_m1, q_m1', ↓q_ret, q_bool, q_bool1, q_u2, q_u1, q_shl1, q_shr, q_and7, q_dg, fa_or, fa_and, decide_true, decide_false, Bool.or_false, Bool.or_true, Bool.true_or, Bool.false_or, cond_true, cond_false, ite_not, q_some, q_nn, q_xor, q_xorm, Bool.false_eq_true, decide_eq_true_eq, ne_eq, l_0, l_1, l_2, l_3, l_6, l_7, l_9, l_10, l_11, l_12, l_21, l_33, l_44, l_55, l_70, l_73, l_85, l_97, l_111, l_128, l_129, l_130, l_131, l_132, l_133, hk, b1, cond_true, hc]
      exact XR_some (hQ _ _ ⟨rfl, Fr_refl _ _⟩)
  · rw [if_neg h4]
    obtain ⟨c, c1, c2, c3, c4', c5⟩ := b2 h4
    have c1 : rX q r 7 = some c := c1
    obtain ⟨_, hL2⟩ := hL
    obtain ⟨hf, hwd, T, h0, h1, hT⟩ := hL2 h4
    have hf : g 6 + g 8 ≤ 900 := hf
    obtain ⟨y, rfl⟩ : ∃ y, x = y + 1 := ⟨x - 1, by omega⟩
    rw [Nat.add_sub_cancel] at hd
    have t : ∀ w, w < 10 → ∀ i' v, am_cl (d + 1) mLaw_tell [.ref 12, .int (nI (128 + w)), .int v] (i', l, rX q, kX K) = some (none, (am_u2 i' 14 w v, l, rX q, kX K)) := fun w hw i' v => s_Law_tell d hw v
    have t0 := t 0 (by decide)
    have t1 := t 1 (by decide)
    have t2 := t 2 (by decide)
    have t3 := t 3 (by decide)
    have t4 := t 4 (by decide)
    have t5 := t 5 (by decide)
    have hdp := fun s => s_X_depthOf d (m := m) (t := y) (by omega) (by omega) s
    rw [hd] at hdp
    have hc13 : c ≠ 13 := by rcases c4' with h | h | h | h <;> omega
    have hc14 : c ≠ 14 := by rcases c4' with h | h | h | h <;> omega
    obtain ⟨i6, hi6⟩ : ∃ i6, am_u2 (am_u2 (am_u2 (am_u2 (am_u2 (am_u2 i 14 0 (nI p)) 14 1 (nI str)) 14 2 (nI (y + 1))) 14 3 (nI (g (25 + (y + 1))))) 14 4 (nI bes)) 14 5 (nI water) = i6 := ⟨_, rfl⟩
    have hfr : Fr [13, 14] i i6 := by
      rw [← hi6]
      exact Fr_u2 rfl (Fr_u2 rfl (Fr_u2 rfl (Fr_u2 rfl (Fr_u2 rfl (Fr_u2 rfl (Fr_refl _ _))))))
    have hrow : i6 c = i c := hfr c (by
      rw [show ([13, 14] : List Nat).contains c = (c == 13 || (c == 14 || false)) from rfl, beq_eq_false_iff_ne.mpr hc13, beq_eq_false_iff_ne.mpr hc14]; rfl)
    obtain ⟨f, hres⟩ := s_Law_isTrue (i := i6) (l := l) (q := q) (K := K) (r := c) d (n := g 8) (c := cdl g 0) (T := T) hc13 (by rw [show am_kd (i6, l, rX q, kX K) c = 100 from c2]; rfl) c3 (by omega) (fun k hk => by rw [hrow]; exact c5 k hk) h0 hT h1
    have e : evk (i6 14) (cdl g 0) (g 8) = evk (wH g p str (y + 1) bes water) (cdl g 0) (g 8) := evk_cong (c := cdl g 0) (fun k hk => T1_range (hT k hk)) (fun k hk h1 h2 => by
      have := hwd k hk h1 h2
      have hlt : cdl g 0 k - 1000 < 6 := by rcases this with h | h | h <;> omega
      generalize cdl g 0 k - 1000 = w at hlt
      rw [← hi6]
      rcases (show w = 0 ∨ w = 1 ∨ w = 2 ∨ w = 3 ∨ w = 4 ∨ w = 5 by omega) with rfl | rfl | rfl | rfl | rfl | rfl <;> rfl)
    rw [e] at hres
    simp (disch := first | assumption | omega) only [b_Ford_wouldHold_0, b_Ford_wouldHold_21, b_Ford_wouldHold_33, b_Ford_wouldHold_44, b_Ford_wouldHold_55, b_Ford_wouldHold_70, b_Ford_wouldHold_73, b_Ford_wouldHold_85, b_Ford_wouldHold_97, b_Ford_wouldHold_111, s_Law_isTrue, ↓Bool.cond_decide, ↓q_in, q_le, q_lt, q_eq, q_leT, q_leF, q_ltT, q_ltF, q_eqT, q_eqF, ↓reduceIte, not_true_eq_false, not_false_eq_true, true_and, and_true, and_self, false_and, and_false, Nat.zero_le, am_bd_some, q_app, q_app0, nI_add, pk_sub, pk_mul, q_dec, q_ix, q_m1, q_m1', ↓q_ret, q_bool, q_bool1, q_u1, q_shl1, q_shr, q_and7, q_dg, fa_or, fa_and, decide_true, decide_false, Bool.or_false, Bool.or_true, Bool.true_or, Bool.false_or, cond_true, cond_false, ite_not, q_some, q_nn, q_xor, q_xorm, Bool.false_eq_true, decide_eq_true_eq, ne_eq, l_0, l_1, l_2, l_3, l_6, l_7, l_9, l_10, l_11, l_12, l_21, l_33, l_44, l_55, l_70, l_73, l_85, l_97, l_111, l_128, l_129, l_130, l_131, l_132, l_133, hk, hq, c1, cond_true, hm, t0, t1, t2, t3, t4, t5, hdp, hi6, hres]
    by_cases hev : evk (wH g p str (y + 1) bes water) (cdl g 0) (g 8) = [nI 1]
    · simp (disch := first | assumption | omega) only [b_Ford_wouldHold_0, b_Ford_wouldHold_21, b_Ford_wouldHold_33, b_Ford_wouldHold_44, b_Ford_wouldHold_55, b_Ford_wouldHold_70, b_Ford_wouldHold_73, b_Ford_wouldHold_85, b_Ford_wouldHold_97, b_Ford_wouldHold_111, s_Law_isTrue, s_Law_tell, s_X_depthOf, ↓Bool.cond_decide, ↓q_in, q_le, q_lt, q_eq, q_leT, q_leF, q_ltT, q_ltF, q_eqT, q_eqF, ↓reduceIte, not_true_eq_false, not_false_eq_true, true_and, and_true, and_self, false_and, and_false, Nat.zero_le, am_bd_some, q_app, q_app0, nI_add, pk_sub, pk_mul, q_dec, q_ix, q_m1, q_m1', ↓q_ret, q_bool, q_bool1, q_u2, q_u1, q_shl1, q_shr, q_and7, q_dg, fa_or, fa_and, decide_true, decide_false, Bool.or_false, Bool.or_true, Bool.true_or, Bool.false_or, cond_true, cond_false, ite_not, q_some, q_nn, q_xor, q_xorm, Bool.false_eq_true, decide_eq_true_eq, ne_eq, l_0, l_1, l_2, l_3, l_6, l_7, l_9, l_10, l_11, l_12, l_21, l_33, l_44, l_55, l_70, l_73, l_85, l_97, l_111, l_128, l_129, l_130, l_131, l_132, l_133, hev]
      exact XR_some (hQ _ _ ⟨rfl, Fr_u1 rfl hfr⟩)
    · simp (disch := first | assumption | omega) only [b_Ford_wouldHold_0, b_Ford_wouldHold_21, b_Ford_wouldHold_33, b_Ford_wouldHold_44, b_Ford_wouldHold_55, b_Ford_wouldHold_70, b_Ford_wouldHold_73, b_Ford_wouldHold_85, b_Ford_wouldHold_97, b_Ford_wouldHold_111, s_Law_isTrue, s_Law_tell, s_X_depthOf, ↓Bool.cond_decide, ↓q_in, q_le, q_lt, q_eq, q_leT, q_leF, q_ltT, q_ltF, q_eqT, q_eqF, ↓reduceIte, not_true_eq_false, not_false_eq_true, true_and, and_true, and_self, false_and, and_false, Nat.zero_le, am_bd_some, q_app, q_app0, nI_add, pk_sub, pk_mul, q_dec, q_ix, q_m1, q_m1', ↓q_ret, q_bool, q_bool1, q_u2, q_u1, q_shl1, q_shr, q_and7, q_dg, fa_or, fa_and, decide_true, decide_false, Bool.or_false, Bool.or_true, Bool.true_or, Bool.false_or, cond_true, cond_false, ite_not, q_some, q_nn, q_xor, q_xorm, Bool.false_eq_true, decide_eq_true_eq, ne_eq, l_0, l_1, l_2, l_3, l_6, l_7, l_9, l_10, l_11, l_12, l_21, l_33, l_44, l_55, l_70, l_73, l_85, l_97, l_111, l_128, l_129, l_130, l_131, l_132, l_133, hev]
      exact XR_some (hQ _ _ ⟨rfl, Fr_u1 rfl hfr⟩)
end
