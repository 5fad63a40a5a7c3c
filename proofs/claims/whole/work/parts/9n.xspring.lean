/-! THE CLASS: springs, by sets of those who stand -/
/-- on the spots both stands are the same -/
def agr (g : Nat → Nat) (s t : Nat) : Prop := ∀ p, p < g 2 → sSpot g (dg s p) = sSpot g (dg t p) ∧ (sSpot g (dg s p) = true → dg s p = dg t p)
def wy (g : Nat → Nat) (n L : Nat) : Nat := sSum (fun s => if sUp g s = L then sp g (sNow g 4) n s else 0) 4096
def fcU (g : Nat → Nat) (s L : Nat) : Nat → Nat
  | 0 => 0
  | w + 1 => fcU g s L w + if sUp g (sFl g w s) = L then 1 else 0
section
variable {g : Nat → Nat} {s t : Nat}
theorem ff_cg {f h : Nat → Bool} : ∀ {n k : Nat}, (∀ j, k ≤ j → j < k + n → f j = h j) → ff f n k = ff h n k
  | 0, _, _ => rfl
  | n + 1, k, e => by rw [ff, ff, e k (by omega) (by omega), ff_cg (fun j h1 h2 => e j (by omega) (by omega))]
theorem agr_who (h : agr g s t) (x : Nat) : sWho g s x = sWho g t x := by
  unfold sWho
  by_cases hs : sSpot g x = true
  · rw [if_pos hs, if_pos hs]
    apply ff_cg
    intro p _ hp
    obtain ⟨h1, h2⟩ := h p (by omega)
    apply decide_eq_decide.mpr
    constructor
    · intro z
      rw [← h2 (by rw [z]; exact hs)]; exact z
    · intro z
      have : sSpot g (dg s p) = true := by rw [h1, z]; exact hs
      rw [h2 this]; exact z
  · rw [if_neg hs, if_neg hs]
theorem agr_up (h : agr g s t) : sUp g s = sUp g t := by
  unfold sUp
  exact bs_cong (fun p hp => (h p hp).1)
theorem agr_sw (h : agr g s t) (w : Nat) : sSw g w s = sSw g w t := by
  rw [sSw_e, sSw_e]
  apply bs_cong
  intro p hp
  obtain ⟨h1, h2⟩ := h p hp
  unfold swF
  rw [← h1]
  cases hs : sSpot g (dg s p) with
  | false => rfl
  | true =>
    unfold sHold sBes
    rw [h2 hs, agr_who h, agr_who h]
theorem agr_send (h : agr g s t) (m : Nat) (h2 : g 2 ≤ 4) (hs : s < 4096) (ht : t < 4096) : agr g (sSend s m (g 2)) (sSend t m (g 2)) := by
  intro p hp
  rw [dg_sSend hs _ h2 p (by omega), dg_sSend ht _ h2 p (by omega)]
  by_cases c : p < g 2 ∧ m.testBit p = true
  · rw [if_pos c, if_pos c]
    exact ⟨rfl, fun _ => rfl⟩
  · rw [if_neg c, if_neg c]
    exact h p hp
theorem agr_fl (h2 : g 2 ≤ 4) (w : Nat) : ∀ n s t, s < 4096 → t < 4096 → agr g s t → agr g (fl g w n s).1 (fl g w n t).1
  | 0, _, _, _, _, h => h
  | n + 1, s, t, hs, ht, h => by
    rw [fl, fl, agr_sw h w]
    by_cases c : sSw g w t = 0
    · rw [if_pos c, if_pos c]; exact h
    · rw [if_neg c, if_neg c]
      exact agr_fl h2 w n _ _ (sSend_lt hs _ h2) (sSend_lt ht _ h2) (agr_send h _ h2 hs ht)
theorem agr_sFl (h2 : g 2 ≤ 4) (hs : s < 4096) (ht : t < 4096) (h : agr g s t) (w : Nat) : sUp g (sFl g w s) = sUp g (sFl g w t) := agr_up (agr_fl h2 w 4 s t hs ht h)
theorem fcU_c (h : ∀ w, sUp g (sFl g w s) = sUp g (sFl g w t)) (L : Nat) : ∀ n, fcU g s L n = fcU g t L n
  | 0 => rfl
  | n + 1 => by rw [fcU, fcU, fcU_c h L n, h n]
theorem fcn_pos {x : Nat} : ∀ {n : Nat}, fcn g s x n ≠ 0 → ∃ w, sFl g w s = x
  | 0, h => absurd rfl h
  | n + 1, h => by
    rw [fcn_s] at h
    by_cases c : sFl g n s = x
    · exact ⟨n, c⟩
    · rw [if_neg c] at h
      exact fcn_pos (fun z => h (by rw [z]))
/-- who stands, stands where it stood -/
theorem sp_in (hW : WG g) : ∀ n s, s < 4096 → sp g (sNow g 4) n s ≠ 0 → ∀ p, p < 4 → sSpot g (dg s p) = true → dg s p = g (18 + p)
  | 0, s, _, h, p, hp, _ => by
    rw [sp] at h
    have e : s = sNow g 4 := by
      apply Classical.byContradiction
      intro z
      rw [if_neg z] at h; exact h rfl
    rw [e, dg_sNow hW.2.2.2.2.2.1 p hp]
  | n + 1, s, hs, h, p, hp, hsp => by
    rw [sp] at h
    obtain ⟨s0, hs0, h0⟩ := sSum_pos (Nat.pos_of_ne_zero h)
    have h1 : sp g (sNow g 4) n s0 ≠ 0 := fun z => by rw [z, Nat.zero_mul] at h0; omega
    have h2 : fcn g s0 s 10 ≠ 0 := fun z => by rw [z, Nat.mul_zero] at h0; omega
    obtain ⟨w, hw⟩ := fcn_pos h2
    have hd := dg_fl (g := g) (w := w) hW.2.1 4 s0 hs0 p hp
    have e : (fl g w 4 s0).1 = s := hw
    rw [e] at hd
    rcases hd with hd | ⟨hd, _⟩
    · rw [hd] at hsp ⊢
      exact sp_in hW n s0 hs0 h1 p hp hsp
    · rw [hd, sSpot_0] at hsp; cases hsp
theorem sp_agr (hW : WG g) {n : Nat} (hs : s < 4096) (h : sp g (sNow g 4) n s ≠ 0) : agr g s (stG g (sUp g s)) := by
  intro p hp
  have h2 := hW.2.1
  have hU := sUp_lt (g := g) (a := s) h2
  rw [dg_stG hW hU (by omega)]
  have e : (sUp g s).testBit p = sSpot g (dg s p) := by
    unfold sUp
    rw [bs_bit, decide_eq_true hp, Bool.true_and]
  rw [e]
  cases hb : sSpot g (dg s p) with
  | true =>
    have := sp_in hW n s hs h p (by omega) hb
    rw [if_pos rfl, ← this, hb]
    exact ⟨rfl, fun _ => rfl⟩
  | false =>
    rw [if_neg (by decide), sSpot_0]
    exact ⟨rfl, fun z => by cases z⟩
theorem sum_at (f : Nat → Nat) {x : Nat} : ∀ {n : Nat}, sSum (fun L => if x = L then f L else 0) n = if x < n then f x else 0
  | 0 => by simp [sSum]
  | n + 1 => by
    rw [sSum, sum_at f]
    by_cases c : x = n
    · subst c
      rw [if_neg (Nat.lt_irrefl _), if_pos rfl, if_pos (by omega), Nat.zero_add]
    · rw [if_neg c]
      by_cases c2 : x < n
      · rw [if_pos c2, if_pos (by omega)]; rfl
      · rw [if_neg c2, if_neg (by omega)]
/-- sums over stands, by sets -/
theorem wy_h (h2 : g 2 ≤ 4) (n : Nat) (h : Nat → Nat) : sSum (fun L => wy g n L * h L) 16 = sSum (fun s => sp g (sNow g 4) n s * h (sUp g s)) 4096 := by
  have e : ∀ L, wy g n L * h L = sSum (fun s => if sUp g s = L then sp g (sNow g 4) n s * h L else 0) 4096 := by
    intro L
    unfold wy
    rw [← sSum_mulr]
    apply sSum_cong
    intro s _
    split
    · rfl
    · rw [Nat.zero_mul]
  rw [show (fun L => wy g n L * h L) = fun L => sSum (fun s => if sUp g s = L then sp g (sNow g 4) n s * h L else 0) 4096 from funext e, sSum_comm]
  apply sSum_cong
  intro s _
  rw [sum_at (fun L => sp g (sNow g 4) n s * h L), if_pos (sUp_lt h2)]
theorem fcU_sum (h2 : g 2 ≤ 4) (hs : s < 4096) (L : Nat) : ∀ w, sSum (fun x => if sUp g x = L then fcn g s x w else 0) 4096 = fcU g s L w
  | 0 => by
    rw [fcU, show (fun x => if sUp g x = L then fcn g s x 0 else 0) = fun _ => 0 from funext (fun x => by simp [fcn]), sSum_zero]
  | w + 1 => by
    rw [fcU, ← fcU_sum h2 hs L w]
    have e : (fun x => if sUp g x = L then fcn g s x (w + 1) else 0) = fun x => (if sUp g x = L then fcn g s x w else 0) + (if sFl g w s = x then (if sUp g x = L then 1 else 0) else 0) := by
      funext x
      rw [fcn_s]
      by_cases c : sUp g x = L
      · rw [if_pos c, if_pos c, if_pos c]
      · rw [if_neg c, if_neg c, if_neg c]; simp
    rw [e, sSum_add, sum_at (fun x => if sUp g x = L then 1 else 0), if_pos (sFl_lt h2 hs)]
theorem wy_s (hW : WG g) (n L : Nat) : wy g (n + 1) L = sSum (fun M => wy g n M * fcU g (stG g M) L 10) 16 := by
  have h2 := hW.2.1
  rw [wy_h h2 n (fun M => fcU g (stG g M) L 10)]
  unfold wy
  have e : (fun x => if sUp g x = L then sp g (sNow g 4) (n + 1) x else 0) = fun x => sSum (fun s => sp g (sNow g 4) n s * (if sUp g x = L then fcn g s x 10 else 0)) 4096 := by
    funext x
    by_cases c : sUp g x = L
    · rw [if_pos c, sp]
      apply sSum_cong
      intro s _
      rw [if_pos c]
    · rw [if_neg c, show (fun s => sp g (sNow g 4) n s * (if sUp g x = L then fcn g s x 10 else 0)) = fun _ => 0 from funext (fun s => by rw [if_neg c, Nat.mul_zero]), sSum_zero]
  rw [e, sSum_comm]
  apply sSum_cong
  intro s hs
  rw [sSum_mul, fcU_sum h2 hs]
  by_cases c : sp g (sNow g 4) n s = 0
  · rw [c, Nat.zero_mul, Nat.zero_mul]
  · rw [fcU_c (fun w => agr_sFl h2 hs (stG_lt hW) (sp_agr hW hs c) w) L 10]
theorem wy_0 (hW : WG g) (L : Nat) : wy g 0 L = if L = sUp g (sNow g 4) then 1 else 0 := by
  have hn := sNow_lt g hW.2.2.2.2.2.1 4 (by decide)
  unfold wy
  have e : (fun s => if sUp g s = L then sp g (sNow g 4) 0 s else 0) = fun s => if sNow g 4 = s then (if sUp g s = L then 1 else 0) else 0 := by
    funext s
    rw [sp]
    by_cases c : s = sNow g 4
    · rw [if_pos c, if_pos c.symm]
    · rw [if_neg c, if_neg (show ¬ sNow g 4 = s from fun z => c z.symm)]; simp
  rw [e, sum_at (fun s => if sUp g s = L then 1 else 0), if_pos hn]
  by_cases c : sUp g (sNow g 4) = L
  · rw [if_pos c, if_pos c.symm]
  · rw [if_neg c, if_neg (fun z => c z.symm)]
theorem wy_le (hW : WG g) {n : Nat} (h6 : n ≤ 6) (L : Nat) : wy g n L ≤ 1000000 := by
  have h2 := hW.2.1
  have hn := sNow_lt g hW.2.2.2.2.2.1 4 (by decide)
  have h1 := sp_tot (g := g) (a := sNow g 4) h2 hn n
  have h3 := p10 n h6
  have h4 : wy g n L ≤ sSum (sp g (sNow g 4) n) 4096 := by
    unfold wy
    apply sSum_le2
    intro k _
    split <;> omega
  omega
theorem fcU_le (L : Nat) : ∀ w, fcU g s L w ≤ w
  | 0 => Nat.le_refl _
  | w + 1 => by
    have := fcU_le L w
    rw [fcU]
    split <;> omega
end
theorem k_bcp : ∀ L, L < 16 → ∀ p, p < 4 → bc (L &&& 2 ^ p) 10 = if L.testBit p then 1 else 0 := by decide +kernel
theorem k_bce : ∀ L, L < 16 → ∀ P, P < 5 → bc (L &&& (2 ^ P - 1)) 10 = sSum (fun p => if L.testBit p then 1 else 0) P := by decide +kernel
section
variable {g : Nat → Nat}
theorem spU_wy (hW : WG g) (n : Nat) {p : Nat} (hp : p < g 2) : sSum (fun L => wy g n L * bc (L &&& 2 ^ p) 10) 16 = spU g n p := by
  have h2 := hW.2.1
  rw [wy_h h2 n (fun L => bc (L &&& 2 ^ p) 10)]
  unfold spU
  apply sSum_cong
  intro s _
  rw [k_bcp _ (sUp_lt h2) p (by omega)]
  have e : (sUp g s).testBit p = sSpot g (dg s p) := by
    unfold sUp
    rw [bs_bit, decide_eq_true hp, Bool.true_and]
  rw [e]
  cases sSpot g (dg s p) <;> simp
theorem spM_wy (hW : WG g) (n : Nat) : sSum (fun L => wy g n L * bc (L &&& evb g) 10) 16 = sSum (fun p => spU g n p) (g 2) := by
  have h2 := hW.2.1
  have e : sSum (fun L => wy g n L * bc (L &&& evb g) 10) 16 = sSum (fun L => sSum (fun p => wy g n L * bc (L &&& 2 ^ p) 10) (g 2)) 16 := by
    apply sSum_cong
    intro L hL
    unfold evb
    rw [k_bce L hL (g 2) (by omega), sSum_mul]
    congr 1
    apply sSum_cong
    intro p hp
    rw [k_bcp L hL p (by omega)]
  rw [e, sSum_comm]
  apply sSum_cong
  intro p hp
  exact spU_wy hW n hp
end
section
variable {i i' : Nat → Nat → Int32} {l l' : Nat → Nat → Int64} {q q' : Nat → Nat → Option Nat} {K : List (Nat × Nat)} {r m : Nat} {g : Nat → Nat} {ρ : Nat → Nat → Nat}
theorem s_X_commonDivisor : ∀ (k t a b : Nat) (z0 z1 z5 : Slot) (d : Nat), a < 100000000 → b < 2 ^ k → b < 100000000 → t + 2 * k + 1 ≤ 64 → am_Ex d mX_commonDivisor 7 [z0, z1, .val (.int (nI a)), .val (.int (nI b)), .val (.int (nI t)), z5] [] (i, l, q, K) = some (some (.int (nI (Nat.gcd a b))), (i, l, q, K)) := by
  intro k
  induction k with
  | zero =>
    intro t a b z0 z1 z5 d ha hb hb2 ht
    have hb0 : b = 0 := by
      have : (2 : Nat) ^ 0 = 1 := rfl
      omega
    subst hb0
    rw [b_X_commonDivisor_7, Nat.gcd_zero_right]
    simp (disch := first | assumption | omega) only [b_X_commonDivisor_0, b_X_commonDivisor_34, ↓Bool.cond_decide, ↓q_in, q_le, q_lt, q_eq, q_leT, q_leF, q_ltT, q_ltF, q_eqT, q_eqF, ↓reduceIte, not_true_eq_false, not_false_eq_true, true_and, and_true, and_self, false_and, and_false, Nat.zero_le, am_bd_some, q_app, q_app0, nI_add, pk_sub, pk_mul, q_dec, q_ix, q_m1, q_m1', ↓q_ret, q_bool, q_bool1, q_u2, q_u1, q_shl1, q_shr, q_and7, q_dg, fa_or, fa_and, decide_true, decide_false, Bool.or_false, Bool.or_true, Bool.true_or, Bool.false_or, cond_true, cond_false, ite_not, q_some, q_nn, q_xor, q_xorm, Bool.false_eq_true, decide_eq_true_eq, ne_eq, l_0, l_1, l_4, l_7, l_9, l_20, l_34, l_64]
  | succ k ih =>
    intro t a b z0 z1 z5 d ha hb hb2 ht
    by_cases c0 : b = 0
    · subst c0
      rw [b_X_commonDivisor_7, Nat.gcd_zero_right]
      simp (disch := first | assumption | omega) only [b_X_commonDivisor_0, b_X_commonDivisor_34, ↓Bool.cond_decide, ↓q_in, q_le, q_lt, q_eq, q_leT, q_leF, q_ltT, q_ltF, q_eqT, q_eqF, ↓reduceIte, not_true_eq_false, not_false_eq_true, true_and, and_true, and_self, false_and, and_false, Nat.zero_le, am_bd_some, q_app, q_app0, nI_add, pk_sub, pk_mul, q_dec, q_ix, q_m1, q_m1', ↓q_ret, q_bool, q_bool1, q_u2, q_u1, q_shl1, q_shr, q_and7, q_dg, fa_or, fa_and, decide_true, decide_false, Bool.or_false, Bool.or_true, Bool.true_or, Bool.false_or, cond_true, cond_false, ite_not, q_some, q_nn, q_xor, q_xorm, Bool.false_eq_true, decide_eq_true_eq, ne_eq, l_0, l_1, l_4, l_7, l_9, l_20, l_34, l_64]
    · have hpos : 0 < b := by omega
      have r1 : nI a - nI a / nI b * nI b = nI (a % b) := pk_rem (by omega) hpos (by omega)
      have hml : a % b < b := Nat.mod_lt _ hpos
      have nz : ∀ x, x ≠ 0 → x < 2147483648 → decide (nI x = (0 : Int32)) = false := fun x hx hl => decide_eq_false (show ¬ nI x = nI 0 by rw [q_eq hl (by omega)]; exact hx)
      have lt64 : ∀ x, x < 64 → decide ((64 : Int32) ≤ nI x) = false := fun x hx => decide_eq_false (show ¬ nI 64 ≤ nI x by rw [q_le (by omega) (by omega)]; omega)
      rw [b_X_commonDivisor_7, lt64 t (by omega), cond_false, nz b c0 (by omega), cond_false, show (!false) = true from rfl, cond_true, r1, show nI t + (1 : Int32) = nI (t + 1) from nI_add t 1]
      by_cases c1 : a % b = 0
      · rw [c1, b_X_commonDivisor_7, lt64 (t + 1) (by omega), cond_false, show decide (nI 0 = (0 : Int32)) = true from rfl, cond_true, b_X_commonDivisor_34, ← gcd_step, c1, Nat.gcd_zero_right]
      · have r2 : nI b - nI b / nI (a % b) * nI (a % b) = nI (b % (a % b)) := pk_rem (by omega) (by omega) (by omega)
        obtain ⟨h1, h2⟩ := mod_half hpos (by omega : 0 < a % b)
        have hpw : 2 ^ (k + 1) = 2 * 2 ^ k := by rw [Nat.pow_succ]; omega
        rw [b_X_commonDivisor_7, lt64 (t + 1) (by omega), cond_false, nz _ c1 (by omega), cond_false, show (!false) = true from rfl, cond_true, r2, show nI (t + 1) + (1 : Int32) = nI (t + 2) from nI_add (t + 1) 1, ih (t + 2) (a % b) (b % (a % b)) _ _ _ d (by omega) (by omega) (by omega) (by omega), gcd_step, gcd_step]
theorem y_springOn (d : Nat) {n : Nat} (hn6 : n ≤ 5) (hC : CV ρ r g m i l q K) (hA : FA r g m i l q) (hw : ∀ L, L < 16 → i 42 L = nI (wy g n L)) : ∃ i', am_cl (d + 5) mX_springOn [.ref 0, .int (nI (sNow g 4))] (i, l, rX q, kX K) = some (none, (i', l, rX q, kX K)) ∧ Fr RF i i' ∧ FA r g m i' l q ∧ ∀ L, L < 16 → i' 42 L = nI (wy g (n + 1) L) := by
  obtain ⟨a1, a2, hW, a4, a5, a6⟩ := id hC
  have a1 : rX q 0 2 = some r := a1
  obtain ⟨fP, fS, fL, fE, fF, fB, fU, fV, fK, fW, hk, ra, ra1, ra2, ra3⟩ := CV_f a2 hW
  obtain ⟨fN, fO, fT, fD⟩ := RM_f a6 hW
  have h1 : g 1 ≤ 6 := hW.1.2
  have h2 : g 2 ≤ 4 := hW.2.1
  have hR : ∀ p, p < 4 → g (10 + p) ≤ 4 := hW.2.2.2.1
  have hP : ∀ p, p < 4 → g (18 + p) < 8 := hW.2.2.2.2.2.1
  have hSt : ∀ p, p < 4 → g (22 + p) ≤ 9 := hW.2.2.2.2.2.2.1
  have hn := sNow_lt g hP 4 (by decide)
  have hvs : VS g (sNow g 4) := hW.2.2.2.2.2.2.2.2.2.2
  have f43 : am_cl (d + 4) mJ_fill [.ref 43, .int 0] (i, l, rX q, kX K) = some (none, (am_u1 i 43 (fun k => if k < 16 then 0 else i 43 k), l, rX q, kX K)) := s_J_fill (d + 3) 0 rfl rfl (by decide)
  rw [c_X_springOn, b_X_springOn_0, f43, am_bd_some, q_app0, b_X_springOn_11]
  have part : ∀ k L, k ≤ 16 → sSum (fun M => wy g n M * fcU g (stG g M) L 10) k ≤ 10000000 := by
    intro k L hk
    have h1 : sSum (fun M => wy g n M * fcU g (stG g M) L 10) k ≤ sSum (fun M => wy g n M * fcU g (stG g M) L 10) 16 := by
      obtain ⟨j, hj⟩ : ∃ j, 16 = k + j := ⟨16 - k, by omega⟩
      rw [hj]; exact sSum_part j
    rw [← wy_s hW] at h1
    have := wy_le hW (n := n + 1) (by omega) L
    omega
  have fin : ∀ L, ∀ x : Int32, x = nI 0 → x = nI (sSum (fun M => wy g n M * fcU g (stG g M) L 10) 0) := fun L x h => h
  refine am_loop (d := d + 4) (y := mX_springOn) (pc := 13) (fun k ls s => ∃ i1 z3 z4, ls = [.val (.ref 0), .val (.int (nI (sNow g 4))), .val (.int (nI k)), z3, z4] ∧ s = (i1, l, rX q, kX K) ∧ Fr RF i i1 ∧ FA r g m i1 l q ∧ (∀ L, L < 16 → i1 42 L = nI (wy g n L)) ∧ ∀ L, L < 16 → i1 43 L = nI (sSum (fun M => wy g n M * fcU g (stG g M) L 10) k)) 16 (fun rs => ∃ i', rs = some (none, (i', l, rX q, kX K)) ∧ Fr RF i i' ∧ FA r g m i' l q ∧ ∀ L, L < 16 → i' 42 L = nI (wy g (n + 1) L)) (fun k ls s hk hI => ?_) (fun ls s hI => ?_) ⟨_, _, _, rfl, rfl, Fr_u1 rfl (Fr_refl _ _), FA_i (Ri := [43]) (Fr_u1 rfl (Fr_refl _ _)) rfl rfl rfl rfl hA, hw, fun L hL => if_pos hL⟩
  · obtain ⟨i1, z3, z4, e1, e2, hf1, hA1, h42, h43⟩ := hI
    subst e1; subst e2
    have hin : am_in (nI k) 16 = true := by
      unfold am_in
      rw [nI_clamp (by omega), decide_eq_true (show (0 : Int32) ≤ nI k from by
        show nI 0 ≤ nI k
        rw [q_le (by omega) (by omega)]; omega), decide_eq_true hk]; rfl
    have hwl := wy_le hW (n := n) (by omega) k
    rw [b_X_springOn_13, decide_eq_false (show ¬ (16 : Int32) ≤ nI k from by
      show ¬ nI 16 ≤ nI k
      rw [q_le (by omega) (by omega)]; omega), cond_false, hin, cond_true, nI_clamp (by omega), h42 k hk]
    by_cases c : wy g n k = 0
    · rw [c, show decide (¬ nI 0 = (0 : Int32)) = false from rfl, cond_false, b_X_springOn_95, show nI k + (1 : Int32) = nI (k + 1) from nI_add k 1]
      refine Go_in ⟨i1, _, _, rfl, rfl, hf1, hA1, h42, fun L hL => ?_⟩
      rw [h43 L hL, sSum, c, Nat.zero_mul, Nat.add_zero]
    · have hsb := s_X_sentBack (d + 2) (a := sNow g 4) (m := k ^^^ 15) hn (k_x32 k hk) (i1, l, rX q, kX K)
      have hsl : stG g k < 4096 := stG_lt hW
      have hVS := VS_stG hW hk
      rw [decide_eq_true (show ¬ nI (wy g n k) = (0 : Int32) from by
        show ¬ nI (wy g n k) = nI 0
        rw [q_eq (by omega) (by omega)]; exact c), cond_true, hsb, am_bd_some, q_app, b_X_springOn_41]
      refine am_loop (d := d + 4) (y := mX_springOn) (pc := 45) (fun w ls s => ∃ i2, ls = [.val (.ref 0), .val (.int (nI (sNow g 4))), .val (.int (nI k)), .val (.int (nI (stG g k))), .val (.int (nI w))] ∧ s = (i2, l, rX q, kX K) ∧ Fr RF i i2 ∧ FA r g m i2 l q ∧ (∀ L, L < 16 → i2 42 L = nI (wy g n L)) ∧ ∀ L, L < 16 → i2 43 L = nI (sSum (fun M => wy g n M * fcU g (stG g M) L 10) k + wy g n k * fcU g (stG g k) L w)) 10 _ (fun w ls s hw10 hI => ?_) (fun ls s hI => ?_) ⟨i1, rfl, rfl, hf1, hA1, h42, fun L hL => by rw [h43 L hL, fcU, Nat.mul_zero, Nat.add_zero]⟩
      · obtain ⟨i2, e1, e2, hf2, hA2, h42', h43'⟩ := hI
        subst e1; subst e2
        have hff : FG RF [11] [11] i i2 l l q q := ⟨hf2, fun _ _ => rfl, fun _ _ => rfl⟩
        obtain ⟨a1, a2, _, a4, a5, _⟩ := CV_ff hff hC
        have a1 : rX q 0 2 = some r := a1
        obtain ⟨fP, fS, fL, fE, fF, fB, fU, fV, fK, fW, hk, ra, ra1, ra2, ra3⟩ := CV_f a2 hW
        obtain ⟨i3, e3, hf3, hA3, _⟩ := y_flooded d (a := stG g k) (w := w) a2 hW hA2 hsl (by omega) hVS.1
        obtain ⟨i3', l3', e3', hl3', hf3', hH3', _⟩ := r_Ford_flooded (i := i2) (l := l) (q := q) d a2 hW.2.2.2.2.2.2.2.2.1 hA2.1 hA2.2.1 hA2.2.2.1 h1 h2 hSt hsl (show w < 16 by omega) hVS.1 hA2.2.2.2.2
        have ei : i3' = i3 := by
          rw [e3] at e3'
          have := (Prod.mk.inj (Prod.mk.inj (Option.some.inj e3')).2).1
          exact this.symm
        subst ei
        have h342 : i3' 42 = i2 42 := hf3' 42 rfl
        have h343 : i3' 43 = i2 43 := hf3' 43 rfl
        have hff3 : FG RF [11] [11] i i3' l l q q := FG_i hff hf3 rfl
        have hUl := sUp_lt (g := g) (a := sFl g w (stG g k)) h2
        have hfl := sFl_lt (g := g) (w := w) h2 hsl
        rw [b_X_springOn_45, decide_eq_false (show ¬ (9 : Int32) < nI w from by
          show ¬ nI 9 < nI w
          rw [q_lt (by omega) (by omega)]; omega), cond_false, a1]
        dsimp only
        rw [e3, am_bd_some, q_app, b_X_springOn_73]
        obtain ⟨a1, a2, _, a4, a5, _⟩ := CV_ff hff3 hC
        have a1 : rX q 0 2 = some r := a1
        obtain ⟨fP, fS, fL, fE, fF, fB, fU, fV, fK, fW, hk, ra, ra1, ra2, ra3⟩ := CV_f a2 hW
        have hinU : am_in (nI (sUp g (sFl g w (stG g k)))) 16 = true := by
          unfold am_in
          rw [nI_clamp (by omega), decide_eq_true (show (0 : Int32) ≤ nI (sUp g (sFl g w (stG g k))) from by
            show nI 0 ≤ nI _
            rw [q_le (by omega) (by omega)]; omega), decide_eq_true hUl]; rfl
        rw [hk, Bool.true_and, cond_true, fU (d + 2) _ hfl, am_bd_some, q_app, b_X_springOn_76, hinU, hin, cond_true, cond_true, cond_true, nI_clamp (by omega), nI_clamp (by omega), h342, h343, h42' k (by omega), h43' _ hUl, nI_add, show nI w + (1 : Int32) = nI (w + 1) from nI_add w 1]
        refine Go_in ⟨_, rfl, rfl, Fr_u2 (R := RF) rfl hff3.1, FA_i (Ri := [43]) (Fr_u2 rfl (Fr_refl _ _)) rfl rfl rfl rfl hA3, fun L hL => ?_, fun L hL => ?_⟩
        · show i3' 42 L = _
          rw [h342]; exact h42' L hL
        · rw [fcU]
          simp only [am_u2]
          rw [if_pos trivial]
          by_cases cL : L = sUp g (sFl g w (stG g k))
          · rw [if_pos cL, if_pos cL.symm, cL, Nat.mul_add, Nat.mul_one, Nat.add_assoc]
          · rw [if_neg cL, if_neg (fun z => cL z.symm), h343, h43' L hL, Nat.add_zero]
      · obtain ⟨i2, e1, e2, hf2, hA2, h42', h43'⟩ := hI
        subst e1; subst e2
        rw [b_X_springOn_45, show decide ((9 : Int32) < nI 10) = true from rfl, cond_true, b_X_springOn_95, show nI k + (1 : Int32) = nI (k + 1) from nI_add k 1]
        exact Go_in ⟨i2, _, _, rfl, rfl, hf2, hA2, h42', fun L hL => by rw [h43' L hL, sSum]⟩
  · obtain ⟨i1, z3, z4, e1, e2, hf1, hA1, h42, h43⟩ := hI
    subst e1; subst e2
    rw [b_X_springOn_13, show decide ((16 : Int32) ≤ nI 16) = true from rfl, cond_true]
    refine ⟨_, rfl, Fr_u1 (R := RF) rfl hf1, FA_i (Ri := [42]) (Fr_u1 rfl (Fr_refl _ _)) rfl rfl rfl rfl hA1, fun L hL => ?_⟩
    show va_cpy (i1 43) (i1 42) 0 0 16 L = _
    unfold va_cpy
    rw [if_pos (by omega), Nat.sub_zero, Nat.zero_add, h43 L hL, ← wy_s hW]
theorem y_fordAt0 (d : Nat) (hC : CV ρ r g m i l q K) (hF : XF ρ i l q K) : ∃ i' l' q', am_cl (d + 3) mX_fordAt [.ref 0, .long (lN m)] (i, l, rX q, kX K) = some (some (.ref 11), (i', l', rX q', kX K)) ∧ FG [18, 20] [11] [11] i i' l l' q q' ∧ FA r g m i' l' q' := by
  obtain ⟨rf, mf, gf, ⟨f1, f2, f3, f4, f5⟩, f6, f7, f8, f9⟩ := hF
  obtain ⟨a1, a2, a3, a4, a5, a6⟩ := hC
  obtain ⟨i', e, hf, hT, hH⟩ := r_Ford_attune (g := g) (gf := gf) (r := r) (rf := rf) d (by rw [a2.2.1]; rfl) (by rw [f6]; rfl) f1 f2 a6 f3 f8 f9 (fun z => by rw [z] at f7; exact gE_tr (gE_sy f7) a4) f4 f5
  have a1' : rX q 0 2 = some r := a1
  rw [c_X_fordAt, b_X_fordAt_0, a1']
  dsimp only
  rw [e, am_bd_some, q_app0, b_X_fordAt_12]
  refine ⟨_, _, _, rfl, ⟨hf, fun c hc => ?_, fun c hc => ?_⟩, ⟨rfl, rfl, a6, hT, hH⟩⟩
  · funext k
    have : c ≠ 11 := fun z => by rw [z] at hc; cases hc
    unfold am_u2
    rw [if_neg this]
  · funext k
    have : c ≠ 11 := fun z => by rw [z] at hc; cases hc
    unfold am_u2
    rw [if_neg this]
theorem y_springsSum (d : Nat) {n set : Nat} (what : Int32) (hn6 : n ≤ 6) (hset : set < 16) (hC : CV ρ r g m i l q K) (hF : XF ρ i l q K) : YR ρ K i l q (some (.int (prt (sSum (fun L => wy g n L * bc (L &&& set) 10) 16) (10 ^ n) what))) (am_cl (d + 6) mX_springsSum [.ref 0, .int (nI n), .int (nI set), .int what] (i, l, rX q, kX K)) := by
  obtain ⟨a1, a2, hW, a4, a5, a6⟩ := id hC
  have a1 : rX q 0 2 = some r := a1
  obtain ⟨fP, fS, fL, fE, fF, fB, fU, fV, fK, fW, hk, ra, ra1, ra2, ra3⟩ := CV_f a2 hW
  obtain ⟨fN, fO, fT, fD⟩ := RM_f a6 hW
  have h1 : g 1 ≤ 6 := hW.1.2
  have h2 : g 2 ≤ 4 := hW.2.1
  have hR : ∀ p, p < 4 → g (10 + p) ≤ 4 := hW.2.2.2.1
  have hP : ∀ p, p < 4 → g (18 + p) < 8 := hW.2.2.2.2.2.1
  have hSt : ∀ p, p < 4 → g (22 + p) ≤ 9 := hW.2.2.2.2.2.2.1
  have hn := sNow_lt g hP 4 (by decide)
  have hvs : VS g (sNow g 4) := hW.2.2.2.2.2.2.2.2.2.2
  have f42 : am_cl (d + 5) mJ_fill [.ref 42, .int 0] (i, l, rX q, kX K) = some (none, (am_u1 i 42 (fun k => if k < 16 then 0 else i 42 k), l, rX q, kX K)) := s_J_fill (d + 4) 0 rfl rfl (by decide)
  have hUl := sUp_lt (g := g) (a := sNow g 4) h2
  have hinU : am_in (nI (sUp g (sNow g 4))) 16 = true := by
    unfold am_in
    rw [nI_clamp (by omega), decide_eq_true (show (0 : Int32) ≤ nI (sUp g (sNow g 4)) from by
      show nI 0 ≤ nI _
      rw [q_le (by omega) (by omega)]; omega), decide_eq_true hUl]; rfl
  obtain ⟨i0, hi0⟩ : ∃ i0, am_u2 (am_u1 i 42 (fun k => if k < 16 then 0 else i 42 k)) 42 (sUp g (sNow g 4)) 1 = i0 := ⟨_, rfl⟩
  have hf0 : Fr RF i i0 := by rw [← hi0]; exact Fr_u2 rfl (Fr_u1 rfl (Fr_refl _ _))
  have hff0 : FG RF [11] [11] i i0 l l q q := ⟨hf0, fun _ _ => rfl, fun _ _ => rfl⟩
  have hF0 : XF ρ i0 l q K := XF_i (Ri := [42]) (by rw [← hi0]; exact Fr_u2 rfl (Fr_u1 rfl (Fr_refl _ _))) rfl rfl rfl rfl hF
  obtain ⟨i1, l1, q1, e1, hf1, hA1⟩ := y_fordAt0 (d + 2) (CV_ff hff0 hC) hF0
  obtain ⟨_, _, _, _, _, hrf⟩ := id hC
  rw [c_X_springsSum, b_X_springsSum_0, a5, fN, am_bd_some, q_app, b_X_springsSum_7, a1]
  dsimp only
  rw [hk, Bool.true_and, cond_true, fU (d + 3) _ hn, am_bd_some, q_app, b_X_springsSum_18, f42, am_bd_some, q_app0, b_X_springsSum_31, hinU, cond_true, nI_clamp (by omega), hi0, a5, e1, am_bd_some, q_app, b_X_springsSum_50]
  have hff1 := FG_tr hff0 hf1 rfl rfl rfl
  have h142 : ∀ L, L < 16 → i1 42 L = nI (wy g 0 L) := by
    intro L hL
    rw [hf1.1 42 rfl, wy_0 hW, ← hi0]
    simp only [am_u2, am_u1]
    rw [if_pos trivial]
    by_cases c : L = sUp g (sNow g 4)
    · rw [if_pos c, if_pos c]; rfl
    · rw [if_neg c, if_neg c, if_pos trivial, if_pos hL]; rfl
  have hp := p10 n hn6
  have h10 : 0 < 10 ^ n := Nat.pow_pos (by decide)
  refine am_loop (d := d + 5) (y := mX_springsSum) (pc := 57) (fun k ls s => ∃ i2 z5 z8, ls = [.val (.ref 0), .val (.int (nI n)), .val (.int (nI set)), .val (.int what), .val (.int (nI (sNow g 4))), z5, .val (.int (nI (10 ^ k))), .val (.int (nI k)), z8] ∧ s = (i2, l1, rX q1, kX K) ∧ FG RF [11] [11] i i2 l l1 q q1 ∧ FA r g m i2 l1 q1 ∧ ∀ L, L < 16 → i2 42 L = nI (wy g k L)) n _ (fun k ls s hk2 hI => ?_) (fun ls s hI => ?_) ⟨i1, _, _, rfl, rfl, hff1, hA1, h142⟩
  · obtain ⟨i2, z5, z8, e2, e3, hf2, hA2, h42⟩ := hI
    subst e2; subst e3
    obtain ⟨i3, e3, hf3, hA3, h342⟩ := y_springOn d (n := k) (by omega) (CV_ff hf2 hC) hA2 h42
    have hpk := p10 k (by omega)
    rw [b_X_springsSum_57, decide_eq_false (show ¬ nI n ≤ nI k from by rw [q_le (by omega) (by omega)]; omega), cond_false, e3, am_bd_some, q_app0, b_X_springsSum_69, show nI (10 ^ k) * (10 : Int32) = nI (10 ^ k * 10) from pk_mul _ 10, show nI k + (1 : Int32) = nI (k + 1) from nI_add k 1]
    exact Go_in ⟨i3, _, _, rfl, rfl, FG_i hf2 hf3 rfl, hA3, h342⟩
  · obtain ⟨i2, z5, z8, e2, e3, hf2, hA2, h42⟩ := hI
    subst e2; subst e3
    rw [b_X_springsSum_57, decide_eq_true (show nI n ≤ nI n from by rw [q_le (by omega) (by omega)]; exact Nat.le_refl _), cond_true]
    have hsum : ∀ k, k ≤ 16 → sSum (fun L => wy g n L * bc (L &&& set) 10) k ≤ 10000000 * k := by
      intro k
      induction k with
      | zero => intro _; rw [sSum]; omega
      | succ k ih =>
        intro hk3
        have h1 := wy_le hW hn6 k
        have h2 := bc_le (k &&& set) 10
        have h3 : wy g n k * bc (k &&& set) 10 ≤ 1000000 * 10 := Nat.mul_le_mul h1 h2
        have := ih (by omega)
        rw [sSum]
        omega
    refine am_loop (d := d + 5) (y := mX_springsSum) (pc := 88) (fun k ls s => ∃ z1 z4 z5, ls = [.val (.ref 0), z1, .val (.int (nI set)), .val (.int what), z4, z5, .val (.int (nI (10 ^ n))), .val (.int (nI (sSum (fun L => wy g n L * bc (L &&& set) 10) k))), .val (.int (nI k))] ∧ s = (i2, l1, rX q1, kX K)) 16 _ (fun k ls s hk2 hI => ?_) (fun ls s hI => ?_) ⟨_, _, _, rfl, rfl⟩
    · obtain ⟨z1, z4, z5, e2, e3⟩ := hI
      subst e2; subst e3
      have hin : am_in (nI k) 16 = true := by
        unfold am_in
        rw [nI_clamp (by omega), decide_eq_true (show (0 : Int32) ≤ nI k from by
          show nI 0 ≤ nI k
          rw [q_le (by omega) (by omega)]; omega), decide_eq_true hk2]; rfl
      have hbl : k &&& set < 1024 := Nat.lt_of_le_of_lt Nat.and_le_left (by omega)
      rw [b_X_springsSum_88, decide_eq_false (show ¬ (16 : Int32) ≤ nI k from by
        show ¬ nI 16 ≤ nI k
        rw [q_le (by omega) (by omega)]; omega), cond_false, hin, cond_true, nI_clamp (by omega), fa_and, s_J_bitCount (d + 4) hbl, am_bd_some, q_app, b_X_springsSum_114, h42 k hk2, pk_mul, nI_add, show nI k + (1 : Int32) = nI (k + 1) from nI_add k 1]
      exact Go_in ⟨_, _, _, rfl, rfl⟩
    · obtain ⟨z1, z4, z5, e2, e3⟩ := hI
      subst e2; subst e3
      obtain ⟨A, hAe⟩ : ∃ A, sSum (fun L => wy g n L * bc (L &&& set) 10) 16 = A := ⟨_, rfl⟩
      rw [hAe]
      -- the sum is no more than four times all
      have hAle : A ≤ 16000000 := by
        rw [← hAe]
        have hb4 : ∀ L, L < 16 → bc (L &&& set) 10 ≤ 16 := fun L _ => Nat.le_trans (bc_le _ 10) (by decide)
        have h1 : sSum (fun L => wy g n L * bc (L &&& set) 10) 16 ≤ sSum (fun L => wy g n L * 16) 16 := sSum_le2 16 (fun L hL => Nat.mul_le_mul_left _ (hb4 L hL))
        have h2' : sSum (fun L => wy g n L * 16) 16 = sSum (fun L => wy g n L) 16 * 16 := sSum_mulr 16 _ 16
        have h3 := wy_h (g := g) h2 n (fun _ => 1)
        have h4 : sSum (fun L => wy g n L) 16 = sSum (sp g (sNow g 4) n) 4096 := by
          have e1 : (fun L => wy g n L) = fun L => wy g n L * 1 := funext (fun L => (Nat.mul_one _).symm)
          have e2 : sp g (sNow g 4) n = fun s => sp g (sNow g 4) n s * 1 := funext (fun s => (Nat.mul_one _).symm)
          rw [e1, h3]
          exact (congrArg (fun f => sSum f 4096) e2).symm
        rw [sp_tot h2 hn n] at h4
        omega
      have hcd : am_cl (d + 5) mX_commonDivisor [.int (nI A), .int (nI (10 ^ n))] (i2, l1, rX q1, kX K) = some (some (.int (nI (Nat.gcd A (10 ^ n)))), (i2, l1, rX q1, kX K)) := by
        rw [c_X_commonDivisor, b_X_commonDivisor_0]
        exact s_X_commonDivisor 20 0 A (10 ^ n) _ _ _ _ (by omega) (by
          have : (2 : Nat) ^ 20 = 1048576 := by decide
          omega) (by omega) (by omega)
      have hg1 : 1 ≤ Nat.gcd A (10 ^ n) := Nat.gcd_pos_of_pos_right _ h10
      have hg2 : Nat.gcd A (10 ^ n) ≤ 10 ^ n := Nat.gcd_le_right _ h10
      have hmx : (if nI (Nat.gcd A (10 ^ n)) < (1 : Int32) then (1 : Int32) else nI (Nat.gcd A (10 ^ n))) = nI (Nat.gcd A (10 ^ n)) := if_neg (by
        show ¬ nI _ < nI 1
        rw [q_lt (by omega) (by omega)]; omega)
      have hnz : decide (nI (Nat.gcd A (10 ^ n)) = (0 : Int32)) = false := decide_eq_false (by
        show ¬ nI _ = nI 0
        rw [q_eq (by omega) (by omega)]; omega)
      have hXF := XF_of (CV_ff hf2 hC) hA2 (gE_refl g) hW
      rw [b_X_springsSum_88, show decide ((16 : Int32) ≤ nI 16) = true from rfl, cond_true, hcd, am_bd_some, q_app, b_X_springsSum_131]
      unfold prt
      by_cases cw : what = nI 0
      · rw [if_pos cw, decide_eq_false (show ¬ ¬ what = (0 : Int32) from fun z => z cw), cond_false, b_X_springsSum_144, hmx, hnz, show (!false) = true from rfl, cond_true, pk_div (by omega) (by omega) (by omega)]
        exact YR_some hf2 hXF
      · rw [if_neg cw, decide_eq_true (show ¬ what = (0 : Int32) from cw), cond_true, b_X_springsSum_144, hmx, hnz, show (!false) = true from rfl, cond_true, pk_div (by omega) (by omega) (by omega)]
        exact YR_some hf2 hXF
theorem y_X_chance (d : Nat) (x y z : Int32) (hC : CV ρ r g m i l q K) (hF : XF ρ i l q K) : YR ρ K i l q (some (.int (v_chance g x y z))) (am_cl (d + 7) mX_chance [.ref 0, .int x, .int y, .int z] (i, l, rX q, kX K)) := by
  obtain ⟨a1, a2, hW, a4, a5, a6⟩ := id hC
  have a1 : rX q 0 2 = some r := a1
  obtain ⟨fP, fS, fL, fE, fF, fB, fU, fV, fK, fW, hk, ra, ra1, ra2, ra3⟩ := CV_f a2 hW
  obtain ⟨fN, fO, fT, fD⟩ := RM_f a6 hW
  have h1 : g 1 ≤ 6 := hW.1.2
  have h2 : g 2 ≤ 4 := hW.2.1
  have hR : ∀ p, p < 4 → g (10 + p) ≤ 4 := hW.2.2.2.1
  have hP : ∀ p, p < 4 → g (18 + p) < 8 := hW.2.2.2.2.2.1
  have hSt : ∀ p, p < 4 → g (22 + p) ≤ 9 := hW.2.2.2.2.2.2.1
  have hn := sNow_lt g hP 4 (by decide)
  have hvs : VS g (sNow g 4) := hW.2.2.2.2.2.2.2.2.2.2
  have hzr := rg_z 0 1 z (by decide) (by decide)
  have hyr := rg_z 0 6 y (by decide) (by decide)
  rw [c_X_chance, b_X_chance_0, v_chance]
  by_cases hx : iB x (g 2) = true
  · by_cases hz : iR 0 1 z = true
    · obtain ⟨z1, z2⟩ := hzr.mp hz
      by_cases hy : iR 0 6 y = true
      · obtain ⟨y1, y2⟩ := hyr.mp hy
        have hx' := hx
        obtain ⟨p, hp, rfl⟩ := iB_T hx'
        have hp4 : p < 4 := by omega
        have hpp := hP p hp4
        have hiS := iS_nI (g := g) (p := g (18 + p)) (by omega)
        have hy' := hy
        obtain ⟨n, _, hn6, rfl⟩ := iR_T hy'
        cases hsp : sSpot g (g (18 + p)) with
        | true =>
          have h2p : 2 ^ p ≤ 2 ^ 3 := Nat.pow_le_pow_right (by decide) (by omega)
          obtain ⟨i1, l1, q1, e1, hf1, hF1⟩ := y_springsSum d (n := n) (set := 2 ^ p) z hn6 (by omega) hC hF
          rw [spU_wy hW n hp] at e1
          simp (disch := first | assumption | omega) only [b_X_chance_0, b_X_chance_8, b_X_chance_20, b_X_chance_33, b_X_chance_48, b_X_chance_51, b_X_chance_66, ↓Bool.cond_decide, ↓q_in, q_le, q_lt, q_eq, q_leT, q_leF, q_ltT, q_ltF, q_eqT, q_eqF, ↓reduceIte, not_true_eq_false, not_false_eq_true, true_and, and_true, and_self, false_and, and_false, Nat.zero_le, am_bd_some, q_app, q_app0, nI_add, pk_sub, pk_mul, q_dec, q_ix, q_m1, q_m1', ↓q_ret, q_bool, q_bool1, q_u2, q_u1, q_shl1, q_shr, q_and7, q_dg, fa_or, fa_and, decide_true, decide_false, Bool.or_false, Bool.or_true, Bool.true_or, Bool.false_or, cond_true, cond_false, ite_not, q_some, q_nn, q_xor, q_xorm, Bool.false_eq_true, decide_eq_true_eq, ne_eq, l_0, l_1, l_2, l_3, l_4, l_5, l_6, l_8, l_12, l_20, l_28, l_31, l_33, l_48, l_51, l_66, hx, hz, hy, z1, z2, y1, y2, hiS, hsp, e1, a1, a5, hk, fP, fS, fL, fE, fF, fB, fU, fV, fK, fW, fN, fO, fT, fD, ra1, ra2, cond_true, Bool.and_true, kd11]
          exact YR_some hf1 hF1
        | false =>
          simp (disch := first | assumption | omega) only [b_X_chance_0, b_X_chance_8, b_X_chance_20, b_X_chance_33, b_X_chance_48, b_X_chance_51, b_X_chance_66, ↓Bool.cond_decide, ↓q_in, q_le, q_lt, q_eq, q_leT, q_leF, q_ltT, q_ltF, q_eqT, q_eqF, ↓reduceIte, not_true_eq_false, not_false_eq_true, true_and, and_true, and_self, false_and, and_false, Nat.zero_le, am_bd_some, q_app, q_app0, nI_add, pk_sub, pk_mul, q_dec, q_ix, q_m1, q_m1', ↓q_ret, q_bool, q_bool1, q_u2, q_u1, q_shl1, q_shr, q_and7, q_dg, fa_or, fa_and, decide_true, decide_false, Bool.or_false, Bool.or_true, Bool.true_or, Bool.false_or, cond_true, cond_false, ite_not, q_some, q_nn, q_xor, q_xorm, Bool.false_eq_true, decide_eq_true_eq, ne_eq, l_0, l_1, l_2, l_3, l_4, l_5, l_6, l_8, l_12, l_20, l_28, l_31, l_33, l_48, l_51, l_66, hx, hz, hy, z1, z2, y1, y2, hiS, hsp, a1, a5, hk, fP, fS, fL, fE, fF, fB, fU, fV, fK, fW, fN, fO, fT, fD, ra1, ra2, cond_true, Bool.and_true, kd11]
          exact YR_0 hF
      · by_cases y1 : y < nI 0
        · simp (disch := first | assumption | omega) only [b_X_chance_0, b_X_chance_8, b_X_chance_20, b_X_chance_33, b_X_chance_48, b_X_chance_51, b_X_chance_66, ↓Bool.cond_decide, ↓q_in, q_le, q_lt, q_eq, q_leT, q_leF, q_ltT, q_ltF, q_eqT, q_eqF, ↓reduceIte, not_true_eq_false, not_false_eq_true, true_and, and_true, and_self, false_and, and_false, Nat.zero_le, am_bd_some, q_app, q_app0, nI_add, pk_sub, pk_mul, q_dec, q_ix, q_m1, q_m1', ↓q_ret, q_bool, q_bool1, q_u2, q_u1, q_shl1, q_shr, q_and7, q_dg, fa_or, fa_and, decide_true, decide_false, Bool.or_false, Bool.or_true, Bool.true_or, Bool.false_or, cond_true, cond_false, ite_not, q_some, q_nn, q_xor, q_xorm, Bool.false_eq_true, decide_eq_true_eq, ne_eq, l_0, l_1, l_2, l_3, l_4, l_5, l_6, l_8, l_12, l_20, l_28, l_31, l_33, l_48, l_51, l_66, hx, hz, hy, z1, z2, y1, a1, a5, hk, fP, fS, fL, fE, fF, fB, fU, fV, fK, fW, fN, fO, fT, fD, ra1, ra2, cond_true, Bool.and_true, kd11]
          exact YR_0 hF
        · have y2 : ¬ y ≤ nI 6 := fun w => hy (hyr.mpr ⟨y1, w⟩)
          simp (disch := first | assumption | omega) only [b_X_chance_0, b_X_chance_8, b_X_chance_20, b_X_chance_33, b_X_chance_48, b_X_chance_51, b_X_chance_66, ↓Bool.cond_decide, ↓q_in, q_le, q_lt, q_eq, q_leT, q_leF, q_ltT, q_ltF, q_eqT, q_eqF, ↓reduceIte, not_true_eq_false, not_false_eq_true, true_and, and_true, and_self, false_and, and_false, Nat.zero_le, am_bd_some, q_app, q_app0, nI_add, pk_sub, pk_mul, q_dec, q_ix, q_m1, q_m1', ↓q_ret, q_bool, q_bool1, q_u2, q_u1, q_shl1, q_shr, q_and7, q_dg, fa_or, fa_and, decide_true, decide_false, Bool.or_false, Bool.or_true, Bool.true_or, Bool.false_or, cond_true, cond_false, ite_not, q_some, q_nn, q_xor, q_xorm, Bool.false_eq_true, decide_eq_true_eq, ne_eq, l_0, l_1, l_2, l_3, l_4, l_5, l_6, l_8, l_12, l_20, l_28, l_31, l_33, l_48, l_51, l_66, hx, hz, hy, z1, z2, y1, y2, a1, a5, hk, fP, fS, fL, fE, fF, fB, fU, fV, fK, fW, fN, fO, fT, fD, ra1, ra2, cond_true, Bool.and_true, kd11]
          exact YR_0 hF
    · by_cases z1 : z < nI 0
      · simp (disch := first | assumption | omega) only [b_X_chance_0, b_X_chance_8, b_X_chance_20, b_X_chance_33, b_X_chance_48, b_X_chance_51, b_X_chance_66, ↓Bool.cond_decide, ↓q_in, q_le, q_lt, q_eq, q_leT, q_leF, q_ltT, q_ltF, q_eqT, q_eqF, ↓reduceIte, not_true_eq_false, not_false_eq_true, true_and, and_true, and_self, false_and, and_false, Nat.zero_le, am_bd_some, q_app, q_app0, nI_add, pk_sub, pk_mul, q_dec, q_ix, q_m1, q_m1', ↓q_ret, q_bool, q_bool1, q_u2, q_u1, q_shl1, q_shr, q_and7, q_dg, fa_or, fa_and, decide_true, decide_false, Bool.or_false, Bool.or_true, Bool.true_or, Bool.false_or, cond_true, cond_false, ite_not, q_some, q_nn, q_xor, q_xorm, Bool.false_eq_true, decide_eq_true_eq, ne_eq, l_0, l_1, l_2, l_3, l_4, l_5, l_6, l_8, l_12, l_20, l_28, l_31, l_33, l_48, l_51, l_66, hx, hz, z1, a1, a5, hk, fP, fS, fL, fE, fF, fB, fU, fV, fK, fW, fN, fO, fT, fD, ra1, ra2, cond_true, Bool.and_true, kd11]
        exact YR_0 hF
      · have z2 : ¬ z ≤ nI 1 := fun w => hz (hzr.mpr ⟨z1, w⟩)
        simp (disch := first | assumption | omega) only [b_X_chance_0, b_X_chance_8, b_X_chance_20, b_X_chance_33, b_X_chance_48, b_X_chance_51, b_X_chance_66, ↓Bool.cond_decide, ↓q_in, q_le, q_lt, q_eq, q_leT, q_leF, q_ltT, q_ltF, q_eqT, q_eqF, ↓reduceIte, not_true_eq_false, not_false_eq_true, true_and, and_true, and_self, false_and, and_false, Nat.zero_le, am_bd_some, q_app, q_app0, nI_add, pk_sub, pk_mul, q_dec, q_ix, q_m1, q_m1', ↓q_ret, q_bool, q_bool1, q_u2, q_u1, q_shl1, q_shr, q_and7, q_dg, fa_or, fa_and, decide_true, decide_false, Bool.or_false, Bool.or_true, Bool.true_or, Bool.false_or, cond_true, cond_false, ite_not, q_some, q_nn, q_xor, q_xorm, Bool.false_eq_true, decide_eq_true_eq, ne_eq, l_0, l_1, l_2, l_3, l_4, l_5, l_6, l_8, l_12, l_20, l_28, l_31, l_33, l_48, l_51, l_66, hx, hz, z1, z2, a1, a5, hk, fP, fS, fL, fE, fF, fB, fU, fV, fK, fW, fN, fO, fT, fD, ra1, ra2, cond_true, Bool.and_true, kd11]
        exact YR_0 hF
  · simp (disch := first | assumption | omega) only [b_X_chance_0, b_X_chance_8, b_X_chance_20, b_X_chance_33, b_X_chance_48, b_X_chance_51, b_X_chance_66, ↓Bool.cond_decide, ↓q_in, q_le, q_lt, q_eq, q_leT, q_leF, q_ltT, q_ltF, q_eqT, q_eqF, ↓reduceIte, not_true_eq_false, not_false_eq_true, true_and, and_true, and_self, false_and, and_false, Nat.zero_le, am_bd_some, q_app, q_app0, nI_add, pk_sub, pk_mul, q_dec, q_ix, q_m1, q_m1', ↓q_ret, q_bool, q_bool1, q_u2, q_u1, q_shl1, q_shr, q_and7, q_dg, fa_or, fa_and, decide_true, decide_false, Bool.or_false, Bool.or_true, Bool.true_or, Bool.false_or, cond_true, cond_false, ite_not, q_some, q_nn, q_xor, q_xorm, Bool.false_eq_true, decide_eq_true_eq, ne_eq, l_0, l_1, l_2, l_3, l_4, l_5, l_6, l_8, l_12, l_20, l_28, l_31, l_33, l_48, l_51, l_66, hx, a1, a5, hk, fP, fS, fL, fE, fF, fB, fU, fV, fK, fW, fN, fO, fT, fD, ra1, ra2, cond_true, Bool.and_true, kd11]
    exact YR_0 hF
theorem y_X_mean (d : Nat) (x y : Int32) (hC : CV ρ r g m i l q K) (hF : XF ρ i l q K) : YR ρ K i l q (some (.int (v_mean g x y))) (am_cl (d + 7) mX_mean [.ref 0, .int x, .int y] (i, l, rX q, kX K)) := by
  obtain ⟨a1, a2, hW, a4, a5, a6⟩ := id hC
  have a1 : rX q 0 2 = some r := a1
  obtain ⟨fP, fS, fL, fE, fF, fB, fU, fV, fK, fW, hk, ra, ra1, ra2, ra3⟩ := CV_f a2 hW
  obtain ⟨fN, fO, fT, fD⟩ := RM_f a6 hW
  have h1 : g 1 ≤ 6 := hW.1.2
  have h2 : g 2 ≤ 4 := hW.2.1
  have hR : ∀ p, p < 4 → g (10 + p) ≤ 4 := hW.2.2.2.1
  have hP : ∀ p, p < 4 → g (18 + p) < 8 := hW.2.2.2.2.2.1
  have hSt : ∀ p, p < 4 → g (22 + p) ≤ 9 := hW.2.2.2.2.2.2.1
  have hn := sNow_lt g hP 4 (by decide)
  have hvs : VS g (sNow g 4) := hW.2.2.2.2.2.2.2.2.2.2
  have hyr := rg_z 0 1 y (by decide) (by decide)
  have hxr := rg_z 0 6 x (by decide) (by decide)
  rw [c_X_mean, b_X_mean_0, v_mean]
  by_cases hy : iR 0 1 y = true
  · obtain ⟨y1, y2⟩ := hyr.mp hy
    by_cases hx : iR 0 6 x = true
    · obtain ⟨x1, x2⟩ := hxr.mp hx
      have hx' := hx
      obtain ⟨n, _, hn6, rfl⟩ := iR_T hx'
      obtain ⟨i1, l1, q1, e1, hf1, hF1⟩ := y_springsSum d (n := n) (set := evb g) y hn6 (evb_lt h2) hC hF
      rw [spM_wy hW n] at e1
      simp (disch := first | assumption | omega) only [b_X_mean_0, b_X_mean_9, b_X_mean_22, b_X_mean_34, b_X_mean_38, ↓Bool.cond_decide, ↓q_in, q_le, q_lt, q_eq, q_leT, q_leF, q_ltT, q_ltF, q_eqT, q_eqF, ↓reduceIte, not_true_eq_false, not_false_eq_true, true_and, and_true, and_self, false_and, and_false, Nat.zero_le, am_bd_some, q_app, q_app0, nI_add, pk_sub, pk_mul, q_dec, q_ix, q_m1, q_m1', ↓q_ret, q_bool, q_bool1, q_u2, q_u1, q_shl1, q_shr, q_and7, q_dg, fa_or, fa_and, decide_true, decide_false, Bool.or_false, Bool.or_true, Bool.true_or, Bool.false_or, cond_true, cond_false, ite_not, q_some, q_nn, q_xor, q_xorm, Bool.false_eq_true, decide_eq_true_eq, ne_eq, l_0, l_1, l_2, l_3, l_4, l_6, l_9, l_22, l_34, l_38, hx, hy, x1, x2, y1, y2, e1, a1, a5, hk, fP, fS, fL, fE, fF, fB, fU, fV, fK, fW, fN, fO, fT, fD, ra1, ra2, cond_true, Bool.and_true, kd11]
      exact YR_some hf1 hF1
    · by_cases x1 : x < nI 0
      · simp (disch := first | assumption | omega) only [b_X_mean_0, b_X_mean_9, b_X_mean_22, b_X_mean_34, b_X_mean_38, ↓Bool.cond_decide, ↓q_in, q_le, q_lt, q_eq, q_leT, q_leF, q_ltT, q_ltF, q_eqT, q_eqF, ↓reduceIte, not_true_eq_false, not_false_eq_true, true_and, and_true, and_self, false_and, and_false, Nat.zero_le, am_bd_some, q_app, q_app0, nI_add, pk_sub, pk_mul, q_dec, q_ix, q_m1, q_m1', ↓q_ret, q_bool, q_bool1, q_u2, q_u1, q_shl1, q_shr, q_and7, q_dg, fa_or, fa_and, decide_true, decide_false, Bool.or_false, Bool.or_true, Bool.true_or, Bool.false_or, cond_true, cond_false, ite_not, q_some, q_nn, q_xor, q_xorm, Bool.false_eq_true, decide_eq_true_eq, ne_eq, l_0, l_1, l_2, l_3, l_4, l_6, l_9, l_22, l_34, l_38, hx, hy, y1, y2, x1, a1, a5, hk, fP, fS, fL, fE, fF, fB, fU, fV, fK, fW, fN, fO, fT, fD, ra1, ra2, cond_true, Bool.and_true, kd11]
        exact YR_0 hF
      · have x2 : ¬ x ≤ nI 6 := fun w => hx (hxr.mpr ⟨x1, w⟩)
        simp (disch := first | assumption | omega) only [b_X_mean_0, b_X_mean_9, b_X_mean_22, b_X_mean_34, b_X_mean_38, ↓Bool.cond_decide, ↓q_in, q_le, q_lt, q_eq, q_leT, q_leF, q_ltT, q_ltF, q_eqT, q_eqF, ↓reduceIte, not_true_eq_false, not_false_eq_true, true_and, and_true, and_self, false_and, and_false, Nat.zero_le, am_bd_some, q_app, q_app0, nI_add, pk_sub, pk_mul, q_dec, q_ix, q_m1, q_m1', ↓q_ret, q_bool, q_bool1, q_u2, q_u1, q_shl1, q_shr, q_and7, q_dg, fa_or, fa_and, decide_true, decide_false, Bool.or_false, Bool.or_true, Bool.true_or, Bool.false_or, cond_true, cond_false, ite_not, q_some, q_nn, q_xor, q_xorm, Bool.false_eq_true, decide_eq_true_eq, ne_eq, l_0, l_1, l_2, l_3, l_4, l_6, l_9, l_22, l_34, l_38, hx, hy, y1, y2, x1, x2, a1, a5, hk, fP, fS, fL, fE, fF, fB, fU, fV, fK, fW, fN, fO, fT, fD, ra1, ra2, cond_true, Bool.and_true, kd11]
        exact YR_0 hF
  · by_cases y1 : y < nI 0
    · simp (disch := first | assumption | omega) only [b_X_mean_0, b_X_mean_9, b_X_mean_22, b_X_mean_34, b_X_mean_38, ↓Bool.cond_decide, ↓q_in, q_le, q_lt, q_eq, q_leT, q_leF, q_ltT, q_ltF, q_eqT, q_eqF, ↓reduceIte, not_true_eq_false, not_false_eq_true, true_and, and_true, and_self, false_and, and_false, Nat.zero_le, am_bd_some, q_app, q_app0, nI_add, pk_sub, pk_mul, q_dec, q_ix, q_m1, q_m1', ↓q_ret, q_bool, q_bool1, q_u2, q_u1, q_shl1, q_shr, q_and7, q_dg, fa_or, fa_and, decide_true, decide_false, Bool.or_false, Bool.or_true, Bool.true_or, Bool.false_or, cond_true, cond_false, ite_not, q_some, q_nn, q_xor, q_xorm, Bool.false_eq_true, decide_eq_true_eq, ne_eq, l_0, l_1, l_2, l_3, l_4, l_6, l_9, l_22, l_34, l_38, hy, y1, a1, a5, hk, fP, fS, fL, fE, fF, fB, fU, fV, fK, fW, fN, fO, fT, fD, ra1, ra2, cond_true, Bool.and_true, kd11]
      exact YR_0 hF
    · have y2 : ¬ y ≤ nI 1 := fun w => hy (hyr.mpr ⟨y1, w⟩)
      simp (disch := first | assumption | omega) only [b_X_mean_0, b_X_mean_9, b_X_mean_22, b_X_mean_34, b_X_mean_38, ↓Bool.cond_decide, ↓q_in, q_le, q_lt, q_eq, q_leT, q_leF, q_ltT, q_ltF, q_eqT, q_eqF, ↓reduceIte, not_true_eq_false, not_false_eq_true, true_and, and_true, and_self, false_and, and_false, Nat.zero_le, am_bd_some, q_app, q_app0, nI_add, pk_sub, pk_mul, q_dec, q_ix, q_m1, q_m1', ↓q_ret, q_bool, q_bool1, q_u2, q_u1, q_shl1, q_shr, q_and7, q_dg, fa_or, fa_and, decide_true, decide_false, Bool.or_false, Bool.or_true, Bool.true_or, Bool.false_or, cond_true, cond_false, ite_not, q_some, q_nn, q_xor, q_xorm, Bool.false_eq_true, decide_eq_true_eq, ne_eq, l_0, l_1, l_2, l_3, l_4, l_6, l_9, l_22, l_34, l_38, hy, y1, y2, a1, a5, hk, fP, fS, fL, fE, fF, fB, fU, fV, fK, fW, fN, fO, fT, fD, ra1, ra2, cond_true, Bool.and_true, kd11]
      exact YR_0 hF
end
