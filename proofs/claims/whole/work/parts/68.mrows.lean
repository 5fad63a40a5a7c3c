/-! ROWS of goings counted; THE MODEL: rows -/
def cnt (g : Nat → Nat) (m s t : Nat) : Nat → Nat
  | 0 => 0
  | j + 1 => cnt g m s t j + if avl g m s j = true ∧ tgt s j = t then 1 else 0
theorem cnt_s (g : Nat → Nat) (m s t j : Nat) : cnt g m s t (j + 1) = cnt g m s t j + if avl g m s j = true ∧ tgt s j = t then 1 else 0 := rfl
/-- in how many rows of n goings one comes to t -/
def wk (g : Nat → Nat) (m : Nat) (L : List Nat) (a : Nat) : Nat → Nat → Nat
  | 0, t => if t = a then 1 else 0
  | n + 1, t => sSum (fun k => wk g m L a n (L.getD k 0) * cnt g m (L.getD k 0) t 32) L.length
theorem sSum_add (f h : Nat → Nat) : ∀ n, sSum (fun k => f k + h k) n = sSum f n + sSum h n
  | 0 => rfl
  | n + 1 => by rw [sSum, sSum, sSum, sSum_add f h n]; omega
theorem sSum_mul (c : Nat) (f : Nat → Nat) : ∀ n, sSum (fun k => c * f k) n = c * sSum f n
  | 0 => rfl
  | n + 1 => by rw [sSum, sSum, sSum_mul c f n, Nat.mul_add]
theorem sSum_mulr (c : Nat) (f : Nat → Nat) : ∀ n, sSum (fun k => f k * c) n = sSum f n * c
  | 0 => by simp [sSum]
  | n + 1 => by rw [sSum, sSum, sSum_mulr c f n, Nat.add_mul]
theorem sSum_zero : ∀ n, sSum (fun _ => 0) n = 0
  | 0 => rfl
  | n + 1 => by rw [sSum, sSum_zero n]
theorem sSum_cong {f h : Nat → Nat} : ∀ {n : Nat}, (∀ k, k < n → f k = h k) → sSum f n = sSum h n
  | 0, _ => rfl
  | n + 1, e => by rw [sSum, sSum, sSum_cong (fun k hk => e k (by omega)), e n (by omega)]
theorem sSum_comm (f : Nat → Nat → Nat) (b : Nat) : ∀ a, sSum (fun x => sSum (fun y => f x y) b) a = sSum (fun y => sSum (fun x => f x y) a) b
  | 0 => by rw [sSum]; exact (sSum_zero b).symm
  | a + 1 => by
    rw [sSum, sSum_comm f b a, ← sSum_add]
    rfl
theorem sSum_ge {f : Nat → Nat} {j : Nat} : ∀ {n : Nat}, j < n → f j ≤ sSum f n
  | 0, h => by omega
  | n + 1, h => by
    rw [sSum]
    by_cases e : j = n
    · subst e; omega
    · have := sSum_ge (f := f) (j := j) (n := n) (by omega); omega
theorem sSum_part {f : Nat → Nat} {n : Nat} : ∀ k, sSum f n ≤ sSum f (n + k)
  | 0 => Nat.le_refl _
  | k + 1 => by
    have := sSum_part (f := f) (n := n) k
    show _ ≤ sSum f (n + k) + f (n + k)
    omega
theorem one_le {L : List Nat} (hd : L.Nodup) (x : Nat) : ∀ n, n ≤ L.length → sSum (fun k => if x = L.getD k 0 then 1 else 0) n ≤ 1 ∧ (sSum (fun k => if x = L.getD k 0 then 1 else 0) n ≠ 0 → ∃ k, k < n ∧ L[k]? = some x)
  | 0, _ => ⟨Nat.zero_le _, fun h => absurd rfl h⟩
  | n + 1, hn => by
    obtain ⟨h1, h2⟩ := one_le hd x n (by omega)
    have hg := getD_at (L := L) (k := n) (by omega)
    rw [sSum]
    by_cases e : x = L.getD n 0
    · rw [if_pos e]
      have h0 : sSum (fun k => if x = L.getD k 0 then 1 else 0) n = 0 := by
        apply Classical.byContradiction
        intro hz
        obtain ⟨k, hk, hk2⟩ := h2 hz
        rw [← e] at hg
        have := (List.getElem?_inj (show k < L.length by omega) hd).mp (hk2.trans hg.symm)
        omega
      rw [h0]
      exact ⟨Nat.le_refl _, fun _ => ⟨n, by omega, by rw [hg, ← e]⟩⟩
    · rw [if_neg e]
      refine ⟨h1, fun hz => ?_⟩
      obtain ⟨k, hk, hk2⟩ := h2 hz
      exact ⟨k, by omega, hk2⟩
theorem cnt_sum {g : Nat → Nat} {m s : Nat} {L : List Nat} (hd : L.Nodup) : ∀ j, sSum (fun k => cnt g m s (L.getD k 0) j) L.length ≤ j
  | 0 => by simp only [cnt]; rw [sSum_zero]; exact Nat.le_refl _
  | j + 1 => by
    simp only [cnt]
    rw [sSum_add]
    have ih := cnt_sum (g := g) (m := m) (s := s) hd j
    have : sSum (fun k => if avl g m s j = true ∧ tgt s j = L.getD k 0 then 1 else 0) L.length ≤ 1 := by
      by_cases ha : avl g m s j = true
      · have h := (one_le hd (tgt s j) L.length (Nat.le_refl _)).1
        refine Nat.le_trans (Nat.le_of_eq (sSum_cong (fun k _ => ?_))) h
        by_cases e : tgt s j = L.getD k 0
        · rw [if_pos ⟨ha, e⟩, if_pos e]
        · rw [if_neg (fun z => e z.2), if_neg e]
      · rw [show (fun k => if avl g m s j = true ∧ tgt s j = L.getD k 0 then 1 else 0) = fun _ => 0 from funext fun k => if_neg (fun z => ha z.1), sSum_zero]
        omega
    omega
theorem wk_tot {g : Nat → Nat} {m a : Nat} {L : List Nat} (hd : L.Nodup) : ∀ n, sSum (fun k => wk g m L a n (L.getD k 0)) L.length ≤ 32 ^ n
  | 0 => by
    have h := (one_le hd a L.length (Nat.le_refl _)).1
    refine Nat.le_trans (Nat.le_of_eq (sSum_cong (fun k _ => ?_))) h
    rw [wk]
    by_cases e : L.getD k 0 = a
    · rw [if_pos e, if_pos e.symm]
    · rw [if_neg e, if_neg (fun z => e z.symm)]
  | n + 1 => by
    simp only [wk]
    rw [sSum_comm (fun x y => wk g m L a n (L.getD y 0) * cnt g m (L.getD y 0) (L.getD x 0) 32)]
    have h1 : ∀ k, k < L.length → sSum (fun x => wk g m L a n (L.getD k 0) * cnt g m (L.getD k 0) (L.getD x 0) 32) L.length ≤ wk g m L a n (L.getD k 0) * 32 := fun k _ => by
      rw [sSum_mul]
      exact Nat.mul_le_mul_left _ (cnt_sum hd 32)
    refine Nat.le_trans (sSum_le2 _ h1) ?_
    rw [sSum_mulr, Nat.pow_succ]
    exact Nat.mul_le_mul_right _ (wk_tot hd n)
theorem wk_lt {g : Nat → Nat} {m a : Nat} {L : List Nat} (hd : L.Nodup) (ha : a ∈ L) (hcl : ∀ s, s ∈ L → ∀ j, j < 32 → avl g m s j = true → tgt s j ∈ L) (n t : Nat) : wk g m L a n t ≤ 32 ^ n := by
  by_cases ht : t ∈ L
  · obtain ⟨k, hk, e⟩ := List.getElem_of_mem ht
    have h1 := sSum_ge (f := fun k => wk g m L a n (L.getD k 0)) hk
    have h2 := wk_tot (g := g) (m := m) (a := a) hd n
    have e2 : L.getD k 0 = t := by rw [List.getD_eq_getElem?_getD, List.getElem?_eq_getElem hk, Option.getD_some, e]
    rw [e2] at h1
    omega
  · cases n with
    | zero =>
      rw [wk, if_neg (fun e => ht (by rw [e]; exact ha))]
      exact Nat.zero_le _
    | succ n =>
      rw [wk]
      have : sSum (fun k => wk g m L a n (L.getD k 0) * cnt g m (L.getD k 0) t 32) L.length = 0 := by
        refine (sSum_cong (h := fun _ => 0) (fun k hk => ?_)).trans (sSum_zero _)
        have hs := List.mem_of_getElem? (getD_at hk)
        have hc : ∀ j, j ≤ 32 → cnt g m (L.getD k 0) t j = 0 := by
          intro j
          induction j with
          | zero => intro _; rfl
          | succ j ih =>
            intro hj
            rw [cnt, ih (by omega), if_neg]
            rintro ⟨h1, h2⟩
            exact ht (h2 ▸ hcl _ hs j (by omega) h1)
        rw [hc 32 (Nat.le_refl _), Nat.mul_zero]
      rw [this]; exact Nat.zero_le _
def rwN (g : Nat → Nat) (m : Nat) (L : List Nat) (a z n : Nat) : Nat := sSum (fun k => if gl g z (L.getD k 0) = true then wk g m L a n (L.getD k 0) else 0) L.length
def v_rows (g : Nat → Nat) (x y : Int32) : Int64 := if iB x (2 ^ g 2) = true ∧ iR 0 10 y = true then lN (rwN g (evb g) (stds g (evb g) false (sNow g 4)) (sNow g 4) x.toNatClampNeg y.toNatClampNeg) else -3
theorem q_lpos {w : Nat} (hw : w < 9223372036854775808) : ((0 : Int64) < lN w) = (0 < w) := by
  rw [show (0 : Int64) = lN 0 from rfl]
  exact propext (pk_lLT (by decide) (by exact hw))
/-- longs: rows 14 and 15 alone -/
def LK (l l' : Nat → Nat → Int64) (w v : Nat → Nat) : Prop := (∀ t, t < 4096 → l' 14 t = lN (w t)) ∧ (∀ t, t < 4096 → l' 15 t = lN (v t)) ∧ ∀ c, c ≠ 14 → c ≠ 15 → l' c = l c
section
variable {i : Nat → Nat → Int32} {l : Nat → Nat → Int64} {g : Nat → Nat}
theorem r_M_beginsMany (d : Nat) (hA : MA i g) (hP : ∀ p, p < 4 → g (18 + p) < 8) : MR none (fun i' l' => i' = i ∧ LK l l' (fun t => if t = sNow g 4 then 1 else 0) (fun _ => 0)) (am_cl (d + 2) mM_beginsMany [.ref 0] (i, l, rM, kM)) := by
  have hn := sNow_lt g hP 4 (by decide)
  rw [c_M_beginsMany, b_M_beginsMany_0]
  refine am_loop (fun k ls st => ∃ l', ls = [.val (.ref 0), .val (.int (nI k))] ∧ st = (i, l', rM, kM) ∧ (∀ t, t < k → l' 14 t = lN (if t = sNow g 4 then 1 else 0)) ∧ (∀ t, t < k → l' 15 t = lN 0) ∧ ∀ c, c ≠ 14 → c ≠ 15 → l' c = l c) 4096 _ (fun k ls st hk hI => ?_) (fun ls st hI => ?_) ⟨l, rfl, rfl, fun t ht => by omega, fun t ht => by omega, fun _ _ _ => rfl⟩
  · obtain ⟨l1, e1, e2, h14, h15, hc⟩ := hI
    subst e1; subst e2
    have fin : ∀ v, v = lN (if k = sNow g 4 then 1 else 0) → Go (d + 1) mM_beginsMany 2 (fun ls st => ∃ l', ls = [.val (.ref 0), .val (.int (nI (k + 1)))] ∧ st = (i, l', rM, kM) ∧ (∀ t, t < k + 1 → l' 14 t = lN (if t = sNow g 4 then 1 else 0)) ∧ (∀ t, t < k + 1 → l' 15 t = lN 0) ∧ ∀ c, c ≠ 14 → c ≠ 15 → l' c = l c) (am_Ex (d + 1) mM_beginsMany 2 [.val (.ref 0), .val (.int (nI (k + 1)))] [] (i, am_u2 (am_u2 l1 14 k v) 15 k 0, rM, kM)) := by
      intro v hv
      refine Go_in ⟨_, rfl, rfl, fun t ht => ?_, fun t ht => ?_, fun c h1 h2 => ?_⟩
      · show (if t = k then v else l1 14 t) = _
        by_cases e : t = k
        · subst e; rw [if_pos rfl, hv]
        · rw [if_neg e, h14 t (by omega)]
      · show (if t = k then (0 : Int64) else l1 15 t) = _
        by_cases e : t = k
        · rw [if_pos e]; rfl
        · rw [if_neg e, h15 t (by omega)]
      · funext t
        show (if c = 15 then _ else (if c = 14 then _ else l1 c t)) = _
        rw [if_neg h2, if_neg h1, hc c h1 h2]
    rw [b_M_beginsMany_2]
    by_cases e : k = sNow g 4
    · simp (disch := first | assumption | omega) only [b_M_beginsMany_0, b_M_beginsMany_19, b_M_beginsMany_27, s_M_standNow, ↓Bool.cond_decide, ↓q_in, q_le, q_lt, q_eq, q_leT, q_leF, q_ltT, q_ltF, q_eqT, q_eqF, ↓reduceIte, not_true_eq_false, not_false_eq_true, true_and, and_true, and_self, false_and, and_false, Nat.zero_le, am_bd_some, q_app, q_app0, nI_add, pk_sub, pk_mul, q_dec, q_ix, q_m1, q_m1', ↓q_ret, q_bool, q_bool1, q_u1, q_shl1, q_shr, q_and7, q_dg, fa_or, fa_and, decide_true, decide_false, Bool.or_false, Bool.or_true, Bool.true_or, Bool.false_or, cond_true, cond_false, ite_not, q_some, q_nn, q_xor, q_xorm, Bool.false_eq_true, decide_eq_true_eq, ne_eq, l_0, l_1, l_2, l_5, l_8, l_11, l_12, l_14, l_15, l_19, l_27, l_4096]
      exact fin 1 (by rw [if_pos e]; rfl)
    · simp (disch := first | assumption | omega) only [b_M_beginsMany_0, b_M_beginsMany_19, b_M_beginsMany_27, s_M_standNow, ↓Bool.cond_decide, ↓q_in, q_le, q_lt, q_eq, q_leT, q_leF, q_ltT, q_ltF, q_eqT, q_eqF, ↓reduceIte, not_true_eq_false, not_false_eq_true, true_and, and_true, and_self, false_and, and_false, Nat.zero_le, am_bd_some, q_app, q_app0, nI_add, pk_sub, pk_mul, q_dec, q_ix, q_m1, q_m1', ↓q_ret, q_bool, q_bool1, q_u1, q_shl1, q_shr, q_and7, q_dg, fa_or, fa_and, decide_true, decide_false, Bool.or_false, Bool.or_true, Bool.true_or, Bool.false_or, cond_true, cond_false, ite_not, q_some, q_nn, q_xor, q_xorm, Bool.false_eq_true, decide_eq_true_eq, ne_eq, l_0, l_1, l_2, l_5, l_8, l_11, l_12, l_14, l_15, l_19, l_27, l_4096]
      exact fin 0 (by rw [if_neg e]; rfl)
  · obtain ⟨l1, e1, e2, h14, h15, hc⟩ := hI
    subst e1; subst e2
    rw [b_M_beginsMany_2]
    simp (disch := first | assumption | omega) only [b_M_beginsMany_0, b_M_beginsMany_19, b_M_beginsMany_27, s_M_standNow, ↓Bool.cond_decide, ↓q_in, q_le, q_lt, q_eq, q_leT, q_leF, q_ltT, q_ltF, q_eqT, q_eqF, ↓reduceIte, not_true_eq_false, not_false_eq_true, true_and, and_true, and_self, false_and, and_false, Nat.zero_le, am_bd_some, q_app, q_app0, nI_add, pk_sub, pk_mul, q_dec, q_ix, q_m1, q_m1', ↓q_ret, q_bool, q_bool1, q_u2, q_u1, q_shl1, q_shr, q_and7, q_dg, fa_or, fa_and, decide_true, decide_false, Bool.or_false, Bool.or_true, Bool.true_or, Bool.false_or, cond_true, cond_false, ite_not, q_some, q_nn, q_xor, q_xorm, Bool.false_eq_true, decide_eq_true_eq, ne_eq, l_0, l_1, l_2, l_5, l_8, l_11, l_12, l_14, l_15, l_19, l_27, l_4096]
    exact MR_some ⟨rfl, h14, h15, hc⟩
theorem r_M_isThen (d : Nat) {w v : Nat → Nat} {l0 : Nat → Nat → Int64} (hL : LK l0 l w v) : MR none (fun i' l' => i' = i ∧ LK l0 l' v (fun _ => 0)) (am_cl (d + 1) mM_isThen [.ref 0] (i, l, rM, kM)) := by
  rw [c_M_isThen, b_M_isThen_0]
  refine am_loop (fun k ls st => ∃ l', ls = [.val (.ref 0), .val (.int (nI k))] ∧ st = (i, l', rM, kM) ∧ (∀ t, t < 4096 → t < k → l' 14 t = lN (v t)) ∧ (∀ t, t < 4096 → l' 15 t = if t < k then lN 0 else lN (v t)) ∧ ∀ c, c ≠ 14 → c ≠ 15 → l' c = l0 c) 4096 _ (fun k ls st hk hI => ?_) (fun ls st hI => ?_) ⟨l, rfl, rfl, fun t _ ht => by omega, fun t ht => by rw [if_neg (by omega)]; exact hL.2.1 t ht, hL.2.2⟩
  · obtain ⟨l1, e1, e2, h14, h15, hc⟩ := hI
    subst e1; subst e2
    have hk15 := h15 k hk
    rw [if_neg (by omega)] at hk15
    rw [b_M_isThen_2]
    simp (disch := first | assumption | omega) only [b_M_isThen_0, ↓Bool.cond_decide, ↓q_in, q_le, q_lt, q_eq, q_leT, q_leF, q_ltT, q_ltF, q_eqT, q_eqF, ↓reduceIte, not_true_eq_false, not_false_eq_true, true_and, and_true, and_self, false_and, and_false, Nat.zero_le, am_bd_some, q_app, q_app0, nI_add, pk_sub, pk_mul, q_dec, q_ix, q_m1, q_m1', ↓q_ret, q_bool, q_bool1, q_u1, q_shl1, q_shr, q_and7, q_dg, fa_or, fa_and, decide_true, decide_false, Bool.or_false, Bool.or_true, Bool.true_or, Bool.false_or, cond_true, cond_false, ite_not, q_some, q_nn, q_xor, q_xorm, Bool.false_eq_true, decide_eq_true_eq, ne_eq, l_0, l_1, l_2, l_5, l_14, l_15, l_22, l_4096, hk15]
    refine Go_in ⟨_, rfl, rfl, fun t h4 ht => ?_, fun t ht => ?_, fun c h1 h2 => ?_⟩
    · show (if t = k then lN (v k) else l1 14 t) = _
      by_cases e : t = k
      · subst e; rw [if_pos rfl]
      · rw [if_neg e, h14 t h4 (by omega)]
    · show (if t = k then (0 : Int64) else l1 15 t) = _
      by_cases e : t = k
      · rw [if_pos e, if_pos (by omega)]; rfl
      · rw [if_neg e, h15 t ht]
        by_cases e2 : t < k
        · rw [if_pos e2, if_pos (by omega)]
        · rw [if_neg e2, if_neg (by omega)]
    · funext t
      show (if c = 15 then _ else (if c = 14 then _ else l1 c t)) = _
      rw [if_neg h2, if_neg h1, hc c h1 h2]
  · obtain ⟨l1, e1, e2, h14, h15, hc⟩ := hI
    subst e1; subst e2
    rw [b_M_isThen_2]
    simp (disch := first | assumption | omega) only [b_M_isThen_0, ↓Bool.cond_decide, ↓q_in, q_le, q_lt, q_eq, q_leT, q_leF, q_ltT, q_ltF, q_eqT, q_eqF, ↓reduceIte, not_true_eq_false, not_false_eq_true, true_and, and_true, and_self, false_and, and_false, Nat.zero_le, am_bd_some, q_app, q_app0, nI_add, pk_sub, pk_mul, q_dec, q_ix, q_m1, q_m1', ↓q_ret, q_bool, q_bool1, q_u2, q_u1, q_shl1, q_shr, q_and7, q_dg, fa_or, fa_and, decide_true, decide_false, Bool.or_false, Bool.or_true, Bool.true_or, Bool.false_or, cond_true, cond_false, ite_not, q_some, q_nn, q_xor, q_xorm, Bool.false_eq_true, decide_eq_true_eq, ne_eq, l_0, l_1, l_2, l_5, l_14, l_15, l_22, l_4096]
    exact MR_some ⟨rfl, fun t ht => h14 t ht ht, fun t ht => by rw [h15 t ht, if_pos ht], hc⟩
theorem r_M_rows (d : Nat) (x y : Int32) {σ : St} (hS : MS i l σ) (hW : WG σ.1) : MR (some (.long (v_rows σ.1 x y))) (fun i' l' => MS i' l' σ) (am_cl (d + 8) mM_rows [.ref 0, .int x, .int y] (i, l, rM, kM)) := by
  have hW' := hW
  obtain ⟨g, σ⟩ := σ
  obtain ⟨⟨h1', h1⟩, h2, h3, hR, hF, hP, hSt, hD, hL0, hL1, hV⟩ := hW
  have h1 : g 1 ≤ 6 := h1
  have h2 : g 2 ≤ 4 := h2
  have hR : ∀ p, p < 4 → g (10 + p) ≤ 4 := hR
  have hP : ∀ p, p < 4 → g (18 + p) < 8 := hP
  have hSt : ∀ p, p < 4 → g (22 + p) ≤ 9 := hSt
  have hD : ∀ s, s < 6 → g (26 + s) ≤ 9 := hD
  have hA := hS.1
  have hn := sNow_lt g hP 4 (by decide)
  have hf0 : Fx [100] i (am_u2 i 0 0 (nI 0)) := by (repeat (first | exact Fx_refl _ _ | assumption | refine Fx_u2 rfl ?_ | refine Fx_u1 rfl (by decide) ?_ | refine Fx_step (by assumption) rfl ?_ | refine Fx_stepr (by assumption) rfl rfl ?_))
  have hM0 : MA (am_u2 i 0 0 (nI 0)) g := MA_fx hf0 hA rfl
  have hM0' : ∀ k, k < 3222 → am_u2 i 0 0 (nI 0) 1 k = nI (g k) := hM0
  have hev := evb_lt h2
  have ey := iR_e 0 10 (lo := 0) (hi := 10) rfl rfl y
  rw [c_M_rows, b_M_rows_0, v_rows]
  by_cases hx : iB x (2 ^ g 2) = true
  · by_cases hy : iR 0 10 y = true
    · have hcl0 : ∀ s, s ∈ stds g (evb g) false (sNow g 4) → ∀ j, j < 32 → avl g (evb g) s j = true → tgt s j ∈ stds g (evb g) false (sNow g 4) := fun s hs => (stds_step h2 hn hs).1
      have hst0 : sNow g 4 ∈ stds g (evb g) false (sNow g 4) := stds_start h2 hn
      have hnd0 : (stds g (evb g) false (sNow g 4)).Nodup := stds_nodup
      obtain ⟨L, i1, hL, hlen, hlt, e1, hf1, hQ1, hG1, hT1⟩ := r_M_stds (l := l) d (m := evb g) (by omega) hM0 hW'
      have hA1 : ∀ k, k < 3222 → i1 1 k = nI (g k) := MA_fx hf1 hM0 rfl
      have hM1 : MA i1 g := hA1
      have h28 := hQ1.2.2
      dsimp only
      rw [hL] at hcl0 hst0 hnd0 ⊢
      have hwb := wk_lt (m := evb g) hnd0 hst0 hcl0
      simp (disch := first | assumption | omega) only [b_M_rows_0, b_M_rows_10, b_M_rows_22, b_M_rows_25, b_M_rows_34, b_M_rows_38, b_M_rows_42, b_M_rows_130, b_M_rows_152, b_M_rows_163, b_M_rows_169, b_M_rows_179, b_M_rows_212, b_M_rows_231, s_M_everybody', s_M_isIn, s_M_isOver, s_M_isSet, s_M_withPlace, s_M_within, ↓Bool.cond_decide, ↓q_in, q_le, q_lt, q_eq, q_leT, q_leF, q_ltT, q_ltF, q_eqT, q_eqF, ↓reduceIte, not_true_eq_false, not_false_eq_true, true_and, and_true, and_self, false_and, and_false, Nat.zero_le, am_bd_some, q_app, q_app0, nI_add, pk_sub, pk_mul, q_dec, q_ix, q_m1, q_m1', ↓q_ret, q_bool, q_bool1, q_u1, q_shl1, q_shr, q_and7, q_dg, fa_or, fa_and, decide_true, decide_false, Bool.or_false, Bool.or_true, Bool.true_or, Bool.false_or, cond_true, cond_false, ite_not, q_some, q_nn, q_xor, q_xorm, Bool.false_eq_true, decide_eq_true_eq, ne_eq, l_0, l_1, l_2, l_3, l_4, l_5, l_7, l_8, l_9, l_10, l_11, l_13, l_14, l_15, l_16, l_22, l_25, l_28, l_32, l_34, l_38, l_42, l_44, l_52, l_73, l_130, l_152, l_163, l_169, l_179, l_190, l_212, l_231, l_4096, l_16384, hx, ey, hy, s_M_everybody', e1]
      obtain ⟨z, hz, rfl⟩ := iB_T hx
      obtain ⟨n, _, hn10, rfl⟩ := iR_T hy
      have hp2 := p2_le h2
      rw [q_ix (show z < 2 ^ 31 by omega), q_ix (show n < 2 ^ 31 by omega)]
      have hpw : ∀ k, k ≤ 10 → 32 ^ k ≤ 1125899906842624 := fun k hk => Nat.le_trans (Nat.pow_le_pow_right (by decide) hk) (by decide)
      refine MR_bd (r_M_beginsMany (d + 5) hM1 hP) ?_
      intro i2 l2 ⟨hi2, hL2⟩
      subst hi2
      simp (disch := first | assumption | omega) only [b_M_rows_0, b_M_rows_10, b_M_rows_22, b_M_rows_25, b_M_rows_34, b_M_rows_38, b_M_rows_42, b_M_rows_130, b_M_rows_152, b_M_rows_163, b_M_rows_169, b_M_rows_179, b_M_rows_212, b_M_rows_231, s_M_everybody, s_M_everybody', s_M_isIn, s_M_isOver, s_M_isSet, s_M_withPlace, s_M_within, ↓Bool.cond_decide, ↓q_in, q_le, q_lt, q_eq, q_leT, q_leF, q_ltT, q_ltF, q_eqT, q_eqF, ↓reduceIte, not_true_eq_false, not_false_eq_true, true_and, and_true, and_self, false_and, and_false, Nat.zero_le, am_bd_some, q_app, q_app0, nI_add, pk_sub, pk_mul, q_dec, q_ix, q_m1, q_m1', ↓q_ret, q_bool, q_bool1, q_u2, q_u1, q_shl1, q_shr, q_and7, q_dg, fa_or, fa_and, decide_true, decide_false, Bool.or_false, Bool.or_true, Bool.true_or, Bool.false_or, cond_true, cond_false, ite_not, q_some, q_nn, q_xor, q_xorm, Bool.false_eq_true, decide_eq_true_eq, ne_eq, l_0, l_1, l_2, l_3, l_4, l_5, l_7, l_8, l_9, l_10, l_11, l_13, l_14, l_15, l_16, l_22, l_25, l_28, l_32, l_34, l_38, l_42, l_44, l_52, l_73, l_130, l_152, l_163, l_169, l_179, l_190, l_212, l_231, l_4096, l_16384]
      refine am_loop (fun r ls st => ∃ z4 z5 z6 l', ls = [.val (.ref 0), .val (.int (nI z)), .val (.int (nI n)), .val (.int (nI r)), z4, z5, z6] ∧ st = (i2, l', rM, kM) ∧ LK l l' (wk g (evb g) L (sNow g 4) r) (fun _ => 0)) n _ (fun r ls st hr hI => ?_) (fun ls st hI => ?_) ⟨_, _, _, l2, rfl, rfl, hL2⟩
      · obtain ⟨z4, z5, z6, l3, e1, e2, hL3⟩ := hI
        subst e1; subst e2
        have hb1 := hpw r (by omega)
        have hb2 := hpw (r + 1) (by omega)
        rw [b_M_rows_44]
        simp (disch := first | assumption | omega) only [b_M_rows_0, b_M_rows_10, b_M_rows_22, b_M_rows_25, b_M_rows_34, b_M_rows_38, b_M_rows_42, b_M_rows_130, b_M_rows_152, b_M_rows_163, b_M_rows_169, b_M_rows_179, b_M_rows_212, b_M_rows_231, s_M_everybody, s_M_everybody', s_M_isIn, s_M_isOver, s_M_isSet, s_M_withPlace, s_M_within, ↓Bool.cond_decide, ↓q_in, q_le, q_lt, q_eq, q_leT, q_leF, q_ltT, q_ltF, q_eqT, q_eqF, ↓reduceIte, not_true_eq_false, not_false_eq_true, true_and, and_true, and_self, false_and, and_false, Nat.zero_le, am_bd_some, q_app, q_app0, nI_add, pk_sub, pk_mul, q_dec, q_ix, q_m1, q_m1', ↓q_ret, q_bool, q_bool1, q_u2, q_u1, q_shl1, q_shr, q_and7, q_dg, fa_or, fa_and, decide_true, decide_false, Bool.or_false, Bool.or_true, Bool.true_or, Bool.false_or, cond_true, cond_false, ite_not, q_some, q_nn, q_xor, q_xorm, Bool.false_eq_true, decide_eq_true_eq, ne_eq, l_0, l_1, l_2, l_3, l_4, l_5, l_7, l_8, l_9, l_10, l_11, l_13, l_14, l_15, l_16, l_22, l_25, l_28, l_32, l_34, l_38, l_42, l_44, l_52, l_73, l_130, l_152, l_163, l_169, l_179, l_190, l_212, l_231, l_4096, l_16384]
        refine am_loop (fun k ls st => ∃ z5 z6 l', ls = [.val (.ref 0), .val (.int (nI z)), .val (.int (nI n)), .val (.int (nI r)), .val (.int (nI k)), z5, z6] ∧ st = (i2, l', rM, kM) ∧ LK l l' (wk g (evb g) L (sNow g 4) r) (fun t => sSum (fun k => wk g (evb g) L (sNow g 4) r (L.getD k 0) * cnt g (evb g) (L.getD k 0) t 32) k)) L.length _ (fun k ls st hk hI => ?_) (fun ls st hI => ?_) ⟨_, _, l3, rfl, rfl, hL3⟩
        · obtain ⟨z5, z6, l4, e1, e2, hL4⟩ := hI
          subst e1; subst e2
          have hs := getD_at hk
          have h10 := hQ1.1 k _ hs
          have hsL := List.mem_of_getElem? hs
          have hs4 := hlt _ hsL
          have hw := hwb r (L.getD k 0)
          have h14 := hL4.1 (L.getD k 0) hs4
          have hle : ∀ t, sSum (fun k => wk g (evb g) L (sNow g 4) r (L.getD k 0) * cnt g (evb g) (L.getD k 0) t 32) (k + 1) ≤ 1125899906842624 := fun t => by
            have h1 := sSum_part (f := fun k => wk g (evb g) L (sNow g 4) r (L.getD k 0) * cnt g (evb g) (L.getD k 0) t 32) (n := k + 1) (L.length - (k + 1))
            rw [show k + 1 + (L.length - (k + 1)) = L.length by omega] at h1
            have h2 := hwb (r + 1) t
            rw [wk] at h2
            omega
          rw [b_M_rows_52]
          simp (disch := first | assumption | omega) only [b_M_rows_0, b_M_rows_10, b_M_rows_22, b_M_rows_25, b_M_rows_34, b_M_rows_38, b_M_rows_42, b_M_rows_130, b_M_rows_152, b_M_rows_163, b_M_rows_169, b_M_rows_179, b_M_rows_212, b_M_rows_231, s_M_everybody, s_M_everybody', s_M_isIn, s_M_isOver, s_M_isSet, s_M_withPlace, s_M_within, ↓Bool.cond_decide, ↓q_in, q_le, q_lt, q_eq, q_leT, q_leF, q_ltT, q_ltF, q_eqT, q_eqF, ↓reduceIte, not_true_eq_false, not_false_eq_true, true_and, and_true, and_self, false_and, and_false, Nat.zero_le, am_bd_some, q_app, q_app0, nI_add, pk_sub, pk_mul, q_dec, q_ix, q_m1, q_m1', ↓q_ret, q_bool, q_bool1, q_u2, q_u1, q_shl1, q_shr, q_and7, q_dg, fa_or, fa_and, decide_true, decide_false, Bool.or_false, Bool.or_true, Bool.true_or, Bool.false_or, cond_true, cond_false, ite_not, q_some, q_nn, q_xor, q_xorm, Bool.false_eq_true, decide_eq_true_eq, ne_eq, l_0, l_1, l_2, l_3, l_4, l_5, l_7, l_8, l_9, l_10, l_11, l_13, l_14, l_15, l_16, l_22, l_25, l_28, l_32, l_34, l_38, l_42, l_44, l_52, l_73, l_130, l_152, l_163, l_169, l_179, l_190, l_212, l_231, l_4096, l_16384, h28, h10]
          generalize hsv : L.getD k 0 = s at *
          by_cases hw0 : wk g (evb g) L (sNow g 4) r s = 0
          · have hz : ((0 : Int64) < lN 0) = False := by rw [q_lpos (by decide)]; exact eq_false (by decide)
            rw [b_M_rows_73]
            simp (disch := first | assumption | omega) only [b_M_rows_0, b_M_rows_10, b_M_rows_22, b_M_rows_25, b_M_rows_34, b_M_rows_38, b_M_rows_42, b_M_rows_130, b_M_rows_152, b_M_rows_163, b_M_rows_169, b_M_rows_179, b_M_rows_212, b_M_rows_231, s_M_everybody, s_M_everybody', s_M_isIn, s_M_isOver, s_M_isSet, s_M_withPlace, s_M_within, ↓Bool.cond_decide, ↓q_in, q_le, q_lt, q_eq, q_leT, q_leF, q_ltT, q_ltF, q_eqT, q_eqF, ↓reduceIte, not_true_eq_false, not_false_eq_true, true_and, and_true, and_self, false_and, and_false, Nat.zero_le, am_bd_some, q_app, q_app0, nI_add, pk_sub, pk_mul, q_dec, q_ix, q_m1, q_m1', ↓q_ret, q_bool, q_bool1, q_u2, q_u1, q_shl1, q_shr, q_and7, q_dg, fa_or, fa_and, decide_true, decide_false, Bool.or_false, Bool.or_true, Bool.true_or, Bool.false_or, cond_true, cond_false, ite_not, q_some, q_nn, q_xor, q_xorm, Bool.false_eq_true, decide_eq_true_eq, ne_eq, l_0, l_1, l_2, l_3, l_4, l_5, l_7, l_8, l_9, l_10, l_11, l_13, l_14, l_15, l_16, l_22, l_25, l_28, l_32, l_34, l_38, l_42, l_44, l_52, l_73, l_130, l_152, l_163, l_169, l_179, l_190, l_212, l_231, l_4096, l_16384, h14, hw0, q_cle, hz]
            refine Go_in ⟨_, _, l4, rfl, rfl, hL4.1, fun t ht => ?_, hL4.2.2⟩
            rw [hL4.2.1 t ht]
            show lN (sSum _ k) = lN (sSum _ k + wk g (evb g) L (sNow g 4) r (L.getD k 0) * cnt g (evb g) (L.getD k 0) t 32)
            rw [hsv, hw0, Nat.zero_mul, Nat.add_zero]
          · have hz : ((0 : Int64) < lN (wk g (evb g) L (sNow g 4) r s)) = True := by rw [q_lpos (by omega)]; exact eq_true (by omega)
            refine am_loop (fun j ls st => ∃ l', ls = [.val (.ref 0), .val (.int (nI z)), .val (.int (nI n)), .val (.int (nI r)), .val (.int (nI k)), .val (.int (nI s)), .val (.int (nI j))] ∧ st = (i2, l', rM, kM) ∧ LK l l' (wk g (evb g) L (sNow g 4) r) (fun t => sSum (fun k => wk g (evb g) L (sNow g 4) r (L.getD k 0) * cnt g (evb g) (L.getD k 0) t 32) k + wk g (evb g) L (sNow g 4) r s * cnt g (evb g) s t j)) 32 _ (fun j ls st hj hI => ?_) (fun ls st hI => ?_) ⟨l4, rfl, rfl, hL4.1, fun t ht => by rw [hL4.2.1 t ht]; rfl, hL4.2.2⟩
            · obtain ⟨l5, e1, e2, hL5⟩ := hI
              subst e1; subst e2
              have h14' := hL5.1 s hs4
              have hgo := hG1 k s hk hs
              have hgb := gBit_lt (m := evb g) (s := s) (p := j / 8) h1
              have h11 := hgo (j / 8) (by omega)
              have hwl := wp_lt (p := j / 8) (x := j % 8) hs4 (by omega) (by omega)
              have hta : tgt s j = wp s (j / 8) (j % 8) := rfl
              have hav : avl g (evb g) s j = (gBit g (evb g) s (j / 8)).testBit (j % 8) := rfl
              have same : avl g (evb g) s j = false → Go (d + 7) mM_rows 73 (fun ls st => ∃ l', ls = [.val (.ref 0), .val (.int (nI z)), .val (.int (nI n)), .val (.int (nI r)), .val (.int (nI k)), .val (.int (nI s)), .val (.int (nI (j + 1)))] ∧ st = (i2, l', rM, kM) ∧ LK l l' (wk g (evb g) L (sNow g 4) r) (fun t => sSum (fun k => wk g (evb g) L (sNow g 4) r (L.getD k 0) * cnt g (evb g) (L.getD k 0) t 32) k + wk g (evb g) L (sNow g 4) r s * cnt g (evb g) s t (j + 1))) (am_Ex (d + 7) mM_rows 73 [.val (.ref 0), .val (.int (nI z)), .val (.int (nI n)), .val (.int (nI r)), .val (.int (nI k)), .val (.int (nI s)), .val (.int (nI (j + 1)))] [] (i2, l5, rM, kM)) := by
                intro hf
                refine Go_in ⟨l5, rfl, rfl, hL5.1, fun t ht => ?_, hL5.2.2⟩
                rw [hL5.2.1 t ht]; dsimp only; rw [cnt_s g (evb g) s t j, if_neg (fun z => by rw [hf] at z; cases z.1), Nat.add_zero]
              rw [b_M_rows_73]
              by_cases hp : j / 8 < g 2
              · cases hbt : (gBit g (evb g) s (j / 8)).testBit (j % 8) with
                | false =>
                  simp (disch := first | assumption | omega) only [b_M_rows_0, b_M_rows_10, b_M_rows_22, b_M_rows_25, b_M_rows_34, b_M_rows_38, b_M_rows_42, b_M_rows_130, b_M_rows_152, b_M_rows_163, b_M_rows_169, b_M_rows_179, b_M_rows_212, b_M_rows_231, s_M_everybody, s_M_everybody', s_M_isIn, s_M_isOver, s_M_isSet, s_M_withPlace, s_M_within, ↓Bool.cond_decide, ↓q_in, q_le, q_lt, q_eq, q_leT, q_leF, q_ltT, q_ltF, q_eqT, q_eqF, ↓reduceIte, not_true_eq_false, not_false_eq_true, true_and, and_true, and_self, false_and, and_false, Nat.zero_le, am_bd_some, q_app, q_app0, nI_add, pk_sub, pk_mul, q_dec, q_ix, q_m1, q_m1', ↓q_ret, q_bool, q_bool1, q_u2, q_u1, q_shl1, q_shr, q_and7, q_dg, fa_or, fa_and, decide_true, decide_false, Bool.or_false, Bool.or_true, Bool.true_or, Bool.false_or, cond_true, cond_false, ite_not, q_some, q_nn, q_xor, q_xorm, Bool.false_eq_true, decide_eq_true_eq, ne_eq, l_0, l_1, l_2, l_3, l_4, l_5, l_7, l_8, l_9, l_10, l_11, l_13, l_14, l_15, l_16, l_22, l_25, l_28, l_32, l_34, l_38, l_42, l_44, l_52, l_73, l_130, l_152, l_163, l_169, l_179, l_190, l_212, l_231, l_4096, l_16384, hA1, h14', q_cle, hz, pk_div, q_remL, q_remN, h11, hbt]
                  exact same (by rw [hav]; exact hbt)
                | true =>
                  have h15 := hL5.2.1 (wp s (j / 8) (j % 8)) hwl
                  simp (disch := first | assumption | omega) only [b_M_rows_0, b_M_rows_10, b_M_rows_22, b_M_rows_25, b_M_rows_34, b_M_rows_38, b_M_rows_42, b_M_rows_130, b_M_rows_152, b_M_rows_163, b_M_rows_169, b_M_rows_179, b_M_rows_212, b_M_rows_231, s_M_everybody, s_M_everybody', s_M_isIn, s_M_isOver, s_M_isSet, s_M_withPlace, s_M_within, ↓Bool.cond_decide, ↓q_in, q_le, q_lt, q_eq, q_leT, q_leF, q_ltT, q_ltF, q_eqT, q_eqF, ↓reduceIte, not_true_eq_false, not_false_eq_true, true_and, and_true, and_self, false_and, and_false, Nat.zero_le, am_bd_some, q_app, q_app0, nI_add, pk_sub, pk_mul, q_dec, q_ix, q_m1, q_m1', ↓q_ret, q_bool, q_bool1, q_u1, q_shl1, q_shr, q_and7, q_dg, fa_or, fa_and, decide_true, decide_false, Bool.or_false, Bool.or_true, Bool.true_or, Bool.false_or, cond_true, cond_false, ite_not, q_some, q_nn, q_xor, q_xorm, Bool.false_eq_true, decide_eq_true_eq, ne_eq, l_0, l_1, l_2, l_3, l_4, l_5, l_7, l_8, l_9, l_10, l_11, l_13, l_14, l_15, l_16, l_22, l_25, l_28, l_32, l_34, l_38, l_42, l_44, l_52, l_73, l_130, l_152, l_163, l_169, l_179, l_190, l_212, l_231, l_4096, l_16384, hA1, h14', q_cle, hz, pk_div, q_remL, q_remN, h11, hbt, h15, lN_add]
                  refine Go_in ⟨_, rfl, rfl, hL5.1, fun t ht => ?_, fun c h1 h2 => ?_⟩
                  · show (if t = wp s (j / 8) (j % 8) then _ else l5 15 t) = _
                    by_cases e : t = wp s (j / 8) (j % 8)
                    · rw [if_pos e]; dsimp only; rw [cnt_s g (evb g) s t j, if_pos ⟨by rw [hav]; exact hbt, by rw [hta]; exact e.symm⟩, Nat.mul_add, Nat.mul_one, e, Nat.add_assoc]
                    · rw [if_neg e, hL5.2.1 t ht]; dsimp only; rw [cnt_s g (evb g) s t j, if_neg (fun z => e (by rw [← hta]; exact z.2.symm)), Nat.add_zero]
                  · funext t
                    show (if c = 15 then _ else l5 c t) = _
                    rw [if_neg h2, hL5.2.2 c h1 h2]
              · have hf : avl g (evb g) s j = false := by
                  rw [hav]; unfold gBit; rw [if_neg (fun z => hp z.1)]; exact Nat.zero_testBit _
                simp (disch := first | assumption | omega) only [b_M_rows_0, b_M_rows_10, b_M_rows_22, b_M_rows_25, b_M_rows_34, b_M_rows_38, b_M_rows_42, b_M_rows_130, b_M_rows_152, b_M_rows_163, b_M_rows_169, b_M_rows_179, b_M_rows_212, b_M_rows_231, s_M_everybody, s_M_everybody', s_M_isIn, s_M_isOver, s_M_isSet, s_M_withPlace, s_M_within, ↓Bool.cond_decide, ↓q_in, q_le, q_lt, q_eq, q_leT, q_leF, q_ltT, q_ltF, q_eqT, q_eqF, ↓reduceIte, not_true_eq_false, not_false_eq_true, true_and, and_true, and_self, false_and, and_false, Nat.zero_le, am_bd_some, q_app, q_app0, nI_add, pk_sub, pk_mul, q_dec, q_ix, q_m1, q_m1', ↓q_ret, q_bool, q_bool1, q_u2, q_u1, q_shl1, q_shr, q_and7, q_dg, fa_or, fa_and, decide_true, decide_false, Bool.or_false, Bool.or_true, Bool.true_or, Bool.false_or, cond_true, cond_false, ite_not, q_some, q_nn, q_xor, q_xorm, Bool.false_eq_true, decide_eq_true_eq, ne_eq, l_0, l_1, l_2, l_3, l_4, l_5, l_7, l_8, l_9, l_10, l_11, l_13, l_14, l_15, l_16, l_22, l_25, l_28, l_32, l_34, l_38, l_42, l_44, l_52, l_73, l_130, l_152, l_163, l_169, l_179, l_190, l_212, l_231, l_4096, l_16384, hA1, h14', q_cle, hz, pk_div, q_remL, q_remN]
                exact same hf
            · obtain ⟨l5, e1, e2, hL5⟩ := hI
              subst e1; subst e2
              rw [b_M_rows_73]
              simp (disch := first | assumption | omega) only [b_M_rows_0, b_M_rows_10, b_M_rows_22, b_M_rows_25, b_M_rows_34, b_M_rows_38, b_M_rows_42, b_M_rows_130, b_M_rows_152, b_M_rows_163, b_M_rows_169, b_M_rows_179, b_M_rows_212, b_M_rows_231, s_M_everybody, s_M_everybody', s_M_isIn, s_M_isOver, s_M_isSet, s_M_withPlace, s_M_within, ↓Bool.cond_decide, ↓q_in, q_le, q_lt, q_eq, q_leT, q_leF, q_ltT, q_ltF, q_eqT, q_eqF, ↓reduceIte, not_true_eq_false, not_false_eq_true, true_and, and_true, and_self, false_and, and_false, Nat.zero_le, am_bd_some, q_app, q_app0, nI_add, pk_sub, pk_mul, q_dec, q_ix, q_m1, q_m1', ↓q_ret, q_bool, q_bool1, q_u2, q_u1, q_shl1, q_shr, q_and7, q_dg, fa_or, fa_and, decide_true, decide_false, Bool.or_false, Bool.or_true, Bool.true_or, Bool.false_or, cond_true, cond_false, ite_not, q_some, q_nn, q_xor, q_xorm, Bool.false_eq_true, decide_eq_true_eq, ne_eq, l_0, l_1, l_2, l_3, l_4, l_5, l_7, l_8, l_9, l_10, l_11, l_13, l_14, l_15, l_16, l_22, l_25, l_28, l_32, l_34, l_38, l_42, l_44, l_52, l_73, l_130, l_152, l_163, l_169, l_179, l_190, l_212, l_231, l_4096, l_16384]
              refine Go_in ⟨_, _, l5, rfl, rfl, hL5.1, fun t ht => ?_, hL5.2.2⟩
              rw [hL5.2.1 t ht]
              show lN (sSum _ k + _) = lN (sSum _ k + wk g (evb g) L (sNow g 4) r (L.getD k 0) * cnt g (evb g) (L.getD k 0) t 32)
              rw [hsv]
        · obtain ⟨z5, z6, l4, e1, e2, hL4⟩ := hI
          subst e1; subst e2
          rw [b_M_rows_52]
          simp (disch := first | assumption | omega) only [b_M_rows_0, b_M_rows_10, b_M_rows_22, b_M_rows_25, b_M_rows_34, b_M_rows_38, b_M_rows_42, b_M_rows_130, b_M_rows_152, b_M_rows_163, b_M_rows_169, b_M_rows_179, b_M_rows_212, b_M_rows_231, s_M_everybody, s_M_everybody', s_M_isIn, s_M_isOver, s_M_isSet, s_M_withPlace, s_M_within, ↓Bool.cond_decide, ↓q_in, q_le, q_lt, q_eq, q_leT, q_leF, q_ltT, q_ltF, q_eqT, q_eqF, ↓reduceIte, not_true_eq_false, not_false_eq_true, true_and, and_true, and_self, false_and, and_false, Nat.zero_le, am_bd_some, q_app, q_app0, nI_add, pk_sub, pk_mul, q_dec, q_ix, q_m1, q_m1', ↓q_ret, q_bool, q_bool1, q_u2, q_u1, q_shl1, q_shr, q_and7, q_dg, fa_or, fa_and, decide_true, decide_false, Bool.or_false, Bool.or_true, Bool.true_or, Bool.false_or, cond_true, cond_false, ite_not, q_some, q_nn, q_xor, q_xorm, Bool.false_eq_true, decide_eq_true_eq, ne_eq, l_0, l_1, l_2, l_3, l_4, l_5, l_7, l_8, l_9, l_10, l_11, l_13, l_14, l_15, l_16, l_22, l_25, l_28, l_32, l_34, l_38, l_42, l_44, l_52, l_73, l_130, l_152, l_163, l_169, l_179, l_190, l_212, l_231, l_4096, l_16384, h28]
          obtain ⟨i6, l6, e6, hi6, hL6⟩ := r_M_isThen (i := i2) (d + 6) hL4
          subst hi6
          rw [e6]
          simp (disch := first | assumption | omega) only [b_M_rows_0, b_M_rows_10, b_M_rows_22, b_M_rows_25, b_M_rows_34, b_M_rows_38, b_M_rows_42, b_M_rows_130, b_M_rows_152, b_M_rows_163, b_M_rows_169, b_M_rows_179, b_M_rows_212, b_M_rows_231, s_M_everybody, s_M_everybody', s_M_isIn, s_M_isOver, s_M_isSet, s_M_withPlace, s_M_within, ↓Bool.cond_decide, ↓q_in, q_le, q_lt, q_eq, q_leT, q_leF, q_ltT, q_ltF, q_eqT, q_eqF, ↓reduceIte, not_true_eq_false, not_false_eq_true, true_and, and_true, and_self, false_and, and_false, Nat.zero_le, am_bd_some, q_app, q_app0, nI_add, pk_sub, pk_mul, q_dec, q_ix, q_m1, q_m1', ↓q_ret, q_bool, q_bool1, q_u2, q_u1, q_shl1, q_shr, q_and7, q_dg, fa_or, fa_and, decide_true, decide_false, Bool.or_false, Bool.or_true, Bool.true_or, Bool.false_or, cond_true, cond_false, ite_not, q_some, q_nn, q_xor, q_xorm, Bool.false_eq_true, decide_eq_true_eq, ne_eq, l_0, l_1, l_2, l_3, l_4, l_5, l_7, l_8, l_9, l_10, l_11, l_13, l_14, l_15, l_16, l_22, l_25, l_28, l_32, l_34, l_38, l_42, l_44, l_52, l_73, l_130, l_152, l_163, l_169, l_179, l_190, l_212, l_231, l_4096, l_16384]
          exact Go_in ⟨_, _, _, l6, rfl, rfl, hL6⟩
      · obtain ⟨z4, z5, z6, l3, e1, e2, hL3⟩ := hI
        subst e1; subst e2
        have hb1 := hpw n hn10
        rw [b_M_rows_44]
        simp (disch := first | assumption | omega) only [b_M_rows_0, b_M_rows_10, b_M_rows_22, b_M_rows_25, b_M_rows_34, b_M_rows_38, b_M_rows_42, b_M_rows_130, b_M_rows_152, b_M_rows_163, b_M_rows_169, b_M_rows_179, b_M_rows_212, b_M_rows_231, s_M_everybody, s_M_everybody', s_M_isIn, s_M_isOver, s_M_isSet, s_M_withPlace, s_M_within, ↓Bool.cond_decide, ↓q_in, q_le, q_lt, q_eq, q_leT, q_leF, q_ltT, q_ltF, q_eqT, q_eqF, ↓reduceIte, not_true_eq_false, not_false_eq_true, true_and, and_true, and_self, false_and, and_false, Nat.zero_le, am_bd_some, q_app, q_app0, nI_add, pk_sub, pk_mul, q_dec, q_ix, q_m1, q_m1', ↓q_ret, q_bool, q_bool1, q_u2, q_u1, q_shl1, q_shr, q_and7, q_dg, fa_or, fa_and, decide_true, decide_false, Bool.or_false, Bool.or_true, Bool.true_or, Bool.false_or, cond_true, cond_false, ite_not, q_some, q_nn, q_xor, q_xorm, Bool.false_eq_true, decide_eq_true_eq, ne_eq, l_0, l_1, l_2, l_3, l_4, l_5, l_7, l_8, l_9, l_10, l_11, l_13, l_14, l_15, l_16, l_22, l_25, l_28, l_32, l_34, l_38, l_42, l_44, l_52, l_73, l_130, l_152, l_163, l_169, l_179, l_190, l_212, l_231, l_4096, l_16384]
        refine am_loop (fun k ls st => ∃ z2 z4 z6, ls = [.val (.ref 0), .val (.int (nI z)), z2, .val (.long (lN (sSum (fun k => if gl g z (L.getD k 0) = true then wk g (evb g) L (sNow g 4) n (L.getD k 0) else 0) k))), z4, .val (.int (nI k)), z6] ∧ st = (i2, l3, rM, kM)) L.length _ (fun k ls st hk hI => ?_) (fun ls st hI => ?_) ⟨_, _, _, rfl, rfl⟩
        · obtain ⟨z2, z4, z6, e1, e2⟩ := hI
          subst e1; subst e2
          have hs := getD_at hk
          have h10 := hQ1.1 k _ hs
          have hs4 := hlt _ (List.mem_of_getElem? hs)
          have h14 := hL3.1 (L.getD k 0) hs4
          rw [b_M_rows_190]
          by_cases hg : sOver g (L.getD k 0) &&& z = z
          · have hgl : gl g z (L.getD k 0) = true := decide_eq_true hg
            simp (disch := first | assumption | omega) only [b_M_rows_0, b_M_rows_10, b_M_rows_22, b_M_rows_25, b_M_rows_34, b_M_rows_38, b_M_rows_42, b_M_rows_130, b_M_rows_152, b_M_rows_163, b_M_rows_169, b_M_rows_179, b_M_rows_212, b_M_rows_231, s_M_everybody, s_M_everybody', s_M_isIn, s_M_isOver, s_M_isSet, s_M_withPlace, s_M_within, ↓Bool.cond_decide, ↓q_in, q_le, q_lt, q_eq, q_leT, q_leF, q_ltT, q_ltF, q_eqT, q_eqF, ↓reduceIte, not_true_eq_false, not_false_eq_true, true_and, and_true, and_self, false_and, and_false, Nat.zero_le, am_bd_some, q_app, q_app0, nI_add, pk_sub, pk_mul, q_dec, q_ix, q_m1, q_m1', ↓q_ret, q_bool, q_bool1, q_u2, q_u1, q_shl1, q_shr, q_and7, q_dg, fa_or, fa_and, decide_true, decide_false, Bool.or_false, Bool.or_true, Bool.true_or, Bool.false_or, cond_true, cond_false, ite_not, q_some, q_nn, q_xor, q_xorm, Bool.false_eq_true, decide_eq_true_eq, ne_eq, l_0, l_1, l_2, l_3, l_4, l_5, l_7, l_8, l_9, l_10, l_11, l_13, l_14, l_15, l_16, l_22, l_25, l_28, l_32, l_34, l_38, l_42, l_44, l_52, l_73, l_130, l_152, l_163, l_169, l_179, l_190, l_212, l_231, l_4096, l_16384, h28, h10, hg, h14, lN_add]
            have e0 : sSum (fun k => if gl g z (L.getD k 0) = true then wk g (evb g) L (sNow g 4) n (L.getD k 0) else 0) k + wk g (evb g) L (sNow g 4) n (L.getD k 0) = sSum (fun k => if gl g z (L.getD k 0) = true then wk g (evb g) L (sNow g 4) n (L.getD k 0) else 0) (k + 1) := by
              rw [sSum, if_pos hgl]
            rw [e0]
            exact Go_in ⟨_, _, _, rfl, rfl⟩
          · have hgl : gl g z (L.getD k 0) = false := decide_eq_false hg
            simp (disch := first | assumption | omega) only [b_M_rows_0, b_M_rows_10, b_M_rows_22, b_M_rows_25, b_M_rows_34, b_M_rows_38, b_M_rows_42, b_M_rows_130, b_M_rows_152, b_M_rows_163, b_M_rows_169, b_M_rows_179, b_M_rows_212, b_M_rows_231, s_M_everybody, s_M_everybody', s_M_isIn, s_M_isOver, s_M_isSet, s_M_withPlace, s_M_within, ↓Bool.cond_decide, ↓q_in, q_le, q_lt, q_eq, q_leT, q_leF, q_ltT, q_ltF, q_eqT, q_eqF, ↓reduceIte, not_true_eq_false, not_false_eq_true, true_and, and_true, and_self, false_and, and_false, Nat.zero_le, am_bd_some, q_app, q_app0, nI_add, pk_sub, pk_mul, q_dec, q_ix, q_m1, q_m1', ↓q_ret, q_bool, q_bool1, q_u2, q_u1, q_shl1, q_shr, q_and7, q_dg, fa_or, fa_and, decide_true, decide_false, Bool.or_false, Bool.or_true, Bool.true_or, Bool.false_or, cond_true, cond_false, ite_not, q_some, q_nn, q_xor, q_xorm, Bool.false_eq_true, decide_eq_true_eq, ne_eq, l_0, l_1, l_2, l_3, l_4, l_5, l_7, l_8, l_9, l_10, l_11, l_13, l_14, l_15, l_16, l_22, l_25, l_28, l_32, l_34, l_38, l_42, l_44, l_52, l_73, l_130, l_152, l_163, l_169, l_179, l_190, l_212, l_231, l_4096, l_16384, h28, h10, hg, lN_add]
            have e0 : lN (sSum (fun k => if gl g z (L.getD k 0) = true then wk g (evb g) L (sNow g 4) n (L.getD k 0) else 0) k) + 0 = lN (sSum (fun k => if gl g z (L.getD k 0) = true then wk g (evb g) L (sNow g 4) n (L.getD k 0) else 0) (k + 1)) := by
              rw [sSum, if_neg (by rw [hgl]; decide), show (0 : Int64) = lN 0 from rfl, lN_add]
            rw [e0]
            exact Go_in ⟨_, _, _, rfl, rfl⟩
        · obtain ⟨z2, z4, z6, e1, e2⟩ := hI
          subst e1; subst e2
          rw [b_M_rows_190]
          simp (disch := first | assumption | omega) only [b_M_rows_0, b_M_rows_10, b_M_rows_22, b_M_rows_25, b_M_rows_34, b_M_rows_38, b_M_rows_42, b_M_rows_130, b_M_rows_152, b_M_rows_163, b_M_rows_169, b_M_rows_179, b_M_rows_212, b_M_rows_231, s_M_everybody, s_M_everybody', s_M_isIn, s_M_isOver, s_M_isSet, s_M_withPlace, s_M_within, ↓Bool.cond_decide, ↓q_in, q_le, q_lt, q_eq, q_leT, q_leF, q_ltT, q_ltF, q_eqT, q_eqF, ↓reduceIte, not_true_eq_false, not_false_eq_true, true_and, and_true, and_self, false_and, and_false, Nat.zero_le, am_bd_some, q_app, q_app0, nI_add, pk_sub, pk_mul, q_dec, q_ix, q_m1, q_m1', ↓q_ret, q_bool, q_bool1, q_u2, q_u1, q_shl1, q_shr, q_and7, q_dg, fa_or, fa_and, decide_true, decide_false, Bool.or_false, Bool.or_true, Bool.true_or, Bool.false_or, cond_true, cond_false, ite_not, q_some, q_nn, q_xor, q_xorm, Bool.false_eq_true, decide_eq_true_eq, ne_eq, l_0, l_1, l_2, l_3, l_4, l_5, l_7, l_8, l_9, l_10, l_11, l_13, l_14, l_15, l_16, l_22, l_25, l_28, l_32, l_34, l_38, l_42, l_44, l_52, l_73, l_130, l_152, l_163, l_169, l_179, l_190, l_212, l_231, l_4096, l_16384, h28]
          exact MR_some (MS_fx (R := RQ) (by (repeat (first | exact Fx_refl _ _ | assumption | refine Fx_u2 rfl ?_ | refine Fx_u1 rfl (by decide) ?_ | refine Fx_step (by assumption) rfl ?_ | refine Fx_stepr (by assumption) rfl rfl ?_))) (hL3.2.2 24 (by decide) (by decide)) rfl hS)
    · simp (disch := first | assumption | omega) only [b_M_rows_0, b_M_rows_10, b_M_rows_22, b_M_rows_25, b_M_rows_34, b_M_rows_38, b_M_rows_42, b_M_rows_130, b_M_rows_152, b_M_rows_163, b_M_rows_169, b_M_rows_179, b_M_rows_212, b_M_rows_231, s_M_everybody, s_M_everybody', s_M_isIn, s_M_isOver, s_M_isSet, s_M_withPlace, s_M_within, ↓Bool.cond_decide, ↓q_in, q_le, q_lt, q_eq, q_leT, q_leF, q_ltT, q_ltF, q_eqT, q_eqF, ↓reduceIte, not_true_eq_false, not_false_eq_true, true_and, and_true, and_self, false_and, and_false, Nat.zero_le, am_bd_some, q_app, q_app0, nI_add, pk_sub, pk_mul, q_dec, q_ix, q_m1, q_m1', ↓q_ret, q_bool, q_bool1, q_u2, q_u1, q_shl1, q_shr, q_and7, q_dg, fa_or, fa_and, decide_true, decide_false, Bool.or_false, Bool.or_true, Bool.true_or, Bool.false_or, cond_true, cond_false, ite_not, q_some, q_nn, q_xor, q_xorm, Bool.false_eq_true, decide_eq_true_eq, ne_eq, l_0, l_1, l_2, l_3, l_4, l_5, l_7, l_8, l_9, l_10, l_11, l_13, l_14, l_15, l_16, l_22, l_25, l_28, l_32, l_34, l_38, l_42, l_44, l_52, l_73, l_130, l_152, l_163, l_169, l_179, l_190, l_212, l_231, l_4096, l_16384, hx, ey, hy]
      exact MR_some (MS_fx (R := RQ) (by (repeat (first | exact Fx_refl _ _ | assumption | refine Fx_u2 rfl ?_ | refine Fx_u1 rfl (by decide) ?_ | refine Fx_step (by assumption) rfl ?_ | refine Fx_stepr (by assumption) rfl rfl ?_))) rfl rfl hS)
  · simp (disch := first | assumption | omega) only [b_M_rows_0, b_M_rows_10, b_M_rows_22, b_M_rows_25, b_M_rows_34, b_M_rows_38, b_M_rows_42, b_M_rows_130, b_M_rows_152, b_M_rows_163, b_M_rows_169, b_M_rows_179, b_M_rows_212, b_M_rows_231, s_M_everybody, s_M_everybody', s_M_isIn, s_M_isOver, s_M_isSet, s_M_withPlace, s_M_within, ↓Bool.cond_decide, ↓q_in, q_le, q_lt, q_eq, q_leT, q_leF, q_ltT, q_ltF, q_eqT, q_eqF, ↓reduceIte, not_true_eq_false, not_false_eq_true, true_and, and_true, and_self, false_and, and_false, Nat.zero_le, am_bd_some, q_app, q_app0, nI_add, pk_sub, pk_mul, q_dec, q_ix, q_m1, q_m1', ↓q_ret, q_bool, q_bool1, q_u2, q_u1, q_shl1, q_shr, q_and7, q_dg, fa_or, fa_and, decide_true, decide_false, Bool.or_false, Bool.or_true, Bool.true_or, Bool.false_or, cond_true, cond_false, ite_not, q_some, q_nn, q_xor, q_xorm, Bool.false_eq_true, decide_eq_true_eq, ne_eq, l_0, l_1, l_2, l_3, l_4, l_5, l_7, l_8, l_9, l_10, l_11, l_13, l_14, l_15, l_16, l_22, l_25, l_28, l_32, l_34, l_38, l_42, l_44, l_52, l_73, l_130, l_152, l_163, l_169, l_179, l_190, l_212, l_231, l_4096, l_16384, hx]
    exact MR_some (MS_fx (R := RQ) (by (repeat (first | exact Fx_refl _ _ | assumption | refine Fx_u2 rfl ?_ | refine Fx_u1 rfl (by decide) ?_ | refine Fx_step (by assumption) rfl ?_ | refine Fx_stepr (by assumption) rfl rfl ?_))) rfl rfl hS)
end
