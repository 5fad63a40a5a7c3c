/-! WHAT IS READ IS WELL FORMED: laws' codes have types -/
def Ru (c : Nat → Nat) (n m : Nat) (a b : List Bool) : Prop := ∃ T : Nat → List Bool, T n = a ∧ T m = b ∧ ∀ k, n ≤ k → k < m → T1 (c k) (T k) (T (k + 1))
theorem Ru_0 {c : Nat → Nat} {n : Nat} {a : List Bool} : Ru c n n a a := ⟨fun _ => a, rfl, rfl, fun k h1 h2 => by omega⟩
theorem Ru_tr {c : Nat → Nat} {n m p : Nat} {a b e : List Bool} (h1 : Ru c n m a b) (h2 : Ru c m p b e) (hn : n ≤ m) (hm : m ≤ p) : Ru c n p a e := by
  obtain ⟨T, t1, t2, t3⟩ := h1
  obtain ⟨U, u1, u2, u3⟩ := h2
  refine ⟨fun k => if k < m then T k else U k, ?_, ?_, fun k a1 a2 => ?_⟩
  · dsimp only
    by_cases h : n < m
    · rw [if_pos h]; exact t1
    · have e1 : n = m := by omega
      subst e1
      rw [if_neg h, u1, ← t2, t1]
  · dsimp only
    rw [if_neg (by omega)]; exact u2
  · dsimp only
    by_cases h : k + 1 < m
    · rw [if_pos h, if_pos (by omega)]; exact t3 k a1 (by omega)
    · rw [if_neg h]
      by_cases h' : k < m
      · have e1 : k + 1 = m := by omega
        rw [if_pos h', e1, u1, ← t2, ← e1]
        exact t3 k a1 h'
      · rw [if_neg h']; exact u3 k (by omega) a2
theorem Ru_cg {c c' : Nat → Nat} {n m : Nat} {a b : List Bool} (h : Ru c n m a b) (hc : ∀ k, k < m → c' k = c k) : Ru c' n m a b := by
  obtain ⟨T, t1, t2, t3⟩ := h
  exact ⟨T, t1, t2, fun k a1 a2 => by rw [hc k a2]; exact t3 k a1 a2⟩
theorem Ru_1 {c : Nat → Nat} {n : Nat} {a b : List Bool} (h : T1 (c n) a b) : Ru c n (n + 1) a b := by
  refine ⟨fun k => if k = n then a else b, if_pos rfl, if_neg (by omega), fun k h1 h2 => ?_⟩
  have e : k = n := by omega
  subst e
  dsimp only
  rw [if_pos rfl, if_neg (by omega)]
  exact h
/-- the codes told -/
def cs (s : PS) (k : Nat) : Nat := s.2.2.2 (174 + k)
/-- from s to t codes come that take these types from the stack and leave those -/
def Y (law : Nat) (a b : List Bool) (m : Nat) (s t : PS) : Prop := t.1 = 0 → s.1 = 0 ∧ s.2.2.2 173 ≤ t.2.2.2 173 ∧ (∀ k, k < s.2.2.2 173 → cs t k = cs s k) ∧ (∀ k, s.2.2.2 173 ≤ k → k < t.2.2.2 173 → 1000 ≤ cs t k → cs t k < 1010 → wOk law (cs t k - 1000)) ∧ ∀ ts : List Bool, ts.length + m ≤ 64 → Ru (cs t) (s.2.2.2 173) (t.2.2.2 173) (a ++ ts) (b ++ ts)
section
variable {B : Nat → Nat} {N law : Nat}
theorem Y_tr {a b e : List Bool} {m : Nat} {s t u : PS} (h1 : Y law a b m s t) (h2 : Y law b e m t u) : Y law a e m s u := fun z => by
  obtain ⟨u1, u2, u3, u4, u5⟩ := h2 z
  obtain ⟨t1, t2, t3, t4, t5⟩ := h1 u1
  refine ⟨t1, by omega, fun k hk => ?_, fun k k1 k2 k3 k4 => ?_, fun ts hts => ?_⟩
  · rw [u3 k (by omega)]; exact t3 k hk
  · by_cases h : k < t.2.2.2 173
    · rw [u3 k h] at k3 k4 ⊢
      exact t4 k k1 h k3 k4
    · exact u4 k (by omega) k2 k3 k4
  · exact Ru_tr (Ru_cg (t5 ts hts) u3) (u5 ts hts) t2 u2
theorem Y_fr {a b : List Bool} {m : Nat} {s t : PS} (x : Bool) (h : Y law a b m s t) : Y law (a ++ [x]) (b ++ [x]) (m + 1) s t := fun z => by
  obtain ⟨t1, t2, t3, t4, t5⟩ := h z
  refine ⟨t1, t2, t3, t4, fun ts hts => ?_⟩
  have := t5 (x :: ts) (by rw [List.length_cons]; omega)
  rw [List.append_assoc, List.append_assoc]
  exact this
theorem Y_mo {a b : List Bool} {m m' : Nat} {s t : PS} (h : Y law a b m s t) (hm : m ≤ m') : Y law a b m' s t := fun z => by
  obtain ⟨t1, t2, t3, t4, t5⟩ := h z
  exact ⟨t1, t2, t3, t4, fun ts hts => t5 ts (by omega)⟩
theorem Y_rf {a : List Bool} {m : Nat} {s : PS} : Y law a a m s s := fun z => ⟨z, Nat.le_refl _, fun _ _ => rfl, fun k k1 k2 => by omega, fun ts _ => Ru_0⟩
theorem Y_nx {a : List Bool} {m : Nat} {s : PS} : Y law a a m s (nxS s) := fun z => ⟨z, Nat.le_refl _, fun _ _ => rfl, fun k k1 k2 => by have k2 : k < s.2.2.2 173 := k2; omega, fun ts _ => Ru_0⟩
theorem Y_bad {a b : List Bool} {m : Nat} {s t : PS} (h : t.1 ≠ 0) : Y law a b m s t := fun z => absurd z h
theorem Y_fl {a b : List Bool} {m k : Nat} {s t : PS} (h : k ≠ 0) : Y law a b m s (flS B N k t) := Y_bad (flS_w h)
theorem Y_cd {a b : List Bool} {m c : Nat} {s : PS} (h : ∀ ts : List Bool, ts.length + m ≤ 64 → T1 c (a ++ ts) (b ++ ts)) (hw : 1000 ≤ c → c < 1010 → wOk law (c - 1000)) : Y law a b m s (cdS c s) := fun z => by
  rw [cdS_w] at z
  obtain ⟨e1, e2⟩ := cdS_0 (c := c) z
  have ec : ∀ k, cs (cdS c s) k = if k = s.2.2.2 173 then c else cs s k := fun k => by
    unfold cs cdS
    rw [if_pos z]
    show ug (ug s.2.2.2 (174 + s.2.2.2 173) c) 173 (s.2.2.2 173 + 1) (174 + k) = _
    unfold ug
    rw [if_neg (by omega)]
    by_cases h : k = s.2.2.2 173
    · rw [if_pos (by omega), if_pos h]
    · rw [if_neg (by omega), if_neg h]
  refine ⟨z, by omega, fun k hk => ?_, fun k k1 k2 k3 k4 => ?_, fun ts hts => ?_⟩
  · rw [ec, if_neg (by omega)]
  · have e : k = s.2.2.2 173 := by omega
    rw [ec, if_pos e] at k3 k4 ⊢
    exact hw k3 k4
  · rw [e2]
    refine Ru_1 ?_
    rw [ec, if_pos rfl]
    exact h ts hts
/-- F tells one value's codes -/
def TyF (law : Nat) (b : Bool) (m : Nat) (F : PS → PS) : Prop := ∀ s, Y law [] [b] m s (F s)
theorem Y_op {b b' : Bool} {m c : Nat} {s : PS} {F : PS → PS} (hF : TyF law b m F) (hc : ∀ ts : List Bool, T1 c (b :: b :: ts) (b' :: ts)) (h3 : 3000 ≤ c) : Y law [b] [b'] (m + 1) s (cdS c (F (nxS s))) := by
  refine Y_tr Y_nx (Y_tr (Y_fr b (hF (nxS s))) (Y_cd (fun ts _ => hc ts) (fun _ h => by omega)))
theorem ty_lp {b : Bool} {m c k : Nat} {F : PS → PS} (hF : TyF law b m F) (hc : ∀ ts : List Bool, T1 c (b :: b :: ts) (b :: ts)) (h3 : 3000 ≤ c) : ∀ n s, Y law [b] [b] (m + 1) s (lpS B N k c F n s)
  | 0, s => Y_rf
  | n + 1, s => by
    rw [lpS]
    split
    · exact Y_tr (Y_op hF hc h3) (ty_lp hF hc h3 n _)
    · exact Y_rf
theorem ty_lpF {b : Bool} {m c k n : Nat} {F : PS → PS} (hF : TyF law b m F) (hc : ∀ ts : List Bool, T1 c (b :: b :: ts) (b :: ts)) (h3 : 3000 ≤ c) : TyF law b (m + 1) (fun s => lpS B N k c F n (F s)) := fun s => Y_tr (Y_mo (hF s) (by omega)) (ty_lp hF hc h3 n _)
theorem T1_ar {c : Nat} (h1 : 3000 ≤ c) (h2 : c ≤ 3002) (ts : List Bool) : T1 c (false :: false :: ts) (false :: ts) := Or.inr (Or.inr (Or.inl ⟨h1, h2, ts, rfl, rfl⟩))
theorem T1_cm {c : Nat} (h1 : 3003 ≤ c) (h2 : c ≤ 3005) (ts : List Bool) : T1 c (false :: false :: ts) (true :: ts) := Or.inr (Or.inr (Or.inr (Or.inl ⟨h1, h2, ts, rfl, rfl⟩)))
theorem T1_lg {c : Nat} (h1 : 3007 ≤ c) (h2 : c ≤ 3008) (ts : List Bool) : T1 c (true :: true :: ts) (true :: ts) := Or.inr (Or.inr (Or.inr (Or.inr ⟨h1, h2, ts, rfl, rfl⟩)))
theorem ty_pl {m : Nat} {F : PS → PS} (hF : TyF law false m F) : ∀ n s, Y law [false] [false] (m + 1) s (plS B N F n s)
  | 0, s => Y_rf
  | n + 1, s => by
    rw [plS]
    split
    · exact Y_tr (Y_op hF (T1_ar (by decide) (by decide)) (by decide)) (ty_pl hF n _)
    · split
      · exact Y_tr (Y_op hF (T1_ar (by decide) (by decide)) (by decide)) (ty_pl hF n _)
      · exact Y_rf
theorem ty_sm {m : Nat} {F : PS → PS} (hF : TyF law false m F) : TyF law false (m + 1) (smS B N F) := fun s => Y_tr (Y_mo (hF s) (by omega)) (ty_pl hF 1000 _)
theorem wdO_ok {k w : Nat} (hl : law < 2) (h : wdO law k = some w) : w < 10 ∧ wOk law w := by
  unfold wdO at h
  unfold wOk
  repeat' split at h
  all_goals first | cases h | skip
  all_goals omega
theorem ty_gi {b : Bool} {m k r : Nat} {s : PS} {sub : PS → PS} (hs : r ≠ 0 → TyF law b m sub) : Y law [] [b] m s (if (giS B N r s).1 = 0 then (if isS B N k (sub (giS B N r s)) = true then nxS (sub (giS B N r s)) else flS B N 2 (sub (giS B N r s))) else giS B N r s) := by
  by_cases h0 : (giS B N r s).1 = 0
  · rw [if_pos h0]
    obtain ⟨g1, g2, g3⟩ := gi_0 h0
    rw [g3]
    split
    · exact Y_tr Y_nx (Y_tr (hs g1 (nxS s)) Y_nx)
    · exact Y_fl (by decide)
  · rw [if_neg h0]; exact Y_bad h0
theorem ty_at {r m : Nat} {sub : PS → PS} (hB : ∀ k, B k < 256) (hl : law < 2) (hm : 1 ≤ m) (hs : r ≠ 0 → TyF law false m sub) : TyF law false m (atS B N law r sub) := fun s => by
  unfold atS
  split
  · rename_i hi
    have hu := uj_lt hB (isS_w hi).2
    exact Y_tr (Y_cd (fun ts hts => Or.inl ⟨by omega, by show ts.length < 64; omega, rfl⟩) (fun h => by omega)) Y_nx
  · split
    · rename_i hi
      cases hw : wdO law (kj B N s.2.2.1) with
      | none => rw [hw] at hi; cases hi.2
      | some w =>
        obtain ⟨w1, w2⟩ := wdO_ok hl hw
        show Y law [] [false] m s (nxS (cdS (1000 + w) s))
        exact Y_tr (Y_cd (fun ts hts => Or.inl ⟨by omega, by show ts.length < 64; omega, rfl⟩) (fun _ _ => by rw [Nat.add_sub_cancel_left]; exact w2)) Y_nx
    · split
      · exact ty_gi hs
      · exact Y_fl (by decide)
theorem ty_sumL (hB : ∀ k, B k < 256) (hl : law < 2) : ∀ r, TyF law false (2 * r + 3) (sumL B N law r)
  | 0 => ty_sm (ty_lpF (m := 1) (ty_at hB hl (Nat.le_refl _) (fun z => absurd rfl z)) (T1_ar (by decide) (by decide)) (by decide))
  | r + 1 => ty_sm (ty_lpF (m := 2 * r + 3) (ty_at hB hl (by omega) (fun _ => ty_sumL hB hl r)) (T1_ar (by decide) (by decide)) (by decide))
theorem ccS_r (s : PS) : 3003 ≤ ccS B N s ∧ ccS B N s ≤ 3005 := by
  unfold ccS
  repeat' split
  all_goals decide
theorem ty_un {r m : Nat} {sU sT : PS → PS} (hB : ∀ k, B k < 256) (hl : law < 2) (hm : 2 * r + 4 ≤ m) (hU : r ≠ 0 → TyF law true m sU) (hT : r ≠ 0 → TyF law true m sT) : TyF law true m (unS B N law r sU sT) := fun s => by
  unfold unS
  split
  · by_cases g0 : (giS B N r s).1 = 0
    · rw [if_pos g0]
      obtain ⟨g1, g2, g3⟩ := gi_0 g0
      rw [g3]
      exact Y_tr Y_nx (Y_tr (hU g1 (nxS s)) (Y_cd (fun ts _ => Or.inr (Or.inl ⟨rfl, ts, rfl, rfl⟩)) (fun _ h => by omega)))
    · rw [if_neg g0]; exact Y_bad g0
  · split
    · exact ty_gi hT
    · have h1 := ty_sumL (N := N) hB hl r s
      have hc := ccS_r (B := B) (N := N) (sumL B N law r s)
      generalize sumL B N law r s = u at h1 hc
      have h2 : Y law [false] [false] (2 * r + 4) u (cmS B N u) := by
        unfold cmS
        split
        · exact Y_nx
        · exact Y_fl (by decide)
      have h3 := Y_fr false (ty_sumL (N := N) hB hl r (cmS B N u))
      exact Y_mo (Y_tr (Y_mo h1 (show 2 * r + 3 ≤ 2 * r + 4 by omega)) (Y_tr h2 (Y_tr h3 (Y_cd (fun ts _ => T1_cm hc.1 hc.2 ts) (fun _ h => by omega))))) hm
theorem ty_untL (hB : ∀ k, B k < 256) (hl : law < 2) : ∀ r, TyF law true (2 * r + 4) (untL B N law r)
  | 0 => ty_un hB hl (by omega) (fun z => absurd rfl z) (fun z => absurd rfl z)
  | r + 1 => ty_un hB hl (by omega) (fun _ s => Y_mo (ty_untL hB hl r s) (by omega)) (fun _ => ty_lpF (m := 2 * r + 4 + 1) (ty_lpF (ty_untL hB hl r) (T1_lg (by decide) (by decide)) (by decide)) (T1_lg (by decide) (by decide)) (by decide))
theorem ty_truL (hB : ∀ k, B k < 256) (hl : law < 2) : TyF law true 18 (truL B N law 6) := ty_lpF (m := 17) (ty_lpF (m := 16) (ty_untL hB hl 6) (T1_lg (by decide) (by decide)) (by decide)) (T1_lg (by decide) (by decide)) (by decide)
end
