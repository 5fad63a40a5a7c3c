/-! THE ABSTRACT MACHINE'S MEMORY AS A WORLD OF THE KIT: cell r lies at ad r. -/
def am_cv (ad : Nat → Nat) : Value → Value
  | .ref r => .ref (ad r)
  | v => v
theorem am_cv_cat (ad : Nat → Nat) (v : Value) : (am_cv ad v).category = v.category := by cases v <;> rfl
def am_fv (ad : Nat → Nat) (s : aM) (c r k : Nat) : Value := match am_tc c k with
  | 0 => .int (s.1 r k)
  | 1 => .long (s.2.1 r k)
  | _ => va_rf ((s.2.2.1 r k).map ad)
def am_Ek (aC : Nat → ClassId) (ad : Nat → Nat) (s : aM) (r c n : Nat) : va_E :=
  if c < 100 then .inr (c, (List.range (am_N c)).map (am_fv ad s c r))
  else if c = 101 then .inl (aC 101, n, .inr (.inl (s.2.1 r)))
  else if c < 104 then .inl (aC c, n, .inl (s.1 r))
  else .inl (aC c, n, .inr (.inr (.inr (.inr (fun k => (s.2.2.1 r k).map ad)))))
def am_E (aC : Nat → ClassId) (ad : Nat → Nat) (s : aM) (r : Nat) : va_E := am_Ek aC ad s r (am_kd s r) (am_ln s r)
def am_W (aC : Nat → ClassId) (ad : Nat → Nat) (s : aM) : va_W := (List.range s.2.2.2.length).map fun r => (ad r, am_E aC ad s r)
def am_sz (K : List (Nat × Nat)) : Nat := (K.map fun q => q.2).sum
theorem am_kd_lt {s : aM} {r : Nat} (h : am_kd s r ≠ 999) : r < s.2.2.2.length := by
  unfold am_kd at h
  rcases Nat.lt_or_ge r s.2.2.2.length with q | q
  · exact q
  · rw [List.getElem?_eq_none q] at h
    exact absurd rfl h
theorem am_kd_app {s s' : aM} {r : Nat} {x : Nat × Nat} (hK : s'.2.2.2 = s.2.2.2 ++ [x]) (h : r < s.2.2.2.length) : am_kd s' r = am_kd s r ∧ am_ln s' r = am_ln s r := by
  unfold am_kd am_ln
  rw [hK, List.getElem?_append_left h]
  exact ⟨rfl, rfl⟩
theorem am_W_len (aC : Nat → ClassId) (ad : Nat → Nat) (s : aM) : (am_W aC ad s).length = s.2.2.2.length := by simp [am_W]
theorem am_W_get {aC : Nat → ClassId} {ad : Nat → Nat} {s : aM} {r : Nat} (h : r < s.2.2.2.length) : (am_W aC ad s)[r]? = some (ad r, am_E aC ad s r) := by
  unfold am_W
  rw [List.getElem?_map, List.getElem?_range h]
  rfl
theorem am_W_set {aC : Nat → ClassId} {ad : Nat → Nat} {s s' : aM} {r : Nat} {x : va_E} (hK : s'.2.2.2.length = s.2.2.2.length) (hx : am_E aC ad s' r = x) (h : ∀ q, q ≠ r → am_E aC ad s' q = am_E aC ad s q) : am_W aC ad s' = (am_W aC ad s).set r (ad r, x) := by
  apply List.ext_getElem?
  intro j
  rw [List.getElem?_set]
  rcases Nat.lt_or_ge j s.2.2.2.length with q | q
  · rw [am_W_get (by rw [hK]; exact q)]
    by_cases hj : r = j
    · subst hj
      rw [if_pos rfl, if_pos (by rw [am_W_len]; exact q), hx]
    · rw [if_neg hj, am_W_get q, h j (Ne.symm hj)]
  · rw [List.getElem?_eq_none (by rw [am_W_len, hK]; exact q)]
    by_cases hj : r = j
    · subst hj
      rw [if_pos rfl, if_neg (by rw [am_W_len]; omega)]
    · rw [if_neg hj, List.getElem?_eq_none (by rw [am_W_len]; exact q)]
theorem am_W_app {aC : Nat → ClassId} {ad : Nat → Nat} {s s' : aM} {k : Nat × Nat} (hK : s'.2.2.2 = s.2.2.2 ++ [k]) (h : ∀ q, q < s.2.2.2.length → am_E aC ad s' q = am_E aC ad s q) : am_W aC ad s' = am_W aC ad s ++ [(ad s.2.2.2.length, am_E aC ad s' s.2.2.2.length)] := by
  unfold am_W
  rw [hK, List.length_append, List.length_singleton, List.range_succ, List.map_append]
  congr 1
  apply List.map_congr_left
  intro q hq
  rw [h q (List.mem_range.mp hq)]
/-- locals: what the abstract machine knows of them -/
def am_LR (ad : Nat → Nat) (ls : Array Slot) (nL : Nat) (loc : List Slot) : Prop := ls.size = nL ∧ lv_wf ls ∧ loc.length = nL ∧ ∀ (i : Nat) (v : Value), loc[i]? = some (.val v) → ls[i]? = some (.val (am_cv ad v))
def am_al (ad : Nat → Nat) (loc : List Slot) : List (Nat × Value) := (List.range loc.length).filterMap fun (i : Nat) => match (loc[i]? : Option Slot) with
  | some (.val v) => some (i, am_cv ad v)
  | _ => none
theorem am_al_mem {ad : Nat → Nat} {loc : List Slot} {i : Nat} {w : Value} : (i, w) ∈ am_al ad loc ↔ ∃ v, loc[i]? = some (.val v) ∧ w = am_cv ad v := by
  unfold am_al
  rw [List.mem_filterMap]
  constructor
  · rintro ⟨j, hj, h⟩
    split at h
    · rename_i v hv
      cases h
      exact ⟨v, hv, rfl⟩
    · cases h
  · rintro ⟨v, hv, rfl⟩
    refine ⟨i, List.mem_range.mpr (List.getElem?_eq_some_iff.mp hv).1, ?_⟩
    rw [hv]
theorem am_LR.has {ad : Nat → Nat} {ls : Array Slot} {nL : Nat} {loc : List Slot} (h : am_LR ad ls nL loc) : lv_has ls nL (am_al ad loc) := by
  refine ⟨h.1, h.2.1, ?_⟩
  rintro ⟨i, w⟩ hq
  obtain ⟨v, hv, rfl⟩ := am_al_mem.mp hq
  exact h.2.2.2 i v hv
theorem am_LR.at {ad : Nat → Nat} {ls : Array Slot} {nL : Nat} {loc : List Slot} (h : am_LR ad ls nL loc) {i : Nat} {v : Value} (hv : am_ld loc i = some v) : ls[i]? = some (.val (am_cv ad v)) := by
  unfold am_ld at hv
  split at hv
  · rename_i w hw
    cases hv
    exact h.2.2.2 i _ hw
  · cases hv
theorem am_k1_val {z : Slot} {v : Value} (h : am_k1 z = .val v) : z = .val v ∧ ¬ v.category = 2 := by
  cases z with
  | val w => cases w <;> simp [am_k1] at h <;> (try subst h) <;> simp [Value.category]
  | unset => simp [am_k1] at h
  | second => simp [am_k1] at h
theorem am_kl_len (loc : List Slot) (i : Nat) : (am_kl loc i).length = loc.length := by
  cases i with
  | zero => rfl
  | succ k => simp [am_kl]
theorem am_kl_get {loc : List Slot} {i j : Nat} {v : Value} (h : (am_kl loc i)[j]? = some (.val v)) : loc[j]? = some (.val v) ∧ (j + 1 = i → ¬ v.category = 2) := by
  cases i with
  | zero => exact ⟨h, fun q => by omega⟩
  | succ k =>
    have h : (loc.set k (am_k1 (loc.getD k .unset)))[j]? = some (.val v) := h
    rw [List.getElem?_set] at h
    by_cases hk : k = j
    · subst hk
      rw [if_pos rfl] at h
      split at h
      · rename_i hl
        have h := Option.some.inj h
        rw [List.getD_eq_getElem?_getD, List.getElem?_eq_getElem hl, Option.getD_some] at h
        obtain ⟨h1, h2⟩ := am_k1_val h
        exact ⟨by rw [List.getElem?_eq_getElem hl, h1], fun _ => h2⟩
      · cases h
    · rw [if_neg hk] at h
      exact ⟨h, fun q => absurd (by omega) hk⟩
theorem am_LR.st1 {ad : Nat → Nat} {ls : Array Slot} {nL : Nat} {loc : List Slot} {i : Nat} {v : Value} (h : am_LR ad ls nL loc) {ls' : Array Slot}
    (h' : lv_has ls' nL ((i, am_cv ad v) :: (am_al ad loc).filter (fun q => !(q.1 == i) && !(q.1 + 1 == i && q.2.category == 2)))) : am_LR ad ls' nL (am_s1 loc i v) := by
  refine ⟨h'.1, h'.2.1, by unfold am_s1; rw [List.length_set, am_kl_len]; exact h.2.2.1, ?_⟩
  intro j w hw
  unfold am_s1 at hw
  rw [List.getElem?_set] at hw
  by_cases hj : i = j
  · subst hj
    rw [if_pos rfl] at hw
    split at hw
    · have hw := Option.some.inj hw
      cases hw
      exact h'.2.2 (i, am_cv ad v) List.mem_cons_self
    · cases hw
  · rw [if_neg hj] at hw
    obtain ⟨h1, h2⟩ := am_kl_get hw
    refine h'.2.2 (j, am_cv ad w) (List.mem_cons_of_mem _ (List.mem_filter.mpr ⟨am_al_mem.mpr ⟨w, h1, rfl⟩, ?_⟩))
    simp only [Bool.and_eq_true, Bool.not_eq_true', beq_eq_false_iff_ne, ne_eq]
    refine ⟨Ne.symm hj, ?_⟩
    by_cases hji : j + 1 = i
    · have := h2 hji
      rw [am_cv_cat]
      simp [this]
    · simp [hji]
theorem am_LR.st2 {ad : Nat → Nat} {ls : Array Slot} {nL : Nat} {loc : List Slot} {i : Nat} {v : Value} (h : am_LR ad ls nL loc) {ls' : Array Slot}
    (h' : lv_has ls' nL ((i, am_cv ad v) :: (am_al ad loc).filter (fun q => !(q.1 == i) && (!(q.1 == i + 1) && !(q.1 + 1 == i && q.2.category == 2))))) : am_LR ad ls' nL (am_s2 loc i v) := by
  refine ⟨h'.1, h'.2.1, by unfold am_s2; rw [List.length_set, List.length_set, am_kl_len]; exact h.2.2.1, ?_⟩
  intro j w hw
  unfold am_s2 at hw
  rw [List.getElem?_set] at hw
  by_cases hj1 : i + 1 = j
  · rw [if_pos hj1] at hw
    split at hw <;> cases hw
  · rw [if_neg hj1, List.getElem?_set] at hw
    by_cases hj : i = j
    · subst hj
      rw [if_pos rfl] at hw
      split at hw
      · have hw := Option.some.inj hw
        cases hw
        exact h'.2.2 (i, am_cv ad v) List.mem_cons_self
      · cases hw
    · rw [if_neg hj] at hw
      obtain ⟨h1, h2⟩ := am_kl_get hw
      refine h'.2.2 (j, am_cv ad w) (List.mem_cons_of_mem _ (List.mem_filter.mpr ⟨am_al_mem.mpr ⟨w, h1, rfl⟩, ?_⟩))
      simp only [Bool.and_eq_true, Bool.not_eq_true', beq_eq_false_iff_ne, ne_eq]
      refine ⟨Ne.symm hj, Ne.symm hj1, ?_⟩
      by_cases hji : j + 1 = i
      · have := h2 hji
        rw [am_cv_cat]
        simp [this]
      · simp [hji]
theorem am_sl_map (ad : Nat → Nat) (vs : List Value) : lg_sl (vs.map (am_cv ad)) = (lg_sl vs).map (fun z => match z with
    | .val v => .val (am_cv ad v)
    | z => z) := by
  unfold lg_sl
  induction vs with
  | nil => rfl
  | cons v vs ih =>
    rw [List.map_cons, List.flatMap_cons, List.flatMap_cons, List.map_append, ih, am_cv_cat]
    congr 1
    split <;> rfl
theorem am_LR.entry {ad : Nat → Nat} {vs : List Value} {n : Nat} (h : (lg_sl vs).length ≤ n) :
    am_LR ad ((lg_sl (vs.map (am_cv ad)) ++ List.replicate (n - (lg_sl (vs.map (am_cv ad))).length) Slot.unset).toArray) n (lg_sl vs ++ List.replicate (n - (lg_sl vs).length) Slot.unset) := by
  have e : (lg_sl (vs.map (am_cv ad))).length = (lg_sl vs).length := by rw [am_sl_map, List.length_map]
  have hh := lv_entry (vs.map (am_cv ad)) (n := n) (by rw [e]; exact h)
  refine ⟨hh.1, hh.2.1, by rw [List.length_append, List.length_replicate]; omega, ?_⟩
  intro i v hv
  rw [List.getElem?_toArray]
  rcases Nat.lt_or_ge i (lg_sl vs).length with q | q
  · rw [List.getElem?_append_left q] at hv
    rw [List.getElem?_append_left (by rw [e]; exact q), am_sl_map, List.getElem?_map, hv]
    rfl
  · rw [List.getElem?_append_right q, List.getElem?_replicate] at hv
    split at hv <;> cases hv
