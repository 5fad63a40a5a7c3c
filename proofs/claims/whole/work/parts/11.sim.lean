/-! SIMULATION: what a run of the abstract machine says of the machine. -/
abbrev am_tys (aC : Nat → ClassId) : List (ClassId × FieldType) := [(aC 100, .int), (aC 101, .long), (aC 102, .byte), (aC 103, .boolean), (aC 104, .object "FordLine$Tray"), (aC 105, .object "FordLine$River")]
def am_gw : List Cond := lw_tbl.filter goodWord
def am_ws (y : Nat) : List Cond := Cond.code (am_nm y) (am_bc y) (am_ml y) (am_re y) :: am_gw
def am_isN : Cond → Bool
  | .fieldLinkNest _ _ _ _ _ _ => true
  | .methodLinkNest _ _ _ _ => true
  | _ => false
theorem am_w1_mem {j : Nat} {w : Cond} (h : am_w1 j w = true) : w ∈ lw_tbl := List.mem_of_getElem? (of_decide_eq_true h)
theorem am_gw_in {w : Cond} (h : w ∈ lw_tbl) (hg : goodWord w = true) : w ∈ am_gw := List.mem_filter.mpr ⟨h, hg⟩
/-- the texts, and the statics that the JDK's code asks -/
def am_Sy (ad : Nat → Nat) (A : Nat → Prop) (s0 : State) : Prop := am_Sx ad A s0 ∧ va_Z "java/lang/String" "COMPACT_STRINGS" "Z" (.int 1) A s0 s0.heap ∧ va_Zq "jdk/internal/util/Preconditions" "SIOOBE_FORMATTER" "Ljava/util/function/BiFunction;" A s0 s0.heap
/-- what holds throughout a method's body -/
def am_Ct (p : Program) (s0 : State) (m : MethodId) (args : Array Value) (meth : Method) (c : Code) (dC : Nat → ClassId) (dI : Nat → Nat → Nat) (aC : Nat → ClassId) (ad : Nat → Nat) (A : Nat → Prop) (y : Nat) : Prop :=
  p.tables.exec = Jvm.exec ∧ c.code = am_bc y ∧ meth.sig.returnType = am_re y ∧ c.maxLocals = am_ml y ∧ s0.vm.findClass (am_nm y).cls = some m.cls ∧ (∀ w ∈ am_ws y, w.before args s0 = true) ∧ meth.locks = false ∧ va_K (dC, dI) vwCl (am_tys aC) s0 ∧ meth.name = (am_nm y).name ∧ (∀ w ∈ lw_tbl, am_isN w = true → va_Nw w s0) ∧ am_Sy ad A s0 ∧ va_AO "FordLine$Tray" s0 ∧ va_AO "FordLine$River" s0
def am_Rm (R : Room) (d : Nat) (K0 : List (Nat × Nat)) (s' : aM) : Prop := R.frames = d + 8 ∧ R.locals = 40 * d + 400 ∧ R.cells = s'.2.2.2.length - K0.length ∧ R.slots = am_sz s'.2.2.2 - am_sz K0
def am_Qc (dC : Nat → ClassId) (dI : Nat → Nat → Nat) (aC : Nat → ClassId) (ad : Nat → Nat) (A : Nat → Prop) (K0 : List (Nat × Nat)) (v : Option Value) (s' : aM) : Array Value → State → Outcome → State → Prop := fun _ st oc t =>
  oc = .returned (v.map (am_cv ad)) ∧ va_P (dC, dI) vwCl (am_W aC ad s') t.heap ∧ va_D A (am_W aC ad s') ∧ t.heap.size = st.heap.size + (s'.2.2.2.length - K0.length) ∧ va_F A st t
def am_Rl (s0 : State) (dC : Nat → ClassId) (dI : Nat → Nat → Nat) (aC : Nat → ClassId) (ad : Nat → Nat) (A : Nat → Prop) (K0 : List (Nat × Nat)) (s' s : aM) (H : Heap) (locs : List Loc) : Prop :=
  (∀ q, s0.heap.size ≤ q → A q) ∧ (∀ i, K0.length ≤ i → i < s'.2.2.2.length → ad i = s0.heap.size + (i - K0.length)) ∧ va_P (dC, dI) vwCl (am_W aC ad s) H ∧ va_D A (am_W aC ad s) ∧ va_S A s0.heap H locs ∧ (∃ K1, s.2.2.2 = K0 ++ K1) ∧ ∃ K2, s'.2.2.2 = s.2.2.2 ++ K2
/-- from here on the method comes to its end with v and s' -/
def am_Go (l : Launch) (dC : Nat → ClassId) (dI : Nat → Nat → Nat) (aC : Nat → ClassId) (ad : Nat → Nat) (y d : Nat) (v : Option Value) (s' : aM) (pc : Nat) (ls : List Slot) (st : List Value) (s : aM) : Prop :=
  ∀ (p : Program) (e : Env) (s0 : State) (m : MethodId) (args : Array Value) (below : List Frame) (meth : Method) (c : Code) (A : Nat → Prop) (R : Room) (K0 : List (Nat × Nat)) (H : Heap) (locs : List Loc) (lsC : Array Slot),
    am_Ct p s0 m args meth c dC dI aC ad A y → am_Rm R d K0 s' → am_LR ad lsC (am_ml y) ls → am_Rl s0 dC dI aC ad A K0 s' s H locs →
    W p l e R s0 m args below meth c H locs (s.2.2.2.length - K0.length) (am_sz s.2.2.2 - am_sz K0) (MQ below (am_Qc dC dI aC ad A K0 v s') args s0 (s'.2.2.2.length - K0.length) (am_sz s'.2.2.2 - am_sz K0) A) (F0 m pc lsC (st.map (am_cv ad)))
theorem am_sz_app (K L : List (Nat × Nat)) : am_sz (K ++ L) = am_sz K + am_sz L := by unfold am_sz; rw [List.map_append, List.sum_append]
/-- how long the heap is -/
theorem am_size {p : Program} {l : Launch} {e : Env} {R : Room} {s0 : State} {m : MethodId} {args : Array Value} {below : List Frame} {meth : Method} {c : Code} {T : State} {dC : Nat → ClassId} {dI : Nat → Nat → Nat} {aC : Nat → ClassId} {ad : Nat → Nat} {A : Nat → Prop} {K0 : List (Nat × Nat)} {s' s : aM} {H : Heap} {locs : List Loc} {slots : Nat}
    (hT : T.heap = H) (X : Stand p l e R s0 m args below meth c T locs (s.2.2.2.length - K0.length) slots) (h : am_Rl s0 dC dI aC ad A K0 s' s H locs) : H.size = s0.heap.size + (s.2.2.2.length - K0.length) := by
  obtain ⟨hA, hN, hP, hD, hS, ⟨K1, e1⟩, K2, e2⟩ := h
  have h1 : T.heap.size ≤ s0.heap.size + (s.2.2.2.length - K0.length) := X.same.2.2.1
  rw [hT] at h1
  have hl : s.2.2.2.length = K0.length + K1.length := by rw [e1, List.length_append]
  have hl2 : s'.2.2.2.length = s.2.2.2.length + K2.length := by rw [e2, List.length_append]
  rcases Nat.eq_zero_or_pos K1.length with hz | hz
  · have := hS.1
    omega
  · have hr : s.2.2.2.length - 1 < s.2.2.2.length := by omega
    have h2 := (hP _ _ (am_W_get (aC := aC) (ad := ad) hr)).lt
    have h3 := hN (s.2.2.2.length - 1) (by omega) (by omega)
    have h2 : ad (s.2.2.2.length - 1) < H.size := h2
    omega
section
variable {l : Launch} {dC : Nat → ClassId} {dI : Nat → Nat → Nat} {aC : Nat → ClassId} {ad : Nat → Nat} {y d n : Nat} {v : Option Value} {s' s s2 : aM} {pc np p1 p2 : Nat} {ls ls2 : List Slot} {st st2 : List Value} {b : Bool}
/-- any instruction that makes nothing, calls nothing, goes one way -/
theorem am_stepX (hK : s2.2.2.2 = s.2.2.2) (hgo : am_Go l dC dI aC ad y d v s' np ls2 st2 s2)
    (row : ∀ (p : Program) (e : Env) (R : Room) (s0 : State) (m : MethodId) (args : Array Value) (below : List Frame) (meth : Method) (c : Code) (A : Nat → Prop) (H : Heap) (locs : List Loc) (cells slots : Nat) (Q : State → Prop) (lsC : Array Slot),
      am_Ct p s0 m args meth c dC dI aC ad A y → 8 ≤ R.frames ∧ 400 ≤ R.locals ∧ cells ≤ R.cells ∧ slots ≤ R.slots → am_LR ad lsC (am_ml y) ls → va_P (dC, dI) vwCl (am_W aC ad s) H → va_D A (am_W aC ad s) → va_S A s0.heap H locs →
      (∀ (lsC2 : Array Slot) (H1 : Heap) (locs1 : List Loc), am_LR ad lsC2 (am_ml y) ls2 → va_P (dC, dI) vwCl (am_W aC ad s2) H1 → va_D A (am_W aC ad s2) → va_S A s0.heap H1 locs1 → W p l e R s0 m args below meth c H1 locs1 cells slots Q (F0 m np lsC2 (st2.map (am_cv ad)))) →
      W p l e R s0 m args below meth c H locs cells slots Q (F0 m pc lsC (st.map (am_cv ad)))) : am_Go l dC dI aC ad y d v s' pc ls st s := by
  intro p e s0 m args below meth c A R K0 H locs lsC hC hR hL hB
  obtain ⟨hA, hN, hP, hD, hS, ⟨K1, e1⟩, K2, e2⟩ := hB
  have hl : s'.2.2.2.length = s.2.2.2.length + K2.length := by rw [e2, List.length_append]
  have hz : am_sz s'.2.2.2 = am_sz s.2.2.2 + am_sz K2 := by rw [e2, am_sz_app]
  obtain ⟨r1, r2, r3, r4⟩ := id hR
  refine row p e R s0 m args below meth c A H locs _ _ _ lsC hC ⟨by omega, by omega, by omega, by omega⟩ hL hP hD hS ?_
  intro lsC2 H1 locs1 hL2 hP2 hD2 hS2
  have h := hgo p e s0 m args below meth c A R K0 H1 locs1 lsC2 hC hR hL2 ⟨hA, hN, hP2, hD2, hS2, ⟨K1, by rw [hK]; exact e1⟩, K2, by rw [hK]; exact e2⟩
  rw [hK] at h
  exact h
/-- one that goes two ways -/
theorem am_stepB (hgo1 : b = true → am_Go l dC dI aC ad y d v s' p1 ls st2 s) (hgo2 : b = false → am_Go l dC dI aC ad y d v s' p2 ls st2 s)
    (row : ∀ (p : Program) (e : Env) (R : Room) (s0 : State) (m : MethodId) (args : Array Value) (below : List Frame) (meth : Method) (c : Code) (A : Nat → Prop) (H : Heap) (locs : List Loc) (cells slots : Nat) (Q : State → Prop) (lsC : Array Slot),
      am_Ct p s0 m args meth c dC dI aC ad A y → va_D A (am_W aC ad s) →
      (b = true → W p l e R s0 m args below meth c H locs cells slots Q (F0 m p1 lsC (st2.map (am_cv ad)))) → (b = false → W p l e R s0 m args below meth c H locs cells slots Q (F0 m p2 lsC (st2.map (am_cv ad)))) →
      W p l e R s0 m args below meth c H locs cells slots Q (F0 m pc lsC (st.map (am_cv ad)))) : am_Go l dC dI aC ad y d v s' pc ls st s := by
  intro p e s0 m args below meth c A R K0 H locs lsC hC hR hL hB
  exact row p e R s0 m args below meth c A H locs _ _ _ lsC hC hB.2.2.2.1 (fun q => hgo1 q p e s0 m args below meth c A R K0 H locs lsC hC hR hL hB) (fun q => hgo2 q p e s0 m args below meth c A R K0 H locs lsC hC hR hL hB)
/-- one that makes a cell -/
theorem am_stepN {x : Nat × Nat} (hK : s2.2.2.2 = s.2.2.2 ++ [x]) (hE : ∀ q, q < s.2.2.2.length → am_E aC ad s2 q = am_E aC ad s q) (hgo : am_Go l dC dI aC ad y d v s' np ls st2 s2) (hm : ∃ K2, s'.2.2.2 = s2.2.2.2 ++ K2)
    (row : ∀ (p : Program) (e : Env) (R : Room) (s0 : State) (m : MethodId) (args : Array Value) (below : List Frame) (meth : Method) (c : Code) (A : Nat → Prop) (H : Heap) (locs : List Loc) (cells slots : Nat) (Q : State → Prop) (lsC : Array Slot),
      am_Ct p s0 m args meth c dC dI aC ad A y → cells + 1 ≤ R.cells → slots + x.2 ≤ R.slots →
      (∀ H1 : Heap, va_at (dC, dI) vwCl (H.size, am_E aC ad s2 s.2.2.2.length) H1 → H1.size = H.size + 1 → (∀ q, q < H.size → H1[q]? = H[q]?) → W p l e R s0 m args below meth c H1 locs (cells + 1) (slots + x.2) Q (F0 m np lsC (.ref H.size :: (st2.drop 1).map (am_cv ad)))) →
      W p l e R s0 m args below meth c H locs cells slots Q (F0 m pc lsC (st.map (am_cv ad)))) (hst : ∃ r, st2 = .ref s.2.2.2.length :: r) : am_Go l dC dI aC ad y d v s' pc ls st s := by
  intro p e s0 m args below meth c A R K0 H locs lsC hC hR hL hB T hT X
  have hsz := am_size hT X hB
  obtain ⟨hA, hN, hP, hD, hS, ⟨K1, e1⟩, K2, e2⟩ := id hB
  obtain ⟨K3, e3⟩ := hm
  obtain ⟨r, hst⟩ := hst
  have hl0 : s.2.2.2.length = K0.length + K1.length := by rw [e1, List.length_append]
  have hl : s'.2.2.2.length = s.2.2.2.length + 1 + K3.length := by rw [e3, hK, List.length_append, List.length_append]; rfl
  have hz0 : am_sz s.2.2.2 = am_sz K0 + am_sz K1 := by rw [e1, am_sz_app]
  have hx1 : am_sz [x] = x.2 := by simp [am_sz]
  have hz : am_sz s'.2.2.2 = am_sz s.2.2.2 + x.2 + am_sz K3 := by rw [e3, hK, am_sz_app, am_sz_app, hx1]
  obtain ⟨r1, r2, r3, r4⟩ := id hR
  have had : ad s.2.2.2.length = H.size := by
    have := hN s.2.2.2.length (by omega) (by omega)
    omega
  refine row p e R s0 m args below meth c A H locs _ _ _ lsC hC (by omega) (by omega) ?_ T hT X
  intro H1 hat hs1 ho1
  have hk : ∀ (k : Nat) (z : Nat × va_E), (am_W aC ad s)[k]? = some z → H1[z.1]? = H[z.1]? := fun k z hz => ho1 z.1 ((hP k z hz).lt)
  have hW2 : am_W aC ad s2 = am_W aC ad s ++ [(H.size, am_E aC ad s2 s.2.2.2.length)] := by rw [am_W_app hK hE, had]
  have hP2 : va_P (dC, dI) vwCl (am_W aC ad s2) H1 := by
    rw [hW2]
    refine (hP.kept hk).app (fun k z hz => ?_)
    have hz1 : k < 1 := (List.getElem?_eq_some_iff.mp hz).1
    rw [show k = 0 by omega] at hz
    cases hz
    exact hat
  have hD2 : va_D A (am_W aC ad s2) := by
    rw [hW2]
    exact hD.push hP rfl (hA _ (by omega))
  have hS2 : va_S A s0.heap H1 locs := ⟨by have := hS.1; omega, fun q h1 h2 => (ho1 q (Nat.lt_of_lt_of_le h1 hS.1)).trans (hS.2.1 q h1 h2), hS.2.2⟩
  have h := hgo p e s0 m args below meth c A R K0 H1 locs lsC hC hR hL ⟨hA, hN, hP2, hD2, hS2, ⟨K1 ++ [x], by rw [hK, e1, List.append_assoc]⟩, K3, e3⟩
  rw [hst] at h ⊢
  have hc1 : s2.2.2.2.length - K0.length = s.2.2.2.length - K0.length + 1 := by rw [hK, List.length_append, List.length_singleton]; omega
  have hc2 : am_sz s2.2.2.2 - am_sz K0 = am_sz s.2.2.2 - am_sz K0 + x.2 := by rw [hK, am_sz_app, hx1]; omega
  rw [hc1, hc2] at h
  have h9 : (List.map (am_cv ad) (Value.ref s.2.2.2.length :: r)) = .ref H.size :: (List.drop 1 (Value.ref s.2.2.2.length :: r)).map (am_cv ad) := by
    show Value.ref (ad s.2.2.2.length) :: _ = _
    rw [had]
    rfl
  rw [h9] at h
  exact h
end
