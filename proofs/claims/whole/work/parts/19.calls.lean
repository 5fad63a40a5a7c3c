/-! CALLS: a run of the callee is a contract of it -/
theorem am_oi1 : Cond.instanceMethod Lib.objectInit ∈ am_gw := am_gw_in (am_w1_mem (j := 203) (by decide +kernel)) rfl
theorem am_oi2 : Cond.code Lib.objectInit ⟨#[0xb1]⟩ 1 none ∈ am_gw := am_gw_in (am_w1_mem (j := 204) (by decide +kernel)) rfl
theorem am_mi : Cond.initialized "java/lang/Math" ∈ am_gw := am_gw_in (am_w1_mem (j := 188) (by decide +kernel)) rfl
theorem am_ms2 : Cond.static Lib.Math.max.name ∈ am_gw := am_gw_in (am_w1_mem (j := 698) (by decide +kernel)) rfl
theorem am_mc2 : Cond.code Lib.Math.max.name Lib.Math.max.code 2 (some .int) ∈ am_gw := am_gw_in (am_w1_mem (j := 699) (by decide +kernel)) rfl
theorem am_ms3 : Cond.static Lib.Math.min.name ∈ am_gw := am_gw_in (am_w1_mem (j := 610) (by decide +kernel)) rfl
theorem am_mc3 : Cond.code Lib.Math.min.name Lib.Math.min.code 2 (some .int) ∈ am_gw := am_gw_in (am_w1_mem (j := 611) (by decide +kernel)) rfl
theorem am_ms4 : Cond.static Lib.Math.abs.name ∈ am_gw := am_gw_in (am_w1_mem (j := 925) (by decide +kernel)) rfl
theorem am_mc4 : Cond.code Lib.Math.abs.name Lib.Math.abs.code 1 (some .int) ∈ am_gw := am_gw_in (am_w1_mem (j := 926) (by decide +kernel)) rfl
theorem am_ms5 : Cond.static Lib.MathLoose.max_long.x ∈ am_gw := am_gw_in (am_w1_mem (j := 946) (by decide +kernel)) rfl
theorem am_mc5 : Cond.code Lib.MathLoose.max_long.x Lib.MathLoose.max_long.code 4 (some .long) ∈ am_gw := am_gw_in (am_w1_mem (j := 947) (by decide +kernel)) rfl
theorem am_ms6 : Cond.static Lib.MathLoose.min_long.x ∈ am_gw := am_gw_in (am_w1_mem (j := 943) (by decide +kernel)) rfl
theorem am_mc6 : Cond.code Lib.MathLoose.min_long.x Lib.MathLoose.min_long.code 4 (some .long) ∈ am_gw := am_gw_in (am_w1_mem (j := 944) (by decide +kernel)) rfl
theorem am_an : Cond.native arraycopyName ∈ am_gw := am_gw_in (am_w1_mem (j := 875) (by decide +kernel)) rfl
theorem am_as : Cond.static arraycopyName ∈ am_gw := am_gw_in (am_w1_mem (j := 874) (by decide +kernel)) rfl
theorem am_ai : Cond.initialized "java/lang/System" ∈ am_gw := am_gw_in (am_w1_mem (j := 195) (by decide +kernel)) rfl
theorem am_N_ot {w : Cond} (h : am_isN w = true) : w.onTables = true := by
  cases w <;> first | rfl | cases h
theorem am_Nw_warm {w : Cond} (h : am_isN w = true) {s U : State} (hW : s.WarmedH U.vm) (hZ : va_Nw w s) : va_Nw w U := by
  cases w <;> first | exact va_Nw.warmF hW hZ | exact va_Nw.warmM hW hZ | cases h
theorem am_good {y z : Nat} (hz : z < 316) : GoodIn (am_ws y) (am_ws z) := by
  have g : ∀ w ∈ am_gw, w ∈ am_ws y ∧ ((w.onTables && w.keeps) = true ∨ ∃ ty, w = .arrayClass ty) := fun w hw => ⟨List.mem_cons_of_mem _ hw, good_of_word (List.mem_filter.mp hw).2⟩
  intro w hw
  rcases List.mem_cons.mp hw with e | e
  · subst e
    exact g _ (am_gw_in (am_cw hz) rfl)
  · exact g w e
def am_PU (dC : Nat → ClassId) (dI : Nat → Nat → Nat) (aC : Nat → ClassId) (ad : Nat → Nat) (s t : aM) (sz : Nat) (U : State) : Prop :=
  U.heap.size = sz ∧ va_P (dC, dI) vwCl (am_W aC ad s) U.heap ∧ va_K (dC, dI) vwCl (am_tys aC) U ∧ va_D (fun _ => True) (am_W aC ad s) ∧ (∀ i, s.2.2.2.length ≤ i → i < t.2.2.2.length → ad i = sz + (i - s.2.2.2.length)) ∧ (∀ w ∈ lw_tbl, am_isN w = true → va_Nw w U) ∧ am_Sy ad (va_A (am_W aC ad s) sz) U ∧ va_AO "FordLine$Tray" U ∧ va_AO "FordLine$River" U
theorem am_PU.blind {dC : Nat → ClassId} {dI : Nat → Nat → Nat} {aC : Nat → ClassId} {ad : Nat → Nat} {s t : aM} {sz : Nat} {av : List Value} : FrameBlind (va_Pc av (am_PU dC dI aC ad s t sz)) := by
  rintro a U g mk ⟨h0, h1, h2, h3, h4, h5, h6, ⟨⟨h7, h7a, adV, h7b⟩, h7c, h7d⟩, h8, h9⟩
  have al : U.vm.Alike (U.calling g mk a).vm := Vm.Alike.refl U.vm
  exact ⟨h0, h1, h2, va_K.moved al h3, h4, h5, fun w hw hn => va_Nw.same (u := U) (am_N_ot hn) rfl (h6 w hw hn), ⟨⟨fun k hk => vk_R.same rfl (h7 k hk), h7a, adV, vk_S.moved al h7b⟩, h7c.moved al, h7d.moved al⟩, va_AO.moved al h8, va_AO.moved al h9⟩
theorem am_met {l : Launch} {dC : Nat → ClassId} {dI : Nat → Nat → Nat} {aC : Nat → ClassId} {ad : Nat → Nat} {z d : Nat} {v : Option Value} {t s : aM} {a : List Value} (hz : z < 316) (hgo : am_Go l dC dI aC ad z d v t 0 (am_en z a) [] s) (hlen : (lg_sl a).length ≤ am_ml z) (hm : ∃ K2, t.2.2.2 = s.2.2.2 ++ K2) (sz : Nat) :
    Met l (am_nm z) (am_ws z) { frames := d + 8, cells := t.2.2.2.length - s.2.2.2.length, slots := am_sz t.2.2.2 - am_sz s.2.2.2, locals := 40 * d + 400 } (va_Pc (a.map (am_cv ad)) (am_PU dC dI aC ad s t sz)) (am_Qc dC dI aC ad (va_A (am_W aC ad s) sz) s.2.2.2 v t) (t.2.2.2.length - s.2.2.2.length) (am_sz t.2.2.2 - am_sz s.2.2.2) (va_A (am_W aC ad s) sz) := by
  have hmo := am_mo hz
  unfold am_mok at hmo
  refine Met.ofW (cc := am_bc z) (maxL := am_ml z) (ret := am_re z) (Bool.and_eq_true_iff.mp hmo).1 rfl ?_
  intro p e s0 m args below meth c s₁ B hml hv
  obtain ⟨rfl, hsz, hP, hK, hD0, hN, hNw, hSx, hao1, hao2⟩ := hv
  subst hsz
  have hCt : am_Ct p s0 m (a.map (am_cv ad)).toArray meth c dC dI aC ad (va_A (am_W aC ad s) s0.heap.size) z :=
    ⟨B.exec, B.bytes, B.returns, hml, findClass_of_methodNamed B.named, atoms_spec (ws := am_ws z) B.pre, B.notSynchronized, hK, (name_of_methodNamed B.named B.method).1, hNw, hSx, hao1, hao2⟩
  rw [lg_entry_eq]
  have h := hgo p e s0 m (a.map (am_cv ad)).toArray below meth c (va_A (am_W aC ad s) s0.heap.size) { frames := d + 8, cells := t.2.2.2.length - s.2.2.2.length, slots := am_sz t.2.2.2 - am_sz s.2.2.2, locals := 40 * d + 400 } s.2.2.2 s0.heap [] _ hCt ⟨rfl, rfl, rfl, rfl⟩ (am_LR.entry hlen)
    ⟨fun q hq => Or.inr hq, hN, hP, hD0.self, va_S.rf, ⟨[], (List.append_nil _).symm⟩, hm⟩
  rw [Nat.sub_self, Nat.sub_self] at h
  exact h
theorem am_run {p : Program} {l : Launch} {e : Env} {R : Room} {s0 : State} {m : MethodId} {args : Array Value} {below : List Frame} {meth : Method} {c : Code} {H : Heap} {locs : List Loc} {cells slots mc ms : Nat} {Q : State → Prop} {pc : Nat} {lsC : Array Slot} {st0 rest : List Value} {Qa : State → Outcome → State → Prop} {free : Addr → Prop}
    (hr : va_Run p l e R s0 m args below meth c H locs cells slots mc ms (F0 m pc lsC st0) rest Qa free)
    (kk : ∀ (v : Option Value) (st₀ t : State) (L : List Loc), st₀.heap = H → (∀ q ∈ L, free q.base) → Qa st₀ (.returned v) t → W p l e R s0 m args below meth c t.heap (locs ++ L) (cells + mc) (slots + ms) Q (F0 m (pc + 3) lsC (v.toList ++ rest))) : W p l e R s0 m args below meth c H locs cells slots Q (F0 m pc lsC st0) := by
  intro T hT X
  obtain ⟨v, st₀, t, T', L, h0, X', hL, e1, e2, hq, st⟩ := hr T hT X
  obtain ⟨t2, a1, b1⟩ := kk v st₀ t L h0 hL hq T' e1 X'
  exact ⟨t2, st t2 a1, b1⟩
theorem am_cat8 (ad : Nat → Nat) : ∀ (st : List Value), am_cs st ≤ 8 → ((st.map (am_cv ad)).map fun v => v.category).sum ≤ 8 := by
  have hb : ∀ st : List Value, ((st.map (am_cv ad)).map fun v => v.category).sum = am_cs st := by
    intro st
    induction st with
    | nil => rfl
    | cons v st ih => rw [List.map_cons, List.map_cons, List.sum_cons, ih, am_cv_cat]; rfl
  intro st h
  rw [hb]
  exact h
/-- a call, whatever its kind: 'rn' makes the callee's run a run of the machine -/
theorem am_callG {l : Launch} {dC : Nat → ClassId} {dI : Nat → Nat → Nat} {aC : Nat → ClassId} {ad : Nat → Nat} {y d z : Nat} {v v1 : Option Value} {s' s t : aM} {pc : Nat} {ls : List Slot} {st st1 a : List Value} (hz : z < 316)
    (hgo : am_Go l dC dI aC ad z d v1 t 0 (am_en z a) [] s) (hlen : (lg_sl a).length ≤ am_ml z) (hm : ∃ K2, t.2.2.2 = s.2.2.2 ++ K2) (hm2 : ∃ K2, s'.2.2.2 = t.2.2.2 ++ K2) (hco : am_Go l dC dI aC ad y (d + 1) v s' (pc + 3) ls (v1.toList ++ st1) t)
    (rn : ∀ (p : Program) (e : Env) (R : Room) (s0 : State) (m : MethodId) (args : Array Value) (below : List Frame) (meth : Method) (c : Code) (A : Nat → Prop) (H : Heap) (locs : List Loc) (cells slots mc ms : Nat) (lsC : Array Slot) (rm : Room) (Pc : Array Value → State → Prop) (Qc : Array Value → State → Outcome → State → Prop) (free : Addr → Prop),
      am_Ct p s0 m args meth c dC dI aC ad A y → lsC.size = am_ml y → va_P (dC, dI) vwCl (am_W aC ad s) H → Met l (am_nm z) (am_ws z) rm Pc Qc mc ms free → rm.cells = mc → rm.slots = ms → rm.frames + 1 ≤ R.frames ∧ 8 + (am_ml z + 11) + rm.locals ≤ R.locals → PreS s0 H Pc (a.map (am_cv ad)) → cells + mc ≤ R.cells ∧ slots + ms ≤ R.slots →
      va_Run p l e R s0 m args below meth c H locs cells slots mc ms (F0 m pc lsC (st.map (am_cv ad))) (st1.map (am_cv ad)) (Qc (a.map (am_cv ad)).toArray) free) :
    am_Go l dC dI aC ad y (d + 1) v s' pc ls st s := by
  intro p e s0 m args below meth c A R K0 H locs lsC hC hR hL hB T hT X
  have hsz := am_size hT X hB
  obtain ⟨hA, hN, hP, hD, hS, ⟨K1, e1⟩, K2, e2⟩ := id hB
  obtain ⟨K3, e3⟩ := hm
  obtain ⟨K4, e4⟩ := hm2
  obtain ⟨r1, r2, r3, r4⟩ := id hR
  have l1 : s.2.2.2.length = K0.length + K1.length := by rw [e1, List.length_append]
  have l3 : t.2.2.2.length = s.2.2.2.length + K3.length := by rw [e3, List.length_append]
  have l4 : s'.2.2.2.length = t.2.2.2.length + K4.length := by rw [e4, List.length_append]
  have z1 : am_sz s.2.2.2 = am_sz K0 + am_sz K1 := by rw [e1, am_sz_app]
  have z3 : am_sz t.2.2.2 = am_sz s.2.2.2 + am_sz K3 := by rw [e3, am_sz_app]
  have z4 : am_sz s'.2.2.2 = am_sz t.2.2.2 + am_sz K4 := by rw [e4, am_sz_app]
  have hmo := am_mo hz
  unfold am_mok at hmo
  simp only [Bool.and_eq_true] at hmo
  have hml : am_ml z ≤ 21 := Nat.le_of_ble_eq_true hmo.2.2.2.2.1
  have hM := am_met (sz := H.size) hz hgo hlen ⟨K3, e3⟩
  have hAA : ∀ q, va_A (am_W aC ad s) H.size q → A q := by
    intro q hq
    rcases hq with ⟨k, x, hk⟩ | hq
    · exact hD.2 k _ hk
    · exact hA q (by have := hS.1; omega)
  have hpre : PreS s0 H (va_Pc (a.map (am_cv ad)) (am_PU dC dI aC ad s t H.size)) (a.map (am_cv ad)) := by
    refine ⟨am_PU.blind, fun U hU hW => ⟨rfl, by rw [hU], by rw [hU]; exact hP, va_K.moved hW.alike hC.2.2.2.2.2.2.2.1, hD.weaken (fun _ _ _ _ => trivial), ?_, fun w hw hn => am_Nw_warm hn hW (hC.2.2.2.2.2.2.2.2.2.1 w hw hn), ?_, va_AO.moved hW.alike hC.2.2.2.2.2.2.2.2.2.2.2.1, va_AO.moved hW.alike hC.2.2.2.2.2.2.2.2.2.2.2.2⟩⟩
    · intro i h1 h2
      have := hN i (by omega) (by omega)
      omega
    · obtain ⟨⟨k1, k2, adV, k3⟩, k4, k5⟩ := hC.2.2.2.2.2.2.2.2.2.2.1
      have h9 := ((k3.kept hS.2.1).narrow hAA).moved hW.alike
      have h4 := ((k4.kept hS.2.1).narrow hAA).moved hW.alike
      have h5 := ((k5.kept hS.2.1).narrow hAA).moved hW.alike
      refine ⟨⟨fun k hk => vk_R.warm hW (k1 k hk), k2, adV, ?_⟩, ?_, ?_⟩ <;> rw [hU] <;> assumption
  refine am_run (rn p e R s0 m args below meth c A H locs _ _ _ _ lsC _ _ _ _ hC hL.1 hP hM rfl rfl ⟨by show d + 8 + 1 ≤ R.frames; omega, by show 8 + (am_ml z + 11) + (40 * d + 400) ≤ R.locals; omega⟩ hpre ⟨by omega, by omega⟩) ?_ T hT X
  intro v9 st9 t9 L h0 hL9 hq
  obtain ⟨q1, q2, q3, q4, q5⟩ := hq
  cases q1
  have hS9 : va_S A s0.heap t9.heap (locs ++ L) := by
    have q51 := q5.1
    have q52 := q5.2
    rw [h0] at q51 q52
    refine ⟨Nat.le_trans hS.1 q51, fun q h1 h2 => ?_, fun x hx => ?_⟩
    · rw [q52 q (Nat.lt_of_lt_of_le h1 hS.1) (fun z => h2 (hAA q z))]
      exact hS.2.1 q h1 h2
    · rcases List.mem_append.mp hx with h | h
      · exact hS.2.2 x h
      · exact hAA _ (hL9 x h)
  have h := hco p e s0 m args below meth c A R K0 t9.heap (locs ++ L) lsC hC hR hL ⟨hA, hN, q2, q3.weaken (fun _ _ _ h => hAA _ h), hS9, ⟨K1 ++ K3, by rw [e3, e1, List.append_assoc]⟩, K4, e4⟩
  have c1 : t.2.2.2.length - K0.length = s.2.2.2.length - K0.length + (t.2.2.2.length - s.2.2.2.length) := by omega
  have c2 : am_sz t.2.2.2 - am_sz K0 = am_sz s.2.2.2 - am_sz K0 + (am_sz t.2.2.2 - am_sz s.2.2.2) := by omega
  rw [c1, c2] at h
  have c3 : (v1.toList ++ st1).map (am_cv ad) = (v1.map (am_cv ad)).toList ++ st1.map (am_cv ad) := by
    rw [List.map_append]
    cases v1 <;> rfl
  rw [c3] at h
  exact h
