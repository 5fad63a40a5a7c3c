def R_law : String := "FordLineLaw"
def lw_P (b : Addr) (xs : List Int32) (args : Array Value) (s : State) : Prop := args = #[.ref b] ∧ s.IntsAt b xs ∧ xs.length ≤ 3072 ∧ (Jvm.Cond.and given_1 narrow_1).before args s = true
def lw_Q (_ : Array Value) (s : State) (o : Outcome) (t : State) : Prop := o = .returned (some (.int 1)) ∧ Framed s o t [] 600000 7302250
def lw_Z (below : List Frame) (a : Array Value) (s : State) : State → Prop := fun t => ∃ o, t.status = .running ∧ Ended t below o ∧ lw_Q a s o t
/-- the law's own end, with 1 on the stack, nothing written that was there before, its room as the claim has it -/
theorem lw_ret {p : Program} {l : Launch} {e : Env} {s : State} {m : MethodId} {below : List Frame} {meth : Method} {c : Code} {b : Nat} (hx : p.tables.exec = Jvm.exec) (hb : c.code = code) (hr : meth.sig.returnType = ret) (hlocks : meth.locks = false) {pc : Nat} {H : Heap} {ls : Array Slot} (hdg : decode code pc = .ok (.ireturn, 1)) : W p l e room_1 s m #[Value.ref b] below meth c H [] 600000 7302250 (lw_Z below #[Value.ref b] s) (F0 m pc ls [.int 1]) := by
  intro T hT X
  obtain ⟨fs, hret, hrun, hended, hW, hframe⟩ := X.leave (v := some (.int 1)) (hlocks := hlocks) (fun h => by rw [hr] at h; cases h)
  have hmeth' : T.vm.method? m = some meth := X.method'
  refine ⟨T.setFrames fs, ?_, .returned (some (.int 1)), hrun, hended, rfl, ⟨_, rfl⟩, hW, hframe⟩
  jvm_step X.here [X.here.top, hx, hb, hdg, hmeth', hr, ret, narrow_b1]
  (try refine ⟨rfl, ?_⟩); (try refine ⟨rfl, ?_⟩)
  first | (intro acts; rw [hret _ acts rfl rfl rfl]) | rw [hret _ _ rfl rfl rfl]
  exact Steps.refl _
/-- what holds at the law's entry: the machine, the code, the tables' words (any of lw_tbl by 'hts w (by decide +kernel)'), the script of L ints xs at the cell b, what the Statement gives of the start (any of its parts by flat_of_before) -/
def lw_At (p : Program) (s : State) (m : MethodId) (meth : Method) (c : Code) (b L : Nat) (xs : Nat → Int32) : Prop :=
  p.tables.exec = Jvm.exec ∧ c.code = code ∧ meth.sig.returnType = ret ∧ c.maxLocals = 4 ∧ s.vm.findClass R_law = some m.cls ∧ (∀ w ∈ lw_tbl, w.before #[Value.ref b] s = true) ∧ va_X b L xs s s.heap ∧ b < s.heap.size ∧ meth.locks = false ∧ (Jvm.Cond.and given_1 narrow_1).before #[Value.ref b] s = true
/-! THE LAW: calls out of its body -/
def lw_A (s : State) : Nat → Prop := fun q => s.heap.size ≤ q
/-- what holds throughout the law's body -/
def LC (p : Program) (s : State) (m : MethodId) (meth : Method) (c : Code) (b L : Nat) (xs : Nat → Int32) (dC : Nat → ClassId) (dI : Nat → Nat → Nat) (aC : Nat → ClassId) : Prop := lw_At p s m meth c b L xs ∧ va_K (dC, dI) vwCl (am_tys aC) s ∧ (∀ w ∈ lw_tbl, am_isN w = true → va_Nw w s) ∧ va_AO "FordLine$Tray" s ∧ va_AO "FordLine$River" s
theorem lw_good {z : Nat} (hz : z < 316) : GoodIn lw_tbl (am_ws z) := by
  have g : ∀ w ∈ am_gw, w ∈ lw_tbl ∧ ((w.onTables && w.keeps) = true ∨ ∃ ty, w = .arrayClass ty) := fun w hw => ⟨(List.mem_filter.mp hw).1, good_of_word (List.mem_filter.mp hw).2⟩
  intro w hw
  rcases List.mem_cons.mp hw with e | e
  · subst e
    exact g _ (am_gw_in (am_cw hz) rfl)
  · exact g w e
theorem am_run_go {l : Launch} {dC : Nat → ClassId} {dI : Nat → Nat → Nat} {aC : Nat → ClassId} {ad : Nat → Nat} {z d : Nat} {a : List Value} {v1 : Option Value} {sA t : aM} (h : am_cl (d + 1) z a sA = some (v1, t)) : (lg_sl a).length ≤ am_ml z ∧ am_Go l dC dI aC ad z d v1 t 0 (am_en z a) [] sA ∧ ∃ K2, t.2.2.2 = sA.2.2.2 ++ K2 := by
  have h : cond (Nat.ble (lg_sl a).length (am_ml z)) (am_Ex d z 0 (am_en z a) [] sA) none = some (v1, t) := h
  cases hb : Nat.ble (lg_sl a).length (am_ml z) with
  | false => rw [hb] at h; cases h
  | true =>
    rw [hb, cond_true] at h
    obtain ⟨n, hn⟩ := am_Ex_iff.mp h
    exact ⟨Nat.le_of_ble_eq_true hb, am_main n d z 0 _ _ _ _ _ hn, am_ex_gr _ _ _ _ _ _ _ _ _ hn⟩
section
variable {p : Program} {l : Launch} {e : Env} {s : State} {m : MethodId} {below : List Frame} {meth : Method} {c : Code} {b L : Nat} {xs : Nat → Int32} {dC : Nat → ClassId} {dI : Nat → Nat → Nat} {aC : Nat → ClassId} {ad : Nat → Nat} {z d w pc ci : Nat} {As rest : List Value} {v1 : Option Value} {sA t : aM} {H : Heap} {locs : List Loc} {cells slots : Nat} {Q : State → Prop} {lsC : Array Slot}
theorem lw_pre (hC : LC p s m meth c b L xs dC dI aC) (hSy : am_Sy ad (lw_A s) s) (hP : va_P (dC, dI) vwCl (am_W aC ad sA) H) (hD : va_D (lw_A s) (am_W aC ad sA)) (hS : va_S (lw_A s) s.heap H locs) (hN : ∀ i, sA.2.2.2.length ≤ i → i < t.2.2.2.length → ad i = H.size + (i - sA.2.2.2.length)) (a : List Value) : (∀ q, va_A (am_W aC ad sA) H.size q → lw_A s q) ∧ PreS s H (va_Pc a (am_PU dC dI aC ad sA t H.size)) a := by
  obtain ⟨C0, hK, hNw, hao1, hao2⟩ := hC
  have hAA : ∀ q, va_A (am_W aC ad sA) H.size q → lw_A s q := by
    intro q hq
    rcases hq with ⟨k, x, hk⟩ | hq
    · exact hD.2 k _ hk
    · have := hS.1
      show s.heap.size ≤ q
      omega
  refine ⟨hAA, am_PU.blind, fun U hU hW => ⟨rfl, by rw [hU], by rw [hU]; exact hP, va_K.moved hW.alike hK, hD.weaken (fun _ _ _ _ => trivial), hN, fun w hw hn => am_Nw_warm hn hW (hNw w hw hn), ?_, va_AO.moved hW.alike hao1, va_AO.moved hW.alike hao2⟩⟩
  obtain ⟨⟨k1, k2, adV, k3⟩, k4, k5⟩ := hSy
  have h9 := ((k3.kept hS.2.1).narrow hAA).moved hW.alike
  have h4 := ((k4.kept hS.2.1).narrow hAA).moved hW.alike
  have h5 := ((k5.kept hS.2.1).narrow hAA).moved hW.alike
  refine ⟨⟨fun k hk => vk_R.warm hW (k1 k hk), k2, adV, ?_⟩, ?_, ?_⟩ <;> rw [hU] <;> assumption
/-- what a call leaves -/
def lw_K (p : Program) (l : Launch) (e : Env) (s : State) (m : MethodId) (below : List Frame) (meth : Method) (c : Code) (b : Nat) (dC : Nat → ClassId) (dI : Nat → Nat → Nat) (aC : Nat → ClassId) (ad : Nat → Nat) (sA t : aM) (H : Heap) (cells slots : Nat) (Q : State → Prop) (F : JFrame) : Prop := ∀ H' locs', va_P (dC, dI) vwCl (am_W aC ad t) H' → va_D (lw_A s) (am_W aC ad t) → va_S (lw_A s) s.heap H' locs' → H'.size = H.size + (t.2.2.2.length - sA.2.2.2.length) → (∀ q, q < H.size → ¬ va_A (am_W aC ad sA) H.size q → H'[q]? = H[q]?) → W p l e room_1 s m #[Value.ref b] below meth c H' locs' (cells + (t.2.2.2.length - sA.2.2.2.length)) (slots + (am_sz t.2.2.2 - am_sz sA.2.2.2)) Q F
theorem lw_post {mc ms : Nat} {a : Array Value} (hAA : ∀ q, va_A (am_W aC ad sA) H.size q → lw_A s q) (hS : va_S (lw_A s) s.heap H locs) (hmc : mc = t.2.2.2.length - sA.2.2.2.length) (hms : ms = am_sz t.2.2.2 - am_sz sA.2.2.2) {st0 : List Value} (hr : va_Run p l e room_1 s m #[Value.ref b] below meth c H locs cells slots mc ms (F0 m pc lsC st0) rest (am_Qc dC dI aC ad (va_A (am_W aC ad sA) H.size) sA.2.2.2 v1 t a) (va_A (am_W aC ad sA) H.size)) (kk : lw_K p l e s m below meth c b dC dI aC ad sA t H cells slots Q (F0 m (pc + 3) lsC ((v1.map (am_cv ad)).toList ++ rest))) : W p l e room_1 s m #[Value.ref b] below meth c H locs cells slots Q (F0 m pc lsC st0) := by
  subst hmc; subst hms
  refine am_run hr ?_
  intro v9 st9 t9 L9 h0 hL9 hq
  obtain ⟨q1, q2, q3, q4, q5⟩ := hq
  cases q1
  have q51 := q5.1
  have q52 := q5.2
  rw [h0] at q51 q52 q4
  have hS9 : va_S (lw_A s) s.heap t9.heap (locs ++ L9) := by
    refine ⟨Nat.le_trans hS.1 q51, fun q h1 h2 => ?_, fun x hx => ?_⟩
    · rw [q52 q (Nat.lt_of_lt_of_le h1 hS.1) (fun z => h2 (hAA q z))]
      exact hS.2.1 q h1 h2
    · rcases List.mem_append.mp hx with h | h
      · exact hS.2.2 x h
      · exact hAA _ (hL9 x h)
  exact kk t9.heap (locs ++ L9) q2 (q3.weaken (fun _ _ _ h => hAA _ h)) hS9 q4 (fun q h1 h2 => q52 q h1 h2)
theorem lw_room {z d : Nat} (hz : z < 316) (hd : d ≤ 1000) : d + 8 + 1 ≤ room_1.frames ∧ 8 + (am_ml z + 11) + (40 * d + 400) ≤ room_1.locals := by
  have hmo := am_mo hz
  unfold am_mok at hmo
  simp only [Bool.and_eq_true] at hmo
  have hml : am_ml z ≤ 21 := Nat.le_of_ble_eq_true hmo.2.2.2.2.1
  refine ⟨?_, ?_⟩
  · show d + 8 + 1 ≤ 2048
    omega
  · show 8 + (am_ml z + 11) + (40 * d + 400) ≤ 84000
    omega
theorem lw_callV (hC : LC p s m meth c b L xs dC dI aC) (hSy : am_Sy ad (lw_A s) s) (hz : z < 316) (hsk : am_sk z = false) (hnm : ¬ (am_nm z).name = "<init>") (h13 : ci < 13) (hcl : (am_nm z).cls = am_Rn ci) (hpn : As.length = am_pn z) (hl : Cond.methodLink R_law w (am_nm z) ∈ lw_tbl) (hd : decode code pc = .ok (.invokevirtual w, 3)) (hrun : am_cl (d + 1) z (.ref 0 :: As) sA = some (v1, t)) (hdd : d ≤ 1000) (hk : am_kd sA 0 = ci) (hAs : As.map (am_cv ad) = As) (hP : va_P (dC, dI) vwCl (am_W aC ad sA) H) (hD : va_D (lw_A s) (am_W aC ad sA)) (hS : va_S (lw_A s) s.heap H locs) (hN : ∀ i, sA.2.2.2.length ≤ i → i < t.2.2.2.length → ad i = H.size + (i - sA.2.2.2.length)) (hr1 : cells + (t.2.2.2.length - sA.2.2.2.length) ≤ 600000) (hr2 : slots + (am_sz t.2.2.2 - am_sz sA.2.2.2) ≤ 7302250) (hls : lsC.size = 4) (hrest : (rest.map fun v => v.category).sum ≤ 8) (kk : lw_K p l e s m below meth c b dC dI aC ad sA t H cells slots Q (F0 m (pc + 3) lsC ((v1.map (am_cv ad)).toList ++ rest))) : W p l e room_1 s m #[Value.ref b] below meth c H locs cells slots Q (F0 m pc lsC (As.reverse ++ .ref (ad 0) :: rest)) := by
  obtain ⟨⟨hx, hb, hr, hml, hown, hts, hX, hbl, hlocks, hgv⟩, hK, _⟩ := id hC
  obtain ⟨hlen, hgo, hm⟩ := am_run_go (l := l) (dC := dC) (dI := dI) (aC := aC) (ad := ad) hrun
  have hM := am_met (sz := H.size) hz hgo hlen hm
  have hmap : (Value.ref 0 :: As).map (am_cv ad) = .ref (ad 0) :: As := by
    show Value.ref (ad 0) :: As.map (am_cv ad) = _
    rw [hAs]
  rw [hmap] at hM
  obtain ⟨hAA, hpre⟩ := lw_pre hC hSy hP hD hS hN (.ref (ad 0) :: As)
  obtain ⟨f1, f2, f3, f4, f5, f6, f7⟩ := am_mfacts hz
  have hgw : ∀ w ∈ am_gw, w.before #[Value.ref b] s = true := fun w hw => hts w (List.mem_filter.mp hw).1
  have hse : Cond.selects (am_nm z).cls (am_nm z) (am_nm z) ∈ am_gw := (f7 hsk).2.resolve_left hnm
  have hrcv : ∃ cellB : Cell, H[ad 0]? = some cellB ∧ cellB.vm.isStatics = false ∧ s.vm.findClass (am_nm z).cls = some cellB.cls := by
    have he := am_W_get (aC := aC) (ad := ad) (am_kd_lt (s := sA) (r := 0) (by omega))
    rw [am_E_obj hk h13] at he
    rw [hcl]
    exact va_recv hK hP (am_cg h13) he
  exact lw_post hAA hS rfl rfl (va_runV ⟨hx, hb, hml, hown, hts⟩ hM ⟨callB_of (am_pn z) hts (lw_good hz) rfl rfl rfl (hgw _ f5) (hts _ hl) ⟨f2, f3, f4⟩ (lw_room hz hdd), hgw _ (f7 hsk).1, hgw _ hse⟩ ⟨hpre.1, hrcv, hpre.2⟩ rfl hpn hls rfl (lv_room hrest) hd ⟨hr1, hr2⟩) kk
theorem lw_callI (hC : LC p s m meth c b L xs dC dI aC) (hSy : am_Sy ad (lw_A s) s) (hz : z < 316) (hsk : am_sk z = false) (hnm : (am_nm z).name = "<init>") (hre : am_re z = none) (hpn : 0 = am_pn z) (hl : Cond.methodLink R_law w (am_nm z) ∈ lw_tbl) (hd : decode code pc = .ok (.invokespecial w, 3)) (hrun : am_cl (d + 1) z [.ref 0] sA = some (v1, t)) (hdd : d ≤ 1000) (hP : va_P (dC, dI) vwCl (am_W aC ad sA) H) (hD : va_D (lw_A s) (am_W aC ad sA)) (hS : va_S (lw_A s) s.heap H locs) (hN : ∀ i, sA.2.2.2.length ≤ i → i < t.2.2.2.length → ad i = H.size + (i - sA.2.2.2.length)) (hr1 : cells + (t.2.2.2.length - sA.2.2.2.length) ≤ 600000) (hr2 : slots + (am_sz t.2.2.2 - am_sz sA.2.2.2) ≤ 7302250) (hls : lsC.size = 4) (hrest : (rest.map fun v => v.category).sum ≤ 8) (kk : lw_K p l e s m below meth c b dC dI aC ad sA t H cells slots Q (F0 m (pc + 3) lsC ((v1.map (am_cv ad)).toList ++ rest))) : W p l e room_1 s m #[Value.ref b] below meth c H locs cells slots Q (F0 m pc lsC (.ref (ad 0) :: rest)) := by
  obtain ⟨⟨hx, hb, hr, hml, hown, hts, hX, hbl, hlocks, hgv⟩, hK, _⟩ := id hC
  obtain ⟨hlen, hgo, hm⟩ := am_run_go (l := l) (dC := dC) (dI := dI) (aC := aC) (ad := ad) hrun
  have hM := am_met (sz := H.size) hz hgo hlen hm
  have hmap : ([Value.ref 0] : List Value).map (am_cv ad) = [.ref (ad 0)] := rfl
  rw [hmap] at hM
  obtain ⟨hAA, hpre⟩ := lw_pre hC hSy hP hD hS hN [.ref (ad 0)]
  obtain ⟨f1, f2, f3, f4, f5, f6, f7⟩ := am_mfacts hz
  have hgw : ∀ w ∈ am_gw, w.before #[Value.ref b] s = true := fun w hw => hts w (List.mem_filter.mp hw).1
  exact lw_post hAA hS rfl rfl (va_runI (As := []) ⟨hx, hb, hml, hown, hts⟩ hM ⟨callB_of (am_pn z) hts (lw_good hz) (by rw [← hre]; rfl) rfl rfl (hgw _ f5) (hts _ hl) ⟨f2, f3, f4⟩ (lw_room hz hdd), hnm, hgw _ (f7 hsk).1⟩ hpre rfl hpn hls rfl (lv_room hrest) hd ⟨hr1, hr2⟩) kk
end
