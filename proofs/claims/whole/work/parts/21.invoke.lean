/-! the calls themselves (by program) -/
theorem am_ire : (List.range 316).all (fun z => !decide ((am_nm z).name = "<init>") || decide (am_re z = none)) = true := by decide +kernel
theorem am_mfacts {z : Nat} (hz : z < 316) : plainName (am_nm z).cls = true ∧ (am_nm z).cls ≠ "java/lang/invoke/MethodHandle" ∧ (am_nm z).cls ≠ "java/lang/invoke/VarHandle" ∧ (parseMethodDescriptor (am_nm z).desc).map (fun d => d.parameters.length) = some (am_pn z) ∧ Cond.initialized (am_nm z).cls ∈ am_gw ∧ (am_sk z = true → Cond.static (am_nm z) ∈ am_gw) ∧ (am_sk z = false → Cond.instanceMethod (am_nm z) ∈ am_gw ∧ ((am_nm z).name = "<init>" ∨ Cond.selects (am_nm z).cls (am_nm z) (am_nm z) ∈ am_gw)) := by
  have hmo := am_mo hz
  unfold am_mok at hmo
  simp only [Bool.and_eq_true] at hmo
  obtain ⟨h1, h2, h3, h4, h5, h6, h7⟩ := hmo
  refine ⟨h1, of_decide_eq_true h2, of_decide_eq_true h3, of_decide_eq_true h4, am_gw_in (am_w1_mem h6) rfl, fun q => ?_, fun q => ?_⟩
  · rw [q] at h7
    exact am_gw_in (am_w1_mem h7) rfl
  · rw [q] at h7
    have h7 := Bool.and_eq_true_iff.mp h7
    refine ⟨am_gw_in (am_w1_mem h7.1) rfl, ?_⟩
    rcases Bool.or_eq_true_iff.mp h7.2 with g | g
    · exact Or.inl (of_decide_eq_true g)
    · exact Or.inr (am_gw_in (am_w1_mem g) rfl)

section
variable {l : Launch} {dC : Nat → ClassId} {dI : Nat → Nat → Nat} {aC : Nat → ClassId} {ad : Nat → Nat} {y d n : Nat} {v : Option Value} {s' s : aM} {pc np a b c j : Nat} {k : Int32} {q : Int64} {ls : List Slot} {st : List Value}

theorem am_dcall {g : Bool} {z : Nat} {a1 st1 : List Value} (h : am_F (am_ex n d y) (am_ex n d y) (am_cn n d) (am_ca g z a1 np ls st1 s) = some (v, s')) : g = true ∧ ∃ d1 v1 t, d = d1 + 1 ∧ (lg_sl a1).length ≤ am_ml z ∧ am_ex n d1 z 0 (am_en z a1) [] s = some (v1, t) ∧ am_ex n d y np ls (v1.toList ++ st1) t = some (v, s') := by
  obtain ⟨hg, h⟩ := am_cnd (X := am_bd (am_cn n d z a1 s) (fun v s' => am_ex n d y np ls (v.toList ++ st1) s')) h
  refine ⟨hg, ?_⟩
  cases hc : am_cn n d z a1 s with
  | none => rw [hc] at h; cases h
  | some q1 =>
    obtain ⟨v1, t⟩ := q1
    rw [hc] at h
    cases d with
    | zero => cases hc
    | succ d1 =>
      obtain ⟨h1, h2⟩ := am_cnd (X := am_ex n d1 z 0 (am_en z a1) [] s) hc
      exact ⟨d1, v1, t, rfl, Nat.le_of_ble_eq_true h1, h2, h⟩

theorem am_q_invokestatic {w : Nat} (ihc : ∀ d1 z pc ls st s v1 t, am_ex n d1 z pc ls st s = some (v1, t) → am_Go l dC dI aC ad z d1 v1 t pc ls st s) (ih : ∀ pc ls st s, am_ex n d y pc ls st s = some (v, s') → am_Go l dC dI aC ad y d v s' pc ls st s) (ok : am_ok y pc (.invokestatic w, np, a, b, c, j, k, q) = true) (h : am_F (am_ex n d y) (am_ex n d y) (am_cn n d) (am_go (.invokestatic w, np, a, b, c, j, k, q) ls st s) = some (v, s')) : am_Go l dC dI aC ad y d v s' pc ls st s := by
  obtain ⟨hd, hnp, hr⟩ := am_ok_d ok
  have hd : decode (am_bc y) pc = .ok (.invokestatic w, 3) := hd
  obtain rfl : np = pc + 3 := hnp
  change am_F (am_ex n d y) (am_ex n d y) (am_cn n d) (am_inv (pc + 3) a b c ls st s) = some (v, s') at h
  unfold am_inv at h
  cases hc0 : Nat.beq c 0 with
  | true =>
    rw [hc0] at h
    obtain ⟨hg, d1, v1, t, rfl, hlen, hrun, hco⟩ := am_dcall h
    have hr : cond (Nat.beq c 0) (Nat.blt a 316 && (am_sk a && (Nat.beq b (am_pn a) && (am_w1 j (.methodLink (am_nm y).cls w (am_nm a)) || am_w1 j (.methodLinkNest (am_nm y).cls w (am_nm a) "FordLine"))))) _ = true := hr
    rw [hc0] at hr
    have hr : (Nat.blt a 316 && (am_sk a && (Nat.beq b (am_pn a) && (am_w1 j (.methodLink (am_nm y).cls w (am_nm a)) || am_w1 j (.methodLinkNest (am_nm y).cls w (am_nm a) "FordLine"))))) = true := hr
    simp only [Bool.and_eq_true] at hr hg
    obtain ⟨hz, hsk, hb, hl⟩ := hr
    have hz : a < 316 := Nat.le_of_ble_eq_true hz
    have hb : b = am_pn a := Nat.eq_of_beq_eq_true hb
    have hg1 := Nat.le_of_ble_eq_true hg.1
    have hg2 := Nat.le_of_ble_eq_true hg.2
    obtain ⟨f1, f2, f3, f4, f5, f6, f7⟩ := am_mfacts hz
    have hn : ((st.take b).reverse.map (am_cv ad)).length = am_pn a := by
      rw [List.length_map, List.length_reverse, List.length_take]
      omega
    have hst : st.map (am_cv ad) = ((st.take b).reverse.map (am_cv ad)).reverse ++ (st.drop b).map (am_cv ad) := by
      rw [← List.map_reverse, List.reverse_reverse, ← List.map_append, List.take_append_drop]
    refine am_callG hz (ihc _ _ _ _ _ _ _ _ hrun) hlen (am_ex_gr _ _ _ _ _ _ _ _ _ hrun) (am_ex_gr _ _ _ _ _ _ _ _ _ hco) (ih _ _ _ _ hco) (fun p e R s0 m args below meth cc A H locs cells slots mc ms lsC rm Pc Qc free hC hsz hP hM hrc hrs hR hpre hf => ?_)
    rcases Bool.or_eq_true_iff.mp hl with hl | hl
    · exact va_runS ⟨hC.1, hC.2.1, hC.2.2.2.1, hC.2.2.2.2.1, hC.2.2.2.2.2.1⟩ hM ⟨callB_of (am_pn a) hC.2.2.2.2.2.1 (am_good hz) rfl hrc hrs (am_hts hC f5) (am_hts hC (am_gw_in (am_w1_mem hl) rfl)) ⟨f2, f3, f4⟩ hR, am_hts hC (f6 hsk)⟩ hpre rfl hn hsz hst (lv_room (am_cat8 ad _ hg2)) hd hf
    · exact va_runSN (host := "FordLine") ⟨hC.1, hC.2.1, hC.2.2.2.1, hC.2.2.2.2.1, hC.2.2.2.2.2.1⟩ hM ⟨va_cnB (am_pn a) hC.2.2.2.2.2.1 (am_good hz) rfl hrc hrs (hC.2.2.2.2.2.2.2.2.2.1 _ (am_w1_mem hl) rfl) (am_hts hC f5) ⟨f2, f3, f4⟩ hR, am_hts hC (f6 hsk), trivial⟩ hpre rfl hn hsz hst (lv_room (am_cat8 ad _ hg2)) hd hf
  | false =>
    rw [hc0] at h
    have hr : cond (Nat.beq c 0) _ ((Nat.beq c 2 && am_w1 j (.methodLink (am_nm y).cls w Lib.Math.max.name)) || ((Nat.beq c 3 && am_w1 j (.methodLink (am_nm y).cls w Lib.Math.min.name)) || ((Nat.beq c 4 && am_w1 j (.methodLink (am_nm y).cls w Lib.Math.abs.name)) || ((Nat.beq c 5 && am_w1 j (.methodLink (am_nm y).cls w Lib.MathLoose.max_long.x)) || ((Nat.beq c 6 && am_w1 j (.methodLink (am_nm y).cls w Lib.MathLoose.min_long.x)) || (Nat.beq c 10 && am_w1 j (.methodLink (am_nm y).cls w arraycopyName))))))) = true := hr
    rw [hc0] at hr
    have hr : ((Nat.beq c 2 && am_w1 j (.methodLink (am_nm y).cls w Lib.Math.max.name)) || ((Nat.beq c 3 && am_w1 j (.methodLink (am_nm y).cls w Lib.Math.min.name)) || ((Nat.beq c 4 && am_w1 j (.methodLink (am_nm y).cls w Lib.Math.abs.name)) || ((Nat.beq c 5 && am_w1 j (.methodLink (am_nm y).cls w Lib.MathLoose.max_long.x)) || ((Nat.beq c 6 && am_w1 j (.methodLink (am_nm y).cls w Lib.MathLoose.min_long.x)) || (Nat.beq c 10 && am_w1 j (.methodLink (am_nm y).cls w arraycopyName))))))) = true := hr
    simp only [Bool.or_eq_true, Bool.and_eq_true] at hr
    rcases hr with hr | hr
    · have hc := Nat.eq_of_beq_eq_true hr.1
      subst hc
      have h : am_F (am_ex n d y) (am_ex n d y) (am_cn n d) (am_intr 2 (pc + 3) ls st s) = some (v, s') := h
      exact am_q_i2 ih (am_gw_in (am_w1_mem hr.2) rfl) hd h
    rcases hr with hr | hr
    · have hc := Nat.eq_of_beq_eq_true hr.1
      subst hc
      have h : am_F (am_ex n d y) (am_ex n d y) (am_cn n d) (am_intr 3 (pc + 3) ls st s) = some (v, s') := h
      exact am_q_i3 ih (am_gw_in (am_w1_mem hr.2) rfl) hd h
    rcases hr with hr | hr
    · have hc := Nat.eq_of_beq_eq_true hr.1
      subst hc
      have h : am_F (am_ex n d y) (am_ex n d y) (am_cn n d) (am_intr 4 (pc + 3) ls st s) = some (v, s') := h
      exact am_q_i4 ih (am_gw_in (am_w1_mem hr.2) rfl) hd h
    rcases hr with hr | hr
    · have hc := Nat.eq_of_beq_eq_true hr.1
      subst hc
      have h : am_F (am_ex n d y) (am_ex n d y) (am_cn n d) (am_intr 5 (pc + 3) ls st s) = some (v, s') := h
      exact am_q_i5 ih (am_gw_in (am_w1_mem hr.2) rfl) hd h
    rcases hr with hr | hr
    · have hc := Nat.eq_of_beq_eq_true hr.1
      subst hc
      have h : am_F (am_ex n d y) (am_ex n d y) (am_cn n d) (am_intr 6 (pc + 3) ls st s) = some (v, s') := h
      exact am_q_i6 ih (am_gw_in (am_w1_mem hr.2) rfl) hd h
    skip
    · have hc := Nat.eq_of_beq_eq_true hr.1
      subst hc
      have h : am_F (am_ex n d y) (am_ex n d y) (am_cn n d) (am_intr 10 (pc + 3) ls st s) = some (v, s') := h
      exact am_q_i10 ih (am_gw_in (am_w1_mem hr.2) rfl) hd h

theorem am_q_invokevirtual {w : Nat} (ihc : ∀ d1 z pc ls st s v1 t, am_ex n d1 z pc ls st s = some (v1, t) → am_Go l dC dI aC ad z d1 v1 t pc ls st s) (ih : ∀ pc ls st s, am_ex n d y pc ls st s = some (v, s') → am_Go l dC dI aC ad y d v s' pc ls st s) (ok : am_ok y pc (.invokevirtual w, np, a, b, c, j, k, q) = true) (h : am_F (am_ex n d y) (am_ex n d y) (am_cn n d) (am_go (.invokevirtual w, np, a, b, c, j, k, q) ls st s) = some (v, s')) : am_Go l dC dI aC ad y d v s' pc ls st s := by
  obtain ⟨hd, hnp, hr⟩ := am_ok_d ok
  have hd : decode (am_bc y) pc = .ok (.invokevirtual w, 3) := hd
  obtain rfl : np = pc + 3 := hnp
  change am_F (am_ex n d y) (am_ex n d y) (am_cn n d) (am_inv (pc + 3) a b c ls st s) = some (v, s') at h
  unfold am_inv at h
  cases hc0 : Nat.ble 1000 c with
  | true =>
    have hc00 : Nat.beq c 0 = false := by
      have := Nat.le_of_ble_eq_true hc0
      cases q9 : Nat.beq c 0 with
      | false => rfl
      | true => have := Nat.eq_of_beq_eq_true q9; omega
    rw [hc00, hc0] at h
    have hr : cond (Nat.ble 1000 c) (Nat.blt a 316 && (!am_sk a && (Nat.beq b (am_pn a + 1) && (Nat.blt c 1013 && (decide ((am_nm a).cls = am_Rn (c - 1000)) && (decide (¬ (am_nm a).name = "<init>") && (am_w1 j (.methodLink (am_nm y).cls w (am_nm a)) || am_w1 j (.methodLinkNest (am_nm y).cls w (am_nm a) "FordLine")))))))) _ = true := hr
    rw [hc0] at hr
    have hr : (Nat.blt a 316 && (!am_sk a && (Nat.beq b (am_pn a + 1) && (Nat.blt c 1013 && (decide ((am_nm a).cls = am_Rn (c - 1000)) && (decide (¬ (am_nm a).name = "<init>") && (am_w1 j (.methodLink (am_nm y).cls w (am_nm a)) || am_w1 j (.methodLinkNest (am_nm y).cls w (am_nm a) "FordLine")))))))) = true := hr
    simp only [Bool.and_eq_true] at hr
    obtain ⟨hz, hsk, hb, hc13, hcl, hnm, hl⟩ := hr
    have hz : a < 316 := Nat.le_of_ble_eq_true hz
    have hsk : am_sk a = false := by cases q9 : am_sk a with
      | false => rfl
      | true => rw [q9] at hsk; cases hsk
    have hb : b = am_pn a + 1 := Nat.eq_of_beq_eq_true hb
    have hc13 : c < 1013 := Nat.le_of_ble_eq_true hc13
    have hcl := of_decide_eq_true hcl
    have hnm := of_decide_eq_true hnm
    have hc1 := Nat.le_of_ble_eq_true hc0
    have h : am_F (am_ex n d y) (am_ex n d y) (am_cn n d) (match st.drop (b - 1) with
      | .ref r :: rest => am_ca (Nat.ble 1 b && (Nat.beq (am_kd s r) (c - 1000) && Nat.ble (am_cs rest) 8)) a (.ref r :: (st.take (b - 1)).reverse) (pc + 3) ls rest s
      | _ => none) = some (v, s') := h
    generalize hdr : st.drop (b - 1) = dr at h
    split at h
    case h_2 => cases h
    rename_i r1 rest
    obtain ⟨hg, d1, v1, t, rfl, hlen, hrun, hco⟩ := am_dcall h
    simp only [Bool.and_eq_true] at hg
    obtain ⟨-, hk, hg2⟩ := hg
    have hk := Nat.eq_of_beq_eq_true hk
    have hg2 := Nat.le_of_ble_eq_true hg2
    obtain ⟨f1, f2, f3, f4, f5, f6, f7⟩ := am_mfacts hz
    have hse : Cond.selects (am_nm a).cls (am_nm a) (am_nm a) ∈ am_gw := (f7 hsk).2.resolve_left hnm
    have hln : b - 1 ≤ st.length := by
      have h9 := congrArg List.length hdr
      rw [List.length_drop, List.length_cons] at h9
      omega
    have hn : ((st.take (b - 1)).reverse.map (am_cv ad)).length = am_pn a := by
      rw [List.length_map, List.length_reverse, List.length_take]
      omega
    have hst : st.map (am_cv ad) = ((st.take (b - 1)).reverse.map (am_cv ad)).reverse ++ .ref (ad r1) :: rest.map (am_cv ad) := by
      have h9 : st = st.take (b - 1) ++ .ref r1 :: rest := by rw [← hdr, List.take_append_drop]
      rw [← List.map_reverse, List.reverse_reverse]
      exact (congrArg (List.map (am_cv ad)) h9).trans (by rw [List.map_append]; rfl)
    refine am_callG hz (ihc _ _ _ _ _ _ _ _ hrun) hlen (am_ex_gr _ _ _ _ _ _ _ _ _ hrun) (am_ex_gr _ _ _ _ _ _ _ _ _ hco) (ih _ _ _ _ hco) (fun p e R s0 m args below meth cc A H locs cells slots mc ms lsC rm Pc Qc free hC hsz hP hM hrc hrs hR hpre hf => ?_)
    have hrcv : ∃ cellB : Cell, H[ad r1]? = some cellB ∧ cellB.vm.isStatics = false ∧ s0.vm.findClass (am_nm a).cls = some cellB.cls := by
      have h13 : c - 1000 < 13 := by omega
      generalize c - 1000 = ci at hk hcl h13
      have he := am_W_get (aC := aC) (ad := ad) (am_kd_lt (s := s) (r := r1) (by omega))
      rw [am_E_obj hk h13] at he
      rw [hcl]
      exact va_recv hC.2.2.2.2.2.2.2.1 hP (am_cg h13) he
    rcases Bool.or_eq_true_iff.mp hl with hl | hl
    · exact va_runV ⟨hC.1, hC.2.1, hC.2.2.2.1, hC.2.2.2.2.1, hC.2.2.2.2.2.1⟩ hM ⟨callB_of (am_pn a) hC.2.2.2.2.2.1 (am_good hz) rfl hrc hrs (am_hts hC f5) (am_hts hC (am_gw_in (am_w1_mem hl) rfl)) ⟨f2, f3, f4⟩ hR, am_hts hC (f7 hsk).1, am_hts hC hse⟩ ⟨hpre.1, hrcv, hpre.2⟩ rfl hn hsz hst (lv_room (am_cat8 ad _ hg2)) hd hf
    · exact va_runVN (host := "FordLine") ⟨hC.1, hC.2.1, hC.2.2.2.1, hC.2.2.2.2.1, hC.2.2.2.2.2.1⟩ hM ⟨va_cnB (am_pn a) hC.2.2.2.2.2.1 (am_good hz) rfl hrc hrs (hC.2.2.2.2.2.2.2.2.2.1 _ (am_w1_mem hl) rfl) (am_hts hC f5) ⟨f2, f3, f4⟩ hR, am_hts hC (f7 hsk).1, am_hts hC hse⟩ ⟨hpre.1, hrcv, hpre.2⟩ rfl hn hsz hst (lv_room (am_cat8 ad _ hg2)) hd hf
  | false =>
    rw [hc0] at h
    have hr : cond (Nat.ble 1000 c) _ _ = true := hr
    rw [hc0] at hr
    cases hc9 : Nat.beq c 0 with
    | true =>
      have hc9 := Nat.eq_of_beq_eq_true hc9
      subst hc9
      cases hr
    | false =>
    rw [hc9] at h
    have hr : ((Nat.beq c 7 && am_w1 j (.methodLink (am_nm y).cls w ⟨"java/lang/String", "length", "()I"⟩)) || ((Nat.beq c 8 && am_w1 j (.methodLink (am_nm y).cls w ⟨"java/lang/String", "charAt", "(I)C"⟩)) || ((Nat.beq c 9 && am_w1 j (.methodLink (am_nm y).cls w ⟨"java/lang/String", "indexOf", "(I)I"⟩)) || Nat.beq c 99))) = true := hr
    simp only [Bool.or_eq_true, Bool.and_eq_true] at hr
    rcases hr with hr | hr | hr | hr
    · have hc := Nat.eq_of_beq_eq_true hr.1
      subst hc
      have h : am_F (am_ex n d y) (am_ex n d y) (am_cn n d) (am_intr 7 (pc + 3) ls st s) = some (v, s') := h
      exact am_q_i7 ih (am_gw_in (am_w1_mem hr.2) rfl) hd h
    · have hc := Nat.eq_of_beq_eq_true hr.1
      subst hc
      have h : am_F (am_ex n d y) (am_ex n d y) (am_cn n d) (am_intr 8 (pc + 3) ls st s) = some (v, s') := h
      exact am_q_i8 ih (am_gw_in (am_w1_mem hr.2) rfl) hd h
    · have hc := Nat.eq_of_beq_eq_true hr.1
      subst hc
      have h : am_F (am_ex n d y) (am_ex n d y) (am_cn n d) (am_intr 9 (pc + 3) ls st s) = some (v, s') := h
      exact am_q_i9 ih (am_gw_in (am_w1_mem hr.2) rfl) hd h
    · have hc := Nat.eq_of_beq_eq_true hr
      subst hc
      have h : am_F (am_ex n d y) (am_ex n d y) (am_cn n d) (am_intr 99 (pc + 3) ls st s) = some (v, s') := h
      unfold am_intr at h
      split at h <;> first | contradiction | cases h

theorem am_q_invokespecial {w : Nat} (ihc : ∀ d1 z pc ls st s v1 t, am_ex n d1 z pc ls st s = some (v1, t) → am_Go l dC dI aC ad z d1 v1 t pc ls st s) (ih : ∀ pc ls st s, am_ex n d y pc ls st s = some (v, s') → am_Go l dC dI aC ad y d v s' pc ls st s) (ok : am_ok y pc (.invokespecial w, np, a, b, c, j, k, q) = true) (h : am_F (am_ex n d y) (am_ex n d y) (am_cn n d) (am_go (.invokespecial w, np, a, b, c, j, k, q) ls st s) = some (v, s')) : am_Go l dC dI aC ad y d v s' pc ls st s := by
  obtain ⟨hd, hnp, hr⟩ := am_ok_d ok
  have hd : decode (am_bc y) pc = .ok (.invokespecial w, 3) := hd
  obtain rfl : np = pc + 3 := hnp
  change am_F (am_ex n d y) (am_ex n d y) (am_cn n d) (am_inv (pc + 3) a b c ls st s) = some (v, s') at h
  unfold am_inv at h
  cases hc0 : Nat.ble 1000 c with
  | true =>
    have hc00 : Nat.beq c 0 = false := by
      have := Nat.le_of_ble_eq_true hc0
      cases q9 : Nat.beq c 0 with
      | false => rfl
      | true => have := Nat.eq_of_beq_eq_true q9; omega
    rw [hc00, hc0] at h
    have hr : cond (Nat.ble 1000 c) (Nat.blt a 316 && (!am_sk a && (Nat.beq b (am_pn a + 1) && (Nat.blt c 1013 && (decide ((am_nm a).cls = am_Rn (c - 1000)) && (decide ((am_nm a).name = "<init>") && (am_w1 j (.methodLink (am_nm y).cls w (am_nm a)) || am_w1 j (.methodLinkNest (am_nm y).cls w (am_nm a) "FordLine")))))))) _ = true := hr
    rw [hc0] at hr
    have hr : (Nat.blt a 316 && (!am_sk a && (Nat.beq b (am_pn a + 1) && (Nat.blt c 1013 && (decide ((am_nm a).cls = am_Rn (c - 1000)) && (decide ((am_nm a).name = "<init>") && (am_w1 j (.methodLink (am_nm y).cls w (am_nm a)) || am_w1 j (.methodLinkNest (am_nm y).cls w (am_nm a) "FordLine")))))))) = true := hr
    simp only [Bool.and_eq_true] at hr
    obtain ⟨hz, hsk, hb, hc13, hcl, hnm, hl⟩ := hr
    have hz : a < 316 := Nat.le_of_ble_eq_true hz
    have hsk : am_sk a = false := by cases q9 : am_sk a with
      | false => rfl
      | true => rw [q9] at hsk; cases hsk
    have hb : b = am_pn a + 1 := Nat.eq_of_beq_eq_true hb
    have hc13 : c < 1013 := Nat.le_of_ble_eq_true hc13
    have hcl := of_decide_eq_true hcl
    have hnm := of_decide_eq_true hnm
    have hc1 := Nat.le_of_ble_eq_true hc0
    have h : am_F (am_ex n d y) (am_ex n d y) (am_cn n d) (match st.drop (b - 1) with
      | .ref r :: rest => am_ca (Nat.ble 1 b && (Nat.beq (am_kd s r) (c - 1000) && Nat.ble (am_cs rest) 8)) a (.ref r :: (st.take (b - 1)).reverse) (pc + 3) ls rest s
      | _ => none) = some (v, s') := h
    generalize hdr : st.drop (b - 1) = dr at h
    split at h
    case h_2 => cases h
    rename_i r1 rest
    obtain ⟨hg, d1, v1, t, rfl, hlen, hrun, hco⟩ := am_dcall h
    simp only [Bool.and_eq_true] at hg
    obtain ⟨-, hk, hg2⟩ := hg
    have hk := Nat.eq_of_beq_eq_true hk
    have hg2 := Nat.le_of_ble_eq_true hg2
    obtain ⟨f1, f2, f3, f4, f5, f6, f7⟩ := am_mfacts hz
    have hre : am_re a = none := by
      have h9 := List.all_eq_true.mp am_ire a (List.mem_range.mpr hz)
      rw [decide_eq_true hnm] at h9
      exact of_decide_eq_true h9
    have hln : b - 1 ≤ st.length := by
      have h9 := congrArg List.length hdr
      rw [List.length_drop, List.length_cons] at h9
      omega
    have hn : ((st.take (b - 1)).reverse.map (am_cv ad)).length = am_pn a := by
      rw [List.length_map, List.length_reverse, List.length_take]
      omega
    have hst : st.map (am_cv ad) = ((st.take (b - 1)).reverse.map (am_cv ad)).reverse ++ .ref (ad r1) :: rest.map (am_cv ad) := by
      have h9 : st = st.take (b - 1) ++ .ref r1 :: rest := by rw [← hdr, List.take_append_drop]
      rw [← List.map_reverse, List.reverse_reverse]
      exact (congrArg (List.map (am_cv ad)) h9).trans (by rw [List.map_append]; rfl)
    refine am_callG hz (ihc _ _ _ _ _ _ _ _ hrun) hlen (am_ex_gr _ _ _ _ _ _ _ _ _ hrun) (am_ex_gr _ _ _ _ _ _ _ _ _ hco) (ih _ _ _ _ hco) (fun p e R s0 m args below meth cc A H locs cells slots mc ms lsC rm Pc Qc free hC hsz hP hM hrc hrs hR hpre hf => ?_)
    rcases Bool.or_eq_true_iff.mp hl with hl | hl
    · exact va_runI ⟨hC.1, hC.2.1, hC.2.2.2.1, hC.2.2.2.2.1, hC.2.2.2.2.2.1⟩ hM ⟨callB_of (am_pn a) hC.2.2.2.2.2.1 (am_good hz) (by rw [← hre]; rfl) hrc hrs (am_hts hC f5) (am_hts hC (am_gw_in (am_w1_mem hl) rfl)) ⟨f2, f3, f4⟩ hR, hnm, am_hts hC (f7 hsk).1⟩ hpre rfl hn hsz hst (lv_room (am_cat8 ad _ hg2)) hd hf
    · exact va_runIN (host := "FordLine") ⟨hC.1, hC.2.1, hC.2.2.2.1, hC.2.2.2.2.1, hC.2.2.2.2.2.1⟩ hM ⟨va_cnB (am_pn a) hC.2.2.2.2.2.1 (am_good hz) (by rw [← hre]; rfl) hrc hrs (hC.2.2.2.2.2.2.2.2.2.1 _ (am_w1_mem hl) rfl) (am_hts hC f5) ⟨f2, f3, f4⟩ hR, hnm, am_hts hC (f7 hsk).1⟩ hpre rfl hn hsz hst (lv_room (am_cat8 ad _ hg2)) hd hf
  | false =>
    rw [hc0] at h
    have hr : cond (Nat.ble 1000 c) _ _ = true := hr
    rw [hc0] at hr
    cases hc9 : Nat.beq c 0 with
    | true =>
      have hc9 := Nat.eq_of_beq_eq_true hc9
      subst hc9
      cases hr
    | false =>
    rw [hc9] at h
    have hr : (Nat.beq c 1 && am_w1 j (.methodLink (am_nm y).cls w Lib.objectInit)) = true := hr
    simp only [Bool.and_eq_true] at hr
    have hc := Nat.eq_of_beq_eq_true hr.1
    subst hc
    have h : am_F (am_ex n d y) (am_ex n d y) (am_cn n d) (am_intr 1 (pc + 3) ls st s) = some (v, s') := h
    exact am_q_i1 ih (am_gw_in (am_w1_mem hr.2) rfl) hd h

end
