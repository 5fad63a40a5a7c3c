/-! what is one instruction here (by program) -/
theorem am_nfw : nativeFrameWords "java/lang/System" "arraycopy" 5 = 7 := by decide +kernel
section
variable {l : Launch} {dC : Nat → ClassId} {dI : Nat → Nat → Nat} {aC : Nat → ClassId} {ad : Nat → Nat} {y d n : Nat} {v : Option Value} {s' s : aM} {pc np a b c j : Nat} {ls : List Slot} {st : List Value}

theorem am_q_i1 {w : Nat} (ih : ∀ pc ls st s, am_ex n d y pc ls st s = some (v, s') → am_Go l dC dI aC ad y d v s' pc ls st s) (hl : Cond.methodLink (am_nm y).cls w Lib.objectInit ∈ am_gw) (hd : decode (am_bc y) pc = .ok (.invokespecial w, 3)) (h : am_F (am_ex n d y) (am_ex n d y) (am_cn n d) (am_intr 1 (pc + 3) ls st s) = some (v, s')) : am_Go l dC dI aC ad y d v s' pc ls st s := by
  unfold am_intr at h
  split at h <;> first | contradiction | cases h; done | skip
  rename_i r1 st1 _
  obtain ⟨hg, h2⟩ := am_cnd (X := am_ex n d y (pc + 3) ls st1 s) h
  have hg := Nat.le_of_ble_eq_true hg
  refine am_stepX rfl (ih _ _ _ _ h2) (fun p e R s0 m args below meth cc A H locs cells slots Q lsC hC hR hL hP hD hS kk => ?_)
  have h8 := am_cat8 ad st1 hg
  refine W.objInit hC.1 hC.2.1 hC.2.2.2.2.1 (am_hts hC hl) (am_hts hC am_oi1) (am_hts hC am_oi2) rfl (by rw [hC.2.2.2.1]; exact hL.1) rfl hd (by omega) (by show 2 * 0 + _ + 12 ≤ _; omega) ?_
  exact (kk lsC H locs hL hP hD hS)

theorem am_q_i2 {w : Nat} (ih : ∀ pc ls st s, am_ex n d y pc ls st s = some (v, s') → am_Go l dC dI aC ad y d v s' pc ls st s) (hl : Cond.methodLink (am_nm y).cls w Lib.Math.max.name ∈ am_gw) (hd : decode (am_bc y) pc = .ok (.invokestatic w, 3)) (h : am_F (am_ex n d y) (am_ex n d y) (am_cn n d) (am_intr 2 (pc + 3) ls st s) = some (v, s')) : am_Go l dC dI aC ad y d v s' pc ls st s := by
  unfold am_intr at h
  split at h <;> first | contradiction | cases h; done | skip
  rename_i y1 x1 st1 _
  obtain ⟨hg, h2⟩ := am_cnd (X := am_ex n d y (pc + 3) ls (.int (if x1 < y1 then y1 else x1) :: st1) s) h
  have hg := Nat.le_of_ble_eq_true hg
  refine am_stepX rfl (ih _ _ _ _ h2) (fun p e R s0 m args below meth cc A H locs cells slots Q lsC hC hR hL hP hD hS kk => ?_)
  have h8 := am_cat8 ad st1 hg
  exact va_mmax hC.1 hC.2.1 (by rw [hC.2.2.2.1]; exact hL.1.symm) hC.2.2.2.2.1 (am_hts hC hl) (am_hts hC am_ms2) (am_hts hC am_mi) (am_hts hC am_mc2) (by omega) (by omega) hR.2.2.1 hR.2.2.2 hd (kk lsC H locs hL hP hD hS)

theorem am_q_i3 {w : Nat} (ih : ∀ pc ls st s, am_ex n d y pc ls st s = some (v, s') → am_Go l dC dI aC ad y d v s' pc ls st s) (hl : Cond.methodLink (am_nm y).cls w Lib.Math.min.name ∈ am_gw) (hd : decode (am_bc y) pc = .ok (.invokestatic w, 3)) (h : am_F (am_ex n d y) (am_ex n d y) (am_cn n d) (am_intr 3 (pc + 3) ls st s) = some (v, s')) : am_Go l dC dI aC ad y d v s' pc ls st s := by
  unfold am_intr at h
  split at h <;> first | contradiction | cases h; done | skip
  rename_i y1 x1 st1 _
  obtain ⟨hg, h2⟩ := am_cnd (X := am_ex n d y (pc + 3) ls (.int (if y1 < x1 then y1 else x1) :: st1) s) h
  have hg := Nat.le_of_ble_eq_true hg
  refine am_stepX rfl (ih _ _ _ _ h2) (fun p e R s0 m args below meth cc A H locs cells slots Q lsC hC hR hL hP hD hS kk => ?_)
  have h8 := am_cat8 ad st1 hg
  exact va_mmin hC.1 hC.2.1 (by rw [hC.2.2.2.1]; exact hL.1.symm) hC.2.2.2.2.1 (am_hts hC hl) (am_hts hC am_ms3) (am_hts hC am_mi) (am_hts hC am_mc3) (by omega) (by omega) hR.2.2.1 hR.2.2.2 hd (kk lsC H locs hL hP hD hS)

theorem am_q_i5 {w : Nat} (ih : ∀ pc ls st s, am_ex n d y pc ls st s = some (v, s') → am_Go l dC dI aC ad y d v s' pc ls st s) (hl : Cond.methodLink (am_nm y).cls w Lib.MathLoose.max_long.x ∈ am_gw) (hd : decode (am_bc y) pc = .ok (.invokestatic w, 3)) (h : am_F (am_ex n d y) (am_ex n d y) (am_cn n d) (am_intr 5 (pc + 3) ls st s) = some (v, s')) : am_Go l dC dI aC ad y d v s' pc ls st s := by
  unfold am_intr at h
  split at h <;> first | contradiction | cases h; done | skip
  rename_i y1 x1 st1 _
  obtain ⟨hg, h2⟩ := am_cnd (X := am_ex n d y (pc + 3) ls (.long (if y1 < x1 then x1 else y1) :: st1) s) h
  have hg := Nat.le_of_ble_eq_true hg
  refine am_stepX rfl (ih _ _ _ _ h2) (fun p e R s0 m args below meth cc A H locs cells slots Q lsC hC hR hL hP hD hS kk => ?_)
  have h8 := am_cat8 ad st1 hg
  exact va_mmax_long hC.1 hC.2.1 (by rw [hC.2.2.2.1]; exact hL.1.symm) hC.2.2.2.2.1 (am_hts hC hl) (am_hts hC am_ms5) (am_hts hC am_mi) (am_hts hC am_mc5) (by omega) (by omega) hR.2.2.1 hR.2.2.2 hd (kk lsC H locs hL hP hD hS)

theorem am_q_i6 {w : Nat} (ih : ∀ pc ls st s, am_ex n d y pc ls st s = some (v, s') → am_Go l dC dI aC ad y d v s' pc ls st s) (hl : Cond.methodLink (am_nm y).cls w Lib.MathLoose.min_long.x ∈ am_gw) (hd : decode (am_bc y) pc = .ok (.invokestatic w, 3)) (h : am_F (am_ex n d y) (am_ex n d y) (am_cn n d) (am_intr 6 (pc + 3) ls st s) = some (v, s')) : am_Go l dC dI aC ad y d v s' pc ls st s := by
  unfold am_intr at h
  split at h <;> first | contradiction | cases h; done | skip
  rename_i y1 x1 st1 _
  obtain ⟨hg, h2⟩ := am_cnd (X := am_ex n d y (pc + 3) ls (.long (if y1 < x1 then y1 else x1) :: st1) s) h
  have hg := Nat.le_of_ble_eq_true hg
  refine am_stepX rfl (ih _ _ _ _ h2) (fun p e R s0 m args below meth cc A H locs cells slots Q lsC hC hR hL hP hD hS kk => ?_)
  have h8 := am_cat8 ad st1 hg
  exact va_mmin_long hC.1 hC.2.1 (by rw [hC.2.2.2.1]; exact hL.1.symm) hC.2.2.2.2.1 (am_hts hC hl) (am_hts hC am_ms6) (am_hts hC am_mi) (am_hts hC am_mc6) (by omega) (by omega) hR.2.2.1 hR.2.2.2 hd (kk lsC H locs hL hP hD hS)

theorem am_q_i4 {w : Nat} (ih : ∀ pc ls st s, am_ex n d y pc ls st s = some (v, s') → am_Go l dC dI aC ad y d v s' pc ls st s) (hl : Cond.methodLink (am_nm y).cls w Lib.Math.abs.name ∈ am_gw) (hd : decode (am_bc y) pc = .ok (.invokestatic w, 3)) (h : am_F (am_ex n d y) (am_ex n d y) (am_cn n d) (am_intr 4 (pc + 3) ls st s) = some (v, s')) : am_Go l dC dI aC ad y d v s' pc ls st s := by
  unfold am_intr at h
  split at h <;> first | contradiction | cases h; done | skip
  rename_i x1 st1 _
  obtain ⟨hg, h2⟩ := am_cnd (X := am_ex n d y (pc + 3) ls (.int (if 0 ≤ x1 then x1 else 0 - x1) :: st1) s) h
  have hg := Nat.le_of_ble_eq_true hg
  refine am_stepX rfl (ih _ _ _ _ h2) (fun p e R s0 m args below meth cc A H locs cells slots Q lsC hC hR hL hP hD hS kk => ?_)
  have h8 := am_cat8 ad st1 hg
  exact va_mabs hC.1 hC.2.1 (by rw [hC.2.2.2.1]; exact hL.1.symm) hC.2.2.2.2.1 (am_hts hC hl) (am_hts hC am_ms4) (am_hts hC am_mi) (am_hts hC am_mc4) (by omega) (by omega) hR.2.2.1 hR.2.2.2 hd (kk lsC H locs hL hP hD hS)

theorem am_q_i10 {w : Nat} (ih : ∀ pc ls st s, am_ex n d y pc ls st s = some (v, s') → am_Go l dC dI aC ad y d v s' pc ls st s) (hl : Cond.methodLink (am_nm y).cls w arraycopyName ∈ am_gw) (hd : decode (am_bc y) pc = .ok (.invokestatic w, 3)) (h : am_F (am_ex n d y) (am_ex n d y) (am_cn n d) (am_intr 10 (pc + 3) ls st s) = some (v, s')) : am_Go l dC dI aC ad y d v s' pc ls st s := by
  change am_F (am_ex n d y) (am_ex n d y) (am_cn n d) (am_copy (pc + 3) ls st s) = some (v, s') at h
  unfold am_copy at h
  split at h
  case h_2 => cases h
  rename_i n1 dp q1 sp r1 st1
  obtain ⟨hg, h2⟩ := am_cnd (X := am_ex n d y (pc + 3) ls st1 (cond (Nat.beq (am_kd s r1) 100) (am_cpyl s.1 r1 q1 sp.toNatClampNeg dp.toNatClampNeg n1.toNatClampNeg) s.1, cond (Nat.beq (am_kd s r1) 100) s.2.1 (am_cpyl s.2.1 r1 q1 sp.toNatClampNeg dp.toNatClampNeg n1.toNatClampNeg), s.2.2)) h
  simp only [Bool.and_eq_true, Bool.or_eq_true] at hg
  obtain ⟨hg8, ⟨⟨⟨⟨g1, g2⟩, g3⟩, g4⟩, g5⟩, hkk⟩ := hg
  have hg8 := Nat.le_of_ble_eq_true hg8
  have g1 := am_n0 (of_decide_eq_true g1)
  have g2 := am_n0 (of_decide_eq_true g2)
  have g3 := am_n0 (of_decide_eq_true g3)
  have g4 := Nat.le_of_ble_eq_true g4
  have g5 := Nat.le_of_ble_eq_true g5
  rcases hkk with ⟨k1, k2⟩ | ⟨k1, k2⟩
  · rw [k1] at h2
    have k1 := Nat.eq_of_beq_eq_true k1
    have k2 := Nat.eq_of_beq_eq_true k2
    refine am_stepX (s2 := (am_cpyl s.1 r1 q1 sp.toNatClampNeg dp.toNatClampNeg n1.toNatClampNeg, s.2.1, s.2.2)) rfl (ih _ _ _ _ h2) (fun p e R s0 m args below meth cc A H locs cells slots Q lsC hC hR hL hP hD hS kk => ?_)
    have h8 := am_cat8 ad st1 hg8
    have he0 := am_W_get (aC := aC) (ad := ad) (am_kd_lt (s := s) (r := r1) (by omega))
    have he1 := am_W_get (aC := aC) (ad := ad) (am_kd_lt (s := s) (r := q1) (by omega))
    rw [am_E_int k1 (by omega) (by omega) (by omega)] at he0
    rw [am_E_int k2 (by omega) (by omega) (by omega)] at he1
    refine va_copyi hC.1 hC.2.1 (by rw [hC.2.2.2.1]; exact hL.1.symm) hC.2.2.2.2.1 (am_hts hC hl) (am_hts hC am_an) (am_hts hC am_as) (am_hts hC am_ai) hC.2.2.2.2.2.2.2.1 hP hD hS r1 q1 0 0 he0 he1 rfl rfl rfl g1 g2 g3 g4 g5 (fun _ _ => rfl) (by omega) (by rw [am_nfw]; omega) hd (fun H1 locs1 w1 w2 w3 => ?_)
    have hw : (am_W aC ad s).set q1 (ad q1, .inl (aC 100, am_ln s q1, .inl (va_cpy (s.1 r1) (s.1 q1) sp.toNatClampNeg dp.toNatClampNeg n1.toNatClampNeg))) = am_W aC ad (am_cpyl s.1 r1 q1 sp.toNatClampNeg dp.toNatClampNeg n1.toNatClampNeg, s.2.1, s.2.2) := by
      refine Eq.symm ?_; refine am_W_set rfl ?_ (fun q9 hq => am_Ek_cong rfl (am_u1_ne hq) rfl rfl)
      have hk2 : am_kd (am_cpyl s.1 r1 q1 sp.toNatClampNeg dp.toNatClampNeg n1.toNatClampNeg, s.2.1, s.2.2) q1 = 100 := k2
      rw [am_E_int hk2 (by omega) (by omega) (by omega)]
      refine congrArg (fun z => va_E_mk0 aC (am_ln s q1) z) ?_
      funext j9
      exact am_u1_at j9
    rw [hw] at w1 w2
    exact kk lsC H1 locs1 hL w1 w2 w3
  · have k1 := Nat.eq_of_beq_eq_true k1
    have k2 := Nat.eq_of_beq_eq_true k2
    have k3 : Nat.beq (am_kd s r1) 100 = false := by rw [k1]; rfl
    rw [k3] at h2
    refine am_stepX (s2 := (s.1, am_cpyl s.2.1 r1 q1 sp.toNatClampNeg dp.toNatClampNeg n1.toNatClampNeg, s.2.2)) rfl (ih _ _ _ _ h2) (fun p e R s0 m args below meth cc A H locs cells slots Q lsC hC hR hL hP hD hS kk => ?_)
    have h8 := am_cat8 ad st1 hg8
    have he0 := am_W_get (aC := aC) (ad := ad) (am_kd_lt (s := s) (r := r1) (by omega))
    have he1 := am_W_get (aC := aC) (ad := ad) (am_kd_lt (s := s) (r := q1) (by omega))
    rw [am_E_long k1] at he0
    rw [am_E_long k2] at he1
    refine va_copyl hC.1 hC.2.1 (by rw [hC.2.2.2.1]; exact hL.1.symm) hC.2.2.2.2.1 (am_hts hC hl) (am_hts hC am_an) (am_hts hC am_as) (am_hts hC am_ai) hC.2.2.2.2.2.2.2.1 hP hD hS r1 q1 1 1 he0 he1 rfl rfl rfl g1 g2 g3 g4 g5 (fun _ _ => rfl) (by omega) (by rw [am_nfw]; omega) hd (fun H1 locs1 w1 w2 w3 => ?_)
    have hw : (am_W aC ad s).set q1 (ad q1, .inl (aC 101, am_ln s q1, .inr (.inl (va_cpy (s.2.1 r1) (s.2.1 q1) sp.toNatClampNeg dp.toNatClampNeg n1.toNatClampNeg)))) = am_W aC ad (s.1, am_cpyl s.2.1 r1 q1 sp.toNatClampNeg dp.toNatClampNeg n1.toNatClampNeg, s.2.2) := by
      refine Eq.symm ?_; refine am_W_set rfl ?_ (fun q9 hq => am_Ek_cong rfl rfl (am_u1_ne hq) rfl)
      have hk2 : am_kd (s.1, am_cpyl s.2.1 r1 q1 sp.toNatClampNeg dp.toNatClampNeg n1.toNatClampNeg, s.2.2) q1 = 101 := k2
      rw [am_E_long hk2]
      refine congrArg (fun z => va_E_mk1 aC (am_ln s q1) z) ?_
      funext j9
      exact am_u1_at j9
    rw [hw] at w1 w2
    exact kk lsC H1 locs1 hL w1 w2 w3

theorem am_q_i7 {w : Nat} (ih : ∀ pc ls st s, am_ex n d y pc ls st s = some (v, s') → am_Go l dC dI aC ad y d v s' pc ls st s) (hl : Cond.methodLink (am_nm y).cls w ⟨"java/lang/String", "length", "()I"⟩ ∈ am_gw) (hd : decode (am_bc y) pc = .ok (.invokevirtual w, 3)) (h : am_F (am_ex n d y) (am_ex n d y) (am_cn n d) (am_intr 7 (pc + 3) ls st s) = some (v, s')) : am_Go l dC dI aC ad y d v s' pc ls st s := by
  unfold am_intr at h
  split at h <;> first | contradiction | cases h; done | skip
  rename_i r1 st1 _
  obtain ⟨hg, h2⟩ := am_cnd (X := am_ex n d y (pc + 3) ls (.int (Int32.ofNat (am_tl (r1 - 1000000))) :: st1) s) h
  simp only [Bool.and_eq_true] at hg
  obtain ⟨hg8, hg1, hg2⟩ := hg
  have hg8 := Nat.le_of_ble_eq_true hg8
  have hg1 := Nat.le_of_ble_eq_true hg1
  have hg2 : r1 < 1000004 := Nat.le_of_ble_eq_true hg2
  refine am_stepX rfl (ih _ _ _ _ h2) (fun p e R s0 m args below meth cc A H locs cells slots Q lsC hC hR hL hP hD hS kk => ?_)
  obtain ⟨i, hi, had, htx⟩ := js_which hC.2.2.2.2.2.2.2.2.2.2.1 hg1 hg2
  obtain ⟨adV, hrc, hjs⟩ := js_ctx hC.2.2.2.2.2.2.2.2.2.2.1 hS
  have kk2 := (kk lsC H locs hL hP hD hS)
  rw [List.map_cons] at kk2
  have kk3 : W p l e R s0 m args below meth cc H locs cells slots Q (F0 m (pc + 3) lsC ((some (Value.int _) : Option Value).toList ++ st1.map (am_cv ad))) := kk2
  rw [show Int32.ofNat (am_tl (r1 - 1000000)) = Int32.ofNat (js_len i) by unfold am_tl; rw [htx, (js_all i hi).1]] at kk3
  show W p l e R s0 m args below meth cc H locs cells slots Q (F0 m pc lsC (.ref (ad r1) :: st1.map (am_cv ad)))
  rw [had]
  exact js_run (va_runV (C := "java/lang/String") (b := ad (1000000 + i)) (As := []) (rest := st1.map (am_cv ad)) (Ts := am_ws y) ⟨hC.1, hC.2.1, hC.2.2.2.1, hC.2.2.2.2.1, hC.2.2.2.2.2.1⟩ (js_length l hi) ⟨callB_of 0 hC.2.2.2.2.2.1 (js_good js_w32) rfl rfl rfl (am_hts hC js_w4) (am_hts hC hl) ⟨by decide, by decide, by decide +kernel⟩ ⟨by dsimp only; omega, by dsimp only; omega⟩, am_hts hC js_w34, am_hts hC js_w35⟩ ⟨js_U.blind, hrc i hi, fun U hU9 hW => ⟨rfl, hjs U hU9 hW⟩⟩ rfl rfl hL.1 rfl (lv_room (am_cat8 ad _ hg8)) hd ⟨hR.2.2.1, hR.2.2.2⟩) kk3

theorem am_q_i8 {w : Nat} (ih : ∀ pc ls st s, am_ex n d y pc ls st s = some (v, s') → am_Go l dC dI aC ad y d v s' pc ls st s) (hl : Cond.methodLink (am_nm y).cls w ⟨"java/lang/String", "charAt", "(I)C"⟩ ∈ am_gw) (hd : decode (am_bc y) pc = .ok (.invokevirtual w, 3)) (h : am_F (am_ex n d y) (am_ex n d y) (am_cn n d) (am_intr 8 (pc + 3) ls st s) = some (v, s')) : am_Go l dC dI aC ad y d v s' pc ls st s := by
  unfold am_intr at h
  split at h <;> first | contradiction | cases h; done | skip
  rename_i i1 r1 st1 _
  obtain ⟨hg, h2⟩ := am_cnd (X := am_ex n d y (pc + 3) ls (.int (am_ch (r1 - 1000000) i1.toNatClampNeg) :: st1) s) h
  simp only [Bool.and_eq_true] at hg
  obtain ⟨⟨hg8, hg1, hg2⟩, hin⟩ := hg
  have hg8 := Nat.le_of_ble_eq_true hg8
  have hg1 := Nat.le_of_ble_eq_true hg1
  have hg2 : r1 < 1000004 := Nat.le_of_ble_eq_true hg2
  refine am_stepX rfl (ih _ _ _ _ h2) (fun p e R s0 m args below meth cc A H locs cells slots Q lsC hC hR hL hP hD hS kk => ?_)
  obtain ⟨i, hi, had, htx⟩ := js_which hC.2.2.2.2.2.2.2.2.2.2.1 hg1 hg2
  obtain ⟨adV, hrc, hjs⟩ := js_ctx hC.2.2.2.2.2.2.2.2.2.2.1 hS
  have hk : vp_in i1 (js_len i) := by
    have h9 := am_in_of hin
    have e9 : am_tl (r1 - 1000000) = js_len i := by unfold am_tl; rw [htx]; exact (js_all i hi).1.symm
    rw [e9] at h9
    exact h9
  have kk2 := (kk lsC H locs hL hP hD hS)
  rw [List.map_cons] at kk2
  have kk3 : W p l e R s0 m args below meth cc H locs cells slots Q (F0 m (pc + 3) lsC ((some (Value.int _) : Option Value).toList ++ st1.map (am_cv ad))) := kk2
  rw [show am_ch (r1 - 1000000) i1.toNatClampNeg = js_chr i i1.toNatClampNeg by unfold am_ch; rw [htx]] at kk3
  show W p l e R s0 m args below meth cc H locs cells slots Q (F0 m pc lsC (.int i1 :: .ref (ad r1) :: st1.map (am_cv ad)))
  rw [had]
  exact js_run (va_runV (C := "java/lang/String") (b := ad (1000000 + i)) (As := [.int i1]) (rest := st1.map (am_cv ad)) (Ts := am_ws y) ⟨hC.1, hC.2.1, hC.2.2.2.1, hC.2.2.2.2.1, hC.2.2.2.2.2.1⟩ (js_charAt l hi hk) ⟨callB_of 1 hC.2.2.2.2.2.1 (js_good js_w43) rfl rfl rfl (am_hts hC js_w4) (am_hts hC hl) ⟨by decide, by decide, by decide +kernel⟩ ⟨by dsimp only; omega, by dsimp only; omega⟩, am_hts hC js_w44, am_hts hC js_w45⟩ ⟨js_U.blind, hrc i hi, fun U hU9 hW => ⟨rfl, hjs U hU9 hW⟩⟩ rfl rfl hL.1 rfl (lv_room (am_cat8 ad _ hg8)) hd ⟨hR.2.2.1, hR.2.2.2⟩) kk3

theorem am_q_i9 {w : Nat} (ih : ∀ pc ls st s, am_ex n d y pc ls st s = some (v, s') → am_Go l dC dI aC ad y d v s' pc ls st s) (hl : Cond.methodLink (am_nm y).cls w ⟨"java/lang/String", "indexOf", "(I)I"⟩ ∈ am_gw) (hd : decode (am_bc y) pc = .ok (.invokevirtual w, 3)) (h : am_F (am_ex n d y) (am_ex n d y) (am_cn n d) (am_intr 9 (pc + 3) ls st s) = some (v, s')) : am_Go l dC dI aC ad y d v s' pc ls st s := by
  unfold am_intr at h
  split at h <;> first | contradiction | cases h; done | skip
  rename_i i1 r1 st1 _
  obtain ⟨hg, h2⟩ := am_cnd (X := am_ex n d y (pc + 3) ls (.int (am_ixg i1 (am_tx.getD (r1 - 1000000) []) 0) :: st1) s) h
  simp only [Bool.and_eq_true] at hg
  obtain ⟨⟨hg8, hg1, hg2⟩, hc0, hc1⟩ := hg
  have hg8 := Nat.le_of_ble_eq_true hg8
  have hg1 := Nat.le_of_ble_eq_true hg1
  have hg2 : r1 < 1000004 := Nat.le_of_ble_eq_true hg2
  refine am_stepX rfl (ih _ _ _ _ h2) (fun p e R s0 m args below meth cc A H locs cells slots Q lsC hC hR hL hP hD hS kk => ?_)
  obtain ⟨i, hi, had, htx⟩ := js_which hC.2.2.2.2.2.2.2.2.2.2.1 hg1 hg2
  obtain ⟨adV, hrc, hjs⟩ := js_ctx hC.2.2.2.2.2.2.2.2.2.2.1 hS
  have hk0 : ¬ i1 < 0 := am_n0 (of_decide_eq_true hc0)
  have hk1 : ¬ (255 : Int32) < i1 := by
    have h9 := of_decide_eq_true hc1
    rw [Int32.le_iff_toInt_le] at h9
    rw [Int32.lt_iff_toInt_lt]
    omega
  have kk2 := (kk lsC H locs hL hP hD hS)
  rw [List.map_cons] at kk2
  have kk3 : W p l e R s0 m args below meth cc H locs cells slots Q (F0 m (pc + 3) lsC ((some (Value.int _) : Option Value).toList ++ st1.map (am_cv ad))) := kk2
  rw [show am_ixg i1 (am_tx.getD (r1 - 1000000) []) 0 = js_ix i i1 by rw [htx]] at kk3
  show W p l e R s0 m args below meth cc H locs cells slots Q (F0 m pc lsC (.int i1 :: .ref (ad r1) :: st1.map (am_cv ad)))
  rw [had]
  exact js_run (va_runV (C := "java/lang/String") (b := ad (1000000 + i)) (As := [.int i1]) (rest := st1.map (am_cv ad)) (Ts := am_ws y) ⟨hC.1, hC.2.1, hC.2.2.2.1, hC.2.2.2.2.1, hC.2.2.2.2.2.1⟩ (js_indexOf l hi hk0 hk1) ⟨callB_of 1 hC.2.2.2.2.2.1 (js_good js_w46) rfl rfl rfl (am_hts hC js_w4) (am_hts hC hl) ⟨by decide, by decide, by decide +kernel⟩ ⟨by dsimp only; omega, by dsimp only; omega⟩, am_hts hC js_w47, am_hts hC js_w48⟩ ⟨js_U.blind, hrc i hi, fun U hU9 hW => ⟨rfl, hjs U hU9 hW⟩⟩ rfl rfl hL.1 rfl (lv_room (am_cat8 ad _ hg8)) hd ⟨hR.2.2.1, hR.2.2.2⟩) kk3

end
