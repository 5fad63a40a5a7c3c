/-! what is one instruction here (by program) -/
section
variable {l : Launch} {dC : Nat → ClassId} {dI : Nat → Nat → Nat} {aC : Nat → ClassId} {ad : Nat → Nat} {y d n : Nat} {v : Option Value} {s' s : aM} {pc np a b c j : Nat} {ls : List Slot} {st : List Value}

theorem am_q_i1 {w : Nat} (ih : ∀ pc ls st s, am_ex n d y pc ls st s = some (v, s') → am_Go l dC dI aC ad y d v s' pc ls st s) (hl : Cond.methodLink (am_nm y).cls w Lib.objectInit ∈ am_gw) (hd : decode (am_bc y) pc = .ok (.invokespecial w, 3)) (h : am_F (am_ex n d y) (am_ex n d y) (am_cn n d) (am_intr 1 (pc + 3) ls st s) = some (v, s')) : am_Go l dC dI aC ad y d v s' pc ls st s := by
  unfold am_intr at h
  split at h <;> first | contradiction | cases h; done | skip
  rename_i r1 st1 _
  obtain ⟨hg, h2⟩ := am_cnd (X := am_ex n d y (pc + 3) ls st1 s) h
  have hg := Nat.le_of_ble_eq_true hg
  refine am_stepX rfl (ih _ _ _ _ h2) (fun p e R s0 m args below meth cc A H locs cells slots Q lsC hC hR hL hP hD hS kk => ?_)
  have h8 := am_cat8 ad st1 hg
  refine W.objInit hC.1 hC.2.1 hC.2.2.2.2.1 (am_hts hC hl) (am_hts hC am_oi1) (am_hts hC am_oi2) rfl (by rw [hC.2.2.2.1]; exact hL.1) rfl hd (by omega) (by show 2 * 0 + _ + 12 ≤ _; omega) ?_
  exact (kk lsC H locs hL hP hD hS)

theorem am_q_i2 {w : Nat} (ih : ∀ pc ls st s, am_ex n d y pc ls st s = some (v, s') → am_Go l dC dI aC ad y d v s' pc ls st s) (hl : Cond.methodLink (am_nm y).cls w Lib.Math.max.name ∈ am_gw) (hd : decode (am_bc y) pc = .ok (.invokestatic w, 3)) (h : am_F (am_ex n d y) (am_ex n d y) (am_cn n d) (am_intr 2 (pc + 3) ls st s) = some (v, s')) : am_Go l dC dI aC ad y d v s' pc ls st s := by
  unfold am_intr at h
  split at h <;> first | contradiction | cases h; done | skip
  rename_i y1 x1 st1 _
  obtain ⟨hg, h2⟩ := am_cnd (X := am_ex n d y (pc + 3) ls (.int (if x1 < y1 then y1 else x1) :: st1) s) h
  have hg := Nat.le_of_ble_eq_true hg
  refine am_stepX rfl (ih _ _ _ _ h2) (fun p e R s0 m args below meth cc A H locs cells slots Q lsC hC hR hL hP hD hS kk => ?_)
  have h8 := am_cat8 ad st1 hg
  exact va_mmax hC.1 hC.2.1 (by rw [hC.2.2.2.1]; exact hL.1.symm) hC.2.2.2.2.1 (am_hts hC hl) (am_hts hC am_ms2) (am_hts hC am_mi) (am_hts hC am_mc2) (by omega) (by omega) hR.2.2.1 hR.2.2.2 hd (kk lsC H locs hL hP hD hS)

theorem am_q_i3 {w : Nat} (ih : ∀ pc ls st s, am_ex n d y pc ls st s = some (v, s') → am_Go l dC dI aC ad y d v s' pc ls st s) (hl : Cond.methodLink (am_nm y).cls w Lib.Math.min.name ∈ am_gw) (hd : decode (am_bc y) pc = .ok (.invokestatic w, 3)) (h : am_F (am_ex n d y) (am_ex n d y) (am_cn n d) (am_intr 3 (pc + 3) ls st s) = some (v, s')) : am_Go l dC dI aC ad y d v s' pc ls st s := by
  unfold am_intr at h
  split at h <;> first | contradiction | cases h; done | skip
  rename_i y1 x1 st1 _
  obtain ⟨hg, h2⟩ := am_cnd (X := am_ex n d y (pc + 3) ls (.int (if y1 < x1 then y1 else x1) :: st1) s) h
  have hg := Nat.le_of_ble_eq_true hg
  refine am_stepX rfl (ih _ _ _ _ h2) (fun p e R s0 m args below meth cc A H locs cells slots Q lsC hC hR hL hP hD hS kk => ?_)
  have h8 := am_cat8 ad st1 hg
  exact va_mmin hC.1 hC.2.1 (by rw [hC.2.2.2.1]; exact hL.1.symm) hC.2.2.2.2.1 (am_hts hC hl) (am_hts hC am_ms3) (am_hts hC am_mi) (am_hts hC am_mc3) (by omega) (by omega) hR.2.2.1 hR.2.2.2 hd (kk lsC H locs hL hP hD hS)

theorem am_q_i5 {w : Nat} (ih : ∀ pc ls st s, am_ex n d y pc ls st s = some (v, s') → am_Go l dC dI aC ad y d v s' pc ls st s) (hl : Cond.methodLink (am_nm y).cls w Lib.MathLoose.max_long.x ∈ am_gw) (hd : decode (am_bc y) pc = .ok (.invokestatic w, 3)) (h : am_F (am_ex n d y) (am_ex n d y) (am_cn n d) (am_intr 5 (pc + 3) ls st s) = some (v, s')) : am_Go l dC dI aC ad y d v s' pc ls st s := by
  unfold am_intr at h
  split at h <;> first | contradiction | cases h; done | skip
  rename_i y1 x1 st1 _
  obtain ⟨hg, h2⟩ := am_cnd (X := am_ex n d y (pc + 3) ls (.long (if y1 < x1 then x1 else y1) :: st1) s) h
  have hg := Nat.le_of_ble_eq_true hg
  refine am_stepX rfl (ih _ _ _ _ h2) (fun p e R s0 m args below meth cc A H locs cells slots Q lsC hC hR hL hP hD hS kk => ?_)
  have h8 := am_cat8 ad st1 hg
  exact va_mmax_long hC.1 hC.2.1 (by rw [hC.2.2.2.1]; exact hL.1.symm) hC.2.2.2.2.1 (am_hts hC hl) (am_hts hC am_ms5) (am_hts hC am_mi) (am_hts hC am_mc5) (by omega) (by omega) hR.2.2.1 hR.2.2.2 hd (kk lsC H locs hL hP hD hS)

theorem am_q_i6 {w : Nat} (ih : ∀ pc ls st s, am_ex n d y pc ls st s = some (v, s') → am_Go l dC dI aC ad y d v s' pc ls st s) (hl : Cond.methodLink (am_nm y).cls w Lib.MathLoose.min_long.x ∈ am_gw) (hd : decode (am_bc y) pc = .ok (.invokestatic w, 3)) (h : am_F (am_ex n d y) (am_ex n d y) (am_cn n d) (am_intr 6 (pc + 3) ls st s) = some (v, s')) : am_Go l dC dI aC ad y d v s' pc ls st s := by
  unfold am_intr at h
  split at h <;> first | contradiction | cases h; done | skip
  rename_i y1 x1 st1 _
  obtain ⟨hg, h2⟩ := am_cnd (X := am_ex n d y (pc + 3) ls (.long (if y1 < x1 then y1 else x1) :: st1) s) h
  have hg := Nat.le_of_ble_eq_true hg
  refine am_stepX rfl (ih _ _ _ _ h2) (fun p e R s0 m args below meth cc A H locs cells slots Q lsC hC hR hL hP hD hS kk => ?_)
  have h8 := am_cat8 ad st1 hg
  exact va_mmin_long hC.1 hC.2.1 (by rw [hC.2.2.2.1]; exact hL.1.symm) hC.2.2.2.2.1 (am_hts hC hl) (am_hts hC am_ms6) (am_hts hC am_mi) (am_hts hC am_mc6) (by omega) (by omega) hR.2.2.1 hR.2.2.2 hd (kk lsC H locs hL hP hD hS)

theorem am_q_i4 {w : Nat} (ih : ∀ pc ls st s, am_ex n d y pc ls st s = some (v, s') → am_Go l dC dI aC ad y d v s' pc ls st s) (hl : Cond.methodLink (am_nm y).cls w Lib.Math.abs.name ∈ am_gw) (hd : decode (am_bc y) pc = .ok (.invokestatic w, 3)) (h : am_F (am_ex n d y) (am_ex n d y) (am_cn n d) (am_intr 4 (pc + 3) ls st s) = some (v, s')) : am_Go l dC dI aC ad y d v s' pc ls st s := by
  unfold am_intr at h
  split at h <;> first | contradiction | cases h; done | skip
  rename_i x1 st1 _
  obtain ⟨hg, h2⟩ := am_cnd (X := am_ex n d y (pc + 3) ls (.int (if 0 ≤ x1 then x1 else 0 - x1) :: st1) s) h
  have hg := Nat.le_of_ble_eq_true hg
  refine am_stepX rfl (ih _ _ _ _ h2) (fun p e R s0 m args below meth cc A H locs cells slots Q lsC hC hR hL hP hD hS kk => ?_)
  have h8 := am_cat8 ad st1 hg
  exact va_mabs hC.1 hC.2.1 (by rw [hC.2.2.2.1]; exact hL.1.symm) hC.2.2.2.2.1 (am_hts hC hl) (am_hts hC am_ms4) (am_hts hC am_mi) (am_hts hC am_mc4) (by omega) (by omega) hR.2.2.1 hR.2.2.2 hd (kk lsC H locs hL hP hD hS)

theorem am_q_i7 {w : Nat} (ih : ∀ pc ls st s, am_ex n d y pc ls st s = some (v, s') → am_Go l dC dI aC ad y d v s' pc ls st s) (hl : Cond.methodLink (am_nm y).cls w ⟨"java/lang/String", "length", "()I"⟩ ∈ am_gw) (hd : decode (am_bc y) pc = .ok (.invokevirtual w, 3)) (h : am_F (am_ex n d y) (am_ex n d y) (am_cn n d) (am_intr 7 (pc + 3) ls st s) = some (v, s')) : am_Go l dC dI aC ad y d v s' pc ls st s := by
  sorry

theorem am_q_i8 {w : Nat} (ih : ∀ pc ls st s, am_ex n d y pc ls st s = some (v, s') → am_Go l dC dI aC ad y d v s' pc ls st s) (hl : Cond.methodLink (am_nm y).cls w ⟨"java/lang/String", "charAt", "(I)C"⟩ ∈ am_gw) (hd : decode (am_bc y) pc = .ok (.invokevirtual w, 3)) (h : am_F (am_ex n d y) (am_ex n d y) (am_cn n d) (am_intr 8 (pc + 3) ls st s) = some (v, s')) : am_Go l dC dI aC ad y d v s' pc ls st s := by
  sorry

theorem am_q_i9 {w : Nat} (ih : ∀ pc ls st s, am_ex n d y pc ls st s = some (v, s') → am_Go l dC dI aC ad y d v s' pc ls st s) (hl : Cond.methodLink (am_nm y).cls w ⟨"java/lang/String", "indexOf", "(I)I"⟩ ∈ am_gw) (hd : decode (am_bc y) pc = .ok (.invokevirtual w, 3)) (h : am_F (am_ex n d y) (am_ex n d y) (am_cn n d) (am_intr 9 (pc + 3) ls st s) = some (v, s')) : am_Go l dC dI aC ad y d v s' pc ls st s := by
  sorry

theorem am_q_i10 {w : Nat} (ih : ∀ pc ls st s, am_ex n d y pc ls st s = some (v, s') → am_Go l dC dI aC ad y d v s' pc ls st s) (hl : Cond.methodLink (am_nm y).cls w arraycopyName ∈ am_gw) (hd : decode (am_bc y) pc = .ok (.invokestatic w, 3)) (h : am_F (am_ex n d y) (am_ex n d y) (am_cn n d) (am_intr 10 (pc + 3) ls st s) = some (v, s')) : am_Go l dC dI aC ad y d v s' pc ls st s := by
  sorry

end
