/-! arrays (by program) -/
theorem am_cnd {b : Bool} {X : Option aR} {r : aR} (h : cond b X none = some r) : b = true ∧ X = some r := by
  cases b with
  | true => exact ⟨rfl, h⟩
  | false => cases h
abbrev va_E_mk0 (aC : Nat → ClassId) (n : Nat) (z : Nat → Int32) : va_E := .inl (aC 100, n, .inl z)
abbrev va_E_mk1 (aC : Nat → ClassId) (n : Nat) (z : Nat → Int64) : va_E := .inl (aC 101, n, .inr (.inl z))
section
variable {l : Launch} {dC : Nat → ClassId} {dI : Nat → Nat → Nat} {aC : Nat → ClassId} {ad : Nat → Nat} {y d n : Nat} {v : Option Value} {s' s : aM} {pc np a b c j : Nat} {k : Int32} {q : Int64} {ls : List Slot} {st : List Value}

theorem am_q_iaload (ih : ∀ pc ls st s, am_ex n d y pc ls st s = some (v, s') → am_Go l dC dI aC ad y d v s' pc ls st s) (ok : am_ok y pc (.iaload, np, a, b, c, j, k, q) = true) (h : am_F (am_ex n d y) (am_ex n d y) (am_cn n d) (am_go (.iaload, np, a, b, c, j, k, q) ls st s) = some (v, s')) : am_Go l dC dI aC ad y d v s' pc ls st s := by
  obtain ⟨hd, hnp, hr⟩ := am_ok_d ok
  have hd : decode (am_bc y) pc = .ok (.iaload, 1) := hd
  obtain rfl : np = pc + 1 := hnp
  change am_F (am_ex n d y) (am_ex n d y) (am_cn n d) (am_iald (pc + 1) ls st s) = some (v, s') at h
  unfold am_iald at h
  split at h
  · rename_i i1 r1 st1
    obtain ⟨hg, h2⟩ := am_cnd (X := am_ex n d y (pc + 1) ls (.int (s.1 r1 i1.toNatClampNeg) :: st1) s) h
    rw [Bool.and_eq_true] at hg
    refine am_stepX rfl (ih _ _ _ _ h2) (fun p e R s0 m args below meth cc A H locs cells slots Q lsC hC hR hL hP hD hS kk => ?_)
    have hk := Nat.eq_of_beq_eq_true hg.1
    have he := am_W_get (aC := aC) (ad := ad) (am_kd_lt (s := s) (r := r1) (by omega))
    rw [am_E_int hk (by omega) (by omega) (by omega)] at he
    exact va_iald hC.1 hC.2.1 hC.2.2.2.2.2.2.2.1 hP r1 0 he rfl (am_in_of hg.2) hd (kk lsC H locs hL hP hD hS)
  · cases h

theorem am_q_laload (ih : ∀ pc ls st s, am_ex n d y pc ls st s = some (v, s') → am_Go l dC dI aC ad y d v s' pc ls st s) (ok : am_ok y pc (.laload, np, a, b, c, j, k, q) = true) (h : am_F (am_ex n d y) (am_ex n d y) (am_cn n d) (am_go (.laload, np, a, b, c, j, k, q) ls st s) = some (v, s')) : am_Go l dC dI aC ad y d v s' pc ls st s := by
  obtain ⟨hd, hnp, hr⟩ := am_ok_d ok
  have hd : decode (am_bc y) pc = .ok (.laload, 1) := hd
  obtain rfl : np = pc + 1 := hnp
  change am_F (am_ex n d y) (am_ex n d y) (am_cn n d) (am_lald (pc + 1) ls st s) = some (v, s') at h
  unfold am_lald at h
  split at h
  · rename_i i1 r1 st1
    obtain ⟨hg, h2⟩ := am_cnd (X := am_ex n d y (pc + 1) ls (.long (s.2.1 r1 i1.toNatClampNeg) :: st1) s) h
    rw [Bool.and_eq_true] at hg
    refine am_stepX rfl (ih _ _ _ _ h2) (fun p e R s0 m args below meth cc A H locs cells slots Q lsC hC hR hL hP hD hS kk => ?_)
    have hk := Nat.eq_of_beq_eq_true hg.1
    have he := am_W_get (aC := aC) (ad := ad) (am_kd_lt (s := s) (r := r1) (by omega))
    rw [am_E_long hk] at he
    exact va_lald hC.1 hC.2.1 hC.2.2.2.2.2.2.2.1 hP r1 1 he rfl (am_in_of hg.2) hd (kk lsC H locs hL hP hD hS)
  · cases h

theorem am_q_baload (ih : ∀ pc ls st s, am_ex n d y pc ls st s = some (v, s') → am_Go l dC dI aC ad y d v s' pc ls st s) (ok : am_ok y pc (.baload, np, a, b, c, j, k, q) = true) (h : am_F (am_ex n d y) (am_ex n d y) (am_cn n d) (am_go (.baload, np, a, b, c, j, k, q) ls st s) = some (v, s')) : am_Go l dC dI aC ad y d v s' pc ls st s := by
  obtain ⟨hd, hnp, hr⟩ := am_ok_d ok
  have hd : decode (am_bc y) pc = .ok (.baload, 1) := hd
  obtain rfl : np = pc + 1 := hnp
  change am_F (am_ex n d y) (am_ex n d y) (am_cn n d) (am_bald (pc + 1) ls st s) = some (v, s') at h
  unfold am_bald at h
  split at h
  · rename_i i1 r1 st1
    obtain ⟨hg, h2⟩ := am_cnd (X := am_ex n d y (pc + 1) ls (.int (s.1 r1 i1.toNatClampNeg) :: st1) s) h
    rw [Bool.and_eq_true] at hg
    refine am_stepX rfl (ih _ _ _ _ h2) (fun p e R s0 m args below meth cc A H locs cells slots Q lsC hC hR hL hP hD hS kk => ?_)
    have hg1 := hg.1
    rw [Bool.or_eq_true] at hg1
    rcases hg1 with g | g
    · have hk := Nat.eq_of_beq_eq_true g
      have he := am_W_get (aC := aC) (ad := ad) (am_kd_lt (s := s) (r := r1) (by omega))
      rw [am_E_int hk (by omega) (by omega) (by omega)] at he
      exact va_bald hC.1 hC.2.1 hC.2.2.2.2.2.2.2.1 hP r1 2 he rfl (am_in_of hg.2) hd (kk lsC H locs hL hP hD hS)
    · have hk := Nat.eq_of_beq_eq_true g
      have he := am_W_get (aC := aC) (ad := ad) (am_kd_lt (s := s) (r := r1) (by omega))
      rw [am_E_int hk (by omega) (by omega) (by omega)] at he
      exact va_zald hC.1 hC.2.1 hC.2.2.2.2.2.2.2.1 hP r1 3 he rfl (am_in_of hg.2) hd (kk lsC H locs hL hP hD hS)
  · cases h

theorem am_q_aaload (ih : ∀ pc ls st s, am_ex n d y pc ls st s = some (v, s') → am_Go l dC dI aC ad y d v s' pc ls st s) (ok : am_ok y pc (.aaload, np, a, b, c, j, k, q) = true) (h : am_F (am_ex n d y) (am_ex n d y) (am_cn n d) (am_go (.aaload, np, a, b, c, j, k, q) ls st s) = some (v, s')) : am_Go l dC dI aC ad y d v s' pc ls st s := by
  obtain ⟨hd, hnp, hr⟩ := am_ok_d ok
  have hd : decode (am_bc y) pc = .ok (.aaload, 1) := hd
  obtain rfl : np = pc + 1 := hnp
  change am_F (am_ex n d y) (am_ex n d y) (am_cn n d) (am_aald (pc + 1) ls st s) = some (v, s') at h
  unfold am_aald at h
  split at h
  · rename_i i1 r1 st1
    have h : cond ((Nat.beq (am_kd s r1) 104 || Nat.beq (am_kd s r1) 105) && am_in i1 (am_ln s r1)) (match s.2.2.1 r1 i1.toNatClampNeg with
      | some q => am_ex n d y (pc + 1) ls (.ref q :: st1) s
      | none => am_ex n d y (pc + 1) ls (.null :: st1) s) none = some (v, s') := h
    obtain ⟨hg, h2⟩ := am_cnd h
    rw [Bool.and_eq_true] at hg
    have hg1 := hg.1
    rw [Bool.or_eq_true] at hg1
    have key : ∀ (u : Value), am_cv ad u = va_rf ((s.2.2.1 r1 i1.toNatClampNeg).map ad) → am_ex n d y (pc + 1) ls (u :: st1) s = some (v, s') → am_Go l dC dI aC ad y d v s' pc ls (.int i1 :: .ref r1 :: st1) s := by
      intro u hu h3
      refine am_stepX rfl (ih _ _ _ _ h3) (fun p e R s0 m args below meth cc A H locs cells slots Q lsC hC hR hL hP hD hS kk => ?_)
      have kk2 := (kk lsC H locs hL hP hD hS)
      rw [List.map_cons, hu] at kk2
      rcases hg1 with g | g
      · have hk := Nat.eq_of_beq_eq_true g
        have he := am_W_get (aC := aC) (ad := ad) (am_kd_lt (s := s) (r := r1) (by omega))
        rw [am_E_ref hk (by omega)] at he
        exact va_aldq hC.1 hC.2.1 hC.2.2.2.2.2.2.2.1 hP r1 4 he rfl (am_in_of hg.2) hd kk2
      · have hk := Nat.eq_of_beq_eq_true g
        have he := am_W_get (aC := aC) (ad := ad) (am_kd_lt (s := s) (r := r1) (by omega))
        rw [am_E_ref hk (by omega)] at he
        exact va_aldq hC.1 hC.2.1 hC.2.2.2.2.2.2.2.1 hP r1 5 he rfl (am_in_of hg.2) hd kk2
    cases ho : s.2.2.1 r1 i1.toNatClampNeg with
    | none => rw [ho] at h2; exact key .null (by rw [ho]; rfl) h2
    | some q9 => rw [ho] at h2; exact key (.ref q9) (by rw [ho]; rfl) h2
  · cases h

theorem am_q_iastore (ih : ∀ pc ls st s, am_ex n d y pc ls st s = some (v, s') → am_Go l dC dI aC ad y d v s' pc ls st s) (ok : am_ok y pc (.iastore, np, a, b, c, j, k, q) = true) (h : am_F (am_ex n d y) (am_ex n d y) (am_cn n d) (am_go (.iastore, np, a, b, c, j, k, q) ls st s) = some (v, s')) : am_Go l dC dI aC ad y d v s' pc ls st s := by
  obtain ⟨hd, hnp, hr⟩ := am_ok_d ok
  have hd : decode (am_bc y) pc = .ok (.iastore, 1) := hd
  obtain rfl : np = pc + 1 := hnp
  change am_F (am_ex n d y) (am_ex n d y) (am_cn n d) (am_iast (pc + 1) ls st s) = some (v, s') at h
  unfold am_iast at h
  split at h
  · rename_i x1 i1 r1 st1
    obtain ⟨hg, h2⟩ := am_cnd (X := am_ex n d y (pc + 1) ls st1 (am_u2 s.1 r1 i1.toNatClampNeg x1, s.2)) h
    rw [Bool.and_eq_true] at hg
    have hk := Nat.eq_of_beq_eq_true hg.1
    refine am_stepX (s2 := (am_u2 s.1 r1 i1.toNatClampNeg x1, s.2)) rfl (ih _ _ _ _ h2) (fun p e R s0 m args below meth cc A H locs cells slots Q lsC hC hR hL hP hD hS kk => ?_)
    have he := am_W_get (aC := aC) (ad := ad) (am_kd_lt (s := s) (r := r1) (by omega))
    rw [am_E_int hk (by omega) (by omega) (by omega)] at he
    refine va_iast hC.1 hC.2.1 hC.2.2.2.2.2.2.2.1 hP hD hS r1 0 he rfl (am_in_of hg.2) hd (fun H1 locs1 g1 g2 g3 => ?_)
    have hw : (am_W aC ad s).set r1 (ad r1, .inl (aC 100, am_ln s r1, .inl (upd (s.1 r1) i1.toNatClampNeg x1))) = am_W aC ad (am_u2 s.1 r1 i1.toNatClampNeg x1, s.2) := by
      refine Eq.symm ?_; refine am_W_set rfl ?_ (fun q9 hq => am_E_i hq)
      have hk2 : am_kd (am_u2 s.1 r1 i1.toNatClampNeg x1, s.2) r1 = 100 := hk
      rw [am_E_int hk2 (by omega) (by omega) (by omega)]
      refine congrArg (fun z => va_E_mk0 aC (am_ln s r1) z) ?_
      funext j9
      exact am_u2_at j9
    rw [hw] at g1 g2
    exact kk lsC H1 locs1 hL g1 g2 g3
  · cases h

theorem am_q_lastore (ih : ∀ pc ls st s, am_ex n d y pc ls st s = some (v, s') → am_Go l dC dI aC ad y d v s' pc ls st s) (ok : am_ok y pc (.lastore, np, a, b, c, j, k, q) = true) (h : am_F (am_ex n d y) (am_ex n d y) (am_cn n d) (am_go (.lastore, np, a, b, c, j, k, q) ls st s) = some (v, s')) : am_Go l dC dI aC ad y d v s' pc ls st s := by
  obtain ⟨hd, hnp, hr⟩ := am_ok_d ok
  have hd : decode (am_bc y) pc = .ok (.lastore, 1) := hd
  obtain rfl : np = pc + 1 := hnp
  change am_F (am_ex n d y) (am_ex n d y) (am_cn n d) (am_last (pc + 1) ls st s) = some (v, s') at h
  unfold am_last at h
  split at h
  · rename_i x1 i1 r1 st1
    obtain ⟨hg, h2⟩ := am_cnd (X := am_ex n d y (pc + 1) ls st1 (s.1, am_u2 s.2.1 r1 i1.toNatClampNeg x1, s.2.2)) h
    rw [Bool.and_eq_true] at hg
    have hk := Nat.eq_of_beq_eq_true hg.1
    refine am_stepX (s2 := (s.1, am_u2 s.2.1 r1 i1.toNatClampNeg x1, s.2.2)) rfl (ih _ _ _ _ h2) (fun p e R s0 m args below meth cc A H locs cells slots Q lsC hC hR hL hP hD hS kk => ?_)
    have he := am_W_get (aC := aC) (ad := ad) (am_kd_lt (s := s) (r := r1) (by omega))
    rw [am_E_long hk] at he
    refine va_last hC.1 hC.2.1 hC.2.2.2.2.2.2.2.1 hP hD hS r1 1 he rfl (am_in_of hg.2) hd (fun H1 locs1 g1 g2 g3 => ?_)
    have hw : (am_W aC ad s).set r1 (ad r1, .inl (aC 101, am_ln s r1, .inr (.inl (vp_updL (s.2.1 r1) i1.toNatClampNeg x1)))) = am_W aC ad (s.1, am_u2 s.2.1 r1 i1.toNatClampNeg x1, s.2.2) := by
      refine Eq.symm ?_; refine am_W_set rfl ?_ (fun q9 hq => am_E_l hq)
      have hk2 : am_kd (s.1, am_u2 s.2.1 r1 i1.toNatClampNeg x1, s.2.2) r1 = 101 := hk
      rw [am_E_long hk2]
      refine congrArg (fun z => va_E_mk1 aC (am_ln s r1) z) ?_
      funext j9
      exact am_u2_at j9
    rw [hw] at g1 g2
    exact kk lsC H1 locs1 hL g1 g2 g3
  · cases h

theorem am_q_bastore (ih : ∀ pc ls st s, am_ex n d y pc ls st s = some (v, s') → am_Go l dC dI aC ad y d v s' pc ls st s) (ok : am_ok y pc (.bastore, np, a, b, c, j, k, q) = true) (h : am_F (am_ex n d y) (am_ex n d y) (am_cn n d) (am_go (.bastore, np, a, b, c, j, k, q) ls st s) = some (v, s')) : am_Go l dC dI aC ad y d v s' pc ls st s := by
  obtain ⟨hd, hnp, hr⟩ := am_ok_d ok
  have hd : decode (am_bc y) pc = .ok (.bastore, 1) := hd
  obtain rfl : np = pc + 1 := hnp
  change am_F (am_ex n d y) (am_ex n d y) (am_cn n d) (am_bast (pc + 1) ls st s) = some (v, s') at h
  unfold am_bast at h
  split at h
  · rename_i x1 i1 r1 st1
    obtain ⟨hg, h2⟩ := am_cnd (X := am_ex n d y (pc + 1) ls st1 (am_u2 s.1 r1 i1.toNatClampNeg (am_nar (am_kd s r1) x1), s.2)) h
    rw [Bool.and_eq_true] at hg
    have hg1 := hg.1
    rw [Bool.or_eq_true] at hg1
    refine am_stepX (s2 := (am_u2 s.1 r1 i1.toNatClampNeg (am_nar (am_kd s r1) x1), s.2)) rfl (ih _ _ _ _ h2) (fun p e R s0 m args below meth cc A H locs cells slots Q lsC hC hR hL hP hD hS kk => ?_)
    rcases hg1 with g | g
    · have hk := Nat.eq_of_beq_eq_true g
      have hn9 : am_nar (am_kd s r1) x1 = vp_nar .byte x1 := by rw [hk]; rfl
      have he := am_W_get (aC := aC) (ad := ad) (am_kd_lt (s := s) (r := r1) (by omega))
      rw [am_E_int hk (by omega) (by omega) (by omega)] at he
      refine va_bast hC.1 hC.2.1 hC.2.2.2.2.2.2.2.1 hP hD hS r1 2 he rfl (am_in_of hg.2) hd (fun H1 locs1 g1 g2 g3 => ?_)
      have hw : (am_W aC ad s).set r1 (ad r1, .inl (aC 102, am_ln s r1, .inl (upd (s.1 r1) i1.toNatClampNeg (vp_nar .byte x1)))) = am_W aC ad (am_u2 s.1 r1 i1.toNatClampNeg (am_nar (am_kd s r1) x1), s.2) := by
        refine Eq.symm ?_; refine am_W_set rfl ?_ (fun q9 hq => am_E_i hq)
        have hk2 : am_kd (am_u2 s.1 r1 i1.toNatClampNeg (am_nar (am_kd s r1) x1), s.2) r1 = 102 := hk
        rw [am_E_int hk2 (by omega) (by omega) (by omega)]
        refine congrArg (fun z => (Sum.inl (aC 102, am_ln s r1, .inl z) : va_E)) ?_
        funext j9
        rw [← hn9]
        exact am_u2_at j9
      rw [hw] at g1 g2
      exact kk lsC H1 locs1 hL g1 g2 g3
    · have hk := Nat.eq_of_beq_eq_true g
      have hn9 : am_nar (am_kd s r1) x1 = vp_nar .boolean x1 := by rw [hk]; rfl
      have he := am_W_get (aC := aC) (ad := ad) (am_kd_lt (s := s) (r := r1) (by omega))
      rw [am_E_int hk (by omega) (by omega) (by omega)] at he
      refine va_zast hC.1 hC.2.1 hC.2.2.2.2.2.2.2.1 hP hD hS r1 3 he rfl (am_in_of hg.2) hd (fun H1 locs1 g1 g2 g3 => ?_)
      have hw : (am_W aC ad s).set r1 (ad r1, .inl (aC 103, am_ln s r1, .inl (upd (s.1 r1) i1.toNatClampNeg (vp_nar .boolean x1)))) = am_W aC ad (am_u2 s.1 r1 i1.toNatClampNeg (am_nar (am_kd s r1) x1), s.2) := by
        refine Eq.symm ?_; refine am_W_set rfl ?_ (fun q9 hq => am_E_i hq)
        have hk2 : am_kd (am_u2 s.1 r1 i1.toNatClampNeg (am_nar (am_kd s r1) x1), s.2) r1 = 103 := hk
        rw [am_E_int hk2 (by omega) (by omega) (by omega)]
        refine congrArg (fun z => (Sum.inl (aC 103, am_ln s r1, .inl z) : va_E)) ?_
        funext j9
        rw [← hn9]
        exact am_u2_at j9
      rw [hw] at g1 g2
      exact kk lsC H1 locs1 hL g1 g2 g3
  · cases h

theorem am_q_aastore (ih : ∀ pc ls st s, am_ex n d y pc ls st s = some (v, s') → am_Go l dC dI aC ad y d v s' pc ls st s) (ok : am_ok y pc (.aastore, np, a, b, c, j, k, q) = true) (h : am_F (am_ex n d y) (am_ex n d y) (am_cn n d) (am_go (.aastore, np, a, b, c, j, k, q) ls st s) = some (v, s')) : am_Go l dC dI aC ad y d v s' pc ls st s := by
  obtain ⟨hd, hnp, hr⟩ := am_ok_d ok
  have hd : decode (am_bc y) pc = .ok (.aastore, 1) := hd
  obtain rfl : np = pc + 1 := hnp
  change am_F (am_ex n d y) (am_ex n d y) (am_cn n d) (am_aast (pc + 1) ls st s) = some (v, s') at h
  unfold am_aast at h
  split at h
  · rename_i q1 i1 r1 st1
    obtain ⟨hg, h2⟩ := am_cnd (X := am_ex n d y (pc + 1) ls st1 (s.1, s.2.1, am_u2 s.2.2.1 r1 i1.toNatClampNeg (some q1), s.2.2.2)) h
    rw [Bool.and_eq_true] at hg
    have hg1 := hg.1
    rw [Bool.or_eq_true] at hg1
    refine am_stepX (s2 := (s.1, s.2.1, am_u2 s.2.2.1 r1 i1.toNatClampNeg (some q1), s.2.2.2)) rfl (ih _ _ _ _ h2) (fun p e R s0 m args below meth cc A H locs cells slots Q lsC hC hR hL hP hD hS kk => ?_)
    rcases hg1 with g | g
    · rw [Bool.and_eq_true] at g
      have hk := Nat.eq_of_beq_eq_true g.1
      have hkq := Nat.eq_of_beq_eq_true g.2
      have he := am_W_get (aC := aC) (ad := ad) (am_kd_lt (s := s) (r := r1) (by omega))
      have heq := am_W_get (aC := aC) (ad := ad) (am_kd_lt (s := s) (r := q1) (by omega))
      rw [am_E_ref hk (by omega)] at he
      rw [am_E_obj hkq (by omega)] at heq
      refine va_astq (r := (am_Rn 10, am_T 10, am_N 10)) hC.1 hC.2.1 hC.2.2.2.2.2.2.2.1 hP hD hS r1 4 q1 10 he rfl heq rfl (am_in_of hg.2) hd (fun H1 locs1 g1 g2 g3 => ?_)
      have hw : (am_W aC ad s).set r1 (ad r1, .inl (aC 104, am_ln s r1, .inr (.inr (.inr (.inr (va_up (fun k => (s.2.2.1 r1 k).map ad) i1.toNatClampNeg (some (ad q1)))))))) = am_W aC ad (s.1, s.2.1, am_u2 s.2.2.1 r1 i1.toNatClampNeg (some q1), s.2.2.2) := by
        refine Eq.symm ?_; refine am_W_set rfl ?_ (fun q9 hq => am_E_r hq)
        have hk2 : am_kd (s.1, s.2.1, am_u2 s.2.2.1 r1 i1.toNatClampNeg (some q1), s.2.2.2) r1 = 104 := hk
        rw [am_E_ref hk2 (by omega)]
        refine congrArg (fun z => (Sum.inl (aC 104, am_ln s r1, .inr (.inr (.inr (.inr z)))) : va_E)) ?_
        funext j9
        show (am_u2 s.2.2.1 r1 i1.toNatClampNeg (some q1) r1 j9).map ad = _
        rw [am_u2_at]
        unfold va_up
        split <;> rfl
      rw [hw] at g1 g2
      exact kk lsC H1 locs1 hL g1 g2 g3
    · rw [Bool.and_eq_true] at g
      have hk := Nat.eq_of_beq_eq_true g.1
      have hkq := Nat.eq_of_beq_eq_true g.2
      have he := am_W_get (aC := aC) (ad := ad) (am_kd_lt (s := s) (r := r1) (by omega))
      have heq := am_W_get (aC := aC) (ad := ad) (am_kd_lt (s := s) (r := q1) (by omega))
      rw [am_E_ref hk (by omega)] at he
      rw [am_E_obj hkq (by omega)] at heq
      refine va_astq (r := (am_Rn 6, am_T 6, am_N 6)) hC.1 hC.2.1 hC.2.2.2.2.2.2.2.1 hP hD hS r1 5 q1 6 he rfl heq rfl (am_in_of hg.2) hd (fun H1 locs1 g1 g2 g3 => ?_)
      have hw : (am_W aC ad s).set r1 (ad r1, .inl (aC 105, am_ln s r1, .inr (.inr (.inr (.inr (va_up (fun k => (s.2.2.1 r1 k).map ad) i1.toNatClampNeg (some (ad q1)))))))) = am_W aC ad (s.1, s.2.1, am_u2 s.2.2.1 r1 i1.toNatClampNeg (some q1), s.2.2.2) := by
        refine Eq.symm ?_; refine am_W_set rfl ?_ (fun q9 hq => am_E_r hq)
        have hk2 : am_kd (s.1, s.2.1, am_u2 s.2.2.1 r1 i1.toNatClampNeg (some q1), s.2.2.2) r1 = 105 := hk
        rw [am_E_ref hk2 (by omega)]
        refine congrArg (fun z => (Sum.inl (aC 105, am_ln s r1, .inr (.inr (.inr (.inr z)))) : va_E)) ?_
        funext j9
        show (am_u2 s.2.2.1 r1 i1.toNatClampNeg (some q1) r1 j9).map ad = _
        rw [am_u2_at]
        unfold va_up
        split <;> rfl
      rw [hw] at g1 g2
      exact kk lsC H1 locs1 hL g1 g2 g3
  · cases h

theorem am_q_arraylength (ih : ∀ pc ls st s, am_ex n d y pc ls st s = some (v, s') → am_Go l dC dI aC ad y d v s' pc ls st s) (ok : am_ok y pc (.arraylength, np, a, b, c, j, k, q) = true) (h : am_F (am_ex n d y) (am_ex n d y) (am_cn n d) (am_go (.arraylength, np, a, b, c, j, k, q) ls st s) = some (v, s')) : am_Go l dC dI aC ad y d v s' pc ls st s := by
  obtain ⟨hd, hnp, hr⟩ := am_ok_d ok
  have hd : decode (am_bc y) pc = .ok (.arraylength, 1) := hd
  obtain rfl : np = pc + 1 := hnp
  change am_F (am_ex n d y) (am_ex n d y) (am_cn n d) (am_alen (pc + 1) ls st s) = some (v, s') at h
  unfold am_alen at h
  split at h
  · rename_i r1 st1
    obtain ⟨hg, h2⟩ := am_cnd (X := am_ex n d y (pc + 1) ls (.int (Int32.ofNat (am_ln s r1)) :: st1) s) h
    rw [Bool.and_eq_true] at hg
    have g1 := Nat.le_of_ble_eq_true hg.1
    have g2 := Nat.le_of_ble_eq_true hg.2
    refine am_stepX rfl (ih _ _ _ _ h2) (fun p e R s0 m args below meth cc A H locs cells slots Q lsC hC hR hL hP hD hS kk => ?_)
    have he := am_W_get (aC := aC) (ad := ad) (am_kd_lt (s := s) (r := r1) (by omega))
    rcases (show am_kd s r1 = 100 ∨ am_kd s r1 = 101 ∨ am_kd s r1 = 102 ∨ am_kd s r1 = 103 ∨ am_kd s r1 = 104 ∨ am_kd s r1 = 105 by omega) with hk | hk | hk | hk | hk | hk
    · rw [am_E_int hk (by omega) (by omega) (by omega)] at he
      exact va_alen hC.1 hC.2.1 hC.2.2.2.2.2.2.2.1 hP r1 0 he rfl rfl hd (kk lsC H locs hL hP hD hS)
    · rw [am_E_long hk] at he
      exact va_alen hC.1 hC.2.1 hC.2.2.2.2.2.2.2.1 hP r1 1 he rfl rfl hd (kk lsC H locs hL hP hD hS)
    · rw [am_E_int hk (by omega) (by omega) (by omega)] at he
      exact va_alen hC.1 hC.2.1 hC.2.2.2.2.2.2.2.1 hP r1 2 he rfl rfl hd (kk lsC H locs hL hP hD hS)
    · rw [am_E_int hk (by omega) (by omega) (by omega)] at he
      exact va_alen hC.1 hC.2.1 hC.2.2.2.2.2.2.2.1 hP r1 3 he rfl rfl hd (kk lsC H locs hL hP hD hS)
    · rw [am_E_ref hk (by omega)] at he
      exact va_alen hC.1 hC.2.1 hC.2.2.2.2.2.2.2.1 hP r1 4 he rfl rfl hd (kk lsC H locs hL hP hD hS)
    · rw [am_E_ref hk (by omega)] at he
      exact va_alen hC.1 hC.2.1 hC.2.2.2.2.2.2.2.1 hP r1 5 he rfl rfl hd (kk lsC H locs hL hP hD hS)
  · cases h

end
