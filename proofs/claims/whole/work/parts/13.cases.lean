/-! THE INSTRUCTIONS, each by its row of the kit (by program) -/
theorem am_hts {p : Program} {s0 : State} {m : MethodId} {args : Array Value} {meth : Method} {c : Code} {dC : Nat → ClassId} {dI : Nat → Nat → Nat} {aC : Nat → ClassId} {ad : Nat → Nat} {A : Nat → Prop} {y : Nat} {w : Cond} (hC : am_Ct p s0 m args meth c dC dI aC ad A y) (h : w ∈ am_gw) : w.before args s0 = true := hC.2.2.2.2.2.1 w (List.mem_cons_of_mem _ h)
section
variable {l : Launch} {dC : Nat → ClassId} {dI : Nat → Nat → Nat} {aC : Nat → ClassId} {ad : Nat → Nat} {y d n : Nat} {v : Option Value} {s' s : aM} {pc np a b c j : Nat} {k : Int32} {q : Int64} {ls : List Slot} {st : List Value}

theorem am_ok_d {i : Instr} (ok : am_ok y pc (i, np, a, b, c, j, k, q) = true) : decode (am_bc y) pc = .ok (i, am_len (np - pc) i) ∧ np = pc + am_len (np - pc) i ∧ am_ok2 y pc (i, np, a, b, c, j, k, q) = true := by
  unfold am_ok at ok
  rw [Bool.and_eq_true, Bool.and_eq_true] at ok
  exact ⟨of_decide_eq_true ok.1, Nat.eq_of_beq_eq_true ok.2.1, ok.2.2⟩

theorem am_q_iadd (ih : ∀ pc ls st s, am_ex n d y pc ls st s = some (v, s') → am_Go l dC dI aC ad y d v s' pc ls st s) (ok : am_ok y pc (.iadd, np, a, b, c, j, k, q) = true) (h : am_F (am_ex n d y) (am_ex n d y) (am_cn n d) (am_go (.iadd, np, a, b, c, j, k, q) ls st s) = some (v, s')) : am_Go l dC dI aC ad y d v s' pc ls st s := by
  obtain ⟨hd, hnp, hr⟩ := am_ok_d ok
  have hd : decode (am_bc y) pc = .ok (.iadd, 1) := hd
  obtain rfl : np = pc + 1 := hnp
  change am_F (am_ex n d y) (am_ex n d y) (am_cn n d) (am_ii (fun x y => x + y) (pc + 1) ls st s) = some (v, s') at h
  unfold am_ii at h
  split at h
  · rename_i y1 x1 st1
    have h2 : am_ex n d y (pc + 1) ls (.int (x1 + y1) :: st1) s = some (v, s') := h
    exact am_stepX rfl (ih _ _ _ _ h2) (fun p e R s0 m args below meth cc A H locs cells slots Q lsC hC hR hL hP hD hS kk => lv_iadd hC.1 hC.2.1 hd (kk lsC H locs hL hP hD hS))
  · cases h

theorem am_q_isub (ih : ∀ pc ls st s, am_ex n d y pc ls st s = some (v, s') → am_Go l dC dI aC ad y d v s' pc ls st s) (ok : am_ok y pc (.isub, np, a, b, c, j, k, q) = true) (h : am_F (am_ex n d y) (am_ex n d y) (am_cn n d) (am_go (.isub, np, a, b, c, j, k, q) ls st s) = some (v, s')) : am_Go l dC dI aC ad y d v s' pc ls st s := by
  obtain ⟨hd, hnp, hr⟩ := am_ok_d ok
  have hd : decode (am_bc y) pc = .ok (.isub, 1) := hd
  obtain rfl : np = pc + 1 := hnp
  change am_F (am_ex n d y) (am_ex n d y) (am_cn n d) (am_ii (fun x y => x - y) (pc + 1) ls st s) = some (v, s') at h
  unfold am_ii at h
  split at h
  · rename_i y1 x1 st1
    have h2 : am_ex n d y (pc + 1) ls (.int (x1 - y1) :: st1) s = some (v, s') := h
    exact am_stepX rfl (ih _ _ _ _ h2) (fun p e R s0 m args below meth cc A H locs cells slots Q lsC hC hR hL hP hD hS kk => lv_isub hC.1 hC.2.1 hd (kk lsC H locs hL hP hD hS))
  · cases h

theorem am_q_imul (ih : ∀ pc ls st s, am_ex n d y pc ls st s = some (v, s') → am_Go l dC dI aC ad y d v s' pc ls st s) (ok : am_ok y pc (.imul, np, a, b, c, j, k, q) = true) (h : am_F (am_ex n d y) (am_ex n d y) (am_cn n d) (am_go (.imul, np, a, b, c, j, k, q) ls st s) = some (v, s')) : am_Go l dC dI aC ad y d v s' pc ls st s := by
  obtain ⟨hd, hnp, hr⟩ := am_ok_d ok
  have hd : decode (am_bc y) pc = .ok (.imul, 1) := hd
  obtain rfl : np = pc + 1 := hnp
  change am_F (am_ex n d y) (am_ex n d y) (am_cn n d) (am_ii (fun x y => x * y) (pc + 1) ls st s) = some (v, s') at h
  unfold am_ii at h
  split at h
  · rename_i y1 x1 st1
    have h2 : am_ex n d y (pc + 1) ls (.int (x1 * y1) :: st1) s = some (v, s') := h
    exact am_stepX rfl (ih _ _ _ _ h2) (fun p e R s0 m args below meth cc A H locs cells slots Q lsC hC hR hL hP hD hS kk => lv_imul hC.1 hC.2.1 hd (kk lsC H locs hL hP hD hS))
  · cases h

theorem am_q_iand (ih : ∀ pc ls st s, am_ex n d y pc ls st s = some (v, s') → am_Go l dC dI aC ad y d v s' pc ls st s) (ok : am_ok y pc (.iand, np, a, b, c, j, k, q) = true) (h : am_F (am_ex n d y) (am_ex n d y) (am_cn n d) (am_go (.iand, np, a, b, c, j, k, q) ls st s) = some (v, s')) : am_Go l dC dI aC ad y d v s' pc ls st s := by
  obtain ⟨hd, hnp, hr⟩ := am_ok_d ok
  have hd : decode (am_bc y) pc = .ok (.iand, 1) := hd
  obtain rfl : np = pc + 1 := hnp
  change am_F (am_ex n d y) (am_ex n d y) (am_cn n d) (am_ii (fun x y => x &&& y) (pc + 1) ls st s) = some (v, s') at h
  unfold am_ii at h
  split at h
  · rename_i y1 x1 st1
    have h2 : am_ex n d y (pc + 1) ls (.int (x1 &&& y1) :: st1) s = some (v, s') := h
    exact am_stepX rfl (ih _ _ _ _ h2) (fun p e R s0 m args below meth cc A H locs cells slots Q lsC hC hR hL hP hD hS kk => lv_iand hC.1 hC.2.1 hd (kk lsC H locs hL hP hD hS))
  · cases h

theorem am_q_ior (ih : ∀ pc ls st s, am_ex n d y pc ls st s = some (v, s') → am_Go l dC dI aC ad y d v s' pc ls st s) (ok : am_ok y pc (.ior, np, a, b, c, j, k, q) = true) (h : am_F (am_ex n d y) (am_ex n d y) (am_cn n d) (am_go (.ior, np, a, b, c, j, k, q) ls st s) = some (v, s')) : am_Go l dC dI aC ad y d v s' pc ls st s := by
  obtain ⟨hd, hnp, hr⟩ := am_ok_d ok
  have hd : decode (am_bc y) pc = .ok (.ior, 1) := hd
  obtain rfl : np = pc + 1 := hnp
  change am_F (am_ex n d y) (am_ex n d y) (am_cn n d) (am_ii (fun x y => x ||| y) (pc + 1) ls st s) = some (v, s') at h
  unfold am_ii at h
  split at h
  · rename_i y1 x1 st1
    have h2 : am_ex n d y (pc + 1) ls (.int (x1 ||| y1) :: st1) s = some (v, s') := h
    exact am_stepX rfl (ih _ _ _ _ h2) (fun p e R s0 m args below meth cc A H locs cells slots Q lsC hC hR hL hP hD hS kk => lv_ior hC.1 hC.2.1 hd (kk lsC H locs hL hP hD hS))
  · cases h

theorem am_q_ixor (ih : ∀ pc ls st s, am_ex n d y pc ls st s = some (v, s') → am_Go l dC dI aC ad y d v s' pc ls st s) (ok : am_ok y pc (.ixor, np, a, b, c, j, k, q) = true) (h : am_F (am_ex n d y) (am_ex n d y) (am_cn n d) (am_go (.ixor, np, a, b, c, j, k, q) ls st s) = some (v, s')) : am_Go l dC dI aC ad y d v s' pc ls st s := by
  obtain ⟨hd, hnp, hr⟩ := am_ok_d ok
  have hd : decode (am_bc y) pc = .ok (.ixor, 1) := hd
  obtain rfl : np = pc + 1 := hnp
  change am_F (am_ex n d y) (am_ex n d y) (am_cn n d) (am_ii (fun x y => x ^^^ y) (pc + 1) ls st s) = some (v, s') at h
  unfold am_ii at h
  split at h
  · rename_i y1 x1 st1
    have h2 : am_ex n d y (pc + 1) ls (.int (x1 ^^^ y1) :: st1) s = some (v, s') := h
    exact am_stepX rfl (ih _ _ _ _ h2) (fun p e R s0 m args below meth cc A H locs cells slots Q lsC hC hR hL hP hD hS kk => lv_ixor hC.1 hC.2.1 hd (kk lsC H locs hL hP hD hS))
  · cases h

theorem am_q_ishl (ih : ∀ pc ls st s, am_ex n d y pc ls st s = some (v, s') → am_Go l dC dI aC ad y d v s' pc ls st s) (ok : am_ok y pc (.ishl, np, a, b, c, j, k, q) = true) (h : am_F (am_ex n d y) (am_ex n d y) (am_cn n d) (am_go (.ishl, np, a, b, c, j, k, q) ls st s) = some (v, s')) : am_Go l dC dI aC ad y d v s' pc ls st s := by
  obtain ⟨hd, hnp, hr⟩ := am_ok_d ok
  have hd : decode (am_bc y) pc = .ok (.ishl, 1) := hd
  obtain rfl : np = pc + 1 := hnp
  change am_F (am_ex n d y) (am_ex n d y) (am_cn n d) (am_ii (fun x y => x <<< (y &&& 31)) (pc + 1) ls st s) = some (v, s') at h
  unfold am_ii at h
  split at h
  · rename_i y1 x1 st1
    have h2 : am_ex n d y (pc + 1) ls (.int (x1 <<< (y1 &&& 31)) :: st1) s = some (v, s') := h
    exact am_stepX rfl (ih _ _ _ _ h2) (fun p e R s0 m args below meth cc A H locs cells slots Q lsC hC hR hL hP hD hS kk => lv_ishl hC.1 hC.2.1 hd (kk lsC H locs hL hP hD hS))
  · cases h

theorem am_q_ishr (ih : ∀ pc ls st s, am_ex n d y pc ls st s = some (v, s') → am_Go l dC dI aC ad y d v s' pc ls st s) (ok : am_ok y pc (.ishr, np, a, b, c, j, k, q) = true) (h : am_F (am_ex n d y) (am_ex n d y) (am_cn n d) (am_go (.ishr, np, a, b, c, j, k, q) ls st s) = some (v, s')) : am_Go l dC dI aC ad y d v s' pc ls st s := by
  obtain ⟨hd, hnp, hr⟩ := am_ok_d ok
  have hd : decode (am_bc y) pc = .ok (.ishr, 1) := hd
  obtain rfl : np = pc + 1 := hnp
  change am_F (am_ex n d y) (am_ex n d y) (am_cn n d) (am_ii (fun x y => x >>> (y &&& 31)) (pc + 1) ls st s) = some (v, s') at h
  unfold am_ii at h
  split at h
  · rename_i y1 x1 st1
    have h2 : am_ex n d y (pc + 1) ls (.int (x1 >>> (y1 &&& 31)) :: st1) s = some (v, s') := h
    exact am_stepX rfl (ih _ _ _ _ h2) (fun p e R s0 m args below meth cc A H locs cells slots Q lsC hC hR hL hP hD hS kk => lv_ishr hC.1 hC.2.1 hd (kk lsC H locs hL hP hD hS))
  · cases h

theorem am_q_iushr (ih : ∀ pc ls st s, am_ex n d y pc ls st s = some (v, s') → am_Go l dC dI aC ad y d v s' pc ls st s) (ok : am_ok y pc (.iushr, np, a, b, c, j, k, q) = true) (h : am_F (am_ex n d y) (am_ex n d y) (am_cn n d) (am_go (.iushr, np, a, b, c, j, k, q) ls st s) = some (v, s')) : am_Go l dC dI aC ad y d v s' pc ls st s := by
  obtain ⟨hd, hnp, hr⟩ := am_ok_d ok
  have hd : decode (am_bc y) pc = .ok (.iushr, 1) := hd
  obtain rfl : np = pc + 1 := hnp
  change am_F (am_ex n d y) (am_ex n d y) (am_cn n d) (am_ii (fun x y => (x.toUInt32 >>> (y.toUInt32 &&& Int32.toUInt32 31)).toInt32) (pc + 1) ls st s) = some (v, s') at h
  unfold am_ii at h
  split at h
  · rename_i y1 x1 st1
    have h2 : am_ex n d y (pc + 1) ls (.int ((x1.toUInt32 >>> (y1.toUInt32 &&& Int32.toUInt32 31)).toInt32) :: st1) s = some (v, s') := h
    exact am_stepX rfl (ih _ _ _ _ h2) (fun p e R s0 m args below meth cc A H locs cells slots Q lsC hC hR hL hP hD hS kk => lv_iushr hC.1 hC.2.1 hd rfl (kk lsC H locs hL hP hD hS))
  · cases h

theorem am_q_idiv (ih : ∀ pc ls st s, am_ex n d y pc ls st s = some (v, s') → am_Go l dC dI aC ad y d v s' pc ls st s) (ok : am_ok y pc (.idiv, np, a, b, c, j, k, q) = true) (h : am_F (am_ex n d y) (am_ex n d y) (am_cn n d) (am_go (.idiv, np, a, b, c, j, k, q) ls st s) = some (v, s')) : am_Go l dC dI aC ad y d v s' pc ls st s := by
  obtain ⟨hd, hnp, hr⟩ := am_ok_d ok
  have hd : decode (am_bc y) pc = .ok (.idiv, 1) := hd
  obtain rfl : np = pc + 1 := hnp
  change am_F (am_ex n d y) (am_ex n d y) (am_cn n d) (am_dd (fun x y => x / y) (pc + 1) ls st s) = some (v, s') at h
  unfold am_dd at h
  split at h
  · rename_i y1 x1 st1
    have h : cond (!decide (y1 = 0)) (am_ex n d y (pc + 1) ls (.int (x1 / y1) :: st1) s) none = some (v, s') := h
    by_cases hy : y1 = 0
    · rw [decide_eq_true hy] at h; cases h
    · rw [decide_eq_false hy] at h
      have h2 : am_ex n d y (pc + 1) ls (.int (x1 / y1) :: st1) s = some (v, s') := h
      exact am_stepX rfl (ih _ _ _ _ h2) (fun p e R s0 m args below meth cc A H locs cells slots Q lsC hC hR hL hP hD hS kk => lv_idiv hC.1 hC.2.1 hd hy (kk lsC H locs hL hP hD hS))
  · cases h

theorem am_q_irem (ih : ∀ pc ls st s, am_ex n d y pc ls st s = some (v, s') → am_Go l dC dI aC ad y d v s' pc ls st s) (ok : am_ok y pc (.irem, np, a, b, c, j, k, q) = true) (h : am_F (am_ex n d y) (am_ex n d y) (am_cn n d) (am_go (.irem, np, a, b, c, j, k, q) ls st s) = some (v, s')) : am_Go l dC dI aC ad y d v s' pc ls st s := by
  obtain ⟨hd, hnp, hr⟩ := am_ok_d ok
  have hd : decode (am_bc y) pc = .ok (.irem, 1) := hd
  obtain rfl : np = pc + 1 := hnp
  change am_F (am_ex n d y) (am_ex n d y) (am_cn n d) (am_dd (fun x y => x - x / y * y) (pc + 1) ls st s) = some (v, s') at h
  unfold am_dd at h
  split at h
  · rename_i y1 x1 st1
    have h : cond (!decide (y1 = 0)) (am_ex n d y (pc + 1) ls (.int (x1 - x1 / y1 * y1) :: st1) s) none = some (v, s') := h
    by_cases hy : y1 = 0
    · rw [decide_eq_true hy] at h; cases h
    · rw [decide_eq_false hy] at h
      have h2 : am_ex n d y (pc + 1) ls (.int (x1 - x1 / y1 * y1) :: st1) s = some (v, s') := h
      exact am_stepX rfl (ih _ _ _ _ h2) (fun p e R s0 m args below meth cc A H locs cells slots Q lsC hC hR hL hP hD hS kk => lv_irem hC.1 hC.2.1 hd hy (kk lsC H locs hL hP hD hS))
  · cases h

theorem am_q_ladd (ih : ∀ pc ls st s, am_ex n d y pc ls st s = some (v, s') → am_Go l dC dI aC ad y d v s' pc ls st s) (ok : am_ok y pc (.ladd, np, a, b, c, j, k, q) = true) (h : am_F (am_ex n d y) (am_ex n d y) (am_cn n d) (am_go (.ladd, np, a, b, c, j, k, q) ls st s) = some (v, s')) : am_Go l dC dI aC ad y d v s' pc ls st s := by
  obtain ⟨hd, hnp, hr⟩ := am_ok_d ok
  have hd : decode (am_bc y) pc = .ok (.ladd, 1) := hd
  obtain rfl : np = pc + 1 := hnp
  change am_F (am_ex n d y) (am_ex n d y) (am_cn n d) (am_ll (fun x y => x + y) (pc + 1) ls st s) = some (v, s') at h
  unfold am_ll at h
  split at h
  · rename_i y1 x1 st1
    have h2 : am_ex n d y (pc + 1) ls (.long (x1 + y1) :: st1) s = some (v, s') := h
    exact am_stepX rfl (ih _ _ _ _ h2) (fun p e R s0 m args below meth cc A H locs cells slots Q lsC hC hR hL hP hD hS kk => lv_ladd hC.1 hC.2.1 hd (kk lsC H locs hL hP hD hS))
  · cases h

theorem am_q_lsub (ih : ∀ pc ls st s, am_ex n d y pc ls st s = some (v, s') → am_Go l dC dI aC ad y d v s' pc ls st s) (ok : am_ok y pc (.lsub, np, a, b, c, j, k, q) = true) (h : am_F (am_ex n d y) (am_ex n d y) (am_cn n d) (am_go (.lsub, np, a, b, c, j, k, q) ls st s) = some (v, s')) : am_Go l dC dI aC ad y d v s' pc ls st s := by
  obtain ⟨hd, hnp, hr⟩ := am_ok_d ok
  have hd : decode (am_bc y) pc = .ok (.lsub, 1) := hd
  obtain rfl : np = pc + 1 := hnp
  change am_F (am_ex n d y) (am_ex n d y) (am_cn n d) (am_ll (fun x y => x - y) (pc + 1) ls st s) = some (v, s') at h
  unfold am_ll at h
  split at h
  · rename_i y1 x1 st1
    have h2 : am_ex n d y (pc + 1) ls (.long (x1 - y1) :: st1) s = some (v, s') := h
    exact am_stepX rfl (ih _ _ _ _ h2) (fun p e R s0 m args below meth cc A H locs cells slots Q lsC hC hR hL hP hD hS kk => lv_lsub hC.1 hC.2.1 hd (kk lsC H locs hL hP hD hS))
  · cases h

theorem am_q_lmul (ih : ∀ pc ls st s, am_ex n d y pc ls st s = some (v, s') → am_Go l dC dI aC ad y d v s' pc ls st s) (ok : am_ok y pc (.lmul, np, a, b, c, j, k, q) = true) (h : am_F (am_ex n d y) (am_ex n d y) (am_cn n d) (am_go (.lmul, np, a, b, c, j, k, q) ls st s) = some (v, s')) : am_Go l dC dI aC ad y d v s' pc ls st s := by
  obtain ⟨hd, hnp, hr⟩ := am_ok_d ok
  have hd : decode (am_bc y) pc = .ok (.lmul, 1) := hd
  obtain rfl : np = pc + 1 := hnp
  change am_F (am_ex n d y) (am_ex n d y) (am_cn n d) (am_ll (fun x y => x * y) (pc + 1) ls st s) = some (v, s') at h
  unfold am_ll at h
  split at h
  · rename_i y1 x1 st1
    have h2 : am_ex n d y (pc + 1) ls (.long (x1 * y1) :: st1) s = some (v, s') := h
    exact am_stepX rfl (ih _ _ _ _ h2) (fun p e R s0 m args below meth cc A H locs cells slots Q lsC hC hR hL hP hD hS kk => lv_lmul hC.1 hC.2.1 hd (kk lsC H locs hL hP hD hS))
  · cases h

theorem am_q_land (ih : ∀ pc ls st s, am_ex n d y pc ls st s = some (v, s') → am_Go l dC dI aC ad y d v s' pc ls st s) (ok : am_ok y pc (.land, np, a, b, c, j, k, q) = true) (h : am_F (am_ex n d y) (am_ex n d y) (am_cn n d) (am_go (.land, np, a, b, c, j, k, q) ls st s) = some (v, s')) : am_Go l dC dI aC ad y d v s' pc ls st s := by
  obtain ⟨hd, hnp, hr⟩ := am_ok_d ok
  have hd : decode (am_bc y) pc = .ok (.land, 1) := hd
  obtain rfl : np = pc + 1 := hnp
  change am_F (am_ex n d y) (am_ex n d y) (am_cn n d) (am_ll (fun x y => x &&& y) (pc + 1) ls st s) = some (v, s') at h
  unfold am_ll at h
  split at h
  · rename_i y1 x1 st1
    have h2 : am_ex n d y (pc + 1) ls (.long (x1 &&& y1) :: st1) s = some (v, s') := h
    exact am_stepX rfl (ih _ _ _ _ h2) (fun p e R s0 m args below meth cc A H locs cells slots Q lsC hC hR hL hP hD hS kk => lv_land hC.1 hC.2.1 hd (kk lsC H locs hL hP hD hS))
  · cases h

theorem am_q_lor (ih : ∀ pc ls st s, am_ex n d y pc ls st s = some (v, s') → am_Go l dC dI aC ad y d v s' pc ls st s) (ok : am_ok y pc (.lor, np, a, b, c, j, k, q) = true) (h : am_F (am_ex n d y) (am_ex n d y) (am_cn n d) (am_go (.lor, np, a, b, c, j, k, q) ls st s) = some (v, s')) : am_Go l dC dI aC ad y d v s' pc ls st s := by
  obtain ⟨hd, hnp, hr⟩ := am_ok_d ok
  have hd : decode (am_bc y) pc = .ok (.lor, 1) := hd
  obtain rfl : np = pc + 1 := hnp
  change am_F (am_ex n d y) (am_ex n d y) (am_cn n d) (am_ll (fun x y => x ||| y) (pc + 1) ls st s) = some (v, s') at h
  unfold am_ll at h
  split at h
  · rename_i y1 x1 st1
    have h2 : am_ex n d y (pc + 1) ls (.long (x1 ||| y1) :: st1) s = some (v, s') := h
    exact am_stepX rfl (ih _ _ _ _ h2) (fun p e R s0 m args below meth cc A H locs cells slots Q lsC hC hR hL hP hD hS kk => lv_lor hC.1 hC.2.1 hd (kk lsC H locs hL hP hD hS))
  · cases h

theorem am_q_lxor (ih : ∀ pc ls st s, am_ex n d y pc ls st s = some (v, s') → am_Go l dC dI aC ad y d v s' pc ls st s) (ok : am_ok y pc (.lxor, np, a, b, c, j, k, q) = true) (h : am_F (am_ex n d y) (am_ex n d y) (am_cn n d) (am_go (.lxor, np, a, b, c, j, k, q) ls st s) = some (v, s')) : am_Go l dC dI aC ad y d v s' pc ls st s := by
  obtain ⟨hd, hnp, hr⟩ := am_ok_d ok
  have hd : decode (am_bc y) pc = .ok (.lxor, 1) := hd
  obtain rfl : np = pc + 1 := hnp
  change am_F (am_ex n d y) (am_ex n d y) (am_cn n d) (am_ll (fun x y => x ^^^ y) (pc + 1) ls st s) = some (v, s') at h
  unfold am_ll at h
  split at h
  · rename_i y1 x1 st1
    have h2 : am_ex n d y (pc + 1) ls (.long (x1 ^^^ y1) :: st1) s = some (v, s') := h
    exact am_stepX rfl (ih _ _ _ _ h2) (fun p e R s0 m args below meth cc A H locs cells slots Q lsC hC hR hL hP hD hS kk => lv_lxor hC.1 hC.2.1 hd (kk lsC H locs hL hP hD hS))
  · cases h

theorem am_q_ldiv (ih : ∀ pc ls st s, am_ex n d y pc ls st s = some (v, s') → am_Go l dC dI aC ad y d v s' pc ls st s) (ok : am_ok y pc (.ldiv, np, a, b, c, j, k, q) = true) (h : am_F (am_ex n d y) (am_ex n d y) (am_cn n d) (am_go (.ldiv, np, a, b, c, j, k, q) ls st s) = some (v, s')) : am_Go l dC dI aC ad y d v s' pc ls st s := by
  obtain ⟨hd, hnp, hr⟩ := am_ok_d ok
  have hd : decode (am_bc y) pc = .ok (.ldiv, 1) := hd
  obtain rfl : np = pc + 1 := hnp
  change am_F (am_ex n d y) (am_ex n d y) (am_cn n d) (am_le (fun x y => x / y) (pc + 1) ls st s) = some (v, s') at h
  unfold am_le at h
  split at h
  · rename_i y1 x1 st1
    have h : cond (!decide (y1 = 0)) (am_ex n d y (pc + 1) ls (.long (x1 / y1) :: st1) s) none = some (v, s') := h
    by_cases hy : y1 = 0
    · rw [decide_eq_true hy] at h; cases h
    · rw [decide_eq_false hy] at h
      have h2 : am_ex n d y (pc + 1) ls (.long (x1 / y1) :: st1) s = some (v, s') := h
      exact am_stepX rfl (ih _ _ _ _ h2) (fun p e R s0 m args below meth cc A H locs cells slots Q lsC hC hR hL hP hD hS kk => lv_ldiv hC.1 hC.2.1 hd hy (kk lsC H locs hL hP hD hS))
  · cases h

theorem am_q_lrem (ih : ∀ pc ls st s, am_ex n d y pc ls st s = some (v, s') → am_Go l dC dI aC ad y d v s' pc ls st s) (ok : am_ok y pc (.lrem, np, a, b, c, j, k, q) = true) (h : am_F (am_ex n d y) (am_ex n d y) (am_cn n d) (am_go (.lrem, np, a, b, c, j, k, q) ls st s) = some (v, s')) : am_Go l dC dI aC ad y d v s' pc ls st s := by
  obtain ⟨hd, hnp, hr⟩ := am_ok_d ok
  have hd : decode (am_bc y) pc = .ok (.lrem, 1) := hd
  obtain rfl : np = pc + 1 := hnp
  change am_F (am_ex n d y) (am_ex n d y) (am_cn n d) (am_le (fun x y => x - x / y * y) (pc + 1) ls st s) = some (v, s') at h
  unfold am_le at h
  split at h
  · rename_i y1 x1 st1
    have h : cond (!decide (y1 = 0)) (am_ex n d y (pc + 1) ls (.long (x1 - x1 / y1 * y1) :: st1) s) none = some (v, s') := h
    by_cases hy : y1 = 0
    · rw [decide_eq_true hy] at h; cases h
    · rw [decide_eq_false hy] at h
      have h2 : am_ex n d y (pc + 1) ls (.long (x1 - x1 / y1 * y1) :: st1) s = some (v, s') := h
      exact am_stepX rfl (ih _ _ _ _ h2) (fun p e R s0 m args below meth cc A H locs cells slots Q lsC hC hR hL hP hD hS kk => lv_lrem hC.1 hC.2.1 hd hy (kk lsC H locs hL hP hD hS))
  · cases h

theorem am_q_lshl (ih : ∀ pc ls st s, am_ex n d y pc ls st s = some (v, s') → am_Go l dC dI aC ad y d v s' pc ls st s) (ok : am_ok y pc (.lshl, np, a, b, c, j, k, q) = true) (h : am_F (am_ex n d y) (am_ex n d y) (am_cn n d) (am_go (.lshl, np, a, b, c, j, k, q) ls st s) = some (v, s')) : am_Go l dC dI aC ad y d v s' pc ls st s := by
  obtain ⟨hd, hnp, hr⟩ := am_ok_d ok
  have hd : decode (am_bc y) pc = .ok (.lshl, 1) := hd
  obtain rfl : np = pc + 1 := hnp
  change am_F (am_ex n d y) (am_ex n d y) (am_cn n d) (am_li (fun x y => x <<< (y.toInt64 &&& 63)) (pc + 1) ls st s) = some (v, s') at h
  unfold am_li at h
  split at h
  · rename_i y1 x1 st1
    have h2 : am_ex n d y (pc + 1) ls (.long (x1 <<< (y1.toInt64 &&& 63)) :: st1) s = some (v, s') := h
    exact am_stepX rfl (ih _ _ _ _ h2) (fun p e R s0 m args below meth cc A H locs cells slots Q lsC hC hR hL hP hD hS kk => lv_lshl hC.1 hC.2.1 hd rfl (kk lsC H locs hL hP hD hS))
  · cases h

theorem am_q_lshr (ih : ∀ pc ls st s, am_ex n d y pc ls st s = some (v, s') → am_Go l dC dI aC ad y d v s' pc ls st s) (ok : am_ok y pc (.lshr, np, a, b, c, j, k, q) = true) (h : am_F (am_ex n d y) (am_ex n d y) (am_cn n d) (am_go (.lshr, np, a, b, c, j, k, q) ls st s) = some (v, s')) : am_Go l dC dI aC ad y d v s' pc ls st s := by
  obtain ⟨hd, hnp, hr⟩ := am_ok_d ok
  have hd : decode (am_bc y) pc = .ok (.lshr, 1) := hd
  obtain rfl : np = pc + 1 := hnp
  change am_F (am_ex n d y) (am_ex n d y) (am_cn n d) (am_li (fun x y => x >>> (y.toInt64 &&& 63)) (pc + 1) ls st s) = some (v, s') at h
  unfold am_li at h
  split at h
  · rename_i y1 x1 st1
    have h2 : am_ex n d y (pc + 1) ls (.long (x1 >>> (y1.toInt64 &&& 63)) :: st1) s = some (v, s') := h
    exact am_stepX rfl (ih _ _ _ _ h2) (fun p e R s0 m args below meth cc A H locs cells slots Q lsC hC hR hL hP hD hS kk => lv_lshr hC.1 hC.2.1 hd rfl (kk lsC H locs hL hP hD hS))
  · cases h

theorem am_q_lushr (ih : ∀ pc ls st s, am_ex n d y pc ls st s = some (v, s') → am_Go l dC dI aC ad y d v s' pc ls st s) (ok : am_ok y pc (.lushr, np, a, b, c, j, k, q) = true) (h : am_F (am_ex n d y) (am_ex n d y) (am_cn n d) (am_go (.lushr, np, a, b, c, j, k, q) ls st s) = some (v, s')) : am_Go l dC dI aC ad y d v s' pc ls st s := by
  obtain ⟨hd, hnp, hr⟩ := am_ok_d ok
  have hd : decode (am_bc y) pc = .ok (.lushr, 1) := hd
  obtain rfl : np = pc + 1 := hnp
  change am_F (am_ex n d y) (am_ex n d y) (am_cn n d) (am_li (fun x y => (x.toUInt64 >>> (y.toInt64.toUInt64 &&& Int64.toUInt64 63)).toInt64) (pc + 1) ls st s) = some (v, s') at h
  unfold am_li at h
  split at h
  · rename_i y1 x1 st1
    have h2 : am_ex n d y (pc + 1) ls (.long ((x1.toUInt64 >>> (y1.toInt64.toUInt64 &&& Int64.toUInt64 63)).toInt64) :: st1) s = some (v, s') := h
    exact am_stepX rfl (ih _ _ _ _ h2) (fun p e R s0 m args below meth cc A H locs cells slots Q lsC hC hR hL hP hD hS kk => lv_lushr hC.1 hC.2.1 hd rfl (kk lsC H locs hL hP hD hS))
  · cases h

theorem am_q_lcmp (ih : ∀ pc ls st s, am_ex n d y pc ls st s = some (v, s') → am_Go l dC dI aC ad y d v s' pc ls st s) (ok : am_ok y pc (.lcmp, np, a, b, c, j, k, q) = true) (h : am_F (am_ex n d y) (am_ex n d y) (am_cn n d) (am_go (.lcmp, np, a, b, c, j, k, q) ls st s) = some (v, s')) : am_Go l dC dI aC ad y d v s' pc ls st s := by
  obtain ⟨hd, hnp, hr⟩ := am_ok_d ok
  have hd : decode (am_bc y) pc = .ok (.lcmp, 1) := hd
  obtain rfl : np = pc + 1 := hnp
  unfold am_go at h
  dsimp only at h
  split at h
  · rename_i y1 x1 st1
    have h2 : am_ex n d y (pc + 1) ls (.int (lg_cmp x1 y1) :: st1) s = some (v, s') := h
    exact am_stepX rfl (ih _ _ _ _ h2) (fun p e R s0 m args below meth cc A H locs cells slots Q lsC hC hR hL hP hD hS kk => W.lcmp hC.1 hC.2.1 hd (kk lsC H locs hL hP hD hS))
  · cases h

theorem am_q_i2l (ih : ∀ pc ls st s, am_ex n d y pc ls st s = some (v, s') → am_Go l dC dI aC ad y d v s' pc ls st s) (ok : am_ok y pc (.i2l, np, a, b, c, j, k, q) = true) (h : am_F (am_ex n d y) (am_ex n d y) (am_cn n d) (am_go (.i2l, np, a, b, c, j, k, q) ls st s) = some (v, s')) : am_Go l dC dI aC ad y d v s' pc ls st s := by
  obtain ⟨hd, hnp, hr⟩ := am_ok_d ok
  have hd : decode (am_bc y) pc = .ok (.i2l, 1) := hd
  obtain rfl : np = pc + 1 := hnp
  unfold am_go at h
  dsimp only at h
  split at h
  · rename_i x1 st1
    have h2 : am_ex n d y (pc + 1) ls (.long x1.toInt64 :: st1) s = some (v, s') := h
    exact am_stepX rfl (ih _ _ _ _ h2) (fun p e R s0 m args below meth cc A H locs cells slots Q lsC hC hR hL hP hD hS kk => lv_i2l hC.1 hC.2.1 hd rfl (kk lsC H locs hL hP hD hS))
  · cases h

theorem am_q_l2i (ih : ∀ pc ls st s, am_ex n d y pc ls st s = some (v, s') → am_Go l dC dI aC ad y d v s' pc ls st s) (ok : am_ok y pc (.l2i, np, a, b, c, j, k, q) = true) (h : am_F (am_ex n d y) (am_ex n d y) (am_cn n d) (am_go (.l2i, np, a, b, c, j, k, q) ls st s) = some (v, s')) : am_Go l dC dI aC ad y d v s' pc ls st s := by
  obtain ⟨hd, hnp, hr⟩ := am_ok_d ok
  have hd : decode (am_bc y) pc = .ok (.l2i, 1) := hd
  obtain rfl : np = pc + 1 := hnp
  unfold am_go at h
  dsimp only at h
  split at h
  · rename_i x1 st1
    have h2 : am_ex n d y (pc + 1) ls (.int x1.toInt32 :: st1) s = some (v, s') := h
    exact am_stepX rfl (ih _ _ _ _ h2) (fun p e R s0 m args below meth cc A H locs cells slots Q lsC hC hR hL hP hD hS kk => lv_l2i hC.1 hC.2.1 hd rfl (kk lsC H locs hL hP hD hS))
  · cases h

theorem am_q_i2b (ih : ∀ pc ls st s, am_ex n d y pc ls st s = some (v, s') → am_Go l dC dI aC ad y d v s' pc ls st s) (ok : am_ok y pc (.i2b, np, a, b, c, j, k, q) = true) (h : am_F (am_ex n d y) (am_ex n d y) (am_cn n d) (am_go (.i2b, np, a, b, c, j, k, q) ls st s) = some (v, s')) : am_Go l dC dI aC ad y d v s' pc ls st s := by
  obtain ⟨hd, hnp, hr⟩ := am_ok_d ok
  have hd : decode (am_bc y) pc = .ok (.i2b, 1) := hd
  obtain rfl : np = pc + 1 := hnp
  unfold am_go am_i1 at h
  dsimp only at h
  split at h
  · rename_i x1 st1
    have h2 : am_ex n d y (pc + 1) ls (.int x1.toInt8.toInt32 :: st1) s = some (v, s') := h
    exact am_stepX rfl (ih _ _ _ _ h2) (fun p e R s0 m args below meth cc A H locs cells slots Q lsC hC hR hL hP hD hS kk => lv_i2b hC.1 hC.2.1 hd rfl (kk lsC H locs hL hP hD hS))
  · cases h

theorem am_q_i2s (ih : ∀ pc ls st s, am_ex n d y pc ls st s = some (v, s') → am_Go l dC dI aC ad y d v s' pc ls st s) (ok : am_ok y pc (.i2s, np, a, b, c, j, k, q) = true) (h : am_F (am_ex n d y) (am_ex n d y) (am_cn n d) (am_go (.i2s, np, a, b, c, j, k, q) ls st s) = some (v, s')) : am_Go l dC dI aC ad y d v s' pc ls st s := by
  obtain ⟨hd, hnp, hr⟩ := am_ok_d ok
  have hd : decode (am_bc y) pc = .ok (.i2s, 1) := hd
  obtain rfl : np = pc + 1 := hnp
  unfold am_go am_i1 at h
  dsimp only at h
  split at h
  · rename_i x1 st1
    have h2 : am_ex n d y (pc + 1) ls (.int x1.toInt16.toInt32 :: st1) s = some (v, s') := h
    exact am_stepX rfl (ih _ _ _ _ h2) (fun p e R s0 m args below meth cc A H locs cells slots Q lsC hC hR hL hP hD hS kk => lv_i2s hC.1 hC.2.1 hd rfl (kk lsC H locs hL hP hD hS))
  · cases h

theorem am_q_i2c (ih : ∀ pc ls st s, am_ex n d y pc ls st s = some (v, s') → am_Go l dC dI aC ad y d v s' pc ls st s) (ok : am_ok y pc (.i2c, np, a, b, c, j, k, q) = true) (h : am_F (am_ex n d y) (am_ex n d y) (am_cn n d) (am_go (.i2c, np, a, b, c, j, k, q) ls st s) = some (v, s')) : am_Go l dC dI aC ad y d v s' pc ls st s := by
  obtain ⟨hd, hnp, hr⟩ := am_ok_d ok
  have hd : decode (am_bc y) pc = .ok (.i2c, 1) := hd
  obtain rfl : np = pc + 1 := hnp
  unfold am_go am_i1 at h
  dsimp only at h
  split at h
  · rename_i x1 st1
    have h2 : am_ex n d y (pc + 1) ls (.int (x1.toUInt32 % 65536).toInt32 :: st1) s = some (v, s') := h
    exact am_stepX rfl (ih _ _ _ _ h2) (fun p e R s0 m args below meth cc A H locs cells slots Q lsC hC hR hL hP hD hS kk => lv_i2c hC.1 hC.2.1 hd rfl (kk lsC H locs hL hP hD hS))
  · cases h

theorem am_q_iconst {w : Int} (ih : ∀ pc ls st s, am_ex n d y pc ls st s = some (v, s') → am_Go l dC dI aC ad y d v s' pc ls st s) (ok : am_ok y pc (.iconst w, np, a, b, c, j, k, q) = true) (h : am_F (am_ex n d y) (am_ex n d y) (am_cn n d) (am_go (.iconst w, np, a, b, c, j, k, q) ls st s) = some (v, s')) : am_Go l dC dI aC ad y d v s' pc ls st s := by
  obtain ⟨hd, hnp, hr⟩ := am_ok_d ok
  have hd : decode (am_bc y) pc = .ok (.iconst w, 1) := hd
  obtain rfl : np = pc + 1 := hnp
  have h2 : am_ex n d y (pc + 1) ls (.int k :: st) s = some (v, s') := h
  exact am_stepX rfl (ih _ _ _ _ h2) (fun p e R s0 m args below meth cc A H locs cells slots Q lsC hC hR hL hP hD hS kk => lv_iconst hC.1 hC.2.1 hd (of_decide_eq_true hr) (kk lsC H locs hL hP hD hS))

theorem am_q_bipush {w : Int} (ih : ∀ pc ls st s, am_ex n d y pc ls st s = some (v, s') → am_Go l dC dI aC ad y d v s' pc ls st s) (ok : am_ok y pc (.bipush w, np, a, b, c, j, k, q) = true) (h : am_F (am_ex n d y) (am_ex n d y) (am_cn n d) (am_go (.bipush w, np, a, b, c, j, k, q) ls st s) = some (v, s')) : am_Go l dC dI aC ad y d v s' pc ls st s := by
  obtain ⟨hd, hnp, hr⟩ := am_ok_d ok
  have hd : decode (am_bc y) pc = .ok (.bipush w, 2) := hd
  obtain rfl : np = pc + 2 := hnp
  have h2 : am_ex n d y (pc + 2) ls (.int k :: st) s = some (v, s') := h
  exact am_stepX rfl (ih _ _ _ _ h2) (fun p e R s0 m args below meth cc A H locs cells slots Q lsC hC hR hL hP hD hS kk => lv_bipush hC.1 hC.2.1 hd (of_decide_eq_true hr) (kk lsC H locs hL hP hD hS))

theorem am_q_sipush {w : Int} (ih : ∀ pc ls st s, am_ex n d y pc ls st s = some (v, s') → am_Go l dC dI aC ad y d v s' pc ls st s) (ok : am_ok y pc (.sipush w, np, a, b, c, j, k, q) = true) (h : am_F (am_ex n d y) (am_ex n d y) (am_cn n d) (am_go (.sipush w, np, a, b, c, j, k, q) ls st s) = some (v, s')) : am_Go l dC dI aC ad y d v s' pc ls st s := by
  obtain ⟨hd, hnp, hr⟩ := am_ok_d ok
  have hd : decode (am_bc y) pc = .ok (.sipush w, 3) := hd
  obtain rfl : np = pc + 3 := hnp
  have h2 : am_ex n d y (pc + 3) ls (.int k :: st) s = some (v, s') := h
  exact am_stepX rfl (ih _ _ _ _ h2) (fun p e R s0 m args below meth cc A H locs cells slots Q lsC hC hR hL hP hD hS kk => lv_sipush hC.1 hC.2.1 hd (of_decide_eq_true hr) (kk lsC H locs hL hP hD hS))

theorem am_q_lconst {w : Fin 2} (ih : ∀ pc ls st s, am_ex n d y pc ls st s = some (v, s') → am_Go l dC dI aC ad y d v s' pc ls st s) (ok : am_ok y pc (.lconst w, np, a, b, c, j, k, q) = true) (h : am_F (am_ex n d y) (am_ex n d y) (am_cn n d) (am_go (.lconst w, np, a, b, c, j, k, q) ls st s) = some (v, s')) : am_Go l dC dI aC ad y d v s' pc ls st s := by
  obtain ⟨hd, hnp, hr⟩ := am_ok_d ok
  have hd : decode (am_bc y) pc = .ok (.lconst w, 1) := hd
  obtain rfl : np = pc + 1 := hnp
  have h2 : am_ex n d y (pc + 1) ls (.long q :: st) s = some (v, s') := h
  exact am_stepX rfl (ih _ _ _ _ h2) (fun p e R s0 m args below meth cc A H locs cells slots Q lsC hC hR hL hP hD hS kk => lv_lconst hC.1 hC.2.1 hd (of_decide_eq_true hr) (kk lsC H locs hL hP hD hS))

theorem am_q_aconst_null (ih : ∀ pc ls st s, am_ex n d y pc ls st s = some (v, s') → am_Go l dC dI aC ad y d v s' pc ls st s) (ok : am_ok y pc (.aconst_null, np, a, b, c, j, k, q) = true) (h : am_F (am_ex n d y) (am_ex n d y) (am_cn n d) (am_go (.aconst_null, np, a, b, c, j, k, q) ls st s) = some (v, s')) : am_Go l dC dI aC ad y d v s' pc ls st s := by
  obtain ⟨hd, hnp, hr⟩ := am_ok_d ok
  have hd : decode (am_bc y) pc = .ok (.aconst_null, 1) := hd
  obtain rfl : np = pc + 1 := hnp
  have h2 : am_ex n d y (pc + 1) ls (.null :: st) s = some (v, s') := h
  exact am_stepX rfl (ih _ _ _ _ h2) (fun p e R s0 m args below meth cc A H locs cells slots Q lsC hC hR hL hP hD hS kk => lv_null hC.1 hC.2.1 hd (kk lsC H locs hL hP hD hS))

theorem am_q_ldc_w {w : Nat} (ih : ∀ pc ls st s, am_ex n d y pc ls st s = some (v, s') → am_Go l dC dI aC ad y d v s' pc ls st s) (ok : am_ok y pc (.ldc_w w, np, a, b, c, j, k, q) = true) (h : am_F (am_ex n d y) (am_ex n d y) (am_cn n d) (am_go (.ldc_w w, np, a, b, c, j, k, q) ls st s) = some (v, s')) : am_Go l dC dI aC ad y d v s' pc ls st s := by
  obtain ⟨hd, hnp, hr⟩ := am_ok_d ok
  have hd : decode (am_bc y) pc = .ok (.ldc_w w, 3) := hd
  obtain rfl : np = pc + 3 := hnp
  have h2 : am_ex n d y (pc + 3) ls (.int k :: st) s = some (v, s') := h
  exact am_stepX rfl (ih _ _ _ _ h2) (fun p e R s0 m args below meth cc A H locs cells slots Q lsC hC hR hL hP hD hS kk => lv_ldcw hC.1 hC.2.1 hC.2.2.2.2.1 (am_hts hC (am_gw_in (am_w1_mem hr) rfl)) hd (kk lsC H locs hL hP hD hS))

theorem am_q_ldc2_w {w : Nat} (ih : ∀ pc ls st s, am_ex n d y pc ls st s = some (v, s') → am_Go l dC dI aC ad y d v s' pc ls st s) (ok : am_ok y pc (.ldc2_w w, np, a, b, c, j, k, q) = true) (h : am_F (am_ex n d y) (am_ex n d y) (am_cn n d) (am_go (.ldc2_w w, np, a, b, c, j, k, q) ls st s) = some (v, s')) : am_Go l dC dI aC ad y d v s' pc ls st s := by
  obtain ⟨hd, hnp, hr⟩ := am_ok_d ok
  have hd : decode (am_bc y) pc = .ok (.ldc2_w w, 3) := hd
  obtain rfl : np = pc + 3 := hnp
  have h2 : am_ex n d y (pc + 3) ls (.long q :: st) s = some (v, s') := h
  exact am_stepX rfl (ih _ _ _ _ h2) (fun p e R s0 m args below meth cc A H locs cells slots Q lsC hC hR hL hP hD hS kk => lv_ldc2 hC.1 hC.2.1 hC.2.2.2.2.1 (am_hts hC (am_gw_in (am_w1_mem hr) rfl)) hd (kk lsC H locs hL hP hD hS))

theorem am_q_ldc {w : Nat} (ih : ∀ pc ls st s, am_ex n d y pc ls st s = some (v, s') → am_Go l dC dI aC ad y d v s' pc ls st s) (ok : am_ok y pc (.ldc w, np, a, b, c, j, k, q) = true) (h : am_F (am_ex n d y) (am_ex n d y) (am_cn n d) (am_go (.ldc w, np, a, b, c, j, k, q) ls st s) = some (v, s')) : am_Go l dC dI aC ad y d v s' pc ls st s := by
  obtain ⟨hd, hnp, hr⟩ := am_ok_d ok
  have hd : decode (am_bc y) pc = .ok (.ldc w, 2) := hd
  obtain rfl : np = pc + 2 := hnp
  cases hc : Nat.beq c 0 with
  | true =>
    have h2 : am_ex n d y (pc + 2) ls (.int k :: st) s = some (v, s') := by
      have h : am_F (am_ex n d y) (am_ex n d y) (am_cn n d) (cond (Nat.beq c 0) (am_nx (pc + 2) ls (.int k :: st) s) (am_nx (pc + 2) ls (.ref a :: st) s)) = some (v, s') := h
      rw [hc] at h
      exact h
    have hr : cond (Nat.beq c 0) (am_w1 j (.constant (am_nm y).cls w k)) _ = true := hr
    rw [hc] at hr
    exact am_stepX rfl (ih _ _ _ _ h2) (fun p e R s0 m args below meth cc A H locs cells slots Q lsC hC hR hL hP hD hS kk => lv_ldc hC.1 hC.2.1 hC.2.2.2.2.1 (am_hts hC (am_gw_in (am_w1_mem hr) rfl)) hd (kk lsC H locs hL hP hD hS))
  | false =>
    have h2 : am_ex n d y (pc + 2) ls (.ref a :: st) s = some (v, s') := by
      have h : am_F (am_ex n d y) (am_ex n d y) (am_cn n d) (cond (Nat.beq c 0) (am_nx (pc + 2) ls (.int k :: st) s) (am_nx (pc + 2) ls (.ref a :: st) s)) = some (v, s') := h
      rw [hc] at h
      exact h
    have hr : cond (Nat.beq c 0) (am_w1 j (.constant (am_nm y).cls w k)) (Nat.ble 1000000 a && (Nat.blt a 1000004 && decide ((am_nm y).cls = am_so (a - 1000000)) && Nat.beq w (am_si (a - 1000000)))) = true := hr
    rw [hc] at hr
    have hr : (Nat.ble 1000000 a && (Nat.blt a 1000004 && decide ((am_nm y).cls = am_so (a - 1000000)) && Nat.beq w (am_si (a - 1000000)))) = true := hr
    rw [Bool.and_eq_true, Bool.and_eq_true, Bool.and_eq_true] at hr
    obtain ⟨g1, ⟨g2, g3⟩, g4⟩ := hr
    have g1 := Nat.le_of_ble_eq_true g1
    have g2 := Nat.le_of_ble_eq_true g2
    have g3 := of_decide_eq_true g3
    have g4 := Nat.eq_of_beq_eq_true g4
    refine am_stepX rfl (ih _ _ _ _ h2) (fun p e R s0 m args below meth cc A H locs cells slots Q lsC hC hR hL hP hD hS kk => ?_)
    have hz := hC.2.2.2.2.2.2.2.2.2.2.1.1.1 (a - 1000000) (by omega)
    rw [← g3, ← g4, show 1000000 + (a - 1000000) = a by omega] at hz
    exact va_ldcS hC.1 hC.2.1 hC.2.2.2.2.1 hz hd (kk lsC H locs hL hP hD hS)

theorem am_q_iload {w : Nat} (ih : ∀ pc ls st s, am_ex n d y pc ls st s = some (v, s') → am_Go l dC dI aC ad y d v s' pc ls st s) (ok : am_ok y pc (.iload w, np, a, b, c, j, k, q) = true) (h : am_F (am_ex n d y) (am_ex n d y) (am_cn n d) (am_go (.iload w, np, a, b, c, j, k, q) ls st s) = some (v, s')) : am_Go l dC dI aC ad y d v s' pc ls st s := by
  obtain ⟨hd, hnp, hr⟩ := am_ok_d ok
  have hd : decode (am_bc y) pc = .ok (.iload w, 2) := hd
  obtain rfl : np = pc + 2 := hnp
  have ha : a = w := Nat.eq_of_beq_eq_true hr
  change am_F (am_ex n d y) (am_ex n d y) (am_cn n d) (am_load 0 a (pc + 2) ls st s) = some (v, s') at h
  cases hv : am_ld ls a with
  | none =>
    unfold am_load at h
    rw [hv] at h
    cases h
  | some w1 =>
    unfold am_load at h
    rw [hv] at h
    cases w1 with
    | int x1 =>
      have h2 : am_ex n d y (pc + 2) ls (.int x1 :: st) s = some (v, s') := h
      exact am_stepX rfl (ih _ _ _ _ h2) (fun p e R s0 m args below meth cc A H locs cells slots Q lsC hC hR hL hP hD hS kk => lv_iload hC.1 hC.2.1 hd (by have h9 := am_LR.at hL hv; rw [ha] at h9; exact h9) (kk lsC H locs hL hP hD hS))
    | _ => cases h

theorem am_q_iload_n {w : Fin 4} (ih : ∀ pc ls st s, am_ex n d y pc ls st s = some (v, s') → am_Go l dC dI aC ad y d v s' pc ls st s) (ok : am_ok y pc (.iload_n w, np, a, b, c, j, k, q) = true) (h : am_F (am_ex n d y) (am_ex n d y) (am_cn n d) (am_go (.iload_n w, np, a, b, c, j, k, q) ls st s) = some (v, s')) : am_Go l dC dI aC ad y d v s' pc ls st s := by
  obtain ⟨hd, hnp, hr⟩ := am_ok_d ok
  have hd : decode (am_bc y) pc = .ok (.iload_n w, 1) := hd
  obtain rfl : np = pc + 1 := hnp
  have ha : a = w.val := Nat.eq_of_beq_eq_true hr
  change am_F (am_ex n d y) (am_ex n d y) (am_cn n d) (am_load 0 a (pc + 1) ls st s) = some (v, s') at h
  cases hv : am_ld ls a with
  | none =>
    unfold am_load at h
    rw [hv] at h
    cases h
  | some w1 =>
    unfold am_load at h
    rw [hv] at h
    cases w1 with
    | int x1 =>
      have h2 : am_ex n d y (pc + 1) ls (.int x1 :: st) s = some (v, s') := h
      exact am_stepX rfl (ih _ _ _ _ h2) (fun p e R s0 m args below meth cc A H locs cells slots Q lsC hC hR hL hP hD hS kk => lv_iload_n hC.1 hC.2.1 hd ha.symm (am_LR.at hL hv) (kk lsC H locs hL hP hD hS))
    | _ => cases h

theorem am_q_lload {w : Nat} (ih : ∀ pc ls st s, am_ex n d y pc ls st s = some (v, s') → am_Go l dC dI aC ad y d v s' pc ls st s) (ok : am_ok y pc (.lload w, np, a, b, c, j, k, q) = true) (h : am_F (am_ex n d y) (am_ex n d y) (am_cn n d) (am_go (.lload w, np, a, b, c, j, k, q) ls st s) = some (v, s')) : am_Go l dC dI aC ad y d v s' pc ls st s := by
  obtain ⟨hd, hnp, hr⟩ := am_ok_d ok
  have hd : decode (am_bc y) pc = .ok (.lload w, 2) := hd
  obtain rfl : np = pc + 2 := hnp
  have ha : a = w := Nat.eq_of_beq_eq_true hr
  change am_F (am_ex n d y) (am_ex n d y) (am_cn n d) (am_load 1 a (pc + 2) ls st s) = some (v, s') at h
  cases hv : am_ld ls a with
  | none =>
    unfold am_load at h
    rw [hv] at h
    cases h
  | some w1 =>
    unfold am_load at h
    rw [hv] at h
    cases w1 with
    | long x1 =>
      have h2 : am_ex n d y (pc + 2) ls (.long x1 :: st) s = some (v, s') := h
      exact am_stepX rfl (ih _ _ _ _ h2) (fun p e R s0 m args below meth cc A H locs cells slots Q lsC hC hR hL hP hD hS kk => lv_lload hC.1 hC.2.1 hd (by have h9 := am_LR.at hL hv; rw [ha] at h9; exact h9) (kk lsC H locs hL hP hD hS))
    | _ => cases h

theorem am_q_lload_n {w : Fin 4} (ih : ∀ pc ls st s, am_ex n d y pc ls st s = some (v, s') → am_Go l dC dI aC ad y d v s' pc ls st s) (ok : am_ok y pc (.lload_n w, np, a, b, c, j, k, q) = true) (h : am_F (am_ex n d y) (am_ex n d y) (am_cn n d) (am_go (.lload_n w, np, a, b, c, j, k, q) ls st s) = some (v, s')) : am_Go l dC dI aC ad y d v s' pc ls st s := by
  obtain ⟨hd, hnp, hr⟩ := am_ok_d ok
  have hd : decode (am_bc y) pc = .ok (.lload_n w, 1) := hd
  obtain rfl : np = pc + 1 := hnp
  have ha : a = w.val := Nat.eq_of_beq_eq_true hr
  change am_F (am_ex n d y) (am_ex n d y) (am_cn n d) (am_load 1 a (pc + 1) ls st s) = some (v, s') at h
  cases hv : am_ld ls a with
  | none =>
    unfold am_load at h
    rw [hv] at h
    cases h
  | some w1 =>
    unfold am_load at h
    rw [hv] at h
    cases w1 with
    | long x1 =>
      have h2 : am_ex n d y (pc + 1) ls (.long x1 :: st) s = some (v, s') := h
      exact am_stepX rfl (ih _ _ _ _ h2) (fun p e R s0 m args below meth cc A H locs cells slots Q lsC hC hR hL hP hD hS kk => lv_lload_n hC.1 hC.2.1 hd ha.symm (am_LR.at hL hv) (kk lsC H locs hL hP hD hS))
    | _ => cases h

theorem am_q_aload {w : Nat} (ih : ∀ pc ls st s, am_ex n d y pc ls st s = some (v, s') → am_Go l dC dI aC ad y d v s' pc ls st s) (ok : am_ok y pc (.aload w, np, a, b, c, j, k, q) = true) (h : am_F (am_ex n d y) (am_ex n d y) (am_cn n d) (am_go (.aload w, np, a, b, c, j, k, q) ls st s) = some (v, s')) : am_Go l dC dI aC ad y d v s' pc ls st s := by
  obtain ⟨hd, hnp, hr⟩ := am_ok_d ok
  have hd : decode (am_bc y) pc = .ok (.aload w, 2) := hd
  obtain rfl : np = pc + 2 := hnp
  have ha : a = w := Nat.eq_of_beq_eq_true hr
  change am_F (am_ex n d y) (am_ex n d y) (am_cn n d) (am_load 2 a (pc + 2) ls st s) = some (v, s') at h
  cases hv : am_ld ls a with
  | none =>
    unfold am_load at h
    rw [hv] at h
    cases h
  | some w1 =>
    unfold am_load at h
    rw [hv] at h
    cases w1 with
    | ref x1 =>
      have h2 : am_ex n d y (pc + 2) ls (.ref x1 :: st) s = some (v, s') := h
      exact am_stepX rfl (ih _ _ _ _ h2) (fun p e R s0 m args below meth cc A H locs cells slots Q lsC hC hR hL hP hD hS kk => lv_aload hC.1 hC.2.1 hd (by have h9 := am_LR.at hL hv; rw [ha] at h9; exact h9) (kk lsC H locs hL hP hD hS))
    | null =>
      have h2 : am_ex n d y (pc + 2) ls (.null :: st) s = some (v, s') := h
      exact am_stepX rfl (ih _ _ _ _ h2) (fun p e R s0 m args below meth cc A H locs cells slots Q lsC hC hR hL hP hD hS kk => lv_aloadN hC.1 hC.2.1 hd (by have h9 := am_LR.at hL hv; rw [ha] at h9; exact h9) (kk lsC H locs hL hP hD hS))
    | _ => cases h

theorem am_q_aload_n {w : Fin 4} (ih : ∀ pc ls st s, am_ex n d y pc ls st s = some (v, s') → am_Go l dC dI aC ad y d v s' pc ls st s) (ok : am_ok y pc (.aload_n w, np, a, b, c, j, k, q) = true) (h : am_F (am_ex n d y) (am_ex n d y) (am_cn n d) (am_go (.aload_n w, np, a, b, c, j, k, q) ls st s) = some (v, s')) : am_Go l dC dI aC ad y d v s' pc ls st s := by
  obtain ⟨hd, hnp, hr⟩ := am_ok_d ok
  have hd : decode (am_bc y) pc = .ok (.aload_n w, 1) := hd
  obtain rfl : np = pc + 1 := hnp
  have ha : a = w.val := Nat.eq_of_beq_eq_true hr
  change am_F (am_ex n d y) (am_ex n d y) (am_cn n d) (am_load 2 a (pc + 1) ls st s) = some (v, s') at h
  cases hv : am_ld ls a with
  | none =>
    unfold am_load at h
    rw [hv] at h
    cases h
  | some w1 =>
    unfold am_load at h
    rw [hv] at h
    cases w1 with
    | ref x1 =>
      have h2 : am_ex n d y (pc + 1) ls (.ref x1 :: st) s = some (v, s') := h
      exact am_stepX rfl (ih _ _ _ _ h2) (fun p e R s0 m args below meth cc A H locs cells slots Q lsC hC hR hL hP hD hS kk => lv_aload_n hC.1 hC.2.1 hd ha.symm (am_LR.at hL hv) (kk lsC H locs hL hP hD hS))
    | null =>
      have h2 : am_ex n d y (pc + 1) ls (.null :: st) s = some (v, s') := h
      exact am_stepX rfl (ih _ _ _ _ h2) (fun p e R s0 m args below meth cc A H locs cells slots Q lsC hC hR hL hP hD hS kk => lv_aload_nN hC.1 hC.2.1 hd ha.symm (am_LR.at hL hv) (kk lsC H locs hL hP hD hS))
    | _ => cases h

theorem am_q_istore {w : Nat} (ih : ∀ pc ls st s, am_ex n d y pc ls st s = some (v, s') → am_Go l dC dI aC ad y d v s' pc ls st s) (ok : am_ok y pc (.istore w, np, a, b, c, j, k, q) = true) (h : am_F (am_ex n d y) (am_ex n d y) (am_cn n d) (am_go (.istore w, np, a, b, c, j, k, q) ls st s) = some (v, s')) : am_Go l dC dI aC ad y d v s' pc ls st s := by
  obtain ⟨hd, hnp, hr⟩ := am_ok_d ok
  have hd : decode (am_bc y) pc = .ok (.istore w, 2) := hd
  obtain rfl : np = pc + 2 := hnp
  have ha : a = w := Nat.eq_of_beq_eq_true hr
  change am_F (am_ex n d y) (am_ex n d y) (am_cn n d) (am_store 0 a (pc + 2) ls st s) = some (v, s') at h
  cases st with
  | nil => cases h
  | cons w1 st1 =>
    cases w1 with
    | int x1 =>
      have h : cond (Nat.blt (a) ls.length) (am_ex n d y (pc + 2) (am_s1 ls a (.int x1)) st1 s) none = some (v, s') := h
      cases hb : Nat.blt (a) ls.length with
      | false => rw [hb] at h; cases h
      | true =>
        rw [hb] at h
        have hb := Nat.le_of_ble_eq_true hb
        have h2 : am_ex n d y (pc + 2) (am_s1 ls a (.int x1)) st1 s = some (v, s') := h
        exact am_stepX rfl (ih _ _ _ _ h2) (fun p e R s0 m args below meth cc A H locs cells slots Q lsC hC hR hL hP hD hS kk => lv_istore hC.1 hC.2.1 (by rw [ha]; exact hd) (am_LR.has hL) (by have h9 := hL.2.2.1; omega) rfl (fun ls3 h3 => kk ls3 H locs (am_LR.st1 (v := (.int x1)) hL h3) hP hD hS))
    | _ => cases h

theorem am_q_istore_n {w : Fin 4} (ih : ∀ pc ls st s, am_ex n d y pc ls st s = some (v, s') → am_Go l dC dI aC ad y d v s' pc ls st s) (ok : am_ok y pc (.istore_n w, np, a, b, c, j, k, q) = true) (h : am_F (am_ex n d y) (am_ex n d y) (am_cn n d) (am_go (.istore_n w, np, a, b, c, j, k, q) ls st s) = some (v, s')) : am_Go l dC dI aC ad y d v s' pc ls st s := by
  obtain ⟨hd, hnp, hr⟩ := am_ok_d ok
  have hd : decode (am_bc y) pc = .ok (.istore_n w, 1) := hd
  obtain rfl : np = pc + 1 := hnp
  have ha : a = w.val := Nat.eq_of_beq_eq_true hr
  change am_F (am_ex n d y) (am_ex n d y) (am_cn n d) (am_store 0 a (pc + 1) ls st s) = some (v, s') at h
  cases st with
  | nil => cases h
  | cons w1 st1 =>
    cases w1 with
    | int x1 =>
      have h : cond (Nat.blt (a) ls.length) (am_ex n d y (pc + 1) (am_s1 ls a (.int x1)) st1 s) none = some (v, s') := h
      cases hb : Nat.blt (a) ls.length with
      | false => rw [hb] at h; cases h
      | true =>
        rw [hb] at h
        have hb := Nat.le_of_ble_eq_true hb
        have h2 : am_ex n d y (pc + 1) (am_s1 ls a (.int x1)) st1 s = some (v, s') := h
        exact am_stepX rfl (ih _ _ _ _ h2) (fun p e R s0 m args below meth cc A H locs cells slots Q lsC hC hR hL hP hD hS kk => lv_istore_n hC.1 hC.2.1 hd ha.symm (am_LR.has hL) (by have h9 := hL.2.2.1; omega) rfl (fun ls3 h3 => kk ls3 H locs (am_LR.st1 (v := (.int x1)) hL h3) hP hD hS))
    | _ => cases h

theorem am_q_astore {w : Nat} (ih : ∀ pc ls st s, am_ex n d y pc ls st s = some (v, s') → am_Go l dC dI aC ad y d v s' pc ls st s) (ok : am_ok y pc (.astore w, np, a, b, c, j, k, q) = true) (h : am_F (am_ex n d y) (am_ex n d y) (am_cn n d) (am_go (.astore w, np, a, b, c, j, k, q) ls st s) = some (v, s')) : am_Go l dC dI aC ad y d v s' pc ls st s := by
  obtain ⟨hd, hnp, hr⟩ := am_ok_d ok
  have hd : decode (am_bc y) pc = .ok (.astore w, 2) := hd
  obtain rfl : np = pc + 2 := hnp
  have ha : a = w := Nat.eq_of_beq_eq_true hr
  change am_F (am_ex n d y) (am_ex n d y) (am_cn n d) (am_store 2 a (pc + 2) ls st s) = some (v, s') at h
  cases st with
  | nil => cases h
  | cons w1 st1 =>
    cases w1 with
    | ref x1 =>
      have h : cond (Nat.blt (a) ls.length) (am_ex n d y (pc + 2) (am_s1 ls a (.ref x1)) st1 s) none = some (v, s') := h
      cases hb : Nat.blt (a) ls.length with
      | false => rw [hb] at h; cases h
      | true =>
        rw [hb] at h
        have hb := Nat.le_of_ble_eq_true hb
        have h2 : am_ex n d y (pc + 2) (am_s1 ls a (.ref x1)) st1 s = some (v, s') := h
        exact am_stepX rfl (ih _ _ _ _ h2) (fun p e R s0 m args below meth cc A H locs cells slots Q lsC hC hR hL hP hD hS kk => lv_astore hC.1 hC.2.1 (by rw [ha]; exact hd) (am_LR.has hL) (by have h9 := hL.2.2.1; omega) rfl (fun ls3 h3 => kk ls3 H locs (am_LR.st1 (v := (.ref x1)) hL h3) hP hD hS))
    | null =>
      have h : cond (Nat.blt (a) ls.length) (am_ex n d y (pc + 2) (am_s1 ls a .null) st1 s) none = some (v, s') := h
      cases hb : Nat.blt (a) ls.length with
      | false => rw [hb] at h; cases h
      | true =>
        rw [hb] at h
        have hb := Nat.le_of_ble_eq_true hb
        have h2 : am_ex n d y (pc + 2) (am_s1 ls a .null) st1 s = some (v, s') := h
        exact am_stepX rfl (ih _ _ _ _ h2) (fun p e R s0 m args below meth cc A H locs cells slots Q lsC hC hR hL hP hD hS kk => lv_astoreN hC.1 hC.2.1 (by rw [ha]; exact hd) (am_LR.has hL) (by have h9 := hL.2.2.1; omega) rfl (fun ls3 h3 => kk ls3 H locs (am_LR.st1 (v := .null) hL h3) hP hD hS))
    | _ => cases h

theorem am_q_astore_n {w : Fin 4} (ih : ∀ pc ls st s, am_ex n d y pc ls st s = some (v, s') → am_Go l dC dI aC ad y d v s' pc ls st s) (ok : am_ok y pc (.astore_n w, np, a, b, c, j, k, q) = true) (h : am_F (am_ex n d y) (am_ex n d y) (am_cn n d) (am_go (.astore_n w, np, a, b, c, j, k, q) ls st s) = some (v, s')) : am_Go l dC dI aC ad y d v s' pc ls st s := by
  obtain ⟨hd, hnp, hr⟩ := am_ok_d ok
  have hd : decode (am_bc y) pc = .ok (.astore_n w, 1) := hd
  obtain rfl : np = pc + 1 := hnp
  have ha : a = w.val := Nat.eq_of_beq_eq_true hr
  change am_F (am_ex n d y) (am_ex n d y) (am_cn n d) (am_store 2 a (pc + 1) ls st s) = some (v, s') at h
  cases st with
  | nil => cases h
  | cons w1 st1 =>
    cases w1 with
    | ref x1 =>
      have h : cond (Nat.blt (a) ls.length) (am_ex n d y (pc + 1) (am_s1 ls a (.ref x1)) st1 s) none = some (v, s') := h
      cases hb : Nat.blt (a) ls.length with
      | false => rw [hb] at h; cases h
      | true =>
        rw [hb] at h
        have hb := Nat.le_of_ble_eq_true hb
        have h2 : am_ex n d y (pc + 1) (am_s1 ls a (.ref x1)) st1 s = some (v, s') := h
        exact am_stepX rfl (ih _ _ _ _ h2) (fun p e R s0 m args below meth cc A H locs cells slots Q lsC hC hR hL hP hD hS kk => lv_astore_n hC.1 hC.2.1 hd ha.symm (am_LR.has hL) (by have h9 := hL.2.2.1; omega) rfl (fun ls3 h3 => kk ls3 H locs (am_LR.st1 (v := (.ref x1)) hL h3) hP hD hS))
    | null =>
      have h : cond (Nat.blt (a) ls.length) (am_ex n d y (pc + 1) (am_s1 ls a .null) st1 s) none = some (v, s') := h
      cases hb : Nat.blt (a) ls.length with
      | false => rw [hb] at h; cases h
      | true =>
        rw [hb] at h
        have hb := Nat.le_of_ble_eq_true hb
        have h2 : am_ex n d y (pc + 1) (am_s1 ls a .null) st1 s = some (v, s') := h
        exact am_stepX rfl (ih _ _ _ _ h2) (fun p e R s0 m args below meth cc A H locs cells slots Q lsC hC hR hL hP hD hS kk => lv_astore_nN hC.1 hC.2.1 hd ha.symm (am_LR.has hL) (by have h9 := hL.2.2.1; omega) rfl (fun ls3 h3 => kk ls3 H locs (am_LR.st1 (v := .null) hL h3) hP hD hS))
    | _ => cases h

theorem am_q_lstore {w : Nat} (ih : ∀ pc ls st s, am_ex n d y pc ls st s = some (v, s') → am_Go l dC dI aC ad y d v s' pc ls st s) (ok : am_ok y pc (.lstore w, np, a, b, c, j, k, q) = true) (h : am_F (am_ex n d y) (am_ex n d y) (am_cn n d) (am_go (.lstore w, np, a, b, c, j, k, q) ls st s) = some (v, s')) : am_Go l dC dI aC ad y d v s' pc ls st s := by
  obtain ⟨hd, hnp, hr⟩ := am_ok_d ok
  have hd : decode (am_bc y) pc = .ok (.lstore w, 2) := hd
  obtain rfl : np = pc + 2 := hnp
  have ha : a = w := Nat.eq_of_beq_eq_true hr
  change am_F (am_ex n d y) (am_ex n d y) (am_cn n d) (am_store 1 a (pc + 2) ls st s) = some (v, s') at h
  cases st with
  | nil => cases h
  | cons w1 st1 =>
    cases w1 with
    | long x1 =>
      have h : cond (Nat.blt (a + 1) ls.length) (am_ex n d y (pc + 2) (am_s2 ls a (.long x1)) st1 s) none = some (v, s') := h
      cases hb : Nat.blt (a + 1) ls.length with
      | false => rw [hb] at h; cases h
      | true =>
        rw [hb] at h
        have hb := Nat.le_of_ble_eq_true hb
        have h2 : am_ex n d y (pc + 2) (am_s2 ls a (.long x1)) st1 s = some (v, s') := h
        exact am_stepX rfl (ih _ _ _ _ h2) (fun p e R s0 m args below meth cc A H locs cells slots Q lsC hC hR hL hP hD hS kk => lv_lstore hC.1 hC.2.1 (by rw [ha]; exact hd) (am_LR.has hL) (by have h9 := hL.2.2.1; omega) rfl (fun ls3 h3 => kk ls3 H locs (am_LR.st2 (v := (.long x1)) hL h3) hP hD hS))
    | _ => cases h

theorem am_q_lstore_n {w : Fin 4} (ih : ∀ pc ls st s, am_ex n d y pc ls st s = some (v, s') → am_Go l dC dI aC ad y d v s' pc ls st s) (ok : am_ok y pc (.lstore_n w, np, a, b, c, j, k, q) = true) (h : am_F (am_ex n d y) (am_ex n d y) (am_cn n d) (am_go (.lstore_n w, np, a, b, c, j, k, q) ls st s) = some (v, s')) : am_Go l dC dI aC ad y d v s' pc ls st s := by
  obtain ⟨hd, hnp, hr⟩ := am_ok_d ok
  have hd : decode (am_bc y) pc = .ok (.lstore_n w, 1) := hd
  obtain rfl : np = pc + 1 := hnp
  have ha : a = w.val := Nat.eq_of_beq_eq_true hr
  change am_F (am_ex n d y) (am_ex n d y) (am_cn n d) (am_store 1 a (pc + 1) ls st s) = some (v, s') at h
  cases st with
  | nil => cases h
  | cons w1 st1 =>
    cases w1 with
    | long x1 =>
      have h : cond (Nat.blt (a + 1) ls.length) (am_ex n d y (pc + 1) (am_s2 ls a (.long x1)) st1 s) none = some (v, s') := h
      cases hb : Nat.blt (a + 1) ls.length with
      | false => rw [hb] at h; cases h
      | true =>
        rw [hb] at h
        have hb := Nat.le_of_ble_eq_true hb
        have h2 : am_ex n d y (pc + 1) (am_s2 ls a (.long x1)) st1 s = some (v, s') := h
        exact am_stepX rfl (ih _ _ _ _ h2) (fun p e R s0 m args below meth cc A H locs cells slots Q lsC hC hR hL hP hD hS kk => lv_lstore_n hC.1 hC.2.1 hd ha.symm (am_LR.has hL) (by have h9 := hL.2.2.1; omega) rfl (fun ls3 h3 => kk ls3 H locs (am_LR.st2 (v := (.long x1)) hL h3) hP hD hS))
    | _ => cases h

theorem am_q_iinc {w : Nat} {u : Int} (ih : ∀ pc ls st s, am_ex n d y pc ls st s = some (v, s') → am_Go l dC dI aC ad y d v s' pc ls st s) (ok : am_ok y pc (.iinc w u, np, a, b, c, j, k, q) = true) (h : am_F (am_ex n d y) (am_ex n d y) (am_cn n d) (am_go (.iinc w u, np, a, b, c, j, k, q) ls st s) = some (v, s')) : am_Go l dC dI aC ad y d v s' pc ls st s := by
  obtain ⟨hd, hnp, hr⟩ := am_ok_d ok
  have hd : decode (am_bc y) pc = .ok (.iinc w u, 3) := hd
  obtain rfl : np = pc + 3 := hnp
  have hr : (Nat.beq a w && decide (Int32.ofInt u = k)) = true := hr
  rw [Bool.and_eq_true] at hr
  have ha : a = w := Nat.eq_of_beq_eq_true hr.1
  have hk := of_decide_eq_true hr.2
  change am_F (am_ex n d y) (am_ex n d y) (am_cn n d) (am_iinc a k (pc + 3) ls st s) = some (v, s') at h
  unfold am_iinc at h
  split at h
  · rename_i x1 hv
    have h : cond (Nat.blt a ls.length) (am_ex n d y (pc + 3) (am_s1 ls a (.int (x1 + k))) st s) none = some (v, s') := h
    cases hb : Nat.blt a ls.length with
    | false => rw [hb] at h; cases h
    | true =>
      rw [hb] at h
      have hb := Nat.le_of_ble_eq_true hb
      have h2 : am_ex n d y (pc + 3) (am_s1 ls a (.int (x1 + k))) st s = some (v, s') := h
      refine am_stepX rfl (ih _ _ _ _ h2) (fun p e R s0 m args below meth cc A H locs cells slots Q lsC hC hR hL hP hD hS kk => ?_)
      have hm : (a, Value.int x1) ∈ am_al ad ls := by
        unfold am_ld at hv
        split at hv
        · rename_i w9 hw9
          cases hv
          exact am_al_mem.mpr ⟨_, hw9, rfl⟩
        · cases hv
      obtain ⟨i9, hi9⟩ := List.getElem?_of_mem hm
      exact lv_iinc hC.1 hC.2.1 (by rw [ha]; exact hd) (am_LR.has hL) hi9 (by rw [hk]) (by have h9 := hL.2.2.1; omega) rfl (fun ls3 h3 => kk ls3 H locs (am_LR.st1 (v := .int (x1 + k)) hL h3) hP hD hS)
  · cases h

theorem am_q_dup (ih : ∀ pc ls st s, am_ex n d y pc ls st s = some (v, s') → am_Go l dC dI aC ad y d v s' pc ls st s) (ok : am_ok y pc (.dup, np, a, b, c, j, k, q) = true) (h : am_F (am_ex n d y) (am_ex n d y) (am_cn n d) (am_go (.dup, np, a, b, c, j, k, q) ls st s) = some (v, s')) : am_Go l dC dI aC ad y d v s' pc ls st s := by
  obtain ⟨hd, hnp, hr⟩ := am_ok_d ok
  have hd : decode (am_bc y) pc = .ok (.dup, 1) := hd
  obtain rfl : np = pc + 1 := hnp
  change am_F (am_ex n d y) (am_ex n d y) (am_cn n d) (am_dup (pc + 1) ls st s) = some (v, s') at h
  unfold am_dup at h
  split at h
  · rename_i x1 st1
    have h2 : am_ex n d y (pc + 1) ls (.int x1 :: .int x1 :: st1) s = some (v, s') := h
    exact am_stepX rfl (ih _ _ _ _ h2) (fun p e R s0 m args below meth cc A H locs cells slots Q lsC hC hR hL hP hD hS kk => lv_dup (va := .int x1) hC.1 hC.2.1 hd rfl (kk lsC H locs hL hP hD hS))
  · rename_i x1 st1
    have h2 : am_ex n d y (pc + 1) ls (.ref x1 :: .ref x1 :: st1) s = some (v, s') := h
    exact am_stepX rfl (ih _ _ _ _ h2) (fun p e R s0 m args below meth cc A H locs cells slots Q lsC hC hR hL hP hD hS kk => lv_dup (va := .ref (ad x1)) hC.1 hC.2.1 hd rfl (kk lsC H locs hL hP hD hS))
  · cases h

theorem am_q_dup2 (ih : ∀ pc ls st s, am_ex n d y pc ls st s = some (v, s') → am_Go l dC dI aC ad y d v s' pc ls st s) (ok : am_ok y pc (.dup2, np, a, b, c, j, k, q) = true) (h : am_F (am_ex n d y) (am_ex n d y) (am_cn n d) (am_go (.dup2, np, a, b, c, j, k, q) ls st s) = some (v, s')) : am_Go l dC dI aC ad y d v s' pc ls st s := by
  obtain ⟨hd, hnp, hr⟩ := am_ok_d ok
  have hd : decode (am_bc y) pc = .ok (.dup2, 1) := hd
  obtain rfl : np = pc + 1 := hnp
  change am_F (am_ex n d y) (am_ex n d y) (am_cn n d) (am_dup2 (pc + 1) ls st s) = some (v, s') at h
  unfold am_dup2 at h
  split at h
  · rename_i x1 r1 st1
    have h2 : am_ex n d y (pc + 1) ls (.int x1 :: .ref r1 :: .int x1 :: .ref r1 :: st1) s = some (v, s') := h
    exact am_stepX rfl (ih _ _ _ _ h2) (fun p e R s0 m args below meth cc A H locs cells slots Q lsC hC hR hL hP hD hS kk => lv_dup2_11 (va := .int x1) (vb := .ref (ad r1)) hC.1 hC.2.1 hd rfl rfl (kk lsC H locs hL hP hD hS))
  · cases h

theorem am_q_pop (ih : ∀ pc ls st s, am_ex n d y pc ls st s = some (v, s') → am_Go l dC dI aC ad y d v s' pc ls st s) (ok : am_ok y pc (.pop, np, a, b, c, j, k, q) = true) (h : am_F (am_ex n d y) (am_ex n d y) (am_cn n d) (am_go (.pop, np, a, b, c, j, k, q) ls st s) = some (v, s')) : am_Go l dC dI aC ad y d v s' pc ls st s := by
  obtain ⟨hd, hnp, hr⟩ := am_ok_d ok
  have hd : decode (am_bc y) pc = .ok (.pop, 1) := hd
  obtain rfl : np = pc + 1 := hnp
  change am_F (am_ex n d y) (am_ex n d y) (am_cn n d) (am_pop (pc + 1) ls st s) = some (v, s') at h
  unfold am_pop at h
  split at h
  · rename_i x1 st1
    have h2 : am_ex n d y (pc + 1) ls st1 s = some (v, s') := h
    exact am_stepX rfl (ih _ _ _ _ h2) (fun p e R s0 m args below meth cc A H locs cells slots Q lsC hC hR hL hP hD hS kk => lv_pop (va := .int x1) hC.1 hC.2.1 hd rfl (kk lsC H locs hL hP hD hS))
  · rename_i x1 st1
    have h2 : am_ex n d y (pc + 1) ls st1 s = some (v, s') := h
    exact am_stepX rfl (ih _ _ _ _ h2) (fun p e R s0 m args below meth cc A H locs cells slots Q lsC hC hR hL hP hD hS kk => lv_pop (va := .ref (ad x1)) hC.1 hC.2.1 hd rfl (kk lsC H locs hL hP hD hS))
  · cases h

theorem am_q_goto {w : Int} (ih : ∀ pc ls st s, am_ex n d y pc ls st s = some (v, s') → am_Go l dC dI aC ad y d v s' pc ls st s) (ok : am_ok y pc (.goto w, np, a, b, c, j, k, q) = true) (h : am_F (am_ex n d y) (am_ex n d y) (am_cn n d) (am_go (.goto w, np, a, b, c, j, k, q) ls st s) = some (v, s')) : am_Go l dC dI aC ad y d v s' pc ls st s := by
  obtain ⟨hd, hnp, hr⟩ := am_ok_d ok
  have hd : decode (am_bc y) pc = .ok (.goto w, 3) := hd
  obtain rfl : np = pc + 3 := hnp
  have h2 : am_ex n d y (a) ls st s = some (v, s') := h
  exact am_stepX rfl (ih _ _ _ _ h2) (fun p e R s0 m args below meth cc A H locs cells slots Q lsC hC hR hL hP hD hS kk => lv_goto hC.1 hC.2.1 hd (of_decide_eq_true hr) (kk lsC H locs hL hP hD hS))

theorem am_q_icmp_eq {w : Int} (ih : ∀ pc ls st s, am_ex n d y pc ls st s = some (v, s') → am_Go l dC dI aC ad y d v s' pc ls st s) (ok : am_ok y pc (.if_icmp .eq w, np, a, b, c, j, k, q) = true) (h : am_F (am_ex n d y) (am_ex n d y) (am_cn n d) (am_go (.if_icmp .eq w, np, a, b, c, j, k, q) ls st s) = some (v, s')) : am_Go l dC dI aC ad y d v s' pc ls st s := by
  obtain ⟨hd, hnp, hr⟩ := am_ok_d ok
  have hd : decode (am_bc y) pc = .ok (.if_icmp .eq w, 3) := hd
  obtain rfl : np = pc + 3 := hnp
  change am_F (am_ex n d y) (am_ex n d y) (am_cn n d) (am_ic .eq (pc + 3) a ls st s) = some (v, s') at h
  unfold am_ic at h
  split at h
  · rename_i y1 x1 st1
    have h : cond (decide (x1 = y1)) (am_ex n d y a ls st1 s) (am_ex n d y (pc + 3) ls st1 s) = some (v, s') := h
    exact am_stepB (b := decide (x1 = y1)) (st2 := st1) (fun hq => ih _ _ _ _ (by rw [hq] at h; exact h)) (fun hq => ih _ _ _ _ (by rw [hq] at h; exact h)) (fun p e R s0 m args below meth cc A H locs cells slots Q lsC hC hD k1 k2 => lv_icmp_eq hC.1 hC.2.1 hd (of_decide_eq_true hr) (fun q9 => k1 (decide_eq_true q9)) (fun q9 => k2 (decide_eq_false q9)))
  · cases h

theorem am_q_if_eq {w : Int} (ih : ∀ pc ls st s, am_ex n d y pc ls st s = some (v, s') → am_Go l dC dI aC ad y d v s' pc ls st s) (ok : am_ok y pc (.ifCond .eq w, np, a, b, c, j, k, q) = true) (h : am_F (am_ex n d y) (am_ex n d y) (am_cn n d) (am_go (.ifCond .eq w, np, a, b, c, j, k, q) ls st s) = some (v, s')) : am_Go l dC dI aC ad y d v s' pc ls st s := by
  obtain ⟨hd, hnp, hr⟩ := am_ok_d ok
  have hd : decode (am_bc y) pc = .ok (.ifCond .eq w, 3) := hd
  obtain rfl : np = pc + 3 := hnp
  change am_F (am_ex n d y) (am_ex n d y) (am_cn n d) (am_iz .eq (pc + 3) a ls st s) = some (v, s') at h
  unfold am_iz at h
  split at h
  · rename_i x1 st1
    have h : cond (decide (x1 = 0)) (am_ex n d y a ls st1 s) (am_ex n d y (pc + 3) ls st1 s) = some (v, s') := h
    exact am_stepB (b := decide (x1 = 0)) (st2 := st1) (fun hq => ih _ _ _ _ (by rw [hq] at h; exact h)) (fun hq => ih _ _ _ _ (by rw [hq] at h; exact h)) (fun p e R s0 m args below meth cc A H locs cells slots Q lsC hC hD k1 k2 => lv_if_eq hC.1 hC.2.1 hd (of_decide_eq_true hr) (fun q9 => k1 (decide_eq_true q9)) (fun q9 => k2 (decide_eq_false q9)))
  · cases h

theorem am_q_icmp_ne {w : Int} (ih : ∀ pc ls st s, am_ex n d y pc ls st s = some (v, s') → am_Go l dC dI aC ad y d v s' pc ls st s) (ok : am_ok y pc (.if_icmp .ne w, np, a, b, c, j, k, q) = true) (h : am_F (am_ex n d y) (am_ex n d y) (am_cn n d) (am_go (.if_icmp .ne w, np, a, b, c, j, k, q) ls st s) = some (v, s')) : am_Go l dC dI aC ad y d v s' pc ls st s := by
  obtain ⟨hd, hnp, hr⟩ := am_ok_d ok
  have hd : decode (am_bc y) pc = .ok (.if_icmp .ne w, 3) := hd
  obtain rfl : np = pc + 3 := hnp
  change am_F (am_ex n d y) (am_ex n d y) (am_cn n d) (am_ic .ne (pc + 3) a ls st s) = some (v, s') at h
  unfold am_ic at h
  split at h
  · rename_i y1 x1 st1
    have h : cond (decide (¬ x1 = y1)) (am_ex n d y a ls st1 s) (am_ex n d y (pc + 3) ls st1 s) = some (v, s') := h
    exact am_stepB (b := decide (¬ x1 = y1)) (st2 := st1) (fun hq => ih _ _ _ _ (by rw [hq] at h; exact h)) (fun hq => ih _ _ _ _ (by rw [hq] at h; exact h)) (fun p e R s0 m args below meth cc A H locs cells slots Q lsC hC hD k1 k2 => lv_icmp_ne hC.1 hC.2.1 hd (of_decide_eq_true hr) (fun q9 => k1 (decide_eq_true q9)) (fun q9 => k2 (decide_eq_false (fun z => z q9))))
  · cases h

theorem am_q_if_ne {w : Int} (ih : ∀ pc ls st s, am_ex n d y pc ls st s = some (v, s') → am_Go l dC dI aC ad y d v s' pc ls st s) (ok : am_ok y pc (.ifCond .ne w, np, a, b, c, j, k, q) = true) (h : am_F (am_ex n d y) (am_ex n d y) (am_cn n d) (am_go (.ifCond .ne w, np, a, b, c, j, k, q) ls st s) = some (v, s')) : am_Go l dC dI aC ad y d v s' pc ls st s := by
  obtain ⟨hd, hnp, hr⟩ := am_ok_d ok
  have hd : decode (am_bc y) pc = .ok (.ifCond .ne w, 3) := hd
  obtain rfl : np = pc + 3 := hnp
  change am_F (am_ex n d y) (am_ex n d y) (am_cn n d) (am_iz .ne (pc + 3) a ls st s) = some (v, s') at h
  unfold am_iz at h
  split at h
  · rename_i x1 st1
    have h : cond (decide (¬ x1 = 0)) (am_ex n d y a ls st1 s) (am_ex n d y (pc + 3) ls st1 s) = some (v, s') := h
    exact am_stepB (b := decide (¬ x1 = 0)) (st2 := st1) (fun hq => ih _ _ _ _ (by rw [hq] at h; exact h)) (fun hq => ih _ _ _ _ (by rw [hq] at h; exact h)) (fun p e R s0 m args below meth cc A H locs cells slots Q lsC hC hD k1 k2 => lv_if_ne hC.1 hC.2.1 hd (of_decide_eq_true hr) (fun q9 => k1 (decide_eq_true q9)) (fun q9 => k2 (decide_eq_false (fun z => z q9))))
  · cases h

theorem am_q_icmp_lt {w : Int} (ih : ∀ pc ls st s, am_ex n d y pc ls st s = some (v, s') → am_Go l dC dI aC ad y d v s' pc ls st s) (ok : am_ok y pc (.if_icmp .lt w, np, a, b, c, j, k, q) = true) (h : am_F (am_ex n d y) (am_ex n d y) (am_cn n d) (am_go (.if_icmp .lt w, np, a, b, c, j, k, q) ls st s) = some (v, s')) : am_Go l dC dI aC ad y d v s' pc ls st s := by
  obtain ⟨hd, hnp, hr⟩ := am_ok_d ok
  have hd : decode (am_bc y) pc = .ok (.if_icmp .lt w, 3) := hd
  obtain rfl : np = pc + 3 := hnp
  change am_F (am_ex n d y) (am_ex n d y) (am_cn n d) (am_ic .lt (pc + 3) a ls st s) = some (v, s') at h
  unfold am_ic at h
  split at h
  · rename_i y1 x1 st1
    have h : cond (decide (x1 < y1)) (am_ex n d y a ls st1 s) (am_ex n d y (pc + 3) ls st1 s) = some (v, s') := h
    exact am_stepB (b := decide (x1 < y1)) (st2 := st1) (fun hq => ih _ _ _ _ (by rw [hq] at h; exact h)) (fun hq => ih _ _ _ _ (by rw [hq] at h; exact h)) (fun p e R s0 m args below meth cc A H locs cells slots Q lsC hC hD k1 k2 => lv_icmp_lt hC.1 hC.2.1 hd (of_decide_eq_true hr) (fun q9 => k1 (decide_eq_true q9)) (fun q9 => k2 (decide_eq_false q9)))
  · cases h

theorem am_q_if_lt {w : Int} (ih : ∀ pc ls st s, am_ex n d y pc ls st s = some (v, s') → am_Go l dC dI aC ad y d v s' pc ls st s) (ok : am_ok y pc (.ifCond .lt w, np, a, b, c, j, k, q) = true) (h : am_F (am_ex n d y) (am_ex n d y) (am_cn n d) (am_go (.ifCond .lt w, np, a, b, c, j, k, q) ls st s) = some (v, s')) : am_Go l dC dI aC ad y d v s' pc ls st s := by
  obtain ⟨hd, hnp, hr⟩ := am_ok_d ok
  have hd : decode (am_bc y) pc = .ok (.ifCond .lt w, 3) := hd
  obtain rfl : np = pc + 3 := hnp
  change am_F (am_ex n d y) (am_ex n d y) (am_cn n d) (am_iz .lt (pc + 3) a ls st s) = some (v, s') at h
  unfold am_iz at h
  split at h
  · rename_i x1 st1
    have h : cond (decide (x1 < 0)) (am_ex n d y a ls st1 s) (am_ex n d y (pc + 3) ls st1 s) = some (v, s') := h
    exact am_stepB (b := decide (x1 < 0)) (st2 := st1) (fun hq => ih _ _ _ _ (by rw [hq] at h; exact h)) (fun hq => ih _ _ _ _ (by rw [hq] at h; exact h)) (fun p e R s0 m args below meth cc A H locs cells slots Q lsC hC hD k1 k2 => lv_if_lt hC.1 hC.2.1 hd (of_decide_eq_true hr) (fun q9 => k1 (decide_eq_true q9)) (fun q9 => k2 (decide_eq_false q9)))
  · cases h

theorem am_q_icmp_ge {w : Int} (ih : ∀ pc ls st s, am_ex n d y pc ls st s = some (v, s') → am_Go l dC dI aC ad y d v s' pc ls st s) (ok : am_ok y pc (.if_icmp .ge w, np, a, b, c, j, k, q) = true) (h : am_F (am_ex n d y) (am_ex n d y) (am_cn n d) (am_go (.if_icmp .ge w, np, a, b, c, j, k, q) ls st s) = some (v, s')) : am_Go l dC dI aC ad y d v s' pc ls st s := by
  obtain ⟨hd, hnp, hr⟩ := am_ok_d ok
  have hd : decode (am_bc y) pc = .ok (.if_icmp .ge w, 3) := hd
  obtain rfl : np = pc + 3 := hnp
  change am_F (am_ex n d y) (am_ex n d y) (am_cn n d) (am_ic .ge (pc + 3) a ls st s) = some (v, s') at h
  unfold am_ic at h
  split at h
  · rename_i y1 x1 st1
    have h : cond (decide (y1 ≤ x1)) (am_ex n d y a ls st1 s) (am_ex n d y (pc + 3) ls st1 s) = some (v, s') := h
    exact am_stepB (b := decide (y1 ≤ x1)) (st2 := st1) (fun hq => ih _ _ _ _ (by rw [hq] at h; exact h)) (fun hq => ih _ _ _ _ (by rw [hq] at h; exact h)) (fun p e R s0 m args below meth cc A H locs cells slots Q lsC hC hD k1 k2 => lv_icmp_ge hC.1 hC.2.1 hd (of_decide_eq_true hr) (fun q9 => k1 (decide_eq_true q9)) (fun q9 => k2 (decide_eq_false q9)))
  · cases h

theorem am_q_if_ge {w : Int} (ih : ∀ pc ls st s, am_ex n d y pc ls st s = some (v, s') → am_Go l dC dI aC ad y d v s' pc ls st s) (ok : am_ok y pc (.ifCond .ge w, np, a, b, c, j, k, q) = true) (h : am_F (am_ex n d y) (am_ex n d y) (am_cn n d) (am_go (.ifCond .ge w, np, a, b, c, j, k, q) ls st s) = some (v, s')) : am_Go l dC dI aC ad y d v s' pc ls st s := by
  obtain ⟨hd, hnp, hr⟩ := am_ok_d ok
  have hd : decode (am_bc y) pc = .ok (.ifCond .ge w, 3) := hd
  obtain rfl : np = pc + 3 := hnp
  change am_F (am_ex n d y) (am_ex n d y) (am_cn n d) (am_iz .ge (pc + 3) a ls st s) = some (v, s') at h
  unfold am_iz at h
  split at h
  · rename_i x1 st1
    have h : cond (decide (0 ≤ x1)) (am_ex n d y a ls st1 s) (am_ex n d y (pc + 3) ls st1 s) = some (v, s') := h
    exact am_stepB (b := decide (0 ≤ x1)) (st2 := st1) (fun hq => ih _ _ _ _ (by rw [hq] at h; exact h)) (fun hq => ih _ _ _ _ (by rw [hq] at h; exact h)) (fun p e R s0 m args below meth cc A H locs cells slots Q lsC hC hD k1 k2 => lv_if_ge hC.1 hC.2.1 hd (of_decide_eq_true hr) (fun q9 => k1 (decide_eq_true q9)) (fun q9 => k2 (decide_eq_false q9)))
  · cases h

theorem am_q_icmp_gt {w : Int} (ih : ∀ pc ls st s, am_ex n d y pc ls st s = some (v, s') → am_Go l dC dI aC ad y d v s' pc ls st s) (ok : am_ok y pc (.if_icmp .gt w, np, a, b, c, j, k, q) = true) (h : am_F (am_ex n d y) (am_ex n d y) (am_cn n d) (am_go (.if_icmp .gt w, np, a, b, c, j, k, q) ls st s) = some (v, s')) : am_Go l dC dI aC ad y d v s' pc ls st s := by
  obtain ⟨hd, hnp, hr⟩ := am_ok_d ok
  have hd : decode (am_bc y) pc = .ok (.if_icmp .gt w, 3) := hd
  obtain rfl : np = pc + 3 := hnp
  change am_F (am_ex n d y) (am_ex n d y) (am_cn n d) (am_ic .gt (pc + 3) a ls st s) = some (v, s') at h
  unfold am_ic at h
  split at h
  · rename_i y1 x1 st1
    have h : cond (decide (y1 < x1)) (am_ex n d y a ls st1 s) (am_ex n d y (pc + 3) ls st1 s) = some (v, s') := h
    exact am_stepB (b := decide (y1 < x1)) (st2 := st1) (fun hq => ih _ _ _ _ (by rw [hq] at h; exact h)) (fun hq => ih _ _ _ _ (by rw [hq] at h; exact h)) (fun p e R s0 m args below meth cc A H locs cells slots Q lsC hC hD k1 k2 => lv_icmp_gt hC.1 hC.2.1 hd (of_decide_eq_true hr) (fun q9 => k1 (decide_eq_true q9)) (fun q9 => k2 (decide_eq_false q9)))
  · cases h

theorem am_q_if_gt {w : Int} (ih : ∀ pc ls st s, am_ex n d y pc ls st s = some (v, s') → am_Go l dC dI aC ad y d v s' pc ls st s) (ok : am_ok y pc (.ifCond .gt w, np, a, b, c, j, k, q) = true) (h : am_F (am_ex n d y) (am_ex n d y) (am_cn n d) (am_go (.ifCond .gt w, np, a, b, c, j, k, q) ls st s) = some (v, s')) : am_Go l dC dI aC ad y d v s' pc ls st s := by
  obtain ⟨hd, hnp, hr⟩ := am_ok_d ok
  have hd : decode (am_bc y) pc = .ok (.ifCond .gt w, 3) := hd
  obtain rfl : np = pc + 3 := hnp
  change am_F (am_ex n d y) (am_ex n d y) (am_cn n d) (am_iz .gt (pc + 3) a ls st s) = some (v, s') at h
  unfold am_iz at h
  split at h
  · rename_i x1 st1
    have h : cond (decide (0 < x1)) (am_ex n d y a ls st1 s) (am_ex n d y (pc + 3) ls st1 s) = some (v, s') := h
    exact am_stepB (b := decide (0 < x1)) (st2 := st1) (fun hq => ih _ _ _ _ (by rw [hq] at h; exact h)) (fun hq => ih _ _ _ _ (by rw [hq] at h; exact h)) (fun p e R s0 m args below meth cc A H locs cells slots Q lsC hC hD k1 k2 => lv_if_gt hC.1 hC.2.1 hd (of_decide_eq_true hr) (fun q9 => k1 (decide_eq_true q9)) (fun q9 => k2 (decide_eq_false q9)))
  · cases h

theorem am_q_icmp_le {w : Int} (ih : ∀ pc ls st s, am_ex n d y pc ls st s = some (v, s') → am_Go l dC dI aC ad y d v s' pc ls st s) (ok : am_ok y pc (.if_icmp .le w, np, a, b, c, j, k, q) = true) (h : am_F (am_ex n d y) (am_ex n d y) (am_cn n d) (am_go (.if_icmp .le w, np, a, b, c, j, k, q) ls st s) = some (v, s')) : am_Go l dC dI aC ad y d v s' pc ls st s := by
  obtain ⟨hd, hnp, hr⟩ := am_ok_d ok
  have hd : decode (am_bc y) pc = .ok (.if_icmp .le w, 3) := hd
  obtain rfl : np = pc + 3 := hnp
  change am_F (am_ex n d y) (am_ex n d y) (am_cn n d) (am_ic .le (pc + 3) a ls st s) = some (v, s') at h
  unfold am_ic at h
  split at h
  · rename_i y1 x1 st1
    have h : cond (decide (x1 ≤ y1)) (am_ex n d y a ls st1 s) (am_ex n d y (pc + 3) ls st1 s) = some (v, s') := h
    exact am_stepB (b := decide (x1 ≤ y1)) (st2 := st1) (fun hq => ih _ _ _ _ (by rw [hq] at h; exact h)) (fun hq => ih _ _ _ _ (by rw [hq] at h; exact h)) (fun p e R s0 m args below meth cc A H locs cells slots Q lsC hC hD k1 k2 => lv_icmp_le hC.1 hC.2.1 hd (of_decide_eq_true hr) (fun q9 => k1 (decide_eq_true q9)) (fun q9 => k2 (decide_eq_false q9)))
  · cases h

theorem am_q_if_le {w : Int} (ih : ∀ pc ls st s, am_ex n d y pc ls st s = some (v, s') → am_Go l dC dI aC ad y d v s' pc ls st s) (ok : am_ok y pc (.ifCond .le w, np, a, b, c, j, k, q) = true) (h : am_F (am_ex n d y) (am_ex n d y) (am_cn n d) (am_go (.ifCond .le w, np, a, b, c, j, k, q) ls st s) = some (v, s')) : am_Go l dC dI aC ad y d v s' pc ls st s := by
  obtain ⟨hd, hnp, hr⟩ := am_ok_d ok
  have hd : decode (am_bc y) pc = .ok (.ifCond .le w, 3) := hd
  obtain rfl : np = pc + 3 := hnp
  change am_F (am_ex n d y) (am_ex n d y) (am_cn n d) (am_iz .le (pc + 3) a ls st s) = some (v, s') at h
  unfold am_iz at h
  split at h
  · rename_i x1 st1
    have h : cond (decide (x1 ≤ 0)) (am_ex n d y a ls st1 s) (am_ex n d y (pc + 3) ls st1 s) = some (v, s') := h
    exact am_stepB (b := decide (x1 ≤ 0)) (st2 := st1) (fun hq => ih _ _ _ _ (by rw [hq] at h; exact h)) (fun hq => ih _ _ _ _ (by rw [hq] at h; exact h)) (fun p e R s0 m args below meth cc A H locs cells slots Q lsC hC hD k1 k2 => lv_if_le hC.1 hC.2.1 hd (of_decide_eq_true hr) (fun q9 => k1 (decide_eq_true q9)) (fun q9 => k2 (decide_eq_false q9)))
  · cases h

theorem am_q_ifnonnull {w : Int} (ih : ∀ pc ls st s, am_ex n d y pc ls st s = some (v, s') → am_Go l dC dI aC ad y d v s' pc ls st s) (ok : am_ok y pc (.ifnonnull w, np, a, b, c, j, k, q) = true) (h : am_F (am_ex n d y) (am_ex n d y) (am_cn n d) (am_go (.ifnonnull w, np, a, b, c, j, k, q) ls st s) = some (v, s')) : am_Go l dC dI aC ad y d v s' pc ls st s := by
  obtain ⟨hd, hnp, hr⟩ := am_ok_d ok
  have hd : decode (am_bc y) pc = .ok (.ifnonnull w, 3) := hd
  obtain rfl : np = pc + 3 := hnp
  change am_F (am_ex n d y) (am_ex n d y) (am_cn n d) (am_nn (pc + 3) a ls st s) = some (v, s') at h
  unfold am_nn at h
  split at h
  · rename_i x1 st1
    have h2 : am_ex n d y (a) ls st1 s = some (v, s') := h
    exact am_stepX rfl (ih _ _ _ _ h2) (fun p e R s0 m args below meth cc A H locs cells slots Q lsC hC hR hL hP hD hS kk => lv_ifnonnull hC.1 hC.2.1 hd (of_decide_eq_true hr) (kk lsC H locs hL hP hD hS))
  · rename_i st1
    have h2 : am_ex n d y (pc + 3) ls st1 s = some (v, s') := h
    exact am_stepX rfl (ih _ _ _ _ h2) (fun p e R s0 m args below meth cc A H locs cells slots Q lsC hC hR hL hP hD hS kk => lv_ifnonnullN hC.1 hC.2.1 hd (kk lsC H locs hL hP hD hS))
  · cases h

end
