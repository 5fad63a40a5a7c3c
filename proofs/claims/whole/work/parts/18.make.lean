/-! making cells, ends, switches (by program) -/
theorem am_u1_at {α : Type} {f : Nat → Nat → α} {a : Nat} {g : Nat → α} (j : Nat) : am_u1 f a g a j = g j := by unfold am_u1; rw [if_pos rfl]
theorem am_u1_ne {α : Type} {f : Nat → Nat → α} {a b : Nat} {g : Nat → α} (h : b ≠ a) : am_u1 f a g b = f b := by funext j; unfold am_u1; rw [if_neg h]
theorem am_kd_fresh (s : aM) (kd n : Nat) : am_kd (am_fresh s kd n) s.2.2.2.length = kd ∧ am_ln (am_fresh s kd n) s.2.2.2.length = n := by
  unfold am_kd am_ln am_fresh
  dsimp only
  rw [List.getElem?_append_right (Nat.le_refl _), Nat.sub_self]
  exact ⟨rfl, rfl⟩
theorem am_E_fresh {aC : Nat → ClassId} {ad : Nat → Nat} {s : aM} {kd n q : Nat} (h : q < s.2.2.2.length) : am_E aC ad (am_fresh s kd n) q = am_E aC ad s q := by
  have e := am_kd_app (s := s) (s' := am_fresh s kd n) (x := (kd, n)) rfl h
  have h1 : (am_fresh s kd n).1 q = s.1 q := am_u1_ne (by omega)
  have h2 : (am_fresh s kd n).2.1 q = s.2.1 q := am_u1_ne (by omega)
  have h3 : (am_fresh s kd n).2.2.1 q = s.2.2.1 q := am_u1_ne (by omega)
  have e3 : ∀ c, am_fv ad (am_fresh s kd n) c q = am_fv ad s c q := by
    intro c
    funext k
    unfold am_fv
    rw [h1, h2, h3]
  unfold am_E am_Ek
  rw [e.1, e.2, e3, h1, h2, h3]
theorem am_n0 {n : Int32} (h : 0 ≤ n) : ¬ n < 0 := by
  rw [Int32.le_iff_toInt_le] at h
  rw [Int32.lt_iff_toInt_lt]
  omega
theorem am_tc3 : ∀ ci, ci < 13 → ∀ k, k < am_N ci → am_tc ci k < 3 := by decide +kernel
theorem am_dflt {a k : Nat} (ha : a < 13) (hk : k < am_N a) : defaultValue (am_ty a k) = match am_tc a k with
    | 0 => .int 0
    | 1 => .long 0
    | _ => va_rf ((none : Option Nat).map (fun z => z)) := by
  have h := am_tc3 a ha k hk
  rcases (show am_tc a k = 0 ∨ am_tc a k = 1 ∨ am_tc a k = 2 by omega) with q | q | q
  · rw [q, am_ty0 q]; rfl
  · rw [q, am_ty1 q]; rfl
  · rw [q]; rcases am_ty2 q with ⟨t, ht⟩ | ⟨t, ht⟩ <;> rw [ht] <;> rfl
theorem am_ofI {z : Int} (h1 : -2147483648 ≤ z) (h2 : z < 2147483648) : (Int32.ofInt z).toInt = z := Int32.toInt_ofInt_of_le h1 h2
theorem am_sw_tw {f : Nat → Option aR} {x : Int32} {dk : Nat} {r : aR} (g : Int → Nat) : ∀ (offs : List Int) (lo : Int), am_sw f x dk (am_tw lo (offs.map g)) = some r → (∃ (i : Nat) (o : Int), offs[i]? = some o ∧ x = Int32.ofInt (lo + i) ∧ f (g o) = some r) ∨ ((∀ i : Nat, i < offs.length → ¬ x = Int32.ofInt (lo + i)) ∧ f dk = some r)
  | [], lo, h => Or.inr ⟨fun i hi => absurd hi (Nat.not_lt_zero i), h⟩
  | o :: offs, lo, h => by
    have h : cond (decide (x = Int32.ofInt lo)) (f (g o)) (am_sw f x dk (am_tw (lo + 1) (offs.map g))) = some r := h
    by_cases hx : x = Int32.ofInt lo
    · rw [decide_eq_true hx] at h
      exact Or.inl ⟨0, o, rfl, by rw [hx]; simp, h⟩
    · rw [decide_eq_false hx] at h
      rcases am_sw_tw g offs (lo + 1) h with ⟨i, o2, h1, h2, h3⟩ | ⟨h1, h2⟩
      · exact Or.inl ⟨i + 1, o2, h1, by rw [h2]; congr 1; omega, h3⟩
      · refine Or.inr ⟨fun i hi => ?_, h2⟩
        cases i with
        | zero => simpa using hx
        | succ i =>
          have := h1 i (by simpa using hi)
          rw [show lo + ((i + 1 : Nat) : Int) = lo + 1 + i by omega]
          exact this
theorem am_sw_lk {f : Nat → Option aR} {x : Int32} {dk b : Nat} {dd : Int} {r : aR} (hd : (b : Int) + dd = (dk : Int)) : ∀ (ps : List (Int × Int)), ps.all (fun o => decide (0 ≤ (b : Int) + o.2) && (decide (-100000 ≤ o.1) && decide (o.1 ≤ 100000))) = true → am_sw f x dk (ps.map (fun o => (o.1, (Int.ofNat b + o.2).toNat))) = some r → ∃ (off : Int) (t : Nat), Op.lookupswitch.offset ps dd x.toInt = off ∧ (b : Int) + off = (t : Int) ∧ f t = some r
  | [], _, h => ⟨dd, dk, rfl, hd, h⟩
  | p :: ps, ha, h => by
    obtain ⟨k, o⟩ := p
    have h : cond (decide (x = Int32.ofInt k)) (f (Int.ofNat b + o).toNat) (am_sw f x dk (ps.map (fun o => (o.1, (Int.ofNat b + o.2).toNat)))) = some r := h
    rw [List.all_cons, Bool.and_eq_true, Bool.and_eq_true, Bool.and_eq_true] at ha
    obtain ⟨⟨g1, g2, g3⟩, g4⟩ := ha
    have g1 := of_decide_eq_true g1
    have g2 := of_decide_eq_true g2
    have g3 := of_decide_eq_true g3
    dsimp only at g1 g2 g3
    rw [Op.lookupswitch.offset_cons]
    by_cases hx : x = Int32.ofInt k
    · rw [decide_eq_true hx] at h
      have e : k = x.toInt := by rw [hx, am_ofI (by omega) (by omega)]
      rw [if_pos e]
      exact ⟨o, _, rfl, by simp only [Int.ofNat_eq_natCast]; omega, h⟩
    · rw [decide_eq_false hx] at h
      rw [if_neg (by intro e; apply hx; rw [e, Int32.ofInt_toInt])]
      exact am_sw_lk hd ps g4 h
section
variable {l : Launch} {dC : Nat → ClassId} {dI : Nat → Nat → Nat} {aC : Nat → ClassId} {ad : Nat → Nat} {y d n : Nat} {v : Option Value} {s' s : aM} {pc np a b c j : Nat} {k : Int32} {q : Int64} {ls : List Slot} {st : List Value}

theorem am_q_newarray {w : ArrayType} (ih : ∀ pc ls st s, am_ex n d y pc ls st s = some (v, s') → am_Go l dC dI aC ad y d v s' pc ls st s) (ok : am_ok y pc (.newarray w, np, a, b, c, j, k, q) = true) (h : am_F (am_ex n d y) (am_ex n d y) (am_cn n d) (am_go (.newarray w, np, a, b, c, j, k, q) ls st s) = some (v, s')) : am_Go l dC dI aC ad y d v s' pc ls st s := by
  obtain ⟨hd, hnp, hr⟩ := am_ok_d ok
  have hd : decode (am_bc y) pc = .ok (.newarray w, 2) := hd
  obtain rfl : np = pc + 2 := hnp
  change am_F (am_ex n d y) (am_ex n d y) (am_cn n d) (am_newa (pc + 2) a ls st s) = some (v, s') at h
  unfold am_newa at h
  split at h
  case h_2 => cases h
  rename_i n1 st1
  obtain ⟨hg, h2⟩ := am_cnd (X := am_ex n d y (pc + 2) ls (.ref s.2.2.2.length :: st1) (am_fresh s a n1.toNatClampNeg)) h
  rw [Bool.and_eq_true] at hg
  have hn0 := am_n0 (of_decide_eq_true hg.1)
  have hn1 := Nat.le_of_ble_eq_true hg.2
  cases w
  case int =>
    have hr := Bool.and_eq_true_iff.mp (show (Nat.beq a 100 && Nat.ble 100 a) = true from hr)
    have ha : a = 100 := Nat.eq_of_beq_eq_true hr.1
    subst ha
    refine am_stepN (x := (100, n1.toNatClampNeg)) (s2 := am_fresh s 100 n1.toNatClampNeg) rfl (fun q9 hq => am_E_fresh hq) (ih _ _ _ _ h2) (am_ex_gr _ _ _ _ _ _ _ _ _ h2) (fun p e R s0 m args below meth cc A H locs cells slots Q lsC hC hc1 hc2 kk => ?_) ⟨st1, rfl⟩
    have hby : n1.toNatClampNeg * componentBytes (newarray.typeOf .int) ≤ 536870912 := by
      have h8 : componentBytes (newarray.typeOf .int) ≤ 8 := by decide
      have h9 := Nat.mul_le_mul_left n1.toNatClampNeg h8
      omega
    refine va_newaK (atype := .int) hC.1 hC.2.1 (am_hts hC am_ca_int) rfl hd rfl hn0 rfl hby hc1 hc2 rfl (fun H1 cA g1 g2 g3 g4 g5 => ?_)
    have e9 : cA = aC 100 := by
      have h9 := (hC.2.2.2.2.2.2.2.1.2 0 _ rfl).2
      exact Option.some.inj (g5.symm.trans h9)
    subst e9
    refine kk H1 ?_ g2 g3
    have hk9 : am_kd (am_fresh s 100 n1.toNatClampNeg) s.2.2.2.length = 100 := (am_kd_fresh s 100 n1.toNatClampNeg).1
    rw [am_E_int hk9 (by omega) (by omega) (by omega), (am_kd_fresh s 100 n1.toNatClampNeg).2]
    show H1[H.size]? = some (vp_cell _ _)
    rw [g1]
    rw [vp_cell_i]
    congr 2
    funext j9
    show _ = Value.int (am_u1 s.1 s.2.2.2.length (fun _ => 0) s.2.2.2.length j9)
    rw [am_u1_at]
    rfl
  case long =>
    have hr := Bool.and_eq_true_iff.mp (show (Nat.beq a 101 && Nat.ble 100 a) = true from hr)
    have ha : a = 101 := Nat.eq_of_beq_eq_true hr.1
    subst ha
    refine am_stepN (x := (101, n1.toNatClampNeg)) (s2 := am_fresh s 101 n1.toNatClampNeg) rfl (fun q9 hq => am_E_fresh hq) (ih _ _ _ _ h2) (am_ex_gr _ _ _ _ _ _ _ _ _ h2) (fun p e R s0 m args below meth cc A H locs cells slots Q lsC hC hc1 hc2 kk => ?_) ⟨st1, rfl⟩
    have hby : n1.toNatClampNeg * componentBytes (newarray.typeOf .long) ≤ 536870912 := by
      have h8 : componentBytes (newarray.typeOf .long) ≤ 8 := by decide
      have h9 := Nat.mul_le_mul_left n1.toNatClampNeg h8
      omega
    refine va_newaK (atype := .long) hC.1 hC.2.1 (am_hts hC am_ca_long) rfl hd rfl hn0 rfl hby hc1 hc2 rfl (fun H1 cA g1 g2 g3 g4 g5 => ?_)
    have e9 : cA = aC 101 := by
      have h9 := (hC.2.2.2.2.2.2.2.1.2 1 _ rfl).2
      exact Option.some.inj (g5.symm.trans h9)
    subst e9
    refine kk H1 ?_ g2 g3
    have hk9 : am_kd (am_fresh s 101 n1.toNatClampNeg) s.2.2.2.length = 101 := (am_kd_fresh s 101 n1.toNatClampNeg).1
    rw [am_E_long hk9, (am_kd_fresh s 101 n1.toNatClampNeg).2]
    show H1[H.size]? = some (vp_cell _ _)
    rw [g1]
    rw [vp_cell_l]
    congr 2
    funext j9
    show _ = Value.long (am_u1 s.2.1 s.2.2.2.length (fun _ => 0) s.2.2.2.length j9)
    rw [am_u1_at]
    rfl
  case byte =>
    have hr := Bool.and_eq_true_iff.mp (show (Nat.beq a 102 && Nat.ble 100 a) = true from hr)
    have ha : a = 102 := Nat.eq_of_beq_eq_true hr.1
    subst ha
    refine am_stepN (x := (102, n1.toNatClampNeg)) (s2 := am_fresh s 102 n1.toNatClampNeg) rfl (fun q9 hq => am_E_fresh hq) (ih _ _ _ _ h2) (am_ex_gr _ _ _ _ _ _ _ _ _ h2) (fun p e R s0 m args below meth cc A H locs cells slots Q lsC hC hc1 hc2 kk => ?_) ⟨st1, rfl⟩
    have hby : n1.toNatClampNeg * componentBytes (newarray.typeOf .byte) ≤ 536870912 := by
      have h8 : componentBytes (newarray.typeOf .byte) ≤ 8 := by decide
      have h9 := Nat.mul_le_mul_left n1.toNatClampNeg h8
      omega
    refine va_newaK (atype := .byte) hC.1 hC.2.1 (am_hts hC am_ca_byte) rfl hd rfl hn0 rfl hby hc1 hc2 rfl (fun H1 cA g1 g2 g3 g4 g5 => ?_)
    have e9 : cA = aC 102 := by
      have h9 := (hC.2.2.2.2.2.2.2.1.2 2 _ rfl).2
      exact Option.some.inj (g5.symm.trans h9)
    subst e9
    refine kk H1 ?_ g2 g3
    have hk9 : am_kd (am_fresh s 102 n1.toNatClampNeg) s.2.2.2.length = 102 := (am_kd_fresh s 102 n1.toNatClampNeg).1
    rw [am_E_int hk9 (by omega) (by omega) (by omega), (am_kd_fresh s 102 n1.toNatClampNeg).2]
    show H1[H.size]? = some (vp_cell _ _)
    rw [g1]
    rw [vp_cell_i]
    congr 2
    funext j9
    show _ = Value.int (am_u1 s.1 s.2.2.2.length (fun _ => 0) s.2.2.2.length j9)
    rw [am_u1_at]
    rfl
  case boolean =>
    have hr := Bool.and_eq_true_iff.mp (show (Nat.beq a 103 && Nat.ble 100 a) = true from hr)
    have ha : a = 103 := Nat.eq_of_beq_eq_true hr.1
    subst ha
    refine am_stepN (x := (103, n1.toNatClampNeg)) (s2 := am_fresh s 103 n1.toNatClampNeg) rfl (fun q9 hq => am_E_fresh hq) (ih _ _ _ _ h2) (am_ex_gr _ _ _ _ _ _ _ _ _ h2) (fun p e R s0 m args below meth cc A H locs cells slots Q lsC hC hc1 hc2 kk => ?_) ⟨st1, rfl⟩
    have hby : n1.toNatClampNeg * componentBytes (newarray.typeOf .boolean) ≤ 536870912 := by
      have h8 : componentBytes (newarray.typeOf .boolean) ≤ 8 := by decide
      have h9 := Nat.mul_le_mul_left n1.toNatClampNeg h8
      omega
    refine va_newaK (atype := .boolean) hC.1 hC.2.1 (am_hts hC am_ca_boolean) rfl hd rfl hn0 rfl hby hc1 hc2 rfl (fun H1 cA g1 g2 g3 g4 g5 => ?_)
    have e9 : cA = aC 103 := by
      have h9 := (hC.2.2.2.2.2.2.2.1.2 3 _ rfl).2
      exact Option.some.inj (g5.symm.trans h9)
    subst e9
    refine kk H1 ?_ g2 g3
    have hk9 : am_kd (am_fresh s 103 n1.toNatClampNeg) s.2.2.2.length = 103 := (am_kd_fresh s 103 n1.toNatClampNeg).1
    rw [am_E_int hk9 (by omega) (by omega) (by omega), (am_kd_fresh s 103 n1.toNatClampNeg).2]
    show H1[H.size]? = some (vp_cell _ _)
    rw [g1]
    rw [vp_cell_i]
    congr 2
    funext j9
    show _ = Value.int (am_u1 s.1 s.2.2.2.length (fun _ => 0) s.2.2.2.length j9)
    rw [am_u1_at]
    rfl
  all_goals
    have hr := Bool.and_eq_true_iff.mp (show (Nat.beq a 0 && Nat.ble 100 a) = true from hr)
    have ha := Nat.eq_of_beq_eq_true hr.1
    have hb := Nat.le_of_ble_eq_true hr.2
    omega

theorem am_q_anewarray {w : Nat} (ih : ∀ pc ls st s, am_ex n d y pc ls st s = some (v, s') → am_Go l dC dI aC ad y d v s' pc ls st s) (ok : am_ok y pc (.anewarray w, np, a, b, c, j, k, q) = true) (h : am_F (am_ex n d y) (am_ex n d y) (am_cn n d) (am_go (.anewarray w, np, a, b, c, j, k, q) ls st s) = some (v, s')) : am_Go l dC dI aC ad y d v s' pc ls st s := by
  obtain ⟨hd, hnp, hr⟩ := am_ok_d ok
  have hd : decode (am_bc y) pc = .ok (.anewarray w, 3) := hd
  obtain rfl : np = pc + 3 := hnp
  change am_F (am_ex n d y) (am_ex n d y) (am_cn n d) (am_newa (pc + 3) a ls st s) = some (v, s') at h
  unfold am_newa at h
  split at h
  case h_2 => cases h
  rename_i n1 st1
  obtain ⟨hg, h2⟩ := am_cnd (X := am_ex n d y (pc + 3) ls (.ref s.2.2.2.length :: st1) (am_fresh s a n1.toNatClampNeg)) h
  rw [Bool.and_eq_true] at hg
  have hn0 := am_n0 (of_decide_eq_true hg.1)
  have hn1 := Nat.le_of_ble_eq_true hg.2
  rcases Bool.or_eq_true_iff.mp (show ((Nat.beq a 104 && am_w1 j (.classLink (am_nm y).cls w "FordLine$Tray")) || (Nat.beq a 105 && am_w1 j (.classLink (am_nm y).cls w "FordLine$River"))) = true from hr) with hr | hr
  · have hr := Bool.and_eq_true_iff.mp hr
    have ha : a = 104 := Nat.eq_of_beq_eq_true hr.1
    subst ha
    refine am_stepN (x := (104, n1.toNatClampNeg)) (s2 := am_fresh s 104 n1.toNatClampNeg) rfl (fun q9 hq => am_E_fresh hq) (ih _ _ _ _ h2) (am_ex_gr _ _ _ _ _ _ _ _ _ h2) (fun p e R s0 m args below meth cc A H locs cells slots Q lsC hC hc1 hc2 kk => ?_) ⟨st1, rfl⟩
    refine W.anew (C := "FordLine$Tray") hC.1 hC.2.1 hC.2.2.2.2.1 (am_hts hC (am_gw_in (am_w1_mem hr.2) rfl)) (va_AO.use hC.2.2.2.2.2.2.2.2.2.2.2.1) rfl hd rfl hn0 (by omega) hc1 hc2 (fun cA kA comp f1 f2 f3 f4 => ?_)
    have e9 : cA = aC 104 := by
      obtain ⟨kA9, comp9, g1, g2, g3, g4⟩ := (hC.2.2.2.2.2.2.2.1.2 4 _ rfl).2
      exact Option.some.inj (f1.symm.trans g4)
    subst e9
    refine kk _ ?_ (by rw [Array.size_push]) (fun q9 hq => by rw [Array.getElem?_push, if_neg (Nat.ne_of_lt hq)])
    have hk9 : am_kd (am_fresh s 104 n1.toNatClampNeg) s.2.2.2.length = 104 := (am_kd_fresh s 104 n1.toNatClampNeg).1
    have hf9 : (fun k => ((am_fresh s 104 n1.toNatClampNeg).2.2.1 s.2.2.2.length k).map ad) = fun _ => none := by
      funext j9
      show (am_u1 s.2.2.1 s.2.2.2.length (fun _ => none) s.2.2.2.length j9).map ad = none
      rw [am_u1_at]
      rfl
    rw [am_E_ref hk9 (by omega), (am_kd_fresh s 104 n1.toNatClampNeg).2, hf9]
    show (H.push _)[H.size]? = some (vp_cell (aC 104) (n1.toNatClampNeg, .inr (.inr (.inr (.inr (fun _ => none))))))
    rw [vp_cell_q, Array.getElem?_push_size]
    show some _ = some (arrV (aC 104) n1.toNatClampNeg (fun _ => Value.null))
    rw [← arrV_new]
  · have hr := Bool.and_eq_true_iff.mp hr
    have ha : a = 105 := Nat.eq_of_beq_eq_true hr.1
    subst ha
    refine am_stepN (x := (105, n1.toNatClampNeg)) (s2 := am_fresh s 105 n1.toNatClampNeg) rfl (fun q9 hq => am_E_fresh hq) (ih _ _ _ _ h2) (am_ex_gr _ _ _ _ _ _ _ _ _ h2) (fun p e R s0 m args below meth cc A H locs cells slots Q lsC hC hc1 hc2 kk => ?_) ⟨st1, rfl⟩
    refine W.anew (C := "FordLine$River") hC.1 hC.2.1 hC.2.2.2.2.1 (am_hts hC (am_gw_in (am_w1_mem hr.2) rfl)) (va_AO.use hC.2.2.2.2.2.2.2.2.2.2.2.2) rfl hd rfl hn0 (by omega) hc1 hc2 (fun cA kA comp f1 f2 f3 f4 => ?_)
    have e9 : cA = aC 105 := by
      obtain ⟨kA9, comp9, g1, g2, g3, g4⟩ := (hC.2.2.2.2.2.2.2.1.2 5 _ rfl).2
      exact Option.some.inj (f1.symm.trans g4)
    subst e9
    refine kk _ ?_ (by rw [Array.size_push]) (fun q9 hq => by rw [Array.getElem?_push, if_neg (Nat.ne_of_lt hq)])
    have hk9 : am_kd (am_fresh s 105 n1.toNatClampNeg) s.2.2.2.length = 105 := (am_kd_fresh s 105 n1.toNatClampNeg).1
    have hf9 : (fun k => ((am_fresh s 105 n1.toNatClampNeg).2.2.1 s.2.2.2.length k).map ad) = fun _ => none := by
      funext j9
      show (am_u1 s.2.2.1 s.2.2.2.length (fun _ => none) s.2.2.2.length j9).map ad = none
      rw [am_u1_at]
      rfl
    rw [am_E_ref hk9 (by omega), (am_kd_fresh s 105 n1.toNatClampNeg).2, hf9]
    show (H.push _)[H.size]? = some (vp_cell (aC 105) (n1.toNatClampNeg, .inr (.inr (.inr (.inr (fun _ => none))))))
    rw [vp_cell_q, Array.getElem?_push_size]
    show some _ = some (arrV (aC 105) n1.toNatClampNeg (fun _ => Value.null))
    rw [← arrV_new]

theorem am_q_new {w : Nat} (ih : ∀ pc ls st s, am_ex n d y pc ls st s = some (v, s') → am_Go l dC dI aC ad y d v s' pc ls st s) (ok : am_ok y pc (.new w, np, a, b, c, j, k, q) = true) (h : am_F (am_ex n d y) (am_ex n d y) (am_cn n d) (am_go (.new w, np, a, b, c, j, k, q) ls st s) = some (v, s')) : am_Go l dC dI aC ad y d v s' pc ls st s := by
  obtain ⟨hd, hnp, hr⟩ := am_ok_d ok
  have hd : decode (am_bc y) pc = .ok (.new w, 3) := hd
  obtain rfl : np = pc + 3 := hnp
  have h2 : am_ex n d y (pc + 3) ls (.ref s.2.2.2.length :: st) (am_fresh s a b) = some (v, s') := h
  have hr := Bool.and_eq_true_iff.mp (show (Nat.blt a 13 && (Nat.beq b (am_N a) && am_w1 j (.classLink (am_nm y).cls w (am_Rn a)))) = true from hr)
  have ha : a < 13 := Nat.le_of_ble_eq_true hr.1
  have hr2 := Bool.and_eq_true_iff.mp hr.2
  have hb : b = am_N a := Nat.eq_of_beq_eq_true hr2.1
  refine am_stepN (x := (a, b)) (s2 := am_fresh s a b) rfl (fun q9 hq => am_E_fresh hq) (ih _ _ _ _ h2) (am_ex_gr _ _ _ _ _ _ _ _ _ h2) (fun p e R s0 m args below meth cc A H locs cells slots Q lsC hC hc1 hc2 kk => ?_) ⟨st, rfl⟩
  have hKn := hC.2.2.2.2.2.2.2.1.1 a _ (am_cg ha)
  refine W.newcK (C := am_Rn a) (n := b) hC.1 hC.2.1 hC.2.2.2.2.1 (am_hts hC (am_gw_in (am_w1_mem hr2.2) rfl)) (by rw [hb]; exact am_hts hC (am_cnew ha).1) (am_hts hC (am_cnew ha).2) rfl hd hc1 hc2 hKn.2.1 rfl (fun H1 kC hkC e1 z1 o1 => ?_)
  refine kk H1 ?_ z1 o1
  have hk9 : am_kd (am_fresh s a b) s.2.2.2.length = a := (am_kd_fresh s a b).1
  rw [am_E_obj hk9 ha]
  refine ⟨_, am_cg ha, (u_born (am_ty a) hC.2.2.2.2.2.1 (fun w9 h9 => List.mem_cons_of_mem _ (am_cin ha w9 h9)) hKn hkC e1 (am_cty ha)).to ?_⟩
  intro j9 hj9
  show defaultValue (am_ty a j9) = vp_V _ j9
  unfold vp_V
  rw [List.getD_eq_getElem?_getD, am_fs_get hj9, Option.getD_some]
  unfold am_fv am_fresh
  dsimp only
  rw [am_u1_at, am_u1_at, am_u1_at]
  exact am_dflt ha hj9

theorem am_q_ireturn (ih : ∀ pc ls st s, am_ex n d y pc ls st s = some (v, s') → am_Go l dC dI aC ad y d v s' pc ls st s) (ok : am_ok y pc (.ireturn, np, a, b, c, j, k, q) = true) (h : am_F (am_ex n d y) (am_ex n d y) (am_cn n d) (am_go (.ireturn, np, a, b, c, j, k, q) ls st s) = some (v, s')) : am_Go l dC dI aC ad y d v s' pc ls st s := by
  obtain ⟨hd, hnp, hr⟩ := am_ok_d ok
  have hd : decode (am_bc y) pc = .ok (.ireturn, 1) := hd
  obtain rfl : np = pc + 1 := hnp
  unfold am_go at h
  dsimp only at h
  split at h
  · rename_i x1
    obtain ⟨hg, h2⟩ := am_cnd (X := some (some (.int x1), s)) h
    cases h2
    intro p e s0 m args below meth cc A R K0 H locs lsC hC hR hL hB T hT X
    have hsz := am_size hT X hB
    obtain ⟨hA, hN, hP, hD, hS, -, -⟩ := id hB
    rcases Bool.or_eq_true_iff.mp (show ((Nat.beq c 0 && decide (am_re y = some .int)) || (Nat.beq c 1 && decide (am_re y = some .boolean))) = true from hr) with g | g
    · have g := Bool.and_eq_true_iff.mp g
      exact W.iret (v := x1) hC.1 hC.2.1 (hC.2.2.1.trans (of_decide_eq_true g.2)) (fun t ht hW => ⟨rfl, by rw [ht]; exact hP, hD, by rw [ht]; exact hsz, hS.F ht⟩) hS.2.2 hd hC.2.2.2.2.2.2.1 T hT X
    · have g := Bool.and_eq_true_iff.mp g
      rw [g.1] at hg
      have hx : x1 = 0 ∨ x1 = 1 := by
        rcases Bool.or_eq_true_iff.mp (show (decide (x1 = 0) || decide (x1 = 1)) = true from hg) with q9 | q9
        · exact Or.inl (of_decide_eq_true q9)
        · exact Or.inr (of_decide_eq_true q9)
      exact W.zret (v := x1) (ty := .boolean) hC.1 hC.2.1 (hC.2.2.1.trans (of_decide_eq_true g.2)) (by rcases hx with rfl | rfl <;> rfl) (fun t ht hW => ⟨rfl, by rw [ht]; exact hP, hD, by rw [ht]; exact hsz, hS.F ht⟩) hS.2.2 hd hC.2.2.2.2.2.2.1 T hT X
  · cases h

theorem am_q_lreturn (ih : ∀ pc ls st s, am_ex n d y pc ls st s = some (v, s') → am_Go l dC dI aC ad y d v s' pc ls st s) (ok : am_ok y pc (.lreturn, np, a, b, c, j, k, q) = true) (h : am_F (am_ex n d y) (am_ex n d y) (am_cn n d) (am_go (.lreturn, np, a, b, c, j, k, q) ls st s) = some (v, s')) : am_Go l dC dI aC ad y d v s' pc ls st s := by
  obtain ⟨hd, hnp, hr⟩ := am_ok_d ok
  have hd : decode (am_bc y) pc = .ok (.lreturn, 1) := hd
  obtain rfl : np = pc + 1 := hnp
  unfold am_go at h
  dsimp only at h
  split at h
  · rename_i x1
    obtain ⟨hg, h2⟩ := am_cnd (b := true) (X := some (some (.long x1), s)) h
    cases h2
    intro p e s0 m args below meth cc A R K0 H locs lsC hC hR hL hB T hT X
    have hsz := am_size hT X hB
    obtain ⟨hA, hN, hP, hD, hS, -, -⟩ := id hB
    exact W.lret (v := x1) hC.1 hC.2.1 (hC.2.2.1.trans (of_decide_eq_true hr)) (fun t ht hW => ⟨rfl, by rw [ht]; exact hP, hD, by rw [ht]; exact hsz, hS.F ht⟩) hS.2.2 hd hC.2.2.2.2.2.2.1 T hT X
  · cases h

theorem am_q_return_ (ih : ∀ pc ls st s, am_ex n d y pc ls st s = some (v, s') → am_Go l dC dI aC ad y d v s' pc ls st s) (ok : am_ok y pc (.return_, np, a, b, c, j, k, q) = true) (h : am_F (am_ex n d y) (am_ex n d y) (am_cn n d) (am_go (.return_, np, a, b, c, j, k, q) ls st s) = some (v, s')) : am_Go l dC dI aC ad y d v s' pc ls st s := by
  obtain ⟨hd, hnp, hr⟩ := am_ok_d ok
  have hd : decode (am_bc y) pc = .ok (.return_, 1) := hd
  obtain rfl : np = pc + 1 := hnp
  unfold am_go at h
  dsimp only at h
  split at h
  · obtain ⟨hg, h2⟩ := am_cnd (b := true) (X := some (none, s)) h
    cases h2
    intro p e s0 m args below meth cc A R K0 H locs lsC hC hR hL hB T hT X
    have hsz := am_size hT X hB
    obtain ⟨hA, hN, hP, hD, hS, -, -⟩ := id hB
    exact W.vret hC.1 hC.2.1 (hC.2.2.1.trans (of_decide_eq_true hr)) (fun t ht hW => ⟨rfl, by rw [ht]; exact hP, hD, by rw [ht]; exact hsz, hS.F ht⟩) hS.2.2 hd hC.2.2.2.2.2.2.1 T hT X
  · cases h

theorem am_q_areturn (ih : ∀ pc ls st s, am_ex n d y pc ls st s = some (v, s') → am_Go l dC dI aC ad y d v s' pc ls st s) (ok : am_ok y pc (.areturn, np, a, b, c, j, k, q) = true) (h : am_F (am_ex n d y) (am_ex n d y) (am_cn n d) (am_go (.areturn, np, a, b, c, j, k, q) ls st s) = some (v, s')) : am_Go l dC dI aC ad y d v s' pc ls st s := by
  obtain ⟨hd, hnp, hr⟩ := am_ok_d ok
  have hd : decode (am_bc y) pc = .ok (.areturn, 1) := hd
  obtain rfl : np = pc + 1 := hnp
  unfold am_go at h
  dsimp only at h
  split at h
  · rename_i r1
    obtain ⟨hg, h2⟩ := am_cnd (b := true) (X := some (some (.ref r1), s)) h
    cases h2
    intro p e s0 m args below meth cc A R K0 H locs lsC hC hR hL hB T hT X
    have hsz := am_size hT X hB
    obtain ⟨hA, hN, hP, hD, hS, -, -⟩ := id hB
    obtain ⟨rt, hrt, hrt2⟩ : ∃ rt, am_re y = some rt ∧ ((∃ n, rt = .object n) ∨ ∃ t, rt = .array t) := by
      rcases Bool.or_eq_true_iff.mp (show (decide (am_re y = some (.array .int)) || (decide (am_re y = some (.object "FordLine$River")) || decide (am_re y = some (.object "FordLine$Ford")))) = true from hr) with g | g
      · exact ⟨_, of_decide_eq_true g, Or.inr ⟨_, rfl⟩⟩
      · rcases Bool.or_eq_true_iff.mp g with g | g
        · exact ⟨_, of_decide_eq_true g, Or.inl ⟨_, rfl⟩⟩
        · exact ⟨_, of_decide_eq_true g, Or.inl ⟨_, rfl⟩⟩
    exact W.aret (v := .ref (ad r1)) hC.1 hC.2.1 (hC.2.2.1.trans hrt) hrt2 (Or.inr ⟨_, rfl⟩) (fun t ht hW => ⟨rfl, by rw [ht]; exact hP, hD, by rw [ht]; exact hsz, hS.F ht⟩) hS.2.2 hd hC.2.2.2.2.2.2.1 T hT X
  · obtain ⟨hg, h2⟩ := am_cnd (b := true) (X := some (some .null, s)) h
    cases h2
    intro p e s0 m args below meth cc A R K0 H locs lsC hC hR hL hB T hT X
    have hsz := am_size hT X hB
    obtain ⟨hA, hN, hP, hD, hS, -, -⟩ := id hB
    obtain ⟨rt, hrt, hrt2⟩ : ∃ rt, am_re y = some rt ∧ ((∃ n, rt = .object n) ∨ ∃ t, rt = .array t) := by
      rcases Bool.or_eq_true_iff.mp (show (decide (am_re y = some (.array .int)) || (decide (am_re y = some (.object "FordLine$River")) || decide (am_re y = some (.object "FordLine$Ford")))) = true from hr) with g | g
      · exact ⟨_, of_decide_eq_true g, Or.inr ⟨_, rfl⟩⟩
      · rcases Bool.or_eq_true_iff.mp g with g | g
        · exact ⟨_, of_decide_eq_true g, Or.inl ⟨_, rfl⟩⟩
        · exact ⟨_, of_decide_eq_true g, Or.inl ⟨_, rfl⟩⟩
    exact W.aret (v := .null) hC.1 hC.2.1 (hC.2.2.1.trans hrt) hrt2 (Or.inl rfl) (fun t ht hW => ⟨rfl, by rw [ht]; exact hP, hD, by rw [ht]; exact hsz, hS.F ht⟩) hS.2.2 hd hC.2.2.2.2.2.2.1 T hT X
  · cases h

theorem am_q_tableswitch {dd lo hi : Int} {offs : Array Int} (ih : ∀ pc ls st s, am_ex n d y pc ls st s = some (v, s') → am_Go l dC dI aC ad y d v s' pc ls st s) (ok : am_ok y pc (.tableswitch dd lo hi offs, np, a, b, c, j, k, q) = true) (h : am_F (am_ex n d y) (am_ex n d y) (am_cn n d) (am_go (.tableswitch dd lo hi offs, np, a, b, c, j, k, q) ls st s) = some (v, s')) : am_Go l dC dI aC ad y d v s' pc ls st s := by
  obtain ⟨hd, hnp, hr⟩ := am_ok_d ok
  have hd : decode (am_bc y) pc = .ok (.tableswitch dd lo hi offs, np - pc) := hd
  unfold am_go at h
  dsimp only at h
  split at h
  · rename_i x1 st1
    have hr := Bool.and_eq_true_iff.mp (show (Nat.beq b pc && (decide ((pc : Int) + dd = (a : Int)) && (decide (hi - lo + 1 = (offs.size : Int)) && (decide (-100000 ≤ lo) && (decide (hi ≤ 100000) && offs.toList.all (fun o => decide (0 ≤ (pc : Int) + o))))))) = true from hr)
    have hb : b = pc := Nat.eq_of_beq_eq_true hr.1
    subst hb
    have hr2 := Bool.and_eq_true_iff.mp hr.2
    have e1 := of_decide_eq_true hr2.1
    have hr3 := Bool.and_eq_true_iff.mp hr2.2
    have e2 := of_decide_eq_true hr3.1
    have hr4 := Bool.and_eq_true_iff.mp hr3.2
    have e3 := of_decide_eq_true hr4.1
    have hr5 := Bool.and_eq_true_iff.mp hr4.2
    have e4 := of_decide_eq_true hr5.1
    have e5 := List.all_eq_true.mp hr5.2
    have h : am_sw (fun t => am_ex n d y t ls st1 s) x1 a (am_tw lo (offs.toList.map fun o => (Int.ofNat b + o).toNat)) = some (v, s') := h
    rcases am_sw_tw (f := fun t => am_ex n d y t ls st1 s) (fun o => (Int.ofNat b + o).toNat) offs.toList lo h with ⟨i9, o9, h1, h2, h3⟩ | ⟨h1, h3⟩
    · have hl9 := (List.getElem?_eq_some_iff.mp h1).1
      rw [Array.length_toList] at hl9
      have hx : x1.toInt = lo + i9 := by
        rw [h2]
        exact am_ofI (by omega) (by omega)
      have ho : offs[(x1.toInt - lo).toNat]? = some o9 := by
        rw [hx, show (lo + (i9 : Int) - lo).toNat = i9 by omega, ← Array.getElem?_toList]
        exact h1
      have hp := of_decide_eq_true (e5 o9 (List.mem_of_getElem? h1))
      exact am_stepX rfl (ih _ _ _ _ h3) (fun p e R s0 m args below meth cc A H locs cells slots Q lsC hC hR hL hP hD hS kk => lv_tableIn hC.1 hC.2.1 hd (by omega) (by omega) ho (by show (b : Int) + o9 = _; simp only [Int.ofNat_eq_natCast]; omega) (kk lsC H locs hL hP hD hS))
    · refine am_stepX rfl (ih _ _ _ _ h3) (fun p e R s0 m args below meth cc A H locs cells slots Q lsC hC hR hL hP hD hS kk => lv_tableOut hC.1 hC.2.1 hd ?_ e1 (kk lsC H locs hL hP hD hS))
      rcases Int.lt_or_le x1.toInt lo with q9 | q9
      · exact Or.inl q9
      · rcases Int.lt_or_le hi x1.toInt with q8 | q8
        · exact Or.inr q8
        · refine absurd ?_ (h1 (x1.toInt - lo).toNat (by rw [Array.length_toList]; omega))
          rw [show lo + ((x1.toInt - lo).toNat : Int) = x1.toInt by omega, Int32.ofInt_toInt]
  · cases h

theorem am_q_lookupswitch {dd : Int} {ps : Array (Int × Int)} (ih : ∀ pc ls st s, am_ex n d y pc ls st s = some (v, s') → am_Go l dC dI aC ad y d v s' pc ls st s) (ok : am_ok y pc (.lookupswitch dd ps, np, a, b, c, j, k, q) = true) (h : am_F (am_ex n d y) (am_ex n d y) (am_cn n d) (am_go (.lookupswitch dd ps, np, a, b, c, j, k, q) ls st s) = some (v, s')) : am_Go l dC dI aC ad y d v s' pc ls st s := by
  obtain ⟨hd, hnp, hr⟩ := am_ok_d ok
  have hd : decode (am_bc y) pc = .ok (.lookupswitch dd ps, np - pc) := hd
  unfold am_go at h
  dsimp only at h
  split at h
  · rename_i x1 st1
    have hr := Bool.and_eq_true_iff.mp (show (Nat.beq b pc && (decide ((pc : Int) + dd = (a : Int)) && ((ps.toList.zip (ps.toList.drop 1)).all (fun (a, next) => a.1 < next.1) && ps.toList.all (fun o => decide (0 ≤ (pc : Int) + o.2) && (decide (-100000 ≤ o.1) && decide (o.1 ≤ 100000)))))) = true from hr)
    have hb : b = pc := Nat.eq_of_beq_eq_true hr.1
    subst hb
    have hr2 := Bool.and_eq_true_iff.mp hr.2
    have e1 := of_decide_eq_true hr2.1
    have hr3 := Bool.and_eq_true_iff.mp hr2.2
    have h : am_sw (fun t => am_ex n d y t ls st1 s) x1 a (ps.toList.map (fun o => (o.1, (Int.ofNat b + o.2).toNat))) = some (v, s') := h
    obtain ⟨off, t9, h1, h2, h3⟩ := am_sw_lk (f := fun t => am_ex n d y t ls st1 s) (b := b) e1 ps.toList hr3.2 h
    exact am_stepX rfl (ih _ _ _ _ h3) (fun p e R s0 m args below meth cc A H locs cells slots Q lsC hC hR hL hP hD hS kk => lv_lookup hC.1 hC.2.1 hd hr3.1 h1 h2 (kk lsC H locs hL hP hD hS))
  · cases h

end
