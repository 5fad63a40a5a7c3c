/-! comparing references, fields (by program) -/
theorem am_acv {A : Nat → Prop} {aC : Nat → ClassId} {ad : Nat → Nat} {s : aM} {v w : Value} (hv : am_okr s v = true) (hw : am_okr s w = true) (hD : va_D A (am_W aC ad s)) :
    (am_cv ad v = va_rf ((am_ad v).map ad) ∧ am_cv ad w = va_rf ((am_ad w).map ad)) ∧ ((am_ad w).map ad = (am_ad v).map ad ↔ am_ad w = am_ad v) := by
  have lt : ∀ {r : Nat}, Nat.ble (am_kd s r) 105 = true → r < s.2.2.2.length := fun {r} h => am_kd_lt (by have := Nat.le_of_ble_eq_true h; omega)
  cases v <;> first | cases hv | skip
  all_goals cases w <;> first | cases hw | skip
  · exact ⟨⟨rfl, rfl⟩, Iff.rfl⟩
  · exact ⟨⟨rfl, rfl⟩, by simp [am_ad]⟩
  · exact ⟨⟨rfl, rfl⟩, by simp [am_ad]⟩
  · refine ⟨⟨rfl, rfl⟩, ?_⟩
    constructor
    · intro h
      have h := Option.some.inj h
      exact congrArg some (am_inj hD (lt hw) (lt hv) h)
    · intro h
      rw [h]
theorem am_ok_get {y pc np a b c j w : Nat} {k : Int32} {q : Int64} (h : am_ok2 y pc (.getfield w, np, a, b, c, j, k, q) = true) : a < 13 ∧ b < am_N a ∧ c = am_tc a b ∧ (Cond.fieldLink (am_nm y).cls w (am_T a b).1 (am_T a b).2.1 (am_T a b).2.2.1 ∈ lw_tbl ∨ Cond.fieldLinkNest (am_nm y).cls w (am_T a b).1 (am_T a b).2.1 (am_T a b).2.2.1 "FordLine" ∈ lw_tbl) := by
  have h : (Nat.blt a 13 && (Nat.blt b (am_N a) && (Nat.beq c (am_tc a b) && (am_w1 j (.fieldLink (am_nm y).cls w (am_T a b).1 (am_T a b).2.1 (am_T a b).2.2.1) || am_w1 j (.fieldLinkNest (am_nm y).cls w (am_T a b).1 (am_T a b).2.1 (am_T a b).2.2.1 "FordLine"))))) = true := h
  rw [Bool.and_eq_true, Bool.and_eq_true, Bool.and_eq_true, Bool.or_eq_true] at h
  exact ⟨Nat.le_of_ble_eq_true h.1, Nat.le_of_ble_eq_true h.2.1, Nat.eq_of_beq_eq_true h.2.2.1, h.2.2.2.elim (fun q => Or.inl (am_w1_mem q)) (fun q => Or.inr (am_w1_mem q))⟩
theorem am_ok_put {y pc np a b c j w : Nat} {k : Int32} {q : Int64} (h : am_ok2 y pc (.putfield w, np, a, b, c, j, k, q) = true) : a < 13 ∧ b < am_N a ∧ c = am_tc a b ∧ ((Cond.fieldLink (am_nm y).cls w (am_T a b).1 (am_T a b).2.1 (am_T a b).2.2.1 ∈ lw_tbl ∧ (am_T a b).2.2.2 = false) ∨ (Cond.fieldLink (am_nm y).cls w (am_T a b).1 (am_T a b).2.1 (am_T a b).2.2.1 ∈ lw_tbl ∧ (am_T a b).2.2.2 = true ∧ (am_nm y).name = "<init>" ∧ (am_T a b).1 = (am_nm y).cls) ∨ (Cond.fieldLinkNest (am_nm y).cls w (am_T a b).1 (am_T a b).2.1 (am_T a b).2.2.1 "FordLine" ∈ lw_tbl ∧ (am_T a b).2.2.2 = false)) := by
  have h : (Nat.blt a 13 && (Nat.blt b (am_N a) && (Nat.beq c (am_tc a b) && ((am_w1 j (.fieldLink (am_nm y).cls w (am_T a b).1 (am_T a b).2.1 (am_T a b).2.2.1) && (!(am_T a b).2.2.2 || (decide ((am_nm y).name = "<init>") && decide ((am_T a b).1 = (am_nm y).cls)))) || (am_w1 j (.fieldLinkNest (am_nm y).cls w (am_T a b).1 (am_T a b).2.1 (am_T a b).2.2.1 "FordLine") && !(am_T a b).2.2.2))))) = true := h
  rw [Bool.and_eq_true, Bool.and_eq_true, Bool.and_eq_true, Bool.or_eq_true] at h
  refine ⟨Nat.le_of_ble_eq_true h.1, Nat.le_of_ble_eq_true h.2.1, Nat.eq_of_beq_eq_true h.2.2.1, ?_⟩
  rcases h.2.2.2 with g | g
  · rw [Bool.and_eq_true] at g
    cases hf : (am_T a b).2.2.2 with
    | false => exact Or.inl ⟨am_w1_mem g.1, rfl⟩
    | true =>
      have g2 := g.2
      rw [hf] at g2
      have g2 : (decide ((am_nm y).name = "<init>") && decide ((am_T a b).1 = (am_nm y).cls)) = true := g2
      rw [Bool.and_eq_true] at g2
      exact Or.inr (Or.inl ⟨am_w1_mem g.1, rfl, of_decide_eq_true g2.1, of_decide_eq_true g2.2⟩)
  · rw [Bool.and_eq_true] at g
    exact Or.inr (Or.inr ⟨am_w1_mem g.1, by have := g.2; cases hf : (am_T a b).2.2.2 with
      | false => rfl
      | true => rw [hf] at this; cases this⟩)
theorem am_ty0 {a b : Nat} (h : am_tc a b = 0) : am_ty a b = .int := by
  unfold am_tc am_tcf at h
  split at h <;> first | assumption | cases h
theorem am_ty1 {a b : Nat} (h : am_tc a b = 1) : am_ty a b = .long := by
  unfold am_tc am_tcf at h
  split at h <;> first | assumption | cases h
theorem am_ty2 {a b : Nat} (h : am_tc a b = 2) : (∃ n, am_ty a b = .object n) ∨ ∃ t, am_ty a b = .array t := by
  unfold am_tc am_tcf at h
  split at h
  · cases h
  · cases h
  · exact Or.inl ⟨_, by assumption⟩
  · exact Or.inr ⟨_, by assumption⟩
  · cases h
section
variable {aC : Nat → ClassId} {ad : Nat → Nat} {s : aM} {r q b j c : Nat}
theorem am_Ek_cong {s2 : aM} (hK : s2.2.2.2 = s.2.2.2) (h1 : s2.1 q = s.1 q) (h2 : s2.2.1 q = s.2.1 q) (h3 : s2.2.2.1 q = s.2.2.1 q) : am_E aC ad s2 q = am_E aC ad s q := by
  have e1 : am_kd s2 q = am_kd s q := by unfold am_kd; rw [hK]
  have e2 : am_ln s2 q = am_ln s q := by unfold am_ln; rw [hK]
  have e3 : ∀ c, am_fv ad s2 c q = am_fv ad s c q := by
    intro c
    funext k
    unfold am_fv
    rw [h1, h2, h3]
  unfold am_E am_Ek
  rw [e1, e2, e3, h1, h2, h3]
theorem am_E_i {x : Int32} (h : q ≠ r) : am_E aC ad (am_u2 s.1 r b x, s.2) q = am_E aC ad s q := am_Ek_cong rfl (am_u2_ne h) rfl rfl
theorem am_E_l {x : Int64} (h : q ≠ r) : am_E aC ad (s.1, am_u2 s.2.1 r b x, s.2.2) q = am_E aC ad s q := am_Ek_cong rfl rfl (am_u2_ne h) rfl
theorem am_E_r {x : Option Nat} (h : q ≠ r) : am_E aC ad (s.1, s.2.1, am_u2 s.2.2.1 r b x, s.2.2.2) q = am_E aC ad s q := am_Ek_cong rfl rfl rfl (am_u2_ne h)
theorem am_fv_i {x : Int32} (h : j ≠ b) : am_fv ad (am_u2 s.1 r b x, s.2) c r j = am_fv ad s c r j := by
  have e : am_u2 s.1 r b x r j = s.1 r j := by rw [am_u2_at, if_neg h]
  unfold am_fv
  dsimp only
  rw [e]
theorem am_fv_l {x : Int64} (h : j ≠ b) : am_fv ad (s.1, am_u2 s.2.1 r b x, s.2.2) c r j = am_fv ad s c r j := by
  have e : am_u2 s.2.1 r b x r j = s.2.1 r j := by rw [am_u2_at, if_neg h]
  unfold am_fv
  dsimp only
  rw [e]
theorem am_fv_r {x : Option Nat} (h : j ≠ b) : am_fv ad (s.1, s.2.1, am_u2 s.2.2.1 r b x, s.2.2.2) c r j = am_fv ad s c r j := by
  have e : am_u2 s.2.2.1 r b x r j = s.2.2.1 r j := by rw [am_u2_at, if_neg h]
  unfold am_fv
  dsimp only
  rw [e]
end
section
variable {l : Launch} {dC : Nat → ClassId} {dI : Nat → Nat → Nat} {aC : Nat → ClassId} {ad : Nat → Nat} {y d n : Nat} {v : Option Value} {s' s : aM} {pc np a b c j : Nat} {k : Int32} {q : Int64} {ls : List Slot} {st : List Value}

theorem am_q_acmp_eq {w : Int} (ih : ∀ pc ls st s, am_ex n d y pc ls st s = some (v, s') → am_Go l dC dI aC ad y d v s' pc ls st s) (ok : am_ok y pc (.if_acmp .eq w, np, a, b, c, j, k, q) = true) (h : am_F (am_ex n d y) (am_ex n d y) (am_cn n d) (am_go (.if_acmp .eq w, np, a, b, c, j, k, q) ls st s) = some (v, s')) : am_Go l dC dI aC ad y d v s' pc ls st s := by
  obtain ⟨hd, hnp, hr⟩ := am_ok_d ok
  have hd : decode (am_bc y) pc = .ok (.if_acmp .eq w, 3) := hd
  obtain rfl : np = pc + 3 := hnp
  change am_F (am_ex n d y) (am_ex n d y) (am_cn n d) (am_ac true (pc + 3) a ls st s) = some (v, s') at h
  unfold am_ac at h
  split at h
  · rename_i v1 w1 st1
    have h : cond (am_okr s v1 && am_okr s w1) (cond (decide (am_ad w1 = am_ad v1)) (am_ex n d y a ls st1 s) (am_ex n d y (pc + 3) ls st1 s)) none = some (v, s') := h
    cases hg : (am_okr s v1 && am_okr s w1) with
    | false => rw [hg] at h; cases h
    | true =>
      rw [hg] at h
      rw [Bool.and_eq_true] at hg
      have h : cond (decide (am_ad w1 = am_ad v1)) (am_ex n d y a ls st1 s) (am_ex n d y (pc + 3) ls st1 s) = some (v, s') := h
      refine am_stepB (b := decide (am_ad w1 = am_ad v1)) (st2 := st1) (fun hq => ih _ _ _ _ (by rw [hq] at h; exact h)) (fun hq => ih _ _ _ _ (by rw [hq] at h; exact h)) (fun p e R s0 m args below meth cc A H locs cells slots Q lsC hC hD k1 k2 => ?_)
      obtain ⟨e1, e2⟩ := am_acv (ad := ad) hg.1 hg.2 hD
      show W p l e R s0 m args below meth cc H locs cells slots Q (F0 m pc lsC (am_cv ad v1 :: am_cv ad w1 :: st1.map (am_cv ad)))
      rw [e1.1, e1.2]
      exact lv_acmp_eq hC.1 hC.2.1 hd (of_decide_eq_true hr) (fun q9 => k1 (decide_eq_true (e2.mp q9))) (fun q9 => k2 (decide_eq_false (fun z => q9 (e2.mpr z))))
  · cases h

theorem am_q_acmp_ne {w : Int} (ih : ∀ pc ls st s, am_ex n d y pc ls st s = some (v, s') → am_Go l dC dI aC ad y d v s' pc ls st s) (ok : am_ok y pc (.if_acmp .ne w, np, a, b, c, j, k, q) = true) (h : am_F (am_ex n d y) (am_ex n d y) (am_cn n d) (am_go (.if_acmp .ne w, np, a, b, c, j, k, q) ls st s) = some (v, s')) : am_Go l dC dI aC ad y d v s' pc ls st s := by
  obtain ⟨hd, hnp, hr⟩ := am_ok_d ok
  have hd : decode (am_bc y) pc = .ok (.if_acmp .ne w, 3) := hd
  obtain rfl : np = pc + 3 := hnp
  change am_F (am_ex n d y) (am_ex n d y) (am_cn n d) (am_ac false (pc + 3) a ls st s) = some (v, s') at h
  unfold am_ac at h
  split at h
  · rename_i v1 w1 st1
    have h : cond (am_okr s v1 && am_okr s w1) (cond (!decide (am_ad w1 = am_ad v1)) (am_ex n d y a ls st1 s) (am_ex n d y (pc + 3) ls st1 s)) none = some (v, s') := h
    cases hg : (am_okr s v1 && am_okr s w1) with
    | false => rw [hg] at h; cases h
    | true =>
      rw [hg] at h
      rw [Bool.and_eq_true] at hg
      have h : cond (!decide (am_ad w1 = am_ad v1)) (am_ex n d y a ls st1 s) (am_ex n d y (pc + 3) ls st1 s) = some (v, s') := h
      refine am_stepB (b := !decide (am_ad w1 = am_ad v1)) (st2 := st1) (fun hq => ih _ _ _ _ (by rw [hq] at h; exact h)) (fun hq => ih _ _ _ _ (by rw [hq] at h; exact h)) (fun p e R s0 m args below meth cc A H locs cells slots Q lsC hC hD k1 k2 => ?_)
      obtain ⟨e1, e2⟩ := am_acv (ad := ad) hg.1 hg.2 hD
      show W p l e R s0 m args below meth cc H locs cells slots Q (F0 m pc lsC (am_cv ad v1 :: am_cv ad w1 :: st1.map (am_cv ad)))
      rw [e1.1, e1.2]
      exact lv_acmp_ne hC.1 hC.2.1 hd (of_decide_eq_true hr) (fun q9 => k1 (by rw [decide_eq_false (fun z => q9 (e2.mpr z))]; rfl)) (fun q9 => k2 (by rw [decide_eq_true (e2.mp q9)]; rfl))
  · cases h

theorem am_q_getfield {w : Nat} (ih : ∀ pc ls st s, am_ex n d y pc ls st s = some (v, s') → am_Go l dC dI aC ad y d v s' pc ls st s) (ok : am_ok y pc (.getfield w, np, a, b, c, j, k, q) = true) (h : am_F (am_ex n d y) (am_ex n d y) (am_cn n d) (am_go (.getfield w, np, a, b, c, j, k, q) ls st s) = some (v, s')) : am_Go l dC dI aC ad y d v s' pc ls st s := by
  obtain ⟨hd, hnp, hr⟩ := am_ok_d ok
  have hd : decode (am_bc y) pc = .ok (.getfield w, 3) := hd
  obtain rfl : np = pc + 3 := hnp
  change am_F (am_ex n d y) (am_ex n d y) (am_cn n d) (am_get (pc + 3) a b c ls st s) = some (v, s') at h
  obtain ⟨ha, hb, hc, hl⟩ := am_ok_get hr
  cases st with
  | nil => cases h
  | cons w1 st1 =>
    cases w1 with
    | ref r =>
      have key : ∀ (np : Nat) (u : Value), am_fv ad s a r b = am_cv ad u → np = pc + 3 → am_kd s r = a → am_ex n d y np ls (u :: st1) s = some (v, s') → am_Go l dC dI aC ad y d v s' pc ls (.ref r :: st1) s := by
        intro np u hu hnp hk h2
        subst hnp
        refine am_stepX rfl (ih _ _ _ _ h2) (fun p e R s0 m args below meth cc A H locs cells slots Q lsC hC hR hL hP hD hS kk => ?_)
        have hlt : r < s.2.2.2.length := am_kd_lt (by omega)
        have he := am_W_get (aC := aC) (ad := ad) hlt
        rw [am_E_obj hk ha] at he
        have hv : ((List.range (am_N a)).map (am_fv ad s a r))[b]? = some (am_cv ad u) := by rw [am_fs_get hb, hu]
        rcases hl with hl | hl
        · exact va_get (D := (dC, dI)) (ci := a) (C := am_Rn a) (T := am_T a) (N := am_N a) (ref := (am_T a b).1) (index := w) (own := (am_nm y).cls) hC.1 hC.2.1 hC.2.2.2.2.2.1 (fun w9 h9 => List.mem_cons_of_mem _ (am_cin ha w9 h9)) hC.2.2.2.2.1 hC.2.2.2.2.2.2.2.1 hP r he (am_cg ha) b hb (am_hts hC (am_gw_in hl rfl)) (fun _ h9 => h9) hv hd (kk lsC H locs hL hP hD hS)
        · exact va_getN (D := (dC, dI)) (ci := a) (C := am_Rn a) (T := am_T a) (N := am_N a) (ref := (am_T a b).1) (index := w) (own := (am_nm y).cls) (host := "FordLine") hC.1 hC.2.1 hC.2.2.2.2.2.1 (fun w9 h9 => List.mem_cons_of_mem _ (am_cin ha w9 h9)) hC.2.2.2.2.1 hC.2.2.2.2.2.2.2.1 hP r he (am_cg ha) b hb (va_Nw.use rfl (hC.2.2.2.2.2.2.2.2.2.1 _ hl rfl)) (fun _ h9 => h9) hv hd (kk lsC H locs hL hP hD hS)
      have hg : ∀ {X : Option aR}, cond (Nat.beq (am_kd s r) a) X none = some (v, s') → am_kd s r = a ∧ X = some (v, s') := by
        intro X hX
        cases hq : Nat.beq (am_kd s r) a with
        | false => rw [hq] at hX; cases hX
        | true => rw [hq] at hX; exact ⟨Nat.eq_of_beq_eq_true hq, hX⟩
      match c, hc, h with
      | 0, hc, h =>
        obtain ⟨g1, g2⟩ := hg (X := am_ex n d y (pc + 3) ls (.int (s.1 r b) :: st1) s) h
        exact key _ (.int (s.1 r b)) (by unfold am_fv; rw [← hc]; rfl) rfl g1 g2
      | 1, hc, h =>
        obtain ⟨g1, g2⟩ := hg (X := am_ex n d y (pc + 3) ls (.long (s.2.1 r b) :: st1) s) h
        exact key _ (.long (s.2.1 r b)) (by unfold am_fv; rw [← hc]; rfl) rfl g1 g2
      | c9 + 2, hc, h =>
        have e9 : am_fv ad s a r b = va_rf ((s.2.2.1 r b).map ad) := by unfold am_fv; rw [← hc]; rfl
        have h : cond (Nat.beq (am_kd s r) a) (match s.2.2.1 r b with
          | some q => am_ex n d y (pc + 3) ls (.ref q :: st1) s
          | none => am_ex n d y (pc + 3) ls (.null :: st1) s) none = some (v, s') := h
        obtain ⟨g1, g2⟩ := hg h
        cases ho : s.2.2.1 r b with
        | none => rw [ho] at g2 e9; exact key _ .null e9 rfl g1 g2
        | some q9 => rw [ho] at g2 e9; exact key _ (.ref q9) e9 rfl g1 g2
    | _ => cases h

theorem am_q_putfield {w : Nat} (ih : ∀ pc ls st s, am_ex n d y pc ls st s = some (v, s') → am_Go l dC dI aC ad y d v s' pc ls st s) (ok : am_ok y pc (.putfield w, np, a, b, c, j, k, q) = true) (h : am_F (am_ex n d y) (am_ex n d y) (am_cn n d) (am_go (.putfield w, np, a, b, c, j, k, q) ls st s) = some (v, s')) : am_Go l dC dI aC ad y d v s' pc ls st s := by
  obtain ⟨hd, hnp, hr⟩ := am_ok_d ok
  have hd : decode (am_bc y) pc = .ok (.putfield w, 3) := hd
  obtain rfl : np = pc + 3 := hnp
  change am_F (am_ex n d y) (am_ex n d y) (am_cn n d) (am_put (pc + 3) a b c ls st s) = some (v, s') at h
  obtain ⟨ha, hb, hc, hl⟩ := am_ok_put hr
  have key : ∀ (u : Value) (r : Nat) (st1 : List Value) (s2 : aM), s2.2.2.2 = s.2.2.2 → (∀ q, q ≠ r → am_E aC ad s2 q = am_E aC ad s q) → am_fv ad s2 a r b = am_cv ad u → (∀ j, j ≠ b → am_fv ad s2 a r j = am_fv ad s a r j) → narrow (am_ty a b) (am_cv ad u) = am_cv ad u → fits (am_ty a b) (am_cv ad u) = true →
      cond (Nat.beq (am_kd s r) a) (am_ex n d y (pc + 3) ls st1 s2) none = some (v, s') → am_Go l dC dI aC ad y d v s' pc ls (u :: .ref r :: st1) s := by
    intro u r st1 s2 hK hE hv hj hn hf hX
    cases hq : Nat.beq (am_kd s r) a with
    | false => rw [hq] at hX; cases hX
    | true =>
      rw [hq] at hX
      have hk := Nat.eq_of_beq_eq_true hq
      have h2 : am_ex n d y (pc + 3) ls st1 s2 = some (v, s') := hX
      refine am_stepX hK (ih _ _ _ _ h2) (fun p e R s0 m args below meth cc A H locs cells slots Q lsC hC hR hL hP hD hS kk => ?_)
      have hlt : r < s.2.2.2.length := am_kd_lt (by omega)
      have he := am_W_get (aC := aC) (ad := ad) hlt
      rw [am_E_obj hk ha] at he
      have hk2 : am_kd s2 r = a := by unfold am_kd at hk ⊢; rw [hK]; exact hk
      have hw : (am_W aC ad s).set r (ad r, .inr (a, ((List.range (am_N a)).map (am_fv ad s a r)).set b (am_cv ad u))) = am_W aC ad s2 := by
        refine (am_W_set (by rw [hK]) ?_ hE).symm
        rw [am_E_obj hk2 ha, am_fs_set hb hv hj]
      have hlen : b < ((List.range (am_N a)).map (am_fv ad s a r)).length := by simp; exact hb
      have kk2 : ∀ (H1 : Heap) (locs1 : List Loc), va_P (dC, dI) vwCl ((am_W aC ad s).set r (ad r, .inr (a, ((List.range (am_N a)).map (am_fv ad s a r)).set b (am_cv ad u)))) H1 → va_D A ((am_W aC ad s).set r (ad r, .inr (a, ((List.range (am_N a)).map (am_fv ad s a r)).set b (am_cv ad u)))) → va_S A s0.heap H1 locs1 → W p l e R s0 m args below meth cc H1 locs1 cells slots Q (F0 m (pc + 3) lsC (st1.map (am_cv ad))) := by
        intro H1 locs1 g1 g2 g3
        rw [hw] at g1 g2
        exact kk lsC H1 locs1 hL g1 g2 g3
      rcases hl with ⟨hl, hfin⟩ | ⟨hl, hfin⟩ | ⟨hl, hfin⟩
      · exact va_put (D := (dC, dI)) (ci := a) (C := am_Rn a) (T := am_T a) (N := am_N a) (ref := (am_T a b).1) (index := w) (own := (am_nm y).cls) (ty := am_ty a b) hC.1 hC.2.1 hC.2.2.2.2.2.1 (fun w9 h9 => List.mem_cons_of_mem _ (am_cin ha w9 h9)) (am_ty a) (am_cty ha) (am_cnm ha) hC.2.2.2.2.1 hC.2.2.2.2.2.2.2.1 hP hD hS r he (am_cg ha) b hb (am_hts hC (am_gw_in hl rfl)) (fun _ h9 => h9) hfin (am_cty ha b hb) hn hf hlen hd kk2
      · exact va_putF (D := (dC, dI)) (ci := a) (C := am_Rn a) (T := am_T a) (N := am_N a) (ref := (am_T a b).1) (index := w) (own := (am_nm y).cls) (ty := am_ty a b) hC.1 hC.2.1 hC.2.2.2.2.2.1 (fun w9 h9 => List.mem_cons_of_mem _ (am_cin ha w9 h9)) (am_ty a) (am_cty ha) (am_cnm ha) hC.2.2.2.2.1 hC.2.2.2.2.2.2.2.1 hP hD hS r he (am_cg ha) b hb (am_hts hC (am_gw_in hl rfl)) (fun _ h9 => h9) hfin.1 (hC.2.2.2.2.2.2.2.2.1.trans hfin.2.1) hfin.2.2 (am_cty ha b hb) hn hf hlen hd kk2
      · exact va_putN (D := (dC, dI)) (ci := a) (C := am_Rn a) (T := am_T a) (N := am_N a) (ref := (am_T a b).1) (index := w) (own := (am_nm y).cls) (host := "FordLine") (ty := am_ty a b) hC.1 hC.2.1 hC.2.2.2.2.2.1 (fun w9 h9 => List.mem_cons_of_mem _ (am_cin ha w9 h9)) (am_ty a) (am_cty ha) (am_cnm ha) hC.2.2.2.2.1 hC.2.2.2.2.2.2.2.1 hP hD hS r he (am_cg ha) b hb (va_Nw.use rfl (hC.2.2.2.2.2.2.2.2.2.1 _ hl rfl)) (fun _ h9 => h9) hfin (am_cty ha b hb) hn hf hlen hd kk2
  unfold am_put at h
  split at h
  · rename_i x1 r1 st1
    have ht := am_ty0 hc.symm
    refine key (.int x1) r1 st1 (am_u2 s.1 r1 b x1, s.2) rfl (fun q9 hq => am_E_i hq) (by unfold am_fv; rw [← hc]; show Value.int (am_u2 s.1 r1 b x1 r1 b) = _; rw [am_u2_at, if_pos rfl]; rfl) (fun j9 hj => am_fv_i hj) (by rw [ht]; rfl) (by rw [ht]; rfl) h
  · rename_i x1 r1 st1
    have ht := am_ty1 hc.symm
    refine key (.long x1) r1 st1 (s.1, am_u2 s.2.1 r1 b x1, s.2.2) rfl (fun q9 hq => am_E_l hq) (by unfold am_fv; rw [← hc]; show Value.long (am_u2 s.2.1 r1 b x1 r1 b) = _; rw [am_u2_at, if_pos rfl]; rfl) (fun j9 hj => am_fv_l hj) (by rw [ht]; rfl) (by rw [ht]; rfl) h
  · rename_i q1 r1 st1
    refine key (.ref q1) r1 st1 (s.1, s.2.1, am_u2 s.2.2.1 r1 b (some q1), s.2.2.2) rfl (fun q9 hq => am_E_r hq) (by unfold am_fv; rw [← hc]; show va_rf ((am_u2 s.2.2.1 r1 b (some q1) r1 b).map ad) = _; rw [am_u2_at, if_pos rfl]; rfl) (fun j9 hj => am_fv_r hj) ?_ ?_ h
    · rcases am_ty2 hc.symm with ⟨t9, ht⟩ | ⟨t9, ht⟩ <;> rw [ht] <;> rfl
    · rcases am_ty2 hc.symm with ⟨t9, ht⟩ | ⟨t9, ht⟩ <;> rw [ht] <;> rfl
  · rename_i r1 st1
    refine key .null r1 st1 (s.1, s.2.1, am_u2 s.2.2.1 r1 b none, s.2.2.2) rfl (fun q9 hq => am_E_r hq) (by unfold am_fv; rw [← hc]; show va_rf ((am_u2 s.2.2.1 r1 b none r1 b).map ad) = _; rw [am_u2_at, if_pos rfl]; rfl) (fun j9 hj => am_fv_r hj) ?_ ?_ h
    · rcases am_ty2 hc.symm with ⟨t9, ht⟩ | ⟨t9, ht⟩ <;> rw [ht] <;> rfl
    · rcases am_ty2 hc.symm with ⟨t9, ht⟩ | ⟨t9, ht⟩ <;> rw [ht] <;> rfl
  · cases h

end
