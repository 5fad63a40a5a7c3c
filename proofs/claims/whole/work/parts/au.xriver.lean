/-! THE CLASS: the reader reads; river -/
set_option maxRecDepth 100000 in
theorem b_Reader_read_120n (d : Nat) (z0 : Slot) (z1 : Slot) (i : Nat → Nat → Int32) (l : Nat → Nat → Int64) (q : Nat → Nat → Option Nat) (K : List (Nat × Nat)) : am_Ex d mReader_read 120 [z0, z1] [.null] (i, l, (rX q), (kX K)) = some (some .null, (i, l, (rX q), (kX K))) := (am_bk_eq d mReader_read [0, 18, 46, 57, 64, 66, 95, 99, 105, 120] 3 120 _ _ _).trans rfl
set_option maxRecDepth 100000 in
theorem b_X_river_33n (d : Nat) (z1 : Slot) (z2 : Slot) (i : Nat → Nat → Int32) (l : Nat → Nat → Int64) (q : Nat → Nat → Option Nat) (K : List (Nat × Nat)) : am_Ex d mX_river 33 [.val (.ref 0), z1, z2] [.null] (i, l, (rX q), (kX K)) = some (some (.int ((-30) - (i 5 3))), (i, l, (rX q), (kX K))) := (am_bk_eq d mX_river [0, 15, 26, 33] 19 33 _ _ _).trans rfl
section
variable {i i' i'' : Nat → Nat → Int32} {l l' l'' : Nat → Nat → Int64} {q q' q'' : Nat → Nat → Option Nat} {K K' K'' : List (Nat × Nat)} {B : Nat → Nat} {N M r : Nat} {s t : PS} {f f' : Nat → Nat}
theorem s_River_init (d : Nat) {r0 : Nat} (hk : am_kd (i, l, q, K) r0 = 6) : am_cl (d + 1) mRiver_init [.ref r0] (i, l, q, K) = some (none, ((am_u1 (am_u1 (am_u2 (am_u2 (am_u2 (am_u2 i r0 0 1) r0 1 0) r0 2 5) r0 3 0) K.length (fun _ => 0)) (K ++ [(100, 4)]).length (fun _ => 0)), (am_u1 (am_u1 (am_u2 l r0 4 0) K.length (fun _ => 0)) (K ++ [(100, 4)]).length (fun _ => 0)), (am_u2 (am_u2 (am_u2 (am_u1 (am_u2 (am_u1 q K.length (fun _ => none)) r0 5 (some K.length)) (K ++ [(100, 4)]).length (fun _ => none)) r0 6 (some (K ++ [(100, 4)]).length)) r0 7 none) r0 8 none), ((K ++ [(100, 4)]) ++ [(100, 4)]))) := by
  have hlt := kd_lt hk (by decide)
  have h1 : ∀ i l q, Nat.beq (am_kd (i, l, q, K) r0) 6 = true := fun i l q => by rw [show am_kd (i, l, q, K) r0 = 6 from hk]; rfl
  have h2 : ∀ i l q L, Nat.beq (am_kd (i, l, q, K ++ L) r0) 6 = true := fun i' l' q' L => by
    rw [(kd_app (i := i) (i' := i') (l := l) (l' := l') (q := q) (q' := q') (L := L) hlt).1, hk]; rfl
  have h3 : ∀ i l q, Nat.beq (am_kd (i, l, q, (K ++ [(100, 4)]) ++ [(100, 4)]) r0) 6 = true := fun i l q => by
    rw [List.append_assoc]; exact h2 i l q _
  rw [c_River_init, b_River_init_0]
  simp only [h1, h2, h3, cond_true]
theorem u1_s {α : Type} {f : Nat → Nat → α} {r : Nat} {g : Nat → α} : am_u1 f r g r = g := by
  funext j
  show (if r = r then g j else f r j) = g j
  rw [if_pos rfl]
theorem u1_o {α : Type} {f : Nat → Nat → α} {r c : Nat} {g : Nat → α} (h : c ≠ r) : am_u1 f r g c = f c := by
  funext j
  show (if c = r then g j else f c j) = f c j
  rw [if_neg h]
theorem u2_o {α : Type} {f : Nat → Nat → α} {r c k : Nat} {v : α} (h : c ≠ r) : am_u2 f r k v c = f c := by
  funext j
  show (if c = r then (if j = k then v else f c j) else f c j) = f c j
  rw [if_neg h]
theorem u2_s {α : Type} {f : Nat → Nat → α} {r k : Nat} {v : α} : am_u2 f r k v r k = v := by unfold am_u2; rw [if_pos rfl, if_pos rfl]
theorem u2_k {α : Type} {f : Nat → Nat → α} {r k j : Nat} {v : α} (h : j ≠ k) : am_u2 f r k v r j = f r j := by unfold am_u2; rw [if_pos rfl, if_neg h]
/-- a draft is made -/
theorem y_draft (d : Nat) (hBY : BY B N i) (hTK : TKs B N M i) (h8 : ∃ c, c ≤ 900 ∧ i 5 8 = nI c) : ∃ i' l' q' K', am_Ex (d + 1) mReader_read 0 [.val (.ref 5), .unset] [] (i, l, rX q, kX K) = am_bd (am_cl (d + 1) mReader_expect [.ref 5, .int 138] (i', l', rX q', kX K')) (fun v1 t2 => am_Ex (d + 1) mReader_read 46 [.val (.ref 5), .unset] (Option.toList v1 ++ []) t2) ∧ LB B N M (58 + K.length) i' l' q' K' (0, 0, 0, pln) ∧ RW (58 + K.length) i i' l l' q q' K K' ∧ SZ (am_sz K + 17) (K.length + 3) (0, 0, 0, pln) K' := by
  obtain ⟨r, er⟩ : ∃ r, 58 + K.length = r := ⟨_, rfl⟩
  have h58 : 58 ≤ r := by omega
  have eA : (kX K).length = r := by rw [kX_len]; exact er
  have eL : (K ++ [(6, 9)]).length = K.length + 1 := by simp
  have eL2 : (K ++ [(6, 9)] ++ [(100, 4)]).length = K.length + 2 := by simp
  have eB : (kX (K ++ [(6, 9)])).length = r + 1 := by rw [kX_len, eL]; omega
  have eC : (kX (K ++ [(6, 9)]) ++ [(100, 4)]).length = r + 2 := by rw [List.length_append, eB]; rfl
  have kr : kK (K ++ [(6, 9)]) r = 6 := by rw [← er]; exact kK_new.1
  obtain ⟨ia, eia⟩ : ∃ ia, am_u1 (am_u2 (am_u2 i 5 3 0) 5 4 (-1)) r (fun _ => 0) = ia := ⟨_, rfl⟩
  obtain ⟨ib, eib⟩ : ∃ ib, am_u1 (am_u1 (am_u2 (am_u2 (am_u2 (am_u2 ia r 0 1) r 1 0) r 2 5) r 3 0) (r + 1) (fun _ => 0)) (r + 2) (fun _ => 0) = ib := ⟨_, rfl⟩
  obtain ⟨lb, elb⟩ : ∃ lb, am_u1 (am_u1 (am_u2 (am_u1 l r (fun _ => 0)) r 4 0) (r + 1) (fun _ => 0)) (r + 2) (fun _ => 0) = lb := ⟨_, rfl⟩
  obtain ⟨qb, eqb⟩ : ∃ qb, am_u2 (am_u2 (am_u2 (am_u1 (am_u2 (am_u1 (am_u1 q r (fun _ => none)) (r + 1) (fun _ => none)) r 5 (some (r + 1))) (r + 2) (fun _ => none)) r 6 (some (r + 2))) r 7 none) r 8 none = qb := ⟨_, rfl⟩
  have eqX : am_u2 (am_u2 (am_u2 (am_u1 (am_u2 (am_u1 (am_u1 (rX q) r (fun _ => none)) (r + 1) (fun _ => none)) r 5 (some (r + 1))) (r + 2) (fun _ => none)) r 6 (some (r + 2))) r 7 none) r 8 none = rX qb := by
    rw [rX_u1 q _ h58, rX_u1 _ _ (show 58 ≤ r + 1 by omega), rX_u2 _ _ (rX_hi _ h58 _), rX_u1 _ _ (show 58 ≤ r + 2 by omega), rX_u2 _ _ (rX_hi _ h58 _), rX_u2 _ _ (rX_hi _ h58 _), rX_u2 _ _ (rX_hi _ h58 _), eqb]
  obtain ⟨K3, eK3⟩ : ∃ K3, K ++ [(6, 9)] ++ [(100, 4)] ++ [(100, 4)] = K3 := ⟨_, rfl⟩
  obtain ⟨ic, eic⟩ : ∃ ic, am_u2 (am_u2 ib 5 1 0) 5 2 (ib 3 0) = ic := ⟨_, rfl⟩
  obtain ⟨qc, eqc⟩ : ∃ qc, am_u2 qb 5 5 (some r) = qc := ⟨_, rfl⟩
  have ini := s_River_init (i := ia) (l := am_u1 l r (fun _ => 0)) (q := am_u1 (rX q) r (fun _ => none)) (K := kX (K ++ [(6, 9)])) d (r0 := r) kr
  rw [eB, eC, eib, elb, eqX, kX_app, kX_app, eK3] at ini
  have run : am_Ex (d + 1) mReader_read 0 [.val (.ref 5), .unset] [] (i, l, rX q, kX K) = am_bd (am_cl (d + 1) mReader_expect [.ref 5, .int 138] (ic, lb, rX qc, kX K3)) (fun v1 t2 => am_Ex (d + 1) mReader_read 46 [.val (.ref 5), .unset] (Option.toList v1 ++ []) t2) := by
    rw [b_Reader_read_0, eA, eia, show am_kd (ia, am_u1 l r (fun _ => 0), am_u1 (rX q) r (fun _ => none), kX (K ++ [(6, 9)])) r = 6 from kr, show (Nat.beq 6 6 && true) = true from rfl, cond_true, ini, am_bd_some]
    show am_Ex _ _ _ _ [.ref r, .ref 5] _ = _
    rw [b_Reader_read_18, eic, rX_u2 qb _ (show rX (fun _ _ => none) 5 5 = none from rfl), eqc]
  have io : ∀ c, c < r → c ≠ 5 → ic c = i c := fun c hc h5 => by
    rw [← eic, ← eib, ← eia, u2_o h5, u2_o h5, u1_o (by omega), u1_o (by omega), u2_o (by omega), u2_o (by omega), u2_o (by omega), u2_o (by omega), u1_o (by omega), u2_o h5, u2_o h5]
  have i5 : ib 5 = am_u2 (am_u2 i 5 3 0) 5 4 (-1) 5 := by
    rw [← eib, ← eia, u1_o (by omega), u1_o (by omega), u2_o (by omega), u2_o (by omega), u2_o (by omega), u2_o (by omega), u1_o (by omega)]
  have ib3 : ib 3 = i 3 := by
    rw [← eib, ← eia, u1_o (by omega), u1_o (by omega), u2_o (by omega), u2_o (by omega), u2_o (by omega), u2_o (by omega), u1_o (by omega), u2_o (by decide), u2_o (by decide)]
  have i53 : ic 5 3 = nI 0 := by rw [← eic, u2_k (by decide), u2_k (by decide), i5]; rfl
  have i54 : ic 5 4 = -nI 1 := by rw [← eic, u2_k (by decide), u2_k (by decide), i5]; rfl
  have i51 : ic 5 1 = nI 0 := by rw [← eic, u2_k (by decide), u2_s]; rfl
  have i52 : ic 5 2 = i 3 0 := by rw [← eic, u2_s, ib3]
  have i58 : ic 5 8 = i 5 8 := by rw [← eic, u2_k (by decide), u2_k (by decide), i5, u2_k (by decide), u2_k (by decide)]
  have icr : ∀ c, r ≤ c → ic c = ib c := fun c hc => by rw [← eic, u2_o (by omega), u2_o (by omega)]
  have ibr : ib r = am_u2 (am_u2 (am_u2 (am_u2 ia r 0 1) r 1 0) r 2 5) r 3 0 r := by rw [← eib, u1_o (by omega), u1_o (by omega)]
  have ir0 : ic r 0 = nI 1 := by rw [icr r (Nat.le_refl _), ibr, u2_k (by decide), u2_k (by decide), u2_k (by decide), u2_s]; rfl
  have ir1 : ic r 1 = nI 0 := by rw [icr r (Nat.le_refl _), ibr, u2_k (by decide), u2_k (by decide), u2_s]; rfl
  have ir2 : ic r 2 = nI 5 := by rw [icr r (Nat.le_refl _), ibr, u2_k (by decide), u2_s]; rfl
  have ir3 : ic r 3 = nI 0 := by rw [icr r (Nat.le_refl _), ibr, u2_s]; rfl
  have ia1 : ic (r + 1) = fun _ => 0 := by rw [icr _ (by omega), ← eib, u1_o (by omega), u1_s]
  have ia2 : ic (r + 2) = fun _ => 0 := by rw [icr _ (by omega), ← eib, u1_s]
  have lo : ∀ c, c < r → lb c = l c := fun c hc => by rw [← elb, u1_o (by omega), u1_o (by omega), u2_o (by omega), u1_o (by omega)]
  have lr : lb r 4 = lN 0 := by rw [← elb, u1_o (by omega), u1_o (by omega), u2_s]; rfl
  have qo : ∀ c, c < r → c ≠ 5 → qc c = q c := fun c hc h5 => by
    rw [← eqc, ← eqb, u2_o h5, u2_o (by omega), u2_o (by omega), u2_o (by omega), u1_o (by omega), u2_o (by omega), u1_o (by omega), u1_o (by omega)]
  have q55 : qc 5 5 = some r := by rw [← eqc, u2_s]
  have qr : qc r = qb r := by rw [← eqc, u2_o (by omega)]
  have qr5 : qc r 5 = some (r + 1) := by rw [qr, ← eqb, u2_k (by decide), u2_k (by decide), u2_k (by decide), u1_o (by omega), u2_s]
  have qr6 : qc r 6 = some (r + 2) := by rw [qr, ← eqb, u2_k (by decide), u2_k (by decide), u2_s]
  have qr7 : qc r 7 = none := by rw [qr, ← eqb, u2_k (by decide), u2_s]
  have qr8 : qc r 8 = none := by rw [qr, ← eqb, u2_s]
  have k1 : kK K3 r = 6 := by
    rw [← eK3, (kK_app (by rw [eL2]; omega)).1, (kK_app (by rw [eL]; omega)).1]; exact kr
  have k2 : kK K3 (r + 1) = 100 ∧ lK K3 (r + 1) = 4 := by
    rw [← eK3, (kK_app (by rw [eL2]; omega)).1, (kK_app (by rw [eL2]; omega)).2, show r + 1 = 58 + (K ++ [(6, 9)]).length by rw [eL]; omega]
    exact kK_new
  have k3 : kK K3 (r + 2) = 100 ∧ lK K3 (r + 2) = 4 := by
    rw [← eK3, show r + 2 = 58 + (K ++ [(6, 9)] ++ [(100, 4)]).length by rw [eL2]; omega]
    exact kK_new
  rw [er]
  have z1 : am_sz K3 = am_sz K + 17 := by
    rw [← eK3, (am_sz1 _ _).1, (am_sz1 _ _).1, (am_sz1 _ _).1]
    show am_sz K + 9 + 4 + 4 = _
    omega
  have z2 : K3.length = K.length + 3 := by
    rw [← eK3, (am_sz1 _ _).2, (am_sz1 _ _).2, (am_sz1 _ _).2]
  refine ⟨ic, lb, qc, K3, run, ⟨⟨?_, ?_, ⟨i53, by show (0 : Nat) ≤ 4; decide, fun z => absurd rfl z, fun _ => ⟨Nat.zero_le _, i51, ?_⟩⟩, fun _ => ⟨Nat.le_refl _, Nat.le_refl _⟩, fun _ => i54, ?_⟩, ⟨h58, q55, ⟨by rw [rX_hi _ h58]; exact qr5, by rw [rX_hi _ h58]; exact qr6⟩, ⟨k1, k2.1, k2.2, k3.1, k3.2⟩, 0, by decide, lr⟩, fun _ => ⟨⟨ir0, ir1, ir2, ir3⟩, fun p hp => ?_, fun p hp => ?_, ⟨⟨fun _ => by rw [rX_hi _ h58]; exact qr7, fun z => absurd rfl z⟩, ⟨fun _ => by rw [rX_hi _ h58]; exact qr8, fun z => absurd rfl z⟩⟩, 0, lr, by decide, fun p hp => ?_, fun p hp => ?_, fun p hp => ?_⟩⟩, ⟨⟨[(6, 9)] ++ ([(100, 4)] ++ [(100, 4)]), by rw [← eK3, List.append_assoc, List.append_assoc]⟩, fun c hc => ⟨fun a b => io c hc a, lo c hc, fun a => qo c hc a⟩⟩, ?_⟩
  · unfold BY at hBY ⊢
    rw [io 1 (by omega) (by decide), io 2 (by omega) (by decide)]; exact hBY
  · unfold TKs at hTK ⊢
    rw [io 1 (by omega) (by decide), io 3 (by omega) (by decide), io 4 (by omega) (by decide)]; exact hTK
  · rw [i52]; exact (hTK.2.2.2 0 (by omega)).1
  · rw [i58]; exact h8
  · rw [ia1]
    show (0 : Int32) = nI (pln (10 + p))
    unfold pln
    rw [if_neg (by omega), if_neg (by omega)]; rfl
  · rw [ia2]
    show (0 : Int32) = nI (pln (14 + p))
    unfold pln
    rw [if_neg (by omega), if_neg (by omega)]; rfl
  · show dg 0 p = pln (18 + p)
    unfold pln dg
    rw [if_neg (by omega), if_neg (by omega), Nat.zero_div]
  · show stm 0 p = pln (18 + (4 + p))
    unfold pln
    rw [if_neg (by omega), if_neg (by omega), stm_fld]
    unfold fld; simp
  · show dpm 0 p = pln (18 + (8 + p))
    unfold pln
    rw [if_neg (by omega), if_neg (by omega), dpm_fld]
    unfold fld; simp
  · rw [er] at *
    exact ⟨fun _ => by show am_sz K3 ≤ am_sz K + 17 + 0 ∧ K3.length ≤ K.length + 3 + 0; omega, by omega, by omega⟩
theorem y_read (d : Nat) (hBY : BY B N i) (hTK : TKs B N M i) (h8 : ∃ c, c ≤ 900 ∧ i 5 8 = nI c) : ∃ i' l' q' K', am_cl (d + 30) mReader_read [.ref 5] (i, l, rX q, kX K) = some (some (if (rvS B N).1 = 0 then .ref (58 + K.length) else .null), (i', l', rX q', kX K')) ∧ LB B N M (58 + K.length) i' l' q' K' (rvS B N) ∧ RW (58 + K.length) i i' l l' q q' K K' ∧ am_sz K' ≤ am_sz K + 1817 ∧ K'.length ≤ K.length + 905 := by
  obtain ⟨i1, l1, q1, K1, e1, hb1, hw1, hz1⟩ := y_draft (l := l) (q := q) (K := K) (d + 28) hBY hTK h8
  obtain ⟨r, er⟩ : ∃ r, 58 + K.length = r := ⟨_, rfl⟩
  rw [er] at hb1 hw1 ⊢
  have e55 : rX q1 5 5 = some r := hb1.2.1.2.1
  have hk : ∀ i l, Nat.beq (am_kd (i, l, rX q1, kX K1) r) 6 = true := fun i l => by rw [show am_kd (i, l, rX q1, kX K1) r = 6 from hb1.2.1.2.2.2.1.1]; rfl
  obtain ⟨i2, e2, hb2, ho2⟩ := l_exp (d + 27) (k0 := 0) rfl (by decide) (by decide) hb1
  have e2' : am_cl (d + 29) mReader_expect [.ref 5, .int 138] (i1, l1, rX q1, kX K1) = _ := e2
  obtain ⟨i3, v, e3, hb3, ho3, hv1, hv6, hvu⟩ := l_num (lo := 1) (hi := 6) (d + 26) (by decide) (by decide) (by decide) hb2
  have e3' : am_cl (d + 29) mReader_readNumber [.ref 5, .int 1, .int 6] (i2, l1, rX q1, kX K1) = _ := e3
  obtain ⟨hb4, hw4⟩ := l_field (k := 0) (kk := 1) (v := v) (x := nI v) (by omega) (fun _ => rfl) hb3
  obtain ⟨i5, e5, hb5, hw5⟩ := l_end (d + 26) hb4
  have hst := stF_v (k := 1) hvu
  obtain ⟨hQ0, hI0⟩ := IL_st0 (B := B) (N := N)
  rw [hst] at hQ0 hI0
  obtain ⟨g3, g4, _⟩ := en_go hb4.1.2.2.2.1 hQ0
  have hz4 := SZ_mo (t := enS B N (stF 1 v (tkS B N 1 6 (xpS B N 0 (0, 0, 0, pln))))) hz1 (fun _ => ⟨rfl, Nat.zero_le _⟩)
  obtain ⟨i6, l6, q6, K6, x1, e6, hb6, hw6, hz6⟩ := l_lines d hBY.2.2.2 1000 0 _ _ _ _ _ (by omega) (by omega) hb5 g4 (IL_en hI0) (fun _ => Nat.zero_le _) hz4
  have erv : rvL B N 1000 (enS B N (stF 1 v (tkS B N 1 6 (xpS B N 0 (0, 0, 0, pln))))) = rvS B N := by
    unfold rvS; rw [hst]
  rw [erv] at hb6
  have e55' : rX q6 5 5 = some r := hb6.2.1.2.1
  have hR6 := hb6.1.2.2.1
  have run : am_cl (d + 30) mReader_read [.ref 5] (i, l, rX q, kX K) = am_Ex (d + 29) mReader_read 105 [.val (.ref 5), x1] [] (i6, l6, rX q6, kX K6) := by
    rw [c_Reader_read, e1, e2', am_bd_some, q_app0, b_Reader_read_46, e55]
    dsimp only
    rw [e3', am_bd_some]
    show am_Ex _ _ _ _ [.int (nI v), .ref r] _ = _
    rw [b_Reader_read_57, hk, cond_true, e5, am_bd_some, q_app0, b_Reader_read_64]
    exact e6
  refine ⟨i6, l6, q6, K6, ?_, hb6, RW_tr hw1 (RW_tr (RW_s ho2) (RW_tr (RW_s ho3) (RW_tr hw4 (RW_tr hw5 hw6)))), by have := hz6.2.1; omega, by have := hz6.2.2; omega⟩
  rw [run, b_Reader_read_105, hR6.1]
  by_cases c : (rvS B N).1 = 0
  · rw [c, show decide (¬ nI 0 = (0 : Int32)) = false from rfl, cond_false, e55', if_pos rfl]
    dsimp only
    rw [b_Reader_read_120]
  · rw [decide_eq_true (show ¬ nI (rvS B N).1 = (0 : Int32) from by
      show ¬ nI (rvS B N).1 = nI 0
      have := hR6.2.1
      rw [q_eq (by omega) (by omega)]; exact c), cond_true, if_neg c, b_Reader_read_120n]
end
