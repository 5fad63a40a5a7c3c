/-! THE LAW, WHOLE -/
section
variable {p : Program} {l : Launch} {e : Env} {s : State} {m : MethodId} {below : List Frame} {meth : Method} {c : Code} {b L : Nat} {xs : Nat → Int32} {dC : Nat → ClassId} {dI : Nat → Nat → Nat} {aC : Nat → ClassId} {ad : Nat → Nat} {w pc ci : Nat} {rest : List Value} {H : Heap} {locs : List Loc} {cells slots : Nat} {Q : State → Prop} {ls : Array Slot}
theorem am_W0 (aC : Nat → ClassId) (ad : Nat → Nat) (kd n : Nat) : am_W aC ad (aM0 kd n) = [(ad 0, am_E aC ad (aM0 kd n) 0)] := rfl
/-- an object is made -/
theorem lw_new (hC : LC p s m meth c b L xs dC dI aC) (h13 : ci < 13) (hcl : Cond.classLink R_law w (am_Rn ci) ∈ lw_tbl) (had : ad 0 = H.size) (hS : va_S (lw_A s) s.heap H locs) (hr1 : cells + 1 ≤ 600000) (hr2 : slots + am_N ci ≤ 7302250) (hd : decode code pc = .ok (.new w, 3)) (kk : ∀ H1 : Heap, va_P (dC, dI) vwCl (am_W aC ad (aM0 ci (am_N ci))) H1 → va_D (lw_A s) (am_W aC ad (aM0 ci (am_N ci))) → va_S (lw_A s) s.heap H1 locs → H1.size = H.size + 1 → (∀ q, q < H.size → H1[q]? = H[q]?) → W p l e room_1 s m #[Value.ref b] below meth c H1 locs (cells + 1) (slots + am_N ci) Q (F0 m (pc + 3) ls (.ref (ad 0) :: rest))) : W p l e room_1 s m #[Value.ref b] below meth c H locs cells slots Q (F0 m pc ls rest) := by
  obtain ⟨⟨hx, hb, hr, hml, hown, hts, hX, hbl, hlocks, hgv⟩, hK, _⟩ := id hC
  have hgw : ∀ w ∈ am_gw, w.before #[Value.ref b] s = true := fun w hw => hts w (List.mem_filter.mp hw).1
  have hKn := hK.1 ci _ (am_cg h13)
  refine W.newcK (C := am_Rn ci) (n := am_N ci) hx hb hown (hts _ hcl) (hgw _ (am_cnew h13).1) (hgw _ (am_cnew h13).2) rfl hd hr1 hr2 hKn.2.1 rfl (fun H1 kC hkC e1 z1 o1 => ?_)
  have hgo := kk H1
  rw [had] at hgo
  refine hgo ?_ ?_ ⟨Nat.le_trans hS.1 (by omega), fun x h1 h2 => (o1 x (Nat.lt_of_lt_of_le h1 hS.1)).trans (hS.2.1 x h1 h2), hS.2.2⟩ z1 o1
  · rw [am_W0]
    intro k x hk
    have hz : k < 1 := (List.getElem?_eq_some_iff.mp hk).1
    rw [show k = 0 by omega] at hk
    cases hk
    rw [am_E_obj (ci := ci) (show am_kd (aM0 ci (am_N ci)) 0 = ci from rfl) h13, had]
    refine ⟨_, am_cg h13, (u_born (am_ty ci) hts (fun w9 h9 => (List.mem_filter.mp (am_cin h13 w9 h9)).1) hKn hkC e1 (am_cty h13)).to ?_⟩
    intro j9 hj9
    show defaultValue (am_ty ci j9) = vp_V _ j9
    unfold vp_V
    rw [List.getD_eq_getElem?_getD, am_fs_get hj9, Option.getD_some]
    unfold am_fv aM0
    dsimp only
    exact am_dflt h13 hj9
  · rw [am_W0, had]
    refine ⟨fun i j p q h1 h2 _ => ?_, fun k q hk => ?_⟩
    · have := (List.getElem?_eq_some_iff.mp h1).1
      have := (List.getElem?_eq_some_iff.mp h2).1
      simp at *
      omega
    · have hz : k < 1 := (List.getElem?_eq_some_iff.mp hk).1
      rw [show k = 0 by omega] at hk
      cases hk
      exact hS.1
end
theorem sz_XM : 16 ≤ am_sz (kX []) ∧ 44 ≤ am_sz kM ∧ (kX []).length = 58 ∧ kM.length = 25 ∧ am_sz [(11, 16)] = 16 ∧ am_sz [(12, 44)] = 44 := by decide +kernel
set_option maxRecDepth 100000 in
set_option maxHeartbeats 4000000 in
theorem whole_start {p : Program} {e : Env} {s : State} {m : MethodId} {below : List Frame} {meth : Method} {c : Code} (l : Launch) (hflags : l.flags = flags0) {b L : Nat} {xs : Nat → Int32} (hL : L ≤ 3072) (C0 : lw_At p s m meth c b L xs) : W p l e room_1 s m #[Value.ref b] below meth c s.heap [] 0 0 (lw_Z below #[Value.ref b] s) (entryFrame m ([Value.ref b] : List Value).toArray 4) := by
  obtain ⟨hx, hb, hr, hml, hown, hts, hX, hbl, hlocks, hgv⟩ := id C0
  obtain ⟨dC, dI, aC, hK⟩ := lw_Kn hts
  obtain ⟨tx, htx⟩ := lw_Sy hts hgv
  obtain ⟨z1, z2, z3, z4, z5, z6⟩ := sz_XM
  have zc := sz_c
  obtain ⟨adX, eX⟩ : ∃ adX : Nat → Nat, (fun i => if i < 58 then s.heap.size + i else if i < 1000000 then s.heap.size + 25 + i else tx (i - 1000000)) = adX := ⟨_, rfl⟩
  obtain ⟨adM, eM⟩ : ∃ adM : Nat → Nat, (fun i => if i < 1000000 then s.heap.size + 58 + i else tx (i - 1000000)) = adM := ⟨_, rfl⟩
  have hLD : LD s.heap.size adX adM := by
    refine ⟨fun r h => ?_, fun r h1 h2 => ?_, fun r h => ?_⟩
    · rw [← eX]; exact if_pos h
    · rw [← eX]
      show (if r < 58 then _ else if r < 1000000 then _ else _) = _
      rw [if_neg (by omega), if_pos h2]
    · rw [← eM]; exact if_pos (by omega)
  have hSX : am_Sy adX (lw_A s) s := htx adX (fun k hk => by
    rw [← eX]
    show (if 1000000 + k < 58 then _ else if 1000000 + k < 1000000 then _ else tx (1000000 + k - 1000000)) = _
    rw [if_neg (by omega), if_neg (by omega), Nat.add_sub_cancel_left])
  have hSM : am_Sy adM (lw_A s) s := htx adM (fun k hk => by
    rw [← eM]
    show (if 1000000 + k < 1000000 then _ else tx (1000000 + k - 1000000)) = _
    rw [if_neg (by omega), Nat.add_sub_cancel_left])
  have hC : LC p s m meth c b L xs dC dI aC := ⟨C0, hK, fun w hw hn => va_Nw.of (am_N_ot hn) (hts w hw), va_AO.of (hts _ (am_ca_in (.arrayOver (.object "FordLine$Tray")) (by simp))), va_AO.of (hts _ (am_ca_in (.arrayOver (.object "FordLine$River")) (by simp)))⟩
  have hS : va_S (lw_A s) s.heap s.heap [] := va_S.rf
  have hl := lv_entry ([.ref b]) (n := 4) (Nat.le_of_ble_eq_true rfl)
  rw [lg_entry_eq]
  generalize (lg_sl ([.ref b]) ++ List.replicate (4 - (lg_sl ([.ref b])).length) Slot.unset).toArray = ls at hl ⊢
  have hl : lv_has ls 4 [(0, .ref b)] := hl
  -- the class
  refine lw_new (ad := adX) (ci := 11) (w := 7) hC (by decide) (by decide +kernel) (by rw [hLD.1 0 (by decide)]; rfl) hS (by decide) (by decide) dL_law_0 (fun H1 hP1 hD1 hS1 s1 o1 => ?_)
  refine lv_dup hx hb dL_law_3 rfl ?_
  obtain ⟨i, l0, q, eq0, hok⟩ := x_made
  obtain ⟨hXS, hrX⟩ := xs0 hok
  have hrunX : am_cl (20 + 1) mX_init [.ref 0] (aM0 11 16) = some (none, (i, l0, q, kX [])) := am_Ex_iff.mpr ⟨700, eq0⟩
  refine lw_callI (z := mX_init) (w := 9) (ad := adX) (v1 := none) (sA := aM0 11 16) (t := (i, l0, q, kX [])) (d := 20) hC hSX (by decide) rfl rfl rfl rfl (by decide +kernel) dL_law_4 hrunX (by decide) hP1 hD1 hS1 (fun j h1 h2 => ?_) (by show 0 + 1 + ((kX []).length - 1) ≤ 600000; rw [z3]; decide) (by show 0 + 16 + (am_sz (kX []) - am_sz [(11, 16)]) ≤ 7302250; omega) hl.1 (by show 1 ≤ 8; decide) (fun H2 locs2 hP2 hD2 hS2 s2 k2 => ?_)
  · have h1 : 1 ≤ j := h1
    have h2 : j < (kX []).length := h2
    rw [z3] at h2
    show adX j = H1.size + (j - 1)
    rw [hLD.1 j h2, s1]; omega
  have s2 : H2.size = H1.size + ((kX []).length - 1) := s2
  rw [z3] at s2
  rw [W_X hrX] at hP2 hD2
  show W p l e room_1 s m #[Value.ref b] below meth c H2 locs2 (0 + 1 + ((kX []).length - 1)) (0 + am_N 11 + (am_sz (kX []) - am_sz [(11, 16)])) (lw_Z below #[Value.ref b] s) (F0 m (0 + 3 + 1 + 3) ls [.ref (adX 0)])
  rw [show 0 + 1 + ((kX []).length - 1) = 58 by rw [z3], show 0 + am_N 11 + (am_sz (kX []) - am_sz [(11, 16)]) = am_sz (kX []) from by show 0 + 16 + (am_sz (kX []) - am_sz [(11, 16)]) = _; omega]
  refine lv_astore_n (lv' := [(1, .ref (adX 0)), (0, .ref b)]) hx hb dL_law_7 rfl hl (by decide) rfl (fun ls hl => ?_)
  -- the model
  refine lw_new (ad := adM) (ci := 12) (w := 10) hC (by decide) (by decide +kernel) (by rw [hLD.2.2 0 (by decide)]; omega) hS2 (by decide) (by show am_sz (kX []) + 44 ≤ 7302250; omega) dL_law_8 (fun H3 hP3 hD3 hS3 s3 o3 => ?_)
  refine lv_dup hx hb dL_law_11 rfl ?_
  obtain ⟨i2, l2, q2, em, hmok, hpl⟩ := m_made 20
  obtain ⟨hMS, hrM⟩ := ms0 hmok hpl
  have hrunM : am_cl (21 + 1) mM_init [.ref 0] (aM0 12 44) = some (none, (i2, l2, q2, kM)) := em
  refine lw_callI (z := mM_init) (w := 12) (ad := adM) (v1 := none) (sA := aM0 12 44) (t := (i2, l2, q2, kM)) (d := 21) hC hSM (by decide) rfl rfl rfl rfl (by decide +kernel) dL_law_12 hrunM (by decide) hP3 hD3 hS3 (fun j h1 h2 => ?_) (by show 58 + 1 + (kM.length - 1) ≤ 600000; rw [z4]; decide) (by show am_sz (kX []) + 44 + (am_sz kM - am_sz [(12, 44)]) ≤ 7302250; omega) hl.1 (by show 1 ≤ 8; decide) (fun H4 locs4 hP4 hD4 hS4 s4 k4 => ?_)
  · have h1 : 1 ≤ j := h1
    have h2 : j < kM.length := h2
    rw [z4] at h2
    show adM j = H3.size + (j - 1)
    rw [hLD.2.2 j h2, s3]; omega
  have s4 : H4.size = H3.size + (kM.length - 1) := s4
  rw [z4] at s4
  rw [W_M hrM] at hP4 hD4
  show W p l e room_1 s m #[Value.ref b] below meth c H4 locs4 (58 + 1 + (kM.length - 1)) (am_sz (kX []) + am_N 12 + (am_sz kM - am_sz [(12, 44)])) (lw_Z below #[Value.ref b] s) (F0 m (0 + 3 + 1 + 3 + 1 + 3 + 1 + 3) ls [.ref (adM 0)])
  refine lv_astore_n (lv' := [(2, .ref (adM 0)), (1, .ref (adX 0)), (0, .ref b)]) hx hb dL_law_15 rfl hl (by decide) rfl (fun ls hl => ?_)
  refine lv_iconst (v := 0) hx hb dL_law_16 (by decide) ?_
  refine lv_istore_n (lv' := [(3, .int 0), (2, .ref (adM 0)), (1, .ref (adX 0)), (0, .ref b)]) hx hb dL_law_17 rfl hl (by decide) rfl (fun ls hl => ?_)
  have hP5 : va_P (dC, dI) vwCl (am_W aC adX (i, l0, rX q, kX [])) H3 := hP2.kept (fun k x hk => by
    obtain ⟨k1, k9⟩ := am_W_in hk
    have k1 : k < (kX []).length := k1
    rw [z3] at k1
    refine o3 x.1 ?_
    rw [k9, hLD.1 k k1]; omega)
  have hP6 : va_P (dC, dI) vwCl (am_W aC adX (i, l0, rX q, kX [])) H4 := hP5.kept (fun k x hk => by
    obtain ⟨k1, k9⟩ := am_W_in hk
    have k1 : k < (kX []).length := k1
    rw [z3] at k1
    have e9 := hLD.1 k k1
    refine k4 x.1 (by rw [k9, e9]; omega) (fun z => ?_)
    rcases z with ⟨k', x', hz⟩ | z
    · obtain ⟨j1, j2⟩ := am_W_in hz
      have j1 : k' < 1 := j1
      have j2 : x.1 = adM k' := j2
      rw [k9, e9, hLD.2.2 k' (by omega)] at j2
      omega
    · rw [k9, e9] at z; omega)
  have c1 : 58 + 1 + (kM.length - 1) = 83 + ([] : List (Nat × Nat)).length := by rw [z4]; rfl
  have c2 : am_sz (kX []) + am_N 12 + (am_sz kM - am_sz [(12, 44)]) = am_sz (kX []) + am_sz kM := by
    have : am_N 12 = 44 := rfl
    omega
  rw [c1, c2]
  exact law_loop hC hLD hSX hSM hL 600 0 ls H4 locs4 _ _ (by omega) (lv_sub hl [3, 2, 1, 0] rfl) ⟨st0, i, l0, q, [], i2, l2, hXS, hMS, ⟨hP6, hP4, hD2, hD4, hS4⟩, by
    show H4.size = s.heap.size + 83 + 0
    omega, rfl, rfl⟩
