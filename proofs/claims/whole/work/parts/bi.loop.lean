/-! THE LAW: its loop -/
section
variable {p : Program} {l : Launch} {e : Env} {s : State} {m : MethodId} {below : List Frame} {meth : Method} {c : Code} {b L : Nat} {xs : Nat → Int32} {dC : Nat → ClassId} {dI : Nat → Nat → Nat} {aC : Nat → ClassId} {adX adM : Nat → Nat} {n : Nat} {H : Heap} {locs : List Loc} {cells slots : Nat} {Q : State → Prop} {ls : Array Slot}
theorem nI_sub6 {a : Nat} (h : 6 ≤ a) : nI a - (6 : Int32) = nI (a - 6) := by
  have e : nI (a - 6) + nI 6 = nI a := by rw [nI_add]; congr 1; omega
  rw [← e]
  exact Int32.add_sub_cancel _ _
theorem lw_more (hL : L ≤ 3072) (hn : n ≤ 600) : (nI L - (6 : Int32) < nI (6 * n)) ↔ ¬ 6 * n + 6 ≤ L := by
  by_cases c : 6 ≤ L
  · rw [nI_sub6 c, q_lt (by omega) (by omega)]
    omega
  · have neg : ∀ a, a < 6 → nI a - (6 : Int32) < 0 := by decide
    have h0 : (0 : Int32) ≤ nI (6 * n) := by
      show nI 0 ≤ nI (6 * n)
      rw [q_le (by omega) (by omega)]; omega
    have h1 := neg L (by omega)
    rw [fa_lt] at h1 ⊢
    rw [fa_le] at h0
    exact ⟨fun _ => by omega, fun _ => by omega⟩
set_option maxRecDepth 100000 in
set_option maxHeartbeats 4000000 in
/-- at the loop's head -/
theorem law_head (hC : LC p s m meth c b L xs dC dI aC) (hLD : LD s.heap.size adX adM) (hSX : am_Sy adX (lw_A s) s) (hSM : am_Sy adM (lw_A s) s) (hL : L ≤ 3072) (hn : n ≤ 600) (hl : lv_has ls 4 [(0, .ref b), (1, .ref (adX 0)), (2, .ref (adM 0)), (3, .int (nI (6 * n)))]) (hS : LSt dC dI aC adX adM s n H locs cells slots) (kk : 6 * n + 6 ≤ L → W p l e room_1 s m #[Value.ref b] below meth c H locs cells slots (lw_Z below #[Value.ref b] s) (F0 m 27 ls [])) : W p l e room_1 s m #[Value.ref b] below meth c H locs cells slots (lw_Z below #[Value.ref b] s) (F0 m 18 ls []) := by
  obtain ⟨⟨hx, hb, hr, hml, hown, hts, hX0, hbl, hlocks, hgv⟩, _⟩ := id hC
  have hbA : ¬ lw_A s b := Nat.not_le.mpr hbl
  have hSS := LS_S hS
  refine lv_iload_n hx hb dL_law_18 rfl (lv_at hl 3 rfl) ?_
  refine lv_aload_n hx hb dL_law_19 rfl (lv_at hl 0 rfl) ?_
  refine va_slen hx hb hX0 hbl hbA hSS dL_law_20 ?_
  refine lv_bipush (v := 6) hx hb dL_law_21 (by decide) ?_
  refine lv_isub hx hb dL_law_23 ?_
  refine lv_icmp_gt (tgt := 1521) hx hb dL_law_24 (by decide) (fun c1 => ?_) (fun c1 => ?_)
  · obtain ⟨_, _, _, _, _, _, _, hX, _, _, _, e1, e2⟩ := id hS
    obtain ⟨r1, r2⟩ := XS_room hX hn
    refine lv_iconst (v := 1) hx hb dL_law_1521 (by decide) ?_
    refine va_forget (fun q hq => hSS.2.2 q hq) ?_
    refine W.widen (k := 600000) (n := 7302250) (by omega) (by omega) ?_
    exact lw_ret hx hb hr hlocks dL_law_1522
  · refine kk ?_
    have c1 : ¬ nI L - (6 : Int32) < nI (6 * n) := c1
    rw [lw_more hL hn] at c1
    omega
set_option maxRecDepth 100000 in
set_option maxHeartbeats 4000000 in
/-- one call -/
theorem law_turn (hC : LC p s m meth c b L xs dC dI aC) (hLD : LD s.heap.size adX adM) (hSX : am_Sy adX (lw_A s) s) (hSM : am_Sy adM (lw_A s) s) (hL : L ≤ 3072) (hn : 6 * n + 6 ≤ L) (hl : lv_has ls 4 [(0, .ref b), (1, .ref (adX 0)), (2, .ref (adM 0)), (3, .int (nI (6 * n)))]) (hS : LSt dC dI aC adX adM s n H locs cells slots) (hmo : LSt dC dI aC adX adM s (n + 1) H locs cells slots) (kk : ∀ H' locs' c' s', LSt dC dI aC adX adM s (n + 1) H' locs' c' s' → W p l e room_1 s m #[Value.ref b] below meth c H' locs' c' s' Q (F0 m 1515 ls [])) : W p l e room_1 s m #[Value.ref b] below meth c H locs cells slots Q (F0 m 27 ls []) := by
  obtain ⟨⟨hx, hb, hr, hml, hown, hts, hX0, hbl, hlocks, hgv⟩, _⟩ := id hC
  have hbA : ¬ lw_A s b := Nat.not_le.mpr hbl
  have hSS := LS_S hS
  have hin : vp_in (nI (6 * n)) L := vp_in_nI (by omega) (by omega)
  refine lv_aload_n hx hb dL_law_27 rfl (lv_at hl 0 rfl) ?_
  refine lv_iload_n hx hb dL_law_28 rfl (lv_at hl 3 rfl) ?_
  refine va_sld hx hb hX0 hbl hbA hSS hin dL_law_29 ?_
  refine lv_bipush (v := 63) hx hb dL_law_30 (by decide) ?_
  refine lv_iand hx hb dL_law_32 ?_
  rw [show ∀ y : Int32, y &&& 63 = nI (y.toBitVec.toNat % 2 ^ 6) from fun y => pk_and y 6 rfl]
  generalize hk : (xs (nI (6 * n)).toNatClampNeg).toBitVec.toNat % 2 ^ 6 = k
  have hk64 : k < 64 := by rw [← hk]; exact Nat.mod_lt _ (by decide)
  have hti : (nI k).toInt = k := nI_toInt (by omega)
  by_cases k0 : k = 0
  · subst k0
    exact lv_tableIn (tgt := 228) hx hb dL_law_33 (by rw [hti]; decide) (by rw [hti]; decide) (by rw [hti]; rfl) (by decide) (law_0 hC hLD hSX hSM hl hn hL hS kk)
  by_cases k1 : k = 1
  · subst k1
    exact lv_tableIn (tgt := 291) hx hb dL_law_33 (by rw [hti]; decide) (by rw [hti]; decide) (by rw [hti]; rfl) (by decide) (law_1 hC hLD hSX hSM hl hn hL hS kk)
  by_cases k2 : k = 2
  · subst k2
    exact lv_tableIn (tgt := 314) hx hb dL_law_33 (by rw [hti]; decide) (by rw [hti]; decide) (by rw [hti]; rfl) (by decide) (law_2 hC hLD hSX hSM hl hn hL hS kk)
  by_cases k3 : k = 3
  · subst k3
    exact lv_tableIn (tgt := 337) hx hb dL_law_33 (by rw [hti]; decide) (by rw [hti]; decide) (by rw [hti]; rfl) (by decide) (law_3 hC hLD hSX hSM hl hn hL hS kk)
  by_cases k4 : k = 4
  · subst k4
    exact lv_tableIn (tgt := 370) hx hb dL_law_33 (by rw [hti]; decide) (by rw [hti]; decide) (by rw [hti]; rfl) (by decide) (law_4 hC hLD hSX hSM hl hn hL hS kk)
  by_cases k5 : k = 5
  · subst k5
    exact lv_tableIn (tgt := 403) hx hb dL_law_33 (by rw [hti]; decide) (by rw [hti]; decide) (by rw [hti]; rfl) (by decide) (law_5 hC hLD hSX hSM hl hn hL hS kk)
  by_cases k6 : k = 6
  · subst k6
    exact lv_tableIn (tgt := 446) hx hb dL_law_33 (by rw [hti]; decide) (by rw [hti]; decide) (by rw [hti]; rfl) (by decide) (law_6 hC hLD hSX hSM hl hn hL hS kk)
  by_cases k7 : k = 7
  · subst k7
    exact lv_tableIn (tgt := 479) hx hb dL_law_33 (by rw [hti]; decide) (by rw [hti]; decide) (by rw [hti]; rfl) (by decide) (law_7 hC hLD hSX hSM hl hn hL hS kk)
  by_cases k8 : k = 8
  · subst k8
    exact lv_tableIn (tgt := 512) hx hb dL_law_33 (by rw [hti]; decide) (by rw [hti]; decide) (by rw [hti]; rfl) (by decide) (law_8 hC hLD hSX hSM hl hn hL hS kk)
  by_cases k9 : k = 9
  · subst k9
    exact lv_tableIn (tgt := 545) hx hb dL_law_33 (by rw [hti]; decide) (by rw [hti]; decide) (by rw [hti]; rfl) (by decide) (law_9 hC hLD hSX hSM hl hn hL hS kk)
  by_cases k10 : k = 10
  · subst k10
    exact lv_tableIn (tgt := 568) hx hb dL_law_33 (by rw [hti]; decide) (by rw [hti]; decide) (by rw [hti]; rfl) (by decide) (law_10 hC hLD hSX hSM hl hn hL hS kk)
  by_cases k11 : k = 11
  · subst k11
    exact lv_tableIn (tgt := 601) hx hb dL_law_33 (by rw [hti]; decide) (by rw [hti]; decide) (by rw [hti]; rfl) (by decide) (law_11 hC hLD hSX hSM hl hn hL hS kk)
  by_cases k12 : k = 12
  · subst k12
    exact lv_tableIn (tgt := 634) hx hb dL_law_33 (by rw [hti]; decide) (by rw [hti]; decide) (by rw [hti]; rfl) (by decide) (law_12 hC hLD hSX hSM hl hn hL hS kk)
  by_cases k13 : k = 13
  · subst k13
    exact lv_tableIn (tgt := 657) hx hb dL_law_33 (by rw [hti]; decide) (by rw [hti]; decide) (by rw [hti]; rfl) (by decide) (law_13 hC hLD hSX hSM hl hn hL hS kk)
  by_cases k14 : k = 14
  · subst k14
    exact lv_tableIn (tgt := 690) hx hb dL_law_33 (by rw [hti]; decide) (by rw [hti]; decide) (by rw [hti]; rfl) (by decide) (law_14 hC hLD hSX hSM hl hn hL hS kk)
  by_cases k15 : k = 15
  · subst k15
    exact lv_tableIn (tgt := 713) hx hb dL_law_33 (by rw [hti]; decide) (by rw [hti]; decide) (by rw [hti]; rfl) (by decide) (law_15 hC hLD hSX hSM hl hn hL hS kk)
  by_cases k16 : k = 16
  · subst k16
    exact lv_tableIn (tgt := 746) hx hb dL_law_33 (by rw [hti]; decide) (by rw [hti]; decide) (by rw [hti]; rfl) (by decide) (law_16 hC hLD hSX hSM hl hn hL hS kk)
  by_cases k17 : k = 17
  · subst k17
    exact lv_tableIn (tgt := 769) hx hb dL_law_33 (by rw [hti]; decide) (by rw [hti]; decide) (by rw [hti]; rfl) (by decide) (law_17 hC hLD hSX hSM hl hn hL hS kk)
  by_cases k18 : k = 18
  · subst k18
    exact lv_tableIn (tgt := 802) hx hb dL_law_33 (by rw [hti]; decide) (by rw [hti]; decide) (by rw [hti]; rfl) (by decide) (law_18 hC hLD hSX hSM hl hn hL hS kk)
  by_cases k19 : k = 19
  · subst k19
    exact lv_tableIn (tgt := 836) hx hb dL_law_33 (by rw [hti]; decide) (by rw [hti]; decide) (by rw [hti]; rfl) (by decide) (law_19 hC hLD hSX hSM hl hn hL hS kk)
  by_cases k20 : k = 20
  · subst k20
    exact lv_tableIn (tgt := 859) hx hb dL_law_33 (by rw [hti]; decide) (by rw [hti]; decide) (by rw [hti]; rfl) (by decide) (law_20 hC hLD hSX hSM hl hn hL hS kk)
  by_cases k21 : k = 21
  · subst k21
    exact lv_tableIn (tgt := 882) hx hb dL_law_33 (by rw [hti]; decide) (by rw [hti]; decide) (by rw [hti]; rfl) (by decide) (law_21 hC hLD hSX hSM hl hn hL hS kk)
  by_cases k22 : k = 22
  · subst k22
    exact lv_tableIn (tgt := 895) hx hb dL_law_33 (by rw [hti]; decide) (by rw [hti]; decide) (by rw [hti]; rfl) (by decide) (law_22 hC hLD hSX hSM hl hn hL hS kk)
  by_cases k23 : k = 23
  · subst k23
    exact lv_tableIn (tgt := 918) hx hb dL_law_33 (by rw [hti]; decide) (by rw [hti]; decide) (by rw [hti]; rfl) (by decide) (law_23 hC hLD hSX hSM hl hn hL hS kk)
  by_cases k24 : k = 24
  · subst k24
    exact lv_tableIn (tgt := 931) hx hb dL_law_33 (by rw [hti]; decide) (by rw [hti]; decide) (by rw [hti]; rfl) (by decide) (law_24 hC hLD hSX hSM hl hn hL hS kk)
  by_cases k25 : k = 25
  · subst k25
    exact lv_tableIn (tgt := 954) hx hb dL_law_33 (by rw [hti]; decide) (by rw [hti]; decide) (by rw [hti]; rfl) (by decide) (law_25 hC hLD hSX hSM hl hn hL hS kk)
  by_cases k26 : k = 26
  · subst k26
    exact lv_tableIn (tgt := 977) hx hb dL_law_33 (by rw [hti]; decide) (by rw [hti]; decide) (by rw [hti]; rfl) (by decide) (law_26 hC hLD hSX hSM hl hn hL hS kk)
  by_cases k27 : k = 27
  · subst k27
    exact lv_tableIn (tgt := 1000) hx hb dL_law_33 (by rw [hti]; decide) (by rw [hti]; decide) (by rw [hti]; rfl) (by decide) (law_27 hC hLD hSX hSM hl hn hL hS kk)
  by_cases k28 : k = 28
  · subst k28
    exact lv_tableIn (tgt := 1013) hx hb dL_law_33 (by rw [hti]; decide) (by rw [hti]; decide) (by rw [hti]; rfl) (by decide) (law_28 hC hLD hSX hSM hl hn hL hS kk)
  by_cases k29 : k = 29
  · subst k29
    exact lv_tableIn (tgt := 1036) hx hb dL_law_33 (by rw [hti]; decide) (by rw [hti]; decide) (by rw [hti]; rfl) (by decide) (law_29 hC hLD hSX hSM hl hn hL hS kk)
  by_cases k30 : k = 30
  · subst k30
    exact lv_tableIn (tgt := 1049) hx hb dL_law_33 (by rw [hti]; decide) (by rw [hti]; decide) (by rw [hti]; rfl) (by decide) (law_30 hC hLD hSX hSM hl hn hL hS kk)
  by_cases k31 : k = 31
  · subst k31
    exact lv_tableIn (tgt := 1072) hx hb dL_law_33 (by rw [hti]; decide) (by rw [hti]; decide) (by rw [hti]; rfl) (by decide) (law_31 hC hLD hSX hSM hl hn hL hS kk)
  by_cases k32 : k = 32
  · subst k32
    exact lv_tableIn (tgt := 1085) hx hb dL_law_33 (by rw [hti]; decide) (by rw [hti]; decide) (by rw [hti]; rfl) (by decide) (law_32 hC hLD hSX hSM hl hn hL hS kk)
  by_cases k33 : k = 33
  · subst k33
    exact lv_tableIn (tgt := 1118) hx hb dL_law_33 (by rw [hti]; decide) (by rw [hti]; decide) (by rw [hti]; rfl) (by decide) (law_33 hC hLD hSX hSM hl hn hL hS kk)
  by_cases k34 : k = 34
  · subst k34
    exact lv_tableIn (tgt := 1151) hx hb dL_law_33 (by rw [hti]; decide) (by rw [hti]; decide) (by rw [hti]; rfl) (by decide) (law_34 hC hLD hSX hSM hl hn hL hS kk)
  by_cases k35 : k = 35
  · subst k35
    exact lv_tableIn (tgt := 1174) hx hb dL_law_33 (by rw [hti]; decide) (by rw [hti]; decide) (by rw [hti]; rfl) (by decide) (law_35 hC hLD hSX hSM hl hn hL hS kk)
  by_cases k36 : k = 36
  · subst k36
    exact lv_tableIn (tgt := 1197) hx hb dL_law_33 (by rw [hti]; decide) (by rw [hti]; decide) (by rw [hti]; rfl) (by decide) (law_36 hC hLD hSX hSM hl hn hL hS kk)
  by_cases k37 : k = 37
  · subst k37
    exact lv_tableIn (tgt := 1220) hx hb dL_law_33 (by rw [hti]; decide) (by rw [hti]; decide) (by rw [hti]; rfl) (by decide) (law_37 hC hLD hSX hSM hl hn hL hS kk)
  by_cases k38 : k = 38
  · subst k38
    exact lv_tableIn (tgt := 1263) hx hb dL_law_33 (by rw [hti]; decide) (by rw [hti]; decide) (by rw [hti]; rfl) (by decide) (law_38 hC hLD hSX hSM hl hn hL hS kk)
  by_cases k39 : k = 39
  · subst k39
    exact lv_tableIn (tgt := 1296) hx hb dL_law_33 (by rw [hti]; decide) (by rw [hti]; decide) (by rw [hti]; rfl) (by decide) (law_39 hC hLD hSX hSM hl hn hL hS kk)
  by_cases k40 : k = 40
  · subst k40
    exact lv_tableIn (tgt := 1339) hx hb dL_law_33 (by rw [hti]; decide) (by rw [hti]; decide) (by rw [hti]; rfl) (by decide) (law_40 hC hLD hSX hSM hl hn hL hS kk)
  by_cases k41 : k = 41
  · subst k41
    exact lv_tableIn (tgt := 1413) hx hb dL_law_33 (by rw [hti]; decide) (by rw [hti]; decide) (by rw [hti]; rfl) (by decide) (law_41 hC hLD hSX hSM hl hn hL hS kk)
  by_cases k42 : k = 42
  · subst k42
    exact lv_tableIn (tgt := 1446) hx hb dL_law_33 (by rw [hti]; decide) (by rw [hti]; decide) (by rw [hti]; rfl) (by decide) (law_42 hC hLD hSX hSM hl hn hL hS kk)
  by_cases k43 : k = 43
  · subst k43
    exact lv_tableIn (tgt := 1469) hx hb dL_law_33 (by rw [hti]; decide) (by rw [hti]; decide) (by rw [hti]; rfl) (by decide) (law_43 hC hLD hSX hSM hl hn hL hS kk)
  by_cases k44 : k = 44
  · subst k44
    exact lv_tableIn (tgt := 1492) hx hb dL_law_33 (by rw [hti]; decide) (by rw [hti]; decide) (by rw [hti]; rfl) (by decide) (law_44 hC hLD hSX hSM hl hn hL hS kk)
  exact lv_tableOut (tgt := 1515) hx hb dL_law_33 (Or.inr (by rw [hti]; omega)) (by decide) (kk H locs cells slots hmo)
theorem LS_mo (h : LSt dC dI aC adX adM s n H locs cells slots) : LSt dC dI aC adX adM s (n + 1) H locs cells slots := by
  obtain ⟨σ, i, l0, q, K, i2, l2, hX, hr⟩ := h
  refine ⟨σ, i, l0, q, K, i2, l2, ?_, hr⟩
  obtain ⟨i', l', q', K', e, hX'⟩ := XS_id (vv := .int 0) hX rfl
  have e : some (some (Value.int 0), (i, l0, rX q, kX K)) = some (some (Value.int 0), (i', l', rX q', kX K')) := e
  obtain ⟨ρ, W, v, r, m, a, b, c, d, f, g, hh, j, k, hv, p, s, z⟩ := hX
  exact ⟨ρ, W, v, r, m, a, b, c, d, f, g, hh, j, k, by omega, p, s, ZS_mo (by omega) z⟩
set_option maxRecDepth 100000 in
set_option maxHeartbeats 4000000 in
theorem law_loop (hC : LC p s m meth c b L xs dC dI aC) (hLD : LD s.heap.size adX adM) (hSX : am_Sy adX (lw_A s) s) (hSM : am_Sy adM (lw_A s) s) (hL : L ≤ 3072) : ∀ f n ls H locs cells slots, n + f = 600 → lv_has ls 4 [(0, .ref b), (1, .ref (adX 0)), (2, .ref (adM 0)), (3, .int (nI (6 * n)))] → LSt dC dI aC adX adM s n H locs cells slots → W p l e room_1 s m #[Value.ref b] below meth c H locs cells slots (lw_Z below #[Value.ref b] s) (F0 m 18 ls []) := by
  obtain ⟨⟨hx, hb, hr, hml, hown, hts, hX0, hbl, hlocks, hgv⟩, _⟩ := id hC
  intro f
  induction f with
  | zero =>
    intro n ls H locs cells slots hf hl hS
    exact law_head hC hLD hSX hSM hL (by omega) hl hS (fun h => by omega)
  | succ f ih =>
    intro n ls H locs cells slots hf hl hS
    refine law_head hC hLD hSX hSM hL (by omega) hl hS (fun hn => ?_)
    refine law_turn hC hLD hSX hSM hL hn hl hS (LS_mo hS) (fun H' locs' c' s' hS' => ?_)
    refine lv_iinc (v := nI (6 * (n + 1))) (lv' := [(3, .int (nI (6 * (n + 1)))), (0, .ref b), (1, .ref (adX 0)), (2, .ref (adM 0))]) hx hb dL_law_1515 hl (k := 3) rfl (by show nI (6 * n) + nI 6 = _; rw [nI_add]; congr 1) (by decide) rfl (fun ls hl => ?_)
    refine lv_goto (tgt := 18) hx hb dL_law_1518 (by decide) ?_
    exact ih (n + 1) ls H' locs' c' s' (by omega) (lv_sub hl [1, 2, 3, 0] rfl) hS'
end
