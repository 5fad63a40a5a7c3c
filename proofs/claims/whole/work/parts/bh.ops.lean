/-! THE LAW: its calls 36 to 44, by program -/
section
variable {p : Program} {l : Launch} {e : Env} {s : State} {m : MethodId} {below : List Frame} {meth : Method} {c : Code} {b L : Nat} {xs : Nat → Int32} {dC : Nat → ClassId} {dI : Nat → Nat → Nat} {aC : Nat → ClassId} {adX adM : Nat → Nat} {n : Nat} {H : Heap} {locs : List Loc} {cells slots : Nat} {Q : State → Prop} {ls : Array Slot}
set_option maxRecDepth 100000 in
set_option maxHeartbeats 4000000 in
theorem law_36 (hC : LC p s m meth c b L xs dC dI aC) (hLD : LD s.heap.size adX adM) (hSX : am_Sy adX (lw_A s) s) (hSM : am_Sy adM (lw_A s) s) (hl : lv_has ls 4 [(0, .ref b), (1, .ref (adX 0)), (2, .ref (adM 0)), (3, .int (nI (6 * n)))]) (hn : 6 * n + 6 ≤ L) (hL : L ≤ 3072) (hS : LSt dC dI aC adX adM s n H locs cells slots) (kk : ∀ H' locs' c' s', LSt dC dI aC adX adM s (n + 1) H' locs' c' s' → W p l e room_1 s m #[Value.ref b] below meth c H' locs' c' s' Q (F0 m 1515 ls [])) : W p l e room_1 s m #[Value.ref b] below meth c H locs cells slots Q (F0 m 1197 ls []) := by
  obtain ⟨⟨hx, hb, hr, hml, hown, hts, hX0, hbl, hlocks, hgv⟩, _⟩ := id hC
  refine lv_aload_n hx hb (by decide +kernel) rfl (lv_at hl 1 rfl) ?_
  refine lw_arg (j := 1) hC (LS_S hS) hl hn hL (by decide) (by decide +kernel) (by decide +kernel) (by decide +kernel) (by decide +kernel) (by decide +kernel) ?_
  refine lw_X (zx := mX_best) (zm := mM_best) (w := 163) (lg := false) (As := [.int (xs (6 * n + 1))]) hC hLD hSX (by decide) rfl (by decide) rfl rfl (by decide +kernel) (by decide +kernel) (by omega) (fun σ i l0 q K i2 l2 hX hM => bo_best _ (by omega) hX hM) rfl hl.1 hS (fun vv H1 locs1 c1 s1 hv hM => ?_)
  obtain ⟨r, rfl⟩ := hv
  refine lv_aload_n hx hb (by decide +kernel) rfl (lv_at hl 2 rfl) ?_
  refine lw_arg (j := 1) hC (LM_S hM) hl hn hL (by decide) (by decide +kernel) (by decide +kernel) (by decide +kernel) (by decide +kernel) (by decide +kernel) ?_
  refine lw_M (zm := mM_best) (w := 166) (lg := false) (As := [.int (xs (6 * n + 1))]) hC hLD hSM (by decide) rfl (by decide) rfl rfl (by decide +kernel) (by decide +kernel) (by omega) ⟨r, rfl⟩ rfl hl.1 hM (fun H2 locs2 c2 s2 hS2 => ?_)
  exact lv_icmp_eq (tgt := 1515) hx hb (by decide +kernel) (by decide) (fun _ => kk H2 locs2 c2 s2 hS2) (fun z => absurd rfl z)
set_option maxRecDepth 100000 in
set_option maxHeartbeats 4000000 in
theorem law_37 (hC : LC p s m meth c b L xs dC dI aC) (hLD : LD s.heap.size adX adM) (hSX : am_Sy adX (lw_A s) s) (hSM : am_Sy adM (lw_A s) s) (hl : lv_has ls 4 [(0, .ref b), (1, .ref (adX 0)), (2, .ref (adM 0)), (3, .int (nI (6 * n)))]) (hn : 6 * n + 6 ≤ L) (hL : L ≤ 3072) (hS : LSt dC dI aC adX adM s n H locs cells slots) (kk : ∀ H' locs' c' s', LSt dC dI aC adX adM s (n + 1) H' locs' c' s' → W p l e room_1 s m #[Value.ref b] below meth c H' locs' c' s' Q (F0 m 1515 ls [])) : W p l e room_1 s m #[Value.ref b] below meth c H locs cells slots Q (F0 m 1220 ls []) := by
  obtain ⟨⟨hx, hb, hr, hml, hown, hts, hX0, hbl, hlocks, hgv⟩, _⟩ := id hC
  refine lv_aload_n hx hb (by decide +kernel) rfl (lv_at hl 1 rfl) ?_
  refine lw_arg (j := 1) hC (LS_S hS) hl hn hL (by decide) (by decide +kernel) (by decide +kernel) (by decide +kernel) (by decide +kernel) (by decide +kernel) ?_
  refine lw_arg (j := 2) hC (LS_S hS) hl hn hL (by decide) (by decide +kernel) (by decide +kernel) (by decide +kernel) (by decide +kernel) (by decide +kernel) ?_
  refine lw_arg (j := 3) hC (LS_S hS) hl hn hL (by decide) (by decide +kernel) (by decide +kernel) (by decide +kernel) (by decide +kernel) (by decide +kernel) ?_
  refine lw_X (zx := mX_chance) (zm := mM_chance) (w := 167) (lg := false) (As := [.int (xs (6 * n + 1)), .int (xs (6 * n + 2)), .int (xs (6 * n + 3))]) hC hLD hSX (by decide) rfl (by decide) rfl rfl (by decide +kernel) (by decide +kernel) (by omega) (fun σ i l0 q K i2 l2 hX hM => bo_chance _ _ _ (by omega) hX hM) rfl hl.1 hS (fun vv H1 locs1 c1 s1 hv hM => ?_)
  obtain ⟨r, rfl⟩ := hv
  refine lv_aload_n hx hb (by decide +kernel) rfl (lv_at hl 2 rfl) ?_
  refine lw_arg (j := 1) hC (LM_S hM) hl hn hL (by decide) (by decide +kernel) (by decide +kernel) (by decide +kernel) (by decide +kernel) (by decide +kernel) ?_
  refine lw_arg (j := 2) hC (LM_S hM) hl hn hL (by decide) (by decide +kernel) (by decide +kernel) (by decide +kernel) (by decide +kernel) (by decide +kernel) ?_
  refine lw_arg (j := 3) hC (LM_S hM) hl hn hL (by decide) (by decide +kernel) (by decide +kernel) (by decide +kernel) (by decide +kernel) (by decide +kernel) ?_
  refine lw_M (zm := mM_chance) (w := 170) (lg := false) (As := [.int (xs (6 * n + 1)), .int (xs (6 * n + 2)), .int (xs (6 * n + 3))]) hC hLD hSM (by decide) rfl (by decide) rfl rfl (by decide +kernel) (by decide +kernel) (by omega) ⟨r, rfl⟩ rfl hl.1 hM (fun H2 locs2 c2 s2 hS2 => ?_)
  exact lv_icmp_eq (tgt := 1515) hx hb (by decide +kernel) (by decide) (fun _ => kk H2 locs2 c2 s2 hS2) (fun z => absurd rfl z)
set_option maxRecDepth 100000 in
set_option maxHeartbeats 4000000 in
theorem law_38 (hC : LC p s m meth c b L xs dC dI aC) (hLD : LD s.heap.size adX adM) (hSX : am_Sy adX (lw_A s) s) (hSM : am_Sy adM (lw_A s) s) (hl : lv_has ls 4 [(0, .ref b), (1, .ref (adX 0)), (2, .ref (adM 0)), (3, .int (nI (6 * n)))]) (hn : 6 * n + 6 ≤ L) (hL : L ≤ 3072) (hS : LSt dC dI aC adX adM s n H locs cells slots) (kk : ∀ H' locs' c' s', LSt dC dI aC adX adM s (n + 1) H' locs' c' s' → W p l e room_1 s m #[Value.ref b] below meth c H' locs' c' s' Q (F0 m 1515 ls [])) : W p l e room_1 s m #[Value.ref b] below meth c H locs cells slots Q (F0 m 1263 ls []) := by
  obtain ⟨⟨hx, hb, hr, hml, hown, hts, hX0, hbl, hlocks, hgv⟩, _⟩ := id hC
  refine lv_aload_n hx hb (by decide +kernel) rfl (lv_at hl 1 rfl) ?_
  refine lw_arg (j := 1) hC (LS_S hS) hl hn hL (by decide) (by decide +kernel) (by decide +kernel) (by decide +kernel) (by decide +kernel) (by decide +kernel) ?_
  refine lw_arg (j := 2) hC (LS_S hS) hl hn hL (by decide) (by decide +kernel) (by decide +kernel) (by decide +kernel) (by decide +kernel) (by decide +kernel) ?_
  refine lw_X (zx := mX_mean) (zm := mM_mean) (w := 171) (lg := false) (As := [.int (xs (6 * n + 1)), .int (xs (6 * n + 2))]) hC hLD hSX (by decide) rfl (by decide) rfl rfl (by decide +kernel) (by decide +kernel) (by omega) (fun σ i l0 q K i2 l2 hX hM => bo_mean _ _ (by omega) hX hM) rfl hl.1 hS (fun vv H1 locs1 c1 s1 hv hM => ?_)
  obtain ⟨r, rfl⟩ := hv
  refine lv_aload_n hx hb (by decide +kernel) rfl (lv_at hl 2 rfl) ?_
  refine lw_arg (j := 1) hC (LM_S hM) hl hn hL (by decide) (by decide +kernel) (by decide +kernel) (by decide +kernel) (by decide +kernel) (by decide +kernel) ?_
  refine lw_arg (j := 2) hC (LM_S hM) hl hn hL (by decide) (by decide +kernel) (by decide +kernel) (by decide +kernel) (by decide +kernel) (by decide +kernel) ?_
  refine lw_M (zm := mM_mean) (w := 174) (lg := false) (As := [.int (xs (6 * n + 1)), .int (xs (6 * n + 2))]) hC hLD hSM (by decide) rfl (by decide) rfl rfl (by decide +kernel) (by decide +kernel) (by omega) ⟨r, rfl⟩ rfl hl.1 hM (fun H2 locs2 c2 s2 hS2 => ?_)
  exact lv_icmp_eq (tgt := 1515) hx hb (by decide +kernel) (by decide) (fun _ => kk H2 locs2 c2 s2 hS2) (fun z => absurd rfl z)
set_option maxRecDepth 100000 in
set_option maxHeartbeats 4000000 in
theorem law_39 (hC : LC p s m meth c b L xs dC dI aC) (hLD : LD s.heap.size adX adM) (hSX : am_Sy adX (lw_A s) s) (hSM : am_Sy adM (lw_A s) s) (hl : lv_has ls 4 [(0, .ref b), (1, .ref (adX 0)), (2, .ref (adM 0)), (3, .int (nI (6 * n)))]) (hn : 6 * n + 6 ≤ L) (hL : L ≤ 3072) (hS : LSt dC dI aC adX adM s n H locs cells slots) (kk : ∀ H' locs' c' s', LSt dC dI aC adX adM s (n + 1) H' locs' c' s' → W p l e room_1 s m #[Value.ref b] below meth c H' locs' c' s' Q (F0 m 1515 ls [])) : W p l e room_1 s m #[Value.ref b] below meth c H locs cells slots Q (F0 m 1296 ls []) := by
  obtain ⟨⟨hx, hb, hr, hml, hown, hts, hX0, hbl, hlocks, hgv⟩, _⟩ := id hC
  refine lv_aload_n hx hb (by decide +kernel) rfl (lv_at hl 1 rfl) ?_
  refine lw_arg (j := 1) hC (LS_S hS) hl hn hL (by decide) (by decide +kernel) (by decide +kernel) (by decide +kernel) (by decide +kernel) (by decide +kernel) ?_
  refine lw_arg (j := 2) hC (LS_S hS) hl hn hL (by decide) (by decide +kernel) (by decide +kernel) (by decide +kernel) (by decide +kernel) (by decide +kernel) ?_
  refine lw_arg (j := 3) hC (LS_S hS) hl hn hL (by decide) (by decide +kernel) (by decide +kernel) (by decide +kernel) (by decide +kernel) (by decide +kernel) ?_
  refine lw_X (zx := mX_numbers) (zm := mM_numbers) (w := 175) (lg := false) (As := [.int (xs (6 * n + 1)), .int (xs (6 * n + 2)), .int (xs (6 * n + 3))]) hC hLD hSX (by decide) rfl (by decide) rfl rfl (by decide +kernel) (by decide +kernel) (by omega) (fun σ i l0 q K i2 l2 hX hM => bo_numbers _ _ _ (by omega) hX hM) rfl hl.1 hS (fun vv H1 locs1 c1 s1 hv hM => ?_)
  obtain ⟨r, rfl⟩ := hv
  refine lv_aload_n hx hb (by decide +kernel) rfl (lv_at hl 2 rfl) ?_
  refine lw_arg (j := 1) hC (LM_S hM) hl hn hL (by decide) (by decide +kernel) (by decide +kernel) (by decide +kernel) (by decide +kernel) (by decide +kernel) ?_
  refine lw_arg (j := 2) hC (LM_S hM) hl hn hL (by decide) (by decide +kernel) (by decide +kernel) (by decide +kernel) (by decide +kernel) (by decide +kernel) ?_
  refine lw_arg (j := 3) hC (LM_S hM) hl hn hL (by decide) (by decide +kernel) (by decide +kernel) (by decide +kernel) (by decide +kernel) (by decide +kernel) ?_
  refine lw_M (zm := mM_numbers) (w := 178) (lg := false) (As := [.int (xs (6 * n + 1)), .int (xs (6 * n + 2)), .int (xs (6 * n + 3))]) hC hLD hSM (by decide) rfl (by decide) rfl rfl (by decide +kernel) (by decide +kernel) (by omega) ⟨r, rfl⟩ rfl hl.1 hM (fun H2 locs2 c2 s2 hS2 => ?_)
  exact lv_icmp_eq (tgt := 1515) hx hb (by decide +kernel) (by decide) (fun _ => kk H2 locs2 c2 s2 hS2) (fun z => absurd rfl z)
set_option maxRecDepth 100000 in
set_option maxHeartbeats 4000000 in
theorem law_40 (hC : LC p s m meth c b L xs dC dI aC) (hLD : LD s.heap.size adX adM) (hSX : am_Sy adX (lw_A s) s) (hSM : am_Sy adM (lw_A s) s) (hl : lv_has ls 4 [(0, .ref b), (1, .ref (adX 0)), (2, .ref (adM 0)), (3, .int (nI (6 * n)))]) (hn : 6 * n + 6 ≤ L) (hL : L ≤ 3072) (hS : LSt dC dI aC adX adM s n H locs cells slots) (kk : ∀ H' locs' c' s', LSt dC dI aC adX adM s (n + 1) H' locs' c' s' → W p l e room_1 s m #[Value.ref b] below meth c H' locs' c' s' Q (F0 m 1515 ls [])) : W p l e room_1 s m #[Value.ref b] below meth c H locs cells slots Q (F0 m 1339 ls []) := by
  obtain ⟨⟨hx, hb, hr, hml, hown, hts, hX0, hbl, hlocks, hgv⟩, _⟩ := id hC
  refine lv_aload_n hx hb (by decide +kernel) rfl (lv_at hl 1 rfl) ?_
  refine lw_arg (j := 1) hC (LS_S hS) hl hn hL (by decide) (by decide +kernel) (by decide +kernel) (by decide +kernel) (by decide +kernel) (by decide +kernel) ?_
  refine lw_arg (j := 2) hC (LS_S hS) hl hn hL (by decide) (by decide +kernel) (by decide +kernel) (by decide +kernel) (by decide +kernel) (by decide +kernel) ?_
  refine lw_arg (j := 3) hC (LS_S hS) hl hn hL (by decide) (by decide +kernel) (by decide +kernel) (by decide +kernel) (by decide +kernel) (by decide +kernel) ?_
  refine lv_i2l hx hb (by decide +kernel) rfl ?_
  refine lv_bipush (v := 32) hx hb (by decide +kernel) (by decide) ?_
  refine lv_lshl hx hb (by decide +kernel) rfl ?_
  refine lw_arg (j := 4) hC (LS_S hS) hl hn hL (by decide) (by decide +kernel) (by decide +kernel) (by decide +kernel) (by decide +kernel) (by decide +kernel) ?_
  refine lv_i2l hx hb (by decide +kernel) rfl ?_
  refine lv_ldc2 (v := 4294967295) hx hb hown (hts (.constantLong R_law 179 4294967295) (by decide +kernel)) (by decide +kernel) ?_
  refine lv_land hx hb (by decide +kernel) ?_
  refine lv_lor hx hb (by decide +kernel) ?_
  refine lw_X (zx := mX_write) (zm := mM_write) (w := 181) (lg := true) (As := [.int (xs (6 * n + 1)), .int (xs (6 * n + 2)), .long ((xs (6 * n + 3)).toInt64 <<< (Int32.toInt64 32 &&& 63) ||| (xs (6 * n + 4)).toInt64 &&& 4294967295)]) hC hLD hSX (by decide) rfl (by decide) rfl rfl (by decide +kernel) (by decide +kernel) (by omega) (fun σ i l0 q K i2 l2 hX hM => bo_write _ _ _ (by omega) hX hM) rfl hl.1 hS (fun vv H1 locs1 c1 s1 hv hM => ?_)
  obtain ⟨r, rfl⟩ := hv
  refine lv_aload_n hx hb (by decide +kernel) rfl (lv_at hl 2 rfl) ?_
  refine lw_arg (j := 1) hC (LM_S hM) hl hn hL (by decide) (by decide +kernel) (by decide +kernel) (by decide +kernel) (by decide +kernel) (by decide +kernel) ?_
  refine lw_arg (j := 2) hC (LM_S hM) hl hn hL (by decide) (by decide +kernel) (by decide +kernel) (by decide +kernel) (by decide +kernel) (by decide +kernel) ?_
  refine lw_arg (j := 3) hC (LM_S hM) hl hn hL (by decide) (by decide +kernel) (by decide +kernel) (by decide +kernel) (by decide +kernel) (by decide +kernel) ?_
  refine lv_i2l hx hb (by decide +kernel) rfl ?_
  refine lv_bipush (v := 32) hx hb (by decide +kernel) (by decide) ?_
  refine lv_lshl hx hb (by decide +kernel) rfl ?_
  refine lw_arg (j := 4) hC (LM_S hM) hl hn hL (by decide) (by decide +kernel) (by decide +kernel) (by decide +kernel) (by decide +kernel) (by decide +kernel) ?_
  refine lv_i2l hx hb (by decide +kernel) rfl ?_
  refine lv_ldc2 (v := 4294967295) hx hb hown (hts (.constantLong R_law 179 4294967295) (by decide +kernel)) (by decide +kernel) ?_
  refine lv_land hx hb (by decide +kernel) ?_
  refine lv_lor hx hb (by decide +kernel) ?_
  refine lw_M (zm := mM_write) (w := 185) (lg := true) (As := [.int (xs (6 * n + 1)), .int (xs (6 * n + 2)), .long ((xs (6 * n + 3)).toInt64 <<< (Int32.toInt64 32 &&& 63) ||| (xs (6 * n + 4)).toInt64 &&& 4294967295)]) hC hLD hSM (by decide) rfl (by decide) rfl rfl (by decide +kernel) (by decide +kernel) (by omega) ⟨r, rfl⟩ rfl hl.1 hM (fun H2 locs2 c2 s2 hS2 => ?_)
  refine W.lcmp hx hb (by decide +kernel) ?_
  refine lv_if_eq (tgt := 1515) hx hb (by decide +kernel) (by decide) (fun _ => kk H2 locs2 c2 s2 hS2) (fun z => absurd (show lg_cmp r r = 0 from ?_) z)
  unfold lg_cmp
  simp
set_option maxRecDepth 100000 in
set_option maxHeartbeats 4000000 in
theorem law_41 (hC : LC p s m meth c b L xs dC dI aC) (hLD : LD s.heap.size adX adM) (hSX : am_Sy adX (lw_A s) s) (hSM : am_Sy adM (lw_A s) s) (hl : lv_has ls 4 [(0, .ref b), (1, .ref (adX 0)), (2, .ref (adM 0)), (3, .int (nI (6 * n)))]) (hn : 6 * n + 6 ≤ L) (hL : L ≤ 3072) (hS : LSt dC dI aC adX adM s n H locs cells slots) (kk : ∀ H' locs' c' s', LSt dC dI aC adX adM s (n + 1) H' locs' c' s' → W p l e room_1 s m #[Value.ref b] below meth c H' locs' c' s' Q (F0 m 1515 ls [])) : W p l e room_1 s m #[Value.ref b] below meth c H locs cells slots Q (F0 m 1413 ls []) := by
  obtain ⟨⟨hx, hb, hr, hml, hown, hts, hX0, hbl, hlocks, hgv⟩, _⟩ := id hC
  refine lv_aload_n hx hb (by decide +kernel) rfl (lv_at hl 1 rfl) ?_
  refine lw_arg (j := 1) hC (LS_S hS) hl hn hL (by decide) (by decide +kernel) (by decide +kernel) (by decide +kernel) (by decide +kernel) (by decide +kernel) ?_
  refine lw_arg (j := 2) hC (LS_S hS) hl hn hL (by decide) (by decide +kernel) (by decide +kernel) (by decide +kernel) (by decide +kernel) (by decide +kernel) ?_
  refine lw_X (zx := mX_lists) (zm := mM_lists) (w := 186) (lg := false) (As := [.int (xs (6 * n + 1)), .int (xs (6 * n + 2))]) hC hLD hSX (by decide) rfl (by decide) rfl rfl (by decide +kernel) (by decide +kernel) (by omega) (fun σ i l0 q K i2 l2 hX hM => bo_lists _ _ (by omega) hX hM) rfl hl.1 hS (fun vv H1 locs1 c1 s1 hv hM => ?_)
  obtain ⟨r, rfl⟩ := hv
  refine lv_aload_n hx hb (by decide +kernel) rfl (lv_at hl 2 rfl) ?_
  refine lw_arg (j := 1) hC (LM_S hM) hl hn hL (by decide) (by decide +kernel) (by decide +kernel) (by decide +kernel) (by decide +kernel) (by decide +kernel) ?_
  refine lw_arg (j := 2) hC (LM_S hM) hl hn hL (by decide) (by decide +kernel) (by decide +kernel) (by decide +kernel) (by decide +kernel) (by decide +kernel) ?_
  refine lw_M (zm := mM_lists) (w := 189) (lg := false) (As := [.int (xs (6 * n + 1)), .int (xs (6 * n + 2))]) hC hLD hSM (by decide) rfl (by decide) rfl rfl (by decide +kernel) (by decide +kernel) (by omega) ⟨r, rfl⟩ rfl hl.1 hM (fun H2 locs2 c2 s2 hS2 => ?_)
  exact lv_icmp_eq (tgt := 1515) hx hb (by decide +kernel) (by decide) (fun _ => kk H2 locs2 c2 s2 hS2) (fun z => absurd rfl z)
set_option maxRecDepth 100000 in
set_option maxHeartbeats 4000000 in
theorem law_42 (hC : LC p s m meth c b L xs dC dI aC) (hLD : LD s.heap.size adX adM) (hSX : am_Sy adX (lw_A s) s) (hSM : am_Sy adM (lw_A s) s) (hl : lv_has ls 4 [(0, .ref b), (1, .ref (adX 0)), (2, .ref (adM 0)), (3, .int (nI (6 * n)))]) (hn : 6 * n + 6 ≤ L) (hL : L ≤ 3072) (hS : LSt dC dI aC adX adM s n H locs cells slots) (kk : ∀ H' locs' c' s', LSt dC dI aC adX adM s (n + 1) H' locs' c' s' → W p l e room_1 s m #[Value.ref b] below meth c H' locs' c' s' Q (F0 m 1515 ls [])) : W p l e room_1 s m #[Value.ref b] below meth c H locs cells slots Q (F0 m 1446 ls []) := by
  obtain ⟨⟨hx, hb, hr, hml, hown, hts, hX0, hbl, hlocks, hgv⟩, _⟩ := id hC
  refine lv_aload_n hx hb (by decide +kernel) rfl (lv_at hl 1 rfl) ?_
  refine lw_arg (j := 1) hC (LS_S hS) hl hn hL (by decide) (by decide +kernel) (by decide +kernel) (by decide +kernel) (by decide +kernel) (by decide +kernel) ?_
  refine lw_X (zx := mX_image) (zm := mM_image) (w := 190) (lg := false) (As := [.int (xs (6 * n + 1))]) hC hLD hSX (by decide) rfl (by decide) rfl rfl (by decide +kernel) (by decide +kernel) (by omega) (fun σ i l0 q K i2 l2 hX hM => bo_image _ (by omega) hX hM) rfl hl.1 hS (fun vv H1 locs1 c1 s1 hv hM => ?_)
  obtain ⟨r, rfl⟩ := hv
  refine lv_aload_n hx hb (by decide +kernel) rfl (lv_at hl 2 rfl) ?_
  refine lw_arg (j := 1) hC (LM_S hM) hl hn hL (by decide) (by decide +kernel) (by decide +kernel) (by decide +kernel) (by decide +kernel) (by decide +kernel) ?_
  refine lw_M (zm := mM_image) (w := 193) (lg := false) (As := [.int (xs (6 * n + 1))]) hC hLD hSM (by decide) rfl (by decide) rfl rfl (by decide +kernel) (by decide +kernel) (by omega) ⟨r, rfl⟩ rfl hl.1 hM (fun H2 locs2 c2 s2 hS2 => ?_)
  exact lv_icmp_eq (tgt := 1515) hx hb (by decide +kernel) (by decide) (fun _ => kk H2 locs2 c2 s2 hS2) (fun z => absurd rfl z)
set_option maxRecDepth 100000 in
set_option maxHeartbeats 4000000 in
theorem law_43 (hC : LC p s m meth c b L xs dC dI aC) (hLD : LD s.heap.size adX adM) (hSX : am_Sy adX (lw_A s) s) (hSM : am_Sy adM (lw_A s) s) (hl : lv_has ls 4 [(0, .ref b), (1, .ref (adX 0)), (2, .ref (adM 0)), (3, .int (nI (6 * n)))]) (hn : 6 * n + 6 ≤ L) (hL : L ≤ 3072) (hS : LSt dC dI aC adX adM s n H locs cells slots) (kk : ∀ H' locs' c' s', LSt dC dI aC adX adM s (n + 1) H' locs' c' s' → W p l e room_1 s m #[Value.ref b] below meth c H' locs' c' s' Q (F0 m 1515 ls [])) : W p l e room_1 s m #[Value.ref b] below meth c H locs cells slots Q (F0 m 1469 ls []) := by
  obtain ⟨⟨hx, hb, hr, hml, hown, hts, hX0, hbl, hlocks, hgv⟩, _⟩ := id hC
  refine lv_aload_n hx hb (by decide +kernel) rfl (lv_at hl 1 rfl) ?_
  refine lw_arg (j := 1) hC (LS_S hS) hl hn hL (by decide) (by decide +kernel) (by decide +kernel) (by decide +kernel) (by decide +kernel) (by decide +kernel) ?_
  refine lw_X (zx := mX_restore) (zm := mM_restore) (w := 194) (lg := false) (As := [.int (xs (6 * n + 1))]) hC hLD hSX (by decide) rfl (by decide) rfl rfl (by decide +kernel) (by decide +kernel) (by omega) (fun σ i l0 q K i2 l2 hX hM => bo_restore _ (by omega) hX hM) rfl hl.1 hS (fun vv H1 locs1 c1 s1 hv hM => ?_)
  obtain ⟨r, rfl⟩ := hv
  refine lv_aload_n hx hb (by decide +kernel) rfl (lv_at hl 2 rfl) ?_
  refine lw_arg (j := 1) hC (LM_S hM) hl hn hL (by decide) (by decide +kernel) (by decide +kernel) (by decide +kernel) (by decide +kernel) (by decide +kernel) ?_
  refine lw_M (zm := mM_restore) (w := 197) (lg := false) (As := [.int (xs (6 * n + 1))]) hC hLD hSM (by decide) rfl (by decide) rfl rfl (by decide +kernel) (by decide +kernel) (by omega) ⟨r, rfl⟩ rfl hl.1 hM (fun H2 locs2 c2 s2 hS2 => ?_)
  exact lv_icmp_eq (tgt := 1515) hx hb (by decide +kernel) (by decide) (fun _ => kk H2 locs2 c2 s2 hS2) (fun z => absurd rfl z)
set_option maxRecDepth 100000 in
set_option maxHeartbeats 4000000 in
theorem law_44 (hC : LC p s m meth c b L xs dC dI aC) (hLD : LD s.heap.size adX adM) (hSX : am_Sy adX (lw_A s) s) (hSM : am_Sy adM (lw_A s) s) (hl : lv_has ls 4 [(0, .ref b), (1, .ref (adX 0)), (2, .ref (adM 0)), (3, .int (nI (6 * n)))]) (hn : 6 * n + 6 ≤ L) (hL : L ≤ 3072) (hS : LSt dC dI aC adX adM s n H locs cells slots) (kk : ∀ H' locs' c' s', LSt dC dI aC adX adM s (n + 1) H' locs' c' s' → W p l e room_1 s m #[Value.ref b] below meth c H' locs' c' s' Q (F0 m 1515 ls [])) : W p l e room_1 s m #[Value.ref b] below meth c H locs cells slots Q (F0 m 1492 ls []) := by
  obtain ⟨⟨hx, hb, hr, hml, hown, hts, hX0, hbl, hlocks, hgv⟩, _⟩ := id hC
  refine lv_aload_n hx hb (by decide +kernel) rfl (lv_at hl 1 rfl) ?_
  refine lw_arg (j := 1) hC (LS_S hS) hl hn hL (by decide) (by decide +kernel) (by decide +kernel) (by decide +kernel) (by decide +kernel) (by decide +kernel) ?_
  refine lw_X (zx := mX_count) (zm := mM_count) (w := 198) (lg := false) (As := [.int (xs (6 * n + 1))]) hC hLD hSX (by decide) rfl (by decide) rfl rfl (by decide +kernel) (by decide +kernel) (by omega) (fun σ i l0 q K i2 l2 hX hM => bo_count _ (by omega) hX hM) rfl hl.1 hS (fun vv H1 locs1 c1 s1 hv hM => ?_)
  obtain ⟨r, rfl⟩ := hv
  refine lv_aload_n hx hb (by decide +kernel) rfl (lv_at hl 2 rfl) ?_
  refine lw_arg (j := 1) hC (LM_S hM) hl hn hL (by decide) (by decide +kernel) (by decide +kernel) (by decide +kernel) (by decide +kernel) (by decide +kernel) ?_
  refine lw_M (zm := mM_count) (w := 201) (lg := false) (As := [.int (xs (6 * n + 1))]) hC hLD hSM (by decide) rfl (by decide) rfl rfl (by decide +kernel) (by decide +kernel) (by omega) ⟨r, rfl⟩ rfl hl.1 hM (fun H2 locs2 c2 s2 hS2 => ?_)
  exact lv_icmp_eq (tgt := 1515) hx hb (by decide +kernel) (by decide) (fun _ => kk H2 locs2 c2 s2 hS2) (fun z => absurd rfl z)
end
