/-! THE LAW: its calls 0 to 8, by program -/
section
variable {p : Program} {l : Launch} {e : Env} {s : State} {m : MethodId} {below : List Frame} {meth : Method} {c : Code} {b L : Nat} {xs : Nat → Int32} {dC : Nat → ClassId} {dI : Nat → Nat → Nat} {aC : Nat → ClassId} {adX adM : Nat → Nat} {n : Nat} {H : Heap} {locs : List Loc} {cells slots : Nat} {Q : State → Prop} {ls : Array Slot}
set_option maxRecDepth 100000 in
set_option maxHeartbeats 4000000 in
theorem law_0 (hC : LC p s m meth c b L xs dC dI aC) (hLD : LD s.heap.size adX adM) (hSX : am_Sy adX (lw_A s) s) (hSM : am_Sy adM (lw_A s) s) (hl : lv_has ls 4 [(0, .ref b), (1, .ref (adX 0)), (2, .ref (adM 0)), (3, .int (nI (6 * n)))]) (hn : 6 * n + 6 ≤ L) (hL : L ≤ 3072) (hS : LSt dC dI aC adX adM s n H locs cells slots) (kk : ∀ H' locs' c' s', LSt dC dI aC adX adM s (n + 1) H' locs' c' s' → W p l e room_1 s m #[Value.ref b] below meth c H' locs' c' s' Q (F0 m 1515 ls [])) : W p l e room_1 s m #[Value.ref b] below meth c H locs cells slots Q (F0 m 228 ls []) := by
  obtain ⟨⟨hx, hb, hr, hml, hown, hts, hX0, hbl, hlocks, hgv⟩, _⟩ := id hC
  refine lv_aload_n hx hb (by decide +kernel) rfl (lv_at hl 1 rfl) ?_
  refine lw_arg (j := 1) hC (LS_S hS) hl hn hL (by decide) (by decide +kernel) (by decide +kernel) (by decide +kernel) (by decide +kernel) (by decide +kernel) ?_
  refine lw_arg (j := 2) hC (LS_S hS) hl hn hL (by decide) (by decide +kernel) (by decide +kernel) (by decide +kernel) (by decide +kernel) (by decide +kernel) ?_
  refine lw_arg (j := 3) hC (LS_S hS) hl hn hL (by decide) (by decide +kernel) (by decide +kernel) (by decide +kernel) (by decide +kernel) (by decide +kernel) ?_
  refine lw_arg (j := 4) hC (LS_S hS) hl hn hL (by decide) (by decide +kernel) (by decide +kernel) (by decide +kernel) (by decide +kernel) (by decide +kernel) ?_
  refine lw_arg (j := 5) hC (LS_S hS) hl hn hL (by decide) (by decide +kernel) (by decide +kernel) (by decide +kernel) (by decide +kernel) (by decide +kernel) ?_
  refine lw_X (zx := mX_feed) (zm := mM_feed) (w := 13) (lg := false) (As := [.int (xs (6 * n + 1)), .int (xs (6 * n + 2)), .int (xs (6 * n + 3)), .int (xs (6 * n + 4)), .int (xs (6 * n + 5))]) hC hLD hSX (by decide) rfl (by decide) rfl rfl (by decide +kernel) (by decide +kernel) (by omega) (fun σ i l0 q K i2 l2 hX hM => bo_feed _ _ _ _ _ (by omega) hX hM) rfl hl.1 hS (fun vv H1 locs1 c1 s1 hv hM => ?_)
  obtain ⟨r, rfl⟩ := hv
  refine lv_aload_n hx hb (by decide +kernel) rfl (lv_at hl 2 rfl) ?_
  refine lw_arg (j := 1) hC (LM_S hM) hl hn hL (by decide) (by decide +kernel) (by decide +kernel) (by decide +kernel) (by decide +kernel) (by decide +kernel) ?_
  refine lw_arg (j := 2) hC (LM_S hM) hl hn hL (by decide) (by decide +kernel) (by decide +kernel) (by decide +kernel) (by decide +kernel) (by decide +kernel) ?_
  refine lw_arg (j := 3) hC (LM_S hM) hl hn hL (by decide) (by decide +kernel) (by decide +kernel) (by decide +kernel) (by decide +kernel) (by decide +kernel) ?_
  refine lw_arg (j := 4) hC (LM_S hM) hl hn hL (by decide) (by decide +kernel) (by decide +kernel) (by decide +kernel) (by decide +kernel) (by decide +kernel) ?_
  refine lw_arg (j := 5) hC (LM_S hM) hl hn hL (by decide) (by decide +kernel) (by decide +kernel) (by decide +kernel) (by decide +kernel) (by decide +kernel) ?_
  refine lw_M (zm := mM_feed) (w := 17) (lg := false) (As := [.int (xs (6 * n + 1)), .int (xs (6 * n + 2)), .int (xs (6 * n + 3)), .int (xs (6 * n + 4)), .int (xs (6 * n + 5))]) hC hLD hSM (by decide) rfl (by decide) rfl rfl (by decide +kernel) (by decide +kernel) (by omega) ⟨r, rfl⟩ rfl hl.1 hM (fun H2 locs2 c2 s2 hS2 => ?_)
  exact lv_icmp_eq (tgt := 1515) hx hb (by decide +kernel) (by decide) (fun _ => kk H2 locs2 c2 s2 hS2) (fun z => absurd rfl z)
set_option maxRecDepth 100000 in
set_option maxHeartbeats 4000000 in
theorem law_1 (hC : LC p s m meth c b L xs dC dI aC) (hLD : LD s.heap.size adX adM) (hSX : am_Sy adX (lw_A s) s) (hSM : am_Sy adM (lw_A s) s) (hl : lv_has ls 4 [(0, .ref b), (1, .ref (adX 0)), (2, .ref (adM 0)), (3, .int (nI (6 * n)))]) (hn : 6 * n + 6 ≤ L) (hL : L ≤ 3072) (hS : LSt dC dI aC adX adM s n H locs cells slots) (kk : ∀ H' locs' c' s', LSt dC dI aC adX adM s (n + 1) H' locs' c' s' → W p l e room_1 s m #[Value.ref b] below meth c H' locs' c' s' Q (F0 m 1515 ls [])) : W p l e room_1 s m #[Value.ref b] below meth c H locs cells slots Q (F0 m 291 ls []) := by
  obtain ⟨⟨hx, hb, hr, hml, hown, hts, hX0, hbl, hlocks, hgv⟩, _⟩ := id hC
  refine lv_aload_n hx hb (by decide +kernel) rfl (lv_at hl 1 rfl) ?_
  refine lw_arg (j := 1) hC (LS_S hS) hl hn hL (by decide) (by decide +kernel) (by decide +kernel) (by decide +kernel) (by decide +kernel) (by decide +kernel) ?_
  refine lw_X (zx := mX_river) (zm := mM_river) (w := 18) (lg := false) (As := [.int (xs (6 * n + 1))]) hC hLD hSX (by decide) rfl (by decide) rfl rfl (by decide +kernel) (by decide +kernel) (by omega) (fun σ i l0 q K i2 l2 hX hM => bo_river _ (by omega) hX hM) rfl hl.1 hS (fun vv H1 locs1 c1 s1 hv hM => ?_)
  obtain ⟨r, rfl⟩ := hv
  refine lv_aload_n hx hb (by decide +kernel) rfl (lv_at hl 2 rfl) ?_
  refine lw_arg (j := 1) hC (LM_S hM) hl hn hL (by decide) (by decide +kernel) (by decide +kernel) (by decide +kernel) (by decide +kernel) (by decide +kernel) ?_
  refine lw_M (zm := mM_river) (w := 22) (lg := false) (As := [.int (xs (6 * n + 1))]) hC hLD hSM (by decide) rfl (by decide) rfl rfl (by decide +kernel) (by decide +kernel) (by omega) ⟨r, rfl⟩ rfl hl.1 hM (fun H2 locs2 c2 s2 hS2 => ?_)
  exact lv_icmp_eq (tgt := 1515) hx hb (by decide +kernel) (by decide) (fun _ => kk H2 locs2 c2 s2 hS2) (fun z => absurd rfl z)
set_option maxRecDepth 100000 in
set_option maxHeartbeats 4000000 in
theorem law_2 (hC : LC p s m meth c b L xs dC dI aC) (hLD : LD s.heap.size adX adM) (hSX : am_Sy adX (lw_A s) s) (hSM : am_Sy adM (lw_A s) s) (hl : lv_has ls 4 [(0, .ref b), (1, .ref (adX 0)), (2, .ref (adM 0)), (3, .int (nI (6 * n)))]) (hn : 6 * n + 6 ≤ L) (hL : L ≤ 3072) (hS : LSt dC dI aC adX adM s n H locs cells slots) (kk : ∀ H' locs' c' s', LSt dC dI aC adX adM s (n + 1) H' locs' c' s' → W p l e room_1 s m #[Value.ref b] below meth c H' locs' c' s' Q (F0 m 1515 ls [])) : W p l e room_1 s m #[Value.ref b] below meth c H locs cells slots Q (F0 m 314 ls []) := by
  obtain ⟨⟨hx, hb, hr, hml, hown, hts, hX0, hbl, hlocks, hgv⟩, _⟩ := id hC
  refine lv_aload_n hx hb (by decide +kernel) rfl (lv_at hl 1 rfl) ?_
  refine lw_arg (j := 1) hC (LS_S hS) hl hn hL (by decide) (by decide +kernel) (by decide +kernel) (by decide +kernel) (by decide +kernel) (by decide +kernel) ?_
  refine lw_X (zx := mX_fault) (zm := mM_fault) (w := 23) (lg := false) (As := [.int (xs (6 * n + 1))]) hC hLD hSX (by decide) rfl (by decide) rfl rfl (by decide +kernel) (by decide +kernel) (by omega) (fun σ i l0 q K i2 l2 hX hM => bo_fault _ (by omega) hX hM) rfl hl.1 hS (fun vv H1 locs1 c1 s1 hv hM => ?_)
  obtain ⟨r, rfl⟩ := hv
  refine lv_aload_n hx hb (by decide +kernel) rfl (lv_at hl 2 rfl) ?_
  refine lw_arg (j := 1) hC (LM_S hM) hl hn hL (by decide) (by decide +kernel) (by decide +kernel) (by decide +kernel) (by decide +kernel) (by decide +kernel) ?_
  refine lw_M (zm := mM_fault) (w := 26) (lg := false) (As := [.int (xs (6 * n + 1))]) hC hLD hSM (by decide) rfl (by decide) rfl rfl (by decide +kernel) (by decide +kernel) (by omega) ⟨r, rfl⟩ rfl hl.1 hM (fun H2 locs2 c2 s2 hS2 => ?_)
  exact lv_icmp_eq (tgt := 1515) hx hb (by decide +kernel) (by decide) (fun _ => kk H2 locs2 c2 s2 hS2) (fun z => absurd rfl z)
set_option maxRecDepth 100000 in
set_option maxHeartbeats 4000000 in
theorem law_3 (hC : LC p s m meth c b L xs dC dI aC) (hLD : LD s.heap.size adX adM) (hSX : am_Sy adX (lw_A s) s) (hSM : am_Sy adM (lw_A s) s) (hl : lv_has ls 4 [(0, .ref b), (1, .ref (adX 0)), (2, .ref (adM 0)), (3, .int (nI (6 * n)))]) (hn : 6 * n + 6 ≤ L) (hL : L ≤ 3072) (hS : LSt dC dI aC adX adM s n H locs cells slots) (kk : ∀ H' locs' c' s', LSt dC dI aC adX adM s (n + 1) H' locs' c' s' → W p l e room_1 s m #[Value.ref b] below meth c H' locs' c' s' Q (F0 m 1515 ls [])) : W p l e room_1 s m #[Value.ref b] below meth c H locs cells slots Q (F0 m 337 ls []) := by
  obtain ⟨⟨hx, hb, hr, hml, hown, hts, hX0, hbl, hlocks, hgv⟩, _⟩ := id hC
  refine lv_aload_n hx hb (by decide +kernel) rfl (lv_at hl 1 rfl) ?_
  refine lw_arg (j := 1) hC (LS_S hS) hl hn hL (by decide) (by decide +kernel) (by decide +kernel) (by decide +kernel) (by decide +kernel) (by decide +kernel) ?_
  refine lw_arg (j := 2) hC (LS_S hS) hl hn hL (by decide) (by decide +kernel) (by decide +kernel) (by decide +kernel) (by decide +kernel) (by decide +kernel) ?_
  refine lw_X (zx := mX_person) (zm := mM_person) (w := 27) (lg := false) (As := [.int (xs (6 * n + 1)), .int (xs (6 * n + 2))]) hC hLD hSX (by decide) rfl (by decide) rfl rfl (by decide +kernel) (by decide +kernel) (by omega) (fun σ i l0 q K i2 l2 hX hM => bo_person _ _ (by omega) hX hM) rfl hl.1 hS (fun vv H1 locs1 c1 s1 hv hM => ?_)
  obtain ⟨r, rfl⟩ := hv
  refine lv_aload_n hx hb (by decide +kernel) rfl (lv_at hl 2 rfl) ?_
  refine lw_arg (j := 1) hC (LM_S hM) hl hn hL (by decide) (by decide +kernel) (by decide +kernel) (by decide +kernel) (by decide +kernel) (by decide +kernel) ?_
  refine lw_arg (j := 2) hC (LM_S hM) hl hn hL (by decide) (by decide +kernel) (by decide +kernel) (by decide +kernel) (by decide +kernel) (by decide +kernel) ?_
  refine lw_M (zm := mM_person) (w := 31) (lg := false) (As := [.int (xs (6 * n + 1)), .int (xs (6 * n + 2))]) hC hLD hSM (by decide) rfl (by decide) rfl rfl (by decide +kernel) (by decide +kernel) (by omega) ⟨r, rfl⟩ rfl hl.1 hM (fun H2 locs2 c2 s2 hS2 => ?_)
  exact lv_icmp_eq (tgt := 1515) hx hb (by decide +kernel) (by decide) (fun _ => kk H2 locs2 c2 s2 hS2) (fun z => absurd rfl z)
set_option maxRecDepth 100000 in
set_option maxHeartbeats 4000000 in
theorem law_4 (hC : LC p s m meth c b L xs dC dI aC) (hLD : LD s.heap.size adX adM) (hSX : am_Sy adX (lw_A s) s) (hSM : am_Sy adM (lw_A s) s) (hl : lv_has ls 4 [(0, .ref b), (1, .ref (adX 0)), (2, .ref (adM 0)), (3, .int (nI (6 * n)))]) (hn : 6 * n + 6 ≤ L) (hL : L ≤ 3072) (hS : LSt dC dI aC adX adM s n H locs cells slots) (kk : ∀ H' locs' c' s', LSt dC dI aC adX adM s (n + 1) H' locs' c' s' → W p l e room_1 s m #[Value.ref b] below meth c H' locs' c' s' Q (F0 m 1515 ls [])) : W p l e room_1 s m #[Value.ref b] below meth c H locs cells slots Q (F0 m 370 ls []) := by
  obtain ⟨⟨hx, hb, hr, hml, hown, hts, hX0, hbl, hlocks, hgv⟩, _⟩ := id hC
  refine lv_aload_n hx hb (by decide +kernel) rfl (lv_at hl 1 rfl) ?_
  refine lw_arg (j := 1) hC (LS_S hS) hl hn hL (by decide) (by decide +kernel) (by decide +kernel) (by decide +kernel) (by decide +kernel) (by decide +kernel) ?_
  refine lw_arg (j := 2) hC (LS_S hS) hl hn hL (by decide) (by decide +kernel) (by decide +kernel) (by decide +kernel) (by decide +kernel) (by decide +kernel) ?_
  refine lw_X (zx := mX_spot) (zm := mM_spot) (w := 32) (lg := false) (As := [.int (xs (6 * n + 1)), .int (xs (6 * n + 2))]) hC hLD hSX (by decide) rfl (by decide) rfl rfl (by decide +kernel) (by decide +kernel) (by omega) (fun σ i l0 q K i2 l2 hX hM => bo_spot _ _ (by omega) hX hM) rfl hl.1 hS (fun vv H1 locs1 c1 s1 hv hM => ?_)
  obtain ⟨r, rfl⟩ := hv
  refine lv_aload_n hx hb (by decide +kernel) rfl (lv_at hl 2 rfl) ?_
  refine lw_arg (j := 1) hC (LM_S hM) hl hn hL (by decide) (by decide +kernel) (by decide +kernel) (by decide +kernel) (by decide +kernel) (by decide +kernel) ?_
  refine lw_arg (j := 2) hC (LM_S hM) hl hn hL (by decide) (by decide +kernel) (by decide +kernel) (by decide +kernel) (by decide +kernel) (by decide +kernel) ?_
  refine lw_M (zm := mM_spot) (w := 35) (lg := false) (As := [.int (xs (6 * n + 1)), .int (xs (6 * n + 2))]) hC hLD hSM (by decide) rfl (by decide) rfl rfl (by decide +kernel) (by decide +kernel) (by omega) ⟨r, rfl⟩ rfl hl.1 hM (fun H2 locs2 c2 s2 hS2 => ?_)
  exact lv_icmp_eq (tgt := 1515) hx hb (by decide +kernel) (by decide) (fun _ => kk H2 locs2 c2 s2 hS2) (fun z => absurd rfl z)
set_option maxRecDepth 100000 in
set_option maxHeartbeats 4000000 in
theorem law_5 (hC : LC p s m meth c b L xs dC dI aC) (hLD : LD s.heap.size adX adM) (hSX : am_Sy adX (lw_A s) s) (hSM : am_Sy adM (lw_A s) s) (hl : lv_has ls 4 [(0, .ref b), (1, .ref (adX 0)), (2, .ref (adM 0)), (3, .int (nI (6 * n)))]) (hn : 6 * n + 6 ≤ L) (hL : L ≤ 3072) (hS : LSt dC dI aC adX adM s n H locs cells slots) (kk : ∀ H' locs' c' s', LSt dC dI aC adX adM s (n + 1) H' locs' c' s' → W p l e room_1 s m #[Value.ref b] below meth c H' locs' c' s' Q (F0 m 1515 ls [])) : W p l e room_1 s m #[Value.ref b] below meth c H locs cells slots Q (F0 m 403 ls []) := by
  obtain ⟨⟨hx, hb, hr, hml, hown, hts, hX0, hbl, hlocks, hgv⟩, _⟩ := id hC
  refine lv_aload_n hx hb (by decide +kernel) rfl (lv_at hl 1 rfl) ?_
  refine lw_arg (j := 1) hC (LS_S hS) hl hn hL (by decide) (by decide +kernel) (by decide +kernel) (by decide +kernel) (by decide +kernel) (by decide +kernel) ?_
  refine lw_arg (j := 2) hC (LS_S hS) hl hn hL (by decide) (by decide +kernel) (by decide +kernel) (by decide +kernel) (by decide +kernel) (by decide +kernel) ?_
  refine lw_arg (j := 3) hC (LS_S hS) hl hn hL (by decide) (by decide +kernel) (by decide +kernel) (by decide +kernel) (by decide +kernel) (by decide +kernel) ?_
  refine lw_X (zx := mX_trusts) (zm := mM_trusts) (w := 36) (lg := false) (As := [.int (xs (6 * n + 1)), .int (xs (6 * n + 2)), .int (xs (6 * n + 3))]) hC hLD hSX (by decide) rfl (by decide) rfl rfl (by decide +kernel) (by decide +kernel) (by omega) (fun σ i l0 q K i2 l2 hX hM => bo_trusts _ _ _ (by omega) hX hM) rfl hl.1 hS (fun vv H1 locs1 c1 s1 hv hM => ?_)
  obtain ⟨r, rfl⟩ := hv
  refine lv_aload_n hx hb (by decide +kernel) rfl (lv_at hl 2 rfl) ?_
  refine lw_arg (j := 1) hC (LM_S hM) hl hn hL (by decide) (by decide +kernel) (by decide +kernel) (by decide +kernel) (by decide +kernel) (by decide +kernel) ?_
  refine lw_arg (j := 2) hC (LM_S hM) hl hn hL (by decide) (by decide +kernel) (by decide +kernel) (by decide +kernel) (by decide +kernel) (by decide +kernel) ?_
  refine lw_arg (j := 3) hC (LM_S hM) hl hn hL (by decide) (by decide +kernel) (by decide +kernel) (by decide +kernel) (by decide +kernel) (by decide +kernel) ?_
  refine lw_M (zm := mM_trusts) (w := 40) (lg := false) (As := [.int (xs (6 * n + 1)), .int (xs (6 * n + 2)), .int (xs (6 * n + 3))]) hC hLD hSM (by decide) rfl (by decide) rfl rfl (by decide +kernel) (by decide +kernel) (by omega) ⟨r, rfl⟩ rfl hl.1 hM (fun H2 locs2 c2 s2 hS2 => ?_)
  exact lv_icmp_eq (tgt := 1515) hx hb (by decide +kernel) (by decide) (fun _ => kk H2 locs2 c2 s2 hS2) (fun z => absurd rfl z)
set_option maxRecDepth 100000 in
set_option maxHeartbeats 4000000 in
theorem law_6 (hC : LC p s m meth c b L xs dC dI aC) (hLD : LD s.heap.size adX adM) (hSX : am_Sy adX (lw_A s) s) (hSM : am_Sy adM (lw_A s) s) (hl : lv_has ls 4 [(0, .ref b), (1, .ref (adX 0)), (2, .ref (adM 0)), (3, .int (nI (6 * n)))]) (hn : 6 * n + 6 ≤ L) (hL : L ≤ 3072) (hS : LSt dC dI aC adX adM s n H locs cells slots) (kk : ∀ H' locs' c' s', LSt dC dI aC adX adM s (n + 1) H' locs' c' s' → W p l e room_1 s m #[Value.ref b] below meth c H' locs' c' s' Q (F0 m 1515 ls [])) : W p l e room_1 s m #[Value.ref b] below meth c H locs cells slots Q (F0 m 446 ls []) := by
  obtain ⟨⟨hx, hb, hr, hml, hown, hts, hX0, hbl, hlocks, hgv⟩, _⟩ := id hC
  refine lv_aload_n hx hb (by decide +kernel) rfl (lv_at hl 1 rfl) ?_
  refine lw_arg (j := 1) hC (LS_S hS) hl hn hL (by decide) (by decide +kernel) (by decide +kernel) (by decide +kernel) (by decide +kernel) (by decide +kernel) ?_
  refine lw_arg (j := 2) hC (LS_S hS) hl hn hL (by decide) (by decide +kernel) (by decide +kernel) (by decide +kernel) (by decide +kernel) (by decide +kernel) ?_
  refine lw_X (zx := mX_holds) (zm := mM_holds) (w := 41) (lg := false) (As := [.int (xs (6 * n + 1)), .int (xs (6 * n + 2))]) hC hLD hSX (by decide) rfl (by decide) rfl rfl (by decide +kernel) (by decide +kernel) (by omega) (fun σ i l0 q K i2 l2 hX hM => bo_holds _ _ (by omega) hX hM) rfl hl.1 hS (fun vv H1 locs1 c1 s1 hv hM => ?_)
  obtain ⟨r, rfl⟩ := hv
  refine lv_aload_n hx hb (by decide +kernel) rfl (lv_at hl 2 rfl) ?_
  refine lw_arg (j := 1) hC (LM_S hM) hl hn hL (by decide) (by decide +kernel) (by decide +kernel) (by decide +kernel) (by decide +kernel) (by decide +kernel) ?_
  refine lw_arg (j := 2) hC (LM_S hM) hl hn hL (by decide) (by decide +kernel) (by decide +kernel) (by decide +kernel) (by decide +kernel) (by decide +kernel) ?_
  refine lw_M (zm := mM_holds) (w := 44) (lg := false) (As := [.int (xs (6 * n + 1)), .int (xs (6 * n + 2))]) hC hLD hSM (by decide) rfl (by decide) rfl rfl (by decide +kernel) (by decide +kernel) (by omega) ⟨r, rfl⟩ rfl hl.1 hM (fun H2 locs2 c2 s2 hS2 => ?_)
  exact lv_icmp_eq (tgt := 1515) hx hb (by decide +kernel) (by decide) (fun _ => kk H2 locs2 c2 s2 hS2) (fun z => absurd rfl z)
set_option maxRecDepth 100000 in
set_option maxHeartbeats 4000000 in
theorem law_7 (hC : LC p s m meth c b L xs dC dI aC) (hLD : LD s.heap.size adX adM) (hSX : am_Sy adX (lw_A s) s) (hSM : am_Sy adM (lw_A s) s) (hl : lv_has ls 4 [(0, .ref b), (1, .ref (adX 0)), (2, .ref (adM 0)), (3, .int (nI (6 * n)))]) (hn : 6 * n + 6 ≤ L) (hL : L ≤ 3072) (hS : LSt dC dI aC adX adM s n H locs cells slots) (kk : ∀ H' locs' c' s', LSt dC dI aC adX adM s (n + 1) H' locs' c' s' → W p l e room_1 s m #[Value.ref b] below meth c H' locs' c' s' Q (F0 m 1515 ls [])) : W p l e room_1 s m #[Value.ref b] below meth c H locs cells slots Q (F0 m 479 ls []) := by
  obtain ⟨⟨hx, hb, hr, hml, hown, hts, hX0, hbl, hlocks, hgv⟩, _⟩ := id hC
  refine lv_aload_n hx hb (by decide +kernel) rfl (lv_at hl 1 rfl) ?_
  refine lw_arg (j := 1) hC (LS_S hS) hl hn hL (by decide) (by decide +kernel) (by decide +kernel) (by decide +kernel) (by decide +kernel) (by decide +kernel) ?_
  refine lw_arg (j := 2) hC (LS_S hS) hl hn hL (by decide) (by decide +kernel) (by decide +kernel) (by decide +kernel) (by decide +kernel) (by decide +kernel) ?_
  refine lw_X (zx := mX_steps) (zm := mM_steps) (w := 45) (lg := false) (As := [.int (xs (6 * n + 1)), .int (xs (6 * n + 2))]) hC hLD hSX (by decide) rfl (by decide) rfl rfl (by decide +kernel) (by decide +kernel) (by omega) (fun σ i l0 q K i2 l2 hX hM => bo_steps _ _ (by omega) hX hM) rfl hl.1 hS (fun vv H1 locs1 c1 s1 hv hM => ?_)
  obtain ⟨r, rfl⟩ := hv
  refine lv_aload_n hx hb (by decide +kernel) rfl (lv_at hl 2 rfl) ?_
  refine lw_arg (j := 1) hC (LM_S hM) hl hn hL (by decide) (by decide +kernel) (by decide +kernel) (by decide +kernel) (by decide +kernel) (by decide +kernel) ?_
  refine lw_arg (j := 2) hC (LM_S hM) hl hn hL (by decide) (by decide +kernel) (by decide +kernel) (by decide +kernel) (by decide +kernel) (by decide +kernel) ?_
  refine lw_M (zm := mM_steps) (w := 48) (lg := false) (As := [.int (xs (6 * n + 1)), .int (xs (6 * n + 2))]) hC hLD hSM (by decide) rfl (by decide) rfl rfl (by decide +kernel) (by decide +kernel) (by omega) ⟨r, rfl⟩ rfl hl.1 hM (fun H2 locs2 c2 s2 hS2 => ?_)
  exact lv_icmp_eq (tgt := 1515) hx hb (by decide +kernel) (by decide) (fun _ => kk H2 locs2 c2 s2 hS2) (fun z => absurd rfl z)
set_option maxRecDepth 100000 in
set_option maxHeartbeats 4000000 in
theorem law_8 (hC : LC p s m meth c b L xs dC dI aC) (hLD : LD s.heap.size adX adM) (hSX : am_Sy adX (lw_A s) s) (hSM : am_Sy adM (lw_A s) s) (hl : lv_has ls 4 [(0, .ref b), (1, .ref (adX 0)), (2, .ref (adM 0)), (3, .int (nI (6 * n)))]) (hn : 6 * n + 6 ≤ L) (hL : L ≤ 3072) (hS : LSt dC dI aC adX adM s n H locs cells slots) (kk : ∀ H' locs' c' s', LSt dC dI aC adX adM s (n + 1) H' locs' c' s' → W p l e room_1 s m #[Value.ref b] below meth c H' locs' c' s' Q (F0 m 1515 ls [])) : W p l e room_1 s m #[Value.ref b] below meth c H locs cells slots Q (F0 m 512 ls []) := by
  obtain ⟨⟨hx, hb, hr, hml, hown, hts, hX0, hbl, hlocks, hgv⟩, _⟩ := id hC
  refine lv_aload_n hx hb (by decide +kernel) rfl (lv_at hl 1 rfl) ?_
  refine lw_arg (j := 1) hC (LS_S hS) hl hn hL (by decide) (by decide +kernel) (by decide +kernel) (by decide +kernel) (by decide +kernel) (by decide +kernel) ?_
  refine lw_arg (j := 2) hC (LS_S hS) hl hn hL (by decide) (by decide +kernel) (by decide +kernel) (by decide +kernel) (by decide +kernel) (by decide +kernel) ?_
  refine lw_X (zx := mX_go) (zm := mM_go) (w := 49) (lg := false) (As := [.int (xs (6 * n + 1)), .int (xs (6 * n + 2))]) hC hLD hSX (by decide) rfl (by decide) rfl rfl (by decide +kernel) (by decide +kernel) (by omega) (fun σ i l0 q K i2 l2 hX hM => bo_go _ _ (by omega) hX hM) rfl hl.1 hS (fun vv H1 locs1 c1 s1 hv hM => ?_)
  obtain ⟨r, rfl⟩ := hv
  refine lv_aload_n hx hb (by decide +kernel) rfl (lv_at hl 2 rfl) ?_
  refine lw_arg (j := 1) hC (LM_S hM) hl hn hL (by decide) (by decide +kernel) (by decide +kernel) (by decide +kernel) (by decide +kernel) (by decide +kernel) ?_
  refine lw_arg (j := 2) hC (LM_S hM) hl hn hL (by decide) (by decide +kernel) (by decide +kernel) (by decide +kernel) (by decide +kernel) (by decide +kernel) ?_
  refine lw_M (zm := mM_go) (w := 52) (lg := false) (As := [.int (xs (6 * n + 1)), .int (xs (6 * n + 2))]) hC hLD hSM (by decide) rfl (by decide) rfl rfl (by decide +kernel) (by decide +kernel) (by omega) ⟨r, rfl⟩ rfl hl.1 hM (fun H2 locs2 c2 s2 hS2 => ?_)
  exact lv_icmp_eq (tgt := 1515) hx hb (by decide +kernel) (by decide) (fun _ => kk H2 locs2 c2 s2 hS2) (fun z => absurd rfl z)
end
