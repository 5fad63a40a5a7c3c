/-! THE LAW: its calls 9 to 17, by program -/
section
variable {p : Program} {l : Launch} {e : Env} {s : State} {m : MethodId} {below : List Frame} {meth : Method} {c : Code} {b L : Nat} {xs : Nat → Int32} {dC : Nat → ClassId} {dI : Nat → Nat → Nat} {aC : Nat → ClassId} {adX adM : Nat → Nat} {n : Nat} {H : Heap} {locs : List Loc} {cells slots : Nat} {Q : State → Prop} {ls : Array Slot}
set_option maxRecDepth 100000 in
set_option maxHeartbeats 4000000 in
theorem law_9 (hC : LC p s m meth c b L xs dC dI aC) (hLD : LD s.heap.size adX adM) (hSX : am_Sy adX (lw_A s) s) (hSM : am_Sy adM (lw_A s) s) (hl : lv_has ls 4 [(0, .ref b), (1, .ref (adX 0)), (2, .ref (adM 0)), (3, .int (nI (6 * n)))]) (hn : 6 * n + 6 ≤ L) (hL : L ≤ 3072) (hS : LSt dC dI aC adX adM s n H locs cells slots) (kk : ∀ H' locs' c' s', LSt dC dI aC adX adM s (n + 1) H' locs' c' s' → W p l e room_1 s m #[Value.ref b] below meth c H' locs' c' s' Q (F0 m 1515 ls [])) : W p l e room_1 s m #[Value.ref b] below meth c H locs cells slots Q (F0 m 545 ls []) := by
  obtain ⟨⟨hx, hb, hr, hml, hown, hts, hX0, hbl, hlocks, hgv⟩, _⟩ := id hC
  refine lv_aload_n hx hb dL_law_545 rfl (lv_at hl 1 rfl) ?_
  refine lw_arg (j := 1) hC (LS_S hS) hl hn hL (by decide) dL_law_546 dL_law_547 dL_law_548 dL_law_549 dL_law_550 ?_
  refine lw_X (zx := mX_flood) (zm := mM_flood) (w := 53) (lg := false) (As := [.int (xs (6 * n + 1))]) hC hLD hSX (by decide) rfl (by decide) rfl rfl (by decide +kernel) dL_law_551 (by omega) (fun σ i l0 q K i2 l2 hX hM => bo_flood _ (by omega) hX hM) rfl hl.1 hS (fun vv H1 locs1 c1 s1 hv hM => ?_)
  obtain ⟨r, rfl⟩ := hv
  refine lv_aload_n hx hb dL_law_554 rfl (lv_at hl 2 rfl) ?_
  refine lw_arg (j := 1) hC (LM_S hM) hl hn hL (by decide) dL_law_555 dL_law_556 dL_law_557 dL_law_558 dL_law_559 ?_
  refine lw_M (zm := mM_flood) (w := 56) (lg := false) (As := [.int (xs (6 * n + 1))]) hC hLD hSM (by decide) rfl (by decide) rfl rfl (by decide +kernel) dL_law_560 (by omega) ⟨r, rfl⟩ rfl hl.1 hM (fun H2 locs2 c2 s2 hS2 => ?_)
  exact lv_icmp_eq (tgt := 1515) hx hb dL_law_563 (by decide) (fun _ => kk H2 locs2 c2 s2 hS2) (fun z => absurd rfl z)
set_option maxRecDepth 100000 in
set_option maxHeartbeats 4000000 in
theorem law_10 (hC : LC p s m meth c b L xs dC dI aC) (hLD : LD s.heap.size adX adM) (hSX : am_Sy adX (lw_A s) s) (hSM : am_Sy adM (lw_A s) s) (hl : lv_has ls 4 [(0, .ref b), (1, .ref (adX 0)), (2, .ref (adM 0)), (3, .int (nI (6 * n)))]) (hn : 6 * n + 6 ≤ L) (hL : L ≤ 3072) (hS : LSt dC dI aC adX adM s n H locs cells slots) (kk : ∀ H' locs' c' s', LSt dC dI aC adX adM s (n + 1) H' locs' c' s' → W p l e room_1 s m #[Value.ref b] below meth c H' locs' c' s' Q (F0 m 1515 ls [])) : W p l e room_1 s m #[Value.ref b] below meth c H locs cells slots Q (F0 m 568 ls []) := by
  obtain ⟨⟨hx, hb, hr, hml, hown, hts, hX0, hbl, hlocks, hgv⟩, _⟩ := id hC
  refine lv_aload_n hx hb dL_law_568 rfl (lv_at hl 1 rfl) ?_
  refine lw_arg (j := 1) hC (LS_S hS) hl hn hL (by decide) dL_law_569 dL_law_570 dL_law_571 dL_law_572 dL_law_573 ?_
  refine lw_arg (j := 2) hC (LS_S hS) hl hn hL (by decide) dL_law_574 dL_law_575 dL_law_576 dL_law_577 dL_law_578 ?_
  refine lw_X (zx := mX_strength) (zm := mM_strength) (w := 57) (lg := false) (As := [.int (xs (6 * n + 1)), .int (xs (6 * n + 2))]) hC hLD hSX (by decide) rfl (by decide) rfl rfl (by decide +kernel) dL_law_579 (by omega) (fun σ i l0 q K i2 l2 hX hM => bo_strength _ _ (by omega) hX hM) rfl hl.1 hS (fun vv H1 locs1 c1 s1 hv hM => ?_)
  obtain ⟨r, rfl⟩ := hv
  refine lv_aload_n hx hb dL_law_582 rfl (lv_at hl 2 rfl) ?_
  refine lw_arg (j := 1) hC (LM_S hM) hl hn hL (by decide) dL_law_583 dL_law_584 dL_law_585 dL_law_586 dL_law_587 ?_
  refine lw_arg (j := 2) hC (LM_S hM) hl hn hL (by decide) dL_law_588 dL_law_589 dL_law_590 dL_law_591 dL_law_592 ?_
  refine lw_M (zm := mM_strength) (w := 60) (lg := false) (As := [.int (xs (6 * n + 1)), .int (xs (6 * n + 2))]) hC hLD hSM (by decide) rfl (by decide) rfl rfl (by decide +kernel) dL_law_593 (by omega) ⟨r, rfl⟩ rfl hl.1 hM (fun H2 locs2 c2 s2 hS2 => ?_)
  exact lv_icmp_eq (tgt := 1515) hx hb dL_law_596 (by decide) (fun _ => kk H2 locs2 c2 s2 hS2) (fun z => absurd rfl z)
set_option maxRecDepth 100000 in
set_option maxHeartbeats 4000000 in
theorem law_11 (hC : LC p s m meth c b L xs dC dI aC) (hLD : LD s.heap.size adX adM) (hSX : am_Sy adX (lw_A s) s) (hSM : am_Sy adM (lw_A s) s) (hl : lv_has ls 4 [(0, .ref b), (1, .ref (adX 0)), (2, .ref (adM 0)), (3, .int (nI (6 * n)))]) (hn : 6 * n + 6 ≤ L) (hL : L ≤ 3072) (hS : LSt dC dI aC adX adM s n H locs cells slots) (kk : ∀ H' locs' c' s', LSt dC dI aC adX adM s (n + 1) H' locs' c' s' → W p l e room_1 s m #[Value.ref b] below meth c H' locs' c' s' Q (F0 m 1515 ls [])) : W p l e room_1 s m #[Value.ref b] below meth c H locs cells slots Q (F0 m 601 ls []) := by
  obtain ⟨⟨hx, hb, hr, hml, hown, hts, hX0, hbl, hlocks, hgv⟩, _⟩ := id hC
  refine lv_aload_n hx hb dL_law_601 rfl (lv_at hl 1 rfl) ?_
  refine lw_arg (j := 1) hC (LS_S hS) hl hn hL (by decide) dL_law_602 dL_law_603 dL_law_604 dL_law_605 dL_law_606 ?_
  refine lw_arg (j := 2) hC (LS_S hS) hl hn hL (by decide) dL_law_607 dL_law_608 dL_law_609 dL_law_610 dL_law_611 ?_
  refine lw_X (zx := mX_depth) (zm := mM_depth) (w := 61) (lg := false) (As := [.int (xs (6 * n + 1)), .int (xs (6 * n + 2))]) hC hLD hSX (by decide) rfl (by decide) rfl rfl (by decide +kernel) dL_law_612 (by omega) (fun σ i l0 q K i2 l2 hX hM => bo_depth _ _ (by omega) hX hM) rfl hl.1 hS (fun vv H1 locs1 c1 s1 hv hM => ?_)
  obtain ⟨r, rfl⟩ := hv
  refine lv_aload_n hx hb dL_law_615 rfl (lv_at hl 2 rfl) ?_
  refine lw_arg (j := 1) hC (LM_S hM) hl hn hL (by decide) dL_law_616 dL_law_617 dL_law_618 dL_law_619 dL_law_620 ?_
  refine lw_arg (j := 2) hC (LM_S hM) hl hn hL (by decide) dL_law_621 dL_law_622 dL_law_623 dL_law_624 dL_law_625 ?_
  refine lw_M (zm := mM_depth) (w := 64) (lg := false) (As := [.int (xs (6 * n + 1)), .int (xs (6 * n + 2))]) hC hLD hSM (by decide) rfl (by decide) rfl rfl (by decide +kernel) dL_law_626 (by omega) ⟨r, rfl⟩ rfl hl.1 hM (fun H2 locs2 c2 s2 hS2 => ?_)
  exact lv_icmp_eq (tgt := 1515) hx hb dL_law_629 (by decide) (fun _ => kk H2 locs2 c2 s2 hS2) (fun z => absurd rfl z)
set_option maxRecDepth 100000 in
set_option maxHeartbeats 4000000 in
theorem law_12 (hC : LC p s m meth c b L xs dC dI aC) (hLD : LD s.heap.size adX adM) (hSX : am_Sy adX (lw_A s) s) (hSM : am_Sy adM (lw_A s) s) (hl : lv_has ls 4 [(0, .ref b), (1, .ref (adX 0)), (2, .ref (adM 0)), (3, .int (nI (6 * n)))]) (hn : 6 * n + 6 ≤ L) (hL : L ≤ 3072) (hS : LSt dC dI aC adX adM s n H locs cells slots) (kk : ∀ H' locs' c' s', LSt dC dI aC adX adM s (n + 1) H' locs' c' s' → W p l e room_1 s m #[Value.ref b] below meth c H' locs' c' s' Q (F0 m 1515 ls [])) : W p l e room_1 s m #[Value.ref b] below meth c H locs cells slots Q (F0 m 634 ls []) := by
  obtain ⟨⟨hx, hb, hr, hml, hown, hts, hX0, hbl, hlocks, hgv⟩, _⟩ := id hC
  refine lv_aload_n hx hb dL_law_634 rfl (lv_at hl 1 rfl) ?_
  refine lw_arg (j := 1) hC (LS_S hS) hl hn hL (by decide) dL_law_635 dL_law_636 dL_law_637 dL_law_638 dL_law_639 ?_
  refine lw_X (zx := mX_undo) (zm := mM_undo) (w := 65) (lg := false) (As := [.int (xs (6 * n + 1))]) hC hLD hSX (by decide) rfl (by decide) rfl rfl (by decide +kernel) dL_law_640 (by omega) (fun σ i l0 q K i2 l2 hX hM => bo_undo _ (by omega) hX hM) rfl hl.1 hS (fun vv H1 locs1 c1 s1 hv hM => ?_)
  obtain ⟨r, rfl⟩ := hv
  refine lv_aload_n hx hb dL_law_643 rfl (lv_at hl 2 rfl) ?_
  refine lw_arg (j := 1) hC (LM_S hM) hl hn hL (by decide) dL_law_644 dL_law_645 dL_law_646 dL_law_647 dL_law_648 ?_
  refine lw_M (zm := mM_undo) (w := 68) (lg := false) (As := [.int (xs (6 * n + 1))]) hC hLD hSM (by decide) rfl (by decide) rfl rfl (by decide +kernel) dL_law_649 (by omega) ⟨r, rfl⟩ rfl hl.1 hM (fun H2 locs2 c2 s2 hS2 => ?_)
  exact lv_icmp_eq (tgt := 1515) hx hb dL_law_652 (by decide) (fun _ => kk H2 locs2 c2 s2 hS2) (fun z => absurd rfl z)
set_option maxRecDepth 100000 in
set_option maxHeartbeats 4000000 in
theorem law_13 (hC : LC p s m meth c b L xs dC dI aC) (hLD : LD s.heap.size adX adM) (hSX : am_Sy adX (lw_A s) s) (hSM : am_Sy adM (lw_A s) s) (hl : lv_has ls 4 [(0, .ref b), (1, .ref (adX 0)), (2, .ref (adM 0)), (3, .int (nI (6 * n)))]) (hn : 6 * n + 6 ≤ L) (hL : L ≤ 3072) (hS : LSt dC dI aC adX adM s n H locs cells slots) (kk : ∀ H' locs' c' s', LSt dC dI aC adX adM s (n + 1) H' locs' c' s' → W p l e room_1 s m #[Value.ref b] below meth c H' locs' c' s' Q (F0 m 1515 ls [])) : W p l e room_1 s m #[Value.ref b] below meth c H locs cells slots Q (F0 m 657 ls []) := by
  obtain ⟨⟨hx, hb, hr, hml, hown, hts, hX0, hbl, hlocks, hgv⟩, _⟩ := id hC
  refine lv_aload_n hx hb dL_law_657 rfl (lv_at hl 1 rfl) ?_
  refine lw_arg (j := 1) hC (LS_S hS) hl hn hL (by decide) dL_law_658 dL_law_659 dL_law_660 dL_law_661 dL_law_662 ?_
  refine lw_arg (j := 2) hC (LS_S hS) hl hn hL (by decide) dL_law_663 dL_law_664 dL_law_665 dL_law_666 dL_law_667 ?_
  refine lw_X (zx := mX_judge) (zm := mM_judge) (w := 69) (lg := false) (As := [.int (xs (6 * n + 1)), .int (xs (6 * n + 2))]) hC hLD hSX (by decide) rfl (by decide) rfl rfl (by decide +kernel) dL_law_668 (by omega) (fun σ i l0 q K i2 l2 hX hM => bo_judge _ _ (by omega) hX hM) rfl hl.1 hS (fun vv H1 locs1 c1 s1 hv hM => ?_)
  obtain ⟨r, rfl⟩ := hv
  refine lv_aload_n hx hb dL_law_671 rfl (lv_at hl 2 rfl) ?_
  refine lw_arg (j := 1) hC (LM_S hM) hl hn hL (by decide) dL_law_672 dL_law_673 dL_law_674 dL_law_675 dL_law_676 ?_
  refine lw_arg (j := 2) hC (LM_S hM) hl hn hL (by decide) dL_law_677 dL_law_678 dL_law_679 dL_law_680 dL_law_681 ?_
  refine lw_M (zm := mM_judge) (w := 72) (lg := false) (As := [.int (xs (6 * n + 1)), .int (xs (6 * n + 2))]) hC hLD hSM (by decide) rfl (by decide) rfl rfl (by decide +kernel) dL_law_682 (by omega) ⟨r, rfl⟩ rfl hl.1 hM (fun H2 locs2 c2 s2 hS2 => ?_)
  exact lv_icmp_eq (tgt := 1515) hx hb dL_law_685 (by decide) (fun _ => kk H2 locs2 c2 s2 hS2) (fun z => absurd rfl z)
set_option maxRecDepth 100000 in
set_option maxHeartbeats 4000000 in
theorem law_14 (hC : LC p s m meth c b L xs dC dI aC) (hLD : LD s.heap.size adX adM) (hSX : am_Sy adX (lw_A s) s) (hSM : am_Sy adM (lw_A s) s) (hl : lv_has ls 4 [(0, .ref b), (1, .ref (adX 0)), (2, .ref (adM 0)), (3, .int (nI (6 * n)))]) (hn : 6 * n + 6 ≤ L) (hL : L ≤ 3072) (hS : LSt dC dI aC adX adM s n H locs cells slots) (kk : ∀ H' locs' c' s', LSt dC dI aC adX adM s (n + 1) H' locs' c' s' → W p l e room_1 s m #[Value.ref b] below meth c H' locs' c' s' Q (F0 m 1515 ls [])) : W p l e room_1 s m #[Value.ref b] below meth c H locs cells slots Q (F0 m 690 ls []) := by
  obtain ⟨⟨hx, hb, hr, hml, hown, hts, hX0, hbl, hlocks, hgv⟩, _⟩ := id hC
  refine lv_aload_n hx hb dL_law_690 rfl (lv_at hl 1 rfl) ?_
  refine lw_arg (j := 1) hC (LS_S hS) hl hn hL (by decide) dL_law_691 dL_law_692 dL_law_693 dL_law_694 dL_law_695 ?_
  refine lw_X (zx := mX_perform) (zm := mM_perform) (w := 73) (lg := false) (As := [.int (xs (6 * n + 1))]) hC hLD hSX (by decide) rfl (by decide) rfl rfl (by decide +kernel) dL_law_696 (by omega) (fun σ i l0 q K i2 l2 hX hM => bo_perform _ (by omega) hX hM) rfl hl.1 hS (fun vv H1 locs1 c1 s1 hv hM => ?_)
  obtain ⟨r, rfl⟩ := hv
  refine lv_aload_n hx hb dL_law_699 rfl (lv_at hl 2 rfl) ?_
  refine lw_arg (j := 1) hC (LM_S hM) hl hn hL (by decide) dL_law_700 dL_law_701 dL_law_702 dL_law_703 dL_law_704 ?_
  refine lw_M (zm := mM_perform) (w := 76) (lg := false) (As := [.int (xs (6 * n + 1))]) hC hLD hSM (by decide) rfl (by decide) rfl rfl (by decide +kernel) dL_law_705 (by omega) ⟨r, rfl⟩ rfl hl.1 hM (fun H2 locs2 c2 s2 hS2 => ?_)
  exact lv_icmp_eq (tgt := 1515) hx hb dL_law_708 (by decide) (fun _ => kk H2 locs2 c2 s2 hS2) (fun z => absurd rfl z)
set_option maxRecDepth 100000 in
set_option maxHeartbeats 4000000 in
theorem law_15 (hC : LC p s m meth c b L xs dC dI aC) (hLD : LD s.heap.size adX adM) (hSX : am_Sy adX (lw_A s) s) (hSM : am_Sy adM (lw_A s) s) (hl : lv_has ls 4 [(0, .ref b), (1, .ref (adX 0)), (2, .ref (adM 0)), (3, .int (nI (6 * n)))]) (hn : 6 * n + 6 ≤ L) (hL : L ≤ 3072) (hS : LSt dC dI aC adX adM s n H locs cells slots) (kk : ∀ H' locs' c' s', LSt dC dI aC adX adM s (n + 1) H' locs' c' s' → W p l e room_1 s m #[Value.ref b] below meth c H' locs' c' s' Q (F0 m 1515 ls [])) : W p l e room_1 s m #[Value.ref b] below meth c H locs cells slots Q (F0 m 713 ls []) := by
  obtain ⟨⟨hx, hb, hr, hml, hown, hts, hX0, hbl, hlocks, hgv⟩, _⟩ := id hC
  refine lv_aload_n hx hb dL_law_713 rfl (lv_at hl 1 rfl) ?_
  refine lw_arg (j := 1) hC (LS_S hS) hl hn hL (by decide) dL_law_714 dL_law_715 dL_law_716 dL_law_717 dL_law_718 ?_
  refine lw_arg (j := 2) hC (LS_S hS) hl hn hL (by decide) dL_law_719 dL_law_720 dL_law_721 dL_law_722 dL_law_723 ?_
  refine lw_X (zx := mX_season) (zm := mM_season) (w := 77) (lg := false) (As := [.int (xs (6 * n + 1)), .int (xs (6 * n + 2))]) hC hLD hSX (by decide) rfl (by decide) rfl rfl (by decide +kernel) dL_law_724 (by omega) (fun σ i l0 q K i2 l2 hX hM => bo_season _ _ (by omega) hX hM) rfl hl.1 hS (fun vv H1 locs1 c1 s1 hv hM => ?_)
  obtain ⟨r, rfl⟩ := hv
  refine lv_aload_n hx hb dL_law_727 rfl (lv_at hl 2 rfl) ?_
  refine lw_arg (j := 1) hC (LM_S hM) hl hn hL (by decide) dL_law_728 dL_law_729 dL_law_730 dL_law_731 dL_law_732 ?_
  refine lw_arg (j := 2) hC (LM_S hM) hl hn hL (by decide) dL_law_733 dL_law_734 dL_law_735 dL_law_736 dL_law_737 ?_
  refine lw_M (zm := mM_season) (w := 80) (lg := false) (As := [.int (xs (6 * n + 1)), .int (xs (6 * n + 2))]) hC hLD hSM (by decide) rfl (by decide) rfl rfl (by decide +kernel) dL_law_738 (by omega) ⟨r, rfl⟩ rfl hl.1 hM (fun H2 locs2 c2 s2 hS2 => ?_)
  exact lv_icmp_eq (tgt := 1515) hx hb dL_law_741 (by decide) (fun _ => kk H2 locs2 c2 s2 hS2) (fun z => absurd rfl z)
set_option maxRecDepth 100000 in
set_option maxHeartbeats 4000000 in
theorem law_16 (hC : LC p s m meth c b L xs dC dI aC) (hLD : LD s.heap.size adX adM) (hSX : am_Sy adX (lw_A s) s) (hSM : am_Sy adM (lw_A s) s) (hl : lv_has ls 4 [(0, .ref b), (1, .ref (adX 0)), (2, .ref (adM 0)), (3, .int (nI (6 * n)))]) (hn : 6 * n + 6 ≤ L) (hL : L ≤ 3072) (hS : LSt dC dI aC adX adM s n H locs cells slots) (kk : ∀ H' locs' c' s', LSt dC dI aC adX adM s (n + 1) H' locs' c' s' → W p l e room_1 s m #[Value.ref b] below meth c H' locs' c' s' Q (F0 m 1515 ls [])) : W p l e room_1 s m #[Value.ref b] below meth c H locs cells slots Q (F0 m 746 ls []) := by
  obtain ⟨⟨hx, hb, hr, hml, hown, hts, hX0, hbl, hlocks, hgv⟩, _⟩ := id hC
  refine lv_aload_n hx hb dL_law_746 rfl (lv_at hl 1 rfl) ?_
  refine lw_arg (j := 1) hC (LS_S hS) hl hn hL (by decide) dL_law_747 dL_law_748 dL_law_749 dL_law_750 dL_law_751 ?_
  refine lw_X (zx := mX_soonest) (zm := mM_soonest) (w := 81) (lg := false) (As := [.int (xs (6 * n + 1))]) hC hLD hSX (by decide) rfl (by decide) rfl rfl (by decide +kernel) dL_law_752 (by omega) (fun σ i l0 q K i2 l2 hX hM => bo_soonest _ (by omega) hX hM) rfl hl.1 hS (fun vv H1 locs1 c1 s1 hv hM => ?_)
  obtain ⟨r, rfl⟩ := hv
  refine lv_aload_n hx hb dL_law_755 rfl (lv_at hl 2 rfl) ?_
  refine lw_arg (j := 1) hC (LM_S hM) hl hn hL (by decide) dL_law_756 dL_law_757 dL_law_758 dL_law_759 dL_law_760 ?_
  refine lw_M (zm := mM_soonest) (w := 84) (lg := false) (As := [.int (xs (6 * n + 1))]) hC hLD hSM (by decide) rfl (by decide) rfl rfl (by decide +kernel) dL_law_761 (by omega) ⟨r, rfl⟩ rfl hl.1 hM (fun H2 locs2 c2 s2 hS2 => ?_)
  exact lv_icmp_eq (tgt := 1515) hx hb dL_law_764 (by decide) (fun _ => kk H2 locs2 c2 s2 hS2) (fun z => absurd rfl z)
set_option maxRecDepth 100000 in
set_option maxHeartbeats 4000000 in
theorem law_17 (hC : LC p s m meth c b L xs dC dI aC) (hLD : LD s.heap.size adX adM) (hSX : am_Sy adX (lw_A s) s) (hSM : am_Sy adM (lw_A s) s) (hl : lv_has ls 4 [(0, .ref b), (1, .ref (adX 0)), (2, .ref (adM 0)), (3, .int (nI (6 * n)))]) (hn : 6 * n + 6 ≤ L) (hL : L ≤ 3072) (hS : LSt dC dI aC adX adM s n H locs cells slots) (kk : ∀ H' locs' c' s', LSt dC dI aC adX adM s (n + 1) H' locs' c' s' → W p l e room_1 s m #[Value.ref b] below meth c H' locs' c' s' Q (F0 m 1515 ls [])) : W p l e room_1 s m #[Value.ref b] below meth c H locs cells slots Q (F0 m 769 ls []) := by
  obtain ⟨⟨hx, hb, hr, hml, hown, hts, hX0, hbl, hlocks, hgv⟩, _⟩ := id hC
  refine lv_aload_n hx hb dL_law_769 rfl (lv_at hl 1 rfl) ?_
  refine lw_arg (j := 1) hC (LS_S hS) hl hn hL (by decide) dL_law_770 dL_law_771 dL_law_772 dL_law_773 dL_law_774 ?_
  refine lw_arg (j := 2) hC (LS_S hS) hl hn hL (by decide) dL_law_775 dL_law_776 dL_law_777 dL_law_778 dL_law_779 ?_
  refine lw_X (zx := mX_way) (zm := mM_way) (w := 85) (lg := false) (As := [.int (xs (6 * n + 1)), .int (xs (6 * n + 2))]) hC hLD hSX (by decide) rfl (by decide) rfl rfl (by decide +kernel) dL_law_780 (by omega) (fun σ i l0 q K i2 l2 hX hM => bo_way _ _ (by omega) hX hM) rfl hl.1 hS (fun vv H1 locs1 c1 s1 hv hM => ?_)
  obtain ⟨r, rfl⟩ := hv
  refine lv_aload_n hx hb dL_law_783 rfl (lv_at hl 2 rfl) ?_
  refine lw_arg (j := 1) hC (LM_S hM) hl hn hL (by decide) dL_law_784 dL_law_785 dL_law_786 dL_law_787 dL_law_788 ?_
  refine lw_arg (j := 2) hC (LM_S hM) hl hn hL (by decide) dL_law_789 dL_law_790 dL_law_791 dL_law_792 dL_law_793 ?_
  refine lw_M (zm := mM_way) (w := 88) (lg := false) (As := [.int (xs (6 * n + 1)), .int (xs (6 * n + 2))]) hC hLD hSM (by decide) rfl (by decide) rfl rfl (by decide +kernel) dL_law_794 (by omega) ⟨r, rfl⟩ rfl hl.1 hM (fun H2 locs2 c2 s2 hS2 => ?_)
  exact lv_icmp_eq (tgt := 1515) hx hb dL_law_797 (by decide) (fun _ => kk H2 locs2 c2 s2 hS2) (fun z => absurd rfl z)
end
