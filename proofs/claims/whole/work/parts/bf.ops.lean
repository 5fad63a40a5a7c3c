/-! THE LAW: its calls 18 to 26, by program -/
section
variable {p : Program} {l : Launch} {e : Env} {s : State} {m : MethodId} {below : List Frame} {meth : Method} {c : Code} {b L : Nat} {xs : Nat → Int32} {dC : Nat → ClassId} {dI : Nat → Nat → Nat} {aC : Nat → ClassId} {adX adM : Nat → Nat} {n : Nat} {H : Heap} {locs : List Loc} {cells slots : Nat} {Q : State → Prop} {ls : Array Slot}
set_option maxRecDepth 100000 in
set_option maxHeartbeats 4000000 in
theorem law_18 (hC : LC p s m meth c b L xs dC dI aC) (hLD : LD s.heap.size adX adM) (hSX : am_Sy adX (lw_A s) s) (hSM : am_Sy adM (lw_A s) s) (hl : lv_has ls 4 [(0, .ref b), (1, .ref (adX 0)), (2, .ref (adM 0)), (3, .int (nI (6 * n)))]) (hn : 6 * n + 6 ≤ L) (hL : L ≤ 3072) (hS : LSt dC dI aC adX adM s n H locs cells slots) (kk : ∀ H' locs' c' s', LSt dC dI aC adX adM s (n + 1) H' locs' c' s' → W p l e room_1 s m #[Value.ref b] below meth c H' locs' c' s' Q (F0 m 1515 ls [])) : W p l e room_1 s m #[Value.ref b] below meth c H locs cells slots Q (F0 m 802 ls []) := by
  obtain ⟨⟨hx, hb, hr, hml, hown, hts, hX0, hbl, hlocks, hgv⟩, _⟩ := id hC
  refine lv_aload_n hx hb dL_law_802 rfl (lv_at hl 1 rfl) ?_
  refine lw_arg (j := 1) hC (LS_S hS) hl hn hL (by decide) dL_law_803 dL_law_804 dL_law_805 dL_law_806 dL_law_807 ?_
  refine lw_arg (j := 2) hC (LS_S hS) hl hn hL (by decide) dL_law_808 dL_law_809 dL_law_810 dL_law_811 dL_law_812 ?_
  refine lw_X (zx := mX_rows) (zm := mM_rows) (w := 89) (lg := true) (As := [.int (xs (6 * n + 1)), .int (xs (6 * n + 2))]) hC hLD hSX (by decide) rfl (by decide) rfl rfl (by decide +kernel) dL_law_813 (by omega) (fun σ i l0 q K i2 l2 hX hM => bo_rows _ _ (by omega) hX hM) rfl hl.1 hS (fun vv H1 locs1 c1 s1 hv hM => ?_)
  obtain ⟨r, rfl⟩ := hv
  refine lv_aload_n hx hb dL_law_816 rfl (lv_at hl 2 rfl) ?_
  refine lw_arg (j := 1) hC (LM_S hM) hl hn hL (by decide) dL_law_817 dL_law_818 dL_law_819 dL_law_820 dL_law_821 ?_
  refine lw_arg (j := 2) hC (LM_S hM) hl hn hL (by decide) dL_law_822 dL_law_823 dL_law_824 dL_law_825 dL_law_826 ?_
  refine lw_M (zm := mM_rows) (w := 93) (lg := true) (As := [.int (xs (6 * n + 1)), .int (xs (6 * n + 2))]) hC hLD hSM (by decide) rfl (by decide) rfl rfl (by decide +kernel) dL_law_827 (by omega) ⟨r, rfl⟩ rfl hl.1 hM (fun H2 locs2 c2 s2 hS2 => ?_)
  refine W.lcmp hx hb dL_law_830 ?_
  refine lv_if_eq (tgt := 1515) hx hb dL_law_831 (by decide) (fun _ => kk H2 locs2 c2 s2 hS2) (fun z => absurd (show lg_cmp r r = 0 from ?_) z)
  unfold lg_cmp
  simp
set_option maxRecDepth 100000 in
set_option maxHeartbeats 4000000 in
theorem law_19 (hC : LC p s m meth c b L xs dC dI aC) (hLD : LD s.heap.size adX adM) (hSX : am_Sy adX (lw_A s) s) (hSM : am_Sy adM (lw_A s) s) (hl : lv_has ls 4 [(0, .ref b), (1, .ref (adX 0)), (2, .ref (adM 0)), (3, .int (nI (6 * n)))]) (hn : 6 * n + 6 ≤ L) (hL : L ≤ 3072) (hS : LSt dC dI aC adX adM s n H locs cells slots) (kk : ∀ H' locs' c' s', LSt dC dI aC adX adM s (n + 1) H' locs' c' s' → W p l e room_1 s m #[Value.ref b] below meth c H' locs' c' s' Q (F0 m 1515 ls [])) : W p l e room_1 s m #[Value.ref b] below meth c H locs cells slots Q (F0 m 836 ls []) := by
  obtain ⟨⟨hx, hb, hr, hml, hown, hts, hX0, hbl, hlocks, hgv⟩, _⟩ := id hC
  refine lv_aload_n hx hb dL_law_836 rfl (lv_at hl 1 rfl) ?_
  refine lw_arg (j := 1) hC (LS_S hS) hl hn hL (by decide) dL_law_837 dL_law_838 dL_law_839 dL_law_840 dL_law_841 ?_
  refine lw_X (zx := mX_needed) (zm := mM_needed) (w := 94) (lg := false) (As := [.int (xs (6 * n + 1))]) hC hLD hSX (by decide) rfl (by decide) rfl rfl (by decide +kernel) dL_law_842 (by omega) (fun σ i l0 q K i2 l2 hX hM => bo_needed _ (by omega) hX hM) rfl hl.1 hS (fun vv H1 locs1 c1 s1 hv hM => ?_)
  obtain ⟨r, rfl⟩ := hv
  refine lv_aload_n hx hb dL_law_845 rfl (lv_at hl 2 rfl) ?_
  refine lw_arg (j := 1) hC (LM_S hM) hl hn hL (by decide) dL_law_846 dL_law_847 dL_law_848 dL_law_849 dL_law_850 ?_
  refine lw_M (zm := mM_needed) (w := 97) (lg := false) (As := [.int (xs (6 * n + 1))]) hC hLD hSM (by decide) rfl (by decide) rfl rfl (by decide +kernel) dL_law_851 (by omega) ⟨r, rfl⟩ rfl hl.1 hM (fun H2 locs2 c2 s2 hS2 => ?_)
  exact lv_icmp_eq (tgt := 1515) hx hb dL_law_854 (by decide) (fun _ => kk H2 locs2 c2 s2 hS2) (fun z => absurd rfl z)
set_option maxRecDepth 100000 in
set_option maxHeartbeats 4000000 in
theorem law_20 (hC : LC p s m meth c b L xs dC dI aC) (hLD : LD s.heap.size adX adM) (hSX : am_Sy adX (lw_A s) s) (hSM : am_Sy adM (lw_A s) s) (hl : lv_has ls 4 [(0, .ref b), (1, .ref (adX 0)), (2, .ref (adM 0)), (3, .int (nI (6 * n)))]) (hn : 6 * n + 6 ≤ L) (hL : L ≤ 3072) (hS : LSt dC dI aC adX adM s n H locs cells slots) (kk : ∀ H' locs' c' s', LSt dC dI aC adX adM s (n + 1) H' locs' c' s' → W p l e room_1 s m #[Value.ref b] below meth c H' locs' c' s' Q (F0 m 1515 ls [])) : W p l e room_1 s m #[Value.ref b] below meth c H locs cells slots Q (F0 m 859 ls []) := by
  obtain ⟨⟨hx, hb, hr, hml, hown, hts, hX0, hbl, hlocks, hgv⟩, _⟩ := id hC
  refine lv_aload_n hx hb dL_law_859 rfl (lv_at hl 1 rfl) ?_
  refine lw_arg (j := 1) hC (LS_S hS) hl hn hL (by decide) dL_law_860 dL_law_861 dL_law_862 dL_law_863 dL_law_864 ?_
  refine lw_X (zx := mX_movers) (zm := mM_movers) (w := 98) (lg := false) (As := [.int (xs (6 * n + 1))]) hC hLD hSX (by decide) rfl (by decide) rfl rfl (by decide +kernel) dL_law_865 (by omega) (fun σ i l0 q K i2 l2 hX hM => bo_movers _ (by omega) hX hM) rfl hl.1 hS (fun vv H1 locs1 c1 s1 hv hM => ?_)
  obtain ⟨r, rfl⟩ := hv
  refine lv_aload_n hx hb dL_law_868 rfl (lv_at hl 2 rfl) ?_
  refine lw_arg (j := 1) hC (LM_S hM) hl hn hL (by decide) dL_law_869 dL_law_870 dL_law_871 dL_law_872 dL_law_873 ?_
  refine lw_M (zm := mM_movers) (w := 101) (lg := false) (As := [.int (xs (6 * n + 1))]) hC hLD hSM (by decide) rfl (by decide) rfl rfl (by decide +kernel) dL_law_874 (by omega) ⟨r, rfl⟩ rfl hl.1 hM (fun H2 locs2 c2 s2 hS2 => ?_)
  exact lv_icmp_eq (tgt := 1515) hx hb dL_law_877 (by decide) (fun _ => kk H2 locs2 c2 s2 hS2) (fun z => absurd rfl z)
set_option maxRecDepth 100000 in
set_option maxHeartbeats 4000000 in
theorem law_21 (hC : LC p s m meth c b L xs dC dI aC) (hLD : LD s.heap.size adX adM) (hSX : am_Sy adX (lw_A s) s) (hSM : am_Sy adM (lw_A s) s) (hl : lv_has ls 4 [(0, .ref b), (1, .ref (adX 0)), (2, .ref (adM 0)), (3, .int (nI (6 * n)))]) (hn : 6 * n + 6 ≤ L) (hL : L ≤ 3072) (hS : LSt dC dI aC adX adM s n H locs cells slots) (kk : ∀ H' locs' c' s', LSt dC dI aC adX adM s (n + 1) H' locs' c' s' → W p l e room_1 s m #[Value.ref b] below meth c H' locs' c' s' Q (F0 m 1515 ls [])) : W p l e room_1 s m #[Value.ref b] below meth c H locs cells slots Q (F0 m 882 ls []) := by
  obtain ⟨⟨hx, hb, hr, hml, hown, hts, hX0, hbl, hlocks, hgv⟩, _⟩ := id hC
  refine lv_aload_n hx hb dL_law_882 rfl (lv_at hl 1 rfl) ?_
  refine lw_X (zx := mX_most) (zm := mM_most) (w := 102) (lg := false) (As := []) hC hLD hSX (by decide) rfl (by decide) rfl rfl (by decide +kernel) dL_law_883 (by omega) (fun σ i l0 q K i2 l2 hX hM => bo_most (by omega) hX hM) rfl hl.1 hS (fun vv H1 locs1 c1 s1 hv hM => ?_)
  obtain ⟨r, rfl⟩ := hv
  refine lv_aload_n hx hb dL_law_886 rfl (lv_at hl 2 rfl) ?_
  refine lw_M (zm := mM_most) (w := 106) (lg := false) (As := []) hC hLD hSM (by decide) rfl (by decide) rfl rfl (by decide +kernel) dL_law_887 (by omega) ⟨r, rfl⟩ rfl hl.1 hM (fun H2 locs2 c2 s2 hS2 => ?_)
  exact lv_icmp_eq (tgt := 1515) hx hb dL_law_890 (by decide) (fun _ => kk H2 locs2 c2 s2 hS2) (fun z => absurd rfl z)
set_option maxRecDepth 100000 in
set_option maxHeartbeats 4000000 in
theorem law_22 (hC : LC p s m meth c b L xs dC dI aC) (hLD : LD s.heap.size adX adM) (hSX : am_Sy adX (lw_A s) s) (hSM : am_Sy adM (lw_A s) s) (hl : lv_has ls 4 [(0, .ref b), (1, .ref (adX 0)), (2, .ref (adM 0)), (3, .int (nI (6 * n)))]) (hn : 6 * n + 6 ≤ L) (hL : L ≤ 3072) (hS : LSt dC dI aC adX adM s n H locs cells slots) (kk : ∀ H' locs' c' s', LSt dC dI aC adX adM s (n + 1) H' locs' c' s' → W p l e room_1 s m #[Value.ref b] below meth c H' locs' c' s' Q (F0 m 1515 ls [])) : W p l e room_1 s m #[Value.ref b] below meth c H locs cells slots Q (F0 m 895 ls []) := by
  obtain ⟨⟨hx, hb, hr, hml, hown, hts, hX0, hbl, hlocks, hgv⟩, _⟩ := id hC
  refine lv_aload_n hx hb dL_law_895 rfl (lv_at hl 1 rfl) ?_
  refine lw_arg (j := 1) hC (LS_S hS) hl hn hL (by decide) dL_law_896 dL_law_897 dL_law_898 dL_law_899 dL_law_900 ?_
  refine lw_X (zx := mX_reach) (zm := mM_reach) (w := 107) (lg := false) (As := [.int (xs (6 * n + 1))]) hC hLD hSX (by decide) rfl (by decide) rfl rfl (by decide +kernel) dL_law_901 (by omega) (fun σ i l0 q K i2 l2 hX hM => bo_reach _ (by omega) hX hM) rfl hl.1 hS (fun vv H1 locs1 c1 s1 hv hM => ?_)
  obtain ⟨r, rfl⟩ := hv
  refine lv_aload_n hx hb dL_law_904 rfl (lv_at hl 2 rfl) ?_
  refine lw_arg (j := 1) hC (LM_S hM) hl hn hL (by decide) dL_law_905 dL_law_906 dL_law_907 dL_law_908 dL_law_909 ?_
  refine lw_M (zm := mM_reach) (w := 110) (lg := false) (As := [.int (xs (6 * n + 1))]) hC hLD hSM (by decide) rfl (by decide) rfl rfl (by decide +kernel) dL_law_910 (by omega) ⟨r, rfl⟩ rfl hl.1 hM (fun H2 locs2 c2 s2 hS2 => ?_)
  exact lv_icmp_eq (tgt := 1515) hx hb dL_law_913 (by decide) (fun _ => kk H2 locs2 c2 s2 hS2) (fun z => absurd rfl z)
set_option maxRecDepth 100000 in
set_option maxHeartbeats 4000000 in
theorem law_23 (hC : LC p s m meth c b L xs dC dI aC) (hLD : LD s.heap.size adX adM) (hSX : am_Sy adX (lw_A s) s) (hSM : am_Sy adM (lw_A s) s) (hl : lv_has ls 4 [(0, .ref b), (1, .ref (adX 0)), (2, .ref (adM 0)), (3, .int (nI (6 * n)))]) (hn : 6 * n + 6 ≤ L) (hL : L ≤ 3072) (hS : LSt dC dI aC adX adM s n H locs cells slots) (kk : ∀ H' locs' c' s', LSt dC dI aC adX adM s (n + 1) H' locs' c' s' → W p l e room_1 s m #[Value.ref b] below meth c H' locs' c' s' Q (F0 m 1515 ls [])) : W p l e room_1 s m #[Value.ref b] below meth c H locs cells slots Q (F0 m 918 ls []) := by
  obtain ⟨⟨hx, hb, hr, hml, hown, hts, hX0, hbl, hlocks, hgv⟩, _⟩ := id hC
  refine lv_aload_n hx hb dL_law_918 rfl (lv_at hl 1 rfl) ?_
  refine lw_X (zx := mX_stands) (zm := mM_stands) (w := 111) (lg := false) (As := []) hC hLD hSX (by decide) rfl (by decide) rfl rfl (by decide +kernel) dL_law_919 (by omega) (fun σ i l0 q K i2 l2 hX hM => bo_stands (by omega) hX hM) rfl hl.1 hS (fun vv H1 locs1 c1 s1 hv hM => ?_)
  obtain ⟨r, rfl⟩ := hv
  refine lv_aload_n hx hb dL_law_922 rfl (lv_at hl 2 rfl) ?_
  refine lw_M (zm := mM_stands) (w := 114) (lg := false) (As := []) hC hLD hSM (by decide) rfl (by decide) rfl rfl (by decide +kernel) dL_law_923 (by omega) ⟨r, rfl⟩ rfl hl.1 hM (fun H2 locs2 c2 s2 hS2 => ?_)
  exact lv_icmp_eq (tgt := 1515) hx hb dL_law_926 (by decide) (fun _ => kk H2 locs2 c2 s2 hS2) (fun z => absurd rfl z)
set_option maxRecDepth 100000 in
set_option maxHeartbeats 4000000 in
theorem law_24 (hC : LC p s m meth c b L xs dC dI aC) (hLD : LD s.heap.size adX adM) (hSX : am_Sy adX (lw_A s) s) (hSM : am_Sy adM (lw_A s) s) (hl : lv_has ls 4 [(0, .ref b), (1, .ref (adX 0)), (2, .ref (adM 0)), (3, .int (nI (6 * n)))]) (hn : 6 * n + 6 ≤ L) (hL : L ≤ 3072) (hS : LSt dC dI aC adX adM s n H locs cells slots) (kk : ∀ H' locs' c' s', LSt dC dI aC adX adM s (n + 1) H' locs' c' s' → W p l e room_1 s m #[Value.ref b] below meth c H' locs' c' s' Q (F0 m 1515 ls [])) : W p l e room_1 s m #[Value.ref b] below meth c H locs cells slots Q (F0 m 931 ls []) := by
  obtain ⟨⟨hx, hb, hr, hml, hown, hts, hX0, hbl, hlocks, hgv⟩, _⟩ := id hC
  refine lv_aload_n hx hb dL_law_931 rfl (lv_at hl 1 rfl) ?_
  refine lw_arg (j := 1) hC (LS_S hS) hl hn hL (by decide) dL_law_932 dL_law_933 dL_law_934 dL_law_935 dL_law_936 ?_
  refine lw_X (zx := mX_stride) (zm := mM_stride) (w := 115) (lg := false) (As := [.int (xs (6 * n + 1))]) hC hLD hSX (by decide) rfl (by decide) rfl rfl (by decide +kernel) dL_law_937 (by omega) (fun σ i l0 q K i2 l2 hX hM => bo_stride _ (by omega) hX hM) rfl hl.1 hS (fun vv H1 locs1 c1 s1 hv hM => ?_)
  obtain ⟨r, rfl⟩ := hv
  refine lv_aload_n hx hb dL_law_940 rfl (lv_at hl 2 rfl) ?_
  refine lw_arg (j := 1) hC (LM_S hM) hl hn hL (by decide) dL_law_941 dL_law_942 dL_law_943 dL_law_944 dL_law_945 ?_
  refine lw_M (zm := mM_stride) (w := 118) (lg := false) (As := [.int (xs (6 * n + 1))]) hC hLD hSM (by decide) rfl (by decide) rfl rfl (by decide +kernel) dL_law_946 (by omega) ⟨r, rfl⟩ rfl hl.1 hM (fun H2 locs2 c2 s2 hS2 => ?_)
  exact lv_icmp_eq (tgt := 1515) hx hb dL_law_949 (by decide) (fun _ => kk H2 locs2 c2 s2 hS2) (fun z => absurd rfl z)
set_option maxRecDepth 100000 in
set_option maxHeartbeats 4000000 in
theorem law_25 (hC : LC p s m meth c b L xs dC dI aC) (hLD : LD s.heap.size adX adM) (hSX : am_Sy adX (lw_A s) s) (hSM : am_Sy adM (lw_A s) s) (hl : lv_has ls 4 [(0, .ref b), (1, .ref (adX 0)), (2, .ref (adM 0)), (3, .int (nI (6 * n)))]) (hn : 6 * n + 6 ≤ L) (hL : L ≤ 3072) (hS : LSt dC dI aC adX adM s n H locs cells slots) (kk : ∀ H' locs' c' s', LSt dC dI aC adX adM s (n + 1) H' locs' c' s' → W p l e room_1 s m #[Value.ref b] below meth c H' locs' c' s' Q (F0 m 1515 ls [])) : W p l e room_1 s m #[Value.ref b] below meth c H locs cells slots Q (F0 m 954 ls []) := by
  obtain ⟨⟨hx, hb, hr, hml, hown, hts, hX0, hbl, hlocks, hgv⟩, _⟩ := id hC
  refine lv_aload_n hx hb dL_law_954 rfl (lv_at hl 1 rfl) ?_
  refine lw_arg (j := 1) hC (LS_S hS) hl hn hL (by decide) dL_law_955 dL_law_956 dL_law_957 dL_law_958 dL_law_959 ?_
  refine lw_X (zx := mX_swept) (zm := mM_swept) (w := 119) (lg := false) (As := [.int (xs (6 * n + 1))]) hC hLD hSX (by decide) rfl (by decide) rfl rfl (by decide +kernel) dL_law_960 (by omega) (fun σ i l0 q K i2 l2 hX hM => bo_swept _ (by omega) hX hM) rfl hl.1 hS (fun vv H1 locs1 c1 s1 hv hM => ?_)
  obtain ⟨r, rfl⟩ := hv
  refine lv_aload_n hx hb dL_law_963 rfl (lv_at hl 2 rfl) ?_
  refine lw_arg (j := 1) hC (LM_S hM) hl hn hL (by decide) dL_law_964 dL_law_965 dL_law_966 dL_law_967 dL_law_968 ?_
  refine lw_M (zm := mM_swept) (w := 122) (lg := false) (As := [.int (xs (6 * n + 1))]) hC hLD hSM (by decide) rfl (by decide) rfl rfl (by decide +kernel) dL_law_969 (by omega) ⟨r, rfl⟩ rfl hl.1 hM (fun H2 locs2 c2 s2 hS2 => ?_)
  exact lv_icmp_eq (tgt := 1515) hx hb dL_law_972 (by decide) (fun _ => kk H2 locs2 c2 s2 hS2) (fun z => absurd rfl z)
set_option maxRecDepth 100000 in
set_option maxHeartbeats 4000000 in
theorem law_26 (hC : LC p s m meth c b L xs dC dI aC) (hLD : LD s.heap.size adX adM) (hSX : am_Sy adX (lw_A s) s) (hSM : am_Sy adM (lw_A s) s) (hl : lv_has ls 4 [(0, .ref b), (1, .ref (adX 0)), (2, .ref (adM 0)), (3, .int (nI (6 * n)))]) (hn : 6 * n + 6 ≤ L) (hL : L ≤ 3072) (hS : LSt dC dI aC adX adM s n H locs cells slots) (kk : ∀ H' locs' c' s', LSt dC dI aC adX adM s (n + 1) H' locs' c' s' → W p l e room_1 s m #[Value.ref b] below meth c H' locs' c' s' Q (F0 m 1515 ls [])) : W p l e room_1 s m #[Value.ref b] below meth c H locs cells slots Q (F0 m 977 ls []) := by
  obtain ⟨⟨hx, hb, hr, hml, hown, hts, hX0, hbl, hlocks, hgv⟩, _⟩ := id hC
  refine lv_aload_n hx hb dL_law_977 rfl (lv_at hl 1 rfl) ?_
  refine lw_arg (j := 1) hC (LS_S hS) hl hn hL (by decide) dL_law_978 dL_law_979 dL_law_980 dL_law_981 dL_law_982 ?_
  refine lw_X (zx := mX_least) (zm := mM_least) (w := 123) (lg := false) (As := [.int (xs (6 * n + 1))]) hC hLD hSX (by decide) rfl (by decide) rfl rfl (by decide +kernel) dL_law_983 (by omega) (fun σ i l0 q K i2 l2 hX hM => bo_least _ (by omega) hX hM) rfl hl.1 hS (fun vv H1 locs1 c1 s1 hv hM => ?_)
  obtain ⟨r, rfl⟩ := hv
  refine lv_aload_n hx hb dL_law_986 rfl (lv_at hl 2 rfl) ?_
  refine lw_arg (j := 1) hC (LM_S hM) hl hn hL (by decide) dL_law_987 dL_law_988 dL_law_989 dL_law_990 dL_law_991 ?_
  refine lw_M (zm := mM_least) (w := 126) (lg := false) (As := [.int (xs (6 * n + 1))]) hC hLD hSM (by decide) rfl (by decide) rfl rfl (by decide +kernel) dL_law_992 (by omega) ⟨r, rfl⟩ rfl hl.1 hM (fun H2 locs2 c2 s2 hS2 => ?_)
  exact lv_icmp_eq (tgt := 1515) hx hb dL_law_995 (by decide) (fun _ => kk H2 locs2 c2 s2 hS2) (fun z => absurd rfl z)
end
