/-! THE LAW: its calls 27 to 35, by program -/
section
variable {p : Program} {l : Launch} {e : Env} {s : State} {m : MethodId} {below : List Frame} {meth : Method} {c : Code} {b L : Nat} {xs : Nat → Int32} {dC : Nat → ClassId} {dI : Nat → Nat → Nat} {aC : Nat → ClassId} {adX adM : Nat → Nat} {n : Nat} {H : Heap} {locs : List Loc} {cells slots : Nat} {Q : State → Prop} {ls : Array Slot}
set_option maxRecDepth 100000 in
set_option maxHeartbeats 4000000 in
theorem law_27 (hC : LC p s m meth c b L xs dC dI aC) (hLD : LD s.heap.size adX adM) (hSX : am_Sy adX (lw_A s) s) (hSM : am_Sy adM (lw_A s) s) (hl : lv_has ls 4 [(0, .ref b), (1, .ref (adX 0)), (2, .ref (adM 0)), (3, .int (nI (6 * n)))]) (hn : 6 * n + 6 ≤ L) (hL : L ≤ 3072) (hS : LSt dC dI aC adX adM s n H locs cells slots) (kk : ∀ H' locs' c' s', LSt dC dI aC adX adM s (n + 1) H' locs' c' s' → W p l e room_1 s m #[Value.ref b] below meth c H' locs' c' s' Q (F0 m 1515 ls [])) : W p l e room_1 s m #[Value.ref b] below meth c H locs cells slots Q (F0 m 1000 ls []) := by
  obtain ⟨⟨hx, hb, hr, hml, hown, hts, hX0, hbl, hlocks, hgv⟩, _⟩ := id hC
  refine lv_aload_n hx hb dL_law_1000 rfl (lv_at hl 1 rfl) ?_
  refine lw_X (zx := mX_calm) (zm := mM_calm) (w := 127) (lg := false) (As := []) hC hLD hSX (by decide) rfl (by decide) rfl rfl (by decide +kernel) dL_law_1001 (by omega) (fun σ i l0 q K i2 l2 hX hM => bo_calm (by omega) hX hM) rfl hl.1 hS (fun vv H1 locs1 c1 s1 hv hM => ?_)
  obtain ⟨r, rfl⟩ := hv
  refine lv_aload_n hx hb dL_law_1004 rfl (lv_at hl 2 rfl) ?_
  refine lw_M (zm := mM_calm) (w := 130) (lg := false) (As := []) hC hLD hSM (by decide) rfl (by decide) rfl rfl (by decide +kernel) dL_law_1005 (by omega) ⟨r, rfl⟩ rfl hl.1 hM (fun H2 locs2 c2 s2 hS2 => ?_)
  exact lv_icmp_eq (tgt := 1515) hx hb dL_law_1008 (by decide) (fun _ => kk H2 locs2 c2 s2 hS2) (fun z => absurd rfl z)
set_option maxRecDepth 100000 in
set_option maxHeartbeats 4000000 in
theorem law_28 (hC : LC p s m meth c b L xs dC dI aC) (hLD : LD s.heap.size adX adM) (hSX : am_Sy adX (lw_A s) s) (hSM : am_Sy adM (lw_A s) s) (hl : lv_has ls 4 [(0, .ref b), (1, .ref (adX 0)), (2, .ref (adM 0)), (3, .int (nI (6 * n)))]) (hn : 6 * n + 6 ≤ L) (hL : L ≤ 3072) (hS : LSt dC dI aC adX adM s n H locs cells slots) (kk : ∀ H' locs' c' s', LSt dC dI aC adX adM s (n + 1) H' locs' c' s' → W p l e room_1 s m #[Value.ref b] below meth c H' locs' c' s' Q (F0 m 1515 ls [])) : W p l e room_1 s m #[Value.ref b] below meth c H locs cells slots Q (F0 m 1013 ls []) := by
  obtain ⟨⟨hx, hb, hr, hml, hown, hts, hX0, hbl, hlocks, hgv⟩, _⟩ := id hC
  refine lv_aload_n hx hb dL_law_1013 rfl (lv_at hl 1 rfl) ?_
  refine lw_arg (j := 1) hC (LS_S hS) hl hn hL (by decide) dL_law_1014 dL_law_1015 dL_law_1016 dL_law_1017 dL_law_1018 ?_
  refine lw_X (zx := mX_looks) (zm := mM_looks) (w := 131) (lg := false) (As := [.int (xs (6 * n + 1))]) hC hLD hSX (by decide) rfl (by decide) rfl rfl (by decide +kernel) dL_law_1019 (by omega) (fun σ i l0 q K i2 l2 hX hM => bo_looks _ (by omega) hX hM) rfl hl.1 hS (fun vv H1 locs1 c1 s1 hv hM => ?_)
  obtain ⟨r, rfl⟩ := hv
  refine lv_aload_n hx hb dL_law_1022 rfl (lv_at hl 2 rfl) ?_
  refine lw_arg (j := 1) hC (LM_S hM) hl hn hL (by decide) dL_law_1023 dL_law_1024 dL_law_1025 dL_law_1026 dL_law_1027 ?_
  refine lw_M (zm := mM_looks) (w := 134) (lg := false) (As := [.int (xs (6 * n + 1))]) hC hLD hSM (by decide) rfl (by decide) rfl rfl (by decide +kernel) dL_law_1028 (by omega) ⟨r, rfl⟩ rfl hl.1 hM (fun H2 locs2 c2 s2 hS2 => ?_)
  exact lv_icmp_eq (tgt := 1515) hx hb dL_law_1031 (by decide) (fun _ => kk H2 locs2 c2 s2 hS2) (fun z => absurd rfl z)
set_option maxRecDepth 100000 in
set_option maxHeartbeats 4000000 in
theorem law_29 (hC : LC p s m meth c b L xs dC dI aC) (hLD : LD s.heap.size adX adM) (hSX : am_Sy adX (lw_A s) s) (hSM : am_Sy adM (lw_A s) s) (hl : lv_has ls 4 [(0, .ref b), (1, .ref (adX 0)), (2, .ref (adM 0)), (3, .int (nI (6 * n)))]) (hn : 6 * n + 6 ≤ L) (hL : L ≤ 3072) (hS : LSt dC dI aC adX adM s n H locs cells slots) (kk : ∀ H' locs' c' s', LSt dC dI aC adX adM s (n + 1) H' locs' c' s' → W p l e room_1 s m #[Value.ref b] below meth c H' locs' c' s' Q (F0 m 1515 ls [])) : W p l e room_1 s m #[Value.ref b] below meth c H locs cells slots Q (F0 m 1036 ls []) := by
  obtain ⟨⟨hx, hb, hr, hml, hown, hts, hX0, hbl, hlocks, hgv⟩, _⟩ := id hC
  refine lv_aload_n hx hb dL_law_1036 rfl (lv_at hl 1 rfl) ?_
  refine lw_X (zx := mX_orders) (zm := mM_orders) (w := 135) (lg := false) (As := []) hC hLD hSX (by decide) rfl (by decide) rfl rfl (by decide +kernel) dL_law_1037 (by omega) (fun σ i l0 q K i2 l2 hX hM => bo_orders (by omega) hX hM) rfl hl.1 hS (fun vv H1 locs1 c1 s1 hv hM => ?_)
  obtain ⟨r, rfl⟩ := hv
  refine lv_aload_n hx hb dL_law_1040 rfl (lv_at hl 2 rfl) ?_
  refine lw_M (zm := mM_orders) (w := 138) (lg := false) (As := []) hC hLD hSM (by decide) rfl (by decide) rfl rfl (by decide +kernel) dL_law_1041 (by omega) ⟨r, rfl⟩ rfl hl.1 hM (fun H2 locs2 c2 s2 hS2 => ?_)
  exact lv_icmp_eq (tgt := 1515) hx hb dL_law_1044 (by decide) (fun _ => kk H2 locs2 c2 s2 hS2) (fun z => absurd rfl z)
set_option maxRecDepth 100000 in
set_option maxHeartbeats 4000000 in
theorem law_30 (hC : LC p s m meth c b L xs dC dI aC) (hLD : LD s.heap.size adX adM) (hSX : am_Sy adX (lw_A s) s) (hSM : am_Sy adM (lw_A s) s) (hl : lv_has ls 4 [(0, .ref b), (1, .ref (adX 0)), (2, .ref (adM 0)), (3, .int (nI (6 * n)))]) (hn : 6 * n + 6 ≤ L) (hL : L ≤ 3072) (hS : LSt dC dI aC adX adM s n H locs cells slots) (kk : ∀ H' locs' c' s', LSt dC dI aC adX adM s (n + 1) H' locs' c' s' → W p l e room_1 s m #[Value.ref b] below meth c H' locs' c' s' Q (F0 m 1515 ls [])) : W p l e room_1 s m #[Value.ref b] below meth c H locs cells slots Q (F0 m 1049 ls []) := by
  obtain ⟨⟨hx, hb, hr, hml, hown, hts, hX0, hbl, hlocks, hgv⟩, _⟩ := id hC
  refine lv_aload_n hx hb dL_law_1049 rfl (lv_at hl 1 rfl) ?_
  refine lw_arg (j := 1) hC (LS_S hS) hl hn hL (by decide) dL_law_1050 dL_law_1051 dL_law_1052 dL_law_1053 dL_law_1054 ?_
  refine lw_X (zx := mX_order) (zm := mM_order) (w := 139) (lg := false) (As := [.int (xs (6 * n + 1))]) hC hLD hSX (by decide) rfl (by decide) rfl rfl (by decide +kernel) dL_law_1055 (by omega) (fun σ i l0 q K i2 l2 hX hM => bo_order _ (by omega) hX hM) rfl hl.1 hS (fun vv H1 locs1 c1 s1 hv hM => ?_)
  obtain ⟨r, rfl⟩ := hv
  refine lv_aload_n hx hb dL_law_1058 rfl (lv_at hl 2 rfl) ?_
  refine lw_arg (j := 1) hC (LM_S hM) hl hn hL (by decide) dL_law_1059 dL_law_1060 dL_law_1061 dL_law_1062 dL_law_1063 ?_
  refine lw_M (zm := mM_order) (w := 142) (lg := false) (As := [.int (xs (6 * n + 1))]) hC hLD hSM (by decide) rfl (by decide) rfl rfl (by decide +kernel) dL_law_1064 (by omega) ⟨r, rfl⟩ rfl hl.1 hM (fun H2 locs2 c2 s2 hS2 => ?_)
  exact lv_icmp_eq (tgt := 1515) hx hb dL_law_1067 (by decide) (fun _ => kk H2 locs2 c2 s2 hS2) (fun z => absurd rfl z)
set_option maxRecDepth 100000 in
set_option maxHeartbeats 4000000 in
theorem law_31 (hC : LC p s m meth c b L xs dC dI aC) (hLD : LD s.heap.size adX adM) (hSX : am_Sy adX (lw_A s) s) (hSM : am_Sy adM (lw_A s) s) (hl : lv_has ls 4 [(0, .ref b), (1, .ref (adX 0)), (2, .ref (adM 0)), (3, .int (nI (6 * n)))]) (hn : 6 * n + 6 ≤ L) (hL : L ≤ 3072) (hS : LSt dC dI aC adX adM s n H locs cells slots) (kk : ∀ H' locs' c' s', LSt dC dI aC adX adM s (n + 1) H' locs' c' s' → W p l e room_1 s m #[Value.ref b] below meth c H' locs' c' s' Q (F0 m 1515 ls [])) : W p l e room_1 s m #[Value.ref b] below meth c H locs cells slots Q (F0 m 1072 ls []) := by
  obtain ⟨⟨hx, hb, hr, hml, hown, hts, hX0, hbl, hlocks, hgv⟩, _⟩ := id hC
  refine lv_aload_n hx hb dL_law_1072 rfl (lv_at hl 1 rfl) ?_
  refine lw_X (zx := mX_firsts) (zm := mM_firsts) (w := 143) (lg := false) (As := []) hC hLD hSX (by decide) rfl (by decide) rfl rfl (by decide +kernel) dL_law_1073 (by omega) (fun σ i l0 q K i2 l2 hX hM => bo_firsts (by omega) hX hM) rfl hl.1 hS (fun vv H1 locs1 c1 s1 hv hM => ?_)
  obtain ⟨r, rfl⟩ := hv
  refine lv_aload_n hx hb dL_law_1076 rfl (lv_at hl 2 rfl) ?_
  refine lw_M (zm := mM_firsts) (w := 146) (lg := false) (As := []) hC hLD hSM (by decide) rfl (by decide) rfl rfl (by decide +kernel) dL_law_1077 (by omega) ⟨r, rfl⟩ rfl hl.1 hM (fun H2 locs2 c2 s2 hS2 => ?_)
  exact lv_icmp_eq (tgt := 1515) hx hb dL_law_1080 (by decide) (fun _ => kk H2 locs2 c2 s2 hS2) (fun z => absurd rfl z)
set_option maxRecDepth 100000 in
set_option maxHeartbeats 4000000 in
theorem law_32 (hC : LC p s m meth c b L xs dC dI aC) (hLD : LD s.heap.size adX adM) (hSX : am_Sy adX (lw_A s) s) (hSM : am_Sy adM (lw_A s) s) (hl : lv_has ls 4 [(0, .ref b), (1, .ref (adX 0)), (2, .ref (adM 0)), (3, .int (nI (6 * n)))]) (hn : 6 * n + 6 ≤ L) (hL : L ≤ 3072) (hS : LSt dC dI aC adX adM s n H locs cells slots) (kk : ∀ H' locs' c' s', LSt dC dI aC adX adM s (n + 1) H' locs' c' s' → W p l e room_1 s m #[Value.ref b] below meth c H' locs' c' s' Q (F0 m 1515 ls [])) : W p l e room_1 s m #[Value.ref b] below meth c H locs cells slots Q (F0 m 1085 ls []) := by
  obtain ⟨⟨hx, hb, hr, hml, hown, hts, hX0, hbl, hlocks, hgv⟩, _⟩ := id hC
  refine lv_aload_n hx hb dL_law_1085 rfl (lv_at hl 1 rfl) ?_
  refine lw_arg (j := 1) hC (LS_S hS) hl hn hL (by decide) dL_law_1086 dL_law_1087 dL_law_1088 dL_law_1089 dL_law_1090 ?_
  refine lw_arg (j := 2) hC (LS_S hS) hl hn hL (by decide) dL_law_1091 dL_law_1092 dL_law_1093 dL_law_1094 dL_law_1095 ?_
  refine lw_X (zx := mX_strengths) (zm := mM_strengths) (w := 147) (lg := false) (As := [.int (xs (6 * n + 1)), .int (xs (6 * n + 2))]) hC hLD hSX (by decide) rfl (by decide) rfl rfl (by decide +kernel) dL_law_1096 (by omega) (fun σ i l0 q K i2 l2 hX hM => bo_strengths _ _ (by omega) hX hM) rfl hl.1 hS (fun vv H1 locs1 c1 s1 hv hM => ?_)
  obtain ⟨r, rfl⟩ := hv
  refine lv_aload_n hx hb dL_law_1099 rfl (lv_at hl 2 rfl) ?_
  refine lw_arg (j := 1) hC (LM_S hM) hl hn hL (by decide) dL_law_1100 dL_law_1101 dL_law_1102 dL_law_1103 dL_law_1104 ?_
  refine lw_arg (j := 2) hC (LM_S hM) hl hn hL (by decide) dL_law_1105 dL_law_1106 dL_law_1107 dL_law_1108 dL_law_1109 ?_
  refine lw_M (zm := mM_strengths) (w := 150) (lg := false) (As := [.int (xs (6 * n + 1)), .int (xs (6 * n + 2))]) hC hLD hSM (by decide) rfl (by decide) rfl rfl (by decide +kernel) dL_law_1110 (by omega) ⟨r, rfl⟩ rfl hl.1 hM (fun H2 locs2 c2 s2 hS2 => ?_)
  exact lv_icmp_eq (tgt := 1515) hx hb dL_law_1113 (by decide) (fun _ => kk H2 locs2 c2 s2 hS2) (fun z => absurd rfl z)
set_option maxRecDepth 100000 in
set_option maxHeartbeats 4000000 in
theorem law_33 (hC : LC p s m meth c b L xs dC dI aC) (hLD : LD s.heap.size adX adM) (hSX : am_Sy adX (lw_A s) s) (hSM : am_Sy adM (lw_A s) s) (hl : lv_has ls 4 [(0, .ref b), (1, .ref (adX 0)), (2, .ref (adM 0)), (3, .int (nI (6 * n)))]) (hn : 6 * n + 6 ≤ L) (hL : L ≤ 3072) (hS : LSt dC dI aC adX adM s n H locs cells slots) (kk : ∀ H' locs' c' s', LSt dC dI aC adX adM s (n + 1) H' locs' c' s' → W p l e room_1 s m #[Value.ref b] below meth c H' locs' c' s' Q (F0 m 1515 ls [])) : W p l e room_1 s m #[Value.ref b] below meth c H locs cells slots Q (F0 m 1118 ls []) := by
  obtain ⟨⟨hx, hb, hr, hml, hown, hts, hX0, hbl, hlocks, hgv⟩, _⟩ := id hC
  refine lv_aload_n hx hb dL_law_1118 rfl (lv_at hl 1 rfl) ?_
  refine lw_arg (j := 1) hC (LS_S hS) hl hn hL (by decide) dL_law_1119 dL_law_1120 dL_law_1121 dL_law_1122 dL_law_1123 ?_
  refine lw_arg (j := 2) hC (LS_S hS) hl hn hL (by decide) dL_law_1124 dL_law_1125 dL_law_1126 dL_law_1127 dL_law_1128 ?_
  refine lw_X (zx := mX_attempt) (zm := mM_attempt) (w := 151) (lg := false) (As := [.int (xs (6 * n + 1)), .int (xs (6 * n + 2))]) hC hLD hSX (by decide) rfl (by decide) rfl rfl (by decide +kernel) dL_law_1129 (by omega) (fun σ i l0 q K i2 l2 hX hM => bo_attempt _ _ (by omega) hX hM) rfl hl.1 hS (fun vv H1 locs1 c1 s1 hv hM => ?_)
  obtain ⟨r, rfl⟩ := hv
  refine lv_aload_n hx hb dL_law_1132 rfl (lv_at hl 2 rfl) ?_
  refine lw_arg (j := 1) hC (LM_S hM) hl hn hL (by decide) dL_law_1133 dL_law_1134 dL_law_1135 dL_law_1136 dL_law_1137 ?_
  refine lw_arg (j := 2) hC (LM_S hM) hl hn hL (by decide) dL_law_1138 dL_law_1139 dL_law_1140 dL_law_1141 dL_law_1142 ?_
  refine lw_M (zm := mM_attempt) (w := 154) (lg := false) (As := [.int (xs (6 * n + 1)), .int (xs (6 * n + 2))]) hC hLD hSM (by decide) rfl (by decide) rfl rfl (by decide +kernel) dL_law_1143 (by omega) ⟨r, rfl⟩ rfl hl.1 hM (fun H2 locs2 c2 s2 hS2 => ?_)
  exact lv_icmp_eq (tgt := 1515) hx hb dL_law_1146 (by decide) (fun _ => kk H2 locs2 c2 s2 hS2) (fun z => absurd rfl z)
set_option maxRecDepth 100000 in
set_option maxHeartbeats 4000000 in
theorem law_34 (hC : LC p s m meth c b L xs dC dI aC) (hLD : LD s.heap.size adX adM) (hSX : am_Sy adX (lw_A s) s) (hSM : am_Sy adM (lw_A s) s) (hl : lv_has ls 4 [(0, .ref b), (1, .ref (adX 0)), (2, .ref (adM 0)), (3, .int (nI (6 * n)))]) (hn : 6 * n + 6 ≤ L) (hL : L ≤ 3072) (hS : LSt dC dI aC adX adM s n H locs cells slots) (kk : ∀ H' locs' c' s', LSt dC dI aC adX adM s (n + 1) H' locs' c' s' → W p l e room_1 s m #[Value.ref b] below meth c H' locs' c' s' Q (F0 m 1515 ls [])) : W p l e room_1 s m #[Value.ref b] below meth c H locs cells slots Q (F0 m 1151 ls []) := by
  obtain ⟨⟨hx, hb, hr, hml, hown, hts, hX0, hbl, hlocks, hgv⟩, _⟩ := id hC
  refine lv_aload_n hx hb dL_law_1151 rfl (lv_at hl 1 rfl) ?_
  refine lw_arg (j := 1) hC (LS_S hS) hl hn hL (by decide) dL_law_1152 dL_law_1153 dL_law_1154 dL_law_1155 dL_law_1156 ?_
  refine lw_X (zx := mX_pairs) (zm := mM_pairs) (w := 155) (lg := false) (As := [.int (xs (6 * n + 1))]) hC hLD hSX (by decide) rfl (by decide) rfl rfl (by decide +kernel) dL_law_1157 (by omega) (fun σ i l0 q K i2 l2 hX hM => bo_pairs _ (by omega) hX hM) rfl hl.1 hS (fun vv H1 locs1 c1 s1 hv hM => ?_)
  obtain ⟨r, rfl⟩ := hv
  refine lv_aload_n hx hb dL_law_1160 rfl (lv_at hl 2 rfl) ?_
  refine lw_arg (j := 1) hC (LM_S hM) hl hn hL (by decide) dL_law_1161 dL_law_1162 dL_law_1163 dL_law_1164 dL_law_1165 ?_
  refine lw_M (zm := mM_pairs) (w := 158) (lg := false) (As := [.int (xs (6 * n + 1))]) hC hLD hSM (by decide) rfl (by decide) rfl rfl (by decide +kernel) dL_law_1166 (by omega) ⟨r, rfl⟩ rfl hl.1 hM (fun H2 locs2 c2 s2 hS2 => ?_)
  exact lv_icmp_eq (tgt := 1515) hx hb dL_law_1169 (by decide) (fun _ => kk H2 locs2 c2 s2 hS2) (fun z => absurd rfl z)
set_option maxRecDepth 100000 in
set_option maxHeartbeats 4000000 in
theorem law_35 (hC : LC p s m meth c b L xs dC dI aC) (hLD : LD s.heap.size adX adM) (hSX : am_Sy adX (lw_A s) s) (hSM : am_Sy adM (lw_A s) s) (hl : lv_has ls 4 [(0, .ref b), (1, .ref (adX 0)), (2, .ref (adM 0)), (3, .int (nI (6 * n)))]) (hn : 6 * n + 6 ≤ L) (hL : L ≤ 3072) (hS : LSt dC dI aC adX adM s n H locs cells slots) (kk : ∀ H' locs' c' s', LSt dC dI aC adX adM s (n + 1) H' locs' c' s' → W p l e room_1 s m #[Value.ref b] below meth c H' locs' c' s' Q (F0 m 1515 ls [])) : W p l e room_1 s m #[Value.ref b] below meth c H locs cells slots Q (F0 m 1174 ls []) := by
  obtain ⟨⟨hx, hb, hr, hml, hown, hts, hX0, hbl, hlocks, hgv⟩, _⟩ := id hC
  refine lv_aload_n hx hb dL_law_1174 rfl (lv_at hl 1 rfl) ?_
  refine lw_arg (j := 1) hC (LS_S hS) hl hn hL (by decide) dL_law_1175 dL_law_1176 dL_law_1177 dL_law_1178 dL_law_1179 ?_
  refine lw_X (zx := mX_forces) (zm := mM_forces) (w := 159) (lg := false) (As := [.int (xs (6 * n + 1))]) hC hLD hSX (by decide) rfl (by decide) rfl rfl (by decide +kernel) dL_law_1180 (by omega) (fun σ i l0 q K i2 l2 hX hM => bo_forces _ (by omega) hX hM) rfl hl.1 hS (fun vv H1 locs1 c1 s1 hv hM => ?_)
  obtain ⟨r, rfl⟩ := hv
  refine lv_aload_n hx hb dL_law_1183 rfl (lv_at hl 2 rfl) ?_
  refine lw_arg (j := 1) hC (LM_S hM) hl hn hL (by decide) dL_law_1184 dL_law_1185 dL_law_1186 dL_law_1187 dL_law_1188 ?_
  refine lw_M (zm := mM_forces) (w := 162) (lg := false) (As := [.int (xs (6 * n + 1))]) hC hLD hSM (by decide) rfl (by decide) rfl rfl (by decide +kernel) dL_law_1189 (by omega) ⟨r, rfl⟩ rfl hl.1 hM (fun H2 locs2 c2 s2 hS2 => ?_)
  exact lv_icmp_eq (tgt := 1515) hx hb dL_law_1192 (by decide) (fun _ => kk H2 locs2 c2 s2 hS2) (fun z => absurd rfl z)
end
