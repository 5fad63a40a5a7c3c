/-! THE LAW: a step of its loop -/
/-- where the cells lie -/
def LD (sz : Nat) (adX adM : Nat → Nat) : Prop := (∀ r, r < 58 → adX r = sz + r) ∧ (∀ r, 58 ≤ r → r < 1000000 → adX r = sz + 25 + r) ∧ ∀ r, r < 25 → adM r = sz + 58 + r
/-- both worlds, apart -/
def LV (dC : Nat → ClassId) (dI : Nat → Nat → Nat) (aC : Nat → ClassId) (adX adM : Nat → Nat) (s : State) (sX sM : aM) (H : Heap) (locs : List Loc) : Prop := va_P (dC, dI) vwCl (am_W aC adX sX) H ∧ va_P (dC, dI) vwCl (am_W aC adM sM) H ∧ va_D (lw_A s) (am_W aC adX sX) ∧ va_D (lw_A s) (am_W aC adM sM) ∧ va_S (lw_A s) s.heap H locs
/-- between two calls -/
def LSt (dC : Nat → ClassId) (dI : Nat → Nat → Nat) (aC : Nat → ClassId) (adX adM : Nat → Nat) (s : State) (n : Nat) (H : Heap) (locs : List Loc) (cells slots : Nat) : Prop := ∃ σ i l q K i2 l2, XS n σ i l q K ∧ MS i2 l2 σ ∧ LV dC dI aC adX adM s (i, l, rX q, kX K) (i2, l2, rM, kM) H locs ∧ H.size = s.heap.size + 83 + K.length ∧ cells = 83 + K.length ∧ slots = am_sz (kX K) + am_sz kM
/-- between the class's call and the model's -/
def LMt (dC : Nat → ClassId) (dI : Nat → Nat → Nat) (aC : Nat → ClassId) (adX adM : Nat → Nat) (s : State) (n zm : Nat) (As : List Value) (vv : Value) (H : Heap) (locs : List Loc) (cells slots : Nat) : Prop := ∃ σ' i l q K i2 l2, XS (n + 1) σ' i l q K ∧ MR (some vv) (fun i' l' => MS i' l' σ') (am_cl 64 zm (.ref 0 :: As) (i2, l2, rM, kM)) ∧ LV dC dI aC adX adM s (i, l, rX q, kX K) (i2, l2, rM, kM) H locs ∧ H.size = s.heap.size + 83 + K.length ∧ cells = 83 + K.length ∧ slots = am_sz (kX K) + am_sz kM
theorem am_Wl (aC : Nat → ClassId) (ad : Nat → Nat) (s : aM) : (am_W aC ad s).length = s.2.2.2.length := by unfold am_W; rw [List.length_map, List.length_range]
theorem am_W_in {aC : Nat → ClassId} {ad : Nat → Nat} {s : aM} {k : Nat} {x : Nat × va_E} (h : (am_W aC ad s)[k]? = some x) : k < s.2.2.2.length ∧ x.1 = ad k := by
  have hk : k < (am_W aC ad s).length := by
    rcases Nat.lt_or_ge k (am_W aC ad s).length with z | z
    · exact z
    · rw [List.getElem?_eq_none z] at h; cases h
  rw [am_Wl] at hk
  rw [am_W_get hk] at h
  injection h with h
  exact ⟨hk, by rw [← h]⟩
section
variable {p : Program} {l : Launch} {e : Env} {s : State} {m : MethodId} {below : List Frame} {meth : Method} {c : Code} {b L : Nat} {xs : Nat → Int32} {dC : Nat → ClassId} {dI : Nat → Nat → Nat} {aC : Nat → ClassId} {adX adM : Nat → Nat} {zx zm w pc n : Nat} {As rest : List Value} {vv : Value} {H : Heap} {locs : List Loc} {cells slots : Nat} {Q : State → Prop} {ls : Array Slot} {lg : Bool}
theorem LS_S (h : LSt dC dI aC adX adM s n H locs cells slots) : va_S (lw_A s) s.heap H locs := by
  obtain ⟨_, _, _, _, _, _, _, _, _, h, _⟩ := h
  exact h.2.2.2.2
theorem LM_S (h : LMt dC dI aC adX adM s n zm As vv H locs cells slots) : va_S (lw_A s) s.heap H locs := by
  obtain ⟨_, _, _, _, _, _, _, _, _, h, _⟩ := h
  exact h.2.2.2.2
theorem sz_X (K : List (Nat × Nat)) : am_sz (kX K) = am_sz (kX []) + am_sz K := by
  have : kX K = kX [] ++ K := by unfold kX; rw [List.append_nil]
  rw [this, am_sz_app]
theorem sz_c : am_sz (kX []) + am_sz kM ≤ 200000 := by decide +kernel
theorem XS_room {σ : St} {i : Nat → Nat → Int32} {l : Nat → Nat → Int64} {q : Nat → Nat → Option Nat} {K : List (Nat × Nat)} (h : XS n σ i l q K) (hn : n ≤ 600) : 83 + K.length ≤ 600000 ∧ am_sz (kX K) + am_sz kM ≤ 7302250 := by
  obtain ⟨_, _, _, _, _, _, _, _, _, _, _, _, _, _, _, _, _, hZ⟩ := h
  have := PHI_le (q := q) (K := K)
  have := sz_c
  rw [sz_X]
  unfold ZS at hZ
  omega
/-- the class is called -/
theorem lw_X (hC : LC p s m meth c b L xs dC dI aC) (hLD : LD s.heap.size adX adM) (hSy : am_Sy adX (lw_A s) s) (hz : zx < 316) (hsk : am_sk zx = false) (hnm : ¬ (am_nm zx).name = "<init>") (hcl : (am_nm zx).cls = am_Rn 11) (hpn : As.length = am_pn zx) (hl : Cond.methodLink R_law w (am_nm zx) ∈ lw_tbl) (hd : decode code pc = .ok (.invokevirtual w, 3)) (hn : n < 600) (hbo : ∀ σ i l q K i2 l2, XS n σ i l q K → MS i2 l2 σ → BO lg n zx zm As (i, l, rX q, kX K) (i2, l2, rM, kM)) (hAs : As.map (am_cv adX) = As) (hls : ls.size = 4) (hS : LSt dC dI aC adX adM s n H locs cells slots) (kk : ∀ vv H' locs' c' s', cond lg (∃ r : Int64, vv = .long r) (∃ r : Int32, vv = .int r) → LMt dC dI aC adX adM s n zm As vv H' locs' c' s' → W p l e room_1 s m #[Value.ref b] below meth c H' locs' c' s' Q (F0 m (pc + 3) ls [vv])) : W p l e room_1 s m #[Value.ref b] below meth c H locs cells slots Q (F0 m pc ls (As.reverse ++ [.ref (adX 0)])) := by
  obtain ⟨σ, i, l0, q, K, i2, l2, hX, hM, ⟨hP1, hP2, hD1, hD2, hSS⟩, hH, rfl, rfl⟩ := hS
  obtain ⟨vv, σ', hv, ⟨i', l', q', K', e1, hX'⟩, hMR⟩ := hbo σ i l0 q K i2 l2 hX hM
  have hcv : am_cv adX vv = vv := by
    cases lg with
    | true => obtain ⟨r, rfl⟩ := hv; rfl
    | false => obtain ⟨r, rfl⟩ := hv; rfl
  obtain ⟨_, _, K2, hK2⟩ := am_run_go (l := l) (dC := dC) (dI := dI) (aC := aC) (ad := adX) (d := 63) e1
  have hK2 : kX K' = kX K ++ K2 := hK2
  have hlen : 58 + K'.length = 58 + K.length + K2.length := by rw [← kX_len, hK2, List.length_append, kX_len]
  have hsz : am_sz (kX K') = am_sz (kX K) + am_sz K2 := by rw [hK2, am_sz_app]
  obtain ⟨r1, r2⟩ := XS_room hX' (by omega)
  have c1 : 83 + K.length + ((kX K').length - (kX K).length) = 83 + K'.length := by rw [kX_len, kX_len]; omega
  have c2 : am_sz (kX K) + am_sz kM + (am_sz (kX K') - am_sz (kX K)) = am_sz (kX K') + am_sz kM := by omega
  refine lw_callV (v1 := some vv) (sA := (i, l0, rX q, kX K)) (t := (i', l', rX q', kX K')) (d := 63) hC hSy hz hsk hnm (show 11 < 13 by decide) hcl hpn hl hd e1 (by decide) rfl hAs hP1 hD1 hSS (fun j h1 h2 => ?_) (by show 83 + K.length + ((kX K').length - (kX K).length) ≤ 600000; omega) (by show am_sz (kX K) + am_sz kM + (am_sz (kX K') - am_sz (kX K)) ≤ 7302250; omega) hls (by decide) (fun H' locs' hP' hD' hS' hsz' hkeep => ?_)
  · have h1 : (kX K).length ≤ j := h1
    have h2 : j < (kX K').length := h2
    show adX j = H.size + (j - (kX K).length)
    rw [kX_len] at h1 h2 ⊢
    rw [hLD.2.1 j (by omega) (by omega)]
    omega
  · have hsz' : H'.size = H.size + ((kX K').length - (kX K).length) := hsz'
    rw [kX_len, kX_len] at hsz'
    show W p l e room_1 s m #[Value.ref b] below meth c H' locs' (83 + K.length + ((kX K').length - (kX K).length)) (am_sz (kX K) + am_sz kM + (am_sz (kX K') - am_sz (kX K))) Q (F0 m (pc + 3) ls [am_cv adX vv])
    rw [c1, c2, hcv]
    refine kk vv H' locs' _ _ hv ⟨σ', i', l', q', K', i2, l2, hX', hMR, ⟨hP', hP2.kept (fun k x hk => ?_), hD', hD2, hS'⟩, by omega, rfl, rfl⟩
    obtain ⟨k1, k2⟩ := am_W_in hk
    have k1 : k < 25 := k1
    have ek := hLD.2.2 k k1
    refine hkeep x.1 (by rw [k2, ek]; omega) (fun z => ?_)
    rcases z with ⟨k', x', hz⟩ | z
    · obtain ⟨j1, j2⟩ := am_W_in hz
      have j1 : k' < (kX K).length := j1
      have j2 : x.1 = adX k' := j2
      rw [kX_len] at j1
      rw [k2, ek] at j2
      by_cases c58 : k' < 58
      · rw [hLD.1 k' c58] at j2; omega
      · rw [hLD.2.1 k' (by omega) (by omega)] at j2; omega
    · rw [k2, ek] at z; omega
/-- the model is called -/
theorem lw_M (hC : LC p s m meth c b L xs dC dI aC) (hLD : LD s.heap.size adX adM) (hSy : am_Sy adM (lw_A s) s) (hz : zm < 316) (hsk : am_sk zm = false) (hnm : ¬ (am_nm zm).name = "<init>") (hcl : (am_nm zm).cls = am_Rn 12) (hpn : As.length = am_pn zm) (hl : Cond.methodLink R_law w (am_nm zm) ∈ lw_tbl) (hd : decode code pc = .ok (.invokevirtual w, 3)) (hn : n < 600) (hv : cond lg (∃ r : Int64, vv = .long r) (∃ r : Int32, vv = .int r)) (hAs : As.map (am_cv adM) = As) (hls : ls.size = 4) (hS : LMt dC dI aC adX adM s n zm As vv H locs cells slots) (kk : ∀ H' locs' c' s', LSt dC dI aC adX adM s (n + 1) H' locs' c' s' → W p l e room_1 s m #[Value.ref b] below meth c H' locs' c' s' Q (F0 m (pc + 3) ls [vv, vv])) : W p l e room_1 s m #[Value.ref b] below meth c H locs cells slots Q (F0 m pc ls (As.reverse ++ [.ref (adM 0), vv])) := by
  obtain ⟨σ', i, l0, q, K, i2, l2, hX, ⟨i2', l2', e1, hM'⟩, ⟨hP1, hP2, hD1, hD2, hSS⟩, hH, rfl, rfl⟩ := hS
  have hcv : am_cv adM vv = vv := by
    cases lg with
    | true => obtain ⟨r, rfl⟩ := hv; rfl
    | false => obtain ⟨r, rfl⟩ := hv; rfl
  have hcat : ([vv].map fun v => v.category).sum ≤ 8 := by
    cases lg with
    | true => obtain ⟨r, rfl⟩ := hv; show 2 ≤ 8; decide
    | false => obtain ⟨r, rfl⟩ := hv; show 1 ≤ 8; decide
  obtain ⟨r1, r2⟩ := XS_room hX (by omega)
  obtain ⟨sA, esA⟩ : ∃ sA : aM, sA = (i2, l2, rM, kM) := ⟨_, rfl⟩
  obtain ⟨tA, etA⟩ : ∃ tA : aM, tA = (i2', l2', rM, kM) := ⟨_, rfl⟩
  rw [← esA, ← etA] at e1
  rw [← esA] at hP2 hD2
  have k1 : sA.2.2.2 = kM := by rw [esA]
  have k2 : tA.2.2.2 = kM := by rw [etA]
  have c1 : tA.2.2.2.length - sA.2.2.2.length = 0 := by rw [k1, k2, Nat.sub_self]
  have c2 : am_sz tA.2.2.2 - am_sz sA.2.2.2 = 0 := by rw [k1, k2, Nat.sub_self]
  refine lw_callV (v1 := some vv) (sA := sA) (t := tA) (d := 63) hC hSy hz hsk hnm (show 12 < 13 by decide) hcl hpn hl hd e1 (by decide) (by rw [esA]; rfl) hAs hP2 hD2 hSS (fun j h1 h2 => by rw [k1] at h1; rw [k2] at h2; exact absurd h2 (Nat.not_lt.mpr h1)) (by rw [c1]; omega) (by rw [c2]; omega) hls hcat (fun H' locs' hP' hD' hS' hsz' hkeep => ?_)
  rw [c1] at hsz'
  have d1 : 83 + K.length + (tA.2.2.2.length - sA.2.2.2.length) = 83 + K.length := by omega
  have d2 : am_sz (kX K) + am_sz kM + (am_sz tA.2.2.2 - am_sz sA.2.2.2) = am_sz (kX K) + am_sz kM := by omega
  rw [d1, d2]
  show W p l e room_1 s m #[Value.ref b] below meth c H' locs' (83 + K.length) (am_sz (kX K) + am_sz kM) Q (F0 m (pc + 3) ls [am_cv adM vv, vv])
  rw [hcv]
  rw [etA] at hP' hD'
  refine kk H' locs' _ _ ⟨σ', i, l0, q, K, i2', l2', hX, hM', ⟨hP1.kept (fun k x hk => ?_), hP', hD1, hD', hS'⟩, by omega, rfl, rfl⟩
  obtain ⟨n1, n2⟩ := am_W_in hk
  have n1 : k < (kX K).length := n1
  rw [kX_len] at n1
  have ek : adX k = if k < 58 then s.heap.size + k else s.heap.size + 25 + k := by
    by_cases c58 : k < 58
    · rw [if_pos c58]; exact hLD.1 k c58
    · rw [if_neg c58]; exact hLD.2.1 k (by omega) (by omega)
  have ek2 : adX k < H.size := by rw [ek, hH]; split <;> omega
  refine hkeep x.1 (by rw [n2]; exact ek2) (fun z => ?_)
  rcases z with ⟨k', x', hz'⟩ | z
  · obtain ⟨j1, j2⟩ := am_W_in hz'
    rw [k1] at j1
    have j1 : k' < 25 := j1
    have j2 : x.1 = adM k' := j2
    rw [n2, ek, hLD.2.2 k' j1] at j2
    split at j2 <;> omega
  · rw [n2] at z; omega
/-- an int of the script -/
theorem lw_arg {j : Nat} {st : List Value} (hC : LC p s m meth c b L xs dC dI aC) (hS : va_S (lw_A s) s.heap H locs) (hl : lv_has ls 4 [(0, .ref b), (1, .ref (adX 0)), (2, .ref (adM 0)), (3, .int (nI (6 * n)))]) (hn : 6 * n + 6 ≤ L) (hL : L ≤ 3072) (hj : j < 6) (h0 : decode code pc = .ok (.aload_n 0, 1)) (h1 : decode code (pc + 1) = .ok (.iload_n 3, 1)) (h2 : decode code (pc + 1 + 1) = .ok (.iconst j, 1)) (h3 : decode code (pc + 1 + 1 + 1) = .ok (.iadd, 1)) (h4 : decode code (pc + 1 + 1 + 1 + 1) = .ok (.iaload, 1)) (kk : W p l e room_1 s m #[Value.ref b] below meth c H locs cells slots Q (F0 m (pc + 1 + 1 + 1 + 1 + 1) ls (.int (xs (6 * n + j)) :: st))) : W p l e room_1 s m #[Value.ref b] below meth c H locs cells slots Q (F0 m pc ls st) := by
  obtain ⟨⟨hx, hb, hr, hml, hown, hts, hX, hbl, hlocks, hgv⟩, _⟩ := hC
  have hbA : ¬ lw_A s b := Nat.not_le.mpr hbl
  have ej : nI (6 * n) + Int32.ofInt j = nI (6 * n + j) := nI_add _ j
  have hin : vp_in (nI (6 * n) + Int32.ofInt j) L := by rw [ej]; exact vp_in_nI (by omega) (by omega)
  refine lv_aload_n hx hb h0 rfl (lv_at hl 0 rfl) ?_
  refine lv_iload_n hx hb h1 rfl (lv_at hl 3 rfl) ?_
  refine lv_iconst hx hb h2 rfl ?_
  refine lv_iadd hx hb h3 ?_
  refine va_sld hx hb hX hbl hbA hS hin h4 ?_
  rw [ej, nI_clamp (by omega)]
  exact kk
end
