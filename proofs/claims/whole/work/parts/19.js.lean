/-! STRINGS: length, charAt, indexOf of the classes' texts, by a walk of the JDK's code -/
def js_U (ad adV : Nat → Nat) (U : State) : Prop := vk_S 3 [am_tx0.length, am_tx1.length, am_tx2.length] [am_tx0, am_tx1, am_tx2] (fun i => ad (1000000 + i)) adV (fun _ => False) U U.heap ∧ va_Z "java/lang/String" "COMPACT_STRINGS" "Z" (.int 1) (fun _ => False) U U.heap ∧ va_Zq "jdk/internal/util/Preconditions" "SIOOBE_FORMATTER" "Ljava/util/function/BiFunction;" (fun _ => False) U U.heap
def js_Q (v : Option Value) : Array Value → State → Outcome → State → Prop := fun _ st o t => o = .returned v ∧ t.heap = st.heap
theorem js_U.mv {ad adV : Nat → Nat} {s U : State} (h : js_U ad adV s) (hh : U.heap = s.heap) (hW : s.WarmedH U.vm) : js_U ad adV U := by
  unfold js_U
  rw [hh]
  exact ⟨h.1.moved hW.alike, h.2.1.moved hW.alike, h.2.2.moved hW.alike⟩
theorem js_U.blind {ad adV : Nat → Nat} {av : List Value} : FrameBlind (va_Pc av (js_U ad adV)) := by
  rintro a U g mk ⟨h0, h1, h2, h3⟩
  have al : U.vm.Alike (U.calling g mk a).vm := Vm.Alike.refl U.vm
  exact ⟨h0, h1.moved al, h2.moved al, h3.moved al⟩
theorem js_run {p : Program} {l : Launch} {e : Env} {R : Room} {s0 : State} {m : MethodId} {args : Array Value} {below : List Frame} {meth : Method} {c : Code} {H : Heap} {locs : List Loc} {cells slots : Nat} {Q : State → Prop} {pc : Nat} {lsC : Array Slot} {st0 rest : List Value} {a : Array Value} {v : Option Value}
    (hr : va_Run p l e R s0 m args below meth c H locs cells slots 0 0 (F0 m pc lsC st0) rest (js_Q v a) (fun _ => False))
    (kk : W p l e R s0 m args below meth c H locs cells slots Q (F0 m (pc + 3) lsC (v.toList ++ rest))) : W p l e R s0 m args below meth c H locs cells slots Q (F0 m pc lsC st0) := by
  refine am_run hr (fun v9 st9 t9 L h0 hL hq => ?_)
  obtain ⟨q1, q2⟩ := hq
  cases q1
  have hL0 : L = [] := by
    cases L with
    | nil => rfl
    | cons x xs => exact absurd (hL x List.mem_cons_self) (fun z => z)
  rw [hL0, List.append_nil, q2, h0]
  exact kk
theorem js_good {C C2 : Cond} (h : C2 ∈ am_gw) : GoodIn (C :: am_gw) (C2 :: am_gw) := by
  have g : ∀ w ∈ am_gw, w ∈ C :: am_gw ∧ ((w.onTables && w.keeps) = true ∨ ∃ ty, w = .arrayClass ty) := fun w hw => ⟨List.mem_cons_of_mem _ hw, good_of_word (List.mem_filter.mp hw).2⟩
  intro w hw
  rcases List.mem_cons.mp hw with e | e
  · subst e
    exact g _ h
  · exact g w e
abbrev js_tx (i : Nat) : List Int32 := ([am_tx0, am_tx1, am_tx2] : List (List Int32)).getD i []
abbrev js_len (i : Nat) : Nat := ([am_tx0.length, am_tx1.length, am_tx2.length] : List Nat).getD i 0
abbrev js_chr (i j : Nat) : Int32 := (js_tx i).getD j 0
abbrev js_ix (i : Nat) (k : Int32) : Int32 := am_ixg k (js_tx i) 0
theorem js_all : ∀ i, i < 3 → (js_len i = (js_tx i).length ∧ 0 < js_len i ∧ js_len i < 200 ∧ ∀ b ∈ js_tx i, ((b &&& 255).toUInt32 % 65536).toInt32 = b ∧ narrow .char (.int b) = .int b ∧ 0 ≤ b.toInt ∧ b.toInt < 128) := by decide +kernel
theorem js_lt {i : Nat} (hi : i < 3) : js_len i < 200 := (js_all i hi).2.2.1
theorem js_pos {i : Nat} (hi : i < 3) : 0 < js_len i := (js_all i hi).2.1
theorem js_shr0 {i : Nat} (hi : i < 3) : Int32.ofNat (js_len i) >>> ((0 : Int32) &&& 31) = Int32.ofNat (js_len i) := by
  have : ∀ i, i < 3 → Int32.ofNat (js_len i) >>> ((0 : Int32) &&& 31) = Int32.ofNat (js_len i) := by decide +kernel
  exact this i hi
theorem js_idx {i : Nat} (hi : i < 3) {k : Int32} (hk : vp_in k (js_len i)) : ¬ k < 0 ∧ k < Int32.ofNat (js_len i) ∧ ((js_chr i k.toNatClampNeg &&& 255).toUInt32 % 65536).toInt32 = js_chr i k.toNatClampNeg ∧ narrow .char (.int (js_chr i k.toNatClampNeg)) = .int (js_chr i k.toNatClampNeg) := by
  obtain ⟨h1, h2, h3, h4⟩ := js_all i hi
  obtain ⟨j, hj, rfl⟩ := vp_in_of hk (by omega)
  have hm : js_chr i (nI j).toNatClampNeg ∈ js_tx i := by
    rw [nI_clamp (by omega)]
    show (js_tx i).getD j 0 ∈ js_tx i
    rw [List.getD_eq_getElem?_getD, List.getElem?_eq_getElem (by omega), Option.getD_some]
    exact List.getElem_mem (by omega)
  exact ⟨nI_pos (by omega), nI_lt hj (by omega), (h4 _ hm).1, (h4 _ hm).2.1⟩
theorem js_drop {l : List Int32} {j : Nat} {x : Int32} {xs : List Int32} (h : l.drop j = x :: xs) : j < l.length ∧ l.getD j 0 = x ∧ l.drop (j + 1) = xs := by
  have hj : j < l.length := by
    rcases Nat.lt_or_ge j l.length with q | q
    · exact q
    · rw [List.drop_eq_nil_iff.mpr q] at h
      cases h
  rw [List.drop_eq_getElem_cons hj] at h
  injection h with h1 h2
  exact ⟨hj, by rw [List.getD_eq_getElem?_getD, List.getElem?_eq_getElem hj, Option.getD_some]; exact h1, h2⟩
theorem js_b8 : ∀ k, k < 256 → (128 ≤ k → ((nI k).toInt8.toInt32).toInt < 0) ∧ (k < 128 → (nI k).toInt8.toInt32 = nI k) := by decide +kernel
theorem js_byte {i : Nat} (hi : i < 3) {x k : Int32} (hx : x ∈ js_tx i) (h0 : ¬ k < 0) (h1 : ¬ 255 < k) : x = k.toInt8.toInt32 ↔ x = k := by
  obtain ⟨-, -, -, h4⟩ := js_all i hi
  have hb := (h4 x hx).2.2
  obtain ⟨j, hj, rfl⟩ := nI_of h0
  have hj2 : j < 256 := by
    rcases Nat.lt_or_ge j 256 with q | q
    · exact q
    · exact absurd (show nI 255 < nI j from nI_lt (by omega) hj) h1
  obtain ⟨g1, g2⟩ := js_b8 j hj2
  rcases Nat.lt_or_ge j 128 with q | q
  · rw [g2 q]
  · have g := g1 q
    constructor
    · intro e
      rw [← e] at g
      omega
    · intro e
      rw [e, nI_toInt hj] at hb
      omega
theorem js_w0 : Cond.fieldLink "java/lang/String" 38 "java/lang/String" "COMPACT_STRINGS" "Z" ∈ am_gw := am_gw_in (am_w1_mem (j := 629) (by decide +kernel)) rfl
theorem js_w1 : Cond.fieldLink "java/lang/String" 15 "java/lang/String" "coder" "B" ∈ am_gw := am_gw_in (am_w1_mem (j := 2142) (by decide +kernel)) rfl
theorem js_w2 : Cond.fieldLink "java/lang/String" 9 "java/lang/String" "value" "[B" ∈ am_gw := am_gw_in (am_w1_mem (j := 2141) (by decide +kernel)) rfl
set_option maxRecDepth 100000 in
theorem js_w3 : Cond.code ⟨"java/lang/String", "coder", "()B"⟩ prog_19_method_152_code 1 (some .byte) ∈ am_gw := am_gw_in (List.mem_of_getElem? (i := 628) rfl) rfl
theorem js_w4 : Cond.initialized "java/lang/String" ∈ am_gw := am_gw_in (am_w1_mem (j := 189) (by decide +kernel)) rfl
theorem js_w5 : Cond.methodLink "java/lang/String" 335 ⟨"java/lang/String", "coder", "()B"⟩ ∈ am_gw := am_gw_in (am_w1_mem (j := 625) (by decide +kernel)) rfl
theorem js_w6 : Cond.instanceMethod ⟨"java/lang/String", "coder", "()B"⟩ ∈ am_gw := am_gw_in (am_w1_mem (j := 626) (by decide +kernel)) rfl
theorem js_w7 : Cond.selects "java/lang/String" ⟨"java/lang/String", "coder", "()B"⟩ ⟨"java/lang/String", "coder", "()B"⟩ ∈ am_gw := am_gw_in (am_w1_mem (j := 627) (by decide +kernel)) rfl
theorem js_w8 : Cond.fieldLink "java/lang/String" 1053 "jdk/internal/util/Preconditions" "SIOOBE_FORMATTER" "Ljava/util/function/BiFunction;" ∈ am_gw := am_gw_in (am_w1_mem (j := 645) (by decide +kernel)) rfl
set_option maxRecDepth 100000 in
theorem js_w9 : Cond.code ⟨"jdk/internal/util/Preconditions", "checkIndex", "(IILjava/util/function/BiFunction;)I"⟩ prog_24_method_11_code 3 (some .int) ∈ am_gw := am_gw_in (List.mem_of_getElem? (i := 649) rfl) rfl
theorem js_w10 : Cond.initialized "jdk/internal/util/Preconditions" ∈ am_gw := am_gw_in (am_w1_mem (j := 191) (by decide +kernel)) rfl
theorem js_w11 : Cond.methodLink "java/lang/String" 1059 ⟨"jdk/internal/util/Preconditions", "checkIndex", "(IILjava/util/function/BiFunction;)I"⟩ ∈ am_gw := am_gw_in (am_w1_mem (j := 647) (by decide +kernel)) rfl
theorem js_w12 : Cond.static ⟨"jdk/internal/util/Preconditions", "checkIndex", "(IILjava/util/function/BiFunction;)I"⟩ ∈ am_gw := am_gw_in (am_w1_mem (j := 648) (by decide +kernel)) rfl
set_option maxRecDepth 100000 in
theorem js_w13 : Cond.code ⟨"java/lang/String", "checkIndex", "(II)V"⟩ prog_19_method_155_code 2 (none) ∈ am_gw := am_gw_in (List.mem_of_getElem? (i := 644) rfl) rfl
theorem js_w14 : Cond.methodLink "java/lang/StringLatin1" 9 ⟨"java/lang/String", "checkIndex", "(II)V"⟩ ∈ am_gw := am_gw_in (am_w1_mem (j := 642) (by decide +kernel)) rfl
theorem js_w15 : Cond.static ⟨"java/lang/String", "checkIndex", "(II)V"⟩ ∈ am_gw := am_gw_in (am_w1_mem (j := 643) (by decide +kernel)) rfl
set_option maxRecDepth 100000 in
theorem js_w16 : Cond.code ⟨"java/lang/String", "isLatin1", "()Z"⟩ prog_19_method_154_code 1 (some .boolean) ∈ am_gw := am_gw_in (List.mem_of_getElem? (i := 638) rfl) rfl
theorem js_w17 : Cond.methodLink "java/lang/String" 492 ⟨"java/lang/String", "isLatin1", "()Z"⟩ ∈ am_gw := am_gw_in (am_w1_mem (j := 635) (by decide +kernel)) rfl
theorem js_w18 : Cond.instanceMethod ⟨"java/lang/String", "isLatin1", "()Z"⟩ ∈ am_gw := am_gw_in (am_w1_mem (j := 636) (by decide +kernel)) rfl
theorem js_w19 : Cond.selects "java/lang/String" ⟨"java/lang/String", "isLatin1", "()Z"⟩ ⟨"java/lang/String", "isLatin1", "()Z"⟩ ∈ am_gw := am_gw_in (am_w1_mem (j := 637) (by decide +kernel)) rfl
set_option maxRecDepth 100000 in
theorem js_w20 : Cond.code ⟨"java/lang/StringLatin1", "charAt", "([BI)C"⟩ prog_20_method_2_code 2 (some .char) ∈ am_gw := am_gw_in (List.mem_of_getElem? (i := 641) rfl) rfl
theorem js_w21 : Cond.initialized "java/lang/StringLatin1" ∈ am_gw := am_gw_in (am_w1_mem (j := 190) (by decide +kernel)) rfl
theorem js_w22 : Cond.methodLink "java/lang/String" 495 ⟨"java/lang/StringLatin1", "charAt", "([BI)C"⟩ ∈ am_gw := am_gw_in (am_w1_mem (j := 639) (by decide +kernel)) rfl
theorem js_w23 : Cond.static ⟨"java/lang/StringLatin1", "charAt", "([BI)C"⟩ ∈ am_gw := am_gw_in (am_w1_mem (j := 640) (by decide +kernel)) rfl
set_option maxRecDepth 100000 in
theorem js_w24 : Cond.code ⟨"java/lang/StringLatin1", "canEncode", "(I)Z"⟩ prog_20_method_4_code 1 (some .boolean) ∈ am_gw := am_gw_in (List.mem_of_getElem? (i := 696) rfl) rfl
theorem js_w25 : Cond.methodLink "java/lang/StringLatin1" 88 ⟨"java/lang/StringLatin1", "canEncode", "(I)Z"⟩ ∈ am_gw := am_gw_in (am_w1_mem (j := 694) (by decide +kernel)) rfl
theorem js_w26 : Cond.static ⟨"java/lang/StringLatin1", "canEncode", "(I)Z"⟩ ∈ am_gw := am_gw_in (am_w1_mem (j := 695) (by decide +kernel)) rfl
theorem js_w27 : Cond.methodLink "java/lang/StringLatin1" 92 ⟨"java/lang/Math", "max", "(II)I"⟩ ∈ am_gw := am_gw_in (am_w1_mem (j := 697) (by decide +kernel)) rfl
theorem js_w28 : Cond.methodLink "java/lang/StringLatin1" 38 ⟨"java/lang/Math", "min", "(II)I"⟩ ∈ am_gw := am_gw_in (am_w1_mem (j := 700) (by decide +kernel)) rfl
set_option maxRecDepth 100000 in
theorem js_w29 : Cond.code ⟨"java/lang/StringLatin1", "indexOfChar", "([BIII)I"⟩ prog_20_method_23_code 6 (some .int) ∈ am_gw := am_gw_in (List.mem_of_getElem? (i := 703) rfl) rfl
theorem js_w30 : Cond.methodLink "java/lang/StringLatin1" 95 ⟨"java/lang/StringLatin1", "indexOfChar", "([BIII)I"⟩ ∈ am_gw := am_gw_in (am_w1_mem (j := 701) (by decide +kernel)) rfl
theorem js_w31 : Cond.static ⟨"java/lang/StringLatin1", "indexOfChar", "([BIII)I"⟩ ∈ am_gw := am_gw_in (am_w1_mem (j := 702) (by decide +kernel)) rfl
set_option maxRecDepth 100000 in
theorem js_w32 : Cond.code ⟨"java/lang/String", "length", "()I"⟩ prog_19_method_54_code 1 (some .int) ∈ am_gw := am_gw_in (List.mem_of_getElem? (i := 624) rfl) rfl
theorem js_w33 : Cond.methodLink "java/lang/String" 505 ⟨"java/lang/String", "length", "()I"⟩ ∈ am_gw := am_gw_in (am_w1_mem (j := 690) (by decide +kernel)) rfl
theorem js_w34 : Cond.instanceMethod ⟨"java/lang/String", "length", "()I"⟩ ∈ am_gw := am_gw_in (am_w1_mem (j := 622) (by decide +kernel)) rfl
theorem js_w35 : Cond.selects "java/lang/String" ⟨"java/lang/String", "length", "()I"⟩ ⟨"java/lang/String", "length", "()I"⟩ ∈ am_gw := am_gw_in (am_w1_mem (j := 623) (by decide +kernel)) rfl
set_option maxRecDepth 100000 in
theorem js_w36 : Cond.code ⟨"java/lang/StringLatin1", "indexOf", "([BIII)I"⟩ prog_20_method_22_code 4 (some .int) ∈ am_gw := am_gw_in (List.mem_of_getElem? (i := 693) rfl) rfl
theorem js_w37 : Cond.methodLink "java/lang/String" 637 ⟨"java/lang/StringLatin1", "indexOf", "([BIII)I"⟩ ∈ am_gw := am_gw_in (am_w1_mem (j := 691) (by decide +kernel)) rfl
theorem js_w38 : Cond.static ⟨"java/lang/StringLatin1", "indexOf", "([BIII)I"⟩ ∈ am_gw := am_gw_in (am_w1_mem (j := 692) (by decide +kernel)) rfl
set_option maxRecDepth 100000 in
theorem js_w39 : Cond.code ⟨"java/lang/String", "indexOf", "(II)I"⟩ prog_19_method_80_code 3 (some .int) ∈ am_gw := am_gw_in (List.mem_of_getElem? (i := 689) rfl) rfl
theorem js_w40 : Cond.methodLink "java/lang/String" 633 ⟨"java/lang/String", "indexOf", "(II)I"⟩ ∈ am_gw := am_gw_in (am_w1_mem (j := 686) (by decide +kernel)) rfl
theorem js_w41 : Cond.instanceMethod ⟨"java/lang/String", "indexOf", "(II)I"⟩ ∈ am_gw := am_gw_in (am_w1_mem (j := 687) (by decide +kernel)) rfl
theorem js_w42 : Cond.selects "java/lang/String" ⟨"java/lang/String", "indexOf", "(II)I"⟩ ⟨"java/lang/String", "indexOf", "(II)I"⟩ ∈ am_gw := am_gw_in (am_w1_mem (j := 688) (by decide +kernel)) rfl
set_option maxRecDepth 100000 in
theorem js_w43 : Cond.code ⟨"java/lang/String", "charAt", "(I)C"⟩ prog_19_method_56_code 2 (some .char) ∈ am_gw := am_gw_in (List.mem_of_getElem? (i := 634) rfl) rfl
theorem js_w44 : Cond.instanceMethod ⟨"java/lang/String", "charAt", "(I)C"⟩ ∈ am_gw := am_gw_in (am_w1_mem (j := 632) (by decide +kernel)) rfl
theorem js_w45 : Cond.selects "java/lang/String" ⟨"java/lang/String", "charAt", "(I)C"⟩ ⟨"java/lang/String", "charAt", "(I)C"⟩ ∈ am_gw := am_gw_in (am_w1_mem (j := 633) (by decide +kernel)) rfl
set_option maxRecDepth 100000 in
theorem js_w46 : Cond.code ⟨"java/lang/String", "indexOf", "(I)I"⟩ prog_19_method_79_code 2 (some .int) ∈ am_gw := am_gw_in (List.mem_of_getElem? (i := 685) rfl) rfl
theorem js_w47 : Cond.instanceMethod ⟨"java/lang/String", "indexOf", "(I)I"⟩ ∈ am_gw := am_gw_in (am_w1_mem (j := 683) (by decide +kernel)) rfl
theorem js_w48 : Cond.selects "java/lang/String" ⟨"java/lang/String", "indexOf", "(I)I"⟩ ⟨"java/lang/String", "indexOf", "(I)I"⟩ ∈ am_gw := am_gw_in (am_w1_mem (j := 684) (by decide +kernel)) rfl
set_option maxRecDepth 100000 in
theorem js_coder (l : Launch) {ad adV : Nat → Nat} {i : Nat} (hi : i < 3) : Met l ⟨"java/lang/String", "coder", "()B"⟩ (.code ⟨"java/lang/String", "coder", "()B"⟩ prog_19_method_152_code 1 (some .byte) :: am_gw) { frames := 0, cells := 0, slots := 0, locals := 0 } (va_Pc [.ref (ad (1000000 + i))] (js_U ad adV)) (js_Q (some (.int 0))) 0 0 (fun _ => False) := by
  refine Met.ofW (cc := prog_19_method_152_code) (maxL := 1) (ret := some .byte) (by decide) rfl ?_
  intro p e s m args below meth c s₁ B hml hv
  obtain ⟨rfl, hU⟩ := hv
  have hx := B.exec
  have hb := B.bytes
  have hr := B.returns
  have htc := atoms_spec (ws := .code ⟨"java/lang/String", "coder", "()B"⟩ prog_19_method_152_code 1 (some .byte) :: am_gw) B.pre
  have hts : ∀ w ∈ am_gw, w.before _ s = true := fun w h => htc w (List.mem_cons_of_mem _ h)
  have hown : s.vm.findClass "java/lang/String" = some m.cls := findClass_of_methodNamed B.named
  have hlocks := B.notSynchronized
  have hS : va_S (fun _ => False) s.heap s.heap [] := va_S.rf
  have hl := lv_entry [.ref (ad (1000000 + i))] (n := 1) (Nat.le_of_ble_eq_true rfl)
  rw [lg_entry_eq]
  generalize (lg_sl [.ref (ad (1000000 + i))] ++ List.replicate (1 - (lg_sl [.ref (ad (1000000 + i))]).length) Slot.unset).toArray = ls at hl ⊢
  have hl : lv_has ls 1 [(0, .ref (ad (1000000 + i)))] := hl
  refine va_gets hx hb hU.2.1 hS hown (hts _ js_w0) (fun _ h9 => h9) (show decode prog_19_method_152_code 0 = .ok (.getstatic 38, 3) by decide +kernel) ?_
  refine lv_if_eq (tgt := 13) hx hb (show decode prog_19_method_152_code 3 = .ok (.ifCond .eq 10, 3) by decide +kernel) (by decide) (fun h9 => absurd h9 (by decide)) (fun _ => ?_)
  refine lv_aload_n hx hb (show decode prog_19_method_152_code 6 = .ok (.aload_n 0, 1) by decide +kernel) rfl (lv_at hl 0 rfl) ?_
  refine vk_getf hx hb (hU.1.1 i hi).2.1 hS hown (hts _ js_w1) (fun _ h9 => h9) (show decode prog_19_method_152_code 7 = .ok (.getfield 15, 3) by decide +kernel) ?_
  refine lv_goto (tgt := 14) hx hb (show decode prog_19_method_152_code 10 = .ok (.goto 4, 3) by decide +kernel) (by decide) ?_
  exact W.zret (ty := .byte) hx hb hr rfl (fun t ht hW => ⟨rfl, ht⟩) (fun _ h => by cases h) (show decode prog_19_method_152_code 14 = .ok (.ireturn, 1) by decide +kernel)

set_option maxRecDepth 100000 in
theorem js_isLatin1 (l : Launch) {ad adV : Nat → Nat} {i : Nat} (hi : i < 3) : Met l ⟨"java/lang/String", "isLatin1", "()Z"⟩ (.code ⟨"java/lang/String", "isLatin1", "()Z"⟩ prog_19_method_154_code 1 (some .boolean) :: am_gw) { frames := 0, cells := 0, slots := 0, locals := 0 } (va_Pc [.ref (ad (1000000 + i))] (js_U ad adV)) (js_Q (some (.int 1))) 0 0 (fun _ => False) := by
  refine Met.ofW (cc := prog_19_method_154_code) (maxL := 1) (ret := some .boolean) (by decide) rfl ?_
  intro p e s m args below meth c s₁ B hml hv
  obtain ⟨rfl, hU⟩ := hv
  have hx := B.exec
  have hb := B.bytes
  have hr := B.returns
  have htc := atoms_spec (ws := .code ⟨"java/lang/String", "isLatin1", "()Z"⟩ prog_19_method_154_code 1 (some .boolean) :: am_gw) B.pre
  have hts : ∀ w ∈ am_gw, w.before _ s = true := fun w h => htc w (List.mem_cons_of_mem _ h)
  have hown : s.vm.findClass "java/lang/String" = some m.cls := findClass_of_methodNamed B.named
  have hlocks := B.notSynchronized
  have hS : va_S (fun _ => False) s.heap s.heap [] := va_S.rf
  have hl := lv_entry [.ref (ad (1000000 + i))] (n := 1) (Nat.le_of_ble_eq_true rfl)
  rw [lg_entry_eq]
  generalize (lg_sl [.ref (ad (1000000 + i))] ++ List.replicate (1 - (lg_sl [.ref (ad (1000000 + i))]).length) Slot.unset).toArray = ls at hl ⊢
  have hl : lv_has ls 1 [(0, .ref (ad (1000000 + i)))] := hl
  refine va_gets hx hb hU.2.1 hS hown (hts _ js_w0) (fun _ h9 => h9) (show decode prog_19_method_154_code 0 = .ok (.getstatic 38, 3) by decide +kernel) ?_
  refine lv_if_eq (tgt := 17) hx hb (show decode prog_19_method_154_code 3 = .ok (.ifCond .eq 14, 3) by decide +kernel) (by decide) (fun h9 => absurd h9 (by decide)) (fun _ => ?_)
  refine lv_aload_n hx hb (show decode prog_19_method_154_code 6 = .ok (.aload_n 0, 1) by decide +kernel) rfl (lv_at hl 0 rfl) ?_
  refine vk_getf hx hb (hU.1.1 i hi).2.1 hS hown (hts _ js_w1) (fun _ h9 => h9) (show decode prog_19_method_154_code 7 = .ok (.getfield 15, 3) by decide +kernel) ?_
  refine lv_if_ne (tgt := 17) hx hb (show decode prog_19_method_154_code 10 = .ok (.ifCond .ne 7, 3) by decide +kernel) (by decide) (fun h9 => absurd rfl h9) (fun _ => ?_)
  refine lv_iconst (v := 1) hx hb (show decode prog_19_method_154_code 13 = .ok (.iconst 1, 1) by decide +kernel) (by decide) ?_
  refine lv_goto (tgt := 18) hx hb (show decode prog_19_method_154_code 14 = .ok (.goto 4, 3) by decide +kernel) (by decide) ?_
  exact W.zret (ty := .boolean) hx hb hr rfl (fun t ht hW => ⟨rfl, ht⟩) (fun _ h => by cases h) (show decode prog_19_method_154_code 18 = .ok (.ireturn, 1) by decide +kernel)

set_option maxRecDepth 100000 in
theorem js_length (l : Launch) {ad adV : Nat → Nat} {i : Nat} (hi : i < 3) : Met l ⟨"java/lang/String", "length", "()I"⟩ (.code ⟨"java/lang/String", "length", "()I"⟩ prog_19_method_54_code 1 (some .int) :: am_gw) { frames := 1, cells := 0, slots := 0, locals := 40 } (va_Pc [.ref (ad (1000000 + i))] (js_U ad adV)) (js_Q (some (.int (Int32.ofNat (js_len i))))) 0 0 (fun _ => False) := by
  refine Met.ofW (cc := prog_19_method_54_code) (maxL := 1) (ret := some .int) (by decide) rfl ?_
  intro p e s m args below meth c s₁ B hml hv
  obtain ⟨rfl, hU⟩ := hv
  have hx := B.exec
  have hb := B.bytes
  have hr := B.returns
  have htc := atoms_spec (ws := .code ⟨"java/lang/String", "length", "()I"⟩ prog_19_method_54_code 1 (some .int) :: am_gw) B.pre
  have hts : ∀ w ∈ am_gw, w.before _ s = true := fun w h => htc w (List.mem_cons_of_mem _ h)
  have hown : s.vm.findClass "java/lang/String" = some m.cls := findClass_of_methodNamed B.named
  have hlocks := B.notSynchronized
  have hS : va_S (fun _ => False) s.heap s.heap [] := va_S.rf
  have hl := lv_entry [.ref (ad (1000000 + i))] (n := 1) (Nat.le_of_ble_eq_true rfl)
  rw [lg_entry_eq]
  generalize (lg_sl [.ref (ad (1000000 + i))] ++ List.replicate (1 - (lg_sl [.ref (ad (1000000 + i))]).length) Slot.unset).toArray = ls at hl ⊢
  have hl : lv_has ls 1 [(0, .ref (ad (1000000 + i)))] := hl
  refine lv_aload_n hx hb (show decode prog_19_method_54_code 0 = .ok (.aload_n 0, 1) by decide +kernel) rfl (lv_at hl 0 rfl) ?_
  refine vk_getf hx hb (hU.1.1 i hi).2.2.1 hS hown (hts _ js_w2) (fun _ h9 => h9) (show decode prog_19_method_54_code 1 = .ok (.getfield 9, 3) by decide +kernel) ?_
  refine va_tlen (v := Int32.ofNat (js_len i)) hx hb (hU.1.1 i hi).2.2.2 hS rfl (show decode prog_19_method_54_code 4 = .ok (.arraylength, 1) by decide +kernel) ?_
  refine lv_aload_n hx hb (show decode prog_19_method_54_code 5 = .ok (.aload_n 0, 1) by decide +kernel) rfl (lv_at hl 0 rfl) ?_
  refine js_run (va_runV (C := "java/lang/String") (b := ad (1000000 + i)) (As := []) (rest := [.int (Int32.ofNat (js_len i))]) ⟨hx, hb, hml, hown, htc⟩ (js_coder l hi) ⟨callB_of 0 htc (js_good js_w3) rfl rfl rfl (hts _ js_w4) (hts _ js_w5) ⟨by decide, by decide, by decide +kernel⟩ ⟨Nat.le_of_ble_eq_true rfl, Nat.le_of_ble_eq_true rfl⟩, hts _ js_w6, hts _ js_w7⟩ ⟨js_U.blind, vk_recv (adK := fun i => ad (1000000 + i)) (i := i) hU.1 hi hS, fun U hU9 hW => ⟨rfl, hU.mv hU9 hW⟩⟩ rfl rfl hl.1 rfl (lv_room (Nat.le_of_ble_eq_true rfl)) (show decode prog_19_method_54_code 6 = .ok (.invokevirtual 335, 3) by decide +kernel) ⟨Nat.le_of_ble_eq_true rfl, Nat.le_of_ble_eq_true rfl⟩) ?_
  refine lv_ishr hx hb (show decode prog_19_method_54_code 9 = .ok (.ishr, 1) by decide +kernel) ?_
  have e9 : Int32.ofNat (js_len i) >>> ((0 : Int32) &&& 31) = Int32.ofNat (js_len i) := js_shr0 hi
  rw [e9]
  exact W.iret hx hb hr (fun t ht hW => ⟨rfl, ht⟩) (fun _ h => by cases h) (show decode prog_19_method_54_code 10 = .ok (.ireturn, 1) by decide +kernel)

set_option maxRecDepth 100000 in
theorem js_pcheckN (l : Launch) {ad adV : Nat → Nat} {k n : Int32} (h0 : ¬ k < 0) (h1 : k < n) : Met l ⟨"jdk/internal/util/Preconditions", "checkIndex", "(IILjava/util/function/BiFunction;)I"⟩ (.code ⟨"jdk/internal/util/Preconditions", "checkIndex", "(IILjava/util/function/BiFunction;)I"⟩ prog_24_method_11_code 3 (some .int) :: am_gw) { frames := 0, cells := 0, slots := 0, locals := 0 } (va_Pc [.int k, .int n, .null] (js_U ad adV)) (js_Q (some (.int k))) 0 0 (fun _ => False) := by
  refine Met.ofW (cc := prog_24_method_11_code) (maxL := 3) (ret := some .int) (by decide) rfl ?_
  intro p e s m args below meth c s₁ B hml hv
  obtain ⟨rfl, hU⟩ := hv
  have hx := B.exec
  have hb := B.bytes
  have hr := B.returns
  have htc := atoms_spec (ws := .code ⟨"jdk/internal/util/Preconditions", "checkIndex", "(IILjava/util/function/BiFunction;)I"⟩ prog_24_method_11_code 3 (some .int) :: am_gw) B.pre
  have hts : ∀ w ∈ am_gw, w.before _ s = true := fun w h => htc w (List.mem_cons_of_mem _ h)
  have hown : s.vm.findClass "jdk/internal/util/Preconditions" = some m.cls := findClass_of_methodNamed B.named
  have hlocks := B.notSynchronized
  have hS : va_S (fun _ => False) s.heap s.heap [] := va_S.rf
  have hl := lv_entry [.int k, .int n, .null] (n := 3) (Nat.le_of_ble_eq_true rfl)
  rw [lg_entry_eq]
  generalize (lg_sl [.int k, .int n, .null] ++ List.replicate (3 - (lg_sl [.int k, .int n, .null]).length) Slot.unset).toArray = ls at hl ⊢
  have hl : lv_has ls 3 [(0, .int k), (1, .int n), (2, .null)] := hl
  refine lv_iload_n hx hb (show decode prog_24_method_11_code 0 = .ok (.iload_n 0, 1) by decide +kernel) rfl (lv_at hl 0 rfl) ?_
  refine lv_if_lt (tgt := 9) hx hb (show decode prog_24_method_11_code 1 = .ok (.ifCond .lt 8, 3) by decide +kernel) (by decide) (fun h9 => absurd h9 h0) (fun _ => ?_)
  refine lv_iload_n hx hb (show decode prog_24_method_11_code 4 = .ok (.iload_n 0, 1) by decide +kernel) rfl (lv_at hl 0 rfl) ?_
  refine lv_iload_n hx hb (show decode prog_24_method_11_code 5 = .ok (.iload_n 1, 1) by decide +kernel) rfl (lv_at hl 1 rfl) ?_
  refine lv_icmp_lt (tgt := 16) hx hb (show decode prog_24_method_11_code 6 = .ok (.if_icmp .lt 10, 3) by decide +kernel) (by decide) (fun _ => ?_) (fun h9 => absurd h1 h9)
  refine lv_iload_n hx hb (show decode prog_24_method_11_code 16 = .ok (.iload_n 0, 1) by decide +kernel) rfl (lv_at hl 0 rfl) ?_
  exact W.iret hx hb hr (fun t ht hW => ⟨rfl, ht⟩) (fun _ h => by cases h) (show decode prog_24_method_11_code 17 = .ok (.ireturn, 1) by decide +kernel)

set_option maxRecDepth 100000 in
theorem js_pcheckR (l : Launch) {ad adV : Nat → Nat} {k n : Int32} (h0 : ¬ k < 0) (h1 : k < n) {w : Nat} : Met l ⟨"jdk/internal/util/Preconditions", "checkIndex", "(IILjava/util/function/BiFunction;)I"⟩ (.code ⟨"jdk/internal/util/Preconditions", "checkIndex", "(IILjava/util/function/BiFunction;)I"⟩ prog_24_method_11_code 3 (some .int) :: am_gw) { frames := 0, cells := 0, slots := 0, locals := 0 } (va_Pc [.int k, .int n, .ref w] (js_U ad adV)) (js_Q (some (.int k))) 0 0 (fun _ => False) := by
  refine Met.ofW (cc := prog_24_method_11_code) (maxL := 3) (ret := some .int) (by decide) rfl ?_
  intro p e s m args below meth c s₁ B hml hv
  obtain ⟨rfl, hU⟩ := hv
  have hx := B.exec
  have hb := B.bytes
  have hr := B.returns
  have htc := atoms_spec (ws := .code ⟨"jdk/internal/util/Preconditions", "checkIndex", "(IILjava/util/function/BiFunction;)I"⟩ prog_24_method_11_code 3 (some .int) :: am_gw) B.pre
  have hts : ∀ w ∈ am_gw, w.before _ s = true := fun w h => htc w (List.mem_cons_of_mem _ h)
  have hown : s.vm.findClass "jdk/internal/util/Preconditions" = some m.cls := findClass_of_methodNamed B.named
  have hlocks := B.notSynchronized
  have hS : va_S (fun _ => False) s.heap s.heap [] := va_S.rf
  have hl := lv_entry [.int k, .int n, .ref w] (n := 3) (Nat.le_of_ble_eq_true rfl)
  rw [lg_entry_eq]
  generalize (lg_sl [.int k, .int n, .ref w] ++ List.replicate (3 - (lg_sl [.int k, .int n, .ref w]).length) Slot.unset).toArray = ls at hl ⊢
  have hl : lv_has ls 3 [(0, .int k), (1, .int n), (2, .ref w)] := hl
  refine lv_iload_n hx hb (show decode prog_24_method_11_code 0 = .ok (.iload_n 0, 1) by decide +kernel) rfl (lv_at hl 0 rfl) ?_
  refine lv_if_lt (tgt := 9) hx hb (show decode prog_24_method_11_code 1 = .ok (.ifCond .lt 8, 3) by decide +kernel) (by decide) (fun h9 => absurd h9 h0) (fun _ => ?_)
  refine lv_iload_n hx hb (show decode prog_24_method_11_code 4 = .ok (.iload_n 0, 1) by decide +kernel) rfl (lv_at hl 0 rfl) ?_
  refine lv_iload_n hx hb (show decode prog_24_method_11_code 5 = .ok (.iload_n 1, 1) by decide +kernel) rfl (lv_at hl 1 rfl) ?_
  refine lv_icmp_lt (tgt := 16) hx hb (show decode prog_24_method_11_code 6 = .ok (.if_icmp .lt 10, 3) by decide +kernel) (by decide) (fun _ => ?_) (fun h9 => absurd h1 h9)
  refine lv_iload_n hx hb (show decode prog_24_method_11_code 16 = .ok (.iload_n 0, 1) by decide +kernel) rfl (lv_at hl 0 rfl) ?_
  exact W.iret hx hb hr (fun t ht hW => ⟨rfl, ht⟩) (fun _ h => by cases h) (show decode prog_24_method_11_code 17 = .ok (.ireturn, 1) by decide +kernel)

set_option maxRecDepth 100000 in
theorem js_check (l : Launch) {ad adV : Nat → Nat} {k n : Int32} (h0 : ¬ k < 0) (h1 : k < n) : Met l ⟨"java/lang/String", "checkIndex", "(II)V"⟩ (.code ⟨"java/lang/String", "checkIndex", "(II)V"⟩ prog_19_method_155_code 2 (none) :: am_gw) { frames := 1, cells := 0, slots := 0, locals := 40 } (va_Pc [.int k, .int n] (js_U ad adV)) (js_Q (none)) 0 0 (fun _ => False) := by
  refine Met.ofW (cc := prog_19_method_155_code) (maxL := 2) (ret := none) (by decide) rfl ?_
  intro p e s m args below meth c s₁ B hml hv
  obtain ⟨rfl, hU⟩ := hv
  have hx := B.exec
  have hb := B.bytes
  have hr := B.returns
  have htc := atoms_spec (ws := .code ⟨"java/lang/String", "checkIndex", "(II)V"⟩ prog_19_method_155_code 2 (none) :: am_gw) B.pre
  have hts : ∀ w ∈ am_gw, w.before _ s = true := fun w h => htc w (List.mem_cons_of_mem _ h)
  have hown : s.vm.findClass "java/lang/String" = some m.cls := findClass_of_methodNamed B.named
  have hlocks := B.notSynchronized
  have hS : va_S (fun _ => False) s.heap s.heap [] := va_S.rf
  have hl := lv_entry [.int k, .int n] (n := 2) (Nat.le_of_ble_eq_true rfl)
  rw [lg_entry_eq]
  generalize (lg_sl [.int k, .int n] ++ List.replicate (2 - (lg_sl [.int k, .int n]).length) Slot.unset).toArray = ls at hl ⊢
  have hl : lv_has ls 2 [(0, .int k), (1, .int n)] := hl
  refine lv_iload_n hx hb (show decode prog_19_method_155_code 0 = .ok (.iload_n 0, 1) by decide +kernel) rfl (lv_at hl 0 rfl) ?_
  refine lv_iload_n hx hb (show decode prog_19_method_155_code 1 = .ok (.iload_n 1, 1) by decide +kernel) rfl (lv_at hl 1 rfl) ?_
  rcases hU.2.2 with hz9 | ⟨w9, hz9⟩
  · refine va_gets hx hb hz9 hS hown (hts _ js_w8) (fun _ h9 => h9) (show decode prog_19_method_155_code 2 = .ok (.getstatic 1053, 3) by decide +kernel) ?_
    refine js_run (va_runS (As := [.int k, .int n, .null]) (rest := []) ⟨hx, hb, hml, hown, htc⟩ (js_pcheckN l h0 h1) ⟨callB_of 3 htc (js_good js_w9) rfl rfl rfl (hts _ js_w10) (hts _ js_w11) ⟨by decide, by decide, by decide +kernel⟩ ⟨Nat.le_of_ble_eq_true rfl, Nat.le_of_ble_eq_true rfl⟩, hts _ js_w12⟩ ⟨js_U.blind, fun U hU9 hW => ⟨rfl, hU.mv hU9 hW⟩⟩ rfl rfl hl.1 rfl (lv_room (Nat.le_of_ble_eq_true rfl)) (show decode prog_19_method_155_code 5 = .ok (.invokestatic 1059, 3) by decide +kernel) ⟨Nat.le_of_ble_eq_true rfl, Nat.le_of_ble_eq_true rfl⟩) ?_
    refine lv_pop (va := .int k) hx hb (show decode prog_19_method_155_code 8 = .ok (.pop, 1) by decide +kernel) rfl ?_
    exact W.vret hx hb hr (fun t ht hW => ⟨rfl, ht⟩) (fun _ h => by cases h) (show decode prog_19_method_155_code 9 = .ok (.return_, 1) by decide +kernel)
  · refine va_gets hx hb hz9 hS hown (hts _ js_w8) (fun _ h9 => h9) (show decode prog_19_method_155_code 2 = .ok (.getstatic 1053, 3) by decide +kernel) ?_
    refine js_run (va_runS (As := [.int k, .int n, .ref w9]) (rest := []) ⟨hx, hb, hml, hown, htc⟩ (js_pcheckR l h0 h1 (w := w9)) ⟨callB_of 3 htc (js_good js_w9) rfl rfl rfl (hts _ js_w10) (hts _ js_w11) ⟨by decide, by decide, by decide +kernel⟩ ⟨Nat.le_of_ble_eq_true rfl, Nat.le_of_ble_eq_true rfl⟩, hts _ js_w12⟩ ⟨js_U.blind, fun U hU9 hW => ⟨rfl, hU.mv hU9 hW⟩⟩ rfl rfl hl.1 rfl (lv_room (Nat.le_of_ble_eq_true rfl)) (show decode prog_19_method_155_code 5 = .ok (.invokestatic 1059, 3) by decide +kernel) ⟨Nat.le_of_ble_eq_true rfl, Nat.le_of_ble_eq_true rfl⟩) ?_
    refine lv_pop (va := .int k) hx hb (show decode prog_19_method_155_code 8 = .ok (.pop, 1) by decide +kernel) rfl ?_
    exact W.vret hx hb hr (fun t ht hW => ⟨rfl, ht⟩) (fun _ h => by cases h) (show decode prog_19_method_155_code 9 = .ok (.return_, 1) by decide +kernel)

set_option maxRecDepth 100000 in
theorem js_lchar (l : Launch) {ad adV : Nat → Nat} {i : Nat} (hi : i < 3) {k : Int32} (hk : vp_in k (js_len i)) : Met l ⟨"java/lang/StringLatin1", "charAt", "([BI)C"⟩ (.code ⟨"java/lang/StringLatin1", "charAt", "([BI)C"⟩ prog_20_method_2_code 2 (some .char) :: am_gw) { frames := 2, cells := 0, slots := 0, locals := 80 } (va_Pc [.ref (adV i), .int k] (js_U ad adV)) (js_Q (some (.int (js_chr i k.toNatClampNeg)))) 0 0 (fun _ => False) := by
  refine Met.ofW (cc := prog_20_method_2_code) (maxL := 2) (ret := some .char) (by decide) rfl ?_
  intro p e s m args below meth c s₁ B hml hv
  obtain ⟨rfl, hU⟩ := hv
  have hx := B.exec
  have hb := B.bytes
  have hr := B.returns
  have htc := atoms_spec (ws := .code ⟨"java/lang/StringLatin1", "charAt", "([BI)C"⟩ prog_20_method_2_code 2 (some .char) :: am_gw) B.pre
  have hts : ∀ w ∈ am_gw, w.before _ s = true := fun w h => htc w (List.mem_cons_of_mem _ h)
  have hown : s.vm.findClass "java/lang/StringLatin1" = some m.cls := findClass_of_methodNamed B.named
  have hlocks := B.notSynchronized
  have hS : va_S (fun _ => False) s.heap s.heap [] := va_S.rf
  have hl := lv_entry [.ref (adV i), .int k] (n := 2) (Nat.le_of_ble_eq_true rfl)
  rw [lg_entry_eq]
  generalize (lg_sl [.ref (adV i), .int k] ++ List.replicate (2 - (lg_sl [.ref (adV i), .int k]).length) Slot.unset).toArray = ls at hl ⊢
  have hl : lv_has ls 2 [(0, .ref (adV i)), (1, .int k)] := hl
  obtain ⟨h0, h1, h2, h3⟩ := js_idx hi hk
  refine lv_iload_n hx hb (show decode prog_20_method_2_code 0 = .ok (.iload_n 1, 1) by decide +kernel) rfl (lv_at hl 1 rfl) ?_
  refine lv_aload_n hx hb (show decode prog_20_method_2_code 1 = .ok (.aload_n 0, 1) by decide +kernel) rfl (lv_at hl 0 rfl) ?_
  refine va_tlen (v := Int32.ofNat (js_len i)) hx hb (hU.1.1 i hi).2.2.2 hS rfl (show decode prog_20_method_2_code 2 = .ok (.arraylength, 1) by decide +kernel) ?_
  refine js_run (va_runS (As := [.int k, .int (Int32.ofNat (js_len i))]) (rest := []) ⟨hx, hb, hml, hown, htc⟩ (js_check l h0 h1) ⟨callB_of 2 htc (js_good js_w13) rfl rfl rfl (hts _ js_w4) (hts _ js_w14) ⟨by decide, by decide, by decide +kernel⟩ ⟨Nat.le_of_ble_eq_true rfl, Nat.le_of_ble_eq_true rfl⟩, hts _ js_w15⟩ ⟨js_U.blind, fun U hU9 hW => ⟨rfl, hU.mv hU9 hW⟩⟩ rfl rfl hl.1 rfl (lv_room (Nat.le_of_ble_eq_true rfl)) (show decode prog_20_method_2_code 3 = .ok (.invokestatic 9, 3) by decide +kernel) ⟨Nat.le_of_ble_eq_true rfl, Nat.le_of_ble_eq_true rfl⟩) ?_
  refine lv_aload_n hx hb (show decode prog_20_method_2_code 6 = .ok (.aload_n 0, 1) by decide +kernel) rfl (lv_at hl 0 rfl) ?_
  refine lv_iload_n hx hb (show decode prog_20_method_2_code 7 = .ok (.iload_n 1, 1) by decide +kernel) rfl (lv_at hl 1 rfl) ?_
  refine va_tb hx hb (hU.1.1 i hi).2.2.2 hS hk rfl (show decode prog_20_method_2_code 8 = .ok (.baload, 1) by decide +kernel) ?_
  refine lv_sipush (v := 255) hx hb (show decode prog_20_method_2_code 9 = .ok (.sipush 255, 3) by decide +kernel) (by decide) ?_
  refine lv_iand hx hb (show decode prog_20_method_2_code 12 = .ok (.iand, 1) by decide +kernel) ?_
  refine lv_i2c (v := js_chr i k.toNatClampNeg) hx hb (show decode prog_20_method_2_code 13 = .ok (.i2c, 1) by decide +kernel) h2 ?_
  exact W.zret (ty := .char) hx hb hr h3 (fun t ht hW => ⟨rfl, ht⟩) (fun _ h => by cases h) (show decode prog_20_method_2_code 14 = .ok (.ireturn, 1) by decide +kernel)

set_option maxRecDepth 100000 in
theorem js_charAt (l : Launch) {ad adV : Nat → Nat} {i : Nat} (hi : i < 3) {k : Int32} (hk : vp_in k (js_len i)) : Met l ⟨"java/lang/String", "charAt", "(I)C"⟩ (.code ⟨"java/lang/String", "charAt", "(I)C"⟩ prog_19_method_56_code 2 (some .char) :: am_gw) { frames := 3, cells := 0, slots := 0, locals := 120 } (va_Pc [.ref (ad (1000000 + i)), .int k] (js_U ad adV)) (js_Q (some (.int (js_chr i k.toNatClampNeg)))) 0 0 (fun _ => False) := by
  refine Met.ofW (cc := prog_19_method_56_code) (maxL := 2) (ret := some .char) (by decide) rfl ?_
  intro p e s m args below meth c s₁ B hml hv
  obtain ⟨rfl, hU⟩ := hv
  have hx := B.exec
  have hb := B.bytes
  have hr := B.returns
  have htc := atoms_spec (ws := .code ⟨"java/lang/String", "charAt", "(I)C"⟩ prog_19_method_56_code 2 (some .char) :: am_gw) B.pre
  have hts : ∀ w ∈ am_gw, w.before _ s = true := fun w h => htc w (List.mem_cons_of_mem _ h)
  have hown : s.vm.findClass "java/lang/String" = some m.cls := findClass_of_methodNamed B.named
  have hlocks := B.notSynchronized
  have hS : va_S (fun _ => False) s.heap s.heap [] := va_S.rf
  have hl := lv_entry [.ref (ad (1000000 + i)), .int k] (n := 2) (Nat.le_of_ble_eq_true rfl)
  rw [lg_entry_eq]
  generalize (lg_sl [.ref (ad (1000000 + i)), .int k] ++ List.replicate (2 - (lg_sl [.ref (ad (1000000 + i)), .int k]).length) Slot.unset).toArray = ls at hl ⊢
  have hl : lv_has ls 2 [(0, .ref (ad (1000000 + i))), (1, .int k)] := hl
  obtain ⟨h0, h1, h2, h3⟩ := js_idx hi hk
  refine lv_aload_n hx hb (show decode prog_19_method_56_code 0 = .ok (.aload_n 0, 1) by decide +kernel) rfl (lv_at hl 0 rfl) ?_
  refine js_run (va_runV (C := "java/lang/String") (b := ad (1000000 + i)) (As := []) (rest := []) ⟨hx, hb, hml, hown, htc⟩ (js_isLatin1 l hi) ⟨callB_of 0 htc (js_good js_w16) rfl rfl rfl (hts _ js_w4) (hts _ js_w17) ⟨by decide, by decide, by decide +kernel⟩ ⟨Nat.le_of_ble_eq_true rfl, Nat.le_of_ble_eq_true rfl⟩, hts _ js_w18, hts _ js_w19⟩ ⟨js_U.blind, vk_recv (adK := fun i => ad (1000000 + i)) (i := i) hU.1 hi hS, fun U hU9 hW => ⟨rfl, hU.mv hU9 hW⟩⟩ rfl rfl hl.1 rfl (lv_room (Nat.le_of_ble_eq_true rfl)) (show decode prog_19_method_56_code 1 = .ok (.invokevirtual 492, 3) by decide +kernel) ⟨Nat.le_of_ble_eq_true rfl, Nat.le_of_ble_eq_true rfl⟩) ?_
  refine lv_if_eq (tgt := 16) hx hb (show decode prog_19_method_56_code 4 = .ok (.ifCond .eq 12, 3) by decide +kernel) (by decide) (fun h9 => absurd h9 (by decide)) (fun _ => ?_)
  refine lv_aload_n hx hb (show decode prog_19_method_56_code 7 = .ok (.aload_n 0, 1) by decide +kernel) rfl (lv_at hl 0 rfl) ?_
  refine vk_getf hx hb (hU.1.1 i hi).2.2.1 hS hown (hts _ js_w2) (fun _ h9 => h9) (show decode prog_19_method_56_code 8 = .ok (.getfield 9, 3) by decide +kernel) ?_
  refine lv_iload_n hx hb (show decode prog_19_method_56_code 11 = .ok (.iload_n 1, 1) by decide +kernel) rfl (lv_at hl 1 rfl) ?_
  refine js_run (va_runS (As := [.ref (adV i), .int k]) (rest := []) ⟨hx, hb, hml, hown, htc⟩ (js_lchar l hi hk) ⟨callB_of 2 htc (js_good js_w20) rfl rfl rfl (hts _ js_w21) (hts _ js_w22) ⟨by decide, by decide, by decide +kernel⟩ ⟨Nat.le_of_ble_eq_true rfl, Nat.le_of_ble_eq_true rfl⟩, hts _ js_w23⟩ ⟨js_U.blind, fun U hU9 hW => ⟨rfl, hU.mv hU9 hW⟩⟩ rfl rfl hl.1 rfl (lv_room (Nat.le_of_ble_eq_true rfl)) (show decode prog_19_method_56_code 12 = .ok (.invokestatic 495, 3) by decide +kernel) ⟨Nat.le_of_ble_eq_true rfl, Nat.le_of_ble_eq_true rfl⟩) ?_
  exact W.zret (ty := .char) hx hb hr h3 (fun t ht hW => ⟨rfl, ht⟩) (fun _ h => by cases h) (show decode prog_19_method_56_code 15 = .ok (.ireturn, 1) by decide +kernel)

set_option maxRecDepth 100000 in
theorem js_can (l : Launch) {ad adV : Nat → Nat} {k : Int32} (h0 : ¬ k < 0) (h1 : ¬ 255 < k) : Met l ⟨"java/lang/StringLatin1", "canEncode", "(I)Z"⟩ (.code ⟨"java/lang/StringLatin1", "canEncode", "(I)Z"⟩ prog_20_method_4_code 1 (some .boolean) :: am_gw) { frames := 0, cells := 0, slots := 0, locals := 0 } (va_Pc [.int k] (js_U ad adV)) (js_Q (some (.int 1))) 0 0 (fun _ => False) := by
  refine Met.ofW (cc := prog_20_method_4_code) (maxL := 1) (ret := some .boolean) (by decide) rfl ?_
  intro p e s m args below meth c s₁ B hml hv
  obtain ⟨rfl, hU⟩ := hv
  have hx := B.exec
  have hb := B.bytes
  have hr := B.returns
  have htc := atoms_spec (ws := .code ⟨"java/lang/StringLatin1", "canEncode", "(I)Z"⟩ prog_20_method_4_code 1 (some .boolean) :: am_gw) B.pre
  have hts : ∀ w ∈ am_gw, w.before _ s = true := fun w h => htc w (List.mem_cons_of_mem _ h)
  have hown : s.vm.findClass "java/lang/StringLatin1" = some m.cls := findClass_of_methodNamed B.named
  have hlocks := B.notSynchronized
  have hS : va_S (fun _ => False) s.heap s.heap [] := va_S.rf
  have hl := lv_entry [.int k] (n := 1) (Nat.le_of_ble_eq_true rfl)
  rw [lg_entry_eq]
  generalize (lg_sl [.int k] ++ List.replicate (1 - (lg_sl [.int k]).length) Slot.unset).toArray = ls at hl ⊢
  have hl : lv_has ls 1 [(0, .int k)] := hl
  refine lv_iload_n hx hb (show decode prog_20_method_4_code 0 = .ok (.iload_n 0, 1) by decide +kernel) rfl (lv_at hl 0 rfl) ?_
  refine lv_if_lt (tgt := 15) hx hb (show decode prog_20_method_4_code 1 = .ok (.ifCond .lt 14, 3) by decide +kernel) (by decide) (fun h9 => absurd h9 h0) (fun _ => ?_)
  refine lv_iload_n hx hb (show decode prog_20_method_4_code 4 = .ok (.iload_n 0, 1) by decide +kernel) rfl (lv_at hl 0 rfl) ?_
  refine lv_sipush (v := 255) hx hb (show decode prog_20_method_4_code 5 = .ok (.sipush 255, 3) by decide +kernel) (by decide) ?_
  refine lv_icmp_gt (tgt := 15) hx hb (show decode prog_20_method_4_code 8 = .ok (.if_icmp .gt 7, 3) by decide +kernel) (by decide) (fun h9 => absurd h9 h1) (fun _ => ?_)
  refine lv_iconst (v := 1) hx hb (show decode prog_20_method_4_code 11 = .ok (.iconst 1, 1) by decide +kernel) (by decide) ?_
  refine lv_goto (tgt := 16) hx hb (show decode prog_20_method_4_code 12 = .ok (.goto 4, 3) by decide +kernel) (by decide) ?_
  exact W.zret (ty := .boolean) hx hb hr rfl (fun t ht hW => ⟨rfl, ht⟩) (fun _ h => by cases h) (show decode prog_20_method_4_code 16 = .ok (.ireturn, 1) by decide +kernel)

set_option maxRecDepth 100000 in
theorem js_ixc (l : Launch) {ad adV : Nat → Nat} {i : Nat} (hi : i < 3) {k : Int32} (h0 : ¬ k < 0) (h1 : ¬ 255 < k) : Met l ⟨"java/lang/StringLatin1", "indexOfChar", "([BIII)I"⟩ (.code ⟨"java/lang/StringLatin1", "indexOfChar", "([BIII)I"⟩ prog_20_method_23_code 6 (some .int) :: am_gw) { frames := 0, cells := 0, slots := 0, locals := 0 } (va_Pc [.ref (adV i), .int k, .int 0, .int (Int32.ofNat (js_len i))] (js_U ad adV)) (js_Q (some (.int (js_ix i k)))) 0 0 (fun _ => False) := by
  refine Met.ofW (cc := prog_20_method_23_code) (maxL := 6) (ret := some .int) (by decide) rfl ?_
  intro p e s m args below meth c s₁ B hml hv
  obtain ⟨rfl, hU⟩ := hv
  have hx := B.exec
  have hb := B.bytes
  have hr := B.returns
  have htc := atoms_spec (ws := .code ⟨"java/lang/StringLatin1", "indexOfChar", "([BIII)I"⟩ prog_20_method_23_code 6 (some .int) :: am_gw) B.pre
  have hts : ∀ w ∈ am_gw, w.before _ s = true := fun w h => htc w (List.mem_cons_of_mem _ h)
  have hown : s.vm.findClass "java/lang/StringLatin1" = some m.cls := findClass_of_methodNamed B.named
  have hlocks := B.notSynchronized
  have hS : va_S (fun _ => False) s.heap s.heap [] := va_S.rf
  have hl := lv_entry [.ref (adV i), .int k, .int 0, .int (Int32.ofNat (js_len i))] (n := 6) (Nat.le_of_ble_eq_true rfl)
  rw [lg_entry_eq]
  generalize (lg_sl [.ref (adV i), .int k, .int 0, .int (Int32.ofNat (js_len i))] ++ List.replicate (6 - (lg_sl [.ref (adV i), .int k, .int 0, .int (Int32.ofNat (js_len i))]).length) Slot.unset).toArray = ls at hl ⊢
  have hl : lv_has ls 6 [(0, .ref (adV i)), (1, .int k), (2, .int 0), (3, .int (Int32.ofNat (js_len i)))] := hl
  refine lv_iload_n hx hb (show decode prog_20_method_23_code 0 = .ok (.iload_n 1, 1) by decide +kernel) rfl (lv_at hl 1 rfl) ?_
  refine lv_i2b (v := k.toInt8.toInt32) hx hb (show decode prog_20_method_23_code 1 = .ok (.i2b, 1) by decide +kernel) rfl ?_
  refine lv_istore (lv' := [(4, .int k.toInt8.toInt32), (0, .ref (adV i)), (1, .int k), (2, .int 0), (3, .int (Int32.ofNat (js_len i)))]) hx hb (show decode prog_20_method_23_code 2 = .ok (.istore 4, 2) by decide +kernel) hl (by decide) rfl (fun ls hl => ?_)
  refine lv_iload_n hx hb (show decode prog_20_method_23_code 4 = .ok (.iload_n 2, 1) by decide +kernel) rfl (lv_at hl 3 rfl) ?_
  refine lv_istore (lv' := [(5, .int 0), (4, .int k.toInt8.toInt32), (0, .ref (adV i)), (1, .int k), (2, .int 0), (3, .int (Int32.ofNat (js_len i)))]) hx hb (show decode prog_20_method_23_code 5 = .ok (.istore 5, 2) by decide +kernel) hl (by decide) rfl (fun ls hl => ?_)
  have hle := (js_all i hi).1
  have loop : ∀ (R : Room) (ar : Array Value) (xs : List Int32) (j : Nat) (x5 : Int32) (ls : Array Slot), (js_tx i).drop j = xs → x5 = nI j → j ≤ js_len i → lv_has ls 6 [(5, .int x5), (4, .int k.toInt8.toInt32), (0, .ref (adV i)), (1, .int k), (2, .int 0), (3, .int (Int32.ofNat (js_len i)))] → W p l e R s m ar below meth c s.heap [] 0 0 (MQ below (js_Q (some (.int (am_ixg k xs j)))) ar s 0 0 (fun _ => False)) (F0 m 7 ls []) := by
    intro R ar xs
    induction xs with
    | nil =>
      intro j x5 ls e1 e2 hj hl
      have hj2 : js_len i ≤ j := by rw [hle]; exact List.drop_eq_nil_iff.mp e1
      have hj3 := js_lt hi
      refine lv_iload hx hb (show decode prog_20_method_23_code 7 = .ok (.iload 5, 2) by decide +kernel) (lv_at hl 0 rfl) ?_
      refine lv_iload_n hx hb (show decode prog_20_method_23_code 9 = .ok (.iload_n 3, 1) by decide +kernel) rfl (lv_at hl 5 rfl) ?_
      refine lv_icmp_ge (tgt := 31) hx hb (show decode prog_20_method_23_code 10 = .ok (.if_icmp .ge 21, 3) by decide +kernel) (by decide) (fun _ => ?_) (fun h9 => absurd (by rw [e2]; exact nI_le hj2 (by omega)) h9)
      refine lv_iconst (v := -1) hx hb (show decode prog_20_method_23_code 31 = .ok (.iconst (-1), 1) by decide +kernel) (by decide) ?_
      exact W.iret hx hb hr (fun t ht hW => ⟨rfl, ht⟩) (fun _ h => by cases h) (show decode prog_20_method_23_code 32 = .ok (.ireturn, 1) by decide +kernel)
    | cons x xs ih =>
      intro j x5 ls e1 e2 hj hl
      obtain ⟨g0, g2, g3⟩ := js_drop e1
      have g1 : j < js_len i := by rw [hle]; exact g0
      have hj3 := js_lt hi
      have hin : vp_in x5 (js_len i) := by rw [e2]; exact vp_in_nI g1 (by omega)
      have hv : ((([am_tx0, am_tx1, am_tx2] : List (List Int32)).getD i []).getD x5.toNatClampNeg 0) = x := by rw [e2, nI_clamp (by omega)]; exact g2
      refine lv_iload hx hb (show decode prog_20_method_23_code 7 = .ok (.iload 5, 2) by decide +kernel) (lv_at hl 0 rfl) ?_
      refine lv_iload_n hx hb (show decode prog_20_method_23_code 9 = .ok (.iload_n 3, 1) by decide +kernel) rfl (lv_at hl 5 rfl) ?_
      refine lv_icmp_ge (tgt := 31) hx hb (show decode prog_20_method_23_code 10 = .ok (.if_icmp .ge 21, 3) by decide +kernel) (by decide) (fun h9 => absurd h9 (by rw [e2]; exact nI_ge g1 (by omega))) (fun _ => ?_)
      refine lv_aload_n hx hb (show decode prog_20_method_23_code 13 = .ok (.aload_n 0, 1) by decide +kernel) rfl (lv_at hl 2 rfl) ?_
      refine lv_iload hx hb (show decode prog_20_method_23_code 14 = .ok (.iload 5, 2) by decide +kernel) (lv_at hl 0 rfl) ?_
      refine va_tb (v := .int x) hx hb (hU.1.1 i hi).2.2.2 hS hin (by rw [hv]) (show decode prog_20_method_23_code 16 = .ok (.baload, 1) by decide +kernel) ?_
      refine lv_iload hx hb (show decode prog_20_method_23_code 17 = .ok (.iload 4, 2) by decide +kernel) (lv_at hl 1 rfl) ?_
      have hx9 : x = k.toInt8.toInt32 ↔ x = k := js_byte hi (by rw [← g2, List.getD_eq_getElem?_getD, List.getElem?_eq_getElem g0, Option.getD_some]; exact List.getElem_mem g0) h0 h1
      refine lv_icmp_ne (tgt := 25) hx hb (show decode prog_20_method_23_code 19 = .ok (.if_icmp .ne 6, 3) by decide +kernel) (by decide) (fun h9 => ?_) (fun h9 => ?_)
      · have e3 : am_ixg k (x :: xs) j = am_ixg k xs (j + 1) := by
          show cond (decide (x = k)) _ _ = _
          rw [decide_eq_false (fun z => h9 (hx9.mpr z))]
          rfl
        rw [e3]
        refine lv_iinc (v := nI (j + 1)) (lv' := [(5, .int (nI (j + 1))), (4, .int k.toInt8.toInt32), (0, .ref (adV i)), (1, .int k), (2, .int 0), (3, .int (Int32.ofNat (js_len i)))]) hx hb (show decode prog_20_method_23_code 25 = .ok (.iinc 5 1, 3) by decide +kernel) hl (k := 0) rfl (by rw [e2]; exact (nI_succ j).symm) (by decide) rfl (fun ls hl => ?_)
        refine lv_goto (tgt := 7) hx hb (show decode prog_20_method_23_code 28 = .ok (.goto (-21), 3) by decide +kernel) (by decide) ?_
        exact ih (j + 1) _ ls g3 rfl g1 hl
      · have e3 : am_ixg k (x :: xs) j = x5 := by
          show cond (decide (x = k)) (Int32.ofNat j) _ = _
          rw [decide_eq_true (hx9.mp h9), e2]
          rfl
        rw [e3]
        refine lv_iload hx hb (show decode prog_20_method_23_code 22 = .ok (.iload 5, 2) by decide +kernel) (lv_at hl 0 rfl) ?_
        exact W.iret hx hb hr (fun t ht hW => ⟨rfl, ht⟩) (fun _ h => by cases h) (show decode prog_20_method_23_code 24 = .ok (.ireturn, 1) by decide +kernel)
  exact loop _ _ (js_tx i) 0 0 ls (List.drop_zero) nI_0.symm (Nat.zero_le _) hl

set_option maxRecDepth 100000 in
theorem js_lix (l : Launch) {ad adV : Nat → Nat} {i : Nat} (hi : i < 3) {k : Int32} (h0 : ¬ k < 0) (h1 : ¬ 255 < k) : Met l ⟨"java/lang/StringLatin1", "indexOf", "([BIII)I"⟩ (.code ⟨"java/lang/StringLatin1", "indexOf", "([BIII)I"⟩ prog_20_method_22_code 4 (some .int) :: am_gw) { frames := 1, cells := 0, slots := 0, locals := 60 } (va_Pc [.ref (adV i), .int k, .int 0, .int (Int32.ofNat (js_len i))] (js_U ad adV)) (js_Q (some (.int (js_ix i k)))) 0 0 (fun _ => False) := by
  refine Met.ofW (cc := prog_20_method_22_code) (maxL := 4) (ret := some .int) (by decide) rfl ?_
  intro p e s m args below meth c s₁ B hml hv
  obtain ⟨rfl, hU⟩ := hv
  have hx := B.exec
  have hb := B.bytes
  have hr := B.returns
  have htc := atoms_spec (ws := .code ⟨"java/lang/StringLatin1", "indexOf", "([BIII)I"⟩ prog_20_method_22_code 4 (some .int) :: am_gw) B.pre
  have hts : ∀ w ∈ am_gw, w.before _ s = true := fun w h => htc w (List.mem_cons_of_mem _ h)
  have hown : s.vm.findClass "java/lang/StringLatin1" = some m.cls := findClass_of_methodNamed B.named
  have hlocks := B.notSynchronized
  have hS : va_S (fun _ => False) s.heap s.heap [] := va_S.rf
  have hl := lv_entry [.ref (adV i), .int k, .int 0, .int (Int32.ofNat (js_len i))] (n := 4) (Nat.le_of_ble_eq_true rfl)
  rw [lg_entry_eq]
  generalize (lg_sl [.ref (adV i), .int k, .int 0, .int (Int32.ofNat (js_len i))] ++ List.replicate (4 - (lg_sl [.ref (adV i), .int k, .int 0, .int (Int32.ofNat (js_len i))]).length) Slot.unset).toArray = ls at hl ⊢
  have hl : lv_has ls 4 [(0, .ref (adV i)), (1, .int k), (2, .int 0), (3, .int (Int32.ofNat (js_len i)))] := hl
  have hlt := js_lt hi
  have hps := js_pos hi
  refine lv_iload_n hx hb (show decode prog_20_method_22_code 0 = .ok (.iload_n 1, 1) by decide +kernel) rfl (lv_at hl 1 rfl) ?_
  refine js_run (va_runS (As := [.int k]) (rest := []) ⟨hx, hb, hml, hown, htc⟩ (js_can l h0 h1) ⟨callB_of 1 htc (js_good js_w24) rfl rfl rfl (hts _ js_w21) (hts _ js_w25) ⟨by decide, by decide, by decide +kernel⟩ ⟨Nat.le_of_ble_eq_true rfl, Nat.le_of_ble_eq_true rfl⟩, hts _ js_w26⟩ ⟨js_U.blind, fun U hU9 hW => ⟨rfl, hU.mv hU9 hW⟩⟩ rfl rfl hl.1 rfl (lv_room (Nat.le_of_ble_eq_true rfl)) (show decode prog_20_method_22_code 1 = .ok (.invokestatic 88, 3) by decide +kernel) ⟨Nat.le_of_ble_eq_true rfl, Nat.le_of_ble_eq_true rfl⟩) ?_
  refine lv_if_ne (tgt := 9) hx hb (show decode prog_20_method_22_code 4 = .ok (.ifCond .ne 5, 3) by decide +kernel) (by decide) (fun _ => ?_) (fun h9 => absurd h9 (by decide))
  refine lv_iload_n hx hb (show decode prog_20_method_22_code 9 = .ok (.iload_n 2, 1) by decide +kernel) rfl (lv_at hl 2 rfl) ?_
  refine lv_iconst (v := 0) hx hb (show decode prog_20_method_22_code 10 = .ok (.iconst 0, 1) by decide +kernel) (by decide) ?_
  refine va_mmax hx hb (by rw [hml]; exact hl.1.symm) hown (hts _ js_w27) (hts _ am_ms2) (hts _ am_mi) (hts _ am_mc2) (Nat.le_of_ble_eq_true rfl) (Nat.le_of_ble_eq_true rfl) (Nat.le_refl _) (Nat.le_refl _) (show decode prog_20_method_22_code 11 = .ok (.invokestatic 92, 3) by decide +kernel) ?_
  refine lv_istore_n (lv' := [(2, .int (if (0 : Int32) < 0 then 0 else 0)), (0, .ref (adV i)), (1, .int k), (3, .int (Int32.ofNat (js_len i)))]) hx hb (show decode prog_20_method_22_code 14 = .ok (.istore_n 2, 1) by decide +kernel) rfl hl (by decide) rfl (fun ls hl => ?_)
  refine lv_iload_n hx hb (show decode prog_20_method_22_code 15 = .ok (.iload_n 3, 1) by decide +kernel) rfl (lv_at hl 3 rfl) ?_
  refine lv_aload_n hx hb (show decode prog_20_method_22_code 16 = .ok (.aload_n 0, 1) by decide +kernel) rfl (lv_at hl 1 rfl) ?_
  refine va_tlen (v := Int32.ofNat (js_len i)) hx hb (hU.1.1 i hi).2.2.2 hS rfl (show decode prog_20_method_22_code 17 = .ok (.arraylength, 1) by decide +kernel) ?_
  refine va_mmin hx hb (by rw [hml]; exact hl.1.symm) hown (hts _ js_w28) (hts _ am_ms3) (hts _ am_mi) (hts _ am_mc3) (Nat.le_of_ble_eq_true rfl) (Nat.le_of_ble_eq_true rfl) (Nat.le_refl _) (Nat.le_refl _) (show decode prog_20_method_22_code 18 = .ok (.invokestatic 38, 3) by decide +kernel) ?_
  rw [ite_self]
  refine lv_istore_n (lv' := [(3, .int (Int32.ofNat (js_len i))), (2, .int 0), (0, .ref (adV i)), (1, .int k)]) hx hb (show decode prog_20_method_22_code 21 = .ok (.istore_n 3, 1) by decide +kernel) rfl hl (by decide) rfl (fun ls hl => ?_)
  refine lv_iload_n hx hb (show decode prog_20_method_22_code 22 = .ok (.iload_n 2, 1) by decide +kernel) rfl (lv_at hl 1 rfl) ?_
  refine lv_iload_n hx hb (show decode prog_20_method_22_code 23 = .ok (.iload_n 3, 1) by decide +kernel) rfl (lv_at hl 0 rfl) ?_
  refine lv_icmp_lt (tgt := 29) hx hb (show decode prog_20_method_22_code 24 = .ok (.if_icmp .lt 5, 3) by decide +kernel) (by decide) (fun _ => ?_) (fun h9 => absurd (nI_lt (a := 0) hps (by omega)) h9)
  refine lv_aload_n hx hb (show decode prog_20_method_22_code 29 = .ok (.aload_n 0, 1) by decide +kernel) rfl (lv_at hl 2 rfl) ?_
  refine lv_iload_n hx hb (show decode prog_20_method_22_code 30 = .ok (.iload_n 1, 1) by decide +kernel) rfl (lv_at hl 3 rfl) ?_
  refine lv_iload_n hx hb (show decode prog_20_method_22_code 31 = .ok (.iload_n 2, 1) by decide +kernel) rfl (lv_at hl 1 rfl) ?_
  refine lv_iload_n hx hb (show decode prog_20_method_22_code 32 = .ok (.iload_n 3, 1) by decide +kernel) rfl (lv_at hl 0 rfl) ?_
  refine js_run (va_runS (As := [.ref (adV i), .int k, .int 0, .int (Int32.ofNat (js_len i))]) (rest := []) ⟨hx, hb, hml, hown, htc⟩ (js_ixc l hi h0 h1) ⟨callB_of 4 htc (js_good js_w29) rfl rfl rfl (hts _ js_w21) (hts _ js_w30) ⟨by decide, by decide, by decide +kernel⟩ ⟨Nat.le_of_ble_eq_true rfl, Nat.le_of_ble_eq_true rfl⟩, hts _ js_w31⟩ ⟨js_U.blind, fun U hU9 hW => ⟨rfl, hU.mv hU9 hW⟩⟩ rfl rfl hl.1 rfl (lv_room (Nat.le_of_ble_eq_true rfl)) (show decode prog_20_method_22_code 33 = .ok (.invokestatic 95, 3) by decide +kernel) ⟨Nat.le_of_ble_eq_true rfl, Nat.le_of_ble_eq_true rfl⟩) ?_
  exact W.iret hx hb hr (fun t ht hW => ⟨rfl, ht⟩) (fun _ h => by cases h) (show decode prog_20_method_22_code 36 = .ok (.ireturn, 1) by decide +kernel)

set_option maxRecDepth 100000 in
theorem js_ixo2 (l : Launch) {ad adV : Nat → Nat} {i : Nat} (hi : i < 3) {k : Int32} (h0 : ¬ k < 0) (h1 : ¬ 255 < k) : Met l ⟨"java/lang/String", "indexOf", "(II)I"⟩ (.code ⟨"java/lang/String", "indexOf", "(II)I"⟩ prog_19_method_80_code 3 (some .int) :: am_gw) { frames := 2, cells := 0, slots := 0, locals := 100 } (va_Pc [.ref (ad (1000000 + i)), .int k, .int 0] (js_U ad adV)) (js_Q (some (.int (js_ix i k)))) 0 0 (fun _ => False) := by
  refine Met.ofW (cc := prog_19_method_80_code) (maxL := 3) (ret := some .int) (by decide) rfl ?_
  intro p e s m args below meth c s₁ B hml hv
  obtain ⟨rfl, hU⟩ := hv
  have hx := B.exec
  have hb := B.bytes
  have hr := B.returns
  have htc := atoms_spec (ws := .code ⟨"java/lang/String", "indexOf", "(II)I"⟩ prog_19_method_80_code 3 (some .int) :: am_gw) B.pre
  have hts : ∀ w ∈ am_gw, w.before _ s = true := fun w h => htc w (List.mem_cons_of_mem _ h)
  have hown : s.vm.findClass "java/lang/String" = some m.cls := findClass_of_methodNamed B.named
  have hlocks := B.notSynchronized
  have hS : va_S (fun _ => False) s.heap s.heap [] := va_S.rf
  have hl := lv_entry [.ref (ad (1000000 + i)), .int k, .int 0] (n := 3) (Nat.le_of_ble_eq_true rfl)
  rw [lg_entry_eq]
  generalize (lg_sl [.ref (ad (1000000 + i)), .int k, .int 0] ++ List.replicate (3 - (lg_sl [.ref (ad (1000000 + i)), .int k, .int 0]).length) Slot.unset).toArray = ls at hl ⊢
  have hl : lv_has ls 3 [(0, .ref (ad (1000000 + i))), (1, .int k), (2, .int 0)] := hl
  refine lv_aload_n hx hb (show decode prog_19_method_80_code 0 = .ok (.aload_n 0, 1) by decide +kernel) rfl (lv_at hl 0 rfl) ?_
  refine js_run (va_runV (C := "java/lang/String") (b := ad (1000000 + i)) (As := []) (rest := []) ⟨hx, hb, hml, hown, htc⟩ (js_isLatin1 l hi) ⟨callB_of 0 htc (js_good js_w16) rfl rfl rfl (hts _ js_w4) (hts _ js_w17) ⟨by decide, by decide, by decide +kernel⟩ ⟨Nat.le_of_ble_eq_true rfl, Nat.le_of_ble_eq_true rfl⟩, hts _ js_w18, hts _ js_w19⟩ ⟨js_U.blind, vk_recv (adK := fun i => ad (1000000 + i)) (i := i) hU.1 hi hS, fun U hU9 hW => ⟨rfl, hU.mv hU9 hW⟩⟩ rfl rfl hl.1 rfl (lv_room (Nat.le_of_ble_eq_true rfl)) (show decode prog_19_method_80_code 1 = .ok (.invokevirtual 492, 3) by decide +kernel) ⟨Nat.le_of_ble_eq_true rfl, Nat.le_of_ble_eq_true rfl⟩) ?_
  refine lv_if_eq (tgt := 23) hx hb (show decode prog_19_method_80_code 4 = .ok (.ifCond .eq 19, 3) by decide +kernel) (by decide) (fun h9 => absurd h9 (by decide)) (fun _ => ?_)
  refine lv_aload_n hx hb (show decode prog_19_method_80_code 7 = .ok (.aload_n 0, 1) by decide +kernel) rfl (lv_at hl 0 rfl) ?_
  refine vk_getf hx hb (hU.1.1 i hi).2.2.1 hS hown (hts _ js_w2) (fun _ h9 => h9) (show decode prog_19_method_80_code 8 = .ok (.getfield 9, 3) by decide +kernel) ?_
  refine lv_iload_n hx hb (show decode prog_19_method_80_code 11 = .ok (.iload_n 1, 1) by decide +kernel) rfl (lv_at hl 1 rfl) ?_
  refine lv_iload_n hx hb (show decode prog_19_method_80_code 12 = .ok (.iload_n 2, 1) by decide +kernel) rfl (lv_at hl 2 rfl) ?_
  refine lv_aload_n hx hb (show decode prog_19_method_80_code 13 = .ok (.aload_n 0, 1) by decide +kernel) rfl (lv_at hl 0 rfl) ?_
  refine js_run (va_runV (C := "java/lang/String") (b := ad (1000000 + i)) (As := []) (rest := [.int 0, .int k, .ref (adV i)]) ⟨hx, hb, hml, hown, htc⟩ (js_length l hi) ⟨callB_of 0 htc (js_good js_w32) rfl rfl rfl (hts _ js_w4) (hts _ js_w33) ⟨by decide, by decide, by decide +kernel⟩ ⟨Nat.le_of_ble_eq_true rfl, Nat.le_of_ble_eq_true rfl⟩, hts _ js_w34, hts _ js_w35⟩ ⟨js_U.blind, vk_recv (adK := fun i => ad (1000000 + i)) (i := i) hU.1 hi hS, fun U hU9 hW => ⟨rfl, hU.mv hU9 hW⟩⟩ rfl rfl hl.1 rfl (lv_room (Nat.le_of_ble_eq_true rfl)) (show decode prog_19_method_80_code 14 = .ok (.invokevirtual 505, 3) by decide +kernel) ⟨Nat.le_of_ble_eq_true rfl, Nat.le_of_ble_eq_true rfl⟩) ?_
  refine js_run (va_runS (As := [.ref (adV i), .int k, .int 0, .int (Int32.ofNat (js_len i))]) (rest := []) ⟨hx, hb, hml, hown, htc⟩ (js_lix l hi h0 h1) ⟨callB_of 4 htc (js_good js_w36) rfl rfl rfl (hts _ js_w21) (hts _ js_w37) ⟨by decide, by decide, by decide +kernel⟩ ⟨Nat.le_of_ble_eq_true rfl, Nat.le_of_ble_eq_true rfl⟩, hts _ js_w38⟩ ⟨js_U.blind, fun U hU9 hW => ⟨rfl, hU.mv hU9 hW⟩⟩ rfl rfl hl.1 rfl (lv_room (Nat.le_of_ble_eq_true rfl)) (show decode prog_19_method_80_code 17 = .ok (.invokestatic 637, 3) by decide +kernel) ⟨Nat.le_of_ble_eq_true rfl, Nat.le_of_ble_eq_true rfl⟩) ?_
  refine lv_goto (tgt := 36) hx hb (show decode prog_19_method_80_code 20 = .ok (.goto 16, 3) by decide +kernel) (by decide) ?_
  exact W.iret hx hb hr (fun t ht hW => ⟨rfl, ht⟩) (fun _ h => by cases h) (show decode prog_19_method_80_code 36 = .ok (.ireturn, 1) by decide +kernel)

set_option maxRecDepth 100000 in
theorem js_indexOf (l : Launch) {ad adV : Nat → Nat} {i : Nat} (hi : i < 3) {k : Int32} (h0 : ¬ k < 0) (h1 : ¬ 255 < k) : Met l ⟨"java/lang/String", "indexOf", "(I)I"⟩ (.code ⟨"java/lang/String", "indexOf", "(I)I"⟩ prog_19_method_79_code 2 (some .int) :: am_gw) { frames := 3, cells := 0, slots := 0, locals := 140 } (va_Pc [.ref (ad (1000000 + i)), .int k] (js_U ad adV)) (js_Q (some (.int (js_ix i k)))) 0 0 (fun _ => False) := by
  refine Met.ofW (cc := prog_19_method_79_code) (maxL := 2) (ret := some .int) (by decide) rfl ?_
  intro p e s m args below meth c s₁ B hml hv
  obtain ⟨rfl, hU⟩ := hv
  have hx := B.exec
  have hb := B.bytes
  have hr := B.returns
  have htc := atoms_spec (ws := .code ⟨"java/lang/String", "indexOf", "(I)I"⟩ prog_19_method_79_code 2 (some .int) :: am_gw) B.pre
  have hts : ∀ w ∈ am_gw, w.before _ s = true := fun w h => htc w (List.mem_cons_of_mem _ h)
  have hown : s.vm.findClass "java/lang/String" = some m.cls := findClass_of_methodNamed B.named
  have hlocks := B.notSynchronized
  have hS : va_S (fun _ => False) s.heap s.heap [] := va_S.rf
  have hl := lv_entry [.ref (ad (1000000 + i)), .int k] (n := 2) (Nat.le_of_ble_eq_true rfl)
  rw [lg_entry_eq]
  generalize (lg_sl [.ref (ad (1000000 + i)), .int k] ++ List.replicate (2 - (lg_sl [.ref (ad (1000000 + i)), .int k]).length) Slot.unset).toArray = ls at hl ⊢
  have hl : lv_has ls 2 [(0, .ref (ad (1000000 + i))), (1, .int k)] := hl
  refine lv_aload_n hx hb (show decode prog_19_method_79_code 0 = .ok (.aload_n 0, 1) by decide +kernel) rfl (lv_at hl 0 rfl) ?_
  refine lv_iload_n hx hb (show decode prog_19_method_79_code 1 = .ok (.iload_n 1, 1) by decide +kernel) rfl (lv_at hl 1 rfl) ?_
  refine lv_iconst (v := 0) hx hb (show decode prog_19_method_79_code 2 = .ok (.iconst 0, 1) by decide +kernel) (by decide) ?_
  refine js_run (va_runV (C := "java/lang/String") (b := ad (1000000 + i)) (As := [.int k, .int 0]) (rest := []) ⟨hx, hb, hml, hown, htc⟩ (js_ixo2 l hi h0 h1) ⟨callB_of 2 htc (js_good js_w39) rfl rfl rfl (hts _ js_w4) (hts _ js_w40) ⟨by decide, by decide, by decide +kernel⟩ ⟨Nat.le_of_ble_eq_true rfl, Nat.le_of_ble_eq_true rfl⟩, hts _ js_w41, hts _ js_w42⟩ ⟨js_U.blind, vk_recv (adK := fun i => ad (1000000 + i)) (i := i) hU.1 hi hS, fun U hU9 hW => ⟨rfl, hU.mv hU9 hW⟩⟩ rfl rfl hl.1 rfl (lv_room (Nat.le_of_ble_eq_true rfl)) (show decode prog_19_method_79_code 3 = .ok (.invokevirtual 633, 3) by decide +kernel) ⟨Nat.le_of_ble_eq_true rfl, Nat.le_of_ble_eq_true rfl⟩) ?_
  exact W.iret hx hb hr (fun t ht hW => ⟨rfl, ht⟩) (fun _ h => by cases h) (show decode prog_19_method_79_code 6 = .ok (.ireturn, 1) by decide +kernel)

theorem js_which {ad : Nat → Nat} {A : Nat → Prop} {s0 : State} (h : am_Sy ad A s0) {r : Nat} (h1 : 1000000 ≤ r) (h2 : r < 1000004) : ∃ i, i < 3 ∧ ad r = ad (1000000 + i) ∧ am_tx.getD (r - 1000000) [] = js_tx i := by
  rcases (show r = 1000000 ∨ r = 1000001 ∨ r = 1000002 ∨ r = 1000003 by omega) with e | e | e | e
  · subst e; exact ⟨0, by decide, rfl, rfl⟩
  · subst e; exact ⟨1, by decide, rfl, rfl⟩
  · subst e; exact ⟨2, by decide, rfl, rfl⟩
  · subst e; exact ⟨1, by decide, h.1.2.1, rfl⟩
theorem js_ctx {ad : Nat → Nat} {A : Nat → Prop} {s0 : State} {H : Heap} {locs : List Loc} (h : am_Sy ad A s0) (hS : va_S A s0.heap H locs) : ∃ adV : Nat → Nat, (∀ i, i < 3 → ∃ cell : Cell, H[ad (1000000 + i)]? = some cell ∧ cell.vm.isStatics = false ∧ s0.vm.findClass "java/lang/String" = some cell.cls) ∧ ∀ U : State, U.heap = H → s0.WarmedH U.vm → js_U ad adV U := by
  obtain ⟨⟨-, -, adV, k3⟩, k4, k5⟩ := h
  refine ⟨adV, fun i hi => vk_recv (adK := fun i => ad (1000000 + i)) (i := i) k3 hi hS, fun U hU hW => ?_⟩
  unfold js_U
  rw [hU]
  exact ⟨((k3.kept hS.2.1).narrow (fun _ z => z.elim)).moved hW.alike, ((k4.kept hS.2.1).narrow (fun _ z => z.elim)).moved hW.alike, ((k5.kept hS.2.1).narrow (fun _ z => z.elim)).moved hW.alike⟩
