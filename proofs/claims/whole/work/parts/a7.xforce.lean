/-! THE CLASS: all that goings and floods can bring -/
def RFx : List Nat := [11, 13, 14, 18, 19, 20, 21, 35, 40, 41, 42, 43, 44, 45, 46]
section
variable {i i' : Nat → Nat → Int32} {l l' : Nat → Nat → Int64} {q q' : Nat → Nat → Option Nat} {K K' : List (Nat × Nat)} {r m v v' : Nat} {g h : Nat → Nat} {ρ : Nat → Nat → Nat} {W W' : Nat → Nat}
theorem VS_fl2 {w a : Nat} (h2 : g 2 ≤ 4) (ha : a < 4096) (hv : VS g a) : VS g (sFl g w a) := by
  obtain ⟨v1, v2, v3⟩ := hv
  have hd : ∀ p, p < 4 → dg (sFl g w a) p = dg a p ∨ dg (sFl g w a) p = 0 := fun p hp => by
    rcases dg_fl (w := w) h2 4 a ha p hp with e | ⟨e, _⟩
    · exact Or.inl e
    · exact Or.inr e
  have s0 : sSpot g 0 = false := by unfold sSpot; simp
  refine ⟨fun p hp => ?_, fun p q hp hq hpq hs e => ?_, fun p h1 hp => ?_⟩
  · have := v1 p hp
    rcases hd p hp with e | e <;> omega
  · rcases hd p hp with e1 | e1
    · rcases hd q hq with e2 | e2
      · rw [e1] at hs
        exact v2 p q hp hq hpq hs (by omega)
      · rw [e, e2, s0] at hs; cases hs
    · rw [e1, s0] at hs; cases hs
  · have := v3 p h1 hp
    rcases hd p hp with e | e <;> omega
/-- how the search of forcing stands -/
def FSt (g : Nat → Nat) (W : Nat → Nat) (n : Nat) (L : List Nat) (i : Nat → Nat → Int32) : Prop := (i 35 4 = nI L.length ∧ L.length ≤ n) ∧ L.Nodup ∧ (∀ k, k < L.length → i (W 9) k = nI (L.getD k 0)) ∧ (∀ x, x < n → (x ∈ L → i (W 7) x = nI (sFl g (g 3) x)) ∧ (x ∉ L → i (W 7) x = -nI 1)) ∧ (∀ x, x < n → i (W 8) x = nI 1000000) ∧ ∀ x, x ∈ L → VS g x ∧ x < 4096
/-- forcing's rows, at a length -/
def FQs (W : Nat → Nat) (n : Nat) (q : Nat → Nat → Option Nat) (K : List (Nat × Nat)) : Prop := (q 35 1 = some (W 7) ∧ q 35 2 = some (W 8) ∧ q 35 3 = some (W 9)) ∧ (kK K (W 7) = 100 ∧ kK K (W 8) = 100 ∧ kK K (W 9) = 100) ∧ (lK K (W 7) = n ∧ lK K (W 8) = n ∧ lK K (W 9) = n) ∧ n ≤ 4096
theorem y_fvisit (d : Nat) {n x : Nat} {L : List Nat} (hV : RV (i, l, rX q, kX K) r g) (hW : WG g) (hG : GA r g m (W 0) v i l q K) (hQ : FQs W n q K) (hO : WO W) (h8 : 8 ^ g 2 ≤ n) (hS : FSt g W n L i) (hx : x < 4096) (hvx : VS g x) : ∃ i', am_cl (d + 5) mForcing_visit [.ref 35, .int (nI x)] (i, l, rX q, kX K) = some (none, (i', l, rX q, kX K)) ∧ FSt g W n (addL L x) i' ∧ GA r g m (W 0) v i' l q K ∧ FK RFx [W 7, W 9] [] [] i i' l l q q K K ∧ i' (W 0) = i (W 0) := by
  obtain ⟨⟨x1, x2, x3⟩, ⟨k7, k8, k9⟩, ⟨l7, l8, l9⟩, hn⟩ := hQ
  obtain ⟨⟨s1, s1'⟩, s2, s3, s4, s5, s6⟩ := id hS
  have h2 : g 2 ≤ 4 := hW.2.1
  have h3 : g 3 ≤ 9 := hW.2.2.1
  have y1 : rX q 35 1 = some (W 7) := x1
  have y3 : rX q 35 3 = some (W 9) := x3
  have y22 : rX q 22 1 = some r := hG.2.1
  have hxn : x < n := Nat.lt_of_lt_of_le (VS_lt h2 hx hvx) h8
  have ne : ∀ a b, a < 10 → b < 10 → a ≠ b → W a ≠ W b := fun a b ha hb hab z => hab (hO.2 a b ha hb z)
  have n35 : ∀ a, a < 10 → W a ≠ 35 := fun a ha z => by
    have := hO.1 a ha
    unfold WDc at this
    omega
  rw [c_Forcing_visit, b_Forcing_visit_0, decide_eq_false (show ¬ nI x < 0 from by
    show ¬ nI x < nI 0
    rw [q_lt (by omega) (by omega)]; omega), cond_false, y1]
  dsimp only
  rw [bl100 k7, cond_true, decide_eq_false (show ¬ Int32.ofNat (am_ln (i, l, rX q, kX K) (W 7)) ≤ nI x from by
    rw [show am_ln (i, l, rX q, kX K) (W 7) = n from l7]
    show ¬ nI n ≤ nI x
    rw [q_le (by omega) (by omega)]; omega), cond_false, in100 k7 l7 hn hxn, cond_true, nI_clamp (by omega)]
  by_cases c : x ∈ L
  · have hfl := sFl_lt (g := g) (w := g 3) h2 hx
    rw [(s4 x hxn).1 c, decide_eq_true (show ¬ nI (sFl g (g 3) x) = (-1 : Int32) from by
      show ¬ nI (sFl g (g 3) x) = -nI 1
      rw [q_m1 (by omega)]; exact id), cond_true, b_Forcing_visit_35]
    refine ⟨i, rfl, ?_, hG, FK_refl _ _ _ _ _ _ _ _, rfl⟩
    unfold addL
    rw [if_pos c]; exact hS
  · have hLn : L.length < n := nd_len (nd_inj s2) (fun y hy => Nat.lt_of_lt_of_le (VS_lt h2 (s6 y hy).2 (s6 y hy).1) h8) hxn c
    obtain ⟨i1, e1, hf1, hA1, _⟩ := y_flooded d hV hW hG.1 hx (show g 3 < 16 by omega) hvx.1
    have r1 : ∀ a, a < 10 → i1 (W a) = i (W a) := fun a ha => hf1 (W a) (wd_no (hO.1 a ha) rfl)
    have r135 : i1 35 = i 35 := hf1 35 rfl
    rw [(s4 x hxn).2 c, show decide (¬ -nI 1 = (-1 : Int32)) = false from rfl, cond_false, y3]
    dsimp only
    rw [bl100 k9, cond_true, s1, decide_eq_true (show nI L.length < Int32.ofNat (am_ln (i, l, rX q, kX K) (W 9)) from by
      rw [show am_ln (i, l, rX q, kX K) (W 9) = n from l9]
      show nI L.length < nI n
      rw [q_lt (by omega) (by omega)]; exact hLn), cond_true, y22]
    dsimp only
    rw [show Nat.beq (am_kd (i, l, rX q, kX K) r) 6 = true from by rw [hV.2.1]; rfl, cond_true, show i r 2 = nI (g 3) from hV.2.2.2.2.1, e1, am_bd_some]
    show ∃ i', am_Ex _ _ _ _ [.int (nI (sFl g (g 3) x)), .int (nI x), .ref (W 7)] _ = _ ∧ _
    rw [b_Forcing_visit_62, in100 k7 l7 hn hxn, cond_true, y3]
    dsimp only
    obtain ⟨i2, hi2⟩ : ∃ i2, am_u2 i1 (W 7) (nI x).toNatClampNeg (nI (sFl g (g 3) x)) = i2 := ⟨_, rfl⟩
    have e235 : i2 35 4 = nI L.length := by
      rw [← hi2]; unfold am_u2; rw [if_neg (fun z => n35 7 (by decide) z.symm), r135]; exact s1
    rw [hi2, e235, in100 k9 l9 hn hLn, cond_true, nI_clamp (show L.length < 2147483648 by omega)]
    have e335 : am_u2 i2 (W 9) L.length (nI x) 35 4 = nI L.length := by
      unfold am_u2; rw [if_neg (fun z => n35 9 (by decide) z.symm)]; exact e235
    rw [e335, show nI L.length + (1 : Int32) = nI (L.length + 1) from nI_add _ 1]
    obtain ⟨i3, hi3⟩ : ∃ i3, am_u2 (am_u2 i2 (W 9) L.length (nI x)) 35 4 (nI (L.length + 1)) = i3 := ⟨_, rfl⟩
    rw [hi3]
    rw [nI_clamp (by omega)] at hi2
    have o3 : ∀ c, c ≠ 35 → c ≠ W 7 → c ≠ W 9 → i3 c = i1 c := fun c c1 c2 c3 => by
      rw [← hi3, ← hi2]; funext t; unfold am_u2; rw [if_neg c1, if_neg c3, if_neg c2]
    have hF3 : FK [35] [W 7, W 9] [] [] i1 i3 l l q q K K := ⟨⟨[], by rw [List.append_nil]⟩, fun c _ => ⟨fun z1 z2 => o3 c (fun e => by rw [e] at z1; cases z1) (fun e => by rw [e] at z2; simp at z2) (fun e => by rw [e] at z2; simp at z2), fun _ _ => rfl, fun _ => rfl⟩⟩
    have hF1 : FK RFx [W 7, W 9] [] [] i i1 l l q q K K := ⟨⟨[], by rw [List.append_nil]⟩, fun c _ => ⟨fun z1 _ => hf1 c (sub_c (show RF.all (fun x => RFx.contains x) = true from rfl) z1), fun _ _ => rfl, fun _ => rfl⟩⟩
    have hG1 : GA r g m (W 0) v i1 l q K := by
      obtain ⟨_, b2, b3, b4, b5, b6, b7⟩ := hG
      refine ⟨hA1, b2, b3, ?_, ?_, b6, ?_⟩
      · rw [hf1 22 rfl]; exact b4
      · rw [hf1 22 rfl]; exact b5
      · unfold GV at b7 ⊢
        rw [r1 0 (by decide)]; exact b7
    refine ⟨i3, rfl, ?_, GA_fk hF3 rfl rfl rfl rfl rfl (fun w hw => ?_) hG1, FK_tr hF1 hF3 rfl rfl rfl (fun w hw => Or.inl hw), ?_⟩
    · have hal : addL L x = L ++ [x] := by unfold addL; rw [if_neg c]
      rw [hal]
      have h37 : ∀ t, i3 (W 7) t = if t = x then nI (sFl g (g 3) x) else i (W 7) t := fun t => by
        rw [← hi3, ← hi2]
        unfold am_u2
        rw [if_neg (n35 7 (by decide)), if_neg (ne 7 9 (by decide) (by decide) (by decide)), if_pos rfl, r1 7 (by decide)]
      refine ⟨⟨?_, ?_⟩, ?_, fun k hk => ?_, fun y hy => ⟨fun hm => ?_, fun hm => ?_⟩, fun y hy => ?_, fun y hy => ?_⟩
      · rw [← hi3]; unfold am_u2; rw [if_pos rfl, if_pos rfl, List.length_append]; rfl
      · rw [List.length_append]; exact hLn
      · rw [← hal]; exact addL_nodup s2
      · rw [List.length_append] at hk
        have hk : k < L.length + 1 := hk
        rw [← hi3, ← hi2, getD_app]
        unfold am_u2
        rw [if_neg (n35 9 (by decide)), if_pos rfl]
        by_cases e : k = L.length
        · rw [if_pos e, if_pos e]
        · rw [if_neg e, if_neg e, if_neg (ne 9 7 (by decide) (by decide) (by decide)), r1 9 (by decide)]; exact s3 k (by omega)
      · rw [h37]
        by_cases e : y = x
        · rw [if_pos e, e]
        · rw [if_neg e]
          rcases List.mem_append.mp hm with z | z
          · exact (s4 y hy).1 z
          · exact absurd (List.mem_singleton.mp z) e
      · rw [h37, if_neg (fun e => hm (List.mem_append.mpr (Or.inr (List.mem_singleton.mpr e))))]
        exact (s4 y hy).2 (fun z => hm (List.mem_append.mpr (Or.inl z)))
      · rw [o3 (W 8) (n35 8 (by decide)) (ne 8 7 (by decide) (by decide) (by decide)) (ne 8 9 (by decide) (by decide) (by decide)), r1 8 (by decide)]; exact s5 y hy
      · rcases List.mem_append.mp hy with z | z
        · exact s6 y z
        · rw [List.mem_singleton.mp z]; exact ⟨hvx, hx⟩
    · rcases List.mem_cons.mp hw with h | h
      · rw [h]; exact ⟨hO.1 7 (by decide), ne 7 0 (by decide) (by decide) (by decide)⟩
      · rw [List.mem_singleton.mp h]; exact ⟨hO.1 9 (by decide), ne 9 0 (by decide) (by decide) (by decide)⟩
    · rw [o3 (W 0) (n35 0 (by decide)) (ne 0 7 (by decide) (by decide) (by decide)) (ne 0 9 (by decide) (by decide) (by decide)), r1 0 (by decide)]
/-- ends are kept of the first so many -/
def EK (g : Nat → Nat) (W : Nat → Nat) (k : Nat) (L : List Nat) (i : Nat → Nat → Int32) : Prop := ∀ x, x < k → x < L.length → EBt g (L.getD x 0) (i (W 0) (L.getD x 0))
theorem y_floop (d : Nat) {n a : Nat} (hV : RV (i, l, rX q, kX K) r g) (hW : WG g) (hQ : FQs W n q K) (hO : WO W) (hN : ∀ k, k < 10 → RNc q r (W k)) (h8 : 8 ^ g 2 ≤ n) :
    ∀ f k L i1 z1 z3 z4 z5, k + f = n → L = bfs g (evb g) true a k → k ≤ L.length → FSt g W n L i1 → EK g W k L i1 → GA r g m (W 0) v i1 l q K → FK RFx [W 0, W 7, W 9] [] [] i i1 l l q q K K →
    ∃ i', am_Ex (d + 6) mForcing_explore 83 [.val (.ref 35), z1, .val (.int (nI k)), z3, z4, z5] [] (i1, l, rX q, kX K) = some (none, (i', l, rX q, kX K)) ∧ FSt g W n (stds g (evb g) true a) i' ∧ EK g W n (stds g (evb g) true a) i' ∧ GA r g m (W 0) v i' l q K ∧ FK RFx [W 0, W 7, W 9] [] [] i i' l l q q K K := by
  obtain ⟨⟨x1, x2, x3⟩, ⟨k7, k8, k9⟩, ⟨l7, l8, l9⟩, hn⟩ := id hQ
  have h2 : g 2 ≤ 4 := hW.2.1
  have h1 : g 1 ≤ 6 := hW.1.2
  have y1 : rX q 35 1 = some (W 7) := x1
  have y3 : rX q 35 3 = some (W 9) := x3
  have ne : ∀ a b, a < 10 → b < 10 → a ≠ b → W a ≠ W b := fun a b ha hb hab z => hab (hO.2 a b ha hb z)
  have hin : ∀ w, w ∈ [W 0, W 7, W 9] → ∃ k, k < 10 ∧ w = W k := fun w hw => by
    simp only [List.mem_cons, List.not_mem_nil, or_false] at hw
    rcases hw with h | h | h
    · exact ⟨0, by decide, h⟩
    · exact ⟨7, by decide, h⟩
    · exact ⟨9, by decide, h⟩
  have hRV : ∀ {i1}, FK RFx [W 0, W 7, W 9] [] [] i i1 l l q q K K → RV (i1, l, rX q, kX K) r g := fun hF => RV_fk hF rfl rfl (fun w hw => by obtain ⟨k, hk, rfl⟩ := hin w hw; exact hN k hk) hV
  have hwid : ∀ {i1 i2}, FK RFx [W 0, W 7, W 9] [] [] i i1 l l q q K K → FK RFx [W 7, W 9] [] [] i1 i2 l l q q K K → FK RFx [W 0, W 7, W 9] [] [] i i2 l l q q K K := fun h1 h2 => FK_tr h1 h2 rfl rfl rfl (fun w hw => Or.inl (List.mem_cons_of_mem _ hw))
  have stop : ∀ k L i1 z1 z3 z4 z5, L = bfs g (evb g) true a k → L.length ≤ k → L.length ≤ n → FSt g W n L i1 → EK g W k L i1 → k ≤ n → am_Ex (d + 6) mForcing_explore 83 [.val (.ref 35), z1, .val (.int (nI k)), z3, z4, z5] [] (i1, l, rX q, kX K) = some (none, (i1, l, rX q, kX K)) ∧ FSt g W n (stds g (evb g) true a) i1 ∧ EK g W n (stds g (evb g) true a) i1 := fun k L i1 z1 z3 z4 z5 hL hl hln hS hE hkn => by
    have hs : stds g (evb g) true a = L := by
      have := bfs_stop (g := g) (m := evb g) (t := true) (a := a) (k := k) (by rw [← hL]; exact hl) (4096 - k)
      rw [show k + (4096 - k) = 4096 by omega] at this
      rw [hL]; exact this
    rw [b_Forcing_explore_83, hS.1.1, decide_eq_true (show nI L.length ≤ nI k from by rw [q_le (by omega) (by omega)]; exact hl), cond_true, b_Forcing_explore_169, hs]
    exact ⟨rfl, hS, fun x _ hx => hE x (by omega) hx⟩
  intro f
  induction f with
  | zero =>
    intro k L i1 z1 z3 z4 z5 hk hL hkL hS hE hG hF
    obtain ⟨e, hS', hE'⟩ := stop k L i1 z1 z3 z4 z5 hL (by have := hS.1.2; omega) hS.1.2 hS hE (by omega)
    exact ⟨i1, e, hS', hE', hG, hF⟩
  | succ f ih =>
    intro k L i1 z1 z3 z4 z5 hk hL hkL hS hE hG hF
    by_cases cl : L.length ≤ k
    · obtain ⟨e, hS', hE'⟩ := stop k L i1 z1 z3 z4 z5 hL cl hS.1.2 hS hE (by omega)
      exact ⟨i1, e, hS', hE', hG, hF⟩
    · have hkl : k < L.length := by omega
      obtain ⟨s, hs⟩ : ∃ s, L.getD k 0 = s := ⟨_, rfl⟩
      have hsL : s ∈ L := mem_getD.mpr ⟨k, hkl, hs⟩
      obtain ⟨hvs, hs4⟩ := hS.2.2.2.2.2 s hsL
      have hsn : s < n := Nat.lt_of_lt_of_le (VS_lt h2 hs4 hvs) h8
      obtain ⟨i2, b, e2, hEb, hie, hek, hfr2, hG2⟩ := y_endsOf (i := i1) (l := l) (q := q) (K := K) (d + 1) (hRV hF) hW (hN 0 (by decide)) hG hs4 hvs
      have r2w : ∀ a, a < 10 → a ≠ 0 → i2 (W a) = i1 (W a) := fun a ha h0 => hfr2 (W a) (wd_no (hO.1 a ha) rfl) (ne a 0 ha (by decide) h0)
      have r235 : i2 35 = i1 35 := hfr2 35 rfl (fun z => by
        have := hO.1 0 (by decide)
        unfold WDc at this
        omega)
      have hS2 : FSt g W n L i2 := by
        unfold FSt at hS ⊢
        rw [r235, r2w 7 (by decide) (by decide), r2w 8 (by decide) (by decide), r2w 9 (by decide) (by decide)]; exact hS
      have hE2 : EK g W (k + 1) L i2 := fun x hx hxl => by
        by_cases c : x = k
        · rw [c, hs, hie]; exact hEb
        · have := hE x (by omega) hxl
          rw [hek _ (EBt_ne this)]; exact this
      have hF2 : FK RFx [W 0, W 7, W 9] [] [] i i2 l l q q K K := FK_tr hF (Ri' := [13, 14, 18, 19]) (ws' := [W 0]) (Rl' := []) (Rq' := []) ⟨⟨[], by rw [List.append_nil]⟩, fun c _ => ⟨fun z1 z2 => hfr2 c z1 (fun z => by rw [z] at z2; simp at z2), fun _ _ => rfl, fun _ => rfl⟩⟩ rfl rfl rfl (fun w hw => Or.inl (by rw [List.mem_singleton.mp hw]; simp))
      have ekp : ∀ {M L2 i3 i4}, L2 = L ++ M → i4 (W 0) = i3 (W 0) → EK g W (k + 1) L i3 → EK g W (k + 1) L i4 := fun _ h0 h x hx hxl => by rw [h0]; exact h x hx hxl
      rw [b_Forcing_explore_83, hS.1.1, decide_eq_false (show ¬ nI L.length ≤ nI k from by rw [q_le (by have := hS.1.2; omega) (by omega)]; exact cl), cond_false, y3]
      dsimp only
      rw [bl100 k9, cond_true, decide_eq_false (show ¬ Int32.ofNat (am_ln (i1, l, rX q, kX K) (W 9)) ≤ nI k from by
        rw [show am_ln (i1, l, rX q, kX K) (W 9) = n from l9]
        show ¬ nI n ≤ nI k
        rw [q_le (by omega) (by omega)]; omega), cond_false, in100 k9 l9 hn (show k < n by omega), cond_true, nI_clamp (by omega), hS.2.2.1 k hkl, hs, e2, am_bd_some, q_app, b_Forcing_explore_115]
      have inner : ∀ f2 j L1 i3, j + f2 = 32 → L1 = sweepL g (evb g) s j L → FSt g W n L1 i3 → EK g W (k + 1) L i3 → GA r g m (W 0) v i3 l q K → FK RFx [W 0, W 7, W 9] [] [] i i3 l l q q K K → ∃ i', am_Ex (d + 6) mForcing_explore 120 [.val (.ref 35), z1, .val (.int (nI k)), .val (.int (nI s)), .val (.int b), .val (.int (nI j))] [] (i3, l, rX q, kX K) = some (none, (i', l, rX q, kX K)) ∧ FSt g W n (stds g (evb g) true a) i' ∧ EK g W n (stds g (evb g) true a) i' ∧ GA r g m (W 0) v i' l q K ∧ FK RFx [W 0, W 7, W 9] [] [] i i' l l q q K K := by
        intro f2
        induction f2 with
        | zero =>
          intro j L1 i3 hj hL1 hS3 hE3 hG3 hF3
          have hj : j = 32 := by omega
          subst hj
          have hfl4 := sFl_lt (g := g) (w := g 3) h2 hs4
          obtain ⟨M, hM⟩ := sweepL_pre g (evb g) s 32 L
          have hsL1 : s ∈ L1 := by rw [hL1, hM]; exact List.mem_append.mpr (Or.inl hsL)
          obtain ⟨i4, e4, hS4, hG4, hF4, h04⟩ := y_fvisit (d + 1) (hRV hF3) hW hG3 hQ hO h8 hS3 hfl4 (VS_fl2 h2 hs4 hvs)
          rw [b_Forcing_explore_120, show decide ((32 : Int32) ≤ nI 32) = true from rfl, cond_true, y1]
          dsimp only
          rw [in100 k7 l7 hn hsn, cond_true, nI_clamp (by omega), (hS3.2.2.2.1 s hsn).1 hsL1, e4, am_bd_some, q_app0, b_Forcing_explore_163, show nI k + (1 : Int32) = nI (k + 1) from nI_add k 1]
          have hLn : addL L1 (sFl g (g 3) s) = bfs g (evb g) true a (k + 1) := by
            rw [bfs, stepL, ← hL, show L[k]? = some s from by rw [getD_at hkl, hs]]
            show _ = tideL g true s (sweepL g (evb g) s 32 L)
            rw [tideL, if_pos rfl, hL1]
          obtain ⟨M2, hM2⟩ := addL_pre L1 (sFl g (g 3) s)
          have hpre : addL L1 (sFl g (g 3) s) = L ++ (M ++ M2) := by rw [hM2, hL1, hM, List.append_assoc]
          refine ih (k + 1) (addL L1 (sFl g (g 3) s)) i4 _ _ _ _ (by omega) hLn (by rw [hpre, List.length_append]; omega) hS4 (fun x hx hxl => ?_) hG4 (hwid hF3 hF4)
          have hxL : x < L.length := by omega
          have hgd : (addL L1 (sFl g (g 3) s)).getD x 0 = L.getD x 0 := by
            rw [hpre, List.getD_eq_getElem?_getD, List.getElem?_append_left hxL, ← List.getD_eq_getElem?_getD]
          rw [hgd, h04]; exact hE3 x hx hxL
        | succ f2 ih2 =>
          intro j L1 i3 hj hL1 hS3 hE3 hG3 hF3
          have hj32 : j < 32 := by omega
          have hh := s_X_hasBit (d + 5) b (k := j) hj32 (i3, l, rX q, kX K)
          rw [hEb j hj32, avl_15 h2] at hh
          rw [b_Forcing_explore_120, decide_eq_false (show ¬ (32 : Int32) ≤ nI j from by
            show ¬ nI 32 ≤ nI j
            rw [q_le (by omega) (by omega)]; omega), cond_false, hh, am_bd_some, q_app, b_Forcing_explore_134]
          cases hav : avl g (evb g) s j with
          | false =>
            rw [if_neg (by decide), show decide (nI 0 = (0 : Int32)) = true from rfl, cond_true, b_Forcing_explore_147, show nI j + (1 : Int32) = nI (j + 1) from nI_add j 1]
            exact ih2 (j + 1) L1 i3 (by omega) (by rw [sweepL, hav, hL1]; rfl) hS3 hE3 hG3 hF3
          | true =>
            obtain ⟨hvt, ht4⟩ := VS_go h2 h1 hs4 hvs hav
            obtain ⟨i4, e4, hS4, hG4, hF4, h04⟩ := y_fvisit (d + 1) (hRV hF3) hW hG3 hQ hO h8 hS3 ht4 hvt
            rw [if_pos rfl, show decide (nI 1 = (0 : Int32)) = false from rfl, cond_false, s_Goings_gone (d + 4) hs4 hj32, am_bd_some]
            show ∃ i', am_Ex _ _ _ _ [.int (nI (tgt s j)), .ref 35] _ = _ ∧ _
            rw [b_Forcing_explore_144, e4, am_bd_some, q_app0, b_Forcing_explore_147, show nI j + (1 : Int32) = nI (j + 1) from nI_add j 1]
            exact ih2 (j + 1) (addL L1 (tgt s j)) i4 (by omega) (by rw [sweepL, if_pos hav, hL1]) hS4 (fun x hx hxl => by rw [h04]; exact hE3 x hx hxl) hG4 (hwid hF3 hF4)
      exact inner 32 0 L i2 (by omega) rfl hS2 hE2 hG2 hF2
end
