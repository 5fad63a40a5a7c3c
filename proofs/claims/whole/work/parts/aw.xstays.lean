/-! THE CLASS: what stays from call to call -/
section
variable {i i' : Nat → Nat → Int32} {l l' : Nat → Nat → Int64} {q q' : Nat → Nat → Option Nat} {K K' : List (Nat × Nat)} {r m v v' n : Nat} {ρ : Nat → Nat → Nat} {W W' : Nat → Nat} {σ : St}
/-- the images' rivers are none of the cells of work -/
def RI (W : Nat → Nat) (q : Nat → Nat → Option Nat) : Prop := ∀ x r', x < 2 → q 48 x = some r' → ∀ k, k < 10 → RNc q r' (W k)
/-- how much there is after n calls -/
def ZS (n : Nat) (q : Nat → Nat → Option Nat) (K : List (Nat × Nat)) : Prop := am_sz K ≤ 1817 * n + PHI q K ∧ K.length ≤ 905 * n + PHI q K
theorem ZS_gw (h : GW q q' K K') (hZ : ZS n q K) : ZS n q' K' := by
  unfold GW at h
  unfold ZS at hZ ⊢
  omega
theorem ZS_mo {n' : Nat} (h : n ≤ n') (hZ : ZS n q K) : ZS n' q K := by
  unfold ZS at hZ ⊢
  omega
theorem nc_wd {ws : List Nat} (hw : ∀ w, w ∈ ws → WDc w) {c : Nat} (hc : ¬ WDc c) : ws.contains c = false := nc_of (fun w h z => hc (by rw [← z]; exact hw w h))
theorem IM_river {x r' : Nat} (hx : x < 2) (hM : IM ρ σ i l q K) (hq : q 48 x = some r') : RV (i, l, rX q, kX K) r' (gIm σ.1 x) := by
  obtain ⟨a, b⟩ := hM x hx
  cases hb : σ.2.1 x with
  | false => rw [a hb] at hq; cases hq
  | true =>
    obtain ⟨r, m, h1, h2, _⟩ := b hb
    rw [h1] at hq
    injection hq with hq
    rw [← hq]; exact h2
theorem IM_fk {Ri ws Rl Rq : List Nat} {ρ' : Nat → Nat → Nat} (h : FK Ri ws Rl Rq i i' l l' q q' K K') (hR : (Ri.all fun x => Nat.blt x 58 && !(x == 7 || x == 8 || x == 9)) = true) (hRq : (Rq.all fun x => Nat.blt x 58 && !(x == 7 || x == 8 || x == 9)) = true) (h48 : Rq.contains 48 = false) (h49 : Rl.contains 49 = false) (hw : ∀ w, w ∈ ws → WDc w) (hN : ∀ x r', x < 2 → q 48 x = some r' → ∀ w, w ∈ ws → RNc q r' w) (hρ : ∀ c, c < 58 + K.length → ρ' c = ρ c) (hM : IM ρ σ i l q K) : IM ρ' σ i' l' q' K' := by
  intro x hx
  have hq : q' 48 x = q 48 x := by rw [(h.2 48 (by omega)).2.2 h48]
  have hl : l' 49 x = l 49 x := by rw [(h.2 49 (by omega)).2.1 h49 (nc_wd hw (by unfold WDc; omega))]
  obtain ⟨a, b⟩ := hM x hx
  refine ⟨fun z => by rw [hq]; exact a z, fun z => ?_⟩
  obtain ⟨r, m, h1, h2, h3, h4, h5⟩ := b z
  have hrl : r < 58 + K.length := by have := kd_lt h2.2.1 (by decide); rw [kX_len] at this; exact this
  exact ⟨r, m, by rw [hq]; exact h1, RV_fk h hR hRq (hN x r hx h1) h2, by rw [hρ r hrl]; exact h3, by rw [hl]; exact h4, h5⟩
theorem RI_fk {Ri ws Rl Rq : List Nat} (h : FK Ri ws Rl Rq i i' l l' q q' K K') (hRq : (Rq.all fun x => Nat.blt x 58 && !(x == 7 || x == 8 || x == 9)) = true) (h48 : Rq.contains 48 = false) (hM : IM ρ σ i l q K) (hI : RI W q) (hQ : MQx K W W') : RI W' q' := by
  intro x r' hx hq k hk
  have hq0 : q 48 x = some r' := by rw [← (h.2 48 (by omega)).2.2 h48]; exact hq
  have hV := IM_river hx hM hq0
  rcases hQ k hk with ⟨j, hj, e⟩ | e
  · rw [e]; exact RNc_fk h hRq hV (hI x r' hx hq0 j hj)
  · exact RNc_fk h hRq hV (RNc_new hV e)
theorem RN_fk {Ri ws Rl Rq : List Nat} {g : Nat → Nat} (h : FK Ri ws Rl Rq i i' l l' q q' K K') (hRq : (Rq.all fun x => Nat.blt x 58 && !(x == 7 || x == 8 || x == 9)) = true) (hV : RV (i, l, rX q, kX K) r g) (hI : ∀ k, k < 10 → RNc q r (W k)) (hQ : MQx K W W') : ∀ k, k < 10 → RNc q' r (W' k) := by
  intro k hk
  rcases hQ k hk with ⟨j, hj, e⟩ | e
  · rw [e]; exact RNc_fk h hRq hV (hI j hj)
  · exact RNc_fk h hRq hV (RNc_new hV e)
theorem PH_fk {Ri ws Rl Rq : List Nat} {g : Nat → Nat} (h : FK Ri ws Rl Rq i i' l l' q q' K K') (h0 : Ri.contains 0 = false) (h10 : Rl.contains 10 = false) (hw : ∀ w, w ∈ ws → WDc w) (hP : PH g i l) : PH g i' l' := by
  unfold PH at hP ⊢
  rw [(h.2 0 (by omega)).1 h0 (nc_wd hw (by unfold WDc; omega)), (h.2 10 (by omega)).2.1 h10 (nc_wd hw (by unfold WDc; omega))]
  exact hP
theorem TY_fk {Ri ws Rl Rq : List Nat} (h : FK Ri ws Rl Rq i i' l l' q q' K K') (h0 : (Ri.all fun x => Nat.blt x 50 || Nat.blt 57 x) = true) (h1 : (Rl.all fun x => Nat.blt x 50 || Nat.blt 57 x) = true) (hw : ∀ w, w ∈ ws → WDc w) (hY : TY σ i l) : TY σ i' l' := by
  have no : ∀ R : List Nat, (R.all fun x => Nat.blt x 50 || Nat.blt 57 x) = true → ∀ c, 50 ≤ c → c < 58 → R.contains c = false := fun R hR c h50 h58 => by
    cases hc : R.contains c with
    | false => rfl
    | true =>
      exfalso
      have hm : c ∈ R := by simpa using hc
      have := List.all_eq_true.mp hR c hm
      rw [Bool.or_eq_true] at this
      rcases this with z | z
      · have := Nat.le_of_ble_eq_true z; omega
      · have := Nat.le_of_ble_eq_true z; omega
  intro t ht
  have e1 : i' (50 + 2 * t) = i (50 + 2 * t) := (h.2 _ (by omega)).1 (no Ri h0 _ (by omega) (by omega)) (nc_wd hw (by unfold WDc; omega))
  have e2 : l' (51 + 2 * t) = l (51 + 2 * t) := (h.2 _ (by omega)).2.1 (no Rl h1 _ (by omega) (by omega)) (nc_wd hw (by unfold WDc; omega))
  have := hY t ht
  unfold TF at this ⊢
  rw [e1, e2]
  exact this
theorem TB_fk {Ri ws Rl Rq : List Nat} (h : FK Ri ws Rl Rq i i' l l' q q' K K') (h1 : Ri.contains 1 = false) (h2 : Ri.contains 2 = false) (h5 : Ri.contains 5 = false) (hw : ∀ w, w ∈ ws → WDc w) (hB : TB σ i) : TB σ i' := by
  unfold TB at hB ⊢
  rw [(h.2 1 (by omega)).1 h1 (nc_wd hw (by unfold WDc; omega)), (h.2 2 (by omega)).1 h2 (nc_wd hw (by unfold WDc; omega)), (h.2 5 (by omega)).1 h5 (nc_wd hw (by unfold WDc; omega))]
  exact hB
theorem i5_fk {Ri ws Rl Rq : List Nat} (h : FK Ri ws Rl Rq i i' l l' q q' K K') (h5 : Ri.contains 5 = false) (hw : ∀ w, w ∈ ws → WDc w) (hB : ∃ c, c ≤ 900 ∧ i 5 8 = nI c) : ∃ c, c ≤ 900 ∧ i' 5 8 = nI c := by
  rw [(h.2 5 (by omega)).1 h5 (nc_wd hw (by unfold WDc; omega))]
  exact hB
/-- rows of work that nobody touched -/
theorem XGs_fk {Ri Rl Rq : List Nat} {ρ' : Nat → Nat → Nat} (h : FK Ri [] Rl Rq i i' l l' q q' K K') (h1 : (Ri.all fun x => !(x == 26 || x == 28 || x == 29 || x == 31 || x == 32 || x == 33 || x == 34 || x == 36 || x == 37 || x == 38) && Nat.blt x 58) = true) (h2 : (Rl.all fun x => !(x == 26 || x == 28 || x == 29 || x == 31 || x == 32 || x == 33 || x == 34 || x == 36 || x == 37 || x == 38) && Nat.blt x 58) = true) (h22 : Ri.contains 22 = false) (h27 : Ri.contains 27 = false) (q22 : Rq.contains 22 = false) (q27 : Rq.contains 27 = false) (q30 : Rq.contains 30 = false) (q35 : Rq.contains 35 = false) (hρ : ∀ c, c < 58 + K.length → ρ' c = ρ c) (hX : XGs ρ W v i l q K) : XGs ρ' W v i' l' q' K' := by
  obtain ⟨⟨gg, hG, nn, hS⟩, hR, hF, hO⟩ := hX
  obtain ⟨rg, g1, g2, g3, g4, ⟨g5, g6, g7⟩, g8⟩ := hG
  have hlt := wkc_lt hR hF ⟨nn, hS.1⟩ g6
  have row : ∀ k, k < 10 → i' (W k) = i (W k) ∧ l' (W k) = l (W k) := fun k hk => ⟨(h.2 _ (hlt k hk)).1 (wd_no (hO.1 k hk) h1) rfl, (h.2 _ (hlt k hk)).2.1 (wd_no (hO.1 k hk) h2) rfl⟩
  have r22 : i' 22 = i 22 := (h.2 22 (by omega)).1 h22 rfl
  have r27 : i' 27 = i 27 := (h.2 27 (by omega)).1 h27 rfl
  have e22 : q' 22 = q 22 := (h.2 22 (by omega)).2.2 q22
  have hrg := kK_lt g2 (by decide)
  refine ⟨⟨gg, ⟨rg, by rw [e22]; exact g1, by rw [(kd_fk h hrg).1]; exact g2, by rw [e22]; exact g3, by rw [r22]; exact g4, ⟨g5, by rw [(kd_fk h (hlt 0 (by decide))).1]; exact g6, by rw [(kd_fk h (hlt 0 (by decide))).2]; exact g7⟩, ?_⟩, nn, SS_fk h q27 r27 (row 1 (by decide)).1 (row 2 (by decide)).1 hS⟩, XRw_fk h q30 (row 4 (by decide)).2 hR, XFo_fk h q35 hF, hO⟩
  rw [r22, (kd_fk h (hlt 0 (by decide))).2, hρ rg hrg]
  rcases g8 with g8 | ⟨mg, a1, a2, a3, a4, a5, a6⟩
  · exact Or.inl g8
  · refine Or.inr ⟨mg, a1, a2, a3, a4, a5, ?_⟩
    unfold GV at a6 ⊢
    rw [(row 0 (by decide)).1]; exact a6
theorem XF_fk {Ri Rl Rq : List Nat} {ρ' : Nat → Nat → Nat} (h : FK Ri [] Rl Rq i i' l l' q q' K K') (h18 : Ri.contains 18 = false) (h19 : Ri.contains 19 = false) (h20 : Ri.contains 20 = false) (h21 : Ri.contains 21 = false) (l11 : Rl.contains 11 = false) (q11 : Rq.contains 11 = false) (hρ : ∀ c, c < 58 + K.length → ρ' c = ρ c) (hX : XF ρ i l q K) : XF ρ' i' l' q' K' := by
  obtain ⟨rf, mf, gf, ⟨f1, f2, f3, f4, f5⟩, f6, f7, f8, f9⟩ := hX
  have hrf : rf < 58 + K.length := kK_lt (n := 6) f6 (by decide)
  refine ⟨rf, mf, gf, ⟨by rw [(h.2 11 (by omega)).2.2 q11]; exact f1, by rw [(h.2 11 (by omega)).2.1 l11 rfl]; exact f2, f3, ?_, ?_⟩, (kd_fk h hrf).1.trans f6, by rw [hρ rf hrf]; exact f7, f8, f9⟩
  · unfold TV at f4 ⊢
    rw [(h.2 18 (by omega)).1 h18 rfl, (h.2 19 (by omega)).1 h19 rfl]; exact f4
  · unfold HV at f5 ⊢
    rw [(h.2 20 (by omega)).1 h20 rfl, (h.2 21 (by omega)).1 h21 rfl]; exact f5
theorem ZS_fk {Ri Rl Rq : List Nat} {a b : Nat} (h : FK Ri [] Rl Rq i i' l l' q q' K K') (q22 : Rq.contains 22 = false) (q27 : Rq.contains 27 = false) (q30 : Rq.contains 30 = false) (q35 : Rq.contains 35 = false) (hX : XGs ρ W v i l q K) (h1 : am_sz K' ≤ am_sz K + 1817) (h2 : K'.length ≤ K.length + 905) (hZ : ZS n q K) : ZS (n + 1) q' K' := by
  have hq := QW_xg hX
  have hq' : QW W q' := by
    unfold QW at hq ⊢
    rw [(h.2 22 (by omega)).2.2 q22, (h.2 27 (by omega)).2.2 q27, (h.2 30 (by omega)).2.2 q30, (h.2 35 (by omega)).2.2 q35]
    exact hq
  obtain ⟨⟨gg, ⟨rg, g1, g2, g3, g4, ⟨g5, g6, g7⟩, g8⟩, nn, hS⟩, hR, hF, hO⟩ := hX
  have hlt := wkc_lt hR hF ⟨nn, hS.1⟩ g6
  have ek : ∀ k, k < 10 → lK K' (W k) = lK K (W k) := fun k hk => (kd_fk h (hlt k hk)).2
  have p1 := PHI_q (K := K) hq
  have p2 := PHI_q (K := K') hq'
  rw [ek 0 (by decide), ek 1 (by decide), ek 2 (by decide), ek 3 (by decide), ek 4 (by decide), ek 5 (by decide), ek 6 (by decide), ek 7 (by decide), ek 8 (by decide), ek 9 (by decide), ← p1] at p2
  unfold ZS at hZ ⊢
  omega
/-- all that holds between calls -/
def XS (n : Nat) (σ : St) (i : Nat → Nat → Int32) (l : Nat → Nat → Int64) (q : Nat → Nat → Option Nat) (K : List (Nat × Nat)) : Prop := ∃ ρ W v r m, CV ρ r σ.1 m i l q K ∧ PH σ.1 i l ∧ IM ρ σ i l q K ∧ TY σ i l ∧ TB σ i ∧ XF ρ i l q K ∧ XGs ρ W v i l q K ∧ (∀ k, k < 10 → RNc q r (W k)) ∧ RI W q ∧ v ≤ n ∧ (∃ c, c ≤ 900 ∧ i 5 8 = nI c) ∧ SI σ ∧ ZS n q K
/-- how a call of the class comes out -/
def XO (n : Nat) (σ' : St) (vv : Value) (o : Option aR) : Prop := ∃ i' l' q' K', o = some (some vv, (i', l', rX q', kX K')) ∧ XS (n + 1) σ' i' l' q' K'
end
