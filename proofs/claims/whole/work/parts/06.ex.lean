/-! RUNS of the abstract machine, by fuel; their limit am_Ex, which has no fuel; its equation. -/
def am_st (y pc : Nat) (ls : List Slot) (st : List Value) (s : aM) : Option aS := match am_pg y pc with
  | some e => am_go e ls st s
  | none => none
def am_en (z : Nat) (a : List Value) : List Slot := lg_sl a ++ List.replicate (am_ml z - (lg_sl a).length) Slot.unset
def am_ex : Nat → Nat → Nat → Nat → List Slot → List Value → aM → Option aR
  | 0, _, _, _, _, _, _ => none
  | n + 1, d, y, pc, ls, st, s => am_F (am_ex n d y) (am_ex n d y) (fun z a s => match d with
    | 0 => none
    | d + 1 => cond (Nat.ble (lg_sl a).length (am_ml z)) (am_ex n d z 0 (am_en z a) [] s) none) (am_st y pc ls st s)
theorem am_sw_mono {nx nx' : Nat → Option aR} {r : aR} (h : ∀ t, nx t = some r → nx' t = some r) (x : Int32) (d : Nat) : ∀ ps, am_sw nx x d ps = some r → am_sw nx' x d ps = some r
  | [], q => h _ q
  | p :: ps, q => by
    unfold am_sw at q ⊢
    cases hc : decide (x = Int32.ofInt p.1) with
    | true => rw [hc] at q; exact h _ q
    | false => rw [hc] at q; exact am_sw_mono h x d ps q
theorem am_F_mono {nx nx' nc nc' : Nat → List Slot → List Value → aM → Option aR} {cl cl' : Nat → List Value → aM → Option aR} {r : aR}
    (h1 : ∀ pc ls st s, nx pc ls st s = some r → nx' pc ls st s = some r) (h2 : ∀ pc ls st s, nc pc ls st s = some r → nc' pc ls st s = some r)
    (h3 : ∀ z a s q, cl z a s = some q → cl' z a s = some q) (o : Option aS) (h : am_F nx nc cl o = some r) : am_F nx' nc' cl' o = some r := by
  rcases o with _ | ⟨b, pc, ls, st, s⟩ | ⟨g, b, p1, p2, ls, st, s⟩ | ⟨x, ps, d, ls, st, s⟩ | ⟨b, o, pc, ls, st, s⟩ | ⟨b, z, a, pc, ls, st, s⟩ | ⟨b, q⟩
  · exact h
  · cases b with
    | true => exact h1 _ _ _ _ h
    | false => exact h
  · cases g with
    | true => cases b with
      | true => exact h1 _ _ _ _ h
      | false => exact h1 _ _ _ _ h
    | false => exact h
  · exact am_sw_mono (fun t q => h1 _ _ _ _ q) x d ps h
  · cases b with
    | true => cases o with
      | none => exact h1 _ _ _ _ h
      | some q => exact h1 _ _ _ _ h
    | false => exact h
  · cases b with
    | true =>
      have h : am_bd (cl z a s) (fun v s' => nc pc ls (v.toList ++ st) s') = some r := h
      show am_bd (cl' z a s) (fun v s' => nc' pc ls (v.toList ++ st) s') = some r
      cases hc : cl z a s with
      | none => rw [hc] at h; exact absurd h (by intro q; cases q)
      | some q =>
        rw [h3 _ _ _ _ hc]
        rw [hc] at h
        exact h2 _ _ _ _ h
    | false => exact h
  · exact h
theorem am_ex_succ : ∀ (n d y pc : Nat) (ls : List Slot) (st : List Value) (s : aM) (r : aR), am_ex n d y pc ls st s = some r → am_ex (n + 1) d y pc ls st s = some r
  | 0, _, _, _, _, _, _, _, h => by cases h
  | n + 1, d, y, pc, ls, st, s, r, h => by
    unfold am_ex at h ⊢
    refine am_F_mono (fun pc ls st s q => am_ex_succ n d y pc ls st s _ q) (fun pc ls st s q => am_ex_succ n d y pc ls st s _ q) (fun z a s q hq => ?_) _ h
    cases d with
    | zero => exact hq
    | succ d =>
      dsimp only at hq ⊢
      cases hb : Nat.ble (lg_sl a).length (am_ml z) with
      | true => rw [hb] at hq; exact am_ex_succ n d z 0 _ _ s _ hq
      | false => rw [hb] at hq; exact hq
theorem am_ex_le {n m d y pc : Nat} {ls : List Slot} {st : List Value} {s : aM} {r : aR} (h : n ≤ m) (q : am_ex n d y pc ls st s = some r) : am_ex m d y pc ls st s = some r := by
  induction h with
  | refl => exact q
  | step _ ih => exact am_ex_succ _ _ _ _ _ _ _ _ ih
theorem am_ex_det {n m d y pc : Nat} {ls : List Slot} {st : List Value} {s : aM} {r r' : aR} (q : am_ex n d y pc ls st s = some r) (q' : am_ex m d y pc ls st s = some r') : r = r' := by
  have h1 := am_ex_le (Nat.le_max_left n m) q
  have h2 := am_ex_le (Nat.le_max_right n m) q'
  exact Option.some.inj (h1.symm.trans h2)
/-- what a run comes to, if it does, for some fuel -/
noncomputable def am_Ex (d y pc : Nat) (ls : List Slot) (st : List Value) (s : aM) : Option aR :=
  @dite _ (∃ r : aR, ∃ n, am_ex n d y pc ls st s = some r) (Classical.propDecidable _) (fun h => some (Classical.choose h)) (fun _ => none)
theorem am_Ex_iff {d y pc : Nat} {ls : List Slot} {st : List Value} {s : aM} {r : aR} : am_Ex d y pc ls st s = some r ↔ ∃ n, am_ex n d y pc ls st s = some r := by
  unfold am_Ex
  by_cases h : ∃ r : aR, ∃ n, am_ex n d y pc ls st s = some r
  · rw [dif_pos h]
    constructor
    · intro q
      obtain ⟨n, hn⟩ := Classical.choose_spec h
      exact ⟨n, by rw [hn]; exact q⟩
    · intro ⟨n, hn⟩
      obtain ⟨m, hm⟩ := Classical.choose_spec h
      rw [am_ex_det hm hn]
  · rw [dif_neg h]
    constructor
    · intro q; cases q
    · intro ⟨n, hn⟩; exact absurd ⟨r, n, hn⟩ h
noncomputable def am_cl (d z : Nat) (a : List Value) (s : aM) : Option aR := match d with
  | 0 => none
  | d + 1 => cond (Nat.ble (lg_sl a).length (am_ml z)) (am_Ex d z 0 (am_en z a) [] s) none
def am_cn (n d z : Nat) (a : List Value) (s : aM) : Option aR := match d with
  | 0 => none
  | d + 1 => cond (Nat.ble (lg_sl a).length (am_ml z)) (am_ex n d z 0 (am_en z a) [] s) none
theorem am_ex_un (n d y pc : Nat) (ls : List Slot) (st : List Value) (s : aM) : am_ex (n + 1) d y pc ls st s = am_F (am_ex n d y) (am_ex n d y) (am_cn n d) (am_st y pc ls st s) := rfl
theorem am_sw_cont {nx : Nat → Option aR} {f : Nat → Nat → Option aR} {r : aR} (h : ∀ t, nx t = some r → ∃ n, f n t = some r) (x : Int32) (d : Nat) : ∀ ps, am_sw nx x d ps = some r → ∃ n, am_sw (f n) x d ps = some r
  | [], q => h _ q
  | p :: ps, q => by
    unfold am_sw at q
    cases hc : decide (x = Int32.ofInt p.1) with
    | true =>
      rw [hc] at q
      obtain ⟨n, hn⟩ := h _ q
      exact ⟨n, by unfold am_sw; rw [hc]; exact hn⟩
    | false =>
      rw [hc] at q
      obtain ⟨n, hn⟩ := am_sw_cont h x d ps q
      exact ⟨n, by unfold am_sw; rw [hc]; exact hn⟩
theorem am_Ex_eq (d y pc : Nat) (ls : List Slot) (st : List Value) (s : aM) : am_Ex d y pc ls st s = am_F (am_Ex d y) (am_Ex d y) (am_cl d) (am_st y pc ls st s) := by
  have key : ∀ r, am_Ex d y pc ls st s = some r ↔ am_F (am_Ex d y) (am_Ex d y) (am_cl d) (am_st y pc ls st s) = some r := by
    intro r
    constructor
    · intro h
      obtain ⟨n, hn⟩ := am_Ex_iff.mp h
      cases n with
      | zero => cases hn
      | succ n =>
        unfold am_ex at hn
        refine am_F_mono (fun pc ls st s q => am_Ex_iff.mpr ⟨n, q⟩) (fun pc ls st s q => am_Ex_iff.mpr ⟨n, q⟩) (fun z a s q hq => ?_) _ hn
        cases d with
        | zero => exact hq
        | succ d =>
          unfold am_cl
          dsimp only at hq ⊢
          cases hb : Nat.ble (lg_sl a).length (am_ml z) with
          | true => rw [hb] at hq; exact am_Ex_iff.mpr ⟨n, hq⟩
          | false => rw [hb] at hq; exact hq
    · intro h
      refine am_Ex_iff.mpr ?_
      suffices H : ∃ n, am_F (am_ex n d y) (am_ex n d y) (am_cn n d) (am_st y pc ls st s) = some r by
        obtain ⟨n, hn⟩ := H
        exact ⟨n + 1, (am_ex_un n d y pc ls st s).trans hn⟩
      generalize am_st y pc ls st s = o at h
      rcases o with _ | ⟨b, pc, ls, st, s⟩ | ⟨g, b, p1, p2, ls, st, s⟩ | ⟨x, ps, k, ls, st, s⟩ | ⟨b, o, pc, ls, st, s⟩ | ⟨b, z, a, pc, ls, st, s⟩ | ⟨b, q⟩
      · cases h
      · cases b with
        | true => exact am_Ex_iff.mp h
        | false => cases h
      · cases g with
        | true => cases b with
          | true => exact am_Ex_iff.mp h
          | false => exact am_Ex_iff.mp h
        | false => cases h
      · exact am_sw_cont (f := fun n t => am_ex n d y t ls st s) (fun t q => am_Ex_iff.mp q) x k ps h
      · cases b with
        | true => cases o with
          | none => exact am_Ex_iff.mp h
          | some q => exact am_Ex_iff.mp h
        | false => cases h
      · cases b with
        | true =>
          have h : am_bd (am_cl d z a s) (fun v s' => am_Ex d y pc ls (v.toList ++ st) s') = some r := h
          cases hc : am_cl d z a s with
          | none => rw [hc] at h; cases h
          | some q =>
            rw [hc] at h
            obtain ⟨n1, hn1⟩ := am_Ex_iff.mp h
            cases d with
            | zero => cases hc
            | succ d =>
              unfold am_cl at hc
              dsimp only at hc
              cases hb : Nat.ble (lg_sl a).length (am_ml z) with
              | false => rw [hb] at hc; cases hc
              | true =>
                rw [hb] at hc
                obtain ⟨n2, hn2⟩ := am_Ex_iff.mp hc
                refine ⟨max n1 n2, ?_⟩
                have e1 : am_cn (max n1 n2) (d + 1) z a s = some q := by
                  show cond (Nat.ble (lg_sl a).length (am_ml z)) (am_ex (max n1 n2) d z 0 (am_en z a) [] s) none = some q
                  rw [hb]
                  exact am_ex_le (Nat.le_max_right n1 n2) hn2
                show am_bd (am_cn (max n1 n2) (d + 1) z a s) (fun v s' => am_ex (max n1 n2) (d + 1) y pc ls (v.toList ++ st) s') = some r
                rw [e1]
                exact am_ex_le (Nat.le_max_left n1 n2) hn1
        | false => cases h
      · cases b with
        | true => exact ⟨0, h⟩
        | false => cases h
  cases h : am_Ex d y pc ls st s with
  | some r => exact ((key r).mp h).symm
  | none =>
    cases h2 : am_F (am_Ex d y) (am_Ex d y) (am_cl d) (am_st y pc ls st s) with
    | none => rfl
    | some r => rw [(key r).mpr h2] at h; cases h
/-- some steps at once, till a pc among 'stops' -/
noncomputable def am_bk (d y : Nat) (stops : List Nat) : Nat → Nat → List Slot → List Value → aM → Option aR
  | 0, pc, ls, st, s => am_Ex d y pc ls st s
  | k + 1, pc, ls, st, s => am_F (fun pc ls st s => cond (stops.elem pc) (am_Ex d y pc ls st s) (am_bk d y stops k pc ls st s)) (am_Ex d y) (am_cl d) (am_st y pc ls st s)
theorem am_bk_eq (d y : Nat) (stops : List Nat) : ∀ (k pc : Nat) (ls : List Slot) (st : List Value) (s : aM), am_Ex d y pc ls st s = am_bk d y stops k pc ls st s
  | 0, _, _, _, _ => rfl
  | k + 1, pc, ls, st, s => by
    rw [am_Ex_eq]
    unfold am_bk
    congr 1
    funext pc ls st s
    cases stops.elem pc with
    | true => rfl
    | false => exact am_bk_eq d y stops k pc ls st s
