/-! cells are only added -/
def am_mem : aS → aM
  | .inl (_, _, _, _, s) => s
  | .inr (.inl (_, _, _, _, _, _, s)) => s
  | .inr (.inr (.inl (_, _, _, _, _, s))) => s
  | .inr (.inr (.inr (.inl (_, _, _, _, _, s)))) => s
  | .inr (.inr (.inr (.inr (.inl (_, _, _, _, _, _, s))))) => s
  | .inr (.inr (.inr (.inr (.inr (_, _, s))))) => s
def am_gr (s : aM) (o : Option aS) : Prop := ∀ x, o = some x → ∃ K2, (am_mem x).2.2.2 = s.2.2.2 ++ K2
theorem am_gr0 {s s2 : aM} {x : aS} (h : (am_mem x) = s2) (hk : s2.2.2.2 = s.2.2.2) : am_gr s (some x) := fun z hz => ⟨[], by cases hz; rw [h, hk, List.append_nil]⟩
theorem am_grN {s : aM} : am_gr s none := fun z hz => by cases hz
theorem am_grA {s s2 : aM} {x : aS} {k : Nat × Nat} (h : (am_mem x) = s2) (hk : s2.2.2.2 = s.2.2.2 ++ [k]) : am_gr s (some x) := fun z hz => ⟨[k], by cases hz; rw [h, hk]⟩
theorem am_gr_intr (c np : Nat) (ls : List Slot) (st : List Value) (s : aM) : am_gr s (am_intr c np ls st s) := by
  unfold am_intr
  split <;> first | exact am_gr0 rfl rfl | exact am_grN | (unfold am_copy; split <;> first | exact am_gr0 rfl rfl | exact am_grN)
theorem am_gr_inv (np z n c : Nat) (ls : List Slot) (st : List Value) (s : aM) : am_gr s (am_inv np z n c ls st s) := by
  unfold am_inv
  cases Nat.beq c 0 with
  | true => exact am_gr0 rfl rfl
  | false =>
    cases Nat.ble 1000 c with
    | true =>
      show am_gr s (match st.drop (n - 1) with
        | .ref r :: rest => _
        | _ => none)
      split <;> first | exact am_gr0 rfl rfl | exact am_grN
    | false => exact am_gr_intr c np ls st s
set_option maxHeartbeats 4000000 in
theorem am_go_gr (e : aI) (ls : List Slot) (st : List Value) (s : aM) : am_gr s (am_go e ls st s) := by
  obtain ⟨i, np, a, b, c, j, k, q⟩ := e
  cases i
  case invokestatic => exact am_gr_inv _ _ _ _ _ _ _
  case invokevirtual => exact am_gr_inv _ _ _ _ _ _ _
  case invokespecial => exact am_gr_inv _ _ _ _ _ _ _
  case ldc => unfold am_go; dsimp only; cases Nat.beq c 0 <;> exact am_gr0 rfl rfl
  case if_acmp f _ => cases f <;> (unfold am_go am_ac; dsimp only; split <;> first | exact am_grN | exact am_gr0 rfl rfl)
  all_goals (unfold am_go; dsimp only)
  all_goals first
    | exact am_grN
    | exact am_gr0 rfl rfl
    | exact am_grA rfl rfl
    | (unfold am_load; split <;> first | exact am_gr0 rfl rfl | exact am_grN)
    | (unfold am_store; split <;> first | exact am_gr0 rfl rfl | exact am_grN)
    | (unfold am_ii; split <;> first | exact am_gr0 rfl rfl | exact am_grN)
    | (unfold am_dd; split <;> first | exact am_gr0 rfl rfl | exact am_grN)
    | (unfold am_ll; split <;> first | exact am_gr0 rfl rfl | exact am_grN)
    | (unfold am_le; split <;> first | exact am_gr0 rfl rfl | exact am_grN)
    | (unfold am_li; split <;> first | exact am_gr0 rfl rfl | exact am_grN)
    | (unfold am_i1; split <;> first | exact am_gr0 rfl rfl | exact am_grN)
    | (unfold am_ic; split <;> first | exact am_gr0 rfl rfl | exact am_grN)
    | (unfold am_iz; split <;> first | exact am_gr0 rfl rfl | exact am_grN)
    | (unfold am_nn; split <;> first | exact am_gr0 rfl rfl | exact am_grN)
    | (unfold am_get; split <;> first | exact am_grN | (split <;> exact am_gr0 rfl rfl))
    | (unfold am_put; split <;> first | exact am_gr0 rfl rfl | exact am_grN)
    | (unfold am_iald; split <;> first | exact am_gr0 rfl rfl | exact am_grN)
    | (unfold am_lald; split <;> first | exact am_gr0 rfl rfl | exact am_grN)
    | (unfold am_bald; split <;> first | exact am_gr0 rfl rfl | exact am_grN)
    | (unfold am_aald; split <;> first | exact am_gr0 rfl rfl | exact am_grN)
    | (unfold am_iast; split <;> first | exact am_gr0 rfl rfl | exact am_grN)
    | (unfold am_last; split <;> first | exact am_gr0 rfl rfl | exact am_grN)
    | (unfold am_bast; split <;> first | exact am_gr0 rfl rfl | exact am_grN)
    | (unfold am_aast; split <;> first | exact am_gr0 rfl rfl | exact am_grN)
    | (unfold am_alen; split <;> first | exact am_gr0 rfl rfl | exact am_grN)
    | (unfold am_newa; split <;> first | exact am_grA rfl rfl | exact am_grN)
    | (unfold am_dup; split <;> first | exact am_gr0 rfl rfl | exact am_grN)
    | (unfold am_dup2; split <;> first | exact am_gr0 rfl rfl | exact am_grN)
    | (unfold am_pop; split <;> first | exact am_gr0 rfl rfl | exact am_grN)
    | (unfold am_iinc; split <;> first | exact am_gr0 rfl rfl | exact am_grN)
    | (split <;> first | exact am_gr0 rfl rfl | exact am_grN)
theorem am_sw_ex {f : Nat → Option aR} {x : Int32} {k : Nat} {r : aR} : ∀ ps, am_sw f x k ps = some r → ∃ t, f t = some r
  | [], h => ⟨_, h⟩
  | p :: ps, h => by
    unfold am_sw at h
    cases hc : decide (x = Int32.ofInt p.1) with
    | true => rw [hc] at h; exact ⟨_, h⟩
    | false => rw [hc] at h; exact am_sw_ex ps h
theorem am_ex_gr : ∀ (n d y pc : Nat) (ls : List Slot) (st : List Value) (s : aM) (v : Option Value) (s' : aM), am_ex n d y pc ls st s = some (v, s') → ∃ K2, s'.2.2.2 = s.2.2.2 ++ K2
  | 0, _, _, _, _, _, _, _, _, h => by cases h
  | n + 1, d, y, pc, ls, st, s, v, s', h => by
    rw [am_ex_un] at h
    have hg : am_gr s (am_st y pc ls st s) := by
      unfold am_st
      split
      · exact am_go_gr _ _ _ _
      · exact am_grN
    generalize am_st y pc ls st s = o at h hg
    have tr : ∀ {K1 K2 K3 : List (Nat × Nat)}, (∃ L, K2 = K1 ++ L) → (∃ L, K3 = K2 ++ L) → ∃ L, K3 = K1 ++ L := by
      rintro _ _ _ ⟨a, rfl⟩ ⟨b, rfl⟩
      exact ⟨a ++ b, List.append_assoc _ _ _⟩
    rcases o with _ | ⟨b, pc, ls, st, s1⟩ | ⟨g, b, p1, p2, ls, st, s1⟩ | ⟨x, ps, k, ls, st, s1⟩ | ⟨b, o, pc, ls, st, s1⟩ | ⟨b, z, a, pc, ls, st, s1⟩ | ⟨b, q⟩
    · cases h
    · cases b with
      | true => exact tr (hg _ rfl) (am_ex_gr n _ _ _ _ _ _ _ _ h)
      | false => cases h
    · cases g with
      | true => cases b with
        | true => exact tr (hg _ rfl) (am_ex_gr n _ _ _ _ _ _ _ _ h)
        | false => exact tr (hg _ rfl) (am_ex_gr n _ _ _ _ _ _ _ _ h)
      | false => cases h
    · obtain ⟨t, ht⟩ := am_sw_ex (f := fun t => am_ex n d y t ls st s1) ps h
      exact tr (hg _ rfl) (am_ex_gr n _ _ _ _ _ _ _ _ ht)
    · cases b with
      | true => cases o with
        | none => exact tr (hg _ rfl) (am_ex_gr n _ _ _ _ _ _ _ _ h)
        | some q => exact tr (hg _ rfl) (am_ex_gr n _ _ _ _ _ _ _ _ h)
      | false => cases h
    · cases b with
      | true =>
        have h : am_bd (am_cn n d z a s1) (fun v s' => am_ex n d y pc ls (v.toList ++ st) s') = some (v, s') := h
        cases hc : am_cn n d z a s1 with
        | none => rw [hc] at h; cases h
        | some q =>
          rw [hc] at h
          obtain ⟨v1, s2⟩ := q
          cases d with
          | zero => cases hc
          | succ d =>
            have hc : cond (Nat.ble (lg_sl a).length (am_ml z)) (am_ex n d z 0 (am_en z a) [] s1) none = some (v1, s2) := hc
            cases hb : Nat.ble (lg_sl a).length (am_ml z) with
            | false => rw [hb] at hc; cases hc
            | true =>
              rw [hb] at hc
              exact tr (hg _ rfl) (tr (am_ex_gr n _ _ _ _ _ _ _ _ hc) (am_ex_gr n _ _ _ _ _ _ _ _ h))
      | false => cases h
    · cases b with
      | true =>
        cases h
        exact hg _ rfl
      | false => cases h
