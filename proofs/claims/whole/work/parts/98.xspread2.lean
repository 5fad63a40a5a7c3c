/-! THE CLASS: steps, by sets of places -/
theorem gp_c (a b : Nat) : gp a b = gp b a := by unfold gp; split <;> split <;> omega
def toB (E : Nat) : Nat → Nat
  | 0 => 0
  | k + 1 => toB E k ||| (E * 2 ^ (k + 1) ||| E / 2 ^ (k + 1))
theorem toB_bit (E x : Nat) : ∀ k, (toB E k).testBit x = true ↔ ∃ y, E.testBit y = true ∧ 1 ≤ gp y x ∧ gp y x ≤ k
  | 0 => by
    rw [toB]
    simp only [Nat.zero_testBit, Bool.false_eq_true, false_iff]
    intro ⟨y, _, h1, h2⟩; omega
  | k + 1 => by
    rw [toB, Nat.testBit_or, Nat.testBit_or, Nat.testBit_mul_two_pow, Nat.testBit_div_two_pow, Bool.or_eq_true, Bool.or_eq_true, Bool.and_eq_true, decide_eq_true_eq, toB_bit E x k]
    constructor
    · rintro (⟨y, h1, h2, h3⟩ | ⟨h1, h2⟩ | h1)
      · exact ⟨y, h1, h2, by omega⟩
      · exact ⟨x - (k + 1), h2, by unfold gp; split <;> omega, by unfold gp; split <;> omega⟩
      · exact ⟨_, h1, by unfold gp; split <;> omega, by unfold gp; split <;> omega⟩
    · intro ⟨y, h1, h2, h3⟩
      by_cases e : gp y x ≤ k
      · exact Or.inl ⟨y, h1, h2, e⟩
      · unfold gp at h2 h3 e
        by_cases c : y < x
        · rw [if_pos c] at h2 h3 e
          refine Or.inr (Or.inl ⟨by omega, ?_⟩)
          rw [show x - (k + 1) = y by omega]; exact h1
        · rw [if_neg c] at h2 h3 e
          refine Or.inr (Or.inr ?_)
          have : y = x + (k + 1) := by omega
          rw [this] at h1
          first | exact h1 | (rw [Nat.add_comm]; exact h1)
theorem toB_lt {E : Nat} (hE : E < 256) : ∀ k, k ≤ 9 → toB E k < 131072
  | 0, _ => by rw [toB]; decide
  | k + 1, hk => by
    rw [toB]
    have h1 : 2 ^ (k + 1) ≤ 2 ^ 9 := Nat.pow_le_pow_right (by decide) hk
    have h2 : E * 2 ^ (k + 1) ≤ 255 * 2 ^ 9 := Nat.mul_le_mul (by omega) h1
    have h3 : E / 2 ^ (k + 1) ≤ E := Nat.div_le_self _ _
    exact Nat.or_lt_two_pow (n := 17) (toB_lt hE k (by omega)) (Nat.or_lt_two_pow (by omega) (by omega))
/-- places to which one can go in n looks -/
def sEn (g : Nat → Nat) (a p r n : Nat) : Nat := bs (fun x => decide (x ≠ dg a p) && decide (sD g a p r n x < FARN) && (sWho g a x).isNone) (g 1 + 2)
/-- places from which steps go on -/
def sE (g : Nat → Nat) (a p r n : Nat) : Nat := bs (sX g a (sD g a p r n) n) 8
def sSf (g : Nat → Nat) (a p r n x : Nat) : Bool := decide (sD g a p r n x < FARN) && (decide (x = dg a p) || (sWho g a x).isSome || !sSpot g x)
def sS (g : Nat → Nat) (a p r n : Nat) : Nat := bs (sSf g a p r n) 8
def tE (g : Nat → Nat) (a p r n : Nat) : Nat := toB (sE g a p r n) r &&& ((2 * 2 ^ (g 1 + 1) - 1) &&& (sS g a p r n ^^^ 4294967295))
section
variable {g : Nat → Nat} {a p r n x : Nat}
theorem sE_lt : sE g a p r n < 256 := bs_lt _ 8
theorem sS_lt : sS g a p r n < 256 := bs_lt _ 8
theorem sEn_lt (h1 : g 1 ≤ 6) : sEn g a p r n < 256 := Nat.lt_of_lt_of_le (bs_lt _ _) (Nat.pow_le_pow_right (by decide) (show g 1 + 2 ≤ 8 by omega))
theorem sD_in (hp : dg a p ≤ g 1 + 1) : ∀ n x, sD g a p r n x < FARN → x < g 1 + 2
  | 0, x, h => by
    rw [sD] at h
    by_cases e : x = dg a p
    · omega
    · rw [if_neg e] at h; omega
  | n + 1, x, h => by
    rw [sD] at h
    unfold wD at h
    by_cases c : sD g a p r n x = FARN ∧ x < g 1 + 2 ∧ sTk g a p r (sD g a p r n) n (g 1 + 2) x = true
    · exact c.2.1
    · rw [if_neg c] at h; exact sD_in hp n x h
theorem sD_st : ∀ n, sD g a p r n (dg a p) = 0
  | 0 => by rw [sD, if_pos rfl]
  | n + 1 => by
    rw [sD]
    unfold wD
    rw [sD_st n, if_neg (by intro h; exact absurd h.1 (by decide))]
theorem sD_0 : ∀ {n x : Nat}, sD g a p r n x = 0 → x = dg a p
  | 0, x, h => by
    rw [sD] at h
    by_cases e : x = dg a p
    · exact e
    · rw [if_neg e] at h; cases h
  | n + 1, x, h => by
    rw [sD] at h
    unfold wD at h
    by_cases c : sD g a p r n x = FARN ∧ x < g 1 + 2 ∧ sTk g a p r (sD g a p r n) n (g 1 + 2) x = true
    · rw [if_pos c] at h; omega
    · rw [if_neg c] at h; exact sD_0 h
theorem sD_n (hn : n < 100) : sD g a p r (n + 1) x = n + 1 ↔ (sD g a p r n x = FARN ∧ x < g 1 + 2 ∧ sTk g a p r (sD g a p r n) n (g 1 + 2) x = true) := by
  rw [sD]
  unfold wD
  by_cases c : sD g a p r n x = FARN ∧ x < g 1 + 2 ∧ sTk g a p r (sD g a p r n) n (g 1 + 2) x = true
  · rw [if_pos c]; exact ⟨fun _ => c, fun _ => rfl⟩
  · rw [if_neg c]
    refine ⟨fun h => ?_, fun h => absurd h c⟩
    rcases sD_le g a p r n x with h2 | h2
    · omega
    · unfold FARN at h2; omega
theorem sD_k (hn : n < 100) (h : sD g a p r (n + 1) x ≠ n + 1) : sD g a p r (n + 1) x = sD g a p r n x := by
  rw [sD]
  unfold wD
  rw [if_neg]
  intro c
  exact h ((sD_n hn).mpr c)
theorem sD_keep (h : sD g a p r n x < FARN) : sD g a p r (n + 1) x = sD g a p r n x := by
  rw [sD]
  unfold wD
  rw [if_neg]
  intro c; omega
/-- who is in the edge is seen -/
theorem sE_sS (hn : n < 1000) (h : sX g a (sD g a p r n) n x = true) : sSf g a p r n x = true := by
  unfold sX at h
  unfold sSf
  rw [Bool.and_eq_true, decide_eq_true_eq] at h
  rw [h.1, decide_eq_true (show n < FARN by unfold FARN; omega), Bool.true_and]
  have h2 := h.2
  rw [Bool.or_eq_true, Bool.or_eq_true, decide_eq_true_eq] at h2
  rcases h2 with (h2 | h2) | h2
  · rw [decide_eq_true (sD_0 (h.1.trans h2))]; simp
  · rw [h2]; simp
  · rw [h2]; simp
theorem tE_bit (h1 : g 1 ≤ 6) : (tE g a p r n).testBit x = true ↔ (x < g 1 + 2 ∧ sSf g a p r n x = false ∧ ∃ y, sX g a (sD g a p r n) n y = true ∧ y < 8 ∧ 1 ≤ gp y x ∧ gp y x ≤ r) := by
  unfold tE
  rw [show 2 * 2 ^ (g 1 + 1) = 2 ^ (g 1 + 2) by rw [show g 1 + 2 = (g 1 + 1) + 1 from rfl, Nat.pow_succ 2 (g 1 + 1)]; omega]
  rw [Nat.testBit_and, Nat.testBit_and, Nat.testBit_two_pow_sub_one, Nat.testBit_xor, Bool.and_eq_true, Bool.and_eq_true, decide_eq_true_eq, toB_bit]
  unfold sE sS
  constructor
  · intro ⟨⟨y, y1, y2, y3⟩, hx, h3⟩
    rw [bs_bit, b_m1 x (by omega), decide_eq_true (show x < 8 by omega), Bool.true_and] at h3
    rw [bs_bit, Bool.and_eq_true, decide_eq_true_eq] at y1
    refine ⟨hx, ?_, y, y1.2, y1.1, y2, y3⟩
    cases hb : sSf g a p r n x with
    | false => rfl
    | true => rw [hb] at h3; cases h3
  · intro ⟨hx, h3, y, y1, y8, y2, y3⟩
    refine ⟨⟨y, by rw [bs_bit, decide_eq_true y8, y1]; rfl, y2, y3⟩, hx, ?_⟩
    rw [bs_bit, b_m1 x (by omega), decide_eq_true (show x < 8 by omega), h3]; rfl
theorem tE_lt (h1 : g 1 ≤ 6) : tE g a p r n < 256 := by
  apply Nat.lt_pow_two_of_testBit (n := 8)
  intro j hj
  cases hb : (tE g a p r n).testBit j with
  | false => rfl
  | true => have := ((tE_bit h1).mp hb).1; omega
theorem sTk_iff : sTk g a p r (sD g a p r n) n (g 1 + 2) x = true ↔ ∃ y, y < g 1 + 2 ∧ sX g a (sD g a p r n) n y = true ∧ (1 ≤ gp y x ∧ gp y x ≤ r) ∧ sLd g a p y x = true := by
  unfold sTk
  rw [ex_iff]
  unfold sRg
  constructor
  · intro ⟨y, hy, h⟩
    rw [Bool.and_eq_true, Bool.and_eq_true, Bool.and_eq_true, decide_eq_true_eq, decide_eq_true_eq] at h
    exact ⟨y, hy, h.1.1, h.1.2, h.2⟩
  · intro ⟨y, hy, h1, h2, h3⟩
    refine ⟨y, hy, ?_⟩
    rw [h1, h3, decide_eq_true h2.1, decide_eq_true h2.2]; rfl
theorem sX_in (hp : dg a p ≤ g 1 + 1) (hn : n < 100) {y : Nat} (h : sX g a (sD g a p r n) n y = true) : y < g 1 + 2 := by
  unfold sX at h
  rw [Bool.and_eq_true, decide_eq_true_eq] at h
  exact sD_in hp n y (by rw [h.1]; unfold FARN; omega)
theorem sWho_nb (h : sSpot g x = false) : sWho g a x = none := by
  unfold sWho
  rw [if_neg (by rw [h]; decide)]
/-- the next ends -/
theorem sEn_s (h1 : g 1 ≤ 6) (hp : dg a p ≤ g 1 + 1) (hn : n < 100) : sEn g a p r n ||| (tE g a p r n &&& (tkB g a ^^^ 4294967295)) = sEn g a p r (n + 1) := by
  apply Nat.eq_of_testBit_eq
  intro x
  rw [Nat.testBit_or, Nat.testBit_and, Nat.testBit_xor]
  by_cases hx : x < g 1 + 2
  · unfold sEn
    rw [bs_bit, bs_bit, decide_eq_true hx, Bool.true_and, Bool.true_and, b_m1 x (by omega), tkB_bit (by omega)]
    cases ho : sWho g a x with
    | some q => simp
    | none =>
      simp only [Option.isNone_none, Option.isSome_none, Bool.and_true, Bool.false_xor]
      apply Bool.eq_iff_iff.mpr
      rw [Bool.or_eq_true, Bool.and_eq_true, Bool.and_eq_true, decide_eq_true_eq, decide_eq_true_eq, decide_eq_true_eq, tE_bit h1]
      constructor
      · rintro (⟨h3, h4⟩ | ⟨_, h3, y, y1, y8, y2, y3⟩)
        · exact ⟨h3, by rw [sD_keep h4]; exact h4⟩
        · refine ⟨?_, ?_⟩
          · intro e
            unfold sSf at h3
            rw [e, sD_st, decide_eq_true (show 0 < FARN by decide), decide_eq_true rfl] at h3
            simp at h3
          · by_cases c : sD g a p r n x < FARN
            · rw [sD_keep c]; exact c
            · have hF : sD g a p r n x = FARN := by
                rcases sD_le g a p r n x with h | h
                · unfold FARN at c; omega
                · exact h
              have hs : sTk g a p r (sD g a p r n) n (g 1 + 2) x = true := sTk_iff.mpr ⟨y, sX_in hp hn y1, y1, ⟨y2, y3⟩, by unfold sLd; rw [ho]; simp⟩
              rw [(sD_n hn).mpr ⟨hF, hx, hs⟩]; unfold FARN; omega
      · intro ⟨h3, h4⟩
        by_cases c : sD g a p r n x < FARN
        · exact Or.inl ⟨h3, c⟩
        · have hF : sD g a p r n x = FARN := by
            rcases sD_le g a p r n x with h | h
            · unfold FARN at c; omega
            · exact h
          have hk : sD g a p r (n + 1) x = n + 1 := by
            apply Classical.byContradiction
            intro z
            rw [sD_k hn z] at h4; omega
          obtain ⟨y, y1, y2, y3, _⟩ := sTk_iff.mp ((sD_n hn).mp hk).2.2
          refine Or.inr ⟨hx, ?_, y, y2, by omega, y3⟩
          unfold sSf
          rw [decide_eq_false c]; rfl
  · unfold sEn
    rw [bs_bit, bs_bit, decide_eq_false hx, Bool.false_and, Bool.false_and]
    cases hb : (tE g a p r n).testBit x with
    | false => rfl
    | true => have := ((tE_bit h1).mp hb).1; omega
/-- the next edge -/
theorem sE_s (h1 : g 1 ≤ 6) (hp4 : p < 4) (hp2 : p < g 2) (hp : dg a p ≤ g 1 + 1) (hn : n < 100) : (tE g a p r n &&& (1 ||| 2 ^ (g 1 + 1))) ||| trB g a p r (sE g a p r n) (tE g a p r n &&& tkB g a) = sE g a p r (n + 1) := by
  apply Nat.eq_of_testBit_eq
  intro x
  rw [Nat.testBit_or, Nat.testBit_and, Nat.testBit_or, show (1 : Nat) = 2 ^ 0 from rfl, Nat.testBit_two_pow, Nat.testBit_two_pow]
  by_cases hx : x < 8
  · unfold trB sE
    rw [bs_bit, bs_bit, decide_eq_true hx, Bool.true_and, Bool.true_and, Nat.testBit_and, tkB_bit hx]
    apply Bool.eq_iff_iff.mpr
    have hX : sX g a (sD g a p r (n + 1)) (n + 1) x = true ↔ (sD g a p r (n + 1) x = n + 1 ∧ ((sWho g a x).isSome = true ∨ sSpot g x = false)) := by
      unfold sX
      rw [Bool.and_eq_true, decide_eq_true_eq, Bool.or_eq_true, Bool.or_eq_true, decide_eq_true_eq, Bool.not_eq_true']
      constructor
      · intro ⟨h3, h4⟩
        refine ⟨h3, ?_⟩
        rcases h4 with (h4 | h4) | h4
        · omega
        · exact Or.inl h4
        · exact Or.inr h4
      · intro ⟨h3, h4⟩
        refine ⟨h3, ?_⟩
        rcases h4 with h4 | h4
        · exact Or.inl (Or.inr h4)
        · exact Or.inr h4
    rw [hX, sD_n hn, Bool.or_eq_true, Bool.and_eq_true, Bool.and_eq_true, Bool.and_eq_true, Bool.or_eq_true, decide_eq_true_eq, decide_eq_true_eq]
    have hSf : ((sWho g a x).isSome = true ∨ sSpot g x = false) → (sSf g a p r n x = false ↔ sD g a p r n x = FARN) := by
      intro ho
      have hb : (decide (x = dg a p) || (sWho g a x).isSome || !sSpot g x) = true := by
        rcases ho with ho | ho
        · rw [ho]; simp
        · rw [ho]; simp
      unfold sSf
      rw [hb, Bool.and_true, decide_eq_false_iff_not]
      rcases sD_le g a p r n x with h | h
      · unfold FARN
        omega
      · rw [h]; simp
    cases hs : sSpot g x with
    | false =>
      rw [sWho_nb hs] at *
      have hbk : x < g 1 + 2 → (0 = x ∨ g 1 + 1 = x) := by
        unfold sSpot at hs
        rw [decide_eq_false_iff_not] at hs
        omega
      have hSf := hSf (Or.inr hs)
      constructor
      · rintro (⟨h3, _⟩ | ⟨⟨_, h4⟩, _⟩)
        · obtain ⟨k1, k2, y, y1, y8, y2, y3⟩ := (tE_bit h1).mp h3
          exact ⟨⟨hSf.mp k2, k1, sTk_iff.mpr ⟨y, sX_in hp hn y1, y1, ⟨y2, y3⟩, by unfold sLd; rw [sWho_nb hs]; simp⟩⟩, Or.inr rfl⟩
        · cases h4
      · intro ⟨⟨k1, k2, k3⟩, _⟩
        obtain ⟨y, y1, y2, y3, _⟩ := sTk_iff.mp k3
        exact Or.inl ⟨(tE_bit h1).mpr ⟨k2, hSf.mpr k1, y, y2, by omega, y3⟩, hbk k2⟩
    | true =>
      have hnb : ¬ (0 = x ∨ g 1 + 1 = x) := by
        unfold sSpot at hs
        rw [decide_eq_true_eq] at hs
        omega
      cases hw : sWho g a x with
      | none =>
        constructor
        · rintro (⟨_, h4⟩ | ⟨⟨_, h4⟩, _⟩)
          · exact absurd h4 hnb
          · cases h4
        · rintro ⟨_, h4 | h4⟩
          · cases h4
          · cases h4
      | some k =>
        rw [hw] at hSf
        have hSf := hSf (Or.inl rfl)
        obtain ⟨k1, k2, k3⟩ := sWho_some hw
        have hld : sD g a p r n x = FARN → ∀ y, sLd g a p y x = sTrust g p k (gp y x) := by
          intro hF y
          have hkp : k ≠ p := by
            intro e
            rw [e] at k2
            rw [← k2, sD_st] at hF
            exact absurd hF (by decide)
          unfold sLd sOn
          rw [hs, hw]
          cases hst : sTrust g p k (gp y x) with
          | false => simp [hst]
          | true => simp [hkp, hst]
        have htr : trF g a p r (bs (sX g a (sD g a p r n) n) 8) x = trQ g p r (bs (sX g a (sD g a p r n) n) 8) k x := by
          unfold trF
          rw [hw]
        rw [htr]
        constructor
        · rintro (⟨_, h4⟩ | ⟨⟨h3, _⟩, h4⟩)
          · exact absurd h4 hnb
          · obtain ⟨m1, m2, _⟩ := (tE_bit h1).mp h3
            have hF := hSf.mp m2
            unfold trQ at h4
            obtain ⟨y, y8, hy⟩ := (ex_iff _ _).mp h4
            rw [Bool.and_eq_true, Bool.and_eq_true, bs_bit, Bool.and_eq_true, decide_eq_true_eq, decide_eq_true_eq] at hy
            have hyx : y ≠ x := by
              intro e
              have := sE_sS (n := n) (by omega) hy.1.1.2
              rw [e, m2] at this; cases this
            refine ⟨⟨hF, m1, sTk_iff.mpr ⟨y, sX_in hp hn hy.1.1.2, hy.1.1.2, ⟨?_, hy.1.2⟩, ?_⟩⟩, Or.inl rfl⟩
            · unfold gp; split <;> omega
            · rw [hld hF]; exact hy.2
        · intro ⟨⟨m1, m2, m3⟩, _⟩
          obtain ⟨y, y1, y2, y3, y4⟩ := sTk_iff.mp m3
          rw [hld m1] at y4
          refine Or.inr ⟨⟨(tE_bit h1).mpr ⟨m2, hSf.mpr m1, y, y2, by omega, y3⟩, rfl⟩, ?_⟩
          unfold trQ
          refine (ex_iff _ _).mpr ⟨y, by omega, ?_⟩
          rw [bs_bit, decide_eq_true (show y < 8 by omega), y2, decide_eq_true y3.2, y4]; rfl
  · have ht : (tE g a p r n).testBit x = false := by
      cases hb : (tE g a p r n).testBit x with
      | false => rfl
      | true => have := ((tE_bit h1).mp hb).1; omega
    unfold trB sE
    rw [bs_bit, bs_bit, decide_eq_false hx, ht]; rfl
/-- what is seen then -/
theorem sS_s (hn : n < 100) : sS g a p r n ||| sE g a p r (n + 1) = sS g a p r (n + 1) := by
  apply Nat.eq_of_testBit_eq
  intro x
  unfold sS sE
  rw [Nat.testBit_or, bs_bit, bs_bit, bs_bit, ← Bool.and_or_distrib_left]
  congr 1
  apply Bool.eq_iff_iff.mpr
  rw [Bool.or_eq_true]
  constructor
  · rintro (h | h)
    · unfold sSf at h ⊢
      rw [Bool.and_eq_true, decide_eq_true_eq] at h
      rw [sD_keep h.1, decide_eq_true h.1, h.2]; rfl
    · exact sE_sS (n := n + 1) (by omega) h
  · intro h
    unfold sSf at h
    rw [Bool.and_eq_true, decide_eq_true_eq] at h
    by_cases c : sD g a p r (n + 1) x = n + 1
    · refine Or.inr ?_
      unfold sX
      rw [decide_eq_true c, Bool.true_and]
      have h2 := h.2
      rw [Bool.or_eq_true, Bool.or_eq_true, decide_eq_true_eq] at h2
      rcases h2 with (h2 | h2) | h2
      · rw [h2, sD_st] at c; omega
      · rw [h2]; simp
      · rw [h2]; simp
    · refine Or.inl ?_
      unfold sSf
      rw [sD_k hn c] at h
      rw [decide_eq_true h.1, h.2]; rfl
/-- nothing more behind an empty edge -/
theorem sE_z (hp : dg a p ≤ g 1 + 1) (h1 : g 1 ≤ 6) (h : sE g a p r n = 0) : ∀ k, n + k < 100 → (∀ x, sD g a p r (n + k) x = sD g a p r n x) ∧ ∀ x, sX g a (sD g a p r (n + k)) (n + k) x = false
  | 0, hk => ⟨fun _ => rfl, fun x => by
    cases hb : sX g a (sD g a p r n) n x with
    | false => rfl
    | true =>
      exfalso
      have hx := sX_in hp hk hb
      have : (sE g a p r n).testBit x = true := by unfold sE; rw [bs_bit, decide_eq_true (show x < 8 by omega), hb]; rfl
      rw [h] at this; simp at this⟩
  | k + 1, hk => by
    obtain ⟨h3, h4⟩ := sE_z hp h1 h k (by omega)
    have hd : ∀ x, sD g a p r (n + k + 1) x ≠ n + k + 1 := by
      intro x z
      obtain ⟨y, _, y2, _⟩ := sTk_iff.mp ((sD_n (by omega)).mp z).2.2
      rw [h4 y] at y2; cases y2
    refine ⟨fun x => ?_, fun x => ?_⟩
    · rw [show n + (k + 1) = n + k + 1 from rfl, sD_k (by omega) (hd x)]; exact h3 x
    · unfold sX
      rw [show n + (k + 1) = n + k + 1 from rfl, decide_eq_false (hd x)]; rfl
theorem sEn_z (hp : dg a p ≤ g 1 + 1) (h1 : g 1 ≤ 6) (h : sE g a p r n = 0) {k : Nat} (hk : n + k < 100) : sEn g a p r (n + k) = sEn g a p r n := by
  unfold sEn
  apply bs_cong
  intro x _
  rw [(sE_z hp h1 h k hk).1 x]
theorem sE_0 (h : dg a p < 8) : sE g a p r 0 = 2 ^ dg a p := by
  apply Nat.eq_of_testBit_eq
  intro x
  unfold sE sX
  rw [bs_bit, Nat.testBit_two_pow, sD]
  by_cases e : x = dg a p
  · subst e; simp [h]
  · have e2 : ¬ dg a p = x := fun z => e z.symm
    rw [if_neg e, decide_eq_false e2]; simp [FARN]
theorem sS_0 (h : dg a p < 8) : sS g a p r 0 = 2 ^ dg a p := by
  apply Nat.eq_of_testBit_eq
  intro x
  unfold sS sSf
  rw [bs_bit, Nat.testBit_two_pow, sD]
  by_cases e : x = dg a p
  · subst e; simp [h, FARN]
  · have e2 : ¬ dg a p = x := fun z => e z.symm
    rw [if_neg e, decide_eq_false e2]; simp
theorem sEn_0 : sEn g a p r 0 = 0 := by
  apply Nat.eq_of_testBit_eq
  intro x
  unfold sEn
  rw [bs_bit, sD]
  by_cases e : x = dg a p
  · subst e; simp
  · rw [if_neg e]; simp
end
