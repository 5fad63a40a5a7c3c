/-! THE MODEL: lines are read -/
def stF (k v : Nat) (s : PS) : PS := if s.1 = 0 then (s.1, s.2.1, s.2.2.1, ug s.2.2.2 k v) else s
def dpS (B : Nat → Nat) (N : Nat) : Nat → Nat → PS → PS
  | 0, _, s => s
  | n + 1, k, s => if s.1 = 0 then dpS B N n (k + 1) (stF (26 + k) (uj B N s.2.2.1) (tkS B N 0 9 s)) else s
def xpS (B : Nat → Nat) (N k : Nat) (s : PS) : PS := if isS B N k s = true then nxS s else flS B N 2 s
def tkn (f : Nat → Nat) (x by_ : Nat) : Bool := ex (fun p => decide (f (18 + p) = x) && decide (1 ≤ x ∧ x ≤ f 1)) by_
def apS (B : Nat → Nat) (N p : Nat) (s : PS) : PS := if isS B N 23 s = true ∧ tkn s.2.2.2 (uj B N s.2.2.1) p = true then flS B N 3 s else s
def fgS (B : Nat → Nat) (N p : Nat) (s : PS) : PS :=
  if isS B N 5 s = true then stF (22 + p) (uj B N (s.2.2.1 + 1)) (tkS B N 0 9 (nxS s))
  else if isS B N 6 s = true then stF (14 + p) (uj B N (s.2.2.1 + 1)) (tkS B N 0 9 (nxS s))
  else if isS B N 7 s = true then stF (18 + p) (uj B N (s.2.2.1 + 1)) (tkS B N 0 (s.2.2.2 1 + 1) (apS B N p (nxS s)))
  else s
def fgB (B : Nat → Nat) (N p : Nat) (s : PS) : Bool := (isS B N 5 s || isS B N 6 s || isS B N 7 s) && decide ((fgS B N p s).1 = 0)
def flL (B : Nat → Nat) (N p : Nat) : Nat → PS → PS
  | 0, s => s
  | n + 1, s => if s.1 = 0 then (if fgB B N p s = true then flL B N p n (fgS B N p s) else fgS B N p s) else s
def inP (s : PS) : PS := stF 2 (s.2.2.2 2 + 1) s
def peS (B : Nat → Nat) (N : Nat) (s : PS) : PS :=
  if s.2.2.2 2 = 4 then flS B N 4 s else
  inP (flL B N (s.2.2.2 2) 1000 (stF (22 + s.2.2.2 2) 5 (stF (10 + s.2.2.2 2) (uj B N (xpS B N 4 (nxS s)).2.2.1) (tkS B N 1 4 (xpS B N 4 (nxS s))))))
def lwS (B : Nat → Nat) (N law : Nat) (s : PS) : PS :=
  stF (8 + law) ((truL B N law 6 (xpS B N 31 (nxS s))).2.2.2 173 - (xpS B N 31 (nxS s)).2.2.2 173) (stF (6 + law) ((xpS B N 31 (nxS s)).2.2.2 173) (stF (4 + law) 1 (truL B N law 6 (xpS B N 31 (nxS s)))))
def lnS (B : Nat → Nat) (N : Nat) (s : PS) : PS :=
  if s.1 = 0 then (if isS B N 1 s = true then dpS B N (s.2.2.2 1) 0 (nxS s) else if isS B N 2 s = true then stF 3 (uj B N (s.2.2.1 + 1)) (tkS B N 0 9 (nxS s)) else if isS B N 3 s = true then peS B N s else if isS B N 8 s = true then lwS B N 0 s else if isS B N 9 s = true then lwS B N 1 s else flS B N 2 s) else s
def enS (B : Nat → Nat) (N : Nat) (s : PS) : PS := stF 0 ((xpS B N 30 s).2.2.2 0 + 1) (xpS B N 30 s)
def rvL (B : Nat → Nat) (N : Nat) : Nat → PS → PS
  | 0, s => s
  | n + 1, s => if s.1 = 0 ∧ kj B N s.2.2.1 ≠ 24 then rvL B N n (enS B N (lnS B N s)) else s
def pln (k : Nat) : Nat := if k = 1 then 1 else if k = 3 then 5 else 0
def rvS (B : Nat → Nat) (N : Nat) : PS := rvL B N 1000 (enS B N (stF 1 (uj B N (xpS B N 0 (0, 0, 0, pln)).2.2.1) (tkS B N 1 6 (xpS B N 0 (0, 0, 0, pln)))))
/-- spots and people as they can be while a text is read -/
def SP (s : PS) : Prop := s.1 = 0 → s.2.2.2 1 ≤ 6 ∧ s.2.2.2 2 ≤ 4 ∧ s.2.2.2 0 ≤ s.2.2.1
/-- it doesn't go back -/
def Pq (B : Nat → Nat) (N : Nat) (s t : PS) : Prop := t.1 = 0 → s.1 = 0 ∧ s.2.2.1 ≤ t.2.2.1 ∧ t.2.2.2 173 + s.2.2.1 ≤ s.2.2.2 173 + t.2.2.1 ∧ t.2.2.1 ≤ pj B N t.2.2.1
section
variable {B : Nat → Nat} {N : Nat}
theorem Pq_of {s t : PS} (h : Pg B N s t) : Pq B N s t := fun z => by
  obtain ⟨a1, a2, a3, a4⟩ := h z
  exact ⟨a1, by omega, a3, a4⟩
theorem Pq_cb {s t : PS} (h : Pq B N s t) (hc : CB B N s) : CB B N t := fun z => by
  obtain ⟨q1, q2, q3, q4⟩ := h z
  obtain ⟨c1, c2⟩ := hc q1
  exact ⟨by omega, q4⟩
theorem Pq_tr {s t u : PS} (h : Pq B N s t) (h2 : Pq B N t u) : Pq B N s u := fun z => by
  obtain ⟨a1, a2, a3, a4⟩ := h2 z
  obtain ⟨b1, b2, b3, b4⟩ := h a1
  exact ⟨b1, by omega, by omega, a4⟩
theorem Pq_refl {s : PS} (hc : CB B N s) : Pq B N s s := fun z => ⟨z, Nat.le_refl _, Nat.le_refl _, (hc z).2⟩
theorem Pg_q {s t u : PS} (h : Pg B N s t) (h2 : Pq B N t u) : Pg B N s u := fun z => by
  obtain ⟨a1, a2, a3, a4⟩ := h2 z
  obtain ⟨b1, b2, b3, b4⟩ := h a1
  exact ⟨b1, by omega, by omega, a4⟩
theorem stF_w {k v : Nat} {s : PS} : (stF k v s).1 = s.1 := by unfold stF; split <;> rfl
theorem stF_0 {k v : Nat} {s : PS} (h : s.1 = 0) : stF k v s = (s.1, s.2.1, s.2.2.1, ug s.2.2.2 k v) := by unfold stF; rw [if_pos h]
theorem Pq_st {k v : Nat} {s t : PS} (h : Pq B N s t) (hk : k ≠ 173) : Pq B N s (stF k v t) := fun z => by
  rw [stF_w] at z
  obtain ⟨a1, a2, a3, a4⟩ := h z
  rw [stF_0 z]
  refine ⟨a1, a2, ?_, a4⟩
  show ug t.2.2.2 k v 173 + _ ≤ _
  unfold ug
  rw [if_neg (Ne.symm hk)]
  exact a3
theorem Pg_tk {lo hi : Nat} {s : PS} (hc : CB B N s) : Pg B N s (tkS B N lo hi s) := by
  unfold tkS
  split
  · split
    · rename_i hk
      split
      · exact Pg_nx hc (by rw [hk]; decide)
      · exact Pg_fl (by decide)
    · exact Pg_fl (by decide)
  · rename_i h; exact fun z => absurd z h
theorem Pg_xp {k : Nat} {s : PS} (hc : CB B N s) (hk : k ≠ 24) : Pg B N s (xpS B N k s) := by
  unfold xpS
  split
  · rename_i h; exact Pg_nx hc (by rw [(isS_w h).2]; exact hk)
  · exact Pg_fl (by decide)
theorem Pq_dp : ∀ n k s, CB B N s → Pq B N s (dpS B N n k s)
  | 0, k, s, hc => Pq_refl hc
  | n + 1, k, s, hc => by
    rw [dpS]
    split
    · have h1 : Pq B N s (stF (26 + k) (uj B N s.2.2.1) (tkS B N 0 9 s)) := by
        by_cases hk : 26 + k = 173
        · intro z
          rw [stF_w] at z
          sorry
        · exact Pq_st (Pq_of (Pg_tk hc)) hk
      exact Pq_tr h1 (Pq_dp n (k + 1) _ (Pq_cb h1 hc))
    · exact Pq_refl hc
end
