-- texts, by program
def am_tx0 : List Int32 := [119, 104, 111, 32, 115, 116, 114, 101, 110, 103, 116, 104, 32, 115, 112, 111, 116, 32, 100, 101, 112, 116, 104, 32, 98, 101, 115, 105, 100, 101, 32, 119, 97, 116, 101, 114, 32, 102, 97, 109, 105, 108, 121, 32, 116, 104, 101, 105, 114, 115, 32, 115, 116, 111, 110, 101, 32, 103, 97, 112, 32, 114, 105, 118, 101, 114, 32, 116, 105, 100, 101, 32, 112, 101, 114, 115, 111, 110, 32, 114, 101, 97, 99, 104, 32, 97, 116, 32, 104, 111, 108, 100, 115, 32, 116, 114, 117, 115, 116, 115, 32, 111, 114, 32, 97, 110, 100, 32, 110, 111, 116, 32]
def am_tx1 : List Int32 := [59, 58, 43, 45, 42, 40, 41, 91, 93, 61, 60, 62]
def am_tx2 : List Int32 := [32, 114, 105, 118, 101, 114, 32, 100, 101, 112, 116, 104, 32, 116, 105, 100, 101, 32, 112, 101, 114, 115, 111, 110, 32, 114, 101, 97, 99, 104, 32, 115, 116, 114, 101, 110, 103, 116, 104, 32, 102, 97, 109, 105, 108, 121, 32, 97, 116, 32, 104, 111, 108, 100, 115, 32, 116, 114, 117, 115, 116, 115, 32, 119, 104, 111, 32, 115, 112, 111, 116, 32, 98, 101, 115, 105, 100, 101, 32, 119, 97, 116, 101, 114, 32, 116, 104, 101, 105, 114, 115, 32, 115, 116, 111, 110, 101, 32, 103, 97, 112, 32, 97, 110, 100, 32, 111, 114, 32, 110, 111, 116, 32]
def am_tx3 : List Int32 := [59, 58, 43, 45, 42, 40, 41, 91, 93, 61, 60, 62]
/-! THE ABSTRACT MACHINE: the claim's bytecode over a small memory: ints, longs, references by number; kinds and lengths of cells. -/
abbrev aM : Type := (Nat → Nat → Int32) × (Nat → Nat → Int64) × (Nat → Nat → Option Nat) × List (Nat × Nat)
/-- an instruction: itself, the next pc, a target or a class or a callee, a field or a number of arguments, a type or a kind, a row of the link table, constants -/
abbrev aI : Type := Instr × Nat × Nat × Nat × Nat × Nat × Int32 × Int64
abbrev aR : Type := Option Value × aM
abbrev aS : Type := (Bool × Nat × List Slot × List Value × aM) ⊕ ((Bool × Bool × Nat × Nat × List Slot × List Value × aM) ⊕ ((Int32 × List (Int × Nat) × Nat × List Slot × List Value × aM) ⊕ ((Bool × Option Nat × Nat × List Slot × List Value × aM) ⊕ ((Bool × Nat × List Value × Nat × List Slot × List Value × aM) ⊕ (Bool × aR)))))
def am_kd (s : aM) (r : Nat) : Nat := match s.2.2.2[r]? with
  | some q => q.1
  | none => 999
def am_ln (s : aM) (r : Nat) : Nat := match s.2.2.2[r]? with
  | some q => q.2
  | none => 0
def am_u2 {α : Type} (f : Nat → Nat → α) (a k : Nat) (v : α) : Nat → Nat → α := fun b j => if b = a then (if j = k then v else f b j) else f b j
def am_u1 {α : Type} (f : Nat → Nat → α) (a : Nat) (g : Nat → α) : Nat → Nat → α := fun b j => if b = a then g j else f b j
def am_in (i : Int32) (n : Nat) : Bool := decide (0 ≤ i) && decide (i.toNatClampNeg < n)
def am_ld (ls : List Slot) (i : Nat) : Option Value := match ls[i]? with
  | some (.val v) => some v
  | _ => none
def am_k1 : Slot → Slot
  | .val (.double _) => .unset
  | .val (.long _) => .unset
  | z => z
def am_kl (ls : List Slot) (i : Nat) : List Slot := match i with
  | 0 => ls
  | k + 1 => ls.set k (am_k1 (ls.getD k .unset))
def am_s1 (ls : List Slot) (i : Nat) (v : Value) : List Slot := (am_kl ls i).set i (.val v)
def am_s2 (ls : List Slot) (i : Nat) (v : Value) : List Slot := ((am_kl ls i).set i (.val v)).set (i + 1) .unset
abbrev am_nx (np : Nat) (ls : List Slot) (st : List Value) (s : aM) : Option aS := some (.inl (true, np, ls, st, s))
abbrev am_gd (b : Bool) (np : Nat) (ls : List Slot) (st : List Value) (s : aM) : Option aS := some (.inl (b, np, ls, st, s))
abbrev am_br (b : Bool) (p1 p2 : Nat) (ls : List Slot) (st : List Value) (s : aM) : Option aS := some (.inr (.inl (true, b, p1, p2, ls, st, s)))
abbrev am_rf (b : Bool) (o : Option Nat) (np : Nat) (ls : List Slot) (st : List Value) (s : aM) : Option aS := some (.inr (.inr (.inr (.inl (b, o, np, ls, st, s)))))
abbrev am_ca (b : Bool) (z : Nat) (a : List Value) (np : Nat) (ls : List Slot) (st : List Value) (s : aM) : Option aS := some (.inr (.inr (.inr (.inr (.inl (b, z, a, np, ls, st, s))))))
abbrev am_rt (b : Bool) (v : Option Value) (s : aM) : Option aS := some (.inr (.inr (.inr (.inr (.inr (b, v, s))))))
def am_load (t i np : Nat) (ls : List Slot) (st : List Value) (s : aM) : Option aS := match t, am_ld ls i with
  | 0, some (.int x) => am_nx np ls (.int x :: st) s
  | 1, some (.long x) => am_nx np ls (.long x :: st) s
  | 2, some (.ref r) => am_nx np ls (.ref r :: st) s
  | 2, some .null => am_nx np ls (.null :: st) s
  | _, _ => none
def am_store (t i np : Nat) (ls : List Slot) (st : List Value) (s : aM) : Option aS := match t, st with
  | 0, .int x :: st => am_gd (Nat.blt i ls.length) np (am_s1 ls i (.int x)) st s
  | 1, .long x :: st => am_gd (Nat.blt (i + 1) ls.length) np (am_s2 ls i (.long x)) st s
  | 2, .ref r :: st => am_gd (Nat.blt i ls.length) np (am_s1 ls i (.ref r)) st s
  | 2, .null :: st => am_gd (Nat.blt i ls.length) np (am_s1 ls i .null) st s
  | _, _ => none
def am_ii (f : Int32 → Int32 → Int32) (np : Nat) (ls : List Slot) (st : List Value) (s : aM) : Option aS := match st with
  | .int y :: .int x :: st => am_nx np ls (.int (f x y) :: st) s
  | _ => none
def am_dd (f : Int32 → Int32 → Int32) (np : Nat) (ls : List Slot) (st : List Value) (s : aM) : Option aS := match st with
  | .int y :: .int x :: st => am_gd (!decide (y = 0)) np ls (.int (f x y) :: st) s
  | _ => none
def am_ll (f : Int64 → Int64 → Int64) (np : Nat) (ls : List Slot) (st : List Value) (s : aM) : Option aS := match st with
  | .long y :: .long x :: st => am_nx np ls (.long (f x y) :: st) s
  | _ => none
def am_le (f : Int64 → Int64 → Int64) (np : Nat) (ls : List Slot) (st : List Value) (s : aM) : Option aS := match st with
  | .long y :: .long x :: st => am_gd (!decide (y = 0)) np ls (.long (f x y) :: st) s
  | _ => none
def am_li (f : Int64 → Int32 → Int64) (np : Nat) (ls : List Slot) (st : List Value) (s : aM) : Option aS := match st with
  | .int y :: .long x :: st => am_nx np ls (.long (f x y) :: st) s
  | _ => none
def am_i1 (f : Int32 → Int32) (np : Nat) (ls : List Slot) (st : List Value) (s : aM) : Option aS := match st with
  | .int x :: st => am_nx np ls (.int (f x) :: st) s
  | _ => none
def am_cmp (c : ClassFile.Cond) (x y : Int32) : Bool := match c with
  | .eq => decide (x = y)
  | .ne => decide (¬ x = y)
  | .lt => decide (x < y)
  | .ge => decide (y ≤ x)
  | .gt => decide (y < x)
  | .le => decide (x ≤ y)
def am_ic (c : ClassFile.Cond) (np a : Nat) (ls : List Slot) (st : List Value) (s : aM) : Option aS := match st with
  | .int y :: .int x :: st => am_br (am_cmp c x y) a np ls st s
  | _ => none
def am_iz (c : ClassFile.Cond) (np a : Nat) (ls : List Slot) (st : List Value) (s : aM) : Option aS := match st with
  | .int x :: st => am_br (am_cmp c x 0) a np ls st s
  | _ => none
def am_ad : Value → Option Nat
  | .ref r => some r
  | _ => none
/-- a reference that can be compared: null, or a cell that is there -/
def am_okr (s : aM) : Value → Bool
  | .ref r => Nat.ble (am_kd s r) 105
  | .null => true
  | _ => false
def am_ac (e : Bool) (np a : Nat) (ls : List Slot) (st : List Value) (s : aM) : Option aS := match st with
  | v :: w :: st => some (.inr (.inl (am_okr s v && am_okr s w, cond e (decide (am_ad w = am_ad v)) (!decide (am_ad w = am_ad v)), a, np, ls, st, s)))
  | _ => none
def am_get (np ci k t : Nat) (ls : List Slot) (st : List Value) (s : aM) : Option aS := match st with
  | .ref r :: st => match t with
    | 0 => am_gd (Nat.beq (am_kd s r) ci) np ls (.int (s.1 r k) :: st) s
    | 1 => am_gd (Nat.beq (am_kd s r) ci) np ls (.long (s.2.1 r k) :: st) s
    | _ => am_rf (Nat.beq (am_kd s r) ci) (s.2.2.1 r k) np ls st s
  | _ => none
def am_put (np ci k t : Nat) (ls : List Slot) (st : List Value) (s : aM) : Option aS := match t, st with
  | 0, .int x :: .ref r :: st => am_gd (Nat.beq (am_kd s r) ci) np ls st (am_u2 s.1 r k x, s.2)
  | 1, .long x :: .ref r :: st => am_gd (Nat.beq (am_kd s r) ci) np ls st (s.1, am_u2 s.2.1 r k x, s.2.2)
  | 2, .ref q :: .ref r :: st => am_gd (Nat.beq (am_kd s r) ci) np ls st (s.1, s.2.1, am_u2 s.2.2.1 r k (some q), s.2.2.2)
  | 2, .null :: .ref r :: st => am_gd (Nat.beq (am_kd s r) ci) np ls st (s.1, s.2.1, am_u2 s.2.2.1 r k none, s.2.2.2)
  | _, _ => none
def am_iald (np : Nat) (ls : List Slot) (st : List Value) (s : aM) : Option aS := match st with
  | .int i :: .ref r :: st => am_gd (Nat.beq (am_kd s r) 100 && am_in i (am_ln s r)) np ls (.int (s.1 r i.toNatClampNeg) :: st) s
  | _ => none
def am_lald (np : Nat) (ls : List Slot) (st : List Value) (s : aM) : Option aS := match st with
  | .int i :: .ref r :: st => am_gd (Nat.beq (am_kd s r) 101 && am_in i (am_ln s r)) np ls (.long (s.2.1 r i.toNatClampNeg) :: st) s
  | _ => none
def am_bald (np : Nat) (ls : List Slot) (st : List Value) (s : aM) : Option aS := match st with
  | .int i :: .ref r :: st => am_gd ((Nat.beq (am_kd s r) 102 || Nat.beq (am_kd s r) 103) && am_in i (am_ln s r)) np ls (.int (s.1 r i.toNatClampNeg) :: st) s
  | _ => none
def am_aald (np : Nat) (ls : List Slot) (st : List Value) (s : aM) : Option aS := match st with
  | .int i :: .ref r :: st => am_rf ((Nat.beq (am_kd s r) 104 || Nat.beq (am_kd s r) 105) && am_in i (am_ln s r)) (s.2.2.1 r i.toNatClampNeg) np ls st s
  | _ => none
def am_iast (np : Nat) (ls : List Slot) (st : List Value) (s : aM) : Option aS := match st with
  | .int x :: .int i :: .ref r :: st => am_gd (Nat.beq (am_kd s r) 100 && am_in i (am_ln s r)) np ls st (am_u2 s.1 r i.toNatClampNeg x, s.2)
  | _ => none
def am_last (np : Nat) (ls : List Slot) (st : List Value) (s : aM) : Option aS := match st with
  | .long x :: .int i :: .ref r :: st => am_gd (Nat.beq (am_kd s r) 101 && am_in i (am_ln s r)) np ls st (s.1, am_u2 s.2.1 r i.toNatClampNeg x, s.2.2)
  | _ => none
/-- bytes (102) and booleans (103): what the row keeps of an int -/
def am_nar (b : Nat) (x : Int32) : Int32 := cond (Nat.beq b 102) (vp_nar .byte x) (vp_nar .boolean x)
def am_bast (np : Nat) (ls : List Slot) (st : List Value) (s : aM) : Option aS := match st with
  | .int x :: .int i :: .ref r :: st => am_gd ((Nat.beq (am_kd s r) 102 || Nat.beq (am_kd s r) 103) && am_in i (am_ln s r)) np ls st (am_u2 s.1 r i.toNatClampNeg (am_nar (am_kd s r) x), s.2)
  | _ => none
/-- a row of references takes objects of its own class: rows 104 of class 10, rows 105 of class 6 -/
def am_aast (np : Nat) (ls : List Slot) (st : List Value) (s : aM) : Option aS := match st with
  | .ref q :: .int i :: .ref r :: st => am_gd (((Nat.beq (am_kd s r) 104 && Nat.beq (am_kd s q) 10) || (Nat.beq (am_kd s r) 105 && Nat.beq (am_kd s q) 6)) && am_in i (am_ln s r)) np ls st (s.1, s.2.1, am_u2 s.2.2.1 r i.toNatClampNeg (some q), s.2.2.2)
  | _ => none
def am_alen (np : Nat) (ls : List Slot) (st : List Value) (s : aM) : Option aS := match st with
  | .ref r :: st => am_gd (Nat.ble 100 (am_kd s r) && Nat.ble (am_kd s r) 105) np ls (.int (Int32.ofNat (am_ln s r)) :: st) s
  | _ => none
def am_fresh (s : aM) (kd n : Nat) : aM := (am_u1 s.1 s.2.2.2.length (fun _ => 0), am_u1 s.2.1 s.2.2.2.length (fun _ => 0), am_u1 s.2.2.1 s.2.2.2.length (fun _ => none), s.2.2.2 ++ [(kd, n)])
def am_newa (np kd : Nat) (ls : List Slot) (st : List Value) (s : aM) : Option aS := match st with
  | .int n :: st => am_gd (decide (0 ≤ n) && Nat.ble n.toNatClampNeg 60000000) np ls (.ref s.2.2.2.length :: st) (am_fresh s kd n.toNatClampNeg)
  | _ => none
def am_new (np ci n : Nat) (ls : List Slot) (st : List Value) (s : aM) : Option aS := am_nx np ls (.ref s.2.2.2.length :: st) (am_fresh s ci n)
def am_dup (np : Nat) (ls : List Slot) (st : List Value) (s : aM) : Option aS := match st with
  | .int x :: st => am_nx np ls (.int x :: .int x :: st) s
  | .ref r :: st => am_nx np ls (.ref r :: .ref r :: st) s
  | _ => none
def am_dup2 (np : Nat) (ls : List Slot) (st : List Value) (s : aM) : Option aS := match st with
  | .int x :: .ref r :: st => am_nx np ls (.int x :: .ref r :: .int x :: .ref r :: st) s
  | _ => none
def am_pop (np : Nat) (ls : List Slot) (st : List Value) (s : aM) : Option aS := match st with
  | .int _ :: st => am_nx np ls st s
  | .ref _ :: st => am_nx np ls st s
  | _ => none
def am_iinc (i : Nat) (k : Int32) (np : Nat) (ls : List Slot) (st : List Value) (s : aM) : Option aS := match am_ld ls i with
  | some (.int x) => am_gd (Nat.blt i ls.length) np (am_s1 ls i (.int (x + k))) st s
  | _ => none
def am_nn (np a : Nat) (ls : List Slot) (st : List Value) (s : aM) : Option aS := match st with
  | .ref _ :: st => am_nx a ls st s
  | .null :: st => am_nx np ls st s
  | _ => none
/-- the script of a tableswitch as pairs -/
def am_tw (lo : Int) : List Nat → List (Int × Nat)
  | [] => []
  | t :: ts => (lo, t) :: am_tw (lo + 1) ts
def am_cpyl {α : Type} (f : Nat → Nat → α) (r q sp dp n : Nat) : Nat → Nat → α := am_u1 f q (va_cpy (f r) (f q) sp dp n)
/-- how many words a stack holds -/
def am_cs : List Value → Nat
  | [] => 0
  | v :: r => v.category + am_cs r
def am_copy (np : Nat) (ls : List Slot) (st : List Value) (s : aM) : Option aS := match st with
  | .int n :: .int dp :: .ref q :: .int sp :: .ref r :: st => am_gd (Nat.ble (am_cs st) 8 && (decide (0 ≤ sp) && decide (0 ≤ dp) && decide (0 ≤ n) && Nat.ble (sp.toNatClampNeg + n.toNatClampNeg) (am_ln s r) && Nat.ble (dp.toNatClampNeg + n.toNatClampNeg) (am_ln s q) && ((Nat.beq (am_kd s r) 100 && Nat.beq (am_kd s q) 100) || (Nat.beq (am_kd s r) 101 && Nat.beq (am_kd s q) 101))))
      np ls st (cond (Nat.beq (am_kd s r) 100) (am_cpyl s.1 r q sp.toNatClampNeg dp.toNatClampNeg n.toNatClampNeg) s.1, cond (Nat.beq (am_kd s r) 100) s.2.1 (am_cpyl s.2.1 r q sp.toNatClampNeg dp.toNatClampNeg n.toNatClampNeg), s.2.2)
  | _ => none
/-- the texts that the classes hold: a reference from 1000000 on -/
def am_tx : List (List Int32) := [am_tx0, am_tx1, am_tx2, am_tx3]
def am_ch (k i : Nat) : Int32 := (am_tx.getD k []).getD i 0
def am_tl (k : Nat) : Nat := (am_tx.getD k []).length
def am_ixg (c : Int32) : List Int32 → Nat → Int32
  | [], _ => -1
  | x :: xs, n => cond (decide (x = c)) (Int32.ofNat n) (am_ixg c xs (n + 1))
/-- what the JDK's methods do that are one instruction here: 1 Object(), 2 max, 3 min, 4 abs, 5 and 6 max and min of longs, 7 length, 8 charAt, 9 indexOf, 10 arraycopy -/
def am_intr (c np : Nat) (ls : List Slot) (st : List Value) (s : aM) : Option aS := match c, st with
  | 1, .ref _ :: st => am_gd (Nat.ble (am_cs st) 8) np ls st s
  | 2, .int y :: .int x :: st => am_gd (Nat.ble (am_cs st) 8) np ls (.int (if x < y then y else x) :: st) s
  | 3, .int y :: .int x :: st => am_gd (Nat.ble (am_cs st) 8) np ls (.int (if y < x then y else x) :: st) s
  | 4, .int x :: st => am_gd (Nat.ble (am_cs st) 8) np ls (.int (if 0 ≤ x then x else 0 - x) :: st) s
  | 5, .long y :: .long x :: st => am_gd (Nat.ble (am_cs st) 8) np ls (.long (if y < x then x else y) :: st) s
  | 6, .long y :: .long x :: st => am_gd (Nat.ble (am_cs st) 8) np ls (.long (if y < x then y else x) :: st) s
  | 7, .ref r :: st => am_gd (Nat.ble (am_cs st) 8 && (Nat.ble 1000000 r && Nat.blt r 1000004)) np ls (.int (Int32.ofNat (am_tl (r - 1000000))) :: st) s
  | 8, .int i :: .ref r :: st => am_gd (Nat.ble (am_cs st) 8 && (Nat.ble 1000000 r && Nat.blt r 1000004) && am_in i (am_tl (r - 1000000))) np ls (.int (am_ch (r - 1000000) i.toNatClampNeg) :: st) s
  | 9, .int x :: .ref r :: st => am_gd (Nat.ble (am_cs st) 8 && (Nat.ble 1000000 r && Nat.blt r 1000004) && (decide (0 ≤ x) && decide (x ≤ 255))) np ls (.int (am_ixg x (am_tx.getD (r - 1000000) []) 0) :: st) s
  | 10, st => am_copy np ls st s
  | _, _ => none
def am_inv (np z n c : Nat) (ls : List Slot) (st : List Value) (s : aM) : Option aS :=
  cond (Nat.beq c 0) (am_ca (Nat.ble n st.length && Nat.ble (am_cs (st.drop n)) 8) z (st.take n).reverse np ls (st.drop n) s)
    (cond (Nat.ble 1000 c) (match st.drop (n - 1) with
      | .ref r :: rest => am_ca (Nat.ble 1 n && (Nat.beq (am_kd s r) (c - 1000) && Nat.ble (am_cs rest) 8)) z (.ref r :: (st.take (n - 1)).reverse) np ls rest s
      | _ => none) (am_intr c np ls st s))
def am_go (e : aI) (ls : List Slot) (st : List Value) (s : aM) : Option aS := match e with
  | (i, np, a, b, c, _, k, q) => match i with
    | .aload _ => am_load 2 a np ls st s
    | .aload_n _ => am_load 2 a np ls st s
    | .iload _ => am_load 0 a np ls st s
    | .iload_n _ => am_load 0 a np ls st s
    | .lload _ => am_load 1 a np ls st s
    | .lload_n _ => am_load 1 a np ls st s
    | .astore _ => am_store 2 a np ls st s
    | .astore_n _ => am_store 2 a np ls st s
    | .istore _ => am_store 0 a np ls st s
    | .istore_n _ => am_store 0 a np ls st s
    | .lstore _ => am_store 1 a np ls st s
    | .lstore_n _ => am_store 1 a np ls st s
    | .iconst _ => am_nx np ls (.int k :: st) s
    | .bipush _ => am_nx np ls (.int k :: st) s
    | .sipush _ => am_nx np ls (.int k :: st) s
    | .ldc _ => cond (Nat.beq c 0) (am_nx np ls (.int k :: st) s) (am_nx np ls (.ref a :: st) s)
    | .ldc_w _ => am_nx np ls (.int k :: st) s
    | .ldc2_w _ => am_nx np ls (.long q :: st) s
    | .lconst _ => am_nx np ls (.long q :: st) s
    | .aconst_null => am_nx np ls (.null :: st) s
    | .iadd => am_ii (fun x y => x + y) np ls st s
    | .isub => am_ii (fun x y => x - y) np ls st s
    | .imul => am_ii (fun x y => x * y) np ls st s
    | .iand => am_ii (fun x y => x &&& y) np ls st s
    | .ior => am_ii (fun x y => x ||| y) np ls st s
    | .ixor => am_ii (fun x y => x ^^^ y) np ls st s
    | .idiv => am_dd (fun x y => x / y) np ls st s
    | .irem => am_dd (fun x y => x - x / y * y) np ls st s
    | .ishl => am_ii (fun x y => x <<< (y &&& 31)) np ls st s
    | .ishr => am_ii (fun x y => x >>> (y &&& 31)) np ls st s
    | .iushr => am_ii (fun x y => (x.toUInt32 >>> (y.toUInt32 &&& Int32.toUInt32 31)).toInt32) np ls st s
    | .ladd => am_ll (fun x y => x + y) np ls st s
    | .lsub => am_ll (fun x y => x - y) np ls st s
    | .lmul => am_ll (fun x y => x * y) np ls st s
    | .land => am_ll (fun x y => x &&& y) np ls st s
    | .lor => am_ll (fun x y => x ||| y) np ls st s
    | .lxor => am_ll (fun x y => x ^^^ y) np ls st s
    | .ldiv => am_le (fun x y => x / y) np ls st s
    | .lrem => am_le (fun x y => x - x / y * y) np ls st s
    | .lshl => am_li (fun x y => x <<< (y.toInt64 &&& 63)) np ls st s
    | .lshr => am_li (fun x y => x >>> (y.toInt64 &&& 63)) np ls st s
    | .lushr => am_li (fun x y => (x.toUInt64 >>> (y.toInt64.toUInt64 &&& Int64.toUInt64 63)).toInt64) np ls st s
    | .lcmp => match st with
      | .long y :: .long x :: st => am_nx np ls (.int (lg_cmp x y) :: st) s
      | _ => none
    | .i2l => match st with
      | .int x :: st => am_nx np ls (.long x.toInt64 :: st) s
      | _ => none
    | .l2i => match st with
      | .long x :: st => am_nx np ls (.int x.toInt32 :: st) s
      | _ => none
    | .i2b => am_i1 (fun x => x.toInt8.toInt32) np ls st s
    | .i2s => am_i1 (fun x => x.toInt16.toInt32) np ls st s
    | .i2c => am_i1 (fun x => (x.toUInt32 % 65536).toInt32) np ls st s
    | .iinc _ _ => am_iinc a k np ls st s
    | .dup => am_dup np ls st s
    | .dup2 => am_dup2 np ls st s
    | .pop => am_pop np ls st s
    | .goto _ => am_nx a ls st s
    | .if_icmp f _ => am_ic f np a ls st s
    | .ifCond f _ => am_iz f np a ls st s
    | .if_acmp .eq _ => am_ac true np a ls st s
    | .if_acmp .ne _ => am_ac false np a ls st s
    | .ifnonnull _ => am_nn np a ls st s
    | .tableswitch _ lo _ offs => match st with
      | .int x :: st => some (.inr (.inr (.inl (x, am_tw lo (offs.toList.map fun o => (Int.ofNat b + o).toNat), a, ls, st, s))))
      | _ => none
    | .lookupswitch _ ps => match st with
      | .int x :: st => some (.inr (.inr (.inl (x, ps.toList.map (fun o => (o.1, (Int.ofNat b + o.2).toNat)), a, ls, st, s))))
      | _ => none
    | .getfield _ => am_get np a b c ls st s
    | .putfield _ => am_put np a b c ls st s
    | .iaload => am_iald np ls st s
    | .laload => am_lald np ls st s
    | .baload => am_bald np ls st s
    | .aaload => am_aald np ls st s
    | .iastore => am_iast np ls st s
    | .lastore => am_last np ls st s
    | .bastore => am_bast np ls st s
    | .aastore => am_aast np ls st s
    | .arraylength => am_alen np ls st s
    | .newarray _ => am_newa np a ls st s
    | .anewarray _ => am_newa np a ls st s
    | .new _ => am_new np a b ls st s
    | .invokestatic _ => am_inv np a b c ls st s
    | .invokevirtual _ => am_inv np a b c ls st s
    | .invokespecial _ => am_inv np a b c ls st s
    | .ireturn => match st with
      | [.int x] => am_rt (cond (Nat.beq c 1) (decide (x = 0) || decide (x = 1)) true) (some (.int x)) s
      | _ => none
    | .lreturn => match st with
      | [.long x] => am_rt true (some (.long x)) s
      | _ => none
    | .areturn => match st with
      | [.ref r] => am_rt true (some (.ref r)) s
      | [.null] => am_rt true (some .null) s
      | _ => none
    | .return_ => match st with
      | [] => am_rt true none s
      | _ => none
    | _ => none
def am_sw (nx : Nat → Option aR) (x : Int32) (d : Nat) : List (Int × Nat) → Option aR
  | [] => nx d
  | q :: qs => cond (decide (x = Int32.ofInt q.1)) (nx q.2) (am_sw nx x d qs)
def am_bd (o : Option aR) (f : Option Value → aM → Option aR) : Option aR := match o with
  | some q => f q.1 q.2
  | none => none
def am_F (nx nc : Nat → List Slot → List Value → aM → Option aR) (cl : Nat → List Value → aM → Option aR) : Option aS → Option aR
  | none => none
  | some (.inl (b, pc, ls, st, s)) => cond b (nx pc ls st s) none
  | some (.inr (.inl (g, b, p1, p2, ls, st, s))) => cond g (cond b (nx p1 ls st s) (nx p2 ls st s)) none
  | some (.inr (.inr (.inl (x, ps, d, ls, st, s)))) => am_sw (fun t => nx t ls st s) x d ps
  | some (.inr (.inr (.inr (.inl (b, o, pc, ls, st, s))))) => cond b (match o with
    | some q => nx pc ls (.ref q :: st) s
    | none => nx pc ls (.null :: st) s) none
  | some (.inr (.inr (.inr (.inr (.inl (b, z, a, pc, ls, st, s)))))) => cond b (am_bd (cl z a s) (fun v s' => nc pc ls (v.toList ++ st) s')) none
  | some (.inr (.inr (.inr (.inr (.inr (b, r)))))) => cond b (some r) none
