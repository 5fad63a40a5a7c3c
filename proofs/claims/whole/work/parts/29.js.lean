-- the texts methods, one step
theorem am_jr0 : (Nat.ble 1000000 1000000 && Nat.blt 1000000 1000004) = true := by decide +kernel
theorem am_js7_0 (np : Nat) (ls : List Slot) (st : List Value) (s : aM) : am_intr 7 np ls (.ref 1000000 :: st) s = am_gd (Nat.ble (am_cs st) 8) np ls (.int (Int32.ofNat (am_tl 0)) :: st) s := by
  show am_gd (Nat.ble (am_cs st) 8 && (Nat.ble 1000000 1000000 && Nat.blt 1000000 1000004)) np ls (.int (Int32.ofNat (am_tl (1000000 - 1000000))) :: st) s = _
  rw [am_jr0, Bool.and_true]
theorem am_js8_0 (np : Nat) (ls : List Slot) (i : Int32) (st : List Value) (s : aM) : am_intr 8 np ls (.int i :: .ref 1000000 :: st) s = am_gd (Nat.ble (am_cs st) 8 && am_in i (am_tl 0)) np ls (.int (am_ch 0 i.toNatClampNeg) :: st) s := by
  show am_gd (Nat.ble (am_cs st) 8 && (Nat.ble 1000000 1000000 && Nat.blt 1000000 1000004) && am_in i (am_tl (1000000 - 1000000))) np ls (.int (am_ch (1000000 - 1000000) i.toNatClampNeg) :: st) s = _
  rw [am_jr0, Bool.and_true]
theorem am_js9_0 (np : Nat) (ls : List Slot) (x : Int32) (st : List Value) (s : aM) : am_intr 9 np ls (.int x :: .ref 1000000 :: st) s = am_gd (Nat.ble (am_cs st) 8 && (decide (0 ≤ x) && decide (x ≤ 255))) np ls (.int (am_ixg x (am_tx.getD 0 []) 0) :: st) s := by
  show am_gd (Nat.ble (am_cs st) 8 && (Nat.ble 1000000 1000000 && Nat.blt 1000000 1000004) && (decide (0 ≤ x) && decide (x ≤ 255))) np ls (.int (am_ixg x (am_tx.getD (1000000 - 1000000) []) 0) :: st) s = _
  rw [am_jr0, Bool.and_true]
theorem am_jr1 : (Nat.ble 1000000 1000001 && Nat.blt 1000001 1000004) = true := by decide +kernel
theorem am_js7_1 (np : Nat) (ls : List Slot) (st : List Value) (s : aM) : am_intr 7 np ls (.ref 1000001 :: st) s = am_gd (Nat.ble (am_cs st) 8) np ls (.int (Int32.ofNat (am_tl 1)) :: st) s := by
  show am_gd (Nat.ble (am_cs st) 8 && (Nat.ble 1000000 1000001 && Nat.blt 1000001 1000004)) np ls (.int (Int32.ofNat (am_tl (1000001 - 1000000))) :: st) s = _
  rw [am_jr1, Bool.and_true]
theorem am_js8_1 (np : Nat) (ls : List Slot) (i : Int32) (st : List Value) (s : aM) : am_intr 8 np ls (.int i :: .ref 1000001 :: st) s = am_gd (Nat.ble (am_cs st) 8 && am_in i (am_tl 1)) np ls (.int (am_ch 1 i.toNatClampNeg) :: st) s := by
  show am_gd (Nat.ble (am_cs st) 8 && (Nat.ble 1000000 1000001 && Nat.blt 1000001 1000004) && am_in i (am_tl (1000001 - 1000000))) np ls (.int (am_ch (1000001 - 1000000) i.toNatClampNeg) :: st) s = _
  rw [am_jr1, Bool.and_true]
theorem am_js9_1 (np : Nat) (ls : List Slot) (x : Int32) (st : List Value) (s : aM) : am_intr 9 np ls (.int x :: .ref 1000001 :: st) s = am_gd (Nat.ble (am_cs st) 8 && (decide (0 ≤ x) && decide (x ≤ 255))) np ls (.int (am_ixg x (am_tx.getD 1 []) 0) :: st) s := by
  show am_gd (Nat.ble (am_cs st) 8 && (Nat.ble 1000000 1000001 && Nat.blt 1000001 1000004) && (decide (0 ≤ x) && decide (x ≤ 255))) np ls (.int (am_ixg x (am_tx.getD (1000001 - 1000000) []) 0) :: st) s = _
  rw [am_jr1, Bool.and_true]
theorem am_jr2 : (Nat.ble 1000000 1000002 && Nat.blt 1000002 1000004) = true := by decide +kernel
theorem am_js7_2 (np : Nat) (ls : List Slot) (st : List Value) (s : aM) : am_intr 7 np ls (.ref 1000002 :: st) s = am_gd (Nat.ble (am_cs st) 8) np ls (.int (Int32.ofNat (am_tl 2)) :: st) s := by
  show am_gd (Nat.ble (am_cs st) 8 && (Nat.ble 1000000 1000002 && Nat.blt 1000002 1000004)) np ls (.int (Int32.ofNat (am_tl (1000002 - 1000000))) :: st) s = _
  rw [am_jr2, Bool.and_true]
theorem am_js8_2 (np : Nat) (ls : List Slot) (i : Int32) (st : List Value) (s : aM) : am_intr 8 np ls (.int i :: .ref 1000002 :: st) s = am_gd (Nat.ble (am_cs st) 8 && am_in i (am_tl 2)) np ls (.int (am_ch 2 i.toNatClampNeg) :: st) s := by
  show am_gd (Nat.ble (am_cs st) 8 && (Nat.ble 1000000 1000002 && Nat.blt 1000002 1000004) && am_in i (am_tl (1000002 - 1000000))) np ls (.int (am_ch (1000002 - 1000000) i.toNatClampNeg) :: st) s = _
  rw [am_jr2, Bool.and_true]
theorem am_js9_2 (np : Nat) (ls : List Slot) (x : Int32) (st : List Value) (s : aM) : am_intr 9 np ls (.int x :: .ref 1000002 :: st) s = am_gd (Nat.ble (am_cs st) 8 && (decide (0 ≤ x) && decide (x ≤ 255))) np ls (.int (am_ixg x (am_tx.getD 2 []) 0) :: st) s := by
  show am_gd (Nat.ble (am_cs st) 8 && (Nat.ble 1000000 1000002 && Nat.blt 1000002 1000004) && (decide (0 ≤ x) && decide (x ≤ 255))) np ls (.int (am_ixg x (am_tx.getD (1000002 - 1000000) []) 0) :: st) s = _
  rw [am_jr2, Bool.and_true]
theorem am_jr3 : (Nat.ble 1000000 1000003 && Nat.blt 1000003 1000004) = true := by decide +kernel
theorem am_js7_3 (np : Nat) (ls : List Slot) (st : List Value) (s : aM) : am_intr 7 np ls (.ref 1000003 :: st) s = am_gd (Nat.ble (am_cs st) 8) np ls (.int (Int32.ofNat (am_tl 3)) :: st) s := by
  show am_gd (Nat.ble (am_cs st) 8 && (Nat.ble 1000000 1000003 && Nat.blt 1000003 1000004)) np ls (.int (Int32.ofNat (am_tl (1000003 - 1000000))) :: st) s = _
  rw [am_jr3, Bool.and_true]
theorem am_js8_3 (np : Nat) (ls : List Slot) (i : Int32) (st : List Value) (s : aM) : am_intr 8 np ls (.int i :: .ref 1000003 :: st) s = am_gd (Nat.ble (am_cs st) 8 && am_in i (am_tl 3)) np ls (.int (am_ch 3 i.toNatClampNeg) :: st) s := by
  show am_gd (Nat.ble (am_cs st) 8 && (Nat.ble 1000000 1000003 && Nat.blt 1000003 1000004) && am_in i (am_tl (1000003 - 1000000))) np ls (.int (am_ch (1000003 - 1000000) i.toNatClampNeg) :: st) s = _
  rw [am_jr3, Bool.and_true]
theorem am_js9_3 (np : Nat) (ls : List Slot) (x : Int32) (st : List Value) (s : aM) : am_intr 9 np ls (.int x :: .ref 1000003 :: st) s = am_gd (Nat.ble (am_cs st) 8 && (decide (0 ≤ x) && decide (x ≤ 255))) np ls (.int (am_ixg x (am_tx.getD 3 []) 0) :: st) s := by
  show am_gd (Nat.ble (am_cs st) 8 && (Nat.ble 1000000 1000003 && Nat.blt 1000003 1000004) && (decide (0 ≤ x) && decide (x ≤ 255))) np ls (.int (am_ixg x (am_tx.getD (1000003 - 1000000) []) 0) :: st) s = _
  rw [am_jr3, Bool.and_true]
