-- facts of the classes, by program
theorem am_cX {ws : List Cond} (h : ws.all (fun w => decide (w ∈ lw_tbl) && goodWord w) = true) : ∀ w ∈ ws, w ∈ am_gw := by
  intro w hw
  have h1 := List.all_eq_true.mp h w hw
  rw [Bool.and_eq_true] at h1
  exact am_gw_in (of_decide_eq_true h1.1) h1.2
theorem am_ci0 : (u_ws RX0 TX0 (am_N 0)).all (fun w => decide (w ∈ lw_tbl) && goodWord w) = true := by decide +kernel
theorem am_ci1 : (u_ws RX1 TX1 (am_N 1)).all (fun w => decide (w ∈ lw_tbl) && goodWord w) = true := by decide +kernel
theorem am_ci2 : (u_ws RX2 TX2 (am_N 2)).all (fun w => decide (w ∈ lw_tbl) && goodWord w) = true := by decide +kernel
theorem am_ci3 : (u_ws RX3 TX3 (am_N 3)).all (fun w => decide (w ∈ lw_tbl) && goodWord w) = true := by decide +kernel
theorem am_ci4 : (u_ws RX4 TX4 (am_N 4)).all (fun w => decide (w ∈ lw_tbl) && goodWord w) = true := by decide +kernel
theorem am_ci5 : (u_ws RX5 TX5 (am_N 5)).all (fun w => decide (w ∈ lw_tbl) && goodWord w) = true := by decide +kernel
theorem am_ci6 : (u_ws RX6 TX6 (am_N 6)).all (fun w => decide (w ∈ lw_tbl) && goodWord w) = true := by decide +kernel
theorem am_ci7 : (u_ws RX7 TX7 (am_N 7)).all (fun w => decide (w ∈ lw_tbl) && goodWord w) = true := by decide +kernel
theorem am_ci8 : (u_ws RX8 TX8 (am_N 8)).all (fun w => decide (w ∈ lw_tbl) && goodWord w) = true := by decide +kernel
theorem am_ci9 : (u_ws RX9 TX9 (am_N 9)).all (fun w => decide (w ∈ lw_tbl) && goodWord w) = true := by decide +kernel
theorem am_ci10 : (u_ws RX10 TX10 (am_N 10)).all (fun w => decide (w ∈ lw_tbl) && goodWord w) = true := by decide +kernel
theorem am_ci11 : (u_ws RX11 TX11 (am_N 11)).all (fun w => decide (w ∈ lw_tbl) && goodWord w) = true := by decide +kernel
theorem am_ci12 : (u_ws RX12 TX12 (am_N 12)).all (fun w => decide (w ∈ lw_tbl) && goodWord w) = true := by decide +kernel
theorem am_cg : ∀ {ci : Nat}, ci < 13 → vwCl[ci]? = some (am_Rn ci, am_T ci, am_N ci)
  | 0, _ => rfl
  | 1, _ => rfl
  | 2, _ => rfl
  | 3, _ => rfl
  | 4, _ => rfl
  | 5, _ => rfl
  | 6, _ => rfl
  | 7, _ => rfl
  | 8, _ => rfl
  | 9, _ => rfl
  | 10, _ => rfl
  | 11, _ => rfl
  | 12, _ => rfl
  | n + 13, h => absurd h (by omega)
theorem am_cin : ∀ {ci : Nat}, ci < 13 → ∀ w ∈ u_ws (am_Rn ci) (am_T ci) (am_N ci), w ∈ am_gw
  | 0, _ => fun w h => am_cX am_ci0 w h
  | 1, _ => fun w h => am_cX am_ci1 w h
  | 2, _ => fun w h => am_cX am_ci2 w h
  | 3, _ => fun w h => am_cX am_ci3 w h
  | 4, _ => fun w h => am_cX am_ci4 w h
  | 5, _ => fun w h => am_cX am_ci5 w h
  | 6, _ => fun w h => am_cX am_ci6 w h
  | 7, _ => fun w h => am_cX am_ci7 w h
  | 8, _ => fun w h => am_cX am_ci8 w h
  | 9, _ => fun w h => am_cX am_ci9 w h
  | 10, _ => fun w h => am_cX am_ci10 w h
  | 11, _ => fun w h => am_cX am_ci11 w h
  | 12, _ => fun w h => am_cX am_ci12 w h
  | n + 13, h => absurd h (by omega)
theorem am_cty : ∀ {ci : Nat}, ci < 13 → ∀ k, k < am_N ci → parseFieldDescriptor (am_T ci k).2.2.1 = some (am_ty ci k)
  | 0, _ => tyX0_ok
  | 1, _ => tyX1_ok
  | 2, _ => tyX2_ok
  | 3, _ => tyX3_ok
  | 4, _ => tyX4_ok
  | 5, _ => tyX5_ok
  | 6, _ => tyX6_ok
  | 7, _ => tyX7_ok
  | 8, _ => tyX8_ok
  | 9, _ => tyX9_ok
  | 10, _ => tyX10_ok
  | 11, _ => tyX11_ok
  | 12, _ => tyX12_ok
  | n + 13, h => absurd h (by omega)
theorem am_cnm : ∀ {ci : Nat}, ci < 13 → ∀ a, a < am_N ci → ∀ b, b < am_N ci → a ≠ b → (am_T ci a).2.1 ≠ (am_T ci b).2.1
  | 0, _ => nmX0
  | 1, _ => nmX1
  | 2, _ => nmX2
  | 3, _ => nmX3
  | 4, _ => nmX4
  | 5, _ => nmX5
  | 6, _ => nmX6
  | 7, _ => nmX7
  | 8, _ => nmX8
  | 9, _ => nmX9
  | 10, _ => nmX10
  | 11, _ => nmX11
  | 12, _ => nmX12
  | n + 13, h => absurd h (by omega)
theorem am_ck0 : am_w1 492 (.instantiable RX0 (am_N 0)) = true := by decide +kernel
theorem am_cj0 : am_w1 185 (.initialized RX0) = true := by decide +kernel
theorem am_ck1 : am_w1 470 (.instantiable RX1 (am_N 1)) = true := by decide +kernel
theorem am_cj1 : am_w1 184 (.initialized RX1) = true := by decide +kernel
theorem am_ck2 : am_w1 330 (.instantiable RX2 (am_N 2)) = true := by decide +kernel
theorem am_cj2 : am_w1 179 (.initialized RX2) = true := by decide +kernel
theorem am_ck3 : am_w1 378 (.instantiable RX3 (am_N 3)) = true := by decide +kernel
theorem am_cj3 : am_w1 181 (.initialized RX3) = true := by decide +kernel
theorem am_ck4 : am_w1 336 (.instantiable RX4 (am_N 4)) = true := by decide +kernel
theorem am_cj4 : am_w1 180 (.initialized RX4) = true := by decide +kernel
theorem am_ck5 : am_w1 237 (.instantiable RX5 (am_N 5)) = true := by decide +kernel
theorem am_cj5 : am_w1 177 (.initialized RX5) = true := by decide +kernel
theorem am_ck6 : am_w1 273 (.instantiable RX6 (am_N 6)) = true := by decide +kernel
theorem am_cj6 : am_w1 178 (.initialized RX6) = true := by decide +kernel
theorem am_ck7 : am_w1 442 (.instantiable RX7 (am_N 7)) = true := by decide +kernel
theorem am_cj7 : am_w1 183 (.initialized RX7) = true := by decide +kernel
theorem am_ck8 : am_w1 407 (.instantiable RX8 (am_N 8)) = true := by decide +kernel
theorem am_cj8 : am_w1 182 (.initialized RX8) = true := by decide +kernel
theorem am_ck9 : am_w1 206 (.instantiable RX9 (am_N 9)) = true := by decide +kernel
theorem am_cj9 : am_w1 176 (.initialized RX9) = true := by decide +kernel
theorem am_ck10 : am_w1 528 (.instantiable RX10 (am_N 10)) = true := by decide +kernel
theorem am_cj10 : am_w1 186 (.initialized RX10) = true := by decide +kernel
theorem am_ck11 : am_w1 198 (.instantiable RX11 (am_N 11)) = true := by decide +kernel
theorem am_cj11 : am_w1 175 (.initialized RX11) = true := by decide +kernel
theorem am_ck12 : am_w1 1459 (.instantiable RX12 (am_N 12)) = true := by decide +kernel
theorem am_cj12 : am_w1 187 (.initialized RX12) = true := by decide +kernel
theorem am_cnew : ∀ {ci : Nat}, ci < 13 → Cond.instantiable (am_Rn ci) (am_N ci) ∈ am_gw ∧ Cond.initialized (am_Rn ci) ∈ am_gw
  | 0, _ => ⟨am_gw_in (am_w1_mem am_ck0) rfl, am_gw_in (am_w1_mem am_cj0) rfl⟩
  | 1, _ => ⟨am_gw_in (am_w1_mem am_ck1) rfl, am_gw_in (am_w1_mem am_cj1) rfl⟩
  | 2, _ => ⟨am_gw_in (am_w1_mem am_ck2) rfl, am_gw_in (am_w1_mem am_cj2) rfl⟩
  | 3, _ => ⟨am_gw_in (am_w1_mem am_ck3) rfl, am_gw_in (am_w1_mem am_cj3) rfl⟩
  | 4, _ => ⟨am_gw_in (am_w1_mem am_ck4) rfl, am_gw_in (am_w1_mem am_cj4) rfl⟩
  | 5, _ => ⟨am_gw_in (am_w1_mem am_ck5) rfl, am_gw_in (am_w1_mem am_cj5) rfl⟩
  | 6, _ => ⟨am_gw_in (am_w1_mem am_ck6) rfl, am_gw_in (am_w1_mem am_cj6) rfl⟩
  | 7, _ => ⟨am_gw_in (am_w1_mem am_ck7) rfl, am_gw_in (am_w1_mem am_cj7) rfl⟩
  | 8, _ => ⟨am_gw_in (am_w1_mem am_ck8) rfl, am_gw_in (am_w1_mem am_cj8) rfl⟩
  | 9, _ => ⟨am_gw_in (am_w1_mem am_ck9) rfl, am_gw_in (am_w1_mem am_cj9) rfl⟩
  | 10, _ => ⟨am_gw_in (am_w1_mem am_ck10) rfl, am_gw_in (am_w1_mem am_cj10) rfl⟩
  | 11, _ => ⟨am_gw_in (am_w1_mem am_ck11) rfl, am_gw_in (am_w1_mem am_cj11) rfl⟩
  | 12, _ => ⟨am_gw_in (am_w1_mem am_ck12) rfl, am_gw_in (am_w1_mem am_cj12) rfl⟩
  | n + 13, h => absurd h (by omega)
theorem am_ca_int : Cond.arrayClass .int ∈ am_gw := am_gw_in (am_w1_mem (j := 235) (by decide +kernel)) rfl
theorem am_ca_long : Cond.arrayClass .long ∈ am_gw := am_gw_in (am_w1_mem (j := 348) (by decide +kernel)) rfl
theorem am_ca_byte : Cond.arrayClass .byte ∈ am_gw := am_gw_in (am_w1_mem (j := 234) (by decide +kernel)) rfl
theorem am_ca_boolean : Cond.arrayClass .boolean ∈ am_gw := am_gw_in (am_w1_mem (j := 1600) (by decide +kernel)) rfl
