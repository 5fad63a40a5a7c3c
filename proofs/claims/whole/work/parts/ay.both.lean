/-! BOTH: each call answers the same in the class and in the model -/
section
variable {i i2 : Nat → Nat → Int32} {l l2 : Nat → Nat → Int64} {q : Nat → Nat → Option Nat} {K : List (Nat × Nat)} {n : Nat} {σ : St}
/-- both come to the same answer and to states that agree -/
def BO (lg : Bool) (n zx zm : Nat) (a : List Value) (sx sm : aM) : Prop := ∃ vv σ', cond lg (∃ r : Int64, vv = .long r) (∃ r : Int32, vv = .int r) ∧ XO n σ' vv (am_cl 64 zx (.ref 0 :: a) sx) ∧ MR (some vv) (fun i' l' => MS i' l' σ') (am_cl 64 zm (.ref 0 :: a) sm)
theorem bo_feed (a b c e f : Int32) (hn : n < 1000000) (hX : XS n σ i l q K) (hM : MS i2 l2 σ) : BO false n mX_feed mM_feed [.int a, .int b, .int c, .int e, .int f] (i, l, rX q, kX K) (i2, l2, rM, kM) := by
  obtain ⟨ρ, W, v, r, m, hC, hP, hM', hY, hB, hF, hXG, hN, hRI, hv, h8, hI, hZ⟩ := id hX
  exact ⟨_, _, ⟨_, rfl⟩, XS_feed a b c e f 62 hX, r_M_feed 63 a b c e f hM hI.2.2.2.2.1⟩
theorem bo_river (x : Int32) (hn : n < 1000000) (hX : XS n σ i l q K) (hM : MS i2 l2 σ) : BO false n mX_river mM_river [.int x] (i, l, rX q, kX K) (i2, l2, rM, kM) := by
  obtain ⟨ρ, W, v, r, m, hC, hP, hM', hY, hB, hF, hXG, hN, hRI, hv, h8, hI, hZ⟩ := id hX
  exact ⟨_, _, ⟨_, rfl⟩, XS_river x 33 hX, r_M_river 34 x hM hI.2.2.2.2.1 hI.2.2.2.2.2⟩
theorem bo_fault (x : Int32) (hn : n < 1000000) (hX : XS n σ i l q K) (hM : MS i2 l2 σ) : BO false n mX_fault mM_fault [.int x] (i, l, rX q, kX K) (i2, l2, rM, kM) := by
  obtain ⟨ρ, W, v, r, m, hC, hP, hM', hY, hB, hF, hXG, hN, hRI, hv, h8, hI, hZ⟩ := id hX
  exact ⟨_, _, ⟨_, rfl⟩, XS_id hX (y_X_fault 63 x hB), r_M_fault 63 x hM ⟩
theorem bo_person (x y : Int32) (hn : n < 1000000) (hX : XS n σ i l q K) (hM : MS i2 l2 σ) : BO false n mX_person mM_person [.int x, .int y] (i, l, rX q, kX K) (i2, l2, rM, kM) := by
  obtain ⟨ρ, W, v, r, m, hC, hP, hM', hY, hB, hF, hXG, hN, hRI, hv, h8, hI, hZ⟩ := id hX
  exact ⟨_, _, ⟨_, rfl⟩, XS_yr hX (fun ρ r m hC hF _ _ => y_X_person 58 x y hC hF), r_M_person 57 x y hM hI.1⟩
theorem bo_spot (x y : Int32) (hn : n < 1000000) (hX : XS n σ i l q K) (hM : MS i2 l2 σ) : BO false n mX_spot mM_spot [.int x, .int y] (i, l, rX q, kX K) (i2, l2, rM, kM) := by
  obtain ⟨ρ, W, v, r, m, hC, hP, hM', hY, hB, hF, hXG, hN, hRI, hv, h8, hI, hZ⟩ := id hX
  exact ⟨_, _, ⟨_, rfl⟩, XS_yr hX (fun ρ r m hC hF _ _ => y_X_spot 60 x y hC hF), r_M_spot 60 x y hM hI.1⟩
theorem bo_trusts (x y z : Int32) (hn : n < 1000000) (hX : XS n σ i l q K) (hM : MS i2 l2 σ) : BO false n mX_trusts mM_trusts [.int x, .int y, .int z] (i, l, rX q, kX K) (i2, l2, rM, kM) := by
  obtain ⟨ρ, W, v, r, m, hC, hP, hM', hY, hB, hF, hXG, hN, hRI, hv, h8, hI, hZ⟩ := id hX
  exact ⟨_, _, ⟨_, rfl⟩, XS_yr hX (fun ρ r m hC hF _ _ => y_X_trusts 60 x y z hC hF), r_M_trusts 60 x y z hM hI.1⟩
theorem bo_holds (x y : Int32) (hn : n < 1000000) (hX : XS n σ i l q K) (hM : MS i2 l2 σ) : BO false n mX_holds mM_holds [.int x, .int y] (i, l, rX q, kX K) (i2, l2, rM, kM) := by
  obtain ⟨ρ, W, v, r, m, hC, hP, hM', hY, hB, hF, hXG, hN, hRI, hv, h8, hI, hZ⟩ := id hX
  exact ⟨_, _, ⟨_, rfl⟩, XS_yr hX (fun ρ r m hC hF _ _ => y_X_holds 59 x y hC hF), r_M_holds 59 x y hM hI.1⟩
theorem bo_steps (x y : Int32) (hn : n < 1000000) (hX : XS n σ i l q K) (hM : MS i2 l2 σ) : BO false n mX_steps mM_steps [.int x, .int y] (i, l, rX q, kX K) (i2, l2, rM, kM) := by
  obtain ⟨ρ, W, v, r, m, hC, hP, hM', hY, hB, hF, hXG, hN, hRI, hv, h8, hI, hZ⟩ := id hX
  exact ⟨_, _, ⟨_, rfl⟩, XS_yr hX (fun ρ r m hC hF _ _ => y_X_steps 58 x y hC hF), r_M_steps 57 x y hM hI.1⟩
theorem bo_go (x y : Int32) (hn : n < 1000000) (hX : XS n σ i l q K) (hM : MS i2 l2 σ) : BO false n mX_go mM_go [.int x, .int y] (i, l, rX q, kX K) (i2, l2, rM, kM) := by
  obtain ⟨ρ, W, v, r, m, hC, hP, hM', hY, hB, hF, hXG, hN, hRI, hv, h8, hI, hZ⟩ := id hX
  exact ⟨_, _, ⟨_, rfl⟩, XS_dr hX (so_go x y hI) (SI_go x y hI) (fun ρ r m hC hF hP hY hI => y_X_go 57 x y hC hF hP hI), r_M_go 56 x y hM hI.1 hI.2.1.1⟩
theorem bo_flood (x : Int32) (hn : n < 1000000) (hX : XS n σ i l q K) (hM : MS i2 l2 σ) : BO false n mX_flood mM_flood [.int x] (i, l, rX q, kX K) (i2, l2, rM, kM) := by
  obtain ⟨ρ, W, v, r, m, hC, hP, hM', hY, hB, hF, hXG, hN, hRI, hv, h8, hI, hZ⟩ := id hX
  exact ⟨_, _, ⟨_, rfl⟩, XS_dr hX (so_flood x hI) (SI_flood x hI) (fun ρ r m hC hF hP hY hI => y_X_flood 58 x hC hF hP hI), r_M_flood 56 x hM hI.1 hI.2.1.1⟩
theorem bo_strength (x y : Int32) (hn : n < 1000000) (hX : XS n σ i l q K) (hM : MS i2 l2 σ) : BO false n mX_strength mM_strength [.int x, .int y] (i, l, rX q, kX K) (i2, l2, rM, kM) := by
  obtain ⟨ρ, W, v, r, m, hC, hP, hM', hY, hB, hF, hXG, hN, hRI, hv, h8, hI, hZ⟩ := id hX
  exact ⟨_, _, ⟨_, rfl⟩, XS_dr hX (so_strength x y hI) (SI_strength x y hI) (fun ρ r m hC hF hP hY hI => y_X_strength 61 x y hC hF hP hI), r_M_strength 61 x y hM hI.1 hI.2.1.1⟩
theorem bo_depth (x y : Int32) (hn : n < 1000000) (hX : XS n σ i l q K) (hM : MS i2 l2 σ) : BO false n mX_depth mM_depth [.int x, .int y] (i, l, rX q, kX K) (i2, l2, rM, kM) := by
  obtain ⟨ρ, W, v, r, m, hC, hP, hM', hY, hB, hF, hXG, hN, hRI, hv, h8, hI, hZ⟩ := id hX
  exact ⟨_, _, ⟨_, rfl⟩, XS_dr hX (so_depth x y hI) (SI_depth x y hI) (fun ρ r m hC hF hP hY hI => y_X_depth 61 x y hC hF hP hI), r_M_depth 61 x y hM hI.1 hI.2.1.1⟩
theorem bo_undo (x : Int32) (hn : n < 1000000) (hX : XS n σ i l q K) (hM : MS i2 l2 σ) : BO false n mX_undo mM_undo [.int x] (i, l, rX q, kX K) (i2, l2, rM, kM) := by
  obtain ⟨ρ, W, v, r, m, hC, hP, hM', hY, hB, hF, hXG, hN, hRI, hv, h8, hI, hZ⟩ := id hX
  exact ⟨_, _, ⟨_, rfl⟩, XS_dr hX (so_undo x) (SI_undo x hI) (fun ρ r m hC hF hP hY hI => y_X_undo 63 x hC hF hP hI), r_M_undo 62 x hM hI.2.1.1⟩
theorem bo_judge (x y : Int32) (hn : n < 1000000) (hX : XS n σ i l q K) (hM : MS i2 l2 σ) : BO false n mX_judge mM_judge [.int x, .int y] (i, l, rX q, kX K) (i2, l2, rM, kM) := by
  obtain ⟨ρ, W, v, r, m, hC, hP, hM', hY, hB, hF, hXG, hN, hRI, hv, h8, hI, hZ⟩ := id hX
  exact ⟨_, _, ⟨_, rfl⟩, XS_yr hX (fun ρ r m hC hF hY hI => y_X_judge 55 x y hC hF hY hI), r_M_judge 54 x y hM hI.1 hI.2.2.2.1⟩
theorem bo_perform (x : Int32) (hn : n < 1000000) (hX : XS n σ i l q K) (hM : MS i2 l2 σ) : BO false n mX_perform mM_perform [.int x] (i, l, rX q, kX K) (i2, l2, rM, kM) := by
  obtain ⟨ρ, W, v, r, m, hC, hP, hM', hY, hB, hF, hXG, hN, hRI, hv, h8, hI, hZ⟩ := id hX
  exact ⟨_, _, ⟨_, rfl⟩, XS_dr hX (so_perform x hI) (SI_perform x hI) (fun ρ r m hC hF hP hY hI => y_X_perform 55 x hC hF hP hY hI), r_M_perform 54 x hM hI.1 hI.2.1.1 hI.2.2.2.1⟩
theorem bo_season (x y : Int32) (hn : n < 1000000) (hX : XS n σ i l q K) (hM : MS i2 l2 σ) : BO false n mX_season mM_season [.int x, .int y] (i, l, rX q, kX K) (i2, l2, rM, kM) := by
  obtain ⟨ρ, W, v, r, m, hC, hP, hM', hY, hB, hF, hXG, hN, hRI, hv, h8, hI, hZ⟩ := id hX
  exact ⟨_, _, ⟨_, rfl⟩, XS_dr hX (so_season x y hI) (SI_season x y hI) (fun ρ r m hC hF hP hY hI => y_X_season 55 x y hC hF hP hI), r_M_season 55 x y hM hI.1 hI.2.1.1⟩
theorem bo_soonest (x : Int32) (hn : n < 1000000) (hX : XS n σ i l q K) (hM : MS i2 l2 σ) : BO false n mX_soonest mM_soonest [.int x] (i, l, rX q, kX K) (i2, l2, rM, kM) := by
  obtain ⟨ρ, W, v, r, m, hC, hP, hM', hY, hB, hF, hXG, hN, hRI, hv, h8, hI, hZ⟩ := id hX
  exact ⟨_, _, ⟨_, rfl⟩, XS_gr hn hX (fun ρ W v r m hA => y_X_soonest 55 x hA), r_M_soonest 55 x hM hI.1⟩
theorem bo_way (x y : Int32) (hn : n < 1000000) (hX : XS n σ i l q K) (hM : MS i2 l2 σ) : BO false n mX_way mM_way [.int x, .int y] (i, l, rX q, kX K) (i2, l2, rM, kM) := by
  obtain ⟨ρ, W, v, r, m, hC, hP, hM', hY, hB, hF, hXG, hN, hRI, hv, h8, hI, hZ⟩ := id hX
  exact ⟨_, _, ⟨_, rfl⟩, XS_gr hn hX (fun ρ W v r m hA => y_X_way 55 x y hA), r_M_way 55 x y hM hI.1⟩
theorem bo_rows (x y : Int32) (hn : n < 1000000) (hX : XS n σ i l q K) (hM : MS i2 l2 σ) : BO true n mX_rows mM_rows [.int x, .int y] (i, l, rX q, kX K) (i2, l2, rM, kM) := by
  obtain ⟨ρ, W, v, r, m, hC, hP, hM', hY, hB, hF, hXG, hN, hRI, hv, h8, hI, hZ⟩ := id hX
  exact ⟨_, _, ⟨_, rfl⟩, XS_gr hn hX (fun ρ W v r m hA => y_X_rows 55 x y hA), r_M_rows 56 x y hM hI.1⟩
theorem bo_needed (x : Int32) (hn : n < 1000000) (hX : XS n σ i l q K) (hM : MS i2 l2 σ) : BO false n mX_needed mM_needed [.int x] (i, l, rX q, kX K) (i2, l2, rM, kM) := by
  obtain ⟨ρ, W, v, r, m, hC, hP, hM', hY, hB, hF, hXG, hN, hRI, hv, h8, hI, hZ⟩ := id hX
  exact ⟨_, _, ⟨_, rfl⟩, XS_gr hn hX (fun ρ W v r m hA => y_X_needed 55 x hA), r_M_needed 55 x hM hI.1⟩
theorem bo_movers (x : Int32) (hn : n < 1000000) (hX : XS n σ i l q K) (hM : MS i2 l2 σ) : BO false n mX_movers mM_movers [.int x] (i, l, rX q, kX K) (i2, l2, rM, kM) := by
  obtain ⟨ρ, W, v, r, m, hC, hP, hM', hY, hB, hF, hXG, hN, hRI, hv, h8, hI, hZ⟩ := id hX
  exact ⟨_, _, ⟨_, rfl⟩, XS_gr hn hX (fun ρ W v r m hA => y_X_movers 55 x hA), r_M_movers 55 x hM hI.1⟩
theorem bo_most (hn : n < 1000000) (hX : XS n σ i l q K) (hM : MS i2 l2 σ) : BO false n mX_most mM_most [] (i, l, rX q, kX K) (i2, l2, rM, kM) := by
  obtain ⟨ρ, W, v, r, m, hC, hP, hM', hY, hB, hF, hXG, hN, hRI, hv, h8, hI, hZ⟩ := id hX
  exact ⟨_, _, ⟨_, rfl⟩, XS_gr hn hX (fun ρ W v r m hA => y_X_most 55  hA), r_M_most 56 hM hI.1⟩
theorem bo_reach (x : Int32) (hn : n < 1000000) (hX : XS n σ i l q K) (hM : MS i2 l2 σ) : BO false n mX_reach mM_reach [.int x] (i, l, rX q, kX K) (i2, l2, rM, kM) := by
  obtain ⟨ρ, W, v, r, m, hC, hP, hM', hY, hB, hF, hXG, hN, hRI, hv, h8, hI, hZ⟩ := id hX
  exact ⟨_, _, ⟨_, rfl⟩, XS_gr hn hX (fun ρ W v r m hA => y_X_reach 55 x hA), r_M_reach 56 x hM hI.1⟩
theorem bo_stands (hn : n < 1000000) (hX : XS n σ i l q K) (hM : MS i2 l2 σ) : BO false n mX_stands mM_stands [] (i, l, rX q, kX K) (i2, l2, rM, kM) := by
  obtain ⟨ρ, W, v, r, m, hC, hP, hM', hY, hB, hF, hXG, hN, hRI, hv, h8, hI, hZ⟩ := id hX
  exact ⟨_, _, ⟨_, rfl⟩, XS_gr hn hX (fun ρ W v r m hA => y_X_stands 55  hA), r_M_stands 56 hM hI.1⟩
theorem bo_stride (x : Int32) (hn : n < 1000000) (hX : XS n σ i l q K) (hM : MS i2 l2 σ) : BO false n mX_stride mM_stride [.int x] (i, l, rX q, kX K) (i2, l2, rM, kM) := by
  obtain ⟨ρ, W, v, r, m, hC, hP, hM', hY, hB, hF, hXG, hN, hRI, hv, h8, hI, hZ⟩ := id hX
  exact ⟨_, _, ⟨_, rfl⟩, XS_yr hX (fun ρ r m hC hF _ _ => y_X_stride 58 x hC hF), r_M_stride 57 x hM hI.1⟩
theorem bo_swept (x : Int32) (hn : n < 1000000) (hX : XS n σ i l q K) (hM : MS i2 l2 σ) : BO false n mX_swept mM_swept [.int x] (i, l, rX q, kX K) (i2, l2, rM, kM) := by
  obtain ⟨ρ, W, v, r, m, hC, hP, hM', hY, hB, hF, hXG, hN, hRI, hv, h8, hI, hZ⟩ := id hX
  exact ⟨_, _, ⟨_, rfl⟩, XS_yr hX (fun ρ r m hC hF _ _ => y_X_swept 58 x hC hF), r_M_swept 56 x hM hI.1⟩
theorem bo_least (x : Int32) (hn : n < 1000000) (hX : XS n σ i l q K) (hM : MS i2 l2 σ) : BO false n mX_least mM_least [.int x] (i, l, rX q, kX K) (i2, l2, rM, kM) := by
  obtain ⟨ρ, W, v, r, m, hC, hP, hM', hY, hB, hF, hXG, hN, hRI, hv, h8, hI, hZ⟩ := id hX
  exact ⟨_, _, ⟨_, rfl⟩, XS_yr hX (fun ρ r m hC hF _ _ => y_X_least 58 x hC hF), r_M_least 56 x hM hI.1⟩
theorem bo_calm (hn : n < 1000000) (hX : XS n σ i l q K) (hM : MS i2 l2 σ) : BO false n mX_calm mM_calm [] (i, l, rX q, kX K) (i2, l2, rM, kM) := by
  obtain ⟨ρ, W, v, r, m, hC, hP, hM', hY, hB, hF, hXG, hN, hRI, hv, h8, hI, hZ⟩ := id hX
  exact ⟨_, _, ⟨_, rfl⟩, XS_yr hX (fun ρ r m hC hF _ _ => y_X_calm 58  hC hF), r_M_calm 56 hM hI.1⟩
theorem bo_looks (x : Int32) (hn : n < 1000000) (hX : XS n σ i l q K) (hM : MS i2 l2 σ) : BO false n mX_looks mM_looks [.int x] (i, l, rX q, kX K) (i2, l2, rM, kM) := by
  obtain ⟨ρ, W, v, r, m, hC, hP, hM', hY, hB, hF, hXG, hN, hRI, hv, h8, hI, hZ⟩ := id hX
  exact ⟨_, _, ⟨_, rfl⟩, XS_yr hX (fun ρ r m hC hF _ _ => y_X_looks 58 x hC hF), r_M_looks 57 x hM hI.1⟩
theorem bo_orders (hn : n < 1000000) (hX : XS n σ i l q K) (hM : MS i2 l2 σ) : BO false n mX_orders mM_orders [] (i, l, rX q, kX K) (i2, l2, rM, kM) := by
  obtain ⟨ρ, W, v, r, m, hC, hP, hM', hY, hB, hF, hXG, hN, hRI, hv, h8, hI, hZ⟩ := id hX
  exact ⟨_, _, ⟨_, rfl⟩, XS_yr hX (fun ρ r m hC hF _ _ => y_X_orders 57  hC hF), r_M_orders 51 hM hI.1⟩
theorem bo_order (x : Int32) (hn : n < 1000000) (hX : XS n σ i l q K) (hM : MS i2 l2 σ) : BO false n mX_order mM_order [.int x] (i, l, rX q, kX K) (i2, l2, rM, kM) := by
  obtain ⟨ρ, W, v, r, m, hC, hP, hM', hY, hB, hF, hXG, hN, hRI, hv, h8, hI, hZ⟩ := id hX
  exact ⟨_, _, ⟨_, rfl⟩, XS_yr hX (fun ρ r m hC hF _ _ => y_X_order 57 x hC hF), r_M_order 51 x hM hI.1⟩
theorem bo_firsts (hn : n < 1000000) (hX : XS n σ i l q K) (hM : MS i2 l2 σ) : BO false n mX_firsts mM_firsts [] (i, l, rX q, kX K) (i2, l2, rM, kM) := by
  obtain ⟨ρ, W, v, r, m, hC, hP, hM', hY, hB, hF, hXG, hN, hRI, hv, h8, hI, hZ⟩ := id hX
  exact ⟨_, _, ⟨_, rfl⟩, XS_yr hX (fun ρ r m hC hF _ _ => y_X_firsts 57  hC hF), r_M_firsts 51 hM hI.1⟩
theorem bo_strengths (x y : Int32) (hn : n < 1000000) (hX : XS n σ i l q K) (hM : MS i2 l2 σ) : BO false n mX_strengths mM_strengths [.int x, .int y] (i, l, rX q, kX K) (i2, l2, rM, kM) := by
  obtain ⟨ρ, W, v, r, m, hC, hP, hM', hY, hB, hF, hXG, hN, hRI, hv, h8, hI, hZ⟩ := id hX
  exact ⟨_, _, ⟨_, rfl⟩, XS_yr hX (fun ρ r m hC hF hY hI => y_X_strengths 57 x y hC hF hY hI), r_M_strengths 58 x y hM hI.1 hI.2.2.2.1⟩
theorem bo_attempt (x y : Int32) (hn : n < 1000000) (hX : XS n σ i l q K) (hM : MS i2 l2 σ) : BO false n mX_attempt mM_attempt [.int x, .int y] (i, l, rX q, kX K) (i2, l2, rM, kM) := by
  obtain ⟨ρ, W, v, r, m, hC, hP, hM', hY, hB, hF, hXG, hN, hRI, hv, h8, hI, hZ⟩ := id hX
  exact ⟨_, _, ⟨_, rfl⟩, XS_yr hX (fun ρ r m hC hF hY hI => y_X_attempt 57 x y hC hF hY hI), r_M_attempt 58 x y hM hI.1 hI.2.2.2.1⟩
theorem bo_pairs (x : Int32) (hn : n < 1000000) (hX : XS n σ i l q K) (hM : MS i2 l2 σ) : BO false n mX_pairs mM_pairs [.int x] (i, l, rX q, kX K) (i2, l2, rM, kM) := by
  obtain ⟨ρ, W, v, r, m, hC, hP, hM', hY, hB, hF, hXG, hN, hRI, hv, h8, hI, hZ⟩ := id hX
  exact ⟨_, _, ⟨_, rfl⟩, XS_yr hX (fun ρ r m hC hF _ _ => y_X_pairs 59 x hC hF), r_M_pairs 55 x hM hI.1⟩
theorem bo_forces (x : Int32) (hn : n < 1000000) (hX : XS n σ i l q K) (hM : MS i2 l2 σ) : BO false n mX_forces mM_forces [.int x] (i, l, rX q, kX K) (i2, l2, rM, kM) := by
  obtain ⟨ρ, W, v, r, m, hC, hP, hM', hY, hB, hF, hXG, hN, hRI, hv, h8, hI, hZ⟩ := id hX
  exact ⟨_, _, ⟨_, rfl⟩, XS_gr hn hX (fun ρ W v r m hA => y_X_forces 55 x hA), r_M_forces 55 x hM hI.1⟩
theorem bo_best (x : Int32) (hn : n < 1000000) (hX : XS n σ i l q K) (hM : MS i2 l2 σ) : BO false n mX_best mM_best [.int x] (i, l, rX q, kX K) (i2, l2, rM, kM) := by
  obtain ⟨ρ, W, v, r, m, hC, hP, hM', hY, hB, hF, hXG, hN, hRI, hv, h8, hI, hZ⟩ := id hX
  exact ⟨_, _, ⟨_, rfl⟩, XS_gr hn hX (fun ρ W v r m hA => y_X_best 55 x hA), r_M_best 55 x hM hI.1⟩
theorem bo_chance (x y z : Int32) (hn : n < 1000000) (hX : XS n σ i l q K) (hM : MS i2 l2 σ) : BO false n mX_chance mM_chance [.int x, .int y, .int z] (i, l, rX q, kX K) (i2, l2, rM, kM) := by
  obtain ⟨ρ, W, v, r, m, hC, hP, hM', hY, hB, hF, hXG, hN, hRI, hv, h8, hI, hZ⟩ := id hX
  exact ⟨_, _, ⟨_, rfl⟩, XS_yr hX (fun ρ r m hC hF _ _ => y_X_chance 57 x y z hC hF), r_M_chance 4 x y z hM hI.1⟩
theorem bo_mean (x y : Int32) (hn : n < 1000000) (hX : XS n σ i l q K) (hM : MS i2 l2 σ) : BO false n mX_mean mM_mean [.int x, .int y] (i, l, rX q, kX K) (i2, l2, rM, kM) := by
  obtain ⟨ρ, W, v, r, m, hC, hP, hM', hY, hB, hF, hXG, hN, hRI, hv, h8, hI, hZ⟩ := id hX
  exact ⟨_, _, ⟨_, rfl⟩, XS_yr hX (fun ρ r m hC hF _ _ => y_X_mean 57 x y hC hF), r_M_mean 4 x y hM hI.1⟩
theorem bo_numbers (x y z : Int32) (hn : n < 1000000) (hX : XS n σ i l q K) (hM : MS i2 l2 σ) : BO false n mX_numbers mM_numbers [.int x, .int y, .int z] (i, l, rX q, kX K) (i2, l2, rM, kM) := by
  obtain ⟨ρ, W, v, r, m, hC, hP, hM', hY, hB, hF, hXG, hN, hRI, hv, h8, hI, hZ⟩ := id hX
  exact ⟨_, _, ⟨_, rfl⟩, XS_numbers x y z 61 hX, r_M_numbers 62 x y z hM ⟩
theorem bo_write (x y : Int32) (u : Int64) (hn : n < 1000000) (hX : XS n σ i l q K) (hM : MS i2 l2 σ) : BO true n mX_write mM_write [.int x, .int y, .long u] (i, l, rX q, kX K) (i2, l2, rM, kM) := by
  obtain ⟨ρ, W, v, r, m, hC, hP, hM', hY, hB, hF, hXG, hN, hRI, hv, h8, hI, hZ⟩ := id hX
  exact ⟨_, _, ⟨_, rfl⟩, XS_write x y u 62 hX, r_M_write 61 x y u hM hI.2.2.2.1⟩
theorem bo_lists (x y : Int32) (hn : n < 1000000) (hX : XS n σ i l q K) (hM : MS i2 l2 σ) : BO false n mX_lists mM_lists [.int x, .int y] (i, l, rX q, kX K) (i2, l2, rM, kM) := by
  obtain ⟨ρ, W, v, r, m, hC, hP, hM', hY, hB, hF, hXG, hN, hRI, hv, h8, hI, hZ⟩ := id hX
  exact ⟨_, _, ⟨_, rfl⟩, XS_lists hn x y 55 hX, r_M_lists 55 x y hM hI.1 hI.2.2.2.1⟩
theorem bo_image (x : Int32) (hn : n < 1000000) (hX : XS n σ i l q K) (hM : MS i2 l2 σ) : BO false n mX_image mM_image [.int x] (i, l, rX q, kX K) (i2, l2, rM, kM) := by
  obtain ⟨ρ, W, v, r, m, hC, hP, hM', hY, hB, hF, hXG, hN, hRI, hv, h8, hI, hZ⟩ := id hX
  exact ⟨_, _, ⟨_, rfl⟩, XS_image x 63 hX, r_M_image 62 x hM ⟩
theorem bo_restore (x : Int32) (hn : n < 1000000) (hX : XS n σ i l q K) (hM : MS i2 l2 σ) : BO false n mX_restore mM_restore [.int x] (i, l, rX q, kX K) (i2, l2, rM, kM) := by
  obtain ⟨ρ, W, v, r, m, hC, hP, hM', hY, hB, hF, hXG, hN, hRI, hv, h8, hI, hZ⟩ := id hX
  exact ⟨_, _, ⟨_, rfl⟩, XS_restore x 63 hX, r_M_restore 62 x hM ⟩
theorem bo_count (x : Int32) (hn : n < 1000000) (hX : XS n σ i l q K) (hM : MS i2 l2 σ) : BO false n mX_count mM_count [.int x] (i, l, rX q, kX K) (i2, l2, rM, kM) := by
  obtain ⟨ρ, W, v, r, m, hC, hP, hM', hY, hB, hF, hXG, hN, hRI, hv, h8, hI, hZ⟩ := id hX
  exact ⟨_, _, ⟨_, rfl⟩, XS_id hX (y_X_count 61 x hC hP hB), r_M_count 60 x hM hI.1⟩
end
