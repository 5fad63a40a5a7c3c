/-! THE WAY OF WORKING: numbers, conditions, loops -/
theorem q_le {a b : Nat} (ha : a < 2147483648) (hb : b < 2147483648) : (nI a ≤ nI b) = (a ≤ b) := propext (nI_leI ha hb)
theorem q_lt {a b : Nat} (ha : a < 2147483648) (hb : b < 2147483648) : (nI a < nI b) = (a < b) := propext (nI_ltI ha hb)
theorem q_eq {a b : Nat} (ha : a < 2147483648) (hb : b < 2147483648) : (nI a = nI b) = (a = b) := propext (nI_eq ha hb)
theorem q_leT {a b : Nat} (h : a ≤ b) : (a ≤ b) = True := eq_true h
theorem q_leF {a b : Nat} (h : b < a) : (a ≤ b) = False := eq_false (Nat.not_le.mpr h)
theorem q_ltT {a b : Nat} (h : a < b) : (a < b) = True := eq_true h
theorem q_ltF {a b : Nat} (h : b ≤ a) : (a < b) = False := eq_false (Nat.not_lt.mpr h)
theorem q_eqT {a b : Nat} (h : a = b) : (a = b) = True := eq_true h
theorem q_eqF {a b : Nat} (h : a ≠ b) : (a = b) = False := eq_false h
theorem q_dec {a : Nat} (h : 1 ≤ a) : nI a + -nI 1 = nI (a - 1) := by
  obtain ⟨b, rfl⟩ : ∃ b, a = b + 1 := ⟨a - 1, by omega⟩
  exact pk_m1 b
theorem q_ix {a : Nat} (h : a < 2147483648) : (nI a).toNatClampNeg = a := nI_clamp h
theorem q_in {x : Int32} {n : Nat} {α : Type} {X Y : α} : cond (am_in x n) X Y = if 0 ≤ x ∧ x.toNatClampNeg < n then X else Y := by
  unfold am_in
  by_cases h1 : 0 ≤ x <;> by_cases h2 : x.toNatClampNeg < n <;> simp [h1, h2]
theorem q_m1 {a : Nat} (h : a < 2147483648) : (nI a = -nI 1) = False := eq_false (fun z => by
  have e := congrArg Int32.toInt z
  rw [nI_toInt h] at e
  have e2 : (-nI 1).toInt = -1 := rfl
  omega)
theorem q_m1' {a : Nat} (h : a < 2147483648) : (-nI 1 = nI a) = False := eq_false (fun z => by
  have e := q_m1 h
  rw [z] at e
  simp at e)
theorem q_ret {c : Prop} [Decidable c] {X : Option aR} : cond (decide ((if c then nI 1 else nI 0) = nI 0) || decide ((if c then nI 1 else nI 0) = nI 1)) X none = X := by
  split <;> rfl
theorem q_bool {c : Prop} [Decidable c] : ((if c then nI 1 else nI 0) = nI 0) = ¬ c := by
  by_cases h : c
  · rw [if_pos h]; exact propext ⟨fun z => absurd z (by decide), fun z => absurd h z⟩
  · rw [if_neg h]; exact propext ⟨fun _ => h, fun _ => rfl⟩
theorem q_bool1 {c : Prop} [Decidable c] : ((if c then nI 1 else nI 0) = nI 1) = c := by
  by_cases h : c
  · rw [if_pos h]; exact propext ⟨fun _ => h, fun _ => rfl⟩
  · rw [if_neg h]; exact propext ⟨fun z => absurd z (by decide), fun z => absurd z h⟩
theorem q_u2 {α : Type} (f : Nat → Nat → α) (a k : Nat) (v : α) (b j : Nat) : am_u2 f a k v b j = if b = a then (if j = k then v else f b j) else f b j := rfl
theorem q_u1 {α : Type} (f : Nat → Nat → α) (a : Nat) (g : Nat → α) (b j : Nat) : am_u1 f a g b j = if b = a then g j else f b j := rfl
theorem q_app {α : Type} (x : α) (l : List α) : Option.toList (some x) ++ l = x :: l := rfl
theorem q_app0 {α : Type} (l : List α) : Option.toList (none : Option α) ++ l = l := rfl
theorem am_for {d y pc : Nat} (L : Nat → List Slot) (S : Nat → aM) (n : Nat) (h : ∀ k, k < n → am_Ex d y pc (L k) [] (S k) = am_Ex d y pc (L (k + 1)) [] (S (k + 1))) : am_Ex d y pc (L 0) [] (S 0) = am_Ex d y pc (L n) [] (S n) := by
  induction n with
  | zero => rfl
  | succ n ih => rw [ih (fun k hk => h k (by omega)), h n (by omega)]
theorem l_0 : (0 : Int32) = nI 0 := rfl
theorem l_1 : (1 : Int32) = nI 1 := rfl
theorem l_2 : (2 : Int32) = nI 2 := rfl
theorem l_3 : (3 : Int32) = nI 3 := rfl
theorem l_4 : (4 : Int32) = nI 4 := rfl
theorem l_5 : (5 : Int32) = nI 5 := rfl
theorem l_6 : (6 : Int32) = nI 6 := rfl
theorem l_7 : (7 : Int32) = nI 7 := rfl
theorem l_8 : (8 : Int32) = nI 8 := rfl
theorem l_9 : (9 : Int32) = nI 9 := rfl
theorem l_10 : (10 : Int32) = nI 10 := rfl
theorem l_11 : (11 : Int32) = nI 11 := rfl
theorem l_12 : (12 : Int32) = nI 12 := rfl
theorem l_13 : (13 : Int32) = nI 13 := rfl
theorem l_14 : (14 : Int32) = nI 14 := rfl
theorem l_15 : (15 : Int32) = nI 15 := rfl
theorem l_16 : (16 : Int32) = nI 16 := rfl
theorem l_17 : (17 : Int32) = nI 17 := rfl
theorem l_18 : (18 : Int32) = nI 18 := rfl
theorem l_19 : (19 : Int32) = nI 19 := rfl
theorem l_20 : (20 : Int32) = nI 20 := rfl
theorem l_21 : (21 : Int32) = nI 21 := rfl
theorem l_22 : (22 : Int32) = nI 22 := rfl
theorem l_23 : (23 : Int32) = nI 23 := rfl
theorem l_24 : (24 : Int32) = nI 24 := rfl
theorem l_25 : (25 : Int32) = nI 25 := rfl
theorem l_26 : (26 : Int32) = nI 26 := rfl
theorem l_27 : (27 : Int32) = nI 27 := rfl
theorem l_28 : (28 : Int32) = nI 28 := rfl
theorem l_29 : (29 : Int32) = nI 29 := rfl
theorem l_30 : (30 : Int32) = nI 30 := rfl
theorem l_31 : (31 : Int32) = nI 31 := rfl
theorem l_32 : (32 : Int32) = nI 32 := rfl
theorem l_33 : (33 : Int32) = nI 33 := rfl
theorem l_34 : (34 : Int32) = nI 34 := rfl
theorem l_35 : (35 : Int32) = nI 35 := rfl
theorem l_36 : (36 : Int32) = nI 36 := rfl
theorem l_37 : (37 : Int32) = nI 37 := rfl
theorem l_38 : (38 : Int32) = nI 38 := rfl
theorem l_39 : (39 : Int32) = nI 39 := rfl
theorem l_40 : (40 : Int32) = nI 40 := rfl
theorem l_41 : (41 : Int32) = nI 41 := rfl
theorem l_42 : (42 : Int32) = nI 42 := rfl
theorem l_43 : (43 : Int32) = nI 43 := rfl
theorem l_44 : (44 : Int32) = nI 44 := rfl
theorem l_45 : (45 : Int32) = nI 45 := rfl
theorem l_46 : (46 : Int32) = nI 46 := rfl
theorem l_47 : (47 : Int32) = nI 47 := rfl
theorem l_48 : (48 : Int32) = nI 48 := rfl
theorem l_49 : (49 : Int32) = nI 49 := rfl
theorem l_50 : (50 : Int32) = nI 50 := rfl
theorem l_51 : (51 : Int32) = nI 51 := rfl
theorem l_52 : (52 : Int32) = nI 52 := rfl
theorem l_53 : (53 : Int32) = nI 53 := rfl
theorem l_54 : (54 : Int32) = nI 54 := rfl
theorem l_55 : (55 : Int32) = nI 55 := rfl
theorem l_56 : (56 : Int32) = nI 56 := rfl
theorem l_57 : (57 : Int32) = nI 57 := rfl
theorem l_58 : (58 : Int32) = nI 58 := rfl
theorem l_59 : (59 : Int32) = nI 59 := rfl
theorem l_60 : (60 : Int32) = nI 60 := rfl
theorem l_61 : (61 : Int32) = nI 61 := rfl
theorem l_62 : (62 : Int32) = nI 62 := rfl
theorem l_63 : (63 : Int32) = nI 63 := rfl
theorem l_64 : (64 : Int32) = nI 64 := rfl
theorem l_65 : (65 : Int32) = nI 65 := rfl
theorem l_66 : (66 : Int32) = nI 66 := rfl
theorem l_67 : (67 : Int32) = nI 67 := rfl
theorem l_68 : (68 : Int32) = nI 68 := rfl
theorem l_69 : (69 : Int32) = nI 69 := rfl
theorem l_70 : (70 : Int32) = nI 70 := rfl
theorem l_71 : (71 : Int32) = nI 71 := rfl
theorem l_72 : (72 : Int32) = nI 72 := rfl
theorem l_73 : (73 : Int32) = nI 73 := rfl
theorem l_74 : (74 : Int32) = nI 74 := rfl
theorem l_75 : (75 : Int32) = nI 75 := rfl
theorem l_76 : (76 : Int32) = nI 76 := rfl
theorem l_77 : (77 : Int32) = nI 77 := rfl
theorem l_78 : (78 : Int32) = nI 78 := rfl
theorem l_79 : (79 : Int32) = nI 79 := rfl
theorem l_80 : (80 : Int32) = nI 80 := rfl
theorem l_81 : (81 : Int32) = nI 81 := rfl
theorem l_82 : (82 : Int32) = nI 82 := rfl
theorem l_83 : (83 : Int32) = nI 83 := rfl
theorem l_84 : (84 : Int32) = nI 84 := rfl
theorem l_85 : (85 : Int32) = nI 85 := rfl
theorem l_86 : (86 : Int32) = nI 86 := rfl
theorem l_87 : (87 : Int32) = nI 87 := rfl
theorem l_88 : (88 : Int32) = nI 88 := rfl
theorem l_89 : (89 : Int32) = nI 89 := rfl
theorem l_90 : (90 : Int32) = nI 90 := rfl
theorem l_91 : (91 : Int32) = nI 91 := rfl
theorem l_92 : (92 : Int32) = nI 92 := rfl
theorem l_93 : (93 : Int32) = nI 93 := rfl
theorem l_94 : (94 : Int32) = nI 94 := rfl
theorem l_95 : (95 : Int32) = nI 95 := rfl
theorem l_96 : (96 : Int32) = nI 96 := rfl
theorem l_97 : (97 : Int32) = nI 97 := rfl
theorem l_98 : (98 : Int32) = nI 98 := rfl
theorem l_99 : (99 : Int32) = nI 99 := rfl
theorem l_100 : (100 : Int32) = nI 100 := rfl
theorem l_101 : (101 : Int32) = nI 101 := rfl
theorem l_102 : (102 : Int32) = nI 102 := rfl
theorem l_103 : (103 : Int32) = nI 103 := rfl
theorem l_105 : (105 : Int32) = nI 105 := rfl
theorem l_106 : (106 : Int32) = nI 106 := rfl
theorem l_107 : (107 : Int32) = nI 107 := rfl
theorem l_108 : (108 : Int32) = nI 108 := rfl
theorem l_109 : (109 : Int32) = nI 109 := rfl
theorem l_110 : (110 : Int32) = nI 110 := rfl
theorem l_111 : (111 : Int32) = nI 111 := rfl
theorem l_112 : (112 : Int32) = nI 112 := rfl
theorem l_113 : (113 : Int32) = nI 113 := rfl
theorem l_114 : (114 : Int32) = nI 114 := rfl
theorem l_115 : (115 : Int32) = nI 115 := rfl
theorem l_116 : (116 : Int32) = nI 116 := rfl
theorem l_117 : (117 : Int32) = nI 117 := rfl
theorem l_118 : (118 : Int32) = nI 118 := rfl
theorem l_119 : (119 : Int32) = nI 119 := rfl
theorem l_120 : (120 : Int32) = nI 120 := rfl
theorem l_121 : (121 : Int32) = nI 121 := rfl
theorem l_122 : (122 : Int32) = nI 122 := rfl
theorem l_123 : (123 : Int32) = nI 123 := rfl
theorem l_124 : (124 : Int32) = nI 124 := rfl
theorem l_125 : (125 : Int32) = nI 125 := rfl
theorem l_126 : (126 : Int32) = nI 126 := rfl
theorem l_127 : (127 : Int32) = nI 127 := rfl
theorem l_128 : (128 : Int32) = nI 128 := rfl
theorem l_129 : (129 : Int32) = nI 129 := rfl
theorem l_130 : (130 : Int32) = nI 130 := rfl
theorem l_131 : (131 : Int32) = nI 131 := rfl
theorem l_132 : (132 : Int32) = nI 132 := rfl
theorem l_133 : (133 : Int32) = nI 133 := rfl
theorem l_134 : (134 : Int32) = nI 134 := rfl
theorem l_135 : (135 : Int32) = nI 135 := rfl
theorem l_136 : (136 : Int32) = nI 136 := rfl
theorem l_137 : (137 : Int32) = nI 137 := rfl
theorem l_138 : (138 : Int32) = nI 138 := rfl
theorem l_139 : (139 : Int32) = nI 139 := rfl
theorem l_140 : (140 : Int32) = nI 140 := rfl
theorem l_141 : (141 : Int32) = nI 141 := rfl
theorem l_142 : (142 : Int32) = nI 142 := rfl
theorem l_143 : (143 : Int32) = nI 143 := rfl
theorem l_144 : (144 : Int32) = nI 144 := rfl
theorem l_145 : (145 : Int32) = nI 145 := rfl
theorem l_146 : (146 : Int32) = nI 146 := rfl
theorem l_147 : (147 : Int32) = nI 147 := rfl
theorem l_149 : (149 : Int32) = nI 149 := rfl
theorem l_151 : (151 : Int32) = nI 151 := rfl
theorem l_152 : (152 : Int32) = nI 152 := rfl
theorem l_154 : (154 : Int32) = nI 154 := rfl
theorem l_155 : (155 : Int32) = nI 155 := rfl
theorem l_156 : (156 : Int32) = nI 156 := rfl
theorem l_157 : (157 : Int32) = nI 157 := rfl
theorem l_159 : (159 : Int32) = nI 159 := rfl
theorem l_160 : (160 : Int32) = nI 160 := rfl
theorem l_161 : (161 : Int32) = nI 161 := rfl
theorem l_163 : (163 : Int32) = nI 163 := rfl
theorem l_165 : (165 : Int32) = nI 165 := rfl
theorem l_166 : (166 : Int32) = nI 166 := rfl
theorem l_167 : (167 : Int32) = nI 167 := rfl
theorem l_168 : (168 : Int32) = nI 168 := rfl
theorem l_169 : (169 : Int32) = nI 169 := rfl
theorem l_173 : (173 : Int32) = nI 173 := rfl
theorem l_174 : (174 : Int32) = nI 174 := rfl
theorem l_175 : (175 : Int32) = nI 175 := rfl
theorem l_179 : (179 : Int32) = nI 179 := rfl
theorem l_181 : (181 : Int32) = nI 181 := rfl
theorem l_183 : (183 : Int32) = nI 183 := rfl
theorem l_188 : (188 : Int32) = nI 188 := rfl
theorem l_189 : (189 : Int32) = nI 189 := rfl
theorem l_190 : (190 : Int32) = nI 190 := rfl
theorem l_191 : (191 : Int32) = nI 191 := rfl
theorem l_193 : (193 : Int32) = nI 193 := rfl
theorem l_194 : (194 : Int32) = nI 194 := rfl
theorem l_195 : (195 : Int32) = nI 195 := rfl
theorem l_196 : (196 : Int32) = nI 196 := rfl
theorem l_200 : (200 : Int32) = nI 200 := rfl
theorem l_202 : (202 : Int32) = nI 202 := rfl
theorem l_203 : (203 : Int32) = nI 203 := rfl
theorem l_206 : (206 : Int32) = nI 206 := rfl
theorem l_208 : (208 : Int32) = nI 208 := rfl
theorem l_212 : (212 : Int32) = nI 212 := rfl
theorem l_213 : (213 : Int32) = nI 213 := rfl
theorem l_230 : (230 : Int32) = nI 230 := rfl
theorem l_231 : (231 : Int32) = nI 231 := rfl
theorem l_245 : (245 : Int32) = nI 245 := rfl
theorem l_254 : (254 : Int32) = nI 254 := rfl
theorem l_255 : (255 : Int32) = nI 255 := rfl
theorem l_256 : (256 : Int32) = nI 256 := rfl
theorem l_257 : (257 : Int32) = nI 257 := rfl
theorem l_260 : (260 : Int32) = nI 260 := rfl
theorem l_271 : (271 : Int32) = nI 271 := rfl
theorem l_273 : (273 : Int32) = nI 273 := rfl
theorem l_274 : (274 : Int32) = nI 274 := rfl
theorem l_276 : (276 : Int32) = nI 276 := rfl
theorem l_277 : (277 : Int32) = nI 277 := rfl
theorem l_288 : (288 : Int32) = nI 288 := rfl
theorem l_291 : (291 : Int32) = nI 291 := rfl
theorem l_294 : (294 : Int32) = nI 294 := rfl
theorem l_299 : (299 : Int32) = nI 299 := rfl
theorem l_300 : (300 : Int32) = nI 300 := rfl
theorem l_313 : (313 : Int32) = nI 313 := rfl
theorem l_336 : (336 : Int32) = nI 336 := rfl
theorem l_359 : (359 : Int32) = nI 359 := rfl
theorem l_360 : (360 : Int32) = nI 360 := rfl
theorem l_399 : (399 : Int32) = nI 399 := rfl
theorem l_900 : (900 : Int32) = nI 900 := rfl
theorem l_901 : (901 : Int32) = nI 901 := rfl
theorem l_1000 : (1000 : Int32) = nI 1000 := rfl
theorem l_1023 : (1023 : Int32) = nI 1023 := rfl
theorem l_1042 : (1042 : Int32) = nI 1042 := rfl
theorem l_1074 : (1074 : Int32) = nI 1074 := rfl
theorem l_1145 : (1145 : Int32) = nI 1145 := rfl
theorem l_1146 : (1146 : Int32) = nI 1146 := rfl
theorem l_1147 : (1147 : Int32) = nI 1147 := rfl
theorem l_3000 : (3000 : Int32) = nI 3000 := rfl
theorem l_3001 : (3001 : Int32) = nI 3001 := rfl
theorem l_3002 : (3002 : Int32) = nI 3002 := rfl
theorem l_3003 : (3003 : Int32) = nI 3003 := rfl
theorem l_3004 : (3004 : Int32) = nI 3004 := rfl
theorem l_3005 : (3005 : Int32) = nI 3005 := rfl
theorem l_3006 : (3006 : Int32) = nI 3006 := rfl
theorem l_3007 : (3007 : Int32) = nI 3007 := rfl
theorem l_3008 : (3008 : Int32) = nI 3008 := rfl
theorem l_3222 : (3222 : Int32) = nI 3222 := rfl
theorem l_4095 : (4095 : Int32) = nI 4095 := rfl
theorem l_4096 : (4096 : Int32) = nI 4096 := rfl
theorem l_8191 : (8191 : Int32) = nI 8191 := rfl
theorem l_12345 : (12345 : Int32) = nI 12345 := rfl
theorem l_16384 : (16384 : Int32) = nI 16384 := rfl
theorem l_65535 : (65535 : Int32) = nI 65535 := rfl
theorem l_65536 : (65536 : Int32) = nI 65536 := rfl
theorem l_1000000 : (1000000 : Int32) = nI 1000000 := rfl
theorem l_1000001 : (1000001 : Int32) = nI 1000001 := rfl
theorem l_1000002 : (1000002 : Int32) = nI 1000002 := rfl
theorem l_1000003 : (1000003 : Int32) = nI 1000003 := rfl
theorem l_60000000 : (60000000 : Int32) = nI 60000000 := rfl
theorem l_252645135 : (252645135 : Int32) = nI 252645135 := rfl
theorem l_268435456 : (268435456 : Int32) = nI 268435456 := rfl
theorem l_858993459 : (858993459 : Int32) = nI 858993459 := rfl
theorem l_1103515245 : (1103515245 : Int32) = nI 1103515245 := rfl
theorem l_1431655765 : (1431655765 : Int32) = nI 1431655765 := rfl
theorem q_shl1 {p : Nat} (hp : p < 31) : nI 1 <<< nI (p &&& 31) = nI (2 ^ p) := (congrArg (nI 1 <<< ·) (fa_and p 31)).symm.trans (k_shl1 hp)
theorem q_shr {a p : Nat} (ha : a < 2147483648) (hp : p < 32) : nI a >>> nI (p &&& 31) = nI (a / 2 ^ p) := (congrArg (nI a >>> ·) (fa_and p 31)).symm.trans (pk_shrN ha _ p (k_sh31 p hp))
theorem q_and7 {a : Nat} : a &&& 7 = a % 8 := Nat.and_two_pow_sub_one_eq_mod a 3
theorem q_dg (a p : Nat) : a / 2 ^ (3 * p) % 8 = dg a p := by
  unfold dg
  rw [show (8 : Nat) ^ p = 2 ^ (3 * p) by rw [show (8 : Nat) = 2 ^ 3 from rfl, ← Nat.pow_mul]]
theorem q_some {c : Prop} [Decidable c] {a b : Int32} {s : aM} : (if c then some (some (Value.int a), s) else some (some (Value.int b), s)) = some (some (Value.int (if c then a else b)), s) := by
  split <;> rfl
theorem q_someN {c : Prop} [Decidable c] {a b : Nat} : (if c then nI a else nI b) = nI (if c then a else b) := by
  split <;> rfl
theorem q_bit (a : Nat) : a &&& 1 = a % 2 := Nat.and_two_pow_sub_one_eq_mod a 1
theorem q_nn {c : Prop} [Decidable c] {α : Type} {X Y : α} : cond (decide (¬ c) || decide c) X Y = X := by
  by_cases h : c <;> simp [h]
theorem q_u21 {α : Type} (f : Nat → Nat → α) (a k : Nat) (g : Nat → α) (v : α) : am_u2 (am_u1 f a g) a k v = am_u1 f a (fun j => if j = k then v else g j) := by
  funext b j
  simp only [am_u2, am_u1]
  by_cases h : b = a
  · simp [h]
  · simp [h]
theorem q_u11 {α : Type} (f : Nat → Nat → α) (a : Nat) : am_u1 f a (f a) = f := by
  funext b j
  simp only [am_u1]
  by_cases h : b = a
  · simp [h]
  · simp [h]
theorem q_xor (a b : Nat) : nI a ^^^ nI b = nI (a ^^^ b) := by
  apply Int32.toBitVec_inj.1
  show BitVec.ofNat 32 a ^^^ BitVec.ofNat 32 b = BitVec.ofNat 32 (a ^^^ b)
  apply BitVec.eq_of_toNat_eq
  rw [BitVec.toNat_xor, BitVec.toNat_ofNat, BitVec.toNat_ofNat, BitVec.toNat_ofNat, Nat.xor_mod_two_pow]
theorem q_xorm (a : Nat) : nI a ^^^ -nI 1 = nI (a ^^^ 4294967295) := q_xor a 4294967295
