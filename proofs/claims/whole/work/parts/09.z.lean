-- each entry of the program is checked, by program
theorem am_okm_use {y n : Nat} {f : Nat → Option aI} (h : am_okm y n f = true) (hn : ∀ pc, n ≤ pc → f pc = none) {pc : Nat} {e : aI} (he : f pc = some e) : am_ok y pc e = true := by
  rcases Nat.lt_or_ge pc n with q | q
  · have h1 := List.all_eq_true.mp h pc (List.mem_range.mpr q)
    rw [he] at h1
    exact h1
  · rw [hn pc q] at he
    cases he
theorem am_blt {a b : Nat} (h : b ≤ a) : Nat.blt a b = false := by
  cases q : Nat.blt a b with
  | false => rfl
  | true => have := Nat.le_of_ble_eq_true q; omega
theorem am_p0 {pc : Nat} {e : aI} (h : am_pg 0 pc = some e) : am_ok 0 pc e = true := am_okm_use am_kk0 (fun pc q => by unfold am_c0; rw [am_blt q]; rfl) (show am_c0 pc = some e from h)
theorem am_p1 {pc : Nat} {e : aI} (h : am_pg 1 pc = some e) : am_ok 1 pc e = true := am_okm_use am_kk1 (fun pc q => by unfold am_c1; rw [am_blt q]; rfl) (show am_c1 pc = some e from h)
theorem am_p2 {pc : Nat} {e : aI} (h : am_pg 2 pc = some e) : am_ok 2 pc e = true := am_okm_use am_kk2 (fun pc q => by unfold am_c2; rw [am_blt q]; rfl) (show am_c2 pc = some e from h)
theorem am_p3 {pc : Nat} {e : aI} (h : am_pg 3 pc = some e) : am_ok 3 pc e = true := am_okm_use am_kk3 (fun pc q => by unfold am_c3; rw [am_blt q]; rfl) (show am_c3 pc = some e from h)
theorem am_p4 {pc : Nat} {e : aI} (h : am_pg 4 pc = some e) : am_ok 4 pc e = true := am_okm_use am_kk4 (fun pc q => by unfold am_c4; rw [am_blt q]; rfl) (show am_c4 pc = some e from h)
theorem am_p5 {pc : Nat} {e : aI} (h : am_pg 5 pc = some e) : am_ok 5 pc e = true := am_okm_use am_kk5 (fun pc q => by unfold am_c5; rw [am_blt q]; rfl) (show am_c5 pc = some e from h)
theorem am_p6 {pc : Nat} {e : aI} (h : am_pg 6 pc = some e) : am_ok 6 pc e = true := am_okm_use am_kk6 (fun pc q => by unfold am_c6; rw [am_blt q]; rfl) (show am_c6 pc = some e from h)
theorem am_p7 {pc : Nat} {e : aI} (h : am_pg 7 pc = some e) : am_ok 7 pc e = true := am_okm_use am_kk7 (fun pc q => by unfold am_c7; rw [am_blt q]; rfl) (show am_c7 pc = some e from h)
theorem am_p8 {pc : Nat} {e : aI} (h : am_pg 8 pc = some e) : am_ok 8 pc e = true := am_okm_use am_kk8 (fun pc q => by unfold am_c8; rw [am_blt q]; rfl) (show am_c8 pc = some e from h)
theorem am_p9 {pc : Nat} {e : aI} (h : am_pg 9 pc = some e) : am_ok 9 pc e = true := am_okm_use am_kk9 (fun pc q => by unfold am_c9; rw [am_blt q]; rfl) (show am_c9 pc = some e from h)
theorem am_p10 {pc : Nat} {e : aI} (h : am_pg 10 pc = some e) : am_ok 10 pc e = true := am_okm_use am_kk10 (fun pc q => by unfold am_c10; rw [am_blt q]; rfl) (show am_c10 pc = some e from h)
theorem am_p11 {pc : Nat} {e : aI} (h : am_pg 11 pc = some e) : am_ok 11 pc e = true := am_okm_use am_kk11 (fun pc q => by unfold am_c11; rw [am_blt q]; rfl) (show am_c11 pc = some e from h)
theorem am_p12 {pc : Nat} {e : aI} (h : am_pg 12 pc = some e) : am_ok 12 pc e = true := am_okm_use am_kk12 (fun pc q => by unfold am_c12; rw [am_blt q]; rfl) (show am_c12 pc = some e from h)
theorem am_p13 {pc : Nat} {e : aI} (h : am_pg 13 pc = some e) : am_ok 13 pc e = true := am_okm_use am_kk13 (fun pc q => by unfold am_c13; rw [am_blt q]; rfl) (show am_c13 pc = some e from h)
theorem am_p14 {pc : Nat} {e : aI} (h : am_pg 14 pc = some e) : am_ok 14 pc e = true := am_okm_use am_kk14 (fun pc q => by unfold am_c14; rw [am_blt q]; rfl) (show am_c14 pc = some e from h)
theorem am_p15 {pc : Nat} {e : aI} (h : am_pg 15 pc = some e) : am_ok 15 pc e = true := am_okm_use am_kk15 (fun pc q => by unfold am_c15; rw [am_blt q]; rfl) (show am_c15 pc = some e from h)
theorem am_p16 {pc : Nat} {e : aI} (h : am_pg 16 pc = some e) : am_ok 16 pc e = true := am_okm_use am_kk16 (fun pc q => by unfold am_c16; rw [am_blt q]; rfl) (show am_c16 pc = some e from h)
theorem am_p17 {pc : Nat} {e : aI} (h : am_pg 17 pc = some e) : am_ok 17 pc e = true := am_okm_use am_kk17 (fun pc q => by unfold am_c17; rw [am_blt q]; rfl) (show am_c17 pc = some e from h)
theorem am_p18 {pc : Nat} {e : aI} (h : am_pg 18 pc = some e) : am_ok 18 pc e = true := am_okm_use am_kk18 (fun pc q => by unfold am_c18; rw [am_blt q]; rfl) (show am_c18 pc = some e from h)
theorem am_p19 {pc : Nat} {e : aI} (h : am_pg 19 pc = some e) : am_ok 19 pc e = true := am_okm_use am_kk19 (fun pc q => by unfold am_c19; rw [am_blt q]; rfl) (show am_c19 pc = some e from h)
theorem am_p20 {pc : Nat} {e : aI} (h : am_pg 20 pc = some e) : am_ok 20 pc e = true := am_okm_use am_kk20 (fun pc q => by unfold am_c20; rw [am_blt q]; rfl) (show am_c20 pc = some e from h)
theorem am_p21 {pc : Nat} {e : aI} (h : am_pg 21 pc = some e) : am_ok 21 pc e = true := am_okm_use am_kk21 (fun pc q => by unfold am_c21; rw [am_blt q]; rfl) (show am_c21 pc = some e from h)
theorem am_p22 {pc : Nat} {e : aI} (h : am_pg 22 pc = some e) : am_ok 22 pc e = true := am_okm_use am_kk22 (fun pc q => by unfold am_c22; rw [am_blt q]; rfl) (show am_c22 pc = some e from h)
theorem am_p23 {pc : Nat} {e : aI} (h : am_pg 23 pc = some e) : am_ok 23 pc e = true := am_okm_use am_kk23 (fun pc q => by unfold am_c23; rw [am_blt q]; rfl) (show am_c23 pc = some e from h)
theorem am_p24 {pc : Nat} {e : aI} (h : am_pg 24 pc = some e) : am_ok 24 pc e = true := am_okm_use am_kk24 (fun pc q => by unfold am_c24; rw [am_blt q]; rfl) (show am_c24 pc = some e from h)
theorem am_p25 {pc : Nat} {e : aI} (h : am_pg 25 pc = some e) : am_ok 25 pc e = true := am_okm_use am_kk25 (fun pc q => by unfold am_c25; rw [am_blt q]; rfl) (show am_c25 pc = some e from h)
theorem am_p26 {pc : Nat} {e : aI} (h : am_pg 26 pc = some e) : am_ok 26 pc e = true := am_okm_use am_kk26 (fun pc q => by unfold am_c26; rw [am_blt q]; rfl) (show am_c26 pc = some e from h)
theorem am_p27 {pc : Nat} {e : aI} (h : am_pg 27 pc = some e) : am_ok 27 pc e = true := am_okm_use am_kk27 (fun pc q => by unfold am_c27; rw [am_blt q]; rfl) (show am_c27 pc = some e from h)
theorem am_p28 {pc : Nat} {e : aI} (h : am_pg 28 pc = some e) : am_ok 28 pc e = true := am_okm_use am_kk28 (fun pc q => by unfold am_c28; rw [am_blt q]; rfl) (show am_c28 pc = some e from h)
theorem am_p29 {pc : Nat} {e : aI} (h : am_pg 29 pc = some e) : am_ok 29 pc e = true := am_okm_use am_kk29 (fun pc q => by unfold am_c29; rw [am_blt q]; rfl) (show am_c29 pc = some e from h)
theorem am_p30 {pc : Nat} {e : aI} (h : am_pg 30 pc = some e) : am_ok 30 pc e = true := am_okm_use am_kk30 (fun pc q => by unfold am_c30; rw [am_blt q]; rfl) (show am_c30 pc = some e from h)
theorem am_p31 {pc : Nat} {e : aI} (h : am_pg 31 pc = some e) : am_ok 31 pc e = true := am_okm_use am_kk31 (fun pc q => by unfold am_c31; rw [am_blt q]; rfl) (show am_c31 pc = some e from h)
theorem am_p32 {pc : Nat} {e : aI} (h : am_pg 32 pc = some e) : am_ok 32 pc e = true := am_okm_use am_kk32 (fun pc q => by unfold am_c32; rw [am_blt q]; rfl) (show am_c32 pc = some e from h)
theorem am_p33 {pc : Nat} {e : aI} (h : am_pg 33 pc = some e) : am_ok 33 pc e = true := am_okm_use am_kk33 (fun pc q => by unfold am_c33; rw [am_blt q]; rfl) (show am_c33 pc = some e from h)
theorem am_p34 {pc : Nat} {e : aI} (h : am_pg 34 pc = some e) : am_ok 34 pc e = true := am_okm_use am_kk34 (fun pc q => by unfold am_c34; rw [am_blt q]; rfl) (show am_c34 pc = some e from h)
theorem am_p35 {pc : Nat} {e : aI} (h : am_pg 35 pc = some e) : am_ok 35 pc e = true := am_okm_use am_kk35 (fun pc q => by unfold am_c35; rw [am_blt q]; rfl) (show am_c35 pc = some e from h)
theorem am_p36 {pc : Nat} {e : aI} (h : am_pg 36 pc = some e) : am_ok 36 pc e = true := am_okm_use am_kk36 (fun pc q => by unfold am_c36; rw [am_blt q]; rfl) (show am_c36 pc = some e from h)
theorem am_p37 {pc : Nat} {e : aI} (h : am_pg 37 pc = some e) : am_ok 37 pc e = true := am_okm_use am_kk37 (fun pc q => by unfold am_c37; rw [am_blt q]; rfl) (show am_c37 pc = some e from h)
theorem am_p38 {pc : Nat} {e : aI} (h : am_pg 38 pc = some e) : am_ok 38 pc e = true := am_okm_use am_kk38 (fun pc q => by unfold am_c38; rw [am_blt q]; rfl) (show am_c38 pc = some e from h)
theorem am_p39 {pc : Nat} {e : aI} (h : am_pg 39 pc = some e) : am_ok 39 pc e = true := am_okm_use am_kk39 (fun pc q => by unfold am_c39; rw [am_blt q]; rfl) (show am_c39 pc = some e from h)
theorem am_p40 {pc : Nat} {e : aI} (h : am_pg 40 pc = some e) : am_ok 40 pc e = true := am_okm_use am_kk40 (fun pc q => by unfold am_c40; rw [am_blt q]; rfl) (show am_c40 pc = some e from h)
theorem am_p41 {pc : Nat} {e : aI} (h : am_pg 41 pc = some e) : am_ok 41 pc e = true := am_okm_use am_kk41 (fun pc q => by unfold am_c41; rw [am_blt q]; rfl) (show am_c41 pc = some e from h)
theorem am_p42 {pc : Nat} {e : aI} (h : am_pg 42 pc = some e) : am_ok 42 pc e = true := am_okm_use am_kk42 (fun pc q => by unfold am_c42; rw [am_blt q]; rfl) (show am_c42 pc = some e from h)
theorem am_p43 {pc : Nat} {e : aI} (h : am_pg 43 pc = some e) : am_ok 43 pc e = true := am_okm_use am_kk43 (fun pc q => by unfold am_c43; rw [am_blt q]; rfl) (show am_c43 pc = some e from h)
theorem am_p44 {pc : Nat} {e : aI} (h : am_pg 44 pc = some e) : am_ok 44 pc e = true := am_okm_use am_kk44 (fun pc q => by unfold am_c44; rw [am_blt q]; rfl) (show am_c44 pc = some e from h)
theorem am_p45 {pc : Nat} {e : aI} (h : am_pg 45 pc = some e) : am_ok 45 pc e = true := am_okm_use am_kk45 (fun pc q => by unfold am_c45; rw [am_blt q]; rfl) (show am_c45 pc = some e from h)
theorem am_p46 {pc : Nat} {e : aI} (h : am_pg 46 pc = some e) : am_ok 46 pc e = true := am_okm_use am_kk46 (fun pc q => by unfold am_c46; rw [am_blt q]; rfl) (show am_c46 pc = some e from h)
theorem am_p47 {pc : Nat} {e : aI} (h : am_pg 47 pc = some e) : am_ok 47 pc e = true := am_okm_use am_kk47 (fun pc q => by unfold am_c47; rw [am_blt q]; rfl) (show am_c47 pc = some e from h)
theorem am_p48 {pc : Nat} {e : aI} (h : am_pg 48 pc = some e) : am_ok 48 pc e = true := am_okm_use am_kk48 (fun pc q => by unfold am_c48; rw [am_blt q]; rfl) (show am_c48 pc = some e from h)
theorem am_p49 {pc : Nat} {e : aI} (h : am_pg 49 pc = some e) : am_ok 49 pc e = true := am_okm_use am_kk49 (fun pc q => by unfold am_c49; rw [am_blt q]; rfl) (show am_c49 pc = some e from h)
theorem am_p50 {pc : Nat} {e : aI} (h : am_pg 50 pc = some e) : am_ok 50 pc e = true := am_okm_use am_kk50 (fun pc q => by unfold am_c50; rw [am_blt q]; rfl) (show am_c50 pc = some e from h)
theorem am_p51 {pc : Nat} {e : aI} (h : am_pg 51 pc = some e) : am_ok 51 pc e = true := am_okm_use am_kk51 (fun pc q => by unfold am_c51; rw [am_blt q]; rfl) (show am_c51 pc = some e from h)
theorem am_p52 {pc : Nat} {e : aI} (h : am_pg 52 pc = some e) : am_ok 52 pc e = true := am_okm_use am_kk52 (fun pc q => by unfold am_c52; rw [am_blt q]; rfl) (show am_c52 pc = some e from h)
theorem am_p53 {pc : Nat} {e : aI} (h : am_pg 53 pc = some e) : am_ok 53 pc e = true := am_okm_use am_kk53 (fun pc q => by unfold am_c53; rw [am_blt q]; rfl) (show am_c53 pc = some e from h)
theorem am_p54 {pc : Nat} {e : aI} (h : am_pg 54 pc = some e) : am_ok 54 pc e = true := am_okm_use am_kk54 (fun pc q => by unfold am_c54; rw [am_blt q]; rfl) (show am_c54 pc = some e from h)
theorem am_p55 {pc : Nat} {e : aI} (h : am_pg 55 pc = some e) : am_ok 55 pc e = true := am_okm_use am_kk55 (fun pc q => by unfold am_c55; rw [am_blt q]; rfl) (show am_c55 pc = some e from h)
theorem am_p56 {pc : Nat} {e : aI} (h : am_pg 56 pc = some e) : am_ok 56 pc e = true := am_okm_use am_kk56 (fun pc q => by unfold am_c56; rw [am_blt q]; rfl) (show am_c56 pc = some e from h)
theorem am_p57 {pc : Nat} {e : aI} (h : am_pg 57 pc = some e) : am_ok 57 pc e = true := am_okm_use am_kk57 (fun pc q => by unfold am_c57; rw [am_blt q]; rfl) (show am_c57 pc = some e from h)
theorem am_p58 {pc : Nat} {e : aI} (h : am_pg 58 pc = some e) : am_ok 58 pc e = true := am_okm_use am_kk58 (fun pc q => by unfold am_c58; rw [am_blt q]; rfl) (show am_c58 pc = some e from h)
theorem am_p59 {pc : Nat} {e : aI} (h : am_pg 59 pc = some e) : am_ok 59 pc e = true := am_okm_use am_kk59 (fun pc q => by unfold am_c59; rw [am_blt q]; rfl) (show am_c59 pc = some e from h)
theorem am_p60 {pc : Nat} {e : aI} (h : am_pg 60 pc = some e) : am_ok 60 pc e = true := am_okm_use am_kk60 (fun pc q => by unfold am_c60; rw [am_blt q]; rfl) (show am_c60 pc = some e from h)
theorem am_p61 {pc : Nat} {e : aI} (h : am_pg 61 pc = some e) : am_ok 61 pc e = true := am_okm_use am_kk61 (fun pc q => by unfold am_c61; rw [am_blt q]; rfl) (show am_c61 pc = some e from h)
theorem am_p62 {pc : Nat} {e : aI} (h : am_pg 62 pc = some e) : am_ok 62 pc e = true := am_okm_use am_kk62 (fun pc q => by unfold am_c62; rw [am_blt q]; rfl) (show am_c62 pc = some e from h)
theorem am_p63 {pc : Nat} {e : aI} (h : am_pg 63 pc = some e) : am_ok 63 pc e = true := am_okm_use am_kk63 (fun pc q => by unfold am_c63; rw [am_blt q]; rfl) (show am_c63 pc = some e from h)
theorem am_p64 {pc : Nat} {e : aI} (h : am_pg 64 pc = some e) : am_ok 64 pc e = true := am_okm_use am_kk64 (fun pc q => by unfold am_c64; rw [am_blt q]; rfl) (show am_c64 pc = some e from h)
theorem am_p65 {pc : Nat} {e : aI} (h : am_pg 65 pc = some e) : am_ok 65 pc e = true := am_okm_use am_kk65 (fun pc q => by unfold am_c65; rw [am_blt q]; rfl) (show am_c65 pc = some e from h)
theorem am_p66 {pc : Nat} {e : aI} (h : am_pg 66 pc = some e) : am_ok 66 pc e = true := am_okm_use am_kk66 (fun pc q => by unfold am_c66; rw [am_blt q]; rfl) (show am_c66 pc = some e from h)
theorem am_p67 {pc : Nat} {e : aI} (h : am_pg 67 pc = some e) : am_ok 67 pc e = true := am_okm_use am_kk67 (fun pc q => by unfold am_c67; rw [am_blt q]; rfl) (show am_c67 pc = some e from h)
theorem am_p68 {pc : Nat} {e : aI} (h : am_pg 68 pc = some e) : am_ok 68 pc e = true := am_okm_use am_kk68 (fun pc q => by unfold am_c68; rw [am_blt q]; rfl) (show am_c68 pc = some e from h)
theorem am_p69 {pc : Nat} {e : aI} (h : am_pg 69 pc = some e) : am_ok 69 pc e = true := am_okm_use am_kk69 (fun pc q => by unfold am_c69; rw [am_blt q]; rfl) (show am_c69 pc = some e from h)
theorem am_p70 {pc : Nat} {e : aI} (h : am_pg 70 pc = some e) : am_ok 70 pc e = true := am_okm_use am_kk70 (fun pc q => by unfold am_c70; rw [am_blt q]; rfl) (show am_c70 pc = some e from h)
theorem am_p71 {pc : Nat} {e : aI} (h : am_pg 71 pc = some e) : am_ok 71 pc e = true := am_okm_use am_kk71 (fun pc q => by unfold am_c71; rw [am_blt q]; rfl) (show am_c71 pc = some e from h)
theorem am_p72 {pc : Nat} {e : aI} (h : am_pg 72 pc = some e) : am_ok 72 pc e = true := am_okm_use am_kk72 (fun pc q => by unfold am_c72; rw [am_blt q]; rfl) (show am_c72 pc = some e from h)
theorem am_p73 {pc : Nat} {e : aI} (h : am_pg 73 pc = some e) : am_ok 73 pc e = true := am_okm_use am_kk73 (fun pc q => by unfold am_c73; rw [am_blt q]; rfl) (show am_c73 pc = some e from h)
theorem am_p74 {pc : Nat} {e : aI} (h : am_pg 74 pc = some e) : am_ok 74 pc e = true := am_okm_use am_kk74 (fun pc q => by unfold am_c74; rw [am_blt q]; rfl) (show am_c74 pc = some e from h)
theorem am_p75 {pc : Nat} {e : aI} (h : am_pg 75 pc = some e) : am_ok 75 pc e = true := am_okm_use am_kk75 (fun pc q => by unfold am_c75; rw [am_blt q]; rfl) (show am_c75 pc = some e from h)
theorem am_p76 {pc : Nat} {e : aI} (h : am_pg 76 pc = some e) : am_ok 76 pc e = true := am_okm_use am_kk76 (fun pc q => by unfold am_c76; rw [am_blt q]; rfl) (show am_c76 pc = some e from h)
theorem am_p77 {pc : Nat} {e : aI} (h : am_pg 77 pc = some e) : am_ok 77 pc e = true := am_okm_use am_kk77 (fun pc q => by unfold am_c77; rw [am_blt q]; rfl) (show am_c77 pc = some e from h)
theorem am_p78 {pc : Nat} {e : aI} (h : am_pg 78 pc = some e) : am_ok 78 pc e = true := am_okm_use am_kk78 (fun pc q => by unfold am_c78; rw [am_blt q]; rfl) (show am_c78 pc = some e from h)
theorem am_p79 {pc : Nat} {e : aI} (h : am_pg 79 pc = some e) : am_ok 79 pc e = true := am_okm_use am_kk79 (fun pc q => by unfold am_c79; rw [am_blt q]; rfl) (show am_c79 pc = some e from h)
theorem am_p80 {pc : Nat} {e : aI} (h : am_pg 80 pc = some e) : am_ok 80 pc e = true := am_okm_use am_kk80 (fun pc q => by unfold am_c80; rw [am_blt q]; rfl) (show am_c80 pc = some e from h)
theorem am_p81 {pc : Nat} {e : aI} (h : am_pg 81 pc = some e) : am_ok 81 pc e = true := am_okm_use am_kk81 (fun pc q => by unfold am_c81; rw [am_blt q]; rfl) (show am_c81 pc = some e from h)
theorem am_p82 {pc : Nat} {e : aI} (h : am_pg 82 pc = some e) : am_ok 82 pc e = true := am_okm_use am_kk82 (fun pc q => by unfold am_c82; rw [am_blt q]; rfl) (show am_c82 pc = some e from h)
theorem am_p83 {pc : Nat} {e : aI} (h : am_pg 83 pc = some e) : am_ok 83 pc e = true := am_okm_use am_kk83 (fun pc q => by unfold am_c83; rw [am_blt q]; rfl) (show am_c83 pc = some e from h)
theorem am_p84 {pc : Nat} {e : aI} (h : am_pg 84 pc = some e) : am_ok 84 pc e = true := am_okm_use am_kk84 (fun pc q => by unfold am_c84; rw [am_blt q]; rfl) (show am_c84 pc = some e from h)
theorem am_p85 {pc : Nat} {e : aI} (h : am_pg 85 pc = some e) : am_ok 85 pc e = true := am_okm_use am_kk85 (fun pc q => by unfold am_c85; rw [am_blt q]; rfl) (show am_c85 pc = some e from h)
theorem am_p86 {pc : Nat} {e : aI} (h : am_pg 86 pc = some e) : am_ok 86 pc e = true := am_okm_use am_kk86 (fun pc q => by unfold am_c86; rw [am_blt q]; rfl) (show am_c86 pc = some e from h)
theorem am_p87 {pc : Nat} {e : aI} (h : am_pg 87 pc = some e) : am_ok 87 pc e = true := am_okm_use am_kk87 (fun pc q => by unfold am_c87; rw [am_blt q]; rfl) (show am_c87 pc = some e from h)
theorem am_p88 {pc : Nat} {e : aI} (h : am_pg 88 pc = some e) : am_ok 88 pc e = true := am_okm_use am_kk88 (fun pc q => by unfold am_c88; rw [am_blt q]; rfl) (show am_c88 pc = some e from h)
theorem am_p89 {pc : Nat} {e : aI} (h : am_pg 89 pc = some e) : am_ok 89 pc e = true := am_okm_use am_kk89 (fun pc q => by unfold am_c89; rw [am_blt q]; rfl) (show am_c89 pc = some e from h)
theorem am_p90 {pc : Nat} {e : aI} (h : am_pg 90 pc = some e) : am_ok 90 pc e = true := am_okm_use am_kk90 (fun pc q => by unfold am_c90; rw [am_blt q]; rfl) (show am_c90 pc = some e from h)
theorem am_p91 {pc : Nat} {e : aI} (h : am_pg 91 pc = some e) : am_ok 91 pc e = true := am_okm_use am_kk91 (fun pc q => by unfold am_c91; rw [am_blt q]; rfl) (show am_c91 pc = some e from h)
theorem am_p92 {pc : Nat} {e : aI} (h : am_pg 92 pc = some e) : am_ok 92 pc e = true := am_okm_use am_kk92 (fun pc q => by unfold am_c92; rw [am_blt q]; rfl) (show am_c92 pc = some e from h)
theorem am_p93 {pc : Nat} {e : aI} (h : am_pg 93 pc = some e) : am_ok 93 pc e = true := am_okm_use am_kk93 (fun pc q => by unfold am_c93; rw [am_blt q]; rfl) (show am_c93 pc = some e from h)
theorem am_p94 {pc : Nat} {e : aI} (h : am_pg 94 pc = some e) : am_ok 94 pc e = true := am_okm_use am_kk94 (fun pc q => by unfold am_c94; rw [am_blt q]; rfl) (show am_c94 pc = some e from h)
theorem am_p95 {pc : Nat} {e : aI} (h : am_pg 95 pc = some e) : am_ok 95 pc e = true := am_okm_use am_kk95 (fun pc q => by unfold am_c95; rw [am_blt q]; rfl) (show am_c95 pc = some e from h)
theorem am_p96 {pc : Nat} {e : aI} (h : am_pg 96 pc = some e) : am_ok 96 pc e = true := am_okm_use am_kk96 (fun pc q => by unfold am_c96; rw [am_blt q]; rfl) (show am_c96 pc = some e from h)
theorem am_p97 {pc : Nat} {e : aI} (h : am_pg 97 pc = some e) : am_ok 97 pc e = true := am_okm_use am_kk97 (fun pc q => by unfold am_c97; rw [am_blt q]; rfl) (show am_c97 pc = some e from h)
theorem am_p98 {pc : Nat} {e : aI} (h : am_pg 98 pc = some e) : am_ok 98 pc e = true := am_okm_use am_kk98 (fun pc q => by unfold am_c98; rw [am_blt q]; rfl) (show am_c98 pc = some e from h)
theorem am_p99 {pc : Nat} {e : aI} (h : am_pg 99 pc = some e) : am_ok 99 pc e = true := am_okm_use am_kk99 (fun pc q => by unfold am_c99; rw [am_blt q]; rfl) (show am_c99 pc = some e from h)
theorem am_p100 {pc : Nat} {e : aI} (h : am_pg 100 pc = some e) : am_ok 100 pc e = true := am_okm_use am_kk100 (fun pc q => by unfold am_c100; rw [am_blt q]; rfl) (show am_c100 pc = some e from h)
theorem am_p101 {pc : Nat} {e : aI} (h : am_pg 101 pc = some e) : am_ok 101 pc e = true := am_okm_use am_kk101 (fun pc q => by unfold am_c101; rw [am_blt q]; rfl) (show am_c101 pc = some e from h)
theorem am_p102 {pc : Nat} {e : aI} (h : am_pg 102 pc = some e) : am_ok 102 pc e = true := am_okm_use am_kk102 (fun pc q => by unfold am_c102; rw [am_blt q]; rfl) (show am_c102 pc = some e from h)
theorem am_p103 {pc : Nat} {e : aI} (h : am_pg 103 pc = some e) : am_ok 103 pc e = true := am_okm_use am_kk103 (fun pc q => by unfold am_c103; rw [am_blt q]; rfl) (show am_c103 pc = some e from h)
theorem am_p104 {pc : Nat} {e : aI} (h : am_pg 104 pc = some e) : am_ok 104 pc e = true := am_okm_use am_kk104 (fun pc q => by unfold am_c104; rw [am_blt q]; rfl) (show am_c104 pc = some e from h)
theorem am_p105 {pc : Nat} {e : aI} (h : am_pg 105 pc = some e) : am_ok 105 pc e = true := am_okm_use am_kk105 (fun pc q => by unfold am_c105; rw [am_blt q]; rfl) (show am_c105 pc = some e from h)
theorem am_p106 {pc : Nat} {e : aI} (h : am_pg 106 pc = some e) : am_ok 106 pc e = true := am_okm_use am_kk106 (fun pc q => by unfold am_c106; rw [am_blt q]; rfl) (show am_c106 pc = some e from h)
theorem am_p107 {pc : Nat} {e : aI} (h : am_pg 107 pc = some e) : am_ok 107 pc e = true := am_okm_use am_kk107 (fun pc q => by unfold am_c107; rw [am_blt q]; rfl) (show am_c107 pc = some e from h)
theorem am_p108 {pc : Nat} {e : aI} (h : am_pg 108 pc = some e) : am_ok 108 pc e = true := am_okm_use am_kk108 (fun pc q => by unfold am_c108; rw [am_blt q]; rfl) (show am_c108 pc = some e from h)
theorem am_p109 {pc : Nat} {e : aI} (h : am_pg 109 pc = some e) : am_ok 109 pc e = true := am_okm_use am_kk109 (fun pc q => by unfold am_c109; rw [am_blt q]; rfl) (show am_c109 pc = some e from h)
theorem am_p110 {pc : Nat} {e : aI} (h : am_pg 110 pc = some e) : am_ok 110 pc e = true := am_okm_use am_kk110 (fun pc q => by unfold am_c110; rw [am_blt q]; rfl) (show am_c110 pc = some e from h)
theorem am_p111 {pc : Nat} {e : aI} (h : am_pg 111 pc = some e) : am_ok 111 pc e = true := am_okm_use am_kk111 (fun pc q => by unfold am_c111; rw [am_blt q]; rfl) (show am_c111 pc = some e from h)
theorem am_p112 {pc : Nat} {e : aI} (h : am_pg 112 pc = some e) : am_ok 112 pc e = true := am_okm_use am_kk112 (fun pc q => by unfold am_c112; rw [am_blt q]; rfl) (show am_c112 pc = some e from h)
theorem am_p113 {pc : Nat} {e : aI} (h : am_pg 113 pc = some e) : am_ok 113 pc e = true := am_okm_use am_kk113 (fun pc q => by unfold am_c113; rw [am_blt q]; rfl) (show am_c113 pc = some e from h)
theorem am_p114 {pc : Nat} {e : aI} (h : am_pg 114 pc = some e) : am_ok 114 pc e = true := am_okm_use am_kk114 (fun pc q => by unfold am_c114; rw [am_blt q]; rfl) (show am_c114 pc = some e from h)
theorem am_p115 {pc : Nat} {e : aI} (h : am_pg 115 pc = some e) : am_ok 115 pc e = true := am_okm_use am_kk115 (fun pc q => by unfold am_c115; rw [am_blt q]; rfl) (show am_c115 pc = some e from h)
theorem am_p116 {pc : Nat} {e : aI} (h : am_pg 116 pc = some e) : am_ok 116 pc e = true := am_okm_use am_kk116 (fun pc q => by unfold am_c116; rw [am_blt q]; rfl) (show am_c116 pc = some e from h)
theorem am_p117 {pc : Nat} {e : aI} (h : am_pg 117 pc = some e) : am_ok 117 pc e = true := am_okm_use am_kk117 (fun pc q => by unfold am_c117; rw [am_blt q]; rfl) (show am_c117 pc = some e from h)
theorem am_p118 {pc : Nat} {e : aI} (h : am_pg 118 pc = some e) : am_ok 118 pc e = true := am_okm_use am_kk118 (fun pc q => by unfold am_c118; rw [am_blt q]; rfl) (show am_c118 pc = some e from h)
theorem am_p119 {pc : Nat} {e : aI} (h : am_pg 119 pc = some e) : am_ok 119 pc e = true := am_okm_use am_kk119 (fun pc q => by unfold am_c119; rw [am_blt q]; rfl) (show am_c119 pc = some e from h)
theorem am_p120 {pc : Nat} {e : aI} (h : am_pg 120 pc = some e) : am_ok 120 pc e = true := am_okm_use am_kk120 (fun pc q => by unfold am_c120; rw [am_blt q]; rfl) (show am_c120 pc = some e from h)
theorem am_p121 {pc : Nat} {e : aI} (h : am_pg 121 pc = some e) : am_ok 121 pc e = true := am_okm_use am_kk121 (fun pc q => by unfold am_c121; rw [am_blt q]; rfl) (show am_c121 pc = some e from h)
theorem am_p122 {pc : Nat} {e : aI} (h : am_pg 122 pc = some e) : am_ok 122 pc e = true := am_okm_use am_kk122 (fun pc q => by unfold am_c122; rw [am_blt q]; rfl) (show am_c122 pc = some e from h)
theorem am_p123 {pc : Nat} {e : aI} (h : am_pg 123 pc = some e) : am_ok 123 pc e = true := am_okm_use am_kk123 (fun pc q => by unfold am_c123; rw [am_blt q]; rfl) (show am_c123 pc = some e from h)
theorem am_p124 {pc : Nat} {e : aI} (h : am_pg 124 pc = some e) : am_ok 124 pc e = true := am_okm_use am_kk124 (fun pc q => by unfold am_c124; rw [am_blt q]; rfl) (show am_c124 pc = some e from h)
theorem am_p125 {pc : Nat} {e : aI} (h : am_pg 125 pc = some e) : am_ok 125 pc e = true := am_okm_use am_kk125 (fun pc q => by unfold am_c125; rw [am_blt q]; rfl) (show am_c125 pc = some e from h)
theorem am_p126 {pc : Nat} {e : aI} (h : am_pg 126 pc = some e) : am_ok 126 pc e = true := am_okm_use am_kk126 (fun pc q => by unfold am_c126; rw [am_blt q]; rfl) (show am_c126 pc = some e from h)
theorem am_p127 {pc : Nat} {e : aI} (h : am_pg 127 pc = some e) : am_ok 127 pc e = true := am_okm_use am_kk127 (fun pc q => by unfold am_c127; rw [am_blt q]; rfl) (show am_c127 pc = some e from h)
theorem am_p128 {pc : Nat} {e : aI} (h : am_pg 128 pc = some e) : am_ok 128 pc e = true := am_okm_use am_kk128 (fun pc q => by unfold am_c128; rw [am_blt q]; rfl) (show am_c128 pc = some e from h)
theorem am_p129 {pc : Nat} {e : aI} (h : am_pg 129 pc = some e) : am_ok 129 pc e = true := am_okm_use am_kk129 (fun pc q => by unfold am_c129; rw [am_blt q]; rfl) (show am_c129 pc = some e from h)
theorem am_p130 {pc : Nat} {e : aI} (h : am_pg 130 pc = some e) : am_ok 130 pc e = true := am_okm_use am_kk130 (fun pc q => by unfold am_c130; rw [am_blt q]; rfl) (show am_c130 pc = some e from h)
theorem am_p131 {pc : Nat} {e : aI} (h : am_pg 131 pc = some e) : am_ok 131 pc e = true := am_okm_use am_kk131 (fun pc q => by unfold am_c131; rw [am_blt q]; rfl) (show am_c131 pc = some e from h)
theorem am_p132 {pc : Nat} {e : aI} (h : am_pg 132 pc = some e) : am_ok 132 pc e = true := am_okm_use am_kk132 (fun pc q => by unfold am_c132; rw [am_blt q]; rfl) (show am_c132 pc = some e from h)
theorem am_p133 {pc : Nat} {e : aI} (h : am_pg 133 pc = some e) : am_ok 133 pc e = true := am_okm_use am_kk133 (fun pc q => by unfold am_c133; rw [am_blt q]; rfl) (show am_c133 pc = some e from h)
theorem am_p134 {pc : Nat} {e : aI} (h : am_pg 134 pc = some e) : am_ok 134 pc e = true := am_okm_use am_kk134 (fun pc q => by unfold am_c134; rw [am_blt q]; rfl) (show am_c134 pc = some e from h)
theorem am_p135 {pc : Nat} {e : aI} (h : am_pg 135 pc = some e) : am_ok 135 pc e = true := am_okm_use am_kk135 (fun pc q => by unfold am_c135; rw [am_blt q]; rfl) (show am_c135 pc = some e from h)
theorem am_p136 {pc : Nat} {e : aI} (h : am_pg 136 pc = some e) : am_ok 136 pc e = true := am_okm_use am_kk136 (fun pc q => by unfold am_c136; rw [am_blt q]; rfl) (show am_c136 pc = some e from h)
theorem am_p137 {pc : Nat} {e : aI} (h : am_pg 137 pc = some e) : am_ok 137 pc e = true := am_okm_use am_kk137 (fun pc q => by unfold am_c137; rw [am_blt q]; rfl) (show am_c137 pc = some e from h)
theorem am_p138 {pc : Nat} {e : aI} (h : am_pg 138 pc = some e) : am_ok 138 pc e = true := am_okm_use am_kk138 (fun pc q => by unfold am_c138; rw [am_blt q]; rfl) (show am_c138 pc = some e from h)
theorem am_p139 {pc : Nat} {e : aI} (h : am_pg 139 pc = some e) : am_ok 139 pc e = true := am_okm_use am_kk139 (fun pc q => by unfold am_c139; rw [am_blt q]; rfl) (show am_c139 pc = some e from h)
theorem am_p140 {pc : Nat} {e : aI} (h : am_pg 140 pc = some e) : am_ok 140 pc e = true := am_okm_use am_kk140 (fun pc q => by unfold am_c140; rw [am_blt q]; rfl) (show am_c140 pc = some e from h)
theorem am_p141 {pc : Nat} {e : aI} (h : am_pg 141 pc = some e) : am_ok 141 pc e = true := am_okm_use am_kk141 (fun pc q => by unfold am_c141; rw [am_blt q]; rfl) (show am_c141 pc = some e from h)
theorem am_p142 {pc : Nat} {e : aI} (h : am_pg 142 pc = some e) : am_ok 142 pc e = true := am_okm_use am_kk142 (fun pc q => by unfold am_c142; rw [am_blt q]; rfl) (show am_c142 pc = some e from h)
theorem am_p143 {pc : Nat} {e : aI} (h : am_pg 143 pc = some e) : am_ok 143 pc e = true := am_okm_use am_kk143 (fun pc q => by unfold am_c143; rw [am_blt q]; rfl) (show am_c143 pc = some e from h)
theorem am_p144 {pc : Nat} {e : aI} (h : am_pg 144 pc = some e) : am_ok 144 pc e = true := am_okm_use am_kk144 (fun pc q => by unfold am_c144; rw [am_blt q]; rfl) (show am_c144 pc = some e from h)
theorem am_p145 {pc : Nat} {e : aI} (h : am_pg 145 pc = some e) : am_ok 145 pc e = true := am_okm_use am_kk145 (fun pc q => by unfold am_c145; rw [am_blt q]; rfl) (show am_c145 pc = some e from h)
theorem am_p146 {pc : Nat} {e : aI} (h : am_pg 146 pc = some e) : am_ok 146 pc e = true := am_okm_use am_kk146 (fun pc q => by unfold am_c146; rw [am_blt q]; rfl) (show am_c146 pc = some e from h)
theorem am_p147 {pc : Nat} {e : aI} (h : am_pg 147 pc = some e) : am_ok 147 pc e = true := am_okm_use am_kk147 (fun pc q => by unfold am_c147; rw [am_blt q]; rfl) (show am_c147 pc = some e from h)
theorem am_p148 {pc : Nat} {e : aI} (h : am_pg 148 pc = some e) : am_ok 148 pc e = true := am_okm_use am_kk148 (fun pc q => by unfold am_c148; rw [am_blt q]; rfl) (show am_c148 pc = some e from h)
theorem am_p149 {pc : Nat} {e : aI} (h : am_pg 149 pc = some e) : am_ok 149 pc e = true := am_okm_use am_kk149 (fun pc q => by unfold am_c149; rw [am_blt q]; rfl) (show am_c149 pc = some e from h)
theorem am_p150 {pc : Nat} {e : aI} (h : am_pg 150 pc = some e) : am_ok 150 pc e = true := am_okm_use am_kk150 (fun pc q => by unfold am_c150; rw [am_blt q]; rfl) (show am_c150 pc = some e from h)
theorem am_p151 {pc : Nat} {e : aI} (h : am_pg 151 pc = some e) : am_ok 151 pc e = true := am_okm_use am_kk151 (fun pc q => by unfold am_c151; rw [am_blt q]; rfl) (show am_c151 pc = some e from h)
theorem am_p152 {pc : Nat} {e : aI} (h : am_pg 152 pc = some e) : am_ok 152 pc e = true := am_okm_use am_kk152 (fun pc q => by unfold am_c152; rw [am_blt q]; rfl) (show am_c152 pc = some e from h)
theorem am_p153 {pc : Nat} {e : aI} (h : am_pg 153 pc = some e) : am_ok 153 pc e = true := am_okm_use am_kk153 (fun pc q => by unfold am_c153; rw [am_blt q]; rfl) (show am_c153 pc = some e from h)
theorem am_p154 {pc : Nat} {e : aI} (h : am_pg 154 pc = some e) : am_ok 154 pc e = true := am_okm_use am_kk154 (fun pc q => by unfold am_c154; rw [am_blt q]; rfl) (show am_c154 pc = some e from h)
theorem am_p155 {pc : Nat} {e : aI} (h : am_pg 155 pc = some e) : am_ok 155 pc e = true := am_okm_use am_kk155 (fun pc q => by unfold am_c155; rw [am_blt q]; rfl) (show am_c155 pc = some e from h)
theorem am_p156 {pc : Nat} {e : aI} (h : am_pg 156 pc = some e) : am_ok 156 pc e = true := am_okm_use am_kk156 (fun pc q => by unfold am_c156; rw [am_blt q]; rfl) (show am_c156 pc = some e from h)
theorem am_p157 {pc : Nat} {e : aI} (h : am_pg 157 pc = some e) : am_ok 157 pc e = true := am_okm_use am_kk157 (fun pc q => by unfold am_c157; rw [am_blt q]; rfl) (show am_c157 pc = some e from h)
theorem am_p158 {pc : Nat} {e : aI} (h : am_pg 158 pc = some e) : am_ok 158 pc e = true := am_okm_use am_kk158 (fun pc q => by unfold am_c158; rw [am_blt q]; rfl) (show am_c158 pc = some e from h)
theorem am_p159 {pc : Nat} {e : aI} (h : am_pg 159 pc = some e) : am_ok 159 pc e = true := am_okm_use am_kk159 (fun pc q => by unfold am_c159; rw [am_blt q]; rfl) (show am_c159 pc = some e from h)
theorem am_p160 {pc : Nat} {e : aI} (h : am_pg 160 pc = some e) : am_ok 160 pc e = true := am_okm_use am_kk160 (fun pc q => by unfold am_c160; rw [am_blt q]; rfl) (show am_c160 pc = some e from h)
theorem am_p161 {pc : Nat} {e : aI} (h : am_pg 161 pc = some e) : am_ok 161 pc e = true := am_okm_use am_kk161 (fun pc q => by unfold am_c161; rw [am_blt q]; rfl) (show am_c161 pc = some e from h)
theorem am_p162 {pc : Nat} {e : aI} (h : am_pg 162 pc = some e) : am_ok 162 pc e = true := am_okm_use am_kk162 (fun pc q => by unfold am_c162; rw [am_blt q]; rfl) (show am_c162 pc = some e from h)
theorem am_p163 {pc : Nat} {e : aI} (h : am_pg 163 pc = some e) : am_ok 163 pc e = true := am_okm_use am_kk163 (fun pc q => by unfold am_c163; rw [am_blt q]; rfl) (show am_c163 pc = some e from h)
theorem am_p164 {pc : Nat} {e : aI} (h : am_pg 164 pc = some e) : am_ok 164 pc e = true := am_okm_use am_kk164 (fun pc q => by unfold am_c164; rw [am_blt q]; rfl) (show am_c164 pc = some e from h)
theorem am_p165 {pc : Nat} {e : aI} (h : am_pg 165 pc = some e) : am_ok 165 pc e = true := am_okm_use am_kk165 (fun pc q => by unfold am_c165; rw [am_blt q]; rfl) (show am_c165 pc = some e from h)
theorem am_p166 {pc : Nat} {e : aI} (h : am_pg 166 pc = some e) : am_ok 166 pc e = true := am_okm_use am_kk166 (fun pc q => by unfold am_c166; rw [am_blt q]; rfl) (show am_c166 pc = some e from h)
theorem am_p167 {pc : Nat} {e : aI} (h : am_pg 167 pc = some e) : am_ok 167 pc e = true := am_okm_use am_kk167 (fun pc q => by unfold am_c167; rw [am_blt q]; rfl) (show am_c167 pc = some e from h)
theorem am_p168 {pc : Nat} {e : aI} (h : am_pg 168 pc = some e) : am_ok 168 pc e = true := am_okm_use am_kk168 (fun pc q => by unfold am_c168; rw [am_blt q]; rfl) (show am_c168 pc = some e from h)
theorem am_p169 {pc : Nat} {e : aI} (h : am_pg 169 pc = some e) : am_ok 169 pc e = true := am_okm_use am_kk169 (fun pc q => by unfold am_c169; rw [am_blt q]; rfl) (show am_c169 pc = some e from h)
theorem am_p170 {pc : Nat} {e : aI} (h : am_pg 170 pc = some e) : am_ok 170 pc e = true := am_okm_use am_kk170 (fun pc q => by unfold am_c170; rw [am_blt q]; rfl) (show am_c170 pc = some e from h)
theorem am_p171 {pc : Nat} {e : aI} (h : am_pg 171 pc = some e) : am_ok 171 pc e = true := am_okm_use am_kk171 (fun pc q => by unfold am_c171; rw [am_blt q]; rfl) (show am_c171 pc = some e from h)
theorem am_p172 {pc : Nat} {e : aI} (h : am_pg 172 pc = some e) : am_ok 172 pc e = true := am_okm_use am_kk172 (fun pc q => by unfold am_c172; rw [am_blt q]; rfl) (show am_c172 pc = some e from h)
theorem am_p173 {pc : Nat} {e : aI} (h : am_pg 173 pc = some e) : am_ok 173 pc e = true := am_okm_use am_kk173 (fun pc q => by unfold am_c173; rw [am_blt q]; rfl) (show am_c173 pc = some e from h)
theorem am_p174 {pc : Nat} {e : aI} (h : am_pg 174 pc = some e) : am_ok 174 pc e = true := am_okm_use am_kk174 (fun pc q => by unfold am_c174; rw [am_blt q]; rfl) (show am_c174 pc = some e from h)
theorem am_p175 {pc : Nat} {e : aI} (h : am_pg 175 pc = some e) : am_ok 175 pc e = true := am_okm_use am_kk175 (fun pc q => by unfold am_c175; rw [am_blt q]; rfl) (show am_c175 pc = some e from h)
theorem am_p176 {pc : Nat} {e : aI} (h : am_pg 176 pc = some e) : am_ok 176 pc e = true := am_okm_use am_kk176 (fun pc q => by unfold am_c176; rw [am_blt q]; rfl) (show am_c176 pc = some e from h)
theorem am_p177 {pc : Nat} {e : aI} (h : am_pg 177 pc = some e) : am_ok 177 pc e = true := am_okm_use am_kk177 (fun pc q => by unfold am_c177; rw [am_blt q]; rfl) (show am_c177 pc = some e from h)
theorem am_p178 {pc : Nat} {e : aI} (h : am_pg 178 pc = some e) : am_ok 178 pc e = true := am_okm_use am_kk178 (fun pc q => by unfold am_c178; rw [am_blt q]; rfl) (show am_c178 pc = some e from h)
theorem am_p179 {pc : Nat} {e : aI} (h : am_pg 179 pc = some e) : am_ok 179 pc e = true := am_okm_use am_kk179 (fun pc q => by unfold am_c179; rw [am_blt q]; rfl) (show am_c179 pc = some e from h)
theorem am_p180 {pc : Nat} {e : aI} (h : am_pg 180 pc = some e) : am_ok 180 pc e = true := am_okm_use am_kk180 (fun pc q => by unfold am_c180; rw [am_blt q]; rfl) (show am_c180 pc = some e from h)
theorem am_p181 {pc : Nat} {e : aI} (h : am_pg 181 pc = some e) : am_ok 181 pc e = true := am_okm_use am_kk181 (fun pc q => by unfold am_c181; rw [am_blt q]; rfl) (show am_c181 pc = some e from h)
theorem am_p182 {pc : Nat} {e : aI} (h : am_pg 182 pc = some e) : am_ok 182 pc e = true := am_okm_use am_kk182 (fun pc q => by unfold am_c182; rw [am_blt q]; rfl) (show am_c182 pc = some e from h)
theorem am_p183 {pc : Nat} {e : aI} (h : am_pg 183 pc = some e) : am_ok 183 pc e = true := am_okm_use am_kk183 (fun pc q => by unfold am_c183; rw [am_blt q]; rfl) (show am_c183 pc = some e from h)
theorem am_p184 {pc : Nat} {e : aI} (h : am_pg 184 pc = some e) : am_ok 184 pc e = true := am_okm_use am_kk184 (fun pc q => by unfold am_c184; rw [am_blt q]; rfl) (show am_c184 pc = some e from h)
theorem am_p185 {pc : Nat} {e : aI} (h : am_pg 185 pc = some e) : am_ok 185 pc e = true := am_okm_use am_kk185 (fun pc q => by unfold am_c185; rw [am_blt q]; rfl) (show am_c185 pc = some e from h)
theorem am_p186 {pc : Nat} {e : aI} (h : am_pg 186 pc = some e) : am_ok 186 pc e = true := am_okm_use am_kk186 (fun pc q => by unfold am_c186; rw [am_blt q]; rfl) (show am_c186 pc = some e from h)
theorem am_p187 {pc : Nat} {e : aI} (h : am_pg 187 pc = some e) : am_ok 187 pc e = true := am_okm_use am_kk187 (fun pc q => by unfold am_c187; rw [am_blt q]; rfl) (show am_c187 pc = some e from h)
theorem am_p188 {pc : Nat} {e : aI} (h : am_pg 188 pc = some e) : am_ok 188 pc e = true := am_okm_use am_kk188 (fun pc q => by unfold am_c188; rw [am_blt q]; rfl) (show am_c188 pc = some e from h)
theorem am_p189 {pc : Nat} {e : aI} (h : am_pg 189 pc = some e) : am_ok 189 pc e = true := am_okm_use am_kk189 (fun pc q => by unfold am_c189; rw [am_blt q]; rfl) (show am_c189 pc = some e from h)
theorem am_p190 {pc : Nat} {e : aI} (h : am_pg 190 pc = some e) : am_ok 190 pc e = true := am_okm_use am_kk190 (fun pc q => by unfold am_c190; rw [am_blt q]; rfl) (show am_c190 pc = some e from h)
theorem am_p191 {pc : Nat} {e : aI} (h : am_pg 191 pc = some e) : am_ok 191 pc e = true := am_okm_use am_kk191 (fun pc q => by unfold am_c191; rw [am_blt q]; rfl) (show am_c191 pc = some e from h)
theorem am_p192 {pc : Nat} {e : aI} (h : am_pg 192 pc = some e) : am_ok 192 pc e = true := am_okm_use am_kk192 (fun pc q => by unfold am_c192; rw [am_blt q]; rfl) (show am_c192 pc = some e from h)
theorem am_p193 {pc : Nat} {e : aI} (h : am_pg 193 pc = some e) : am_ok 193 pc e = true := am_okm_use am_kk193 (fun pc q => by unfold am_c193; rw [am_blt q]; rfl) (show am_c193 pc = some e from h)
theorem am_p194 {pc : Nat} {e : aI} (h : am_pg 194 pc = some e) : am_ok 194 pc e = true := am_okm_use am_kk194 (fun pc q => by unfold am_c194; rw [am_blt q]; rfl) (show am_c194 pc = some e from h)
theorem am_p195 {pc : Nat} {e : aI} (h : am_pg 195 pc = some e) : am_ok 195 pc e = true := am_okm_use am_kk195 (fun pc q => by unfold am_c195; rw [am_blt q]; rfl) (show am_c195 pc = some e from h)
theorem am_p196 {pc : Nat} {e : aI} (h : am_pg 196 pc = some e) : am_ok 196 pc e = true := am_okm_use am_kk196 (fun pc q => by unfold am_c196; rw [am_blt q]; rfl) (show am_c196 pc = some e from h)
theorem am_p197 {pc : Nat} {e : aI} (h : am_pg 197 pc = some e) : am_ok 197 pc e = true := am_okm_use am_kk197 (fun pc q => by unfold am_c197; rw [am_blt q]; rfl) (show am_c197 pc = some e from h)
theorem am_p198 {pc : Nat} {e : aI} (h : am_pg 198 pc = some e) : am_ok 198 pc e = true := am_okm_use am_kk198 (fun pc q => by unfold am_c198; rw [am_blt q]; rfl) (show am_c198 pc = some e from h)
theorem am_p199 {pc : Nat} {e : aI} (h : am_pg 199 pc = some e) : am_ok 199 pc e = true := am_okm_use am_kk199 (fun pc q => by unfold am_c199; rw [am_blt q]; rfl) (show am_c199 pc = some e from h)
theorem am_p200 {pc : Nat} {e : aI} (h : am_pg 200 pc = some e) : am_ok 200 pc e = true := am_okm_use am_kk200 (fun pc q => by unfold am_c200; rw [am_blt q]; rfl) (show am_c200 pc = some e from h)
theorem am_p201 {pc : Nat} {e : aI} (h : am_pg 201 pc = some e) : am_ok 201 pc e = true := am_okm_use am_kk201 (fun pc q => by unfold am_c201; rw [am_blt q]; rfl) (show am_c201 pc = some e from h)
theorem am_p202 {pc : Nat} {e : aI} (h : am_pg 202 pc = some e) : am_ok 202 pc e = true := am_okm_use am_kk202 (fun pc q => by unfold am_c202; rw [am_blt q]; rfl) (show am_c202 pc = some e from h)
theorem am_p203 {pc : Nat} {e : aI} (h : am_pg 203 pc = some e) : am_ok 203 pc e = true := am_okm_use am_kk203 (fun pc q => by unfold am_c203; rw [am_blt q]; rfl) (show am_c203 pc = some e from h)
theorem am_p204 {pc : Nat} {e : aI} (h : am_pg 204 pc = some e) : am_ok 204 pc e = true := am_okm_use am_kk204 (fun pc q => by unfold am_c204; rw [am_blt q]; rfl) (show am_c204 pc = some e from h)
theorem am_p205 {pc : Nat} {e : aI} (h : am_pg 205 pc = some e) : am_ok 205 pc e = true := am_okm_use am_kk205 (fun pc q => by unfold am_c205; rw [am_blt q]; rfl) (show am_c205 pc = some e from h)
theorem am_p206 {pc : Nat} {e : aI} (h : am_pg 206 pc = some e) : am_ok 206 pc e = true := am_okm_use am_kk206 (fun pc q => by unfold am_c206; rw [am_blt q]; rfl) (show am_c206 pc = some e from h)
theorem am_p207 {pc : Nat} {e : aI} (h : am_pg 207 pc = some e) : am_ok 207 pc e = true := am_okm_use am_kk207 (fun pc q => by unfold am_c207; rw [am_blt q]; rfl) (show am_c207 pc = some e from h)
theorem am_p208 {pc : Nat} {e : aI} (h : am_pg 208 pc = some e) : am_ok 208 pc e = true := am_okm_use am_kk208 (fun pc q => by unfold am_c208; rw [am_blt q]; rfl) (show am_c208 pc = some e from h)
theorem am_p209 {pc : Nat} {e : aI} (h : am_pg 209 pc = some e) : am_ok 209 pc e = true := am_okm_use am_kk209 (fun pc q => by unfold am_c209; rw [am_blt q]; rfl) (show am_c209 pc = some e from h)
theorem am_p210 {pc : Nat} {e : aI} (h : am_pg 210 pc = some e) : am_ok 210 pc e = true := am_okm_use am_kk210 (fun pc q => by unfold am_c210; rw [am_blt q]; rfl) (show am_c210 pc = some e from h)
theorem am_p211 {pc : Nat} {e : aI} (h : am_pg 211 pc = some e) : am_ok 211 pc e = true := am_okm_use am_kk211 (fun pc q => by unfold am_c211; rw [am_blt q]; rfl) (show am_c211 pc = some e from h)
theorem am_p212 {pc : Nat} {e : aI} (h : am_pg 212 pc = some e) : am_ok 212 pc e = true := am_okm_use am_kk212 (fun pc q => by unfold am_c212; rw [am_blt q]; rfl) (show am_c212 pc = some e from h)
theorem am_p213 {pc : Nat} {e : aI} (h : am_pg 213 pc = some e) : am_ok 213 pc e = true := am_okm_use am_kk213 (fun pc q => by unfold am_c213; rw [am_blt q]; rfl) (show am_c213 pc = some e from h)
theorem am_p214 {pc : Nat} {e : aI} (h : am_pg 214 pc = some e) : am_ok 214 pc e = true := am_okm_use am_kk214 (fun pc q => by unfold am_c214; rw [am_blt q]; rfl) (show am_c214 pc = some e from h)
theorem am_p215 {pc : Nat} {e : aI} (h : am_pg 215 pc = some e) : am_ok 215 pc e = true := am_okm_use am_kk215 (fun pc q => by unfold am_c215; rw [am_blt q]; rfl) (show am_c215 pc = some e from h)
theorem am_p216 {pc : Nat} {e : aI} (h : am_pg 216 pc = some e) : am_ok 216 pc e = true := am_okm_use am_kk216 (fun pc q => by unfold am_c216; rw [am_blt q]; rfl) (show am_c216 pc = some e from h)
theorem am_p217 {pc : Nat} {e : aI} (h : am_pg 217 pc = some e) : am_ok 217 pc e = true := am_okm_use am_kk217 (fun pc q => by unfold am_c217; rw [am_blt q]; rfl) (show am_c217 pc = some e from h)
theorem am_p218 {pc : Nat} {e : aI} (h : am_pg 218 pc = some e) : am_ok 218 pc e = true := am_okm_use am_kk218 (fun pc q => by unfold am_c218; rw [am_blt q]; rfl) (show am_c218 pc = some e from h)
theorem am_p219 {pc : Nat} {e : aI} (h : am_pg 219 pc = some e) : am_ok 219 pc e = true := am_okm_use am_kk219 (fun pc q => by unfold am_c219; rw [am_blt q]; rfl) (show am_c219 pc = some e from h)
theorem am_p220 {pc : Nat} {e : aI} (h : am_pg 220 pc = some e) : am_ok 220 pc e = true := am_okm_use am_kk220 (fun pc q => by unfold am_c220; rw [am_blt q]; rfl) (show am_c220 pc = some e from h)
theorem am_p221 {pc : Nat} {e : aI} (h : am_pg 221 pc = some e) : am_ok 221 pc e = true := am_okm_use am_kk221 (fun pc q => by unfold am_c221; rw [am_blt q]; rfl) (show am_c221 pc = some e from h)
theorem am_p222 {pc : Nat} {e : aI} (h : am_pg 222 pc = some e) : am_ok 222 pc e = true := am_okm_use am_kk222 (fun pc q => by unfold am_c222; rw [am_blt q]; rfl) (show am_c222 pc = some e from h)
theorem am_p223 {pc : Nat} {e : aI} (h : am_pg 223 pc = some e) : am_ok 223 pc e = true := am_okm_use am_kk223 (fun pc q => by unfold am_c223; rw [am_blt q]; rfl) (show am_c223 pc = some e from h)
theorem am_p224 {pc : Nat} {e : aI} (h : am_pg 224 pc = some e) : am_ok 224 pc e = true := am_okm_use am_kk224 (fun pc q => by unfold am_c224; rw [am_blt q]; rfl) (show am_c224 pc = some e from h)
theorem am_p225 {pc : Nat} {e : aI} (h : am_pg 225 pc = some e) : am_ok 225 pc e = true := am_okm_use am_kk225 (fun pc q => by unfold am_c225; rw [am_blt q]; rfl) (show am_c225 pc = some e from h)
theorem am_p226 {pc : Nat} {e : aI} (h : am_pg 226 pc = some e) : am_ok 226 pc e = true := am_okm_use am_kk226 (fun pc q => by unfold am_c226; rw [am_blt q]; rfl) (show am_c226 pc = some e from h)
theorem am_p227 {pc : Nat} {e : aI} (h : am_pg 227 pc = some e) : am_ok 227 pc e = true := am_okm_use am_kk227 (fun pc q => by unfold am_c227; rw [am_blt q]; rfl) (show am_c227 pc = some e from h)
theorem am_p228 {pc : Nat} {e : aI} (h : am_pg 228 pc = some e) : am_ok 228 pc e = true := am_okm_use am_kk228 (fun pc q => by unfold am_c228; rw [am_blt q]; rfl) (show am_c228 pc = some e from h)
theorem am_p229 {pc : Nat} {e : aI} (h : am_pg 229 pc = some e) : am_ok 229 pc e = true := am_okm_use am_kk229 (fun pc q => by unfold am_c229; rw [am_blt q]; rfl) (show am_c229 pc = some e from h)
theorem am_p230 {pc : Nat} {e : aI} (h : am_pg 230 pc = some e) : am_ok 230 pc e = true := am_okm_use am_kk230 (fun pc q => by unfold am_c230; rw [am_blt q]; rfl) (show am_c230 pc = some e from h)
theorem am_p231 {pc : Nat} {e : aI} (h : am_pg 231 pc = some e) : am_ok 231 pc e = true := am_okm_use am_kk231 (fun pc q => by unfold am_c231; rw [am_blt q]; rfl) (show am_c231 pc = some e from h)
theorem am_p232 {pc : Nat} {e : aI} (h : am_pg 232 pc = some e) : am_ok 232 pc e = true := am_okm_use am_kk232 (fun pc q => by unfold am_c232; rw [am_blt q]; rfl) (show am_c232 pc = some e from h)
theorem am_p233 {pc : Nat} {e : aI} (h : am_pg 233 pc = some e) : am_ok 233 pc e = true := am_okm_use am_kk233 (fun pc q => by unfold am_c233; rw [am_blt q]; rfl) (show am_c233 pc = some e from h)
theorem am_p234 {pc : Nat} {e : aI} (h : am_pg 234 pc = some e) : am_ok 234 pc e = true := am_okm_use am_kk234 (fun pc q => by unfold am_c234; rw [am_blt q]; rfl) (show am_c234 pc = some e from h)
theorem am_p235 {pc : Nat} {e : aI} (h : am_pg 235 pc = some e) : am_ok 235 pc e = true := am_okm_use am_kk235 (fun pc q => by unfold am_c235; rw [am_blt q]; rfl) (show am_c235 pc = some e from h)
theorem am_p236 {pc : Nat} {e : aI} (h : am_pg 236 pc = some e) : am_ok 236 pc e = true := am_okm_use am_kk236 (fun pc q => by unfold am_c236; rw [am_blt q]; rfl) (show am_c236 pc = some e from h)
theorem am_p237 {pc : Nat} {e : aI} (h : am_pg 237 pc = some e) : am_ok 237 pc e = true := am_okm_use am_kk237 (fun pc q => by unfold am_c237; rw [am_blt q]; rfl) (show am_c237 pc = some e from h)
theorem am_p238 {pc : Nat} {e : aI} (h : am_pg 238 pc = some e) : am_ok 238 pc e = true := am_okm_use am_kk238 (fun pc q => by unfold am_c238; rw [am_blt q]; rfl) (show am_c238 pc = some e from h)
theorem am_p239 {pc : Nat} {e : aI} (h : am_pg 239 pc = some e) : am_ok 239 pc e = true := am_okm_use am_kk239 (fun pc q => by unfold am_c239; rw [am_blt q]; rfl) (show am_c239 pc = some e from h)
theorem am_p240 {pc : Nat} {e : aI} (h : am_pg 240 pc = some e) : am_ok 240 pc e = true := am_okm_use am_kk240 (fun pc q => by unfold am_c240; rw [am_blt q]; rfl) (show am_c240 pc = some e from h)
theorem am_p241 {pc : Nat} {e : aI} (h : am_pg 241 pc = some e) : am_ok 241 pc e = true := am_okm_use am_kk241 (fun pc q => by unfold am_c241; rw [am_blt q]; rfl) (show am_c241 pc = some e from h)
theorem am_p242 {pc : Nat} {e : aI} (h : am_pg 242 pc = some e) : am_ok 242 pc e = true := am_okm_use am_kk242 (fun pc q => by unfold am_c242; rw [am_blt q]; rfl) (show am_c242 pc = some e from h)
theorem am_p243 {pc : Nat} {e : aI} (h : am_pg 243 pc = some e) : am_ok 243 pc e = true := am_okm_use am_kk243 (fun pc q => by unfold am_c243; rw [am_blt q]; rfl) (show am_c243 pc = some e from h)
theorem am_p244 {pc : Nat} {e : aI} (h : am_pg 244 pc = some e) : am_ok 244 pc e = true := am_okm_use am_kk244 (fun pc q => by unfold am_c244; rw [am_blt q]; rfl) (show am_c244 pc = some e from h)
theorem am_p245 {pc : Nat} {e : aI} (h : am_pg 245 pc = some e) : am_ok 245 pc e = true := am_okm_use am_kk245 (fun pc q => by unfold am_c245; rw [am_blt q]; rfl) (show am_c245 pc = some e from h)
theorem am_p246 {pc : Nat} {e : aI} (h : am_pg 246 pc = some e) : am_ok 246 pc e = true := am_okm_use am_kk246 (fun pc q => by unfold am_c246; rw [am_blt q]; rfl) (show am_c246 pc = some e from h)
theorem am_p247 {pc : Nat} {e : aI} (h : am_pg 247 pc = some e) : am_ok 247 pc e = true := am_okm_use am_kk247 (fun pc q => by unfold am_c247; rw [am_blt q]; rfl) (show am_c247 pc = some e from h)
theorem am_p248 {pc : Nat} {e : aI} (h : am_pg 248 pc = some e) : am_ok 248 pc e = true := am_okm_use am_kk248 (fun pc q => by unfold am_c248; rw [am_blt q]; rfl) (show am_c248 pc = some e from h)
theorem am_p249 {pc : Nat} {e : aI} (h : am_pg 249 pc = some e) : am_ok 249 pc e = true := am_okm_use am_kk249 (fun pc q => by unfold am_c249; rw [am_blt q]; rfl) (show am_c249 pc = some e from h)
theorem am_p250 {pc : Nat} {e : aI} (h : am_pg 250 pc = some e) : am_ok 250 pc e = true := am_okm_use am_kk250 (fun pc q => by unfold am_c250; rw [am_blt q]; rfl) (show am_c250 pc = some e from h)
theorem am_p251 {pc : Nat} {e : aI} (h : am_pg 251 pc = some e) : am_ok 251 pc e = true := am_okm_use am_kk251 (fun pc q => by unfold am_c251; rw [am_blt q]; rfl) (show am_c251 pc = some e from h)
theorem am_p252 {pc : Nat} {e : aI} (h : am_pg 252 pc = some e) : am_ok 252 pc e = true := am_okm_use am_kk252 (fun pc q => by unfold am_c252; rw [am_blt q]; rfl) (show am_c252 pc = some e from h)
theorem am_p253 {pc : Nat} {e : aI} (h : am_pg 253 pc = some e) : am_ok 253 pc e = true := am_okm_use am_kk253 (fun pc q => by unfold am_c253; rw [am_blt q]; rfl) (show am_c253 pc = some e from h)
theorem am_p254 {pc : Nat} {e : aI} (h : am_pg 254 pc = some e) : am_ok 254 pc e = true := am_okm_use am_kk254 (fun pc q => by unfold am_c254; rw [am_blt q]; rfl) (show am_c254 pc = some e from h)
theorem am_p255 {pc : Nat} {e : aI} (h : am_pg 255 pc = some e) : am_ok 255 pc e = true := am_okm_use am_kk255 (fun pc q => by unfold am_c255; rw [am_blt q]; rfl) (show am_c255 pc = some e from h)
theorem am_p256 {pc : Nat} {e : aI} (h : am_pg 256 pc = some e) : am_ok 256 pc e = true := am_okm_use am_kk256 (fun pc q => by unfold am_c256; rw [am_blt q]; rfl) (show am_c256 pc = some e from h)
theorem am_p257 {pc : Nat} {e : aI} (h : am_pg 257 pc = some e) : am_ok 257 pc e = true := am_okm_use am_kk257 (fun pc q => by unfold am_c257; rw [am_blt q]; rfl) (show am_c257 pc = some e from h)
theorem am_p258 {pc : Nat} {e : aI} (h : am_pg 258 pc = some e) : am_ok 258 pc e = true := am_okm_use am_kk258 (fun pc q => by unfold am_c258; rw [am_blt q]; rfl) (show am_c258 pc = some e from h)
theorem am_p259 {pc : Nat} {e : aI} (h : am_pg 259 pc = some e) : am_ok 259 pc e = true := am_okm_use am_kk259 (fun pc q => by unfold am_c259; rw [am_blt q]; rfl) (show am_c259 pc = some e from h)
theorem am_p260 {pc : Nat} {e : aI} (h : am_pg 260 pc = some e) : am_ok 260 pc e = true := am_okm_use am_kk260 (fun pc q => by unfold am_c260; rw [am_blt q]; rfl) (show am_c260 pc = some e from h)
theorem am_p261 {pc : Nat} {e : aI} (h : am_pg 261 pc = some e) : am_ok 261 pc e = true := am_okm_use am_kk261 (fun pc q => by unfold am_c261; rw [am_blt q]; rfl) (show am_c261 pc = some e from h)
theorem am_p262 {pc : Nat} {e : aI} (h : am_pg 262 pc = some e) : am_ok 262 pc e = true := am_okm_use am_kk262 (fun pc q => by unfold am_c262; rw [am_blt q]; rfl) (show am_c262 pc = some e from h)
theorem am_p263 {pc : Nat} {e : aI} (h : am_pg 263 pc = some e) : am_ok 263 pc e = true := am_okm_use am_kk263 (fun pc q => by unfold am_c263; rw [am_blt q]; rfl) (show am_c263 pc = some e from h)
theorem am_p264 {pc : Nat} {e : aI} (h : am_pg 264 pc = some e) : am_ok 264 pc e = true := am_okm_use am_kk264 (fun pc q => by unfold am_c264; rw [am_blt q]; rfl) (show am_c264 pc = some e from h)
theorem am_p265 {pc : Nat} {e : aI} (h : am_pg 265 pc = some e) : am_ok 265 pc e = true := am_okm_use am_kk265 (fun pc q => by unfold am_c265; rw [am_blt q]; rfl) (show am_c265 pc = some e from h)
theorem am_p266 {pc : Nat} {e : aI} (h : am_pg 266 pc = some e) : am_ok 266 pc e = true := am_okm_use am_kk266 (fun pc q => by unfold am_c266; rw [am_blt q]; rfl) (show am_c266 pc = some e from h)
theorem am_p267 {pc : Nat} {e : aI} (h : am_pg 267 pc = some e) : am_ok 267 pc e = true := am_okm_use am_kk267 (fun pc q => by unfold am_c267; rw [am_blt q]; rfl) (show am_c267 pc = some e from h)
theorem am_p268 {pc : Nat} {e : aI} (h : am_pg 268 pc = some e) : am_ok 268 pc e = true := am_okm_use am_kk268 (fun pc q => by unfold am_c268; rw [am_blt q]; rfl) (show am_c268 pc = some e from h)
theorem am_p269 {pc : Nat} {e : aI} (h : am_pg 269 pc = some e) : am_ok 269 pc e = true := am_okm_use am_kk269 (fun pc q => by unfold am_c269; rw [am_blt q]; rfl) (show am_c269 pc = some e from h)
theorem am_p270 {pc : Nat} {e : aI} (h : am_pg 270 pc = some e) : am_ok 270 pc e = true := am_okm_use am_kk270 (fun pc q => by unfold am_c270; rw [am_blt q]; rfl) (show am_c270 pc = some e from h)
theorem am_p271 {pc : Nat} {e : aI} (h : am_pg 271 pc = some e) : am_ok 271 pc e = true := am_okm_use am_kk271 (fun pc q => by unfold am_c271; rw [am_blt q]; rfl) (show am_c271 pc = some e from h)
theorem am_p272 {pc : Nat} {e : aI} (h : am_pg 272 pc = some e) : am_ok 272 pc e = true := am_okm_use am_kk272 (fun pc q => by unfold am_c272; rw [am_blt q]; rfl) (show am_c272 pc = some e from h)
theorem am_p273 {pc : Nat} {e : aI} (h : am_pg 273 pc = some e) : am_ok 273 pc e = true := am_okm_use am_kk273 (fun pc q => by unfold am_c273; rw [am_blt q]; rfl) (show am_c273 pc = some e from h)
theorem am_p274 {pc : Nat} {e : aI} (h : am_pg 274 pc = some e) : am_ok 274 pc e = true := am_okm_use am_kk274 (fun pc q => by unfold am_c274; rw [am_blt q]; rfl) (show am_c274 pc = some e from h)
theorem am_p275 {pc : Nat} {e : aI} (h : am_pg 275 pc = some e) : am_ok 275 pc e = true := am_okm_use am_kk275 (fun pc q => by unfold am_c275; rw [am_blt q]; rfl) (show am_c275 pc = some e from h)
theorem am_p276 {pc : Nat} {e : aI} (h : am_pg 276 pc = some e) : am_ok 276 pc e = true := am_okm_use am_kk276 (fun pc q => by unfold am_c276; rw [am_blt q]; rfl) (show am_c276 pc = some e from h)
theorem am_p277 {pc : Nat} {e : aI} (h : am_pg 277 pc = some e) : am_ok 277 pc e = true := am_okm_use am_kk277 (fun pc q => by unfold am_c277; rw [am_blt q]; rfl) (show am_c277 pc = some e from h)
theorem am_p278 {pc : Nat} {e : aI} (h : am_pg 278 pc = some e) : am_ok 278 pc e = true := am_okm_use am_kk278 (fun pc q => by unfold am_c278; rw [am_blt q]; rfl) (show am_c278 pc = some e from h)
theorem am_p279 {pc : Nat} {e : aI} (h : am_pg 279 pc = some e) : am_ok 279 pc e = true := am_okm_use am_kk279 (fun pc q => by unfold am_c279; rw [am_blt q]; rfl) (show am_c279 pc = some e from h)
theorem am_p280 {pc : Nat} {e : aI} (h : am_pg 280 pc = some e) : am_ok 280 pc e = true := am_okm_use am_kk280 (fun pc q => by unfold am_c280; rw [am_blt q]; rfl) (show am_c280 pc = some e from h)
theorem am_p281 {pc : Nat} {e : aI} (h : am_pg 281 pc = some e) : am_ok 281 pc e = true := am_okm_use am_kk281 (fun pc q => by unfold am_c281; rw [am_blt q]; rfl) (show am_c281 pc = some e from h)
theorem am_p282 {pc : Nat} {e : aI} (h : am_pg 282 pc = some e) : am_ok 282 pc e = true := am_okm_use am_kk282 (fun pc q => by unfold am_c282; rw [am_blt q]; rfl) (show am_c282 pc = some e from h)
theorem am_p283 {pc : Nat} {e : aI} (h : am_pg 283 pc = some e) : am_ok 283 pc e = true := am_okm_use am_kk283 (fun pc q => by unfold am_c283; rw [am_blt q]; rfl) (show am_c283 pc = some e from h)
theorem am_p284 {pc : Nat} {e : aI} (h : am_pg 284 pc = some e) : am_ok 284 pc e = true := am_okm_use am_kk284 (fun pc q => by unfold am_c284; rw [am_blt q]; rfl) (show am_c284 pc = some e from h)
theorem am_p285 {pc : Nat} {e : aI} (h : am_pg 285 pc = some e) : am_ok 285 pc e = true := am_okm_use am_kk285 (fun pc q => by unfold am_c285; rw [am_blt q]; rfl) (show am_c285 pc = some e from h)
theorem am_p286 {pc : Nat} {e : aI} (h : am_pg 286 pc = some e) : am_ok 286 pc e = true := am_okm_use am_kk286 (fun pc q => by unfold am_c286; rw [am_blt q]; rfl) (show am_c286 pc = some e from h)
theorem am_p287 {pc : Nat} {e : aI} (h : am_pg 287 pc = some e) : am_ok 287 pc e = true := am_okm_use am_kk287 (fun pc q => by unfold am_c287; rw [am_blt q]; rfl) (show am_c287 pc = some e from h)
theorem am_p288 {pc : Nat} {e : aI} (h : am_pg 288 pc = some e) : am_ok 288 pc e = true := am_okm_use am_kk288 (fun pc q => by unfold am_c288; rw [am_blt q]; rfl) (show am_c288 pc = some e from h)
theorem am_p289 {pc : Nat} {e : aI} (h : am_pg 289 pc = some e) : am_ok 289 pc e = true := am_okm_use am_kk289 (fun pc q => by unfold am_c289; rw [am_blt q]; rfl) (show am_c289 pc = some e from h)
theorem am_p290 {pc : Nat} {e : aI} (h : am_pg 290 pc = some e) : am_ok 290 pc e = true := am_okm_use am_kk290 (fun pc q => by unfold am_c290; rw [am_blt q]; rfl) (show am_c290 pc = some e from h)
theorem am_p291 {pc : Nat} {e : aI} (h : am_pg 291 pc = some e) : am_ok 291 pc e = true := am_okm_use am_kk291 (fun pc q => by unfold am_c291; rw [am_blt q]; rfl) (show am_c291 pc = some e from h)
theorem am_p292 {pc : Nat} {e : aI} (h : am_pg 292 pc = some e) : am_ok 292 pc e = true := am_okm_use am_kk292 (fun pc q => by unfold am_c292; rw [am_blt q]; rfl) (show am_c292 pc = some e from h)
theorem am_p293 {pc : Nat} {e : aI} (h : am_pg 293 pc = some e) : am_ok 293 pc e = true := am_okm_use am_kk293 (fun pc q => by unfold am_c293; rw [am_blt q]; rfl) (show am_c293 pc = some e from h)
theorem am_p294 {pc : Nat} {e : aI} (h : am_pg 294 pc = some e) : am_ok 294 pc e = true := am_okm_use am_kk294 (fun pc q => by unfold am_c294; rw [am_blt q]; rfl) (show am_c294 pc = some e from h)
theorem am_p295 {pc : Nat} {e : aI} (h : am_pg 295 pc = some e) : am_ok 295 pc e = true := am_okm_use am_kk295 (fun pc q => by unfold am_c295; rw [am_blt q]; rfl) (show am_c295 pc = some e from h)
theorem am_p296 {pc : Nat} {e : aI} (h : am_pg 296 pc = some e) : am_ok 296 pc e = true := am_okm_use am_kk296 (fun pc q => by unfold am_c296; rw [am_blt q]; rfl) (show am_c296 pc = some e from h)
theorem am_p297 {pc : Nat} {e : aI} (h : am_pg 297 pc = some e) : am_ok 297 pc e = true := am_okm_use am_kk297 (fun pc q => by unfold am_c297; rw [am_blt q]; rfl) (show am_c297 pc = some e from h)
theorem am_p298 {pc : Nat} {e : aI} (h : am_pg 298 pc = some e) : am_ok 298 pc e = true := am_okm_use am_kk298 (fun pc q => by unfold am_c298; rw [am_blt q]; rfl) (show am_c298 pc = some e from h)
theorem am_p299 {pc : Nat} {e : aI} (h : am_pg 299 pc = some e) : am_ok 299 pc e = true := am_okm_use am_kk299 (fun pc q => by unfold am_c299; rw [am_blt q]; rfl) (show am_c299 pc = some e from h)
theorem am_p300 {pc : Nat} {e : aI} (h : am_pg 300 pc = some e) : am_ok 300 pc e = true := am_okm_use am_kk300 (fun pc q => by unfold am_c300; rw [am_blt q]; rfl) (show am_c300 pc = some e from h)
theorem am_p301 {pc : Nat} {e : aI} (h : am_pg 301 pc = some e) : am_ok 301 pc e = true := am_okm_use am_kk301 (fun pc q => by unfold am_c301; rw [am_blt q]; rfl) (show am_c301 pc = some e from h)
theorem am_p302 {pc : Nat} {e : aI} (h : am_pg 302 pc = some e) : am_ok 302 pc e = true := am_okm_use am_kk302 (fun pc q => by unfold am_c302; rw [am_blt q]; rfl) (show am_c302 pc = some e from h)
theorem am_p303 {pc : Nat} {e : aI} (h : am_pg 303 pc = some e) : am_ok 303 pc e = true := am_okm_use am_kk303 (fun pc q => by unfold am_c303; rw [am_blt q]; rfl) (show am_c303 pc = some e from h)
theorem am_p304 {pc : Nat} {e : aI} (h : am_pg 304 pc = some e) : am_ok 304 pc e = true := am_okm_use am_kk304 (fun pc q => by unfold am_c304; rw [am_blt q]; rfl) (show am_c304 pc = some e from h)
theorem am_p305 {pc : Nat} {e : aI} (h : am_pg 305 pc = some e) : am_ok 305 pc e = true := am_okm_use am_kk305 (fun pc q => by unfold am_c305; rw [am_blt q]; rfl) (show am_c305 pc = some e from h)
theorem am_p306 {pc : Nat} {e : aI} (h : am_pg 306 pc = some e) : am_ok 306 pc e = true := am_okm_use am_kk306 (fun pc q => by unfold am_c306; rw [am_blt q]; rfl) (show am_c306 pc = some e from h)
theorem am_p307 {pc : Nat} {e : aI} (h : am_pg 307 pc = some e) : am_ok 307 pc e = true := am_okm_use am_kk307 (fun pc q => by unfold am_c307; rw [am_blt q]; rfl) (show am_c307 pc = some e from h)
theorem am_p308 {pc : Nat} {e : aI} (h : am_pg 308 pc = some e) : am_ok 308 pc e = true := am_okm_use am_kk308 (fun pc q => by unfold am_c308; rw [am_blt q]; rfl) (show am_c308 pc = some e from h)
theorem am_p309 {pc : Nat} {e : aI} (h : am_pg 309 pc = some e) : am_ok 309 pc e = true := am_okm_use am_kk309 (fun pc q => by unfold am_c309; rw [am_blt q]; rfl) (show am_c309 pc = some e from h)
theorem am_p310 {pc : Nat} {e : aI} (h : am_pg 310 pc = some e) : am_ok 310 pc e = true := am_okm_use am_kk310 (fun pc q => by unfold am_c310; rw [am_blt q]; rfl) (show am_c310 pc = some e from h)
theorem am_p311 {pc : Nat} {e : aI} (h : am_pg 311 pc = some e) : am_ok 311 pc e = true := am_okm_use am_kk311 (fun pc q => by unfold am_c311; rw [am_blt q]; rfl) (show am_c311 pc = some e from h)
theorem am_p312 {pc : Nat} {e : aI} (h : am_pg 312 pc = some e) : am_ok 312 pc e = true := am_okm_use am_kk312 (fun pc q => by unfold am_c312; rw [am_blt q]; rfl) (show am_c312 pc = some e from h)
theorem am_p313 {pc : Nat} {e : aI} (h : am_pg 313 pc = some e) : am_ok 313 pc e = true := am_okm_use am_kk313 (fun pc q => by unfold am_c313; rw [am_blt q]; rfl) (show am_c313 pc = some e from h)
theorem am_p314 {pc : Nat} {e : aI} (h : am_pg 314 pc = some e) : am_ok 314 pc e = true := am_okm_use am_kk314 (fun pc q => by unfold am_c314; rw [am_blt q]; rfl) (show am_c314 pc = some e from h)
theorem am_p315 {pc : Nat} {e : aI} (h : am_pg 315 pc = some e) : am_ok 315 pc e = true := am_okm_use am_kk315 (fun pc q => by unfold am_c315; rw [am_blt q]; rfl) (show am_c315 pc = some e from h)
theorem am_pg_lt {y pc : Nat} {e : aI} (h : am_pg y pc = some e) : y < 316 := by
  rcases Nat.lt_or_ge y 316 with q | q
  · exact q
  · unfold am_pg at h
    rw [am_blt q] at h
    cases h
theorem am_okE {y pc : Nat} {e : aI} (hE : am_pg y pc = some e) : am_ok y pc e = true := by
  have hy := am_pg_lt hE
  rcases Nat.lt_or_ge y 158 with h | h
  · skip
    rcases Nat.lt_or_ge y 79 with h | h
    · skip
      rcases Nat.lt_or_ge y 39 with h | h
      · skip
        rcases Nat.lt_or_ge y 19 with h | h
        · skip
          rcases Nat.lt_or_ge y 9 with h | h
          · skip
            rcases Nat.lt_or_ge y 4 with h | h
            · skip
              rcases Nat.lt_or_ge y 2 with h | h
              · skip
                rcases Nat.lt_or_ge y 1 with h | h
                · skip
                  obtain rfl : y = 0 := by omega
                  exact am_p0 hE
                · skip
                  obtain rfl : y = 1 := by omega
                  exact am_p1 hE
              · skip
                rcases Nat.lt_or_ge y 3 with h | h
                · skip
                  obtain rfl : y = 2 := by omega
                  exact am_p2 hE
                · skip
                  obtain rfl : y = 3 := by omega
                  exact am_p3 hE
            · skip
              rcases Nat.lt_or_ge y 6 with h | h
              · skip
                rcases Nat.lt_or_ge y 5 with h | h
                · skip
                  obtain rfl : y = 4 := by omega
                  exact am_p4 hE
                · skip
                  obtain rfl : y = 5 := by omega
                  exact am_p5 hE
              · skip
                rcases Nat.lt_or_ge y 7 with h | h
                · skip
                  obtain rfl : y = 6 := by omega
                  exact am_p6 hE
                · skip
                  rcases Nat.lt_or_ge y 8 with h | h
                  · skip
                    obtain rfl : y = 7 := by omega
                    exact am_p7 hE
                  · skip
                    obtain rfl : y = 8 := by omega
                    exact am_p8 hE
          · skip
            rcases Nat.lt_or_ge y 14 with h | h
            · skip
              rcases Nat.lt_or_ge y 11 with h | h
              · skip
                rcases Nat.lt_or_ge y 10 with h | h
                · skip
                  obtain rfl : y = 9 := by omega
                  exact am_p9 hE
                · skip
                  obtain rfl : y = 10 := by omega
                  exact am_p10 hE
              · skip
                rcases Nat.lt_or_ge y 12 with h | h
                · skip
                  obtain rfl : y = 11 := by omega
                  exact am_p11 hE
                · skip
                  rcases Nat.lt_or_ge y 13 with h | h
                  · skip
                    obtain rfl : y = 12 := by omega
                    exact am_p12 hE
                  · skip
                    obtain rfl : y = 13 := by omega
                    exact am_p13 hE
            · skip
              rcases Nat.lt_or_ge y 16 with h | h
              · skip
                rcases Nat.lt_or_ge y 15 with h | h
                · skip
                  obtain rfl : y = 14 := by omega
                  exact am_p14 hE
                · skip
                  obtain rfl : y = 15 := by omega
                  exact am_p15 hE
              · skip
                rcases Nat.lt_or_ge y 17 with h | h
                · skip
                  obtain rfl : y = 16 := by omega
                  exact am_p16 hE
                · skip
                  rcases Nat.lt_or_ge y 18 with h | h
                  · skip
                    obtain rfl : y = 17 := by omega
                    exact am_p17 hE
                  · skip
                    obtain rfl : y = 18 := by omega
                    exact am_p18 hE
        · skip
          rcases Nat.lt_or_ge y 29 with h | h
          · skip
            rcases Nat.lt_or_ge y 24 with h | h
            · skip
              rcases Nat.lt_or_ge y 21 with h | h
              · skip
                rcases Nat.lt_or_ge y 20 with h | h
                · skip
                  obtain rfl : y = 19 := by omega
                  exact am_p19 hE
                · skip
                  obtain rfl : y = 20 := by omega
                  exact am_p20 hE
              · skip
                rcases Nat.lt_or_ge y 22 with h | h
                · skip
                  obtain rfl : y = 21 := by omega
                  exact am_p21 hE
                · skip
                  rcases Nat.lt_or_ge y 23 with h | h
                  · skip
                    obtain rfl : y = 22 := by omega
                    exact am_p22 hE
                  · skip
                    obtain rfl : y = 23 := by omega
                    exact am_p23 hE
            · skip
              rcases Nat.lt_or_ge y 26 with h | h
              · skip
                rcases Nat.lt_or_ge y 25 with h | h
                · skip
                  obtain rfl : y = 24 := by omega
                  exact am_p24 hE
                · skip
                  obtain rfl : y = 25 := by omega
                  exact am_p25 hE
              · skip
                rcases Nat.lt_or_ge y 27 with h | h
                · skip
                  obtain rfl : y = 26 := by omega
                  exact am_p26 hE
                · skip
                  rcases Nat.lt_or_ge y 28 with h | h
                  · skip
                    obtain rfl : y = 27 := by omega
                    exact am_p27 hE
                  · skip
                    obtain rfl : y = 28 := by omega
                    exact am_p28 hE
          · skip
            rcases Nat.lt_or_ge y 34 with h | h
            · skip
              rcases Nat.lt_or_ge y 31 with h | h
              · skip
                rcases Nat.lt_or_ge y 30 with h | h
                · skip
                  obtain rfl : y = 29 := by omega
                  exact am_p29 hE
                · skip
                  obtain rfl : y = 30 := by omega
                  exact am_p30 hE
              · skip
                rcases Nat.lt_or_ge y 32 with h | h
                · skip
                  obtain rfl : y = 31 := by omega
                  exact am_p31 hE
                · skip
                  rcases Nat.lt_or_ge y 33 with h | h
                  · skip
                    obtain rfl : y = 32 := by omega
                    exact am_p32 hE
                  · skip
                    obtain rfl : y = 33 := by omega
                    exact am_p33 hE
            · skip
              rcases Nat.lt_or_ge y 36 with h | h
              · skip
                rcases Nat.lt_or_ge y 35 with h | h
                · skip
                  obtain rfl : y = 34 := by omega
                  exact am_p34 hE
                · skip
                  obtain rfl : y = 35 := by omega
                  exact am_p35 hE
              · skip
                rcases Nat.lt_or_ge y 37 with h | h
                · skip
                  obtain rfl : y = 36 := by omega
                  exact am_p36 hE
                · skip
                  rcases Nat.lt_or_ge y 38 with h | h
                  · skip
                    obtain rfl : y = 37 := by omega
                    exact am_p37 hE
                  · skip
                    obtain rfl : y = 38 := by omega
                    exact am_p38 hE
      · skip
        rcases Nat.lt_or_ge y 59 with h | h
        · skip
          rcases Nat.lt_or_ge y 49 with h | h
          · skip
            rcases Nat.lt_or_ge y 44 with h | h
            · skip
              rcases Nat.lt_or_ge y 41 with h | h
              · skip
                rcases Nat.lt_or_ge y 40 with h | h
                · skip
                  obtain rfl : y = 39 := by omega
                  exact am_p39 hE
                · skip
                  obtain rfl : y = 40 := by omega
                  exact am_p40 hE
              · skip
                rcases Nat.lt_or_ge y 42 with h | h
                · skip
                  obtain rfl : y = 41 := by omega
                  exact am_p41 hE
                · skip
                  rcases Nat.lt_or_ge y 43 with h | h
                  · skip
                    obtain rfl : y = 42 := by omega
                    exact am_p42 hE
                  · skip
                    obtain rfl : y = 43 := by omega
                    exact am_p43 hE
            · skip
              rcases Nat.lt_or_ge y 46 with h | h
              · skip
                rcases Nat.lt_or_ge y 45 with h | h
                · skip
                  obtain rfl : y = 44 := by omega
                  exact am_p44 hE
                · skip
                  obtain rfl : y = 45 := by omega
                  exact am_p45 hE
              · skip
                rcases Nat.lt_or_ge y 47 with h | h
                · skip
                  obtain rfl : y = 46 := by omega
                  exact am_p46 hE
                · skip
                  rcases Nat.lt_or_ge y 48 with h | h
                  · skip
                    obtain rfl : y = 47 := by omega
                    exact am_p47 hE
                  · skip
                    obtain rfl : y = 48 := by omega
                    exact am_p48 hE
          · skip
            rcases Nat.lt_or_ge y 54 with h | h
            · skip
              rcases Nat.lt_or_ge y 51 with h | h
              · skip
                rcases Nat.lt_or_ge y 50 with h | h
                · skip
                  obtain rfl : y = 49 := by omega
                  exact am_p49 hE
                · skip
                  obtain rfl : y = 50 := by omega
                  exact am_p50 hE
              · skip
                rcases Nat.lt_or_ge y 52 with h | h
                · skip
                  obtain rfl : y = 51 := by omega
                  exact am_p51 hE
                · skip
                  rcases Nat.lt_or_ge y 53 with h | h
                  · skip
                    obtain rfl : y = 52 := by omega
                    exact am_p52 hE
                  · skip
                    obtain rfl : y = 53 := by omega
                    exact am_p53 hE
            · skip
              rcases Nat.lt_or_ge y 56 with h | h
              · skip
                rcases Nat.lt_or_ge y 55 with h | h
                · skip
                  obtain rfl : y = 54 := by omega
                  exact am_p54 hE
                · skip
                  obtain rfl : y = 55 := by omega
                  exact am_p55 hE
              · skip
                rcases Nat.lt_or_ge y 57 with h | h
                · skip
                  obtain rfl : y = 56 := by omega
                  exact am_p56 hE
                · skip
                  rcases Nat.lt_or_ge y 58 with h | h
                  · skip
                    obtain rfl : y = 57 := by omega
                    exact am_p57 hE
                  · skip
                    obtain rfl : y = 58 := by omega
                    exact am_p58 hE
        · skip
          rcases Nat.lt_or_ge y 69 with h | h
          · skip
            rcases Nat.lt_or_ge y 64 with h | h
            · skip
              rcases Nat.lt_or_ge y 61 with h | h
              · skip
                rcases Nat.lt_or_ge y 60 with h | h
                · skip
                  obtain rfl : y = 59 := by omega
                  exact am_p59 hE
                · skip
                  obtain rfl : y = 60 := by omega
                  exact am_p60 hE
              · skip
                rcases Nat.lt_or_ge y 62 with h | h
                · skip
                  obtain rfl : y = 61 := by omega
                  exact am_p61 hE
                · skip
                  rcases Nat.lt_or_ge y 63 with h | h
                  · skip
                    obtain rfl : y = 62 := by omega
                    exact am_p62 hE
                  · skip
                    obtain rfl : y = 63 := by omega
                    exact am_p63 hE
            · skip
              rcases Nat.lt_or_ge y 66 with h | h
              · skip
                rcases Nat.lt_or_ge y 65 with h | h
                · skip
                  obtain rfl : y = 64 := by omega
                  exact am_p64 hE
                · skip
                  obtain rfl : y = 65 := by omega
                  exact am_p65 hE
              · skip
                rcases Nat.lt_or_ge y 67 with h | h
                · skip
                  obtain rfl : y = 66 := by omega
                  exact am_p66 hE
                · skip
                  rcases Nat.lt_or_ge y 68 with h | h
                  · skip
                    obtain rfl : y = 67 := by omega
                    exact am_p67 hE
                  · skip
                    obtain rfl : y = 68 := by omega
                    exact am_p68 hE
          · skip
            rcases Nat.lt_or_ge y 74 with h | h
            · skip
              rcases Nat.lt_or_ge y 71 with h | h
              · skip
                rcases Nat.lt_or_ge y 70 with h | h
                · skip
                  obtain rfl : y = 69 := by omega
                  exact am_p69 hE
                · skip
                  obtain rfl : y = 70 := by omega
                  exact am_p70 hE
              · skip
                rcases Nat.lt_or_ge y 72 with h | h
                · skip
                  obtain rfl : y = 71 := by omega
                  exact am_p71 hE
                · skip
                  rcases Nat.lt_or_ge y 73 with h | h
                  · skip
                    obtain rfl : y = 72 := by omega
                    exact am_p72 hE
                  · skip
                    obtain rfl : y = 73 := by omega
                    exact am_p73 hE
            · skip
              rcases Nat.lt_or_ge y 76 with h | h
              · skip
                rcases Nat.lt_or_ge y 75 with h | h
                · skip
                  obtain rfl : y = 74 := by omega
                  exact am_p74 hE
                · skip
                  obtain rfl : y = 75 := by omega
                  exact am_p75 hE
              · skip
                rcases Nat.lt_or_ge y 77 with h | h
                · skip
                  obtain rfl : y = 76 := by omega
                  exact am_p76 hE
                · skip
                  rcases Nat.lt_or_ge y 78 with h | h
                  · skip
                    obtain rfl : y = 77 := by omega
                    exact am_p77 hE
                  · skip
                    obtain rfl : y = 78 := by omega
                    exact am_p78 hE
    · skip
      rcases Nat.lt_or_ge y 118 with h | h
      · skip
        rcases Nat.lt_or_ge y 98 with h | h
        · skip
          rcases Nat.lt_or_ge y 88 with h | h
          · skip
            rcases Nat.lt_or_ge y 83 with h | h
            · skip
              rcases Nat.lt_or_ge y 81 with h | h
              · skip
                rcases Nat.lt_or_ge y 80 with h | h
                · skip
                  obtain rfl : y = 79 := by omega
                  exact am_p79 hE
                · skip
                  obtain rfl : y = 80 := by omega
                  exact am_p80 hE
              · skip
                rcases Nat.lt_or_ge y 82 with h | h
                · skip
                  obtain rfl : y = 81 := by omega
                  exact am_p81 hE
                · skip
                  obtain rfl : y = 82 := by omega
                  exact am_p82 hE
            · skip
              rcases Nat.lt_or_ge y 85 with h | h
              · skip
                rcases Nat.lt_or_ge y 84 with h | h
                · skip
                  obtain rfl : y = 83 := by omega
                  exact am_p83 hE
                · skip
                  obtain rfl : y = 84 := by omega
                  exact am_p84 hE
              · skip
                rcases Nat.lt_or_ge y 86 with h | h
                · skip
                  obtain rfl : y = 85 := by omega
                  exact am_p85 hE
                · skip
                  rcases Nat.lt_or_ge y 87 with h | h
                  · skip
                    obtain rfl : y = 86 := by omega
                    exact am_p86 hE
                  · skip
                    obtain rfl : y = 87 := by omega
                    exact am_p87 hE
          · skip
            rcases Nat.lt_or_ge y 93 with h | h
            · skip
              rcases Nat.lt_or_ge y 90 with h | h
              · skip
                rcases Nat.lt_or_ge y 89 with h | h
                · skip
                  obtain rfl : y = 88 := by omega
                  exact am_p88 hE
                · skip
                  obtain rfl : y = 89 := by omega
                  exact am_p89 hE
              · skip
                rcases Nat.lt_or_ge y 91 with h | h
                · skip
                  obtain rfl : y = 90 := by omega
                  exact am_p90 hE
                · skip
                  rcases Nat.lt_or_ge y 92 with h | h
                  · skip
                    obtain rfl : y = 91 := by omega
                    exact am_p91 hE
                  · skip
                    obtain rfl : y = 92 := by omega
                    exact am_p92 hE
            · skip
              rcases Nat.lt_or_ge y 95 with h | h
              · skip
                rcases Nat.lt_or_ge y 94 with h | h
                · skip
                  obtain rfl : y = 93 := by omega
                  exact am_p93 hE
                · skip
                  obtain rfl : y = 94 := by omega
                  exact am_p94 hE
              · skip
                rcases Nat.lt_or_ge y 96 with h | h
                · skip
                  obtain rfl : y = 95 := by omega
                  exact am_p95 hE
                · skip
                  rcases Nat.lt_or_ge y 97 with h | h
                  · skip
                    obtain rfl : y = 96 := by omega
                    exact am_p96 hE
                  · skip
                    obtain rfl : y = 97 := by omega
                    exact am_p97 hE
        · skip
          rcases Nat.lt_or_ge y 108 with h | h
          · skip
            rcases Nat.lt_or_ge y 103 with h | h
            · skip
              rcases Nat.lt_or_ge y 100 with h | h
              · skip
                rcases Nat.lt_or_ge y 99 with h | h
                · skip
                  obtain rfl : y = 98 := by omega
                  exact am_p98 hE
                · skip
                  obtain rfl : y = 99 := by omega
                  exact am_p99 hE
              · skip
                rcases Nat.lt_or_ge y 101 with h | h
                · skip
                  obtain rfl : y = 100 := by omega
                  exact am_p100 hE
                · skip
                  rcases Nat.lt_or_ge y 102 with h | h
                  · skip
                    obtain rfl : y = 101 := by omega
                    exact am_p101 hE
                  · skip
                    obtain rfl : y = 102 := by omega
                    exact am_p102 hE
            · skip
              rcases Nat.lt_or_ge y 105 with h | h
              · skip
                rcases Nat.lt_or_ge y 104 with h | h
                · skip
                  obtain rfl : y = 103 := by omega
                  exact am_p103 hE
                · skip
                  obtain rfl : y = 104 := by omega
                  exact am_p104 hE
              · skip
                rcases Nat.lt_or_ge y 106 with h | h
                · skip
                  obtain rfl : y = 105 := by omega
                  exact am_p105 hE
                · skip
                  rcases Nat.lt_or_ge y 107 with h | h
                  · skip
                    obtain rfl : y = 106 := by omega
                    exact am_p106 hE
                  · skip
                    obtain rfl : y = 107 := by omega
                    exact am_p107 hE
          · skip
            rcases Nat.lt_or_ge y 113 with h | h
            · skip
              rcases Nat.lt_or_ge y 110 with h | h
              · skip
                rcases Nat.lt_or_ge y 109 with h | h
                · skip
                  obtain rfl : y = 108 := by omega
                  exact am_p108 hE
                · skip
                  obtain rfl : y = 109 := by omega
                  exact am_p109 hE
              · skip
                rcases Nat.lt_or_ge y 111 with h | h
                · skip
                  obtain rfl : y = 110 := by omega
                  exact am_p110 hE
                · skip
                  rcases Nat.lt_or_ge y 112 with h | h
                  · skip
                    obtain rfl : y = 111 := by omega
                    exact am_p111 hE
                  · skip
                    obtain rfl : y = 112 := by omega
                    exact am_p112 hE
            · skip
              rcases Nat.lt_or_ge y 115 with h | h
              · skip
                rcases Nat.lt_or_ge y 114 with h | h
                · skip
                  obtain rfl : y = 113 := by omega
                  exact am_p113 hE
                · skip
                  obtain rfl : y = 114 := by omega
                  exact am_p114 hE
              · skip
                rcases Nat.lt_or_ge y 116 with h | h
                · skip
                  obtain rfl : y = 115 := by omega
                  exact am_p115 hE
                · skip
                  rcases Nat.lt_or_ge y 117 with h | h
                  · skip
                    obtain rfl : y = 116 := by omega
                    exact am_p116 hE
                  · skip
                    obtain rfl : y = 117 := by omega
                    exact am_p117 hE
      · skip
        rcases Nat.lt_or_ge y 138 with h | h
        · skip
          rcases Nat.lt_or_ge y 128 with h | h
          · skip
            rcases Nat.lt_or_ge y 123 with h | h
            · skip
              rcases Nat.lt_or_ge y 120 with h | h
              · skip
                rcases Nat.lt_or_ge y 119 with h | h
                · skip
                  obtain rfl : y = 118 := by omega
                  exact am_p118 hE
                · skip
                  obtain rfl : y = 119 := by omega
                  exact am_p119 hE
              · skip
                rcases Nat.lt_or_ge y 121 with h | h
                · skip
                  obtain rfl : y = 120 := by omega
                  exact am_p120 hE
                · skip
                  rcases Nat.lt_or_ge y 122 with h | h
                  · skip
                    obtain rfl : y = 121 := by omega
                    exact am_p121 hE
                  · skip
                    obtain rfl : y = 122 := by omega
                    exact am_p122 hE
            · skip
              rcases Nat.lt_or_ge y 125 with h | h
              · skip
                rcases Nat.lt_or_ge y 124 with h | h
                · skip
                  obtain rfl : y = 123 := by omega
                  exact am_p123 hE
                · skip
                  obtain rfl : y = 124 := by omega
                  exact am_p124 hE
              · skip
                rcases Nat.lt_or_ge y 126 with h | h
                · skip
                  obtain rfl : y = 125 := by omega
                  exact am_p125 hE
                · skip
                  rcases Nat.lt_or_ge y 127 with h | h
                  · skip
                    obtain rfl : y = 126 := by omega
                    exact am_p126 hE
                  · skip
                    obtain rfl : y = 127 := by omega
                    exact am_p127 hE
          · skip
            rcases Nat.lt_or_ge y 133 with h | h
            · skip
              rcases Nat.lt_or_ge y 130 with h | h
              · skip
                rcases Nat.lt_or_ge y 129 with h | h
                · skip
                  obtain rfl : y = 128 := by omega
                  exact am_p128 hE
                · skip
                  obtain rfl : y = 129 := by omega
                  exact am_p129 hE
              · skip
                rcases Nat.lt_or_ge y 131 with h | h
                · skip
                  obtain rfl : y = 130 := by omega
                  exact am_p130 hE
                · skip
                  rcases Nat.lt_or_ge y 132 with h | h
                  · skip
                    obtain rfl : y = 131 := by omega
                    exact am_p131 hE
                  · skip
                    obtain rfl : y = 132 := by omega
                    exact am_p132 hE
            · skip
              rcases Nat.lt_or_ge y 135 with h | h
              · skip
                rcases Nat.lt_or_ge y 134 with h | h
                · skip
                  obtain rfl : y = 133 := by omega
                  exact am_p133 hE
                · skip
                  obtain rfl : y = 134 := by omega
                  exact am_p134 hE
              · skip
                rcases Nat.lt_or_ge y 136 with h | h
                · skip
                  obtain rfl : y = 135 := by omega
                  exact am_p135 hE
                · skip
                  rcases Nat.lt_or_ge y 137 with h | h
                  · skip
                    obtain rfl : y = 136 := by omega
                    exact am_p136 hE
                  · skip
                    obtain rfl : y = 137 := by omega
                    exact am_p137 hE
        · skip
          rcases Nat.lt_or_ge y 148 with h | h
          · skip
            rcases Nat.lt_or_ge y 143 with h | h
            · skip
              rcases Nat.lt_or_ge y 140 with h | h
              · skip
                rcases Nat.lt_or_ge y 139 with h | h
                · skip
                  obtain rfl : y = 138 := by omega
                  exact am_p138 hE
                · skip
                  obtain rfl : y = 139 := by omega
                  exact am_p139 hE
              · skip
                rcases Nat.lt_or_ge y 141 with h | h
                · skip
                  obtain rfl : y = 140 := by omega
                  exact am_p140 hE
                · skip
                  rcases Nat.lt_or_ge y 142 with h | h
                  · skip
                    obtain rfl : y = 141 := by omega
                    exact am_p141 hE
                  · skip
                    obtain rfl : y = 142 := by omega
                    exact am_p142 hE
            · skip
              rcases Nat.lt_or_ge y 145 with h | h
              · skip
                rcases Nat.lt_or_ge y 144 with h | h
                · skip
                  obtain rfl : y = 143 := by omega
                  exact am_p143 hE
                · skip
                  obtain rfl : y = 144 := by omega
                  exact am_p144 hE
              · skip
                rcases Nat.lt_or_ge y 146 with h | h
                · skip
                  obtain rfl : y = 145 := by omega
                  exact am_p145 hE
                · skip
                  rcases Nat.lt_or_ge y 147 with h | h
                  · skip
                    obtain rfl : y = 146 := by omega
                    exact am_p146 hE
                  · skip
                    obtain rfl : y = 147 := by omega
                    exact am_p147 hE
          · skip
            rcases Nat.lt_or_ge y 153 with h | h
            · skip
              rcases Nat.lt_or_ge y 150 with h | h
              · skip
                rcases Nat.lt_or_ge y 149 with h | h
                · skip
                  obtain rfl : y = 148 := by omega
                  exact am_p148 hE
                · skip
                  obtain rfl : y = 149 := by omega
                  exact am_p149 hE
              · skip
                rcases Nat.lt_or_ge y 151 with h | h
                · skip
                  obtain rfl : y = 150 := by omega
                  exact am_p150 hE
                · skip
                  rcases Nat.lt_or_ge y 152 with h | h
                  · skip
                    obtain rfl : y = 151 := by omega
                    exact am_p151 hE
                  · skip
                    obtain rfl : y = 152 := by omega
                    exact am_p152 hE
            · skip
              rcases Nat.lt_or_ge y 155 with h | h
              · skip
                rcases Nat.lt_or_ge y 154 with h | h
                · skip
                  obtain rfl : y = 153 := by omega
                  exact am_p153 hE
                · skip
                  obtain rfl : y = 154 := by omega
                  exact am_p154 hE
              · skip
                rcases Nat.lt_or_ge y 156 with h | h
                · skip
                  obtain rfl : y = 155 := by omega
                  exact am_p155 hE
                · skip
                  rcases Nat.lt_or_ge y 157 with h | h
                  · skip
                    obtain rfl : y = 156 := by omega
                    exact am_p156 hE
                  · skip
                    obtain rfl : y = 157 := by omega
                    exact am_p157 hE
  · skip
    rcases Nat.lt_or_ge y 237 with h | h
    · skip
      rcases Nat.lt_or_ge y 197 with h | h
      · skip
        rcases Nat.lt_or_ge y 177 with h | h
        · skip
          rcases Nat.lt_or_ge y 167 with h | h
          · skip
            rcases Nat.lt_or_ge y 162 with h | h
            · skip
              rcases Nat.lt_or_ge y 160 with h | h
              · skip
                rcases Nat.lt_or_ge y 159 with h | h
                · skip
                  obtain rfl : y = 158 := by omega
                  exact am_p158 hE
                · skip
                  obtain rfl : y = 159 := by omega
                  exact am_p159 hE
              · skip
                rcases Nat.lt_or_ge y 161 with h | h
                · skip
                  obtain rfl : y = 160 := by omega
                  exact am_p160 hE
                · skip
                  obtain rfl : y = 161 := by omega
                  exact am_p161 hE
            · skip
              rcases Nat.lt_or_ge y 164 with h | h
              · skip
                rcases Nat.lt_or_ge y 163 with h | h
                · skip
                  obtain rfl : y = 162 := by omega
                  exact am_p162 hE
                · skip
                  obtain rfl : y = 163 := by omega
                  exact am_p163 hE
              · skip
                rcases Nat.lt_or_ge y 165 with h | h
                · skip
                  obtain rfl : y = 164 := by omega
                  exact am_p164 hE
                · skip
                  rcases Nat.lt_or_ge y 166 with h | h
                  · skip
                    obtain rfl : y = 165 := by omega
                    exact am_p165 hE
                  · skip
                    obtain rfl : y = 166 := by omega
                    exact am_p166 hE
          · skip
            rcases Nat.lt_or_ge y 172 with h | h
            · skip
              rcases Nat.lt_or_ge y 169 with h | h
              · skip
                rcases Nat.lt_or_ge y 168 with h | h
                · skip
                  obtain rfl : y = 167 := by omega
                  exact am_p167 hE
                · skip
                  obtain rfl : y = 168 := by omega
                  exact am_p168 hE
              · skip
                rcases Nat.lt_or_ge y 170 with h | h
                · skip
                  obtain rfl : y = 169 := by omega
                  exact am_p169 hE
                · skip
                  rcases Nat.lt_or_ge y 171 with h | h
                  · skip
                    obtain rfl : y = 170 := by omega
                    exact am_p170 hE
                  · skip
                    obtain rfl : y = 171 := by omega
                    exact am_p171 hE
            · skip
              rcases Nat.lt_or_ge y 174 with h | h
              · skip
                rcases Nat.lt_or_ge y 173 with h | h
                · skip
                  obtain rfl : y = 172 := by omega
                  exact am_p172 hE
                · skip
                  obtain rfl : y = 173 := by omega
                  exact am_p173 hE
              · skip
                rcases Nat.lt_or_ge y 175 with h | h
                · skip
                  obtain rfl : y = 174 := by omega
                  exact am_p174 hE
                · skip
                  rcases Nat.lt_or_ge y 176 with h | h
                  · skip
                    obtain rfl : y = 175 := by omega
                    exact am_p175 hE
                  · skip
                    obtain rfl : y = 176 := by omega
                    exact am_p176 hE
        · skip
          rcases Nat.lt_or_ge y 187 with h | h
          · skip
            rcases Nat.lt_or_ge y 182 with h | h
            · skip
              rcases Nat.lt_or_ge y 179 with h | h
              · skip
                rcases Nat.lt_or_ge y 178 with h | h
                · skip
                  obtain rfl : y = 177 := by omega
                  exact am_p177 hE
                · skip
                  obtain rfl : y = 178 := by omega
                  exact am_p178 hE
              · skip
                rcases Nat.lt_or_ge y 180 with h | h
                · skip
                  obtain rfl : y = 179 := by omega
                  exact am_p179 hE
                · skip
                  rcases Nat.lt_or_ge y 181 with h | h
                  · skip
                    obtain rfl : y = 180 := by omega
                    exact am_p180 hE
                  · skip
                    obtain rfl : y = 181 := by omega
                    exact am_p181 hE
            · skip
              rcases Nat.lt_or_ge y 184 with h | h
              · skip
                rcases Nat.lt_or_ge y 183 with h | h
                · skip
                  obtain rfl : y = 182 := by omega
                  exact am_p182 hE
                · skip
                  obtain rfl : y = 183 := by omega
                  exact am_p183 hE
              · skip
                rcases Nat.lt_or_ge y 185 with h | h
                · skip
                  obtain rfl : y = 184 := by omega
                  exact am_p184 hE
                · skip
                  rcases Nat.lt_or_ge y 186 with h | h
                  · skip
                    obtain rfl : y = 185 := by omega
                    exact am_p185 hE
                  · skip
                    obtain rfl : y = 186 := by omega
                    exact am_p186 hE
          · skip
            rcases Nat.lt_or_ge y 192 with h | h
            · skip
              rcases Nat.lt_or_ge y 189 with h | h
              · skip
                rcases Nat.lt_or_ge y 188 with h | h
                · skip
                  obtain rfl : y = 187 := by omega
                  exact am_p187 hE
                · skip
                  obtain rfl : y = 188 := by omega
                  exact am_p188 hE
              · skip
                rcases Nat.lt_or_ge y 190 with h | h
                · skip
                  obtain rfl : y = 189 := by omega
                  exact am_p189 hE
                · skip
                  rcases Nat.lt_or_ge y 191 with h | h
                  · skip
                    obtain rfl : y = 190 := by omega
                    exact am_p190 hE
                  · skip
                    obtain rfl : y = 191 := by omega
                    exact am_p191 hE
            · skip
              rcases Nat.lt_or_ge y 194 with h | h
              · skip
                rcases Nat.lt_or_ge y 193 with h | h
                · skip
                  obtain rfl : y = 192 := by omega
                  exact am_p192 hE
                · skip
                  obtain rfl : y = 193 := by omega
                  exact am_p193 hE
              · skip
                rcases Nat.lt_or_ge y 195 with h | h
                · skip
                  obtain rfl : y = 194 := by omega
                  exact am_p194 hE
                · skip
                  rcases Nat.lt_or_ge y 196 with h | h
                  · skip
                    obtain rfl : y = 195 := by omega
                    exact am_p195 hE
                  · skip
                    obtain rfl : y = 196 := by omega
                    exact am_p196 hE
      · skip
        rcases Nat.lt_or_ge y 217 with h | h
        · skip
          rcases Nat.lt_or_ge y 207 with h | h
          · skip
            rcases Nat.lt_or_ge y 202 with h | h
            · skip
              rcases Nat.lt_or_ge y 199 with h | h
              · skip
                rcases Nat.lt_or_ge y 198 with h | h
                · skip
                  obtain rfl : y = 197 := by omega
                  exact am_p197 hE
                · skip
                  obtain rfl : y = 198 := by omega
                  exact am_p198 hE
              · skip
                rcases Nat.lt_or_ge y 200 with h | h
                · skip
                  obtain rfl : y = 199 := by omega
                  exact am_p199 hE
                · skip
                  rcases Nat.lt_or_ge y 201 with h | h
                  · skip
                    obtain rfl : y = 200 := by omega
                    exact am_p200 hE
                  · skip
                    obtain rfl : y = 201 := by omega
                    exact am_p201 hE
            · skip
              rcases Nat.lt_or_ge y 204 with h | h
              · skip
                rcases Nat.lt_or_ge y 203 with h | h
                · skip
                  obtain rfl : y = 202 := by omega
                  exact am_p202 hE
                · skip
                  obtain rfl : y = 203 := by omega
                  exact am_p203 hE
              · skip
                rcases Nat.lt_or_ge y 205 with h | h
                · skip
                  obtain rfl : y = 204 := by omega
                  exact am_p204 hE
                · skip
                  rcases Nat.lt_or_ge y 206 with h | h
                  · skip
                    obtain rfl : y = 205 := by omega
                    exact am_p205 hE
                  · skip
                    obtain rfl : y = 206 := by omega
                    exact am_p206 hE
          · skip
            rcases Nat.lt_or_ge y 212 with h | h
            · skip
              rcases Nat.lt_or_ge y 209 with h | h
              · skip
                rcases Nat.lt_or_ge y 208 with h | h
                · skip
                  obtain rfl : y = 207 := by omega
                  exact am_p207 hE
                · skip
                  obtain rfl : y = 208 := by omega
                  exact am_p208 hE
              · skip
                rcases Nat.lt_or_ge y 210 with h | h
                · skip
                  obtain rfl : y = 209 := by omega
                  exact am_p209 hE
                · skip
                  rcases Nat.lt_or_ge y 211 with h | h
                  · skip
                    obtain rfl : y = 210 := by omega
                    exact am_p210 hE
                  · skip
                    obtain rfl : y = 211 := by omega
                    exact am_p211 hE
            · skip
              rcases Nat.lt_or_ge y 214 with h | h
              · skip
                rcases Nat.lt_or_ge y 213 with h | h
                · skip
                  obtain rfl : y = 212 := by omega
                  exact am_p212 hE
                · skip
                  obtain rfl : y = 213 := by omega
                  exact am_p213 hE
              · skip
                rcases Nat.lt_or_ge y 215 with h | h
                · skip
                  obtain rfl : y = 214 := by omega
                  exact am_p214 hE
                · skip
                  rcases Nat.lt_or_ge y 216 with h | h
                  · skip
                    obtain rfl : y = 215 := by omega
                    exact am_p215 hE
                  · skip
                    obtain rfl : y = 216 := by omega
                    exact am_p216 hE
        · skip
          rcases Nat.lt_or_ge y 227 with h | h
          · skip
            rcases Nat.lt_or_ge y 222 with h | h
            · skip
              rcases Nat.lt_or_ge y 219 with h | h
              · skip
                rcases Nat.lt_or_ge y 218 with h | h
                · skip
                  obtain rfl : y = 217 := by omega
                  exact am_p217 hE
                · skip
                  obtain rfl : y = 218 := by omega
                  exact am_p218 hE
              · skip
                rcases Nat.lt_or_ge y 220 with h | h
                · skip
                  obtain rfl : y = 219 := by omega
                  exact am_p219 hE
                · skip
                  rcases Nat.lt_or_ge y 221 with h | h
                  · skip
                    obtain rfl : y = 220 := by omega
                    exact am_p220 hE
                  · skip
                    obtain rfl : y = 221 := by omega
                    exact am_p221 hE
            · skip
              rcases Nat.lt_or_ge y 224 with h | h
              · skip
                rcases Nat.lt_or_ge y 223 with h | h
                · skip
                  obtain rfl : y = 222 := by omega
                  exact am_p222 hE
                · skip
                  obtain rfl : y = 223 := by omega
                  exact am_p223 hE
              · skip
                rcases Nat.lt_or_ge y 225 with h | h
                · skip
                  obtain rfl : y = 224 := by omega
                  exact am_p224 hE
                · skip
                  rcases Nat.lt_or_ge y 226 with h | h
                  · skip
                    obtain rfl : y = 225 := by omega
                    exact am_p225 hE
                  · skip
                    obtain rfl : y = 226 := by omega
                    exact am_p226 hE
          · skip
            rcases Nat.lt_or_ge y 232 with h | h
            · skip
              rcases Nat.lt_or_ge y 229 with h | h
              · skip
                rcases Nat.lt_or_ge y 228 with h | h
                · skip
                  obtain rfl : y = 227 := by omega
                  exact am_p227 hE
                · skip
                  obtain rfl : y = 228 := by omega
                  exact am_p228 hE
              · skip
                rcases Nat.lt_or_ge y 230 with h | h
                · skip
                  obtain rfl : y = 229 := by omega
                  exact am_p229 hE
                · skip
                  rcases Nat.lt_or_ge y 231 with h | h
                  · skip
                    obtain rfl : y = 230 := by omega
                    exact am_p230 hE
                  · skip
                    obtain rfl : y = 231 := by omega
                    exact am_p231 hE
            · skip
              rcases Nat.lt_or_ge y 234 with h | h
              · skip
                rcases Nat.lt_or_ge y 233 with h | h
                · skip
                  obtain rfl : y = 232 := by omega
                  exact am_p232 hE
                · skip
                  obtain rfl : y = 233 := by omega
                  exact am_p233 hE
              · skip
                rcases Nat.lt_or_ge y 235 with h | h
                · skip
                  obtain rfl : y = 234 := by omega
                  exact am_p234 hE
                · skip
                  rcases Nat.lt_or_ge y 236 with h | h
                  · skip
                    obtain rfl : y = 235 := by omega
                    exact am_p235 hE
                  · skip
                    obtain rfl : y = 236 := by omega
                    exact am_p236 hE
    · skip
      rcases Nat.lt_or_ge y 276 with h | h
      · skip
        rcases Nat.lt_or_ge y 256 with h | h
        · skip
          rcases Nat.lt_or_ge y 246 with h | h
          · skip
            rcases Nat.lt_or_ge y 241 with h | h
            · skip
              rcases Nat.lt_or_ge y 239 with h | h
              · skip
                rcases Nat.lt_or_ge y 238 with h | h
                · skip
                  obtain rfl : y = 237 := by omega
                  exact am_p237 hE
                · skip
                  obtain rfl : y = 238 := by omega
                  exact am_p238 hE
              · skip
                rcases Nat.lt_or_ge y 240 with h | h
                · skip
                  obtain rfl : y = 239 := by omega
                  exact am_p239 hE
                · skip
                  obtain rfl : y = 240 := by omega
                  exact am_p240 hE
            · skip
              rcases Nat.lt_or_ge y 243 with h | h
              · skip
                rcases Nat.lt_or_ge y 242 with h | h
                · skip
                  obtain rfl : y = 241 := by omega
                  exact am_p241 hE
                · skip
                  obtain rfl : y = 242 := by omega
                  exact am_p242 hE
              · skip
                rcases Nat.lt_or_ge y 244 with h | h
                · skip
                  obtain rfl : y = 243 := by omega
                  exact am_p243 hE
                · skip
                  rcases Nat.lt_or_ge y 245 with h | h
                  · skip
                    obtain rfl : y = 244 := by omega
                    exact am_p244 hE
                  · skip
                    obtain rfl : y = 245 := by omega
                    exact am_p245 hE
          · skip
            rcases Nat.lt_or_ge y 251 with h | h
            · skip
              rcases Nat.lt_or_ge y 248 with h | h
              · skip
                rcases Nat.lt_or_ge y 247 with h | h
                · skip
                  obtain rfl : y = 246 := by omega
                  exact am_p246 hE
                · skip
                  obtain rfl : y = 247 := by omega
                  exact am_p247 hE
              · skip
                rcases Nat.lt_or_ge y 249 with h | h
                · skip
                  obtain rfl : y = 248 := by omega
                  exact am_p248 hE
                · skip
                  rcases Nat.lt_or_ge y 250 with h | h
                  · skip
                    obtain rfl : y = 249 := by omega
                    exact am_p249 hE
                  · skip
                    obtain rfl : y = 250 := by omega
                    exact am_p250 hE
            · skip
              rcases Nat.lt_or_ge y 253 with h | h
              · skip
                rcases Nat.lt_or_ge y 252 with h | h
                · skip
                  obtain rfl : y = 251 := by omega
                  exact am_p251 hE
                · skip
                  obtain rfl : y = 252 := by omega
                  exact am_p252 hE
              · skip
                rcases Nat.lt_or_ge y 254 with h | h
                · skip
                  obtain rfl : y = 253 := by omega
                  exact am_p253 hE
                · skip
                  rcases Nat.lt_or_ge y 255 with h | h
                  · skip
                    obtain rfl : y = 254 := by omega
                    exact am_p254 hE
                  · skip
                    obtain rfl : y = 255 := by omega
                    exact am_p255 hE
        · skip
          rcases Nat.lt_or_ge y 266 with h | h
          · skip
            rcases Nat.lt_or_ge y 261 with h | h
            · skip
              rcases Nat.lt_or_ge y 258 with h | h
              · skip
                rcases Nat.lt_or_ge y 257 with h | h
                · skip
                  obtain rfl : y = 256 := by omega
                  exact am_p256 hE
                · skip
                  obtain rfl : y = 257 := by omega
                  exact am_p257 hE
              · skip
                rcases Nat.lt_or_ge y 259 with h | h
                · skip
                  obtain rfl : y = 258 := by omega
                  exact am_p258 hE
                · skip
                  rcases Nat.lt_or_ge y 260 with h | h
                  · skip
                    obtain rfl : y = 259 := by omega
                    exact am_p259 hE
                  · skip
                    obtain rfl : y = 260 := by omega
                    exact am_p260 hE
            · skip
              rcases Nat.lt_or_ge y 263 with h | h
              · skip
                rcases Nat.lt_or_ge y 262 with h | h
                · skip
                  obtain rfl : y = 261 := by omega
                  exact am_p261 hE
                · skip
                  obtain rfl : y = 262 := by omega
                  exact am_p262 hE
              · skip
                rcases Nat.lt_or_ge y 264 with h | h
                · skip
                  obtain rfl : y = 263 := by omega
                  exact am_p263 hE
                · skip
                  rcases Nat.lt_or_ge y 265 with h | h
                  · skip
                    obtain rfl : y = 264 := by omega
                    exact am_p264 hE
                  · skip
                    obtain rfl : y = 265 := by omega
                    exact am_p265 hE
          · skip
            rcases Nat.lt_or_ge y 271 with h | h
            · skip
              rcases Nat.lt_or_ge y 268 with h | h
              · skip
                rcases Nat.lt_or_ge y 267 with h | h
                · skip
                  obtain rfl : y = 266 := by omega
                  exact am_p266 hE
                · skip
                  obtain rfl : y = 267 := by omega
                  exact am_p267 hE
              · skip
                rcases Nat.lt_or_ge y 269 with h | h
                · skip
                  obtain rfl : y = 268 := by omega
                  exact am_p268 hE
                · skip
                  rcases Nat.lt_or_ge y 270 with h | h
                  · skip
                    obtain rfl : y = 269 := by omega
                    exact am_p269 hE
                  · skip
                    obtain rfl : y = 270 := by omega
                    exact am_p270 hE
            · skip
              rcases Nat.lt_or_ge y 273 with h | h
              · skip
                rcases Nat.lt_or_ge y 272 with h | h
                · skip
                  obtain rfl : y = 271 := by omega
                  exact am_p271 hE
                · skip
                  obtain rfl : y = 272 := by omega
                  exact am_p272 hE
              · skip
                rcases Nat.lt_or_ge y 274 with h | h
                · skip
                  obtain rfl : y = 273 := by omega
                  exact am_p273 hE
                · skip
                  rcases Nat.lt_or_ge y 275 with h | h
                  · skip
                    obtain rfl : y = 274 := by omega
                    exact am_p274 hE
                  · skip
                    obtain rfl : y = 275 := by omega
                    exact am_p275 hE
      · skip
        rcases Nat.lt_or_ge y 296 with h | h
        · skip
          rcases Nat.lt_or_ge y 286 with h | h
          · skip
            rcases Nat.lt_or_ge y 281 with h | h
            · skip
              rcases Nat.lt_or_ge y 278 with h | h
              · skip
                rcases Nat.lt_or_ge y 277 with h | h
                · skip
                  obtain rfl : y = 276 := by omega
                  exact am_p276 hE
                · skip
                  obtain rfl : y = 277 := by omega
                  exact am_p277 hE
              · skip
                rcases Nat.lt_or_ge y 279 with h | h
                · skip
                  obtain rfl : y = 278 := by omega
                  exact am_p278 hE
                · skip
                  rcases Nat.lt_or_ge y 280 with h | h
                  · skip
                    obtain rfl : y = 279 := by omega
                    exact am_p279 hE
                  · skip
                    obtain rfl : y = 280 := by omega
                    exact am_p280 hE
            · skip
              rcases Nat.lt_or_ge y 283 with h | h
              · skip
                rcases Nat.lt_or_ge y 282 with h | h
                · skip
                  obtain rfl : y = 281 := by omega
                  exact am_p281 hE
                · skip
                  obtain rfl : y = 282 := by omega
                  exact am_p282 hE
              · skip
                rcases Nat.lt_or_ge y 284 with h | h
                · skip
                  obtain rfl : y = 283 := by omega
                  exact am_p283 hE
                · skip
                  rcases Nat.lt_or_ge y 285 with h | h
                  · skip
                    obtain rfl : y = 284 := by omega
                    exact am_p284 hE
                  · skip
                    obtain rfl : y = 285 := by omega
                    exact am_p285 hE
          · skip
            rcases Nat.lt_or_ge y 291 with h | h
            · skip
              rcases Nat.lt_or_ge y 288 with h | h
              · skip
                rcases Nat.lt_or_ge y 287 with h | h
                · skip
                  obtain rfl : y = 286 := by omega
                  exact am_p286 hE
                · skip
                  obtain rfl : y = 287 := by omega
                  exact am_p287 hE
              · skip
                rcases Nat.lt_or_ge y 289 with h | h
                · skip
                  obtain rfl : y = 288 := by omega
                  exact am_p288 hE
                · skip
                  rcases Nat.lt_or_ge y 290 with h | h
                  · skip
                    obtain rfl : y = 289 := by omega
                    exact am_p289 hE
                  · skip
                    obtain rfl : y = 290 := by omega
                    exact am_p290 hE
            · skip
              rcases Nat.lt_or_ge y 293 with h | h
              · skip
                rcases Nat.lt_or_ge y 292 with h | h
                · skip
                  obtain rfl : y = 291 := by omega
                  exact am_p291 hE
                · skip
                  obtain rfl : y = 292 := by omega
                  exact am_p292 hE
              · skip
                rcases Nat.lt_or_ge y 294 with h | h
                · skip
                  obtain rfl : y = 293 := by omega
                  exact am_p293 hE
                · skip
                  rcases Nat.lt_or_ge y 295 with h | h
                  · skip
                    obtain rfl : y = 294 := by omega
                    exact am_p294 hE
                  · skip
                    obtain rfl : y = 295 := by omega
                    exact am_p295 hE
        · skip
          rcases Nat.lt_or_ge y 306 with h | h
          · skip
            rcases Nat.lt_or_ge y 301 with h | h
            · skip
              rcases Nat.lt_or_ge y 298 with h | h
              · skip
                rcases Nat.lt_or_ge y 297 with h | h
                · skip
                  obtain rfl : y = 296 := by omega
                  exact am_p296 hE
                · skip
                  obtain rfl : y = 297 := by omega
                  exact am_p297 hE
              · skip
                rcases Nat.lt_or_ge y 299 with h | h
                · skip
                  obtain rfl : y = 298 := by omega
                  exact am_p298 hE
                · skip
                  rcases Nat.lt_or_ge y 300 with h | h
                  · skip
                    obtain rfl : y = 299 := by omega
                    exact am_p299 hE
                  · skip
                    obtain rfl : y = 300 := by omega
                    exact am_p300 hE
            · skip
              rcases Nat.lt_or_ge y 303 with h | h
              · skip
                rcases Nat.lt_or_ge y 302 with h | h
                · skip
                  obtain rfl : y = 301 := by omega
                  exact am_p301 hE
                · skip
                  obtain rfl : y = 302 := by omega
                  exact am_p302 hE
              · skip
                rcases Nat.lt_or_ge y 304 with h | h
                · skip
                  obtain rfl : y = 303 := by omega
                  exact am_p303 hE
                · skip
                  rcases Nat.lt_or_ge y 305 with h | h
                  · skip
                    obtain rfl : y = 304 := by omega
                    exact am_p304 hE
                  · skip
                    obtain rfl : y = 305 := by omega
                    exact am_p305 hE
          · skip
            rcases Nat.lt_or_ge y 311 with h | h
            · skip
              rcases Nat.lt_or_ge y 308 with h | h
              · skip
                rcases Nat.lt_or_ge y 307 with h | h
                · skip
                  obtain rfl : y = 306 := by omega
                  exact am_p306 hE
                · skip
                  obtain rfl : y = 307 := by omega
                  exact am_p307 hE
              · skip
                rcases Nat.lt_or_ge y 309 with h | h
                · skip
                  obtain rfl : y = 308 := by omega
                  exact am_p308 hE
                · skip
                  rcases Nat.lt_or_ge y 310 with h | h
                  · skip
                    obtain rfl : y = 309 := by omega
                    exact am_p309 hE
                  · skip
                    obtain rfl : y = 310 := by omega
                    exact am_p310 hE
            · skip
              rcases Nat.lt_or_ge y 313 with h | h
              · skip
                rcases Nat.lt_or_ge y 312 with h | h
                · skip
                  obtain rfl : y = 311 := by omega
                  exact am_p311 hE
                · skip
                  obtain rfl : y = 312 := by omega
                  exact am_p312 hE
              · skip
                rcases Nat.lt_or_ge y 314 with h | h
                · skip
                  obtain rfl : y = 313 := by omega
                  exact am_p313 hE
                · skip
                  rcases Nat.lt_or_ge y 315 with h | h
                  · skip
                    obtain rfl : y = 314 := by omega
                    exact am_p314 hE
                  · skip
                    obtain rfl : y = 315 := by omega
                    exact am_p315 hE
