/-! ===== the law in blocks (laid by a program: wip/whole/laylaw.py) ===== -/
section
variable {xs : Nat → Int32} {L : Nat} {f a : Nat → Nat → Int32} {g : Nat → Nat → Int64}
theorem sw233_32 {ls st : List ma_V} {w : ma_W} {x : Int32} : rn xs L 233 32 ls (vI x :: st) w = if x = 0 then rn xs L 233 228 ls st w else if x = 1 then rn xs L 233 291 ls st w else if x = 2 then rn xs L 233 304 ls st w else if x = 3 then rn xs L 233 337 ls st w else if x = 4 then rn xs L 233 360 ls st w else if x = 5 then rn xs L 233 413 ls st w else if x = 6 then rn xs L 233 446 ls st w else if x = 7 then rn xs L 233 479 ls st w else if x = 8 then rn xs L 233 522 ls st w else if x = 9 then rn xs L 233 555 ls st w else if x = 10 then rn xs L 233 588 ls st w else if x = 11 then rn xs L 233 611 ls st w else if x = 12 then rn xs L 233 644 ls st w else if x = 13 then rn xs L 233 677 ls st w else if x = 14 then rn xs L 233 700 ls st w else if x = 15 then rn xs L 233 723 ls st w else if x = 16 then rn xs L 233 736 ls st w else if x = 17 then rn xs L 233 759 ls st w else if x = 18 then rn xs L 233 782 ls st w else if x = 19 then rn xs L 233 805 ls st w else if x = 20 then rn xs L 233 828 ls st w else if x = 21 then rn xs L 233 841 ls st w else if x = 22 then rn xs L 233 854 ls st w else if x = 23 then rn xs L 233 867 ls st w else if x = 24 then rn xs L 233 890 ls st w else if x = 25 then rn xs L 233 913 ls st w else if x = 26 then rn xs L 233 946 ls st w else if x = 27 then rn xs L 233 979 ls st w else if x = 28 then rn xs L 233 1022 ls st w else if x = 29 then rn xs L 233 1066 ls st w else if x = 30 then rn xs L 233 1100 ls st w else if x = 31 then rn xs L 233 1133 ls st w else if x = 32 then rn xs L 233 1166 ls st w else if x = 33 then rn xs L 233 1209 ls st w else if x = 34 then rn xs L 233 1232 ls st w else if x = 35 then rn xs L 233 1285 ls st w else if x = 36 then rn xs L 233 1328 ls st w else if x = 37 then rn xs L 233 1371 ls st w else if x = 38 then rn xs L 233 1414 ls st w else if x = 39 then rn xs L 233 1457 ls st w else if x = 40 then rn xs L 233 1490 ls st w else if x = 41 then rn xs L 233 1533 ls st w else if x = 42 then rn xs L 233 1556 ls st w else if x = 43 then rn xs L 233 1579 ls st w else if x = 44 then rn xs L 233 1592 ls st w else rn xs L 233 1605 ls st w := by
  by_cases h0 : x = 0
  · rw [if_pos h0, h0]; exact r_swi (t := 228) (pg_of mt_233 dL_law_32 rfl) (by decide)
  rw [if_neg h0]
  by_cases h1 : x = 1
  · rw [if_pos h1, h1]; exact r_swi (t := 291) (pg_of mt_233 dL_law_32 rfl) (by decide)
  rw [if_neg h1]
  by_cases h2 : x = 2
  · rw [if_pos h2, h2]; exact r_swi (t := 304) (pg_of mt_233 dL_law_32 rfl) (by decide)
  rw [if_neg h2]
  by_cases h3 : x = 3
  · rw [if_pos h3, h3]; exact r_swi (t := 337) (pg_of mt_233 dL_law_32 rfl) (by decide)
  rw [if_neg h3]
  by_cases h4 : x = 4
  · rw [if_pos h4, h4]; exact r_swi (t := 360) (pg_of mt_233 dL_law_32 rfl) (by decide)
  rw [if_neg h4]
  by_cases h5 : x = 5
  · rw [if_pos h5, h5]; exact r_swi (t := 413) (pg_of mt_233 dL_law_32 rfl) (by decide)
  rw [if_neg h5]
  by_cases h6 : x = 6
  · rw [if_pos h6, h6]; exact r_swi (t := 446) (pg_of mt_233 dL_law_32 rfl) (by decide)
  rw [if_neg h6]
  by_cases h7 : x = 7
  · rw [if_pos h7, h7]; exact r_swi (t := 479) (pg_of mt_233 dL_law_32 rfl) (by decide)
  rw [if_neg h7]
  by_cases h8 : x = 8
  · rw [if_pos h8, h8]; exact r_swi (t := 522) (pg_of mt_233 dL_law_32 rfl) (by decide)
  rw [if_neg h8]
  by_cases h9 : x = 9
  · rw [if_pos h9, h9]; exact r_swi (t := 555) (pg_of mt_233 dL_law_32 rfl) (by decide)
  rw [if_neg h9]
  by_cases h10 : x = 10
  · rw [if_pos h10, h10]; exact r_swi (t := 588) (pg_of mt_233 dL_law_32 rfl) (by decide)
  rw [if_neg h10]
  by_cases h11 : x = 11
  · rw [if_pos h11, h11]; exact r_swi (t := 611) (pg_of mt_233 dL_law_32 rfl) (by decide)
  rw [if_neg h11]
  by_cases h12 : x = 12
  · rw [if_pos h12, h12]; exact r_swi (t := 644) (pg_of mt_233 dL_law_32 rfl) (by decide)
  rw [if_neg h12]
  by_cases h13 : x = 13
  · rw [if_pos h13, h13]; exact r_swi (t := 677) (pg_of mt_233 dL_law_32 rfl) (by decide)
  rw [if_neg h13]
  by_cases h14 : x = 14
  · rw [if_pos h14, h14]; exact r_swi (t := 700) (pg_of mt_233 dL_law_32 rfl) (by decide)
  rw [if_neg h14]
  by_cases h15 : x = 15
  · rw [if_pos h15, h15]; exact r_swi (t := 723) (pg_of mt_233 dL_law_32 rfl) (by decide)
  rw [if_neg h15]
  by_cases h16 : x = 16
  · rw [if_pos h16, h16]; exact r_swi (t := 736) (pg_of mt_233 dL_law_32 rfl) (by decide)
  rw [if_neg h16]
  by_cases h17 : x = 17
  · rw [if_pos h17, h17]; exact r_swi (t := 759) (pg_of mt_233 dL_law_32 rfl) (by decide)
  rw [if_neg h17]
  by_cases h18 : x = 18
  · rw [if_pos h18, h18]; exact r_swi (t := 782) (pg_of mt_233 dL_law_32 rfl) (by decide)
  rw [if_neg h18]
  by_cases h19 : x = 19
  · rw [if_pos h19, h19]; exact r_swi (t := 805) (pg_of mt_233 dL_law_32 rfl) (by decide)
  rw [if_neg h19]
  by_cases h20 : x = 20
  · rw [if_pos h20, h20]; exact r_swi (t := 828) (pg_of mt_233 dL_law_32 rfl) (by decide)
  rw [if_neg h20]
  by_cases h21 : x = 21
  · rw [if_pos h21, h21]; exact r_swi (t := 841) (pg_of mt_233 dL_law_32 rfl) (by decide)
  rw [if_neg h21]
  by_cases h22 : x = 22
  · rw [if_pos h22, h22]; exact r_swi (t := 854) (pg_of mt_233 dL_law_32 rfl) (by decide)
  rw [if_neg h22]
  by_cases h23 : x = 23
  · rw [if_pos h23, h23]; exact r_swi (t := 867) (pg_of mt_233 dL_law_32 rfl) (by decide)
  rw [if_neg h23]
  by_cases h24 : x = 24
  · rw [if_pos h24, h24]; exact r_swi (t := 890) (pg_of mt_233 dL_law_32 rfl) (by decide)
  rw [if_neg h24]
  by_cases h25 : x = 25
  · rw [if_pos h25, h25]; exact r_swi (t := 913) (pg_of mt_233 dL_law_32 rfl) (by decide)
  rw [if_neg h25]
  by_cases h26 : x = 26
  · rw [if_pos h26, h26]; exact r_swi (t := 946) (pg_of mt_233 dL_law_32 rfl) (by decide)
  rw [if_neg h26]
  by_cases h27 : x = 27
  · rw [if_pos h27, h27]; exact r_swi (t := 979) (pg_of mt_233 dL_law_32 rfl) (by decide)
  rw [if_neg h27]
  by_cases h28 : x = 28
  · rw [if_pos h28, h28]; exact r_swi (t := 1022) (pg_of mt_233 dL_law_32 rfl) (by decide)
  rw [if_neg h28]
  by_cases h29 : x = 29
  · rw [if_pos h29, h29]; exact r_swi (t := 1066) (pg_of mt_233 dL_law_32 rfl) (by decide)
  rw [if_neg h29]
  by_cases h30 : x = 30
  · rw [if_pos h30, h30]; exact r_swi (t := 1100) (pg_of mt_233 dL_law_32 rfl) (by decide)
  rw [if_neg h30]
  by_cases h31 : x = 31
  · rw [if_pos h31, h31]; exact r_swi (t := 1133) (pg_of mt_233 dL_law_32 rfl) (by decide)
  rw [if_neg h31]
  by_cases h32 : x = 32
  · rw [if_pos h32, h32]; exact r_swi (t := 1166) (pg_of mt_233 dL_law_32 rfl) (by decide)
  rw [if_neg h32]
  by_cases h33 : x = 33
  · rw [if_pos h33, h33]; exact r_swi (t := 1209) (pg_of mt_233 dL_law_32 rfl) (by decide)
  rw [if_neg h33]
  by_cases h34 : x = 34
  · rw [if_pos h34, h34]; exact r_swi (t := 1232) (pg_of mt_233 dL_law_32 rfl) (by decide)
  rw [if_neg h34]
  by_cases h35 : x = 35
  · rw [if_pos h35, h35]; exact r_swi (t := 1285) (pg_of mt_233 dL_law_32 rfl) (by decide)
  rw [if_neg h35]
  by_cases h36 : x = 36
  · rw [if_pos h36, h36]; exact r_swi (t := 1328) (pg_of mt_233 dL_law_32 rfl) (by decide)
  rw [if_neg h36]
  by_cases h37 : x = 37
  · rw [if_pos h37, h37]; exact r_swi (t := 1371) (pg_of mt_233 dL_law_32 rfl) (by decide)
  rw [if_neg h37]
  by_cases h38 : x = 38
  · rw [if_pos h38, h38]; exact r_swi (t := 1414) (pg_of mt_233 dL_law_32 rfl) (by decide)
  rw [if_neg h38]
  by_cases h39 : x = 39
  · rw [if_pos h39, h39]; exact r_swi (t := 1457) (pg_of mt_233 dL_law_32 rfl) (by decide)
  rw [if_neg h39]
  by_cases h40 : x = 40
  · rw [if_pos h40, h40]; exact r_swi (t := 1490) (pg_of mt_233 dL_law_32 rfl) (by decide)
  rw [if_neg h40]
  by_cases h41 : x = 41
  · rw [if_pos h41, h41]; exact r_swi (t := 1533) (pg_of mt_233 dL_law_32 rfl) (by decide)
  rw [if_neg h41]
  by_cases h42 : x = 42
  · rw [if_pos h42, h42]; exact r_swi (t := 1556) (pg_of mt_233 dL_law_32 rfl) (by decide)
  rw [if_neg h42]
  by_cases h43 : x = 43
  · rw [if_pos h43, h43]; exact r_swi (t := 1579) (pg_of mt_233 dL_law_32 rfl) (by decide)
  rw [if_neg h43]
  by_cases h44 : x = 44
  · rw [if_pos h44, h44]; exact r_swi (t := 1592) (pg_of mt_233 dL_law_32 rfl) (by decide)
  rw [if_neg h44]
  have e0 := i_nei (k := 0) (0 : Int32) (by decide) h0
  have e1 := i_nei (k := 1) (1 : Int32) (by decide) h1
  have e2 := i_nei (k := 2) (2 : Int32) (by decide) h2
  have e3 := i_nei (k := 3) (3 : Int32) (by decide) h3
  have e4 := i_nei (k := 4) (4 : Int32) (by decide) h4
  have e5 := i_nei (k := 5) (5 : Int32) (by decide) h5
  have e6 := i_nei (k := 6) (6 : Int32) (by decide) h6
  have e7 := i_nei (k := 7) (7 : Int32) (by decide) h7
  have e8 := i_nei (k := 8) (8 : Int32) (by decide) h8
  have e9 := i_nei (k := 9) (9 : Int32) (by decide) h9
  have e10 := i_nei (k := 10) (10 : Int32) (by decide) h10
  have e11 := i_nei (k := 11) (11 : Int32) (by decide) h11
  have e12 := i_nei (k := 12) (12 : Int32) (by decide) h12
  have e13 := i_nei (k := 13) (13 : Int32) (by decide) h13
  have e14 := i_nei (k := 14) (14 : Int32) (by decide) h14
  have e15 := i_nei (k := 15) (15 : Int32) (by decide) h15
  have e16 := i_nei (k := 16) (16 : Int32) (by decide) h16
  have e17 := i_nei (k := 17) (17 : Int32) (by decide) h17
  have e18 := i_nei (k := 18) (18 : Int32) (by decide) h18
  have e19 := i_nei (k := 19) (19 : Int32) (by decide) h19
  have e20 := i_nei (k := 20) (20 : Int32) (by decide) h20
  have e21 := i_nei (k := 21) (21 : Int32) (by decide) h21
  have e22 := i_nei (k := 22) (22 : Int32) (by decide) h22
  have e23 := i_nei (k := 23) (23 : Int32) (by decide) h23
  have e24 := i_nei (k := 24) (24 : Int32) (by decide) h24
  have e25 := i_nei (k := 25) (25 : Int32) (by decide) h25
  have e26 := i_nei (k := 26) (26 : Int32) (by decide) h26
  have e27 := i_nei (k := 27) (27 : Int32) (by decide) h27
  have e28 := i_nei (k := 28) (28 : Int32) (by decide) h28
  have e29 := i_nei (k := 29) (29 : Int32) (by decide) h29
  have e30 := i_nei (k := 30) (30 : Int32) (by decide) h30
  have e31 := i_nei (k := 31) (31 : Int32) (by decide) h31
  have e32 := i_nei (k := 32) (32 : Int32) (by decide) h32
  have e33 := i_nei (k := 33) (33 : Int32) (by decide) h33
  have e34 := i_nei (k := 34) (34 : Int32) (by decide) h34
  have e35 := i_nei (k := 35) (35 : Int32) (by decide) h35
  have e36 := i_nei (k := 36) (36 : Int32) (by decide) h36
  have e37 := i_nei (k := 37) (37 : Int32) (by decide) h37
  have e38 := i_nei (k := 38) (38 : Int32) (by decide) h38
  have e39 := i_nei (k := 39) (39 : Int32) (by decide) h39
  have e40 := i_nei (k := 40) (40 : Int32) (by decide) h40
  have e41 := i_nei (k := 41) (41 : Int32) (by decide) h41
  have e42 := i_nei (k := 42) (42 : Int32) (by decide) h42
  have e43 := i_nei (k := 43) (43 : Int32) (by decide) h43
  have e44 := i_nei (k := 44) (44 : Int32) (by decide) h44
  exact r_swi (t := 1605) (pg_of mt_233 dL_law_32 rfl) (tsw_out (by omega) (by decide) (by decide))
theorem b233_18 (l3 : Int32) : rn xs L 233 18 [vS 1, vR 0, vR 44, vI l3] [] (mw f a g) = if ((Int32.ofNat L) - (5 : Int32)) < l3 then rn xs L 233 1611 [vS 1, vR 0, vR 44, vI l3] [] (mw f a g) else rn xs L 233 26 [vS 1, vR 0, vR 44, vI l3] [] (mw f a g) :=
  (r_ild (pg_of mt_233 dL_law_18 rfl) rfl).trans <|
  (r_als (pg_of mt_233 dL_law_19 rfl) (Or.inl rfl) rfl).trans <|
  (r_sln (pg_of mt_233 dL_law_20 rfl)).trans <|
  (r_con (pg_of mt_233 dL_law_21 rfl) (v2 := (5 : Int32)) (by decide)).trans <|
  (r_bin (pg_of mt_233 dL_law_22 rfl)).trans <|
  (r_gt (pg_of mt_233 dL_law_23 rfl))
theorem b233_26 (l3 : Int32) (h1 : ma_in l3 L = true) : rn xs L 233 26 [vS 1, vR 0, vR 44, vI l3] [] (mw f a g) = if ((xs l3.toNatClampNeg) &&& (63 : Int32)) = 0 then rn xs L 233 228 [vS 1, vR 0, vR 44, vI l3] [] (mw f a g) else if ((xs l3.toNatClampNeg) &&& (63 : Int32)) = 1 then rn xs L 233 291 [vS 1, vR 0, vR 44, vI l3] [] (mw f a g) else if ((xs l3.toNatClampNeg) &&& (63 : Int32)) = 2 then rn xs L 233 304 [vS 1, vR 0, vR 44, vI l3] [] (mw f a g) else if ((xs l3.toNatClampNeg) &&& (63 : Int32)) = 3 then rn xs L 233 337 [vS 1, vR 0, vR 44, vI l3] [] (mw f a g) else if ((xs l3.toNatClampNeg) &&& (63 : Int32)) = 4 then rn xs L 233 360 [vS 1, vR 0, vR 44, vI l3] [] (mw f a g) else if ((xs l3.toNatClampNeg) &&& (63 : Int32)) = 5 then rn xs L 233 413 [vS 1, vR 0, vR 44, vI l3] [] (mw f a g) else if ((xs l3.toNatClampNeg) &&& (63 : Int32)) = 6 then rn xs L 233 446 [vS 1, vR 0, vR 44, vI l3] [] (mw f a g) else if ((xs l3.toNatClampNeg) &&& (63 : Int32)) = 7 then rn xs L 233 479 [vS 1, vR 0, vR 44, vI l3] [] (mw f a g) else if ((xs l3.toNatClampNeg) &&& (63 : Int32)) = 8 then rn xs L 233 522 [vS 1, vR 0, vR 44, vI l3] [] (mw f a g) else if ((xs l3.toNatClampNeg) &&& (63 : Int32)) = 9 then rn xs L 233 555 [vS 1, vR 0, vR 44, vI l3] [] (mw f a g) else if ((xs l3.toNatClampNeg) &&& (63 : Int32)) = 10 then rn xs L 233 588 [vS 1, vR 0, vR 44, vI l3] [] (mw f a g) else if ((xs l3.toNatClampNeg) &&& (63 : Int32)) = 11 then rn xs L 233 611 [vS 1, vR 0, vR 44, vI l3] [] (mw f a g) else if ((xs l3.toNatClampNeg) &&& (63 : Int32)) = 12 then rn xs L 233 644 [vS 1, vR 0, vR 44, vI l3] [] (mw f a g) else if ((xs l3.toNatClampNeg) &&& (63 : Int32)) = 13 then rn xs L 233 677 [vS 1, vR 0, vR 44, vI l3] [] (mw f a g) else if ((xs l3.toNatClampNeg) &&& (63 : Int32)) = 14 then rn xs L 233 700 [vS 1, vR 0, vR 44, vI l3] [] (mw f a g) else if ((xs l3.toNatClampNeg) &&& (63 : Int32)) = 15 then rn xs L 233 723 [vS 1, vR 0, vR 44, vI l3] [] (mw f a g) else if ((xs l3.toNatClampNeg) &&& (63 : Int32)) = 16 then rn xs L 233 736 [vS 1, vR 0, vR 44, vI l3] [] (mw f a g) else if ((xs l3.toNatClampNeg) &&& (63 : Int32)) = 17 then rn xs L 233 759 [vS 1, vR 0, vR 44, vI l3] [] (mw f a g) else if ((xs l3.toNatClampNeg) &&& (63 : Int32)) = 18 then rn xs L 233 782 [vS 1, vR 0, vR 44, vI l3] [] (mw f a g) else if ((xs l3.toNatClampNeg) &&& (63 : Int32)) = 19 then rn xs L 233 805 [vS 1, vR 0, vR 44, vI l3] [] (mw f a g) else if ((xs l3.toNatClampNeg) &&& (63 : Int32)) = 20 then rn xs L 233 828 [vS 1, vR 0, vR 44, vI l3] [] (mw f a g) else if ((xs l3.toNatClampNeg) &&& (63 : Int32)) = 21 then rn xs L 233 841 [vS 1, vR 0, vR 44, vI l3] [] (mw f a g) else if ((xs l3.toNatClampNeg) &&& (63 : Int32)) = 22 then rn xs L 233 854 [vS 1, vR 0, vR 44, vI l3] [] (mw f a g) else if ((xs l3.toNatClampNeg) &&& (63 : Int32)) = 23 then rn xs L 233 867 [vS 1, vR 0, vR 44, vI l3] [] (mw f a g) else if ((xs l3.toNatClampNeg) &&& (63 : Int32)) = 24 then rn xs L 233 890 [vS 1, vR 0, vR 44, vI l3] [] (mw f a g) else if ((xs l3.toNatClampNeg) &&& (63 : Int32)) = 25 then rn xs L 233 913 [vS 1, vR 0, vR 44, vI l3] [] (mw f a g) else if ((xs l3.toNatClampNeg) &&& (63 : Int32)) = 26 then rn xs L 233 946 [vS 1, vR 0, vR 44, vI l3] [] (mw f a g) else if ((xs l3.toNatClampNeg) &&& (63 : Int32)) = 27 then rn xs L 233 979 [vS 1, vR 0, vR 44, vI l3] [] (mw f a g) else if ((xs l3.toNatClampNeg) &&& (63 : Int32)) = 28 then rn xs L 233 1022 [vS 1, vR 0, vR 44, vI l3] [] (mw f a g) else if ((xs l3.toNatClampNeg) &&& (63 : Int32)) = 29 then rn xs L 233 1066 [vS 1, vR 0, vR 44, vI l3] [] (mw f a g) else if ((xs l3.toNatClampNeg) &&& (63 : Int32)) = 30 then rn xs L 233 1100 [vS 1, vR 0, vR 44, vI l3] [] (mw f a g) else if ((xs l3.toNatClampNeg) &&& (63 : Int32)) = 31 then rn xs L 233 1133 [vS 1, vR 0, vR 44, vI l3] [] (mw f a g) else if ((xs l3.toNatClampNeg) &&& (63 : Int32)) = 32 then rn xs L 233 1166 [vS 1, vR 0, vR 44, vI l3] [] (mw f a g) else if ((xs l3.toNatClampNeg) &&& (63 : Int32)) = 33 then rn xs L 233 1209 [vS 1, vR 0, vR 44, vI l3] [] (mw f a g) else if ((xs l3.toNatClampNeg) &&& (63 : Int32)) = 34 then rn xs L 233 1232 [vS 1, vR 0, vR 44, vI l3] [] (mw f a g) else if ((xs l3.toNatClampNeg) &&& (63 : Int32)) = 35 then rn xs L 233 1285 [vS 1, vR 0, vR 44, vI l3] [] (mw f a g) else if ((xs l3.toNatClampNeg) &&& (63 : Int32)) = 36 then rn xs L 233 1328 [vS 1, vR 0, vR 44, vI l3] [] (mw f a g) else if ((xs l3.toNatClampNeg) &&& (63 : Int32)) = 37 then rn xs L 233 1371 [vS 1, vR 0, vR 44, vI l3] [] (mw f a g) else if ((xs l3.toNatClampNeg) &&& (63 : Int32)) = 38 then rn xs L 233 1414 [vS 1, vR 0, vR 44, vI l3] [] (mw f a g) else if ((xs l3.toNatClampNeg) &&& (63 : Int32)) = 39 then rn xs L 233 1457 [vS 1, vR 0, vR 44, vI l3] [] (mw f a g) else if ((xs l3.toNatClampNeg) &&& (63 : Int32)) = 40 then rn xs L 233 1490 [vS 1, vR 0, vR 44, vI l3] [] (mw f a g) else if ((xs l3.toNatClampNeg) &&& (63 : Int32)) = 41 then rn xs L 233 1533 [vS 1, vR 0, vR 44, vI l3] [] (mw f a g) else if ((xs l3.toNatClampNeg) &&& (63 : Int32)) = 42 then rn xs L 233 1556 [vS 1, vR 0, vR 44, vI l3] [] (mw f a g) else if ((xs l3.toNatClampNeg) &&& (63 : Int32)) = 43 then rn xs L 233 1579 [vS 1, vR 0, vR 44, vI l3] [] (mw f a g) else if ((xs l3.toNatClampNeg) &&& (63 : Int32)) = 44 then rn xs L 233 1592 [vS 1, vR 0, vR 44, vI l3] [] (mw f a g) else rn xs L 233 1605 [vS 1, vR 0, vR 44, vI l3] [] (mw f a g) :=
  (r_als (pg_of mt_233 dL_law_26 rfl) (Or.inl rfl) rfl).trans <|
  (r_ild (pg_of mt_233 dL_law_27 rfl) rfl).trans <|
  (r_sld (pg_of mt_233 dL_law_28 rfl) h1).trans <|
  (r_con (pg_of mt_233 dL_law_29 rfl) (v2 := (63 : Int32)) (by decide)).trans <|
  (r_bin (pg_of mt_233 dL_law_31 rfl)).trans <|
  (sw233_32)
theorem b233_228 (l3 : Int32) (h1 : ma_in ((l3 + (1 : Int32))) L = true) (h2 : ma_in ((l3 + (2 : Int32))) L = true) (h3 : ma_in ((l3 + (3 : Int32))) L = true) : rn xs L 233 228 [vS 1, vR 0, vR 44, vI l3] [] (mw f a g) = (ev xs L 55 5 [vR 0, vL ((((xs ((l3 + (1 : Int32))).toNatClampNeg)).toInt64 <<< (((32 : Int32)).toInt64 &&& 63)) ||| (((xs ((l3 + (2 : Int32))).toNatClampNeg)).toInt64 &&& (4294967295 : Int64))), vI (xs ((l3 + (3 : Int32))).toNatClampNeg)] (mw f a g)).bind (fun b => rn xs L 233 257 [vS 1, vR 0, vR 44, vI l3] (b.1.toList ++ []) b.2) :=
  (r_ald (pg_of mt_233 dL_law_228 rfl) rfl).trans <|
  (r_als (pg_of mt_233 dL_law_229 rfl) (Or.inl rfl) rfl).trans <|
  (r_ild (pg_of mt_233 dL_law_230 rfl) rfl).trans <|
  (r_con (pg_of mt_233 dL_law_231 rfl) (v2 := (1 : Int32)) (by decide)).trans <|
  (r_bin (pg_of mt_233 dL_law_232 rfl)).trans <|
  (r_sld (pg_of mt_233 dL_law_233 rfl) h1).trans <|
  (r_i2l (pg_of mt_233 dL_law_234 rfl)).trans <|
  (r_con (pg_of mt_233 dL_law_235 rfl) (v2 := (32 : Int32)) (by decide)).trans <|
  (r_lsh (pg_of mt_233 dL_law_237 rfl)).trans <|
  (r_als (pg_of mt_233 dL_law_238 rfl) (Or.inl rfl) rfl).trans <|
  (r_ild (pg_of mt_233 dL_law_239 rfl) rfl).trans <|
  (r_con (pg_of mt_233 dL_law_240 rfl) (v2 := (2 : Int32)) (by decide)).trans <|
  (r_bin (pg_of mt_233 dL_law_241 rfl)).trans <|
  (r_sld (pg_of mt_233 dL_law_242 rfl) h2).trans <|
  (r_i2l (pg_of mt_233 dL_law_243 rfl)).trans <|
  (r_lcn (pg_of mt_233 dL_law_244 rfl) (v2 := (4294967295 : Int64)) rfl).trans <|
  (r_lbn (pg_of mt_233 dL_law_247 rfl)).trans <|
  (r_lbn (pg_of mt_233 dL_law_248 rfl)).trans <|
  (r_als (pg_of mt_233 dL_law_249 rfl) (Or.inl rfl) rfl).trans <|
  (r_ild (pg_of mt_233 dL_law_250 rfl) rfl).trans <|
  (r_con (pg_of mt_233 dL_law_251 rfl) (v2 := (3 : Int32)) (by decide)).trans <|
  (r_bin (pg_of mt_233 dL_law_252 rfl)).trans <|
  (r_sld (pg_of mt_233 dL_law_253 rfl) h3).trans <|
  (r_call (t := tt_233) (t2 := tt_55) (pg_of mt_233 dL_law_254 rfl) mt_233 mt_55 rfl rfl (rcv1 rfl) rfl rfl)
theorem b233_257 (l3 : Int32) (s0 : Int32) (h1 : ma_in ((l3 + (1 : Int32))) L = true) (h2 : ma_in ((l3 + (2 : Int32))) L = true) (h3 : ma_in ((l3 + (3 : Int32))) L = true) : rn xs L 233 257 [vS 1, vR 0, vR 44, vI l3] [vI s0] (mw f a g) = (ev xs L 114 5 [vR 44, vL ((((xs ((l3 + (1 : Int32))).toNatClampNeg)).toInt64 <<< (((32 : Int32)).toInt64 &&& 63)) ||| (((xs ((l3 + (2 : Int32))).toNatClampNeg)).toInt64 &&& (4294967295 : Int64))), vI (xs ((l3 + (3 : Int32))).toNatClampNeg)] (mw f a g)).bind (fun b => rn xs L 233 286 [vS 1, vR 0, vR 44, vI l3] (b.1.toList ++ [vI s0]) b.2) :=
  (r_ald (pg_of mt_233 dL_law_257 rfl) rfl).trans <|
  (r_als (pg_of mt_233 dL_law_258 rfl) (Or.inl rfl) rfl).trans <|
  (r_ild (pg_of mt_233 dL_law_259 rfl) rfl).trans <|
  (r_con (pg_of mt_233 dL_law_260 rfl) (v2 := (1 : Int32)) (by decide)).trans <|
  (r_bin (pg_of mt_233 dL_law_261 rfl)).trans <|
  (r_sld (pg_of mt_233 dL_law_262 rfl) h1).trans <|
  (r_i2l (pg_of mt_233 dL_law_263 rfl)).trans <|
  (r_con (pg_of mt_233 dL_law_264 rfl) (v2 := (32 : Int32)) (by decide)).trans <|
  (r_lsh (pg_of mt_233 dL_law_266 rfl)).trans <|
  (r_als (pg_of mt_233 dL_law_267 rfl) (Or.inl rfl) rfl).trans <|
  (r_ild (pg_of mt_233 dL_law_268 rfl) rfl).trans <|
  (r_con (pg_of mt_233 dL_law_269 rfl) (v2 := (2 : Int32)) (by decide)).trans <|
  (r_bin (pg_of mt_233 dL_law_270 rfl)).trans <|
  (r_sld (pg_of mt_233 dL_law_271 rfl) h2).trans <|
  (r_i2l (pg_of mt_233 dL_law_272 rfl)).trans <|
  (r_lcn (pg_of mt_233 dL_law_273 rfl) (v2 := (4294967295 : Int64)) rfl).trans <|
  (r_lbn (pg_of mt_233 dL_law_276 rfl)).trans <|
  (r_lbn (pg_of mt_233 dL_law_277 rfl)).trans <|
  (r_als (pg_of mt_233 dL_law_278 rfl) (Or.inl rfl) rfl).trans <|
  (r_ild (pg_of mt_233 dL_law_279 rfl) rfl).trans <|
  (r_con (pg_of mt_233 dL_law_280 rfl) (v2 := (3 : Int32)) (by decide)).trans <|
  (r_bin (pg_of mt_233 dL_law_281 rfl)).trans <|
  (r_sld (pg_of mt_233 dL_law_282 rfl) h3).trans <|
  (r_call (t := tt_233) (t2 := tt_114) (pg_of mt_233 dL_law_283 rfl) mt_233 mt_114 rfl rfl (rcv1 rfl) rfl rfl)
theorem b233_286 (l3 : Int32) (s0 : Int32) (s1 : Int32) : rn xs L 233 286 [vS 1, vR 0, vR 44, vI l3] [vI s0, vI s1] (mw f a g) = if s1 = s0 then rn xs L 233 1605 [vS 1, vR 0, vR 44, vI l3] [] (mw f a g) else rn xs L 233 289 [vS 1, vR 0, vR 44, vI l3] [] (mw f a g) :=
  (r_eq (pg_of mt_233 dL_law_286 rfl))
theorem b233_289 (l3 : Int32) : rn xs L 233 289 [vS 1, vR 0, vR 44, vI l3] [] (mw f a g) = some (some (vI (0 : Int32)), (mw f a g)) :=
  (r_con (pg_of mt_233 dL_law_289 rfl) (v2 := (0 : Int32)) (by decide)).trans <|
  (r_rz (pg_of mt_233 dL_law_290 rfl) mt_233 rfl (Or.inl rfl))
theorem b233_291 (l3 : Int32) : rn xs L 233 291 [vS 1, vR 0, vR 44, vI l3] [] (mw f a g) = (ev xs L 57 2 [vR 0] (mw f a g)).bind (fun b => rn xs L 233 295 [vS 1, vR 0, vR 44, vI l3] (b.1.toList ++ []) b.2) :=
  (r_ald (pg_of mt_233 dL_law_291 rfl) rfl).trans <|
  (r_call (t := tt_233) (t2 := tt_57) (pg_of mt_233 dL_law_292 rfl) mt_233 mt_57 rfl rfl (rcv1 rfl) rfl rfl)
theorem b233_295 (l3 : Int32) (s0 : Int32) : rn xs L 233 295 [vS 1, vR 0, vR 44, vI l3] [vI s0] (mw f a g) = (ev xs L 116 1 [vR 44] (mw f a g)).bind (fun b => rn xs L 233 299 [vS 1, vR 0, vR 44, vI l3] (b.1.toList ++ [vI s0]) b.2) :=
  (r_ald (pg_of mt_233 dL_law_295 rfl) rfl).trans <|
  (r_call (t := tt_233) (t2 := tt_116) (pg_of mt_233 dL_law_296 rfl) mt_233 mt_116 rfl rfl (rcv1 rfl) rfl rfl)
theorem b233_299 (l3 : Int32) (s0 : Int32) (s1 : Int32) : rn xs L 233 299 [vS 1, vR 0, vR 44, vI l3] [vI s0, vI s1] (mw f a g) = if s1 = s0 then rn xs L 233 1605 [vS 1, vR 0, vR 44, vI l3] [] (mw f a g) else rn xs L 233 302 [vS 1, vR 0, vR 44, vI l3] [] (mw f a g) :=
  (r_eq (pg_of mt_233 dL_law_299 rfl))
theorem b233_302 (l3 : Int32) : rn xs L 233 302 [vS 1, vR 0, vR 44, vI l3] [] (mw f a g) = some (some (vI (0 : Int32)), (mw f a g)) :=
  (r_con (pg_of mt_233 dL_law_302 rfl) (v2 := (0 : Int32)) (by decide)).trans <|
  (r_rz (pg_of mt_233 dL_law_303 rfl) mt_233 rfl (Or.inl rfl))
theorem b233_304 (l3 : Int32) (h1 : ma_in ((l3 + (1 : Int32))) L = true) (h2 : ma_in ((l3 + (2 : Int32))) L = true) : rn xs L 233 304 [vS 1, vR 0, vR 44, vI l3] [] (mw f a g) = (ev xs L 59 4 [vR 0, vI (xs ((l3 + (1 : Int32))).toNatClampNeg), vI (xs ((l3 + (2 : Int32))).toNatClampNeg)] (mw f a g)).bind (fun b => rn xs L 233 318 [vS 1, vR 0, vR 44, vI l3] (b.1.toList ++ []) b.2) :=
  (r_ald (pg_of mt_233 dL_law_304 rfl) rfl).trans <|
  (r_als (pg_of mt_233 dL_law_305 rfl) (Or.inl rfl) rfl).trans <|
  (r_ild (pg_of mt_233 dL_law_306 rfl) rfl).trans <|
  (r_con (pg_of mt_233 dL_law_307 rfl) (v2 := (1 : Int32)) (by decide)).trans <|
  (r_bin (pg_of mt_233 dL_law_308 rfl)).trans <|
  (r_sld (pg_of mt_233 dL_law_309 rfl) h1).trans <|
  (r_als (pg_of mt_233 dL_law_310 rfl) (Or.inl rfl) rfl).trans <|
  (r_ild (pg_of mt_233 dL_law_311 rfl) rfl).trans <|
  (r_con (pg_of mt_233 dL_law_312 rfl) (v2 := (2 : Int32)) (by decide)).trans <|
  (r_bin (pg_of mt_233 dL_law_313 rfl)).trans <|
  (r_sld (pg_of mt_233 dL_law_314 rfl) h2).trans <|
  (r_call (t := tt_233) (t2 := tt_59) (pg_of mt_233 dL_law_315 rfl) mt_233 mt_59 rfl rfl (rcv1 rfl) rfl rfl)
theorem b233_318 (l3 : Int32) (s0 : Int32) (h1 : ma_in ((l3 + (1 : Int32))) L = true) (h2 : ma_in ((l3 + (2 : Int32))) L = true) : rn xs L 233 318 [vS 1, vR 0, vR 44, vI l3] [vI s0] (mw f a g) = (ev xs L 134 3 [vR 44, vI (xs ((l3 + (1 : Int32))).toNatClampNeg), vI (xs ((l3 + (2 : Int32))).toNatClampNeg)] (mw f a g)).bind (fun b => rn xs L 233 332 [vS 1, vR 0, vR 44, vI l3] (b.1.toList ++ [vI s0]) b.2) :=
  (r_ald (pg_of mt_233 dL_law_318 rfl) rfl).trans <|
  (r_als (pg_of mt_233 dL_law_319 rfl) (Or.inl rfl) rfl).trans <|
  (r_ild (pg_of mt_233 dL_law_320 rfl) rfl).trans <|
  (r_con (pg_of mt_233 dL_law_321 rfl) (v2 := (1 : Int32)) (by decide)).trans <|
  (r_bin (pg_of mt_233 dL_law_322 rfl)).trans <|
  (r_sld (pg_of mt_233 dL_law_323 rfl) h1).trans <|
  (r_als (pg_of mt_233 dL_law_324 rfl) (Or.inl rfl) rfl).trans <|
  (r_ild (pg_of mt_233 dL_law_325 rfl) rfl).trans <|
  (r_con (pg_of mt_233 dL_law_326 rfl) (v2 := (2 : Int32)) (by decide)).trans <|
  (r_bin (pg_of mt_233 dL_law_327 rfl)).trans <|
  (r_sld (pg_of mt_233 dL_law_328 rfl) h2).trans <|
  (r_call (t := tt_233) (t2 := tt_134) (pg_of mt_233 dL_law_329 rfl) mt_233 mt_134 rfl rfl (rcv1 rfl) rfl rfl)
theorem b233_332 (l3 : Int32) (s0 : Int32) (s1 : Int32) : rn xs L 233 332 [vS 1, vR 0, vR 44, vI l3] [vI s0, vI s1] (mw f a g) = if s1 = s0 then rn xs L 233 1605 [vS 1, vR 0, vR 44, vI l3] [] (mw f a g) else rn xs L 233 335 [vS 1, vR 0, vR 44, vI l3] [] (mw f a g) :=
  (r_eq (pg_of mt_233 dL_law_332 rfl))
theorem b233_335 (l3 : Int32) : rn xs L 233 335 [vS 1, vR 0, vR 44, vI l3] [] (mw f a g) = some (some (vI (0 : Int32)), (mw f a g)) :=
  (r_con (pg_of mt_233 dL_law_335 rfl) (v2 := (0 : Int32)) (by decide)).trans <|
  (r_rz (pg_of mt_233 dL_law_336 rfl) mt_233 rfl (Or.inl rfl))
theorem b233_337 (l3 : Int32) (h1 : ma_in ((l3 + (1 : Int32))) L = true) : rn xs L 233 337 [vS 1, vR 0, vR 44, vI l3] [] (mw f a g) = (ev xs L 60 2 [vR 0, vI (xs ((l3 + (1 : Int32))).toNatClampNeg)] (mw f a g)).bind (fun b => rn xs L 233 346 [vS 1, vR 0, vR 44, vI l3] (b.1.toList ++ []) b.2) :=
  (r_ald (pg_of mt_233 dL_law_337 rfl) rfl).trans <|
  (r_als (pg_of mt_233 dL_law_338 rfl) (Or.inl rfl) rfl).trans <|
  (r_ild (pg_of mt_233 dL_law_339 rfl) rfl).trans <|
  (r_con (pg_of mt_233 dL_law_340 rfl) (v2 := (1 : Int32)) (by decide)).trans <|
  (r_bin (pg_of mt_233 dL_law_341 rfl)).trans <|
  (r_sld (pg_of mt_233 dL_law_342 rfl) h1).trans <|
  (r_call (t := tt_233) (t2 := tt_60) (pg_of mt_233 dL_law_343 rfl) mt_233 mt_60 rfl rfl (rcv1 rfl) rfl rfl)
theorem b233_346 (l3 : Int32) (s0 : Int32) (h1 : ma_in ((l3 + (1 : Int32))) L = true) : rn xs L 233 346 [vS 1, vR 0, vR 44, vI l3] [vI s0] (mw f a g) = (ev xs L 136 2 [vR 44, vI (xs ((l3 + (1 : Int32))).toNatClampNeg)] (mw f a g)).bind (fun b => rn xs L 233 355 [vS 1, vR 0, vR 44, vI l3] (b.1.toList ++ [vI s0]) b.2) :=
  (r_ald (pg_of mt_233 dL_law_346 rfl) rfl).trans <|
  (r_als (pg_of mt_233 dL_law_347 rfl) (Or.inl rfl) rfl).trans <|
  (r_ild (pg_of mt_233 dL_law_348 rfl) rfl).trans <|
  (r_con (pg_of mt_233 dL_law_349 rfl) (v2 := (1 : Int32)) (by decide)).trans <|
  (r_bin (pg_of mt_233 dL_law_350 rfl)).trans <|
  (r_sld (pg_of mt_233 dL_law_351 rfl) h1).trans <|
  (r_call (t := tt_233) (t2 := tt_136) (pg_of mt_233 dL_law_352 rfl) mt_233 mt_136 rfl rfl (rcv1 rfl) rfl rfl)
theorem b233_355 (l3 : Int32) (s0 : Int32) (s1 : Int32) : rn xs L 233 355 [vS 1, vR 0, vR 44, vI l3] [vI s0, vI s1] (mw f a g) = if s1 = s0 then rn xs L 233 1605 [vS 1, vR 0, vR 44, vI l3] [] (mw f a g) else rn xs L 233 358 [vS 1, vR 0, vR 44, vI l3] [] (mw f a g) :=
  (r_eq (pg_of mt_233 dL_law_355 rfl))
theorem b233_358 (l3 : Int32) : rn xs L 233 358 [vS 1, vR 0, vR 44, vI l3] [] (mw f a g) = some (some (vI (0 : Int32)), (mw f a g)) :=
  (r_con (pg_of mt_233 dL_law_358 rfl) (v2 := (0 : Int32)) (by decide)).trans <|
  (r_rz (pg_of mt_233 dL_law_359 rfl) mt_233 rfl (Or.inl rfl))
theorem b233_360 (l3 : Int32) (h1 : ma_in ((l3 + (1 : Int32))) L = true) (h2 : ma_in ((l3 + (2 : Int32))) L = true) (h3 : ma_in ((l3 + (3 : Int32))) L = true) (h4 : ma_in ((l3 + (4 : Int32))) L = true) : rn xs L 233 360 [vS 1, vR 0, vR 44, vI l3] [] (mw f a g) = (ev xs L 61 5 [vR 0, vI (xs ((l3 + (1 : Int32))).toNatClampNeg), vI (xs ((l3 + (2 : Int32))).toNatClampNeg), vI (xs ((l3 + (3 : Int32))).toNatClampNeg), vI (xs ((l3 + (4 : Int32))).toNatClampNeg)] (mw f a g)).bind (fun b => rn xs L 233 384 [vS 1, vR 0, vR 44, vI l3] (b.1.toList ++ []) b.2) :=
  (r_ald (pg_of mt_233 dL_law_360 rfl) rfl).trans <|
  (r_als (pg_of mt_233 dL_law_361 rfl) (Or.inl rfl) rfl).trans <|
  (r_ild (pg_of mt_233 dL_law_362 rfl) rfl).trans <|
  (r_con (pg_of mt_233 dL_law_363 rfl) (v2 := (1 : Int32)) (by decide)).trans <|
  (r_bin (pg_of mt_233 dL_law_364 rfl)).trans <|
  (r_sld (pg_of mt_233 dL_law_365 rfl) h1).trans <|
  (r_als (pg_of mt_233 dL_law_366 rfl) (Or.inl rfl) rfl).trans <|
  (r_ild (pg_of mt_233 dL_law_367 rfl) rfl).trans <|
  (r_con (pg_of mt_233 dL_law_368 rfl) (v2 := (2 : Int32)) (by decide)).trans <|
  (r_bin (pg_of mt_233 dL_law_369 rfl)).trans <|
  (r_sld (pg_of mt_233 dL_law_370 rfl) h2).trans <|
  (r_als (pg_of mt_233 dL_law_371 rfl) (Or.inl rfl) rfl).trans <|
  (r_ild (pg_of mt_233 dL_law_372 rfl) rfl).trans <|
  (r_con (pg_of mt_233 dL_law_373 rfl) (v2 := (3 : Int32)) (by decide)).trans <|
  (r_bin (pg_of mt_233 dL_law_374 rfl)).trans <|
  (r_sld (pg_of mt_233 dL_law_375 rfl) h3).trans <|
  (r_als (pg_of mt_233 dL_law_376 rfl) (Or.inl rfl) rfl).trans <|
  (r_ild (pg_of mt_233 dL_law_377 rfl) rfl).trans <|
  (r_con (pg_of mt_233 dL_law_378 rfl) (v2 := (4 : Int32)) (by decide)).trans <|
  (r_bin (pg_of mt_233 dL_law_379 rfl)).trans <|
  (r_sld (pg_of mt_233 dL_law_380 rfl) h4).trans <|
  (r_call (t := tt_233) (t2 := tt_61) (pg_of mt_233 dL_law_381 rfl) mt_233 mt_61 rfl rfl (rcv1 rfl) rfl rfl)
theorem b233_384 (l3 : Int32) (s0 : Int32) (h1 : ma_in ((l3 + (1 : Int32))) L = true) (h2 : ma_in ((l3 + (2 : Int32))) L = true) (h3 : ma_in ((l3 + (3 : Int32))) L = true) (h4 : ma_in ((l3 + (4 : Int32))) L = true) : rn xs L 233 384 [vS 1, vR 0, vR 44, vI l3] [vI s0] (mw f a g) = (ev xs L 137 6 [vR 44, vI (xs ((l3 + (1 : Int32))).toNatClampNeg), vI (xs ((l3 + (2 : Int32))).toNatClampNeg), vI (xs ((l3 + (3 : Int32))).toNatClampNeg), vI (xs ((l3 + (4 : Int32))).toNatClampNeg)] (mw f a g)).bind (fun b => rn xs L 233 408 [vS 1, vR 0, vR 44, vI l3] (b.1.toList ++ [vI s0]) b.2) :=
  (r_ald (pg_of mt_233 dL_law_384 rfl) rfl).trans <|
  (r_als (pg_of mt_233 dL_law_385 rfl) (Or.inl rfl) rfl).trans <|
  (r_ild (pg_of mt_233 dL_law_386 rfl) rfl).trans <|
  (r_con (pg_of mt_233 dL_law_387 rfl) (v2 := (1 : Int32)) (by decide)).trans <|
  (r_bin (pg_of mt_233 dL_law_388 rfl)).trans <|
  (r_sld (pg_of mt_233 dL_law_389 rfl) h1).trans <|
  (r_als (pg_of mt_233 dL_law_390 rfl) (Or.inl rfl) rfl).trans <|
  (r_ild (pg_of mt_233 dL_law_391 rfl) rfl).trans <|
  (r_con (pg_of mt_233 dL_law_392 rfl) (v2 := (2 : Int32)) (by decide)).trans <|
  (r_bin (pg_of mt_233 dL_law_393 rfl)).trans <|
  (r_sld (pg_of mt_233 dL_law_394 rfl) h2).trans <|
  (r_als (pg_of mt_233 dL_law_395 rfl) (Or.inl rfl) rfl).trans <|
  (r_ild (pg_of mt_233 dL_law_396 rfl) rfl).trans <|
  (r_con (pg_of mt_233 dL_law_397 rfl) (v2 := (3 : Int32)) (by decide)).trans <|
  (r_bin (pg_of mt_233 dL_law_398 rfl)).trans <|
  (r_sld (pg_of mt_233 dL_law_399 rfl) h3).trans <|
  (r_als (pg_of mt_233 dL_law_400 rfl) (Or.inl rfl) rfl).trans <|
  (r_ild (pg_of mt_233 dL_law_401 rfl) rfl).trans <|
  (r_con (pg_of mt_233 dL_law_402 rfl) (v2 := (4 : Int32)) (by decide)).trans <|
  (r_bin (pg_of mt_233 dL_law_403 rfl)).trans <|
  (r_sld (pg_of mt_233 dL_law_404 rfl) h4).trans <|
  (r_call (t := tt_233) (t2 := tt_137) (pg_of mt_233 dL_law_405 rfl) mt_233 mt_137 rfl rfl (rcv1 rfl) rfl rfl)
theorem b233_408 (l3 : Int32) (s0 : Int32) (s1 : Int32) : rn xs L 233 408 [vS 1, vR 0, vR 44, vI l3] [vI s0, vI s1] (mw f a g) = if s1 = s0 then rn xs L 233 1605 [vS 1, vR 0, vR 44, vI l3] [] (mw f a g) else rn xs L 233 411 [vS 1, vR 0, vR 44, vI l3] [] (mw f a g) :=
  (r_eq (pg_of mt_233 dL_law_408 rfl))
theorem b233_411 (l3 : Int32) : rn xs L 233 411 [vS 1, vR 0, vR 44, vI l3] [] (mw f a g) = some (some (vI (0 : Int32)), (mw f a g)) :=
  (r_con (pg_of mt_233 dL_law_411 rfl) (v2 := (0 : Int32)) (by decide)).trans <|
  (r_rz (pg_of mt_233 dL_law_412 rfl) mt_233 rfl (Or.inl rfl))
theorem b233_413 (l3 : Int32) (h1 : ma_in ((l3 + (1 : Int32))) L = true) (h2 : ma_in ((l3 + (2 : Int32))) L = true) : rn xs L 233 413 [vS 1, vR 0, vR 44, vI l3] [] (mw f a g) = (ev xs L 62 3 [vR 0, vI (xs ((l3 + (1 : Int32))).toNatClampNeg), vI (xs ((l3 + (2 : Int32))).toNatClampNeg)] (mw f a g)).bind (fun b => rn xs L 233 427 [vS 1, vR 0, vR 44, vI l3] (b.1.toList ++ []) b.2) :=
  (r_ald (pg_of mt_233 dL_law_413 rfl) rfl).trans <|
  (r_als (pg_of mt_233 dL_law_414 rfl) (Or.inl rfl) rfl).trans <|
  (r_ild (pg_of mt_233 dL_law_415 rfl) rfl).trans <|
  (r_con (pg_of mt_233 dL_law_416 rfl) (v2 := (1 : Int32)) (by decide)).trans <|
  (r_bin (pg_of mt_233 dL_law_417 rfl)).trans <|
  (r_sld (pg_of mt_233 dL_law_418 rfl) h1).trans <|
  (r_als (pg_of mt_233 dL_law_419 rfl) (Or.inl rfl) rfl).trans <|
  (r_ild (pg_of mt_233 dL_law_420 rfl) rfl).trans <|
  (r_con (pg_of mt_233 dL_law_421 rfl) (v2 := (2 : Int32)) (by decide)).trans <|
  (r_bin (pg_of mt_233 dL_law_422 rfl)).trans <|
  (r_sld (pg_of mt_233 dL_law_423 rfl) h2).trans <|
  (r_call (t := tt_233) (t2 := tt_62) (pg_of mt_233 dL_law_424 rfl) mt_233 mt_62 rfl rfl (rcv1 rfl) rfl rfl)
theorem b233_427 (l3 : Int32) (s0 : Int32) (h1 : ma_in ((l3 + (1 : Int32))) L = true) (h2 : ma_in ((l3 + (2 : Int32))) L = true) : rn xs L 233 427 [vS 1, vR 0, vR 44, vI l3] [vI s0] (mw f a g) = (ev xs L 139 3 [vR 44, vI (xs ((l3 + (1 : Int32))).toNatClampNeg), vI (xs ((l3 + (2 : Int32))).toNatClampNeg)] (mw f a g)).bind (fun b => rn xs L 233 441 [vS 1, vR 0, vR 44, vI l3] (b.1.toList ++ [vI s0]) b.2) :=
  (r_ald (pg_of mt_233 dL_law_427 rfl) rfl).trans <|
  (r_als (pg_of mt_233 dL_law_428 rfl) (Or.inl rfl) rfl).trans <|
  (r_ild (pg_of mt_233 dL_law_429 rfl) rfl).trans <|
  (r_con (pg_of mt_233 dL_law_430 rfl) (v2 := (1 : Int32)) (by decide)).trans <|
  (r_bin (pg_of mt_233 dL_law_431 rfl)).trans <|
  (r_sld (pg_of mt_233 dL_law_432 rfl) h1).trans <|
  (r_als (pg_of mt_233 dL_law_433 rfl) (Or.inl rfl) rfl).trans <|
  (r_ild (pg_of mt_233 dL_law_434 rfl) rfl).trans <|
  (r_con (pg_of mt_233 dL_law_435 rfl) (v2 := (2 : Int32)) (by decide)).trans <|
  (r_bin (pg_of mt_233 dL_law_436 rfl)).trans <|
  (r_sld (pg_of mt_233 dL_law_437 rfl) h2).trans <|
  (r_call (t := tt_233) (t2 := tt_139) (pg_of mt_233 dL_law_438 rfl) mt_233 mt_139 rfl rfl (rcv1 rfl) rfl rfl)
theorem b233_441 (l3 : Int32) (s0 : Int32) (s1 : Int32) : rn xs L 233 441 [vS 1, vR 0, vR 44, vI l3] [vI s0, vI s1] (mw f a g) = if s1 = s0 then rn xs L 233 1605 [vS 1, vR 0, vR 44, vI l3] [] (mw f a g) else rn xs L 233 444 [vS 1, vR 0, vR 44, vI l3] [] (mw f a g) :=
  (r_eq (pg_of mt_233 dL_law_441 rfl))
theorem b233_444 (l3 : Int32) : rn xs L 233 444 [vS 1, vR 0, vR 44, vI l3] [] (mw f a g) = some (some (vI (0 : Int32)), (mw f a g)) :=
  (r_con (pg_of mt_233 dL_law_444 rfl) (v2 := (0 : Int32)) (by decide)).trans <|
  (r_rz (pg_of mt_233 dL_law_445 rfl) mt_233 rfl (Or.inl rfl))
theorem b233_446 (l3 : Int32) (h1 : ma_in ((l3 + (1 : Int32))) L = true) (h2 : ma_in ((l3 + (2 : Int32))) L = true) : rn xs L 233 446 [vS 1, vR 0, vR 44, vI l3] [] (mw f a g) = (ev xs L 63 3 [vR 0, vI (xs ((l3 + (1 : Int32))).toNatClampNeg), vI (xs ((l3 + (2 : Int32))).toNatClampNeg)] (mw f a g)).bind (fun b => rn xs L 233 460 [vS 1, vR 0, vR 44, vI l3] (b.1.toList ++ []) b.2) :=
  (r_ald (pg_of mt_233 dL_law_446 rfl) rfl).trans <|
  (r_als (pg_of mt_233 dL_law_447 rfl) (Or.inl rfl) rfl).trans <|
  (r_ild (pg_of mt_233 dL_law_448 rfl) rfl).trans <|
  (r_con (pg_of mt_233 dL_law_449 rfl) (v2 := (1 : Int32)) (by decide)).trans <|
  (r_bin (pg_of mt_233 dL_law_450 rfl)).trans <|
  (r_sld (pg_of mt_233 dL_law_451 rfl) h1).trans <|
  (r_als (pg_of mt_233 dL_law_452 rfl) (Or.inl rfl) rfl).trans <|
  (r_ild (pg_of mt_233 dL_law_453 rfl) rfl).trans <|
  (r_con (pg_of mt_233 dL_law_454 rfl) (v2 := (2 : Int32)) (by decide)).trans <|
  (r_bin (pg_of mt_233 dL_law_455 rfl)).trans <|
  (r_sld (pg_of mt_233 dL_law_456 rfl) h2).trans <|
  (r_call (t := tt_233) (t2 := tt_63) (pg_of mt_233 dL_law_457 rfl) mt_233 mt_63 rfl rfl (rcv1 rfl) rfl rfl)
theorem b233_460 (l3 : Int32) (s0 : Int32) (h1 : ma_in ((l3 + (1 : Int32))) L = true) (h2 : ma_in ((l3 + (2 : Int32))) L = true) : rn xs L 233 460 [vS 1, vR 0, vR 44, vI l3] [vI s0] (mw f a g) = (ev xs L 145 3 [vR 44, vI (xs ((l3 + (1 : Int32))).toNatClampNeg), vI (xs ((l3 + (2 : Int32))).toNatClampNeg)] (mw f a g)).bind (fun b => rn xs L 233 474 [vS 1, vR 0, vR 44, vI l3] (b.1.toList ++ [vI s0]) b.2) :=
  (r_ald (pg_of mt_233 dL_law_460 rfl) rfl).trans <|
  (r_als (pg_of mt_233 dL_law_461 rfl) (Or.inl rfl) rfl).trans <|
  (r_ild (pg_of mt_233 dL_law_462 rfl) rfl).trans <|
  (r_con (pg_of mt_233 dL_law_463 rfl) (v2 := (1 : Int32)) (by decide)).trans <|
  (r_bin (pg_of mt_233 dL_law_464 rfl)).trans <|
  (r_sld (pg_of mt_233 dL_law_465 rfl) h1).trans <|
  (r_als (pg_of mt_233 dL_law_466 rfl) (Or.inl rfl) rfl).trans <|
  (r_ild (pg_of mt_233 dL_law_467 rfl) rfl).trans <|
  (r_con (pg_of mt_233 dL_law_468 rfl) (v2 := (2 : Int32)) (by decide)).trans <|
  (r_bin (pg_of mt_233 dL_law_469 rfl)).trans <|
  (r_sld (pg_of mt_233 dL_law_470 rfl) h2).trans <|
  (r_call (t := tt_233) (t2 := tt_145) (pg_of mt_233 dL_law_471 rfl) mt_233 mt_145 rfl rfl (rcv1 rfl) rfl rfl)
theorem b233_474 (l3 : Int32) (s0 : Int32) (s1 : Int32) : rn xs L 233 474 [vS 1, vR 0, vR 44, vI l3] [vI s0, vI s1] (mw f a g) = if s1 = s0 then rn xs L 233 1605 [vS 1, vR 0, vR 44, vI l3] [] (mw f a g) else rn xs L 233 477 [vS 1, vR 0, vR 44, vI l3] [] (mw f a g) :=
  (r_eq (pg_of mt_233 dL_law_474 rfl))
theorem b233_477 (l3 : Int32) : rn xs L 233 477 [vS 1, vR 0, vR 44, vI l3] [] (mw f a g) = some (some (vI (0 : Int32)), (mw f a g)) :=
  (r_con (pg_of mt_233 dL_law_477 rfl) (v2 := (0 : Int32)) (by decide)).trans <|
  (r_rz (pg_of mt_233 dL_law_478 rfl) mt_233 rfl (Or.inl rfl))
theorem b233_479 (l3 : Int32) (h1 : ma_in ((l3 + (1 : Int32))) L = true) (h2 : ma_in ((l3 + (2 : Int32))) L = true) (h3 : ma_in ((l3 + (3 : Int32))) L = true) : rn xs L 233 479 [vS 1, vR 0, vR 44, vI l3] [] (mw f a g) = (ev xs L 64 5 [vR 0, vI (xs ((l3 + (1 : Int32))).toNatClampNeg), vI (xs ((l3 + (2 : Int32))).toNatClampNeg), vI (xs ((l3 + (3 : Int32))).toNatClampNeg)] (mw f a g)).bind (fun b => rn xs L 233 498 [vS 1, vR 0, vR 44, vI l3] (b.1.toList ++ []) b.2) :=
  (r_ald (pg_of mt_233 dL_law_479 rfl) rfl).trans <|
  (r_als (pg_of mt_233 dL_law_480 rfl) (Or.inl rfl) rfl).trans <|
  (r_ild (pg_of mt_233 dL_law_481 rfl) rfl).trans <|
  (r_con (pg_of mt_233 dL_law_482 rfl) (v2 := (1 : Int32)) (by decide)).trans <|
  (r_bin (pg_of mt_233 dL_law_483 rfl)).trans <|
  (r_sld (pg_of mt_233 dL_law_484 rfl) h1).trans <|
  (r_als (pg_of mt_233 dL_law_485 rfl) (Or.inl rfl) rfl).trans <|
  (r_ild (pg_of mt_233 dL_law_486 rfl) rfl).trans <|
  (r_con (pg_of mt_233 dL_law_487 rfl) (v2 := (2 : Int32)) (by decide)).trans <|
  (r_bin (pg_of mt_233 dL_law_488 rfl)).trans <|
  (r_sld (pg_of mt_233 dL_law_489 rfl) h2).trans <|
  (r_als (pg_of mt_233 dL_law_490 rfl) (Or.inl rfl) rfl).trans <|
  (r_ild (pg_of mt_233 dL_law_491 rfl) rfl).trans <|
  (r_con (pg_of mt_233 dL_law_492 rfl) (v2 := (3 : Int32)) (by decide)).trans <|
  (r_bin (pg_of mt_233 dL_law_493 rfl)).trans <|
  (r_sld (pg_of mt_233 dL_law_494 rfl) h3).trans <|
  (r_call (t := tt_233) (t2 := tt_64) (pg_of mt_233 dL_law_495 rfl) mt_233 mt_64 rfl rfl (rcv1 rfl) rfl rfl)
theorem b233_498 (l3 : Int32) (s0 : Int32) (h1 : ma_in ((l3 + (1 : Int32))) L = true) (h2 : ma_in ((l3 + (2 : Int32))) L = true) (h3 : ma_in ((l3 + (3 : Int32))) L = true) : rn xs L 233 498 [vS 1, vR 0, vR 44, vI l3] [vI s0] (mw f a g) = (ev xs L 148 4 [vR 44, vI (xs ((l3 + (1 : Int32))).toNatClampNeg), vI (xs ((l3 + (2 : Int32))).toNatClampNeg), vI (xs ((l3 + (3 : Int32))).toNatClampNeg)] (mw f a g)).bind (fun b => rn xs L 233 517 [vS 1, vR 0, vR 44, vI l3] (b.1.toList ++ [vI s0]) b.2) :=
  (r_ald (pg_of mt_233 dL_law_498 rfl) rfl).trans <|
  (r_als (pg_of mt_233 dL_law_499 rfl) (Or.inl rfl) rfl).trans <|
  (r_ild (pg_of mt_233 dL_law_500 rfl) rfl).trans <|
  (r_con (pg_of mt_233 dL_law_501 rfl) (v2 := (1 : Int32)) (by decide)).trans <|
  (r_bin (pg_of mt_233 dL_law_502 rfl)).trans <|
  (r_sld (pg_of mt_233 dL_law_503 rfl) h1).trans <|
  (r_als (pg_of mt_233 dL_law_504 rfl) (Or.inl rfl) rfl).trans <|
  (r_ild (pg_of mt_233 dL_law_505 rfl) rfl).trans <|
  (r_con (pg_of mt_233 dL_law_506 rfl) (v2 := (2 : Int32)) (by decide)).trans <|
  (r_bin (pg_of mt_233 dL_law_507 rfl)).trans <|
  (r_sld (pg_of mt_233 dL_law_508 rfl) h2).trans <|
  (r_als (pg_of mt_233 dL_law_509 rfl) (Or.inl rfl) rfl).trans <|
  (r_ild (pg_of mt_233 dL_law_510 rfl) rfl).trans <|
  (r_con (pg_of mt_233 dL_law_511 rfl) (v2 := (3 : Int32)) (by decide)).trans <|
  (r_bin (pg_of mt_233 dL_law_512 rfl)).trans <|
  (r_sld (pg_of mt_233 dL_law_513 rfl) h3).trans <|
  (r_call (t := tt_233) (t2 := tt_148) (pg_of mt_233 dL_law_514 rfl) mt_233 mt_148 rfl rfl (rcv1 rfl) rfl rfl)
theorem b233_517 (l3 : Int32) (s0 : Int32) (s1 : Int32) : rn xs L 233 517 [vS 1, vR 0, vR 44, vI l3] [vI s0, vI s1] (mw f a g) = if s1 = s0 then rn xs L 233 1605 [vS 1, vR 0, vR 44, vI l3] [] (mw f a g) else rn xs L 233 520 [vS 1, vR 0, vR 44, vI l3] [] (mw f a g) :=
  (r_eq (pg_of mt_233 dL_law_517 rfl))
theorem b233_520 (l3 : Int32) : rn xs L 233 520 [vS 1, vR 0, vR 44, vI l3] [] (mw f a g) = some (some (vI (0 : Int32)), (mw f a g)) :=
  (r_con (pg_of mt_233 dL_law_520 rfl) (v2 := (0 : Int32)) (by decide)).trans <|
  (r_rz (pg_of mt_233 dL_law_521 rfl) mt_233 rfl (Or.inl rfl))
theorem b233_522 (l3 : Int32) (h1 : ma_in ((l3 + (1 : Int32))) L = true) (h2 : ma_in ((l3 + (2 : Int32))) L = true) : rn xs L 233 522 [vS 1, vR 0, vR 44, vI l3] [] (mw f a g) = (ev xs L 65 4 [vR 0, vI (xs ((l3 + (1 : Int32))).toNatClampNeg), vI (xs ((l3 + (2 : Int32))).toNatClampNeg)] (mw f a g)).bind (fun b => rn xs L 233 536 [vS 1, vR 0, vR 44, vI l3] (b.1.toList ++ []) b.2) :=
  (r_ald (pg_of mt_233 dL_law_522 rfl) rfl).trans <|
  (r_als (pg_of mt_233 dL_law_523 rfl) (Or.inl rfl) rfl).trans <|
  (r_ild (pg_of mt_233 dL_law_524 rfl) rfl).trans <|
  (r_con (pg_of mt_233 dL_law_525 rfl) (v2 := (1 : Int32)) (by decide)).trans <|
  (r_bin (pg_of mt_233 dL_law_526 rfl)).trans <|
  (r_sld (pg_of mt_233 dL_law_527 rfl) h1).trans <|
  (r_als (pg_of mt_233 dL_law_528 rfl) (Or.inl rfl) rfl).trans <|
  (r_ild (pg_of mt_233 dL_law_529 rfl) rfl).trans <|
  (r_con (pg_of mt_233 dL_law_530 rfl) (v2 := (2 : Int32)) (by decide)).trans <|
  (r_bin (pg_of mt_233 dL_law_531 rfl)).trans <|
  (r_sld (pg_of mt_233 dL_law_532 rfl) h2).trans <|
  (r_call (t := tt_233) (t2 := tt_65) (pg_of mt_233 dL_law_533 rfl) mt_233 mt_65 rfl rfl (rcv1 rfl) rfl rfl)
theorem b233_536 (l3 : Int32) (s0 : Int32) (h1 : ma_in ((l3 + (1 : Int32))) L = true) (h2 : ma_in ((l3 + (2 : Int32))) L = true) : rn xs L 233 536 [vS 1, vR 0, vR 44, vI l3] [vI s0] (mw f a g) = (ev xs L 149 3 [vR 44, vI (xs ((l3 + (1 : Int32))).toNatClampNeg), vI (xs ((l3 + (2 : Int32))).toNatClampNeg)] (mw f a g)).bind (fun b => rn xs L 233 550 [vS 1, vR 0, vR 44, vI l3] (b.1.toList ++ [vI s0]) b.2) :=
  (r_ald (pg_of mt_233 dL_law_536 rfl) rfl).trans <|
  (r_als (pg_of mt_233 dL_law_537 rfl) (Or.inl rfl) rfl).trans <|
  (r_ild (pg_of mt_233 dL_law_538 rfl) rfl).trans <|
  (r_con (pg_of mt_233 dL_law_539 rfl) (v2 := (1 : Int32)) (by decide)).trans <|
  (r_bin (pg_of mt_233 dL_law_540 rfl)).trans <|
  (r_sld (pg_of mt_233 dL_law_541 rfl) h1).trans <|
  (r_als (pg_of mt_233 dL_law_542 rfl) (Or.inl rfl) rfl).trans <|
  (r_ild (pg_of mt_233 dL_law_543 rfl) rfl).trans <|
  (r_con (pg_of mt_233 dL_law_544 rfl) (v2 := (2 : Int32)) (by decide)).trans <|
  (r_bin (pg_of mt_233 dL_law_545 rfl)).trans <|
  (r_sld (pg_of mt_233 dL_law_546 rfl) h2).trans <|
  (r_call (t := tt_233) (t2 := tt_149) (pg_of mt_233 dL_law_547 rfl) mt_233 mt_149 rfl rfl (rcv1 rfl) rfl rfl)
theorem b233_550 (l3 : Int32) (s0 : Int32) (s1 : Int32) : rn xs L 233 550 [vS 1, vR 0, vR 44, vI l3] [vI s0, vI s1] (mw f a g) = if s1 = s0 then rn xs L 233 1605 [vS 1, vR 0, vR 44, vI l3] [] (mw f a g) else rn xs L 233 553 [vS 1, vR 0, vR 44, vI l3] [] (mw f a g) :=
  (r_eq (pg_of mt_233 dL_law_550 rfl))
theorem b233_553 (l3 : Int32) : rn xs L 233 553 [vS 1, vR 0, vR 44, vI l3] [] (mw f a g) = some (some (vI (0 : Int32)), (mw f a g)) :=
  (r_con (pg_of mt_233 dL_law_553 rfl) (v2 := (0 : Int32)) (by decide)).trans <|
  (r_rz (pg_of mt_233 dL_law_554 rfl) mt_233 rfl (Or.inl rfl))
theorem b233_555 (l3 : Int32) (h1 : ma_in ((l3 + (1 : Int32))) L = true) (h2 : ma_in ((l3 + (2 : Int32))) L = true) : rn xs L 233 555 [vS 1, vR 0, vR 44, vI l3] [] (mw f a g) = (ev xs L 66 4 [vR 0, vI (xs ((l3 + (1 : Int32))).toNatClampNeg), vI (xs ((l3 + (2 : Int32))).toNatClampNeg)] (mw f a g)).bind (fun b => rn xs L 233 569 [vS 1, vR 0, vR 44, vI l3] (b.1.toList ++ []) b.2) :=
  (r_ald (pg_of mt_233 dL_law_555 rfl) rfl).trans <|
  (r_als (pg_of mt_233 dL_law_556 rfl) (Or.inl rfl) rfl).trans <|
  (r_ild (pg_of mt_233 dL_law_557 rfl) rfl).trans <|
  (r_con (pg_of mt_233 dL_law_558 rfl) (v2 := (1 : Int32)) (by decide)).trans <|
  (r_bin (pg_of mt_233 dL_law_559 rfl)).trans <|
  (r_sld (pg_of mt_233 dL_law_560 rfl) h1).trans <|
  (r_als (pg_of mt_233 dL_law_561 rfl) (Or.inl rfl) rfl).trans <|
  (r_ild (pg_of mt_233 dL_law_562 rfl) rfl).trans <|
  (r_con (pg_of mt_233 dL_law_563 rfl) (v2 := (2 : Int32)) (by decide)).trans <|
  (r_bin (pg_of mt_233 dL_law_564 rfl)).trans <|
  (r_sld (pg_of mt_233 dL_law_565 rfl) h2).trans <|
  (r_call (t := tt_233) (t2 := tt_66) (pg_of mt_233 dL_law_566 rfl) mt_233 mt_66 rfl rfl (rcv1 rfl) rfl rfl)
theorem b233_569 (l3 : Int32) (s0 : Int32) (h1 : ma_in ((l3 + (1 : Int32))) L = true) (h2 : ma_in ((l3 + (2 : Int32))) L = true) : rn xs L 233 569 [vS 1, vR 0, vR 44, vI l3] [vI s0] (mw f a g) = (ev xs L 150 3 [vR 44, vI (xs ((l3 + (1 : Int32))).toNatClampNeg), vI (xs ((l3 + (2 : Int32))).toNatClampNeg)] (mw f a g)).bind (fun b => rn xs L 233 583 [vS 1, vR 0, vR 44, vI l3] (b.1.toList ++ [vI s0]) b.2) :=
  (r_ald (pg_of mt_233 dL_law_569 rfl) rfl).trans <|
  (r_als (pg_of mt_233 dL_law_570 rfl) (Or.inl rfl) rfl).trans <|
  (r_ild (pg_of mt_233 dL_law_571 rfl) rfl).trans <|
  (r_con (pg_of mt_233 dL_law_572 rfl) (v2 := (1 : Int32)) (by decide)).trans <|
  (r_bin (pg_of mt_233 dL_law_573 rfl)).trans <|
  (r_sld (pg_of mt_233 dL_law_574 rfl) h1).trans <|
  (r_als (pg_of mt_233 dL_law_575 rfl) (Or.inl rfl) rfl).trans <|
  (r_ild (pg_of mt_233 dL_law_576 rfl) rfl).trans <|
  (r_con (pg_of mt_233 dL_law_577 rfl) (v2 := (2 : Int32)) (by decide)).trans <|
  (r_bin (pg_of mt_233 dL_law_578 rfl)).trans <|
  (r_sld (pg_of mt_233 dL_law_579 rfl) h2).trans <|
  (r_call (t := tt_233) (t2 := tt_150) (pg_of mt_233 dL_law_580 rfl) mt_233 mt_150 rfl rfl (rcv1 rfl) rfl rfl)
theorem b233_583 (l3 : Int32) (s0 : Int32) (s1 : Int32) : rn xs L 233 583 [vS 1, vR 0, vR 44, vI l3] [vI s0, vI s1] (mw f a g) = if s1 = s0 then rn xs L 233 1605 [vS 1, vR 0, vR 44, vI l3] [] (mw f a g) else rn xs L 233 586 [vS 1, vR 0, vR 44, vI l3] [] (mw f a g) :=
  (r_eq (pg_of mt_233 dL_law_583 rfl))
theorem b233_586 (l3 : Int32) : rn xs L 233 586 [vS 1, vR 0, vR 44, vI l3] [] (mw f a g) = some (some (vI (0 : Int32)), (mw f a g)) :=
  (r_con (pg_of mt_233 dL_law_586 rfl) (v2 := (0 : Int32)) (by decide)).trans <|
  (r_rz (pg_of mt_233 dL_law_587 rfl) mt_233 rfl (Or.inl rfl))
theorem b233_588 (l3 : Int32) (h1 : ma_in ((l3 + (1 : Int32))) L = true) : rn xs L 233 588 [vS 1, vR 0, vR 44, vI l3] [] (mw f a g) = (ev xs L 67 2 [vR 0, vI (xs ((l3 + (1 : Int32))).toNatClampNeg)] (mw f a g)).bind (fun b => rn xs L 233 597 [vS 1, vR 0, vR 44, vI l3] (b.1.toList ++ []) b.2) :=
  (r_ald (pg_of mt_233 dL_law_588 rfl) rfl).trans <|
  (r_als (pg_of mt_233 dL_law_589 rfl) (Or.inl rfl) rfl).trans <|
  (r_ild (pg_of mt_233 dL_law_590 rfl) rfl).trans <|
  (r_con (pg_of mt_233 dL_law_591 rfl) (v2 := (1 : Int32)) (by decide)).trans <|
  (r_bin (pg_of mt_233 dL_law_592 rfl)).trans <|
  (r_sld (pg_of mt_233 dL_law_593 rfl) h1).trans <|
  (r_call (t := tt_233) (t2 := tt_67) (pg_of mt_233 dL_law_594 rfl) mt_233 mt_67 rfl rfl (rcv1 rfl) rfl rfl)
theorem b233_597 (l3 : Int32) (s0 : Int32) (h1 : ma_in ((l3 + (1 : Int32))) L = true) : rn xs L 233 597 [vS 1, vR 0, vR 44, vI l3] [vI s0] (mw f a g) = (ev xs L 151 2 [vR 44, vI (xs ((l3 + (1 : Int32))).toNatClampNeg)] (mw f a g)).bind (fun b => rn xs L 233 606 [vS 1, vR 0, vR 44, vI l3] (b.1.toList ++ [vI s0]) b.2) :=
  (r_ald (pg_of mt_233 dL_law_597 rfl) rfl).trans <|
  (r_als (pg_of mt_233 dL_law_598 rfl) (Or.inl rfl) rfl).trans <|
  (r_ild (pg_of mt_233 dL_law_599 rfl) rfl).trans <|
  (r_con (pg_of mt_233 dL_law_600 rfl) (v2 := (1 : Int32)) (by decide)).trans <|
  (r_bin (pg_of mt_233 dL_law_601 rfl)).trans <|
  (r_sld (pg_of mt_233 dL_law_602 rfl) h1).trans <|
  (r_call (t := tt_233) (t2 := tt_151) (pg_of mt_233 dL_law_603 rfl) mt_233 mt_151 rfl rfl (rcv1 rfl) rfl rfl)
theorem b233_606 (l3 : Int32) (s0 : Int32) (s1 : Int32) : rn xs L 233 606 [vS 1, vR 0, vR 44, vI l3] [vI s0, vI s1] (mw f a g) = if s1 = s0 then rn xs L 233 1605 [vS 1, vR 0, vR 44, vI l3] [] (mw f a g) else rn xs L 233 609 [vS 1, vR 0, vR 44, vI l3] [] (mw f a g) :=
  (r_eq (pg_of mt_233 dL_law_606 rfl))
theorem b233_609 (l3 : Int32) : rn xs L 233 609 [vS 1, vR 0, vR 44, vI l3] [] (mw f a g) = some (some (vI (0 : Int32)), (mw f a g)) :=
  (r_con (pg_of mt_233 dL_law_609 rfl) (v2 := (0 : Int32)) (by decide)).trans <|
  (r_rz (pg_of mt_233 dL_law_610 rfl) mt_233 rfl (Or.inl rfl))
theorem b233_611 (l3 : Int32) (h1 : ma_in ((l3 + (1 : Int32))) L = true) (h2 : ma_in ((l3 + (2 : Int32))) L = true) : rn xs L 233 611 [vS 1, vR 0, vR 44, vI l3] [] (mw f a g) = (ev xs L 68 3 [vR 0, vI (xs ((l3 + (1 : Int32))).toNatClampNeg), vI (xs ((l3 + (2 : Int32))).toNatClampNeg)] (mw f a g)).bind (fun b => rn xs L 233 625 [vS 1, vR 0, vR 44, vI l3] (b.1.toList ++ []) b.2) :=
  (r_ald (pg_of mt_233 dL_law_611 rfl) rfl).trans <|
  (r_als (pg_of mt_233 dL_law_612 rfl) (Or.inl rfl) rfl).trans <|
  (r_ild (pg_of mt_233 dL_law_613 rfl) rfl).trans <|
  (r_con (pg_of mt_233 dL_law_614 rfl) (v2 := (1 : Int32)) (by decide)).trans <|
  (r_bin (pg_of mt_233 dL_law_615 rfl)).trans <|
  (r_sld (pg_of mt_233 dL_law_616 rfl) h1).trans <|
  (r_als (pg_of mt_233 dL_law_617 rfl) (Or.inl rfl) rfl).trans <|
  (r_ild (pg_of mt_233 dL_law_618 rfl) rfl).trans <|
  (r_con (pg_of mt_233 dL_law_619 rfl) (v2 := (2 : Int32)) (by decide)).trans <|
  (r_bin (pg_of mt_233 dL_law_620 rfl)).trans <|
  (r_sld (pg_of mt_233 dL_law_621 rfl) h2).trans <|
  (r_call (t := tt_233) (t2 := tt_68) (pg_of mt_233 dL_law_622 rfl) mt_233 mt_68 rfl rfl (rcv1 rfl) rfl rfl)
theorem b233_625 (l3 : Int32) (s0 : Int32) (h1 : ma_in ((l3 + (1 : Int32))) L = true) (h2 : ma_in ((l3 + (2 : Int32))) L = true) : rn xs L 233 625 [vS 1, vR 0, vR 44, vI l3] [vI s0] (mw f a g) = (ev xs L 154 3 [vR 44, vI (xs ((l3 + (1 : Int32))).toNatClampNeg), vI (xs ((l3 + (2 : Int32))).toNatClampNeg)] (mw f a g)).bind (fun b => rn xs L 233 639 [vS 1, vR 0, vR 44, vI l3] (b.1.toList ++ [vI s0]) b.2) :=
  (r_ald (pg_of mt_233 dL_law_625 rfl) rfl).trans <|
  (r_als (pg_of mt_233 dL_law_626 rfl) (Or.inl rfl) rfl).trans <|
  (r_ild (pg_of mt_233 dL_law_627 rfl) rfl).trans <|
  (r_con (pg_of mt_233 dL_law_628 rfl) (v2 := (1 : Int32)) (by decide)).trans <|
  (r_bin (pg_of mt_233 dL_law_629 rfl)).trans <|
  (r_sld (pg_of mt_233 dL_law_630 rfl) h1).trans <|
  (r_als (pg_of mt_233 dL_law_631 rfl) (Or.inl rfl) rfl).trans <|
  (r_ild (pg_of mt_233 dL_law_632 rfl) rfl).trans <|
  (r_con (pg_of mt_233 dL_law_633 rfl) (v2 := (2 : Int32)) (by decide)).trans <|
  (r_bin (pg_of mt_233 dL_law_634 rfl)).trans <|
  (r_sld (pg_of mt_233 dL_law_635 rfl) h2).trans <|
  (r_call (t := tt_233) (t2 := tt_154) (pg_of mt_233 dL_law_636 rfl) mt_233 mt_154 rfl rfl (rcv1 rfl) rfl rfl)
theorem b233_639 (l3 : Int32) (s0 : Int32) (s1 : Int32) : rn xs L 233 639 [vS 1, vR 0, vR 44, vI l3] [vI s0, vI s1] (mw f a g) = if s1 = s0 then rn xs L 233 1605 [vS 1, vR 0, vR 44, vI l3] [] (mw f a g) else rn xs L 233 642 [vS 1, vR 0, vR 44, vI l3] [] (mw f a g) :=
  (r_eq (pg_of mt_233 dL_law_639 rfl))
theorem b233_642 (l3 : Int32) : rn xs L 233 642 [vS 1, vR 0, vR 44, vI l3] [] (mw f a g) = some (some (vI (0 : Int32)), (mw f a g)) :=
  (r_con (pg_of mt_233 dL_law_642 rfl) (v2 := (0 : Int32)) (by decide)).trans <|
  (r_rz (pg_of mt_233 dL_law_643 rfl) mt_233 rfl (Or.inl rfl))
theorem b233_644 (l3 : Int32) (h1 : ma_in ((l3 + (1 : Int32))) L = true) (h2 : ma_in ((l3 + (2 : Int32))) L = true) : rn xs L 233 644 [vS 1, vR 0, vR 44, vI l3] [] (mw f a g) = (ev xs L 69 4 [vR 0, vI (xs ((l3 + (1 : Int32))).toNatClampNeg), vI (xs ((l3 + (2 : Int32))).toNatClampNeg)] (mw f a g)).bind (fun b => rn xs L 233 658 [vS 1, vR 0, vR 44, vI l3] (b.1.toList ++ []) b.2) :=
  (r_ald (pg_of mt_233 dL_law_644 rfl) rfl).trans <|
  (r_als (pg_of mt_233 dL_law_645 rfl) (Or.inl rfl) rfl).trans <|
  (r_ild (pg_of mt_233 dL_law_646 rfl) rfl).trans <|
  (r_con (pg_of mt_233 dL_law_647 rfl) (v2 := (1 : Int32)) (by decide)).trans <|
  (r_bin (pg_of mt_233 dL_law_648 rfl)).trans <|
  (r_sld (pg_of mt_233 dL_law_649 rfl) h1).trans <|
  (r_als (pg_of mt_233 dL_law_650 rfl) (Or.inl rfl) rfl).trans <|
  (r_ild (pg_of mt_233 dL_law_651 rfl) rfl).trans <|
  (r_con (pg_of mt_233 dL_law_652 rfl) (v2 := (2 : Int32)) (by decide)).trans <|
  (r_bin (pg_of mt_233 dL_law_653 rfl)).trans <|
  (r_sld (pg_of mt_233 dL_law_654 rfl) h2).trans <|
  (r_call (t := tt_233) (t2 := tt_69) (pg_of mt_233 dL_law_655 rfl) mt_233 mt_69 rfl rfl (rcv1 rfl) rfl rfl)
theorem b233_658 (l3 : Int32) (s0 : Int32) (h1 : ma_in ((l3 + (1 : Int32))) L = true) (h2 : ma_in ((l3 + (2 : Int32))) L = true) : rn xs L 233 658 [vS 1, vR 0, vR 44, vI l3] [vI s0] (mw f a g) = (ev xs L 155 3 [vR 44, vI (xs ((l3 + (1 : Int32))).toNatClampNeg), vI (xs ((l3 + (2 : Int32))).toNatClampNeg)] (mw f a g)).bind (fun b => rn xs L 233 672 [vS 1, vR 0, vR 44, vI l3] (b.1.toList ++ [vI s0]) b.2) :=
  (r_ald (pg_of mt_233 dL_law_658 rfl) rfl).trans <|
  (r_als (pg_of mt_233 dL_law_659 rfl) (Or.inl rfl) rfl).trans <|
  (r_ild (pg_of mt_233 dL_law_660 rfl) rfl).trans <|
  (r_con (pg_of mt_233 dL_law_661 rfl) (v2 := (1 : Int32)) (by decide)).trans <|
  (r_bin (pg_of mt_233 dL_law_662 rfl)).trans <|
  (r_sld (pg_of mt_233 dL_law_663 rfl) h1).trans <|
  (r_als (pg_of mt_233 dL_law_664 rfl) (Or.inl rfl) rfl).trans <|
  (r_ild (pg_of mt_233 dL_law_665 rfl) rfl).trans <|
  (r_con (pg_of mt_233 dL_law_666 rfl) (v2 := (2 : Int32)) (by decide)).trans <|
  (r_bin (pg_of mt_233 dL_law_667 rfl)).trans <|
  (r_sld (pg_of mt_233 dL_law_668 rfl) h2).trans <|
  (r_call (t := tt_233) (t2 := tt_155) (pg_of mt_233 dL_law_669 rfl) mt_233 mt_155 rfl rfl (rcv1 rfl) rfl rfl)
theorem b233_672 (l3 : Int32) (s0 : Int32) (s1 : Int32) : rn xs L 233 672 [vS 1, vR 0, vR 44, vI l3] [vI s0, vI s1] (mw f a g) = if s1 = s0 then rn xs L 233 1605 [vS 1, vR 0, vR 44, vI l3] [] (mw f a g) else rn xs L 233 675 [vS 1, vR 0, vR 44, vI l3] [] (mw f a g) :=
  (r_eq (pg_of mt_233 dL_law_672 rfl))
theorem b233_675 (l3 : Int32) : rn xs L 233 675 [vS 1, vR 0, vR 44, vI l3] [] (mw f a g) = some (some (vI (0 : Int32)), (mw f a g)) :=
  (r_con (pg_of mt_233 dL_law_675 rfl) (v2 := (0 : Int32)) (by decide)).trans <|
  (r_rz (pg_of mt_233 dL_law_676 rfl) mt_233 rfl (Or.inl rfl))
theorem b233_677 (l3 : Int32) (h1 : ma_in ((l3 + (1 : Int32))) L = true) : rn xs L 233 677 [vS 1, vR 0, vR 44, vI l3] [] (mw f a g) = (ev xs L 70 3 [vR 0, vI (xs ((l3 + (1 : Int32))).toNatClampNeg)] (mw f a g)).bind (fun b => rn xs L 233 686 [vS 1, vR 0, vR 44, vI l3] (b.1.toList ++ []) b.2) :=
  (r_ald (pg_of mt_233 dL_law_677 rfl) rfl).trans <|
  (r_als (pg_of mt_233 dL_law_678 rfl) (Or.inl rfl) rfl).trans <|
  (r_ild (pg_of mt_233 dL_law_679 rfl) rfl).trans <|
  (r_con (pg_of mt_233 dL_law_680 rfl) (v2 := (1 : Int32)) (by decide)).trans <|
  (r_bin (pg_of mt_233 dL_law_681 rfl)).trans <|
  (r_sld (pg_of mt_233 dL_law_682 rfl) h1).trans <|
  (r_call (t := tt_233) (t2 := tt_70) (pg_of mt_233 dL_law_683 rfl) mt_233 mt_70 rfl rfl (rcv1 rfl) rfl rfl)
theorem b233_686 (l3 : Int32) (s0 : Int32) (h1 : ma_in ((l3 + (1 : Int32))) L = true) : rn xs L 233 686 [vS 1, vR 0, vR 44, vI l3] [vI s0] (mw f a g) = (ev xs L 156 4 [vR 44, vI (xs ((l3 + (1 : Int32))).toNatClampNeg)] (mw f a g)).bind (fun b => rn xs L 233 695 [vS 1, vR 0, vR 44, vI l3] (b.1.toList ++ [vI s0]) b.2) :=
  (r_ald (pg_of mt_233 dL_law_686 rfl) rfl).trans <|
  (r_als (pg_of mt_233 dL_law_687 rfl) (Or.inl rfl) rfl).trans <|
  (r_ild (pg_of mt_233 dL_law_688 rfl) rfl).trans <|
  (r_con (pg_of mt_233 dL_law_689 rfl) (v2 := (1 : Int32)) (by decide)).trans <|
  (r_bin (pg_of mt_233 dL_law_690 rfl)).trans <|
  (r_sld (pg_of mt_233 dL_law_691 rfl) h1).trans <|
  (r_call (t := tt_233) (t2 := tt_156) (pg_of mt_233 dL_law_692 rfl) mt_233 mt_156 rfl rfl (rcv1 rfl) rfl rfl)
theorem b233_695 (l3 : Int32) (s0 : Int32) (s1 : Int32) : rn xs L 233 695 [vS 1, vR 0, vR 44, vI l3] [vI s0, vI s1] (mw f a g) = if s1 = s0 then rn xs L 233 1605 [vS 1, vR 0, vR 44, vI l3] [] (mw f a g) else rn xs L 233 698 [vS 1, vR 0, vR 44, vI l3] [] (mw f a g) :=
  (r_eq (pg_of mt_233 dL_law_695 rfl))
theorem b233_698 (l3 : Int32) : rn xs L 233 698 [vS 1, vR 0, vR 44, vI l3] [] (mw f a g) = some (some (vI (0 : Int32)), (mw f a g)) :=
  (r_con (pg_of mt_233 dL_law_698 rfl) (v2 := (0 : Int32)) (by decide)).trans <|
  (r_rz (pg_of mt_233 dL_law_699 rfl) mt_233 rfl (Or.inl rfl))
theorem b233_700 (l3 : Int32) (h1 : ma_in ((l3 + (1 : Int32))) L = true) : rn xs L 233 700 [vS 1, vR 0, vR 44, vI l3] [] (mw f a g) = (ev xs L 72 3 [vR 0, vI (xs ((l3 + (1 : Int32))).toNatClampNeg)] (mw f a g)).bind (fun b => rn xs L 233 709 [vS 1, vR 0, vR 44, vI l3] (b.1.toList ++ []) b.2) :=
  (r_ald (pg_of mt_233 dL_law_700 rfl) rfl).trans <|
  (r_als (pg_of mt_233 dL_law_701 rfl) (Or.inl rfl) rfl).trans <|
  (r_ild (pg_of mt_233 dL_law_702 rfl) rfl).trans <|
  (r_con (pg_of mt_233 dL_law_703 rfl) (v2 := (1 : Int32)) (by decide)).trans <|
  (r_bin (pg_of mt_233 dL_law_704 rfl)).trans <|
  (r_sld (pg_of mt_233 dL_law_705 rfl) h1).trans <|
  (r_call (t := tt_233) (t2 := tt_72) (pg_of mt_233 dL_law_706 rfl) mt_233 mt_72 rfl rfl (rcv1 rfl) rfl rfl)
theorem b233_709 (l3 : Int32) (s0 : Int32) (h1 : ma_in ((l3 + (1 : Int32))) L = true) : rn xs L 233 709 [vS 1, vR 0, vR 44, vI l3] [vI s0] (mw f a g) = (ev xs L 159 2 [vR 44, vI (xs ((l3 + (1 : Int32))).toNatClampNeg)] (mw f a g)).bind (fun b => rn xs L 233 718 [vS 1, vR 0, vR 44, vI l3] (b.1.toList ++ [vI s0]) b.2) :=
  (r_ald (pg_of mt_233 dL_law_709 rfl) rfl).trans <|
  (r_als (pg_of mt_233 dL_law_710 rfl) (Or.inl rfl) rfl).trans <|
  (r_ild (pg_of mt_233 dL_law_711 rfl) rfl).trans <|
  (r_con (pg_of mt_233 dL_law_712 rfl) (v2 := (1 : Int32)) (by decide)).trans <|
  (r_bin (pg_of mt_233 dL_law_713 rfl)).trans <|
  (r_sld (pg_of mt_233 dL_law_714 rfl) h1).trans <|
  (r_call (t := tt_233) (t2 := tt_159) (pg_of mt_233 dL_law_715 rfl) mt_233 mt_159 rfl rfl (rcv1 rfl) rfl rfl)
theorem b233_718 (l3 : Int32) (s0 : Int32) (s1 : Int32) : rn xs L 233 718 [vS 1, vR 0, vR 44, vI l3] [vI s0, vI s1] (mw f a g) = if s1 = s0 then rn xs L 233 1605 [vS 1, vR 0, vR 44, vI l3] [] (mw f a g) else rn xs L 233 721 [vS 1, vR 0, vR 44, vI l3] [] (mw f a g) :=
  (r_eq (pg_of mt_233 dL_law_718 rfl))
theorem b233_721 (l3 : Int32) : rn xs L 233 721 [vS 1, vR 0, vR 44, vI l3] [] (mw f a g) = some (some (vI (0 : Int32)), (mw f a g)) :=
  (r_con (pg_of mt_233 dL_law_721 rfl) (v2 := (0 : Int32)) (by decide)).trans <|
  (r_rz (pg_of mt_233 dL_law_722 rfl) mt_233 rfl (Or.inl rfl))
theorem b233_723 (l3 : Int32) : rn xs L 233 723 [vS 1, vR 0, vR 44, vI l3] [] (mw f a g) = (ev xs L 73 1 [vR 0] (mw f a g)).bind (fun b => rn xs L 233 727 [vS 1, vR 0, vR 44, vI l3] (b.1.toList ++ []) b.2) :=
  (r_ald (pg_of mt_233 dL_law_723 rfl) rfl).trans <|
  (r_call (t := tt_233) (t2 := tt_73) (pg_of mt_233 dL_law_724 rfl) mt_233 mt_73 rfl rfl (rcv1 rfl) rfl rfl)
theorem b233_727 (l3 : Int32) (s0 : Int32) : rn xs L 233 727 [vS 1, vR 0, vR 44, vI l3] [vI s0] (mw f a g) = (ev xs L 160 2 [vR 44] (mw f a g)).bind (fun b => rn xs L 233 731 [vS 1, vR 0, vR 44, vI l3] (b.1.toList ++ [vI s0]) b.2) :=
  (r_ald (pg_of mt_233 dL_law_727 rfl) rfl).trans <|
  (r_call (t := tt_233) (t2 := tt_160) (pg_of mt_233 dL_law_728 rfl) mt_233 mt_160 rfl rfl (rcv1 rfl) rfl rfl)
theorem b233_731 (l3 : Int32) (s0 : Int32) (s1 : Int32) : rn xs L 233 731 [vS 1, vR 0, vR 44, vI l3] [vI s0, vI s1] (mw f a g) = if s1 = s0 then rn xs L 233 1605 [vS 1, vR 0, vR 44, vI l3] [] (mw f a g) else rn xs L 233 734 [vS 1, vR 0, vR 44, vI l3] [] (mw f a g) :=
  (r_eq (pg_of mt_233 dL_law_731 rfl))
theorem b233_734 (l3 : Int32) : rn xs L 233 734 [vS 1, vR 0, vR 44, vI l3] [] (mw f a g) = some (some (vI (0 : Int32)), (mw f a g)) :=
  (r_con (pg_of mt_233 dL_law_734 rfl) (v2 := (0 : Int32)) (by decide)).trans <|
  (r_rz (pg_of mt_233 dL_law_735 rfl) mt_233 rfl (Or.inl rfl))
theorem b233_736 (l3 : Int32) (h1 : ma_in ((l3 + (1 : Int32))) L = true) : rn xs L 233 736 [vS 1, vR 0, vR 44, vI l3] [] (mw f a g) = (ev xs L 74 6 [vR 0, vI (xs ((l3 + (1 : Int32))).toNatClampNeg)] (mw f a g)).bind (fun b => rn xs L 233 745 [vS 1, vR 0, vR 44, vI l3] (b.1.toList ++ []) b.2) :=
  (r_ald (pg_of mt_233 dL_law_736 rfl) rfl).trans <|
  (r_als (pg_of mt_233 dL_law_737 rfl) (Or.inl rfl) rfl).trans <|
  (r_ild (pg_of mt_233 dL_law_738 rfl) rfl).trans <|
  (r_con (pg_of mt_233 dL_law_739 rfl) (v2 := (1 : Int32)) (by decide)).trans <|
  (r_bin (pg_of mt_233 dL_law_740 rfl)).trans <|
  (r_sld (pg_of mt_233 dL_law_741 rfl) h1).trans <|
  (r_call (t := tt_233) (t2 := tt_74) (pg_of mt_233 dL_law_742 rfl) mt_233 mt_74 rfl rfl (rcv1 rfl) rfl rfl)
theorem b233_745 (l3 : Int32) (s0 : Int32) (h1 : ma_in ((l3 + (1 : Int32))) L = true) : rn xs L 233 745 [vS 1, vR 0, vR 44, vI l3] [vI s0] (mw f a g) = (ev xs L 163 6 [vR 44, vI (xs ((l3 + (1 : Int32))).toNatClampNeg)] (mw f a g)).bind (fun b => rn xs L 233 754 [vS 1, vR 0, vR 44, vI l3] (b.1.toList ++ [vI s0]) b.2) :=
  (r_ald (pg_of mt_233 dL_law_745 rfl) rfl).trans <|
  (r_als (pg_of mt_233 dL_law_746 rfl) (Or.inl rfl) rfl).trans <|
  (r_ild (pg_of mt_233 dL_law_747 rfl) rfl).trans <|
  (r_con (pg_of mt_233 dL_law_748 rfl) (v2 := (1 : Int32)) (by decide)).trans <|
  (r_bin (pg_of mt_233 dL_law_749 rfl)).trans <|
  (r_sld (pg_of mt_233 dL_law_750 rfl) h1).trans <|
  (r_call (t := tt_233) (t2 := tt_163) (pg_of mt_233 dL_law_751 rfl) mt_233 mt_163 rfl rfl (rcv1 rfl) rfl rfl)
theorem b233_754 (l3 : Int32) (s0 : Int32) (s1 : Int32) : rn xs L 233 754 [vS 1, vR 0, vR 44, vI l3] [vI s0, vI s1] (mw f a g) = if s1 = s0 then rn xs L 233 1605 [vS 1, vR 0, vR 44, vI l3] [] (mw f a g) else rn xs L 233 757 [vS 1, vR 0, vR 44, vI l3] [] (mw f a g) :=
  (r_eq (pg_of mt_233 dL_law_754 rfl))
theorem b233_757 (l3 : Int32) : rn xs L 233 757 [vS 1, vR 0, vR 44, vI l3] [] (mw f a g) = some (some (vI (0 : Int32)), (mw f a g)) :=
  (r_con (pg_of mt_233 dL_law_757 rfl) (v2 := (0 : Int32)) (by decide)).trans <|
  (r_rz (pg_of mt_233 dL_law_758 rfl) mt_233 rfl (Or.inl rfl))
theorem b233_759 (l3 : Int32) (h1 : ma_in ((l3 + (1 : Int32))) L = true) : rn xs L 233 759 [vS 1, vR 0, vR 44, vI l3] [] (mw f a g) = (ev xs L 75 2 [vR 0, vI (xs ((l3 + (1 : Int32))).toNatClampNeg)] (mw f a g)).bind (fun b => rn xs L 233 768 [vS 1, vR 0, vR 44, vI l3] (b.1.toList ++ []) b.2) :=
  (r_ald (pg_of mt_233 dL_law_759 rfl) rfl).trans <|
  (r_als (pg_of mt_233 dL_law_760 rfl) (Or.inl rfl) rfl).trans <|
  (r_ild (pg_of mt_233 dL_law_761 rfl) rfl).trans <|
  (r_con (pg_of mt_233 dL_law_762 rfl) (v2 := (1 : Int32)) (by decide)).trans <|
  (r_bin (pg_of mt_233 dL_law_763 rfl)).trans <|
  (r_sld (pg_of mt_233 dL_law_764 rfl) h1).trans <|
  (r_call (t := tt_233) (t2 := tt_75) (pg_of mt_233 dL_law_765 rfl) mt_233 mt_75 rfl rfl (rcv1 rfl) rfl rfl)
theorem b233_768 (l3 : Int32) (s0 : Int32) (h1 : ma_in ((l3 + (1 : Int32))) L = true) : rn xs L 233 768 [vS 1, vR 0, vR 44, vI l3] [vI s0] (mw f a g) = (ev xs L 164 2 [vR 44, vI (xs ((l3 + (1 : Int32))).toNatClampNeg)] (mw f a g)).bind (fun b => rn xs L 233 777 [vS 1, vR 0, vR 44, vI l3] (b.1.toList ++ [vI s0]) b.2) :=
  (r_ald (pg_of mt_233 dL_law_768 rfl) rfl).trans <|
  (r_als (pg_of mt_233 dL_law_769 rfl) (Or.inl rfl) rfl).trans <|
  (r_ild (pg_of mt_233 dL_law_770 rfl) rfl).trans <|
  (r_con (pg_of mt_233 dL_law_771 rfl) (v2 := (1 : Int32)) (by decide)).trans <|
  (r_bin (pg_of mt_233 dL_law_772 rfl)).trans <|
  (r_sld (pg_of mt_233 dL_law_773 rfl) h1).trans <|
  (r_call (t := tt_233) (t2 := tt_164) (pg_of mt_233 dL_law_774 rfl) mt_233 mt_164 rfl rfl (rcv1 rfl) rfl rfl)
theorem b233_777 (l3 : Int32) (s0 : Int32) (s1 : Int32) : rn xs L 233 777 [vS 1, vR 0, vR 44, vI l3] [vI s0, vI s1] (mw f a g) = if s1 = s0 then rn xs L 233 1605 [vS 1, vR 0, vR 44, vI l3] [] (mw f a g) else rn xs L 233 780 [vS 1, vR 0, vR 44, vI l3] [] (mw f a g) :=
  (r_eq (pg_of mt_233 dL_law_777 rfl))
theorem b233_780 (l3 : Int32) : rn xs L 233 780 [vS 1, vR 0, vR 44, vI l3] [] (mw f a g) = some (some (vI (0 : Int32)), (mw f a g)) :=
  (r_con (pg_of mt_233 dL_law_780 rfl) (v2 := (0 : Int32)) (by decide)).trans <|
  (r_rz (pg_of mt_233 dL_law_781 rfl) mt_233 rfl (Or.inl rfl))
theorem b233_782 (l3 : Int32) (h1 : ma_in ((l3 + (1 : Int32))) L = true) : rn xs L 233 782 [vS 1, vR 0, vR 44, vI l3] [] (mw f a g) = (ev xs L 76 2 [vR 0, vI (xs ((l3 + (1 : Int32))).toNatClampNeg)] (mw f a g)).bind (fun b => rn xs L 233 791 [vS 1, vR 0, vR 44, vI l3] (b.1.toList ++ []) b.2) :=
  (r_ald (pg_of mt_233 dL_law_782 rfl) rfl).trans <|
  (r_als (pg_of mt_233 dL_law_783 rfl) (Or.inl rfl) rfl).trans <|
  (r_ild (pg_of mt_233 dL_law_784 rfl) rfl).trans <|
  (r_con (pg_of mt_233 dL_law_785 rfl) (v2 := (1 : Int32)) (by decide)).trans <|
  (r_bin (pg_of mt_233 dL_law_786 rfl)).trans <|
  (r_sld (pg_of mt_233 dL_law_787 rfl) h1).trans <|
  (r_call (t := tt_233) (t2 := tt_76) (pg_of mt_233 dL_law_788 rfl) mt_233 mt_76 rfl rfl (rcv1 rfl) rfl rfl)
theorem b233_791 (l3 : Int32) (s0 : Int32) (h1 : ma_in ((l3 + (1 : Int32))) L = true) : rn xs L 233 791 [vS 1, vR 0, vR 44, vI l3] [vI s0] (mw f a g) = (ev xs L 166 2 [vR 44, vI (xs ((l3 + (1 : Int32))).toNatClampNeg)] (mw f a g)).bind (fun b => rn xs L 233 800 [vS 1, vR 0, vR 44, vI l3] (b.1.toList ++ [vI s0]) b.2) :=
  (r_ald (pg_of mt_233 dL_law_791 rfl) rfl).trans <|
  (r_als (pg_of mt_233 dL_law_792 rfl) (Or.inl rfl) rfl).trans <|
  (r_ild (pg_of mt_233 dL_law_793 rfl) rfl).trans <|
  (r_con (pg_of mt_233 dL_law_794 rfl) (v2 := (1 : Int32)) (by decide)).trans <|
  (r_bin (pg_of mt_233 dL_law_795 rfl)).trans <|
  (r_sld (pg_of mt_233 dL_law_796 rfl) h1).trans <|
  (r_call (t := tt_233) (t2 := tt_166) (pg_of mt_233 dL_law_797 rfl) mt_233 mt_166 rfl rfl (rcv1 rfl) rfl rfl)
theorem b233_800 (l3 : Int32) (s0 : Int32) (s1 : Int32) : rn xs L 233 800 [vS 1, vR 0, vR 44, vI l3] [vI s0, vI s1] (mw f a g) = if s1 = s0 then rn xs L 233 1605 [vS 1, vR 0, vR 44, vI l3] [] (mw f a g) else rn xs L 233 803 [vS 1, vR 0, vR 44, vI l3] [] (mw f a g) :=
  (r_eq (pg_of mt_233 dL_law_800 rfl))
theorem b233_803 (l3 : Int32) : rn xs L 233 803 [vS 1, vR 0, vR 44, vI l3] [] (mw f a g) = some (some (vI (0 : Int32)), (mw f a g)) :=
  (r_con (pg_of mt_233 dL_law_803 rfl) (v2 := (0 : Int32)) (by decide)).trans <|
  (r_rz (pg_of mt_233 dL_law_804 rfl) mt_233 rfl (Or.inl rfl))
theorem b233_805 (l3 : Int32) (h1 : ma_in ((l3 + (1 : Int32))) L = true) : rn xs L 233 805 [vS 1, vR 0, vR 44, vI l3] [] (mw f a g) = (ev xs L 77 3 [vR 0, vI (xs ((l3 + (1 : Int32))).toNatClampNeg)] (mw f a g)).bind (fun b => rn xs L 233 814 [vS 1, vR 0, vR 44, vI l3] (b.1.toList ++ []) b.2) :=
  (r_ald (pg_of mt_233 dL_law_805 rfl) rfl).trans <|
  (r_als (pg_of mt_233 dL_law_806 rfl) (Or.inl rfl) rfl).trans <|
  (r_ild (pg_of mt_233 dL_law_807 rfl) rfl).trans <|
  (r_con (pg_of mt_233 dL_law_808 rfl) (v2 := (1 : Int32)) (by decide)).trans <|
  (r_bin (pg_of mt_233 dL_law_809 rfl)).trans <|
  (r_sld (pg_of mt_233 dL_law_810 rfl) h1).trans <|
  (r_call (t := tt_233) (t2 := tt_77) (pg_of mt_233 dL_law_811 rfl) mt_233 mt_77 rfl rfl (rcv1 rfl) rfl rfl)
theorem b233_814 (l3 : Int32) (s0 : Int32) (h1 : ma_in ((l3 + (1 : Int32))) L = true) : rn xs L 233 814 [vS 1, vR 0, vR 44, vI l3] [vI s0] (mw f a g) = (ev xs L 171 3 [vR 44, vI (xs ((l3 + (1 : Int32))).toNatClampNeg)] (mw f a g)).bind (fun b => rn xs L 233 823 [vS 1, vR 0, vR 44, vI l3] (b.1.toList ++ [vI s0]) b.2) :=
  (r_ald (pg_of mt_233 dL_law_814 rfl) rfl).trans <|
  (r_als (pg_of mt_233 dL_law_815 rfl) (Or.inl rfl) rfl).trans <|
  (r_ild (pg_of mt_233 dL_law_816 rfl) rfl).trans <|
  (r_con (pg_of mt_233 dL_law_817 rfl) (v2 := (1 : Int32)) (by decide)).trans <|
  (r_bin (pg_of mt_233 dL_law_818 rfl)).trans <|
  (r_sld (pg_of mt_233 dL_law_819 rfl) h1).trans <|
  (r_call (t := tt_233) (t2 := tt_171) (pg_of mt_233 dL_law_820 rfl) mt_233 mt_171 rfl rfl (rcv1 rfl) rfl rfl)
theorem b233_823 (l3 : Int32) (s0 : Int32) (s1 : Int32) : rn xs L 233 823 [vS 1, vR 0, vR 44, vI l3] [vI s0, vI s1] (mw f a g) = if s1 = s0 then rn xs L 233 1605 [vS 1, vR 0, vR 44, vI l3] [] (mw f a g) else rn xs L 233 826 [vS 1, vR 0, vR 44, vI l3] [] (mw f a g) :=
  (r_eq (pg_of mt_233 dL_law_823 rfl))
theorem b233_826 (l3 : Int32) : rn xs L 233 826 [vS 1, vR 0, vR 44, vI l3] [] (mw f a g) = some (some (vI (0 : Int32)), (mw f a g)) :=
  (r_con (pg_of mt_233 dL_law_826 rfl) (v2 := (0 : Int32)) (by decide)).trans <|
  (r_rz (pg_of mt_233 dL_law_827 rfl) mt_233 rfl (Or.inl rfl))
theorem b233_828 (l3 : Int32) : rn xs L 233 828 [vS 1, vR 0, vR 44, vI l3] [] (mw f a g) = (ev xs L 79 2 [vR 0] (mw f a g)).bind (fun b => rn xs L 233 832 [vS 1, vR 0, vR 44, vI l3] (b.1.toList ++ []) b.2) :=
  (r_ald (pg_of mt_233 dL_law_828 rfl) rfl).trans <|
  (r_call (t := tt_233) (t2 := tt_79) (pg_of mt_233 dL_law_829 rfl) mt_233 mt_79 rfl rfl (rcv1 rfl) rfl rfl)
theorem b233_832 (l3 : Int32) (s0 : Int32) : rn xs L 233 832 [vS 1, vR 0, vR 44, vI l3] [vI s0] (mw f a g) = (ev xs L 173 3 [vR 44] (mw f a g)).bind (fun b => rn xs L 233 836 [vS 1, vR 0, vR 44, vI l3] (b.1.toList ++ [vI s0]) b.2) :=
  (r_ald (pg_of mt_233 dL_law_832 rfl) rfl).trans <|
  (r_call (t := tt_233) (t2 := tt_173) (pg_of mt_233 dL_law_833 rfl) mt_233 mt_173 rfl rfl (rcv1 rfl) rfl rfl)
theorem b233_836 (l3 : Int32) (s0 : Int32) (s1 : Int32) : rn xs L 233 836 [vS 1, vR 0, vR 44, vI l3] [vI s0, vI s1] (mw f a g) = if s1 = s0 then rn xs L 233 1605 [vS 1, vR 0, vR 44, vI l3] [] (mw f a g) else rn xs L 233 839 [vS 1, vR 0, vR 44, vI l3] [] (mw f a g) :=
  (r_eq (pg_of mt_233 dL_law_836 rfl))
theorem b233_839 (l3 : Int32) : rn xs L 233 839 [vS 1, vR 0, vR 44, vI l3] [] (mw f a g) = some (some (vI (0 : Int32)), (mw f a g)) :=
  (r_con (pg_of mt_233 dL_law_839 rfl) (v2 := (0 : Int32)) (by decide)).trans <|
  (r_rz (pg_of mt_233 dL_law_840 rfl) mt_233 rfl (Or.inl rfl))
theorem b233_841 (l3 : Int32) : rn xs L 233 841 [vS 1, vR 0, vR 44, vI l3] [] (mw f a g) = (ev xs L 80 3 [vR 0] (mw f a g)).bind (fun b => rn xs L 233 845 [vS 1, vR 0, vR 44, vI l3] (b.1.toList ++ []) b.2) :=
  (r_ald (pg_of mt_233 dL_law_841 rfl) rfl).trans <|
  (r_call (t := tt_233) (t2 := tt_80) (pg_of mt_233 dL_law_842 rfl) mt_233 mt_80 rfl rfl (rcv1 rfl) rfl rfl)
theorem b233_845 (l3 : Int32) (s0 : Int32) : rn xs L 233 845 [vS 1, vR 0, vR 44, vI l3] [vI s0] (mw f a g) = (ev xs L 174 3 [vR 44] (mw f a g)).bind (fun b => rn xs L 233 849 [vS 1, vR 0, vR 44, vI l3] (b.1.toList ++ [vI s0]) b.2) :=
  (r_ald (pg_of mt_233 dL_law_845 rfl) rfl).trans <|
  (r_call (t := tt_233) (t2 := tt_174) (pg_of mt_233 dL_law_846 rfl) mt_233 mt_174 rfl rfl (rcv1 rfl) rfl rfl)
theorem b233_849 (l3 : Int32) (s0 : Int32) (s1 : Int32) : rn xs L 233 849 [vS 1, vR 0, vR 44, vI l3] [vI s0, vI s1] (mw f a g) = if s1 = s0 then rn xs L 233 1605 [vS 1, vR 0, vR 44, vI l3] [] (mw f a g) else rn xs L 233 852 [vS 1, vR 0, vR 44, vI l3] [] (mw f a g) :=
  (r_eq (pg_of mt_233 dL_law_849 rfl))
theorem b233_852 (l3 : Int32) : rn xs L 233 852 [vS 1, vR 0, vR 44, vI l3] [] (mw f a g) = some (some (vI (0 : Int32)), (mw f a g)) :=
  (r_con (pg_of mt_233 dL_law_852 rfl) (v2 := (0 : Int32)) (by decide)).trans <|
  (r_rz (pg_of mt_233 dL_law_853 rfl) mt_233 rfl (Or.inl rfl))
theorem b233_854 (l3 : Int32) : rn xs L 233 854 [vS 1, vR 0, vR 44, vI l3] [] (mw f a g) = (ev xs L 81 4 [vR 0] (mw f a g)).bind (fun b => rn xs L 233 858 [vS 1, vR 0, vR 44, vI l3] (b.1.toList ++ []) b.2) :=
  (r_ald (pg_of mt_233 dL_law_854 rfl) rfl).trans <|
  (r_call (t := tt_233) (t2 := tt_81) (pg_of mt_233 dL_law_855 rfl) mt_233 mt_81 rfl rfl (rcv1 rfl) rfl rfl)
theorem b233_858 (l3 : Int32) (s0 : Int32) : rn xs L 233 858 [vS 1, vR 0, vR 44, vI l3] [vI s0] (mw f a g) = (ev xs L 175 5 [vR 44] (mw f a g)).bind (fun b => rn xs L 233 862 [vS 1, vR 0, vR 44, vI l3] (b.1.toList ++ [vI s0]) b.2) :=
  (r_ald (pg_of mt_233 dL_law_858 rfl) rfl).trans <|
  (r_call (t := tt_233) (t2 := tt_175) (pg_of mt_233 dL_law_859 rfl) mt_233 mt_175 rfl rfl (rcv1 rfl) rfl rfl)
theorem b233_862 (l3 : Int32) (s0 : Int32) (s1 : Int32) : rn xs L 233 862 [vS 1, vR 0, vR 44, vI l3] [vI s0, vI s1] (mw f a g) = if s1 = s0 then rn xs L 233 1605 [vS 1, vR 0, vR 44, vI l3] [] (mw f a g) else rn xs L 233 865 [vS 1, vR 0, vR 44, vI l3] [] (mw f a g) :=
  (r_eq (pg_of mt_233 dL_law_862 rfl))
theorem b233_865 (l3 : Int32) : rn xs L 233 865 [vS 1, vR 0, vR 44, vI l3] [] (mw f a g) = some (some (vI (0 : Int32)), (mw f a g)) :=
  (r_con (pg_of mt_233 dL_law_865 rfl) (v2 := (0 : Int32)) (by decide)).trans <|
  (r_rz (pg_of mt_233 dL_law_866 rfl) mt_233 rfl (Or.inl rfl))
theorem b233_867 (l3 : Int32) (h1 : ma_in ((l3 + (1 : Int32))) L = true) : rn xs L 233 867 [vS 1, vR 0, vR 44, vI l3] [] (mw f a g) = (ev xs L 82 6 [vR 0, vI (xs ((l3 + (1 : Int32))).toNatClampNeg)] (mw f a g)).bind (fun b => rn xs L 233 876 [vS 1, vR 0, vR 44, vI l3] (b.1.toList ++ []) b.2) :=
  (r_ald (pg_of mt_233 dL_law_867 rfl) rfl).trans <|
  (r_als (pg_of mt_233 dL_law_868 rfl) (Or.inl rfl) rfl).trans <|
  (r_ild (pg_of mt_233 dL_law_869 rfl) rfl).trans <|
  (r_con (pg_of mt_233 dL_law_870 rfl) (v2 := (1 : Int32)) (by decide)).trans <|
  (r_bin (pg_of mt_233 dL_law_871 rfl)).trans <|
  (r_sld (pg_of mt_233 dL_law_872 rfl) h1).trans <|
  (r_call (t := tt_233) (t2 := tt_82) (pg_of mt_233 dL_law_873 rfl) mt_233 mt_82 rfl rfl (rcv1 rfl) rfl rfl)
theorem b233_876 (l3 : Int32) (s0 : Int32) (h1 : ma_in ((l3 + (1 : Int32))) L = true) : rn xs L 233 876 [vS 1, vR 0, vR 44, vI l3] [vI s0] (mw f a g) = (ev xs L 176 2 [vR 44, vI (xs ((l3 + (1 : Int32))).toNatClampNeg)] (mw f a g)).bind (fun b => rn xs L 233 885 [vS 1, vR 0, vR 44, vI l3] (b.1.toList ++ [vI s0]) b.2) :=
  (r_ald (pg_of mt_233 dL_law_876 rfl) rfl).trans <|
  (r_als (pg_of mt_233 dL_law_877 rfl) (Or.inl rfl) rfl).trans <|
  (r_ild (pg_of mt_233 dL_law_878 rfl) rfl).trans <|
  (r_con (pg_of mt_233 dL_law_879 rfl) (v2 := (1 : Int32)) (by decide)).trans <|
  (r_bin (pg_of mt_233 dL_law_880 rfl)).trans <|
  (r_sld (pg_of mt_233 dL_law_881 rfl) h1).trans <|
  (r_call (t := tt_233) (t2 := tt_176) (pg_of mt_233 dL_law_882 rfl) mt_233 mt_176 rfl rfl (rcv1 rfl) rfl rfl)
theorem b233_885 (l3 : Int32) (s0 : Int32) (s1 : Int32) : rn xs L 233 885 [vS 1, vR 0, vR 44, vI l3] [vI s0, vI s1] (mw f a g) = if s1 = s0 then rn xs L 233 1605 [vS 1, vR 0, vR 44, vI l3] [] (mw f a g) else rn xs L 233 888 [vS 1, vR 0, vR 44, vI l3] [] (mw f a g) :=
  (r_eq (pg_of mt_233 dL_law_885 rfl))
theorem b233_888 (l3 : Int32) : rn xs L 233 888 [vS 1, vR 0, vR 44, vI l3] [] (mw f a g) = some (some (vI (0 : Int32)), (mw f a g)) :=
  (r_con (pg_of mt_233 dL_law_888 rfl) (v2 := (0 : Int32)) (by decide)).trans <|
  (r_rz (pg_of mt_233 dL_law_889 rfl) mt_233 rfl (Or.inl rfl))
theorem b233_890 (l3 : Int32) (h1 : ma_in ((l3 + (1 : Int32))) L = true) : rn xs L 233 890 [vS 1, vR 0, vR 44, vI l3] [] (mw f a g) = (ev xs L 83 6 [vR 0, vI (xs ((l3 + (1 : Int32))).toNatClampNeg)] (mw f a g)).bind (fun b => rn xs L 233 899 [vS 1, vR 0, vR 44, vI l3] (b.1.toList ++ []) b.2) :=
  (r_ald (pg_of mt_233 dL_law_890 rfl) rfl).trans <|
  (r_als (pg_of mt_233 dL_law_891 rfl) (Or.inl rfl) rfl).trans <|
  (r_ild (pg_of mt_233 dL_law_892 rfl) rfl).trans <|
  (r_con (pg_of mt_233 dL_law_893 rfl) (v2 := (1 : Int32)) (by decide)).trans <|
  (r_bin (pg_of mt_233 dL_law_894 rfl)).trans <|
  (r_sld (pg_of mt_233 dL_law_895 rfl) h1).trans <|
  (r_call (t := tt_233) (t2 := tt_83) (pg_of mt_233 dL_law_896 rfl) mt_233 mt_83 rfl rfl (rcv1 rfl) rfl rfl)
theorem b233_899 (l3 : Int32) (s0 : Int32) (h1 : ma_in ((l3 + (1 : Int32))) L = true) : rn xs L 233 899 [vS 1, vR 0, vR 44, vI l3] [vI s0] (mw f a g) = (ev xs L 178 2 [vR 44, vI (xs ((l3 + (1 : Int32))).toNatClampNeg)] (mw f a g)).bind (fun b => rn xs L 233 908 [vS 1, vR 0, vR 44, vI l3] (b.1.toList ++ [vI s0]) b.2) :=
  (r_ald (pg_of mt_233 dL_law_899 rfl) rfl).trans <|
  (r_als (pg_of mt_233 dL_law_900 rfl) (Or.inl rfl) rfl).trans <|
  (r_ild (pg_of mt_233 dL_law_901 rfl) rfl).trans <|
  (r_con (pg_of mt_233 dL_law_902 rfl) (v2 := (1 : Int32)) (by decide)).trans <|
  (r_bin (pg_of mt_233 dL_law_903 rfl)).trans <|
  (r_sld (pg_of mt_233 dL_law_904 rfl) h1).trans <|
  (r_call (t := tt_233) (t2 := tt_178) (pg_of mt_233 dL_law_905 rfl) mt_233 mt_178 rfl rfl (rcv1 rfl) rfl rfl)
theorem b233_908 (l3 : Int32) (s0 : Int32) (s1 : Int32) : rn xs L 233 908 [vS 1, vR 0, vR 44, vI l3] [vI s0, vI s1] (mw f a g) = if s1 = s0 then rn xs L 233 1605 [vS 1, vR 0, vR 44, vI l3] [] (mw f a g) else rn xs L 233 911 [vS 1, vR 0, vR 44, vI l3] [] (mw f a g) :=
  (r_eq (pg_of mt_233 dL_law_908 rfl))
theorem b233_911 (l3 : Int32) : rn xs L 233 911 [vS 1, vR 0, vR 44, vI l3] [] (mw f a g) = some (some (vI (0 : Int32)), (mw f a g)) :=
  (r_con (pg_of mt_233 dL_law_911 rfl) (v2 := (0 : Int32)) (by decide)).trans <|
  (r_rz (pg_of mt_233 dL_law_912 rfl) mt_233 rfl (Or.inl rfl))
theorem b233_913 (l3 : Int32) (h1 : ma_in ((l3 + (1 : Int32))) L = true) (h2 : ma_in ((l3 + (2 : Int32))) L = true) : rn xs L 233 913 [vS 1, vR 0, vR 44, vI l3] [] (mw f a g) = (ev xs L 84 4 [vR 0, vI (xs ((l3 + (1 : Int32))).toNatClampNeg), vI (xs ((l3 + (2 : Int32))).toNatClampNeg)] (mw f a g)).bind (fun b => rn xs L 233 927 [vS 1, vR 0, vR 44, vI l3] (b.1.toList ++ []) b.2) :=
  (r_ald (pg_of mt_233 dL_law_913 rfl) rfl).trans <|
  (r_als (pg_of mt_233 dL_law_914 rfl) (Or.inl rfl) rfl).trans <|
  (r_ild (pg_of mt_233 dL_law_915 rfl) rfl).trans <|
  (r_con (pg_of mt_233 dL_law_916 rfl) (v2 := (1 : Int32)) (by decide)).trans <|
  (r_bin (pg_of mt_233 dL_law_917 rfl)).trans <|
  (r_sld (pg_of mt_233 dL_law_918 rfl) h1).trans <|
  (r_als (pg_of mt_233 dL_law_919 rfl) (Or.inl rfl) rfl).trans <|
  (r_ild (pg_of mt_233 dL_law_920 rfl) rfl).trans <|
  (r_con (pg_of mt_233 dL_law_921 rfl) (v2 := (2 : Int32)) (by decide)).trans <|
  (r_bin (pg_of mt_233 dL_law_922 rfl)).trans <|
  (r_sld (pg_of mt_233 dL_law_923 rfl) h2).trans <|
  (r_call (t := tt_233) (t2 := tt_84) (pg_of mt_233 dL_law_924 rfl) mt_233 mt_84 rfl rfl (rcv1 rfl) rfl rfl)
theorem b233_927 (l3 : Int32) (s0 : Int32) (h1 : ma_in ((l3 + (1 : Int32))) L = true) (h2 : ma_in ((l3 + (2 : Int32))) L = true) : rn xs L 233 927 [vS 1, vR 0, vR 44, vI l3] [vI s0] (mw f a g) = (ev xs L 179 7 [vR 44, vI (xs ((l3 + (1 : Int32))).toNatClampNeg), vI (xs ((l3 + (2 : Int32))).toNatClampNeg)] (mw f a g)).bind (fun b => rn xs L 233 941 [vS 1, vR 0, vR 44, vI l3] (b.1.toList ++ [vI s0]) b.2) :=
  (r_ald (pg_of mt_233 dL_law_927 rfl) rfl).trans <|
  (r_als (pg_of mt_233 dL_law_928 rfl) (Or.inl rfl) rfl).trans <|
  (r_ild (pg_of mt_233 dL_law_929 rfl) rfl).trans <|
  (r_con (pg_of mt_233 dL_law_930 rfl) (v2 := (1 : Int32)) (by decide)).trans <|
  (r_bin (pg_of mt_233 dL_law_931 rfl)).trans <|
  (r_sld (pg_of mt_233 dL_law_932 rfl) h1).trans <|
  (r_als (pg_of mt_233 dL_law_933 rfl) (Or.inl rfl) rfl).trans <|
  (r_ild (pg_of mt_233 dL_law_934 rfl) rfl).trans <|
  (r_con (pg_of mt_233 dL_law_935 rfl) (v2 := (2 : Int32)) (by decide)).trans <|
  (r_bin (pg_of mt_233 dL_law_936 rfl)).trans <|
  (r_sld (pg_of mt_233 dL_law_937 rfl) h2).trans <|
  (r_call (t := tt_233) (t2 := tt_179) (pg_of mt_233 dL_law_938 rfl) mt_233 mt_179 rfl rfl (rcv1 rfl) rfl rfl)
theorem b233_941 (l3 : Int32) (s0 : Int32) (s1 : Int32) : rn xs L 233 941 [vS 1, vR 0, vR 44, vI l3] [vI s0, vI s1] (mw f a g) = if s1 = s0 then rn xs L 233 1605 [vS 1, vR 0, vR 44, vI l3] [] (mw f a g) else rn xs L 233 944 [vS 1, vR 0, vR 44, vI l3] [] (mw f a g) :=
  (r_eq (pg_of mt_233 dL_law_941 rfl))
theorem b233_944 (l3 : Int32) : rn xs L 233 944 [vS 1, vR 0, vR 44, vI l3] [] (mw f a g) = some (some (vI (0 : Int32)), (mw f a g)) :=
  (r_con (pg_of mt_233 dL_law_944 rfl) (v2 := (0 : Int32)) (by decide)).trans <|
  (r_rz (pg_of mt_233 dL_law_945 rfl) mt_233 rfl (Or.inl rfl))
theorem b233_946 (l3 : Int32) (h1 : ma_in ((l3 + (1 : Int32))) L = true) (h2 : ma_in ((l3 + (2 : Int32))) L = true) : rn xs L 233 946 [vS 1, vR 0, vR 44, vI l3] [] (mw f a g) = (ev xs L 86 7 [vR 0, vI (xs ((l3 + (1 : Int32))).toNatClampNeg), vI (xs ((l3 + (2 : Int32))).toNatClampNeg)] (mw f a g)).bind (fun b => rn xs L 233 960 [vS 1, vR 0, vR 44, vI l3] (b.1.toList ++ []) b.2) :=
  (r_ald (pg_of mt_233 dL_law_946 rfl) rfl).trans <|
  (r_als (pg_of mt_233 dL_law_947 rfl) (Or.inl rfl) rfl).trans <|
  (r_ild (pg_of mt_233 dL_law_948 rfl) rfl).trans <|
  (r_con (pg_of mt_233 dL_law_949 rfl) (v2 := (1 : Int32)) (by decide)).trans <|
  (r_bin (pg_of mt_233 dL_law_950 rfl)).trans <|
  (r_sld (pg_of mt_233 dL_law_951 rfl) h1).trans <|
  (r_als (pg_of mt_233 dL_law_952 rfl) (Or.inl rfl) rfl).trans <|
  (r_ild (pg_of mt_233 dL_law_953 rfl) rfl).trans <|
  (r_con (pg_of mt_233 dL_law_954 rfl) (v2 := (2 : Int32)) (by decide)).trans <|
  (r_bin (pg_of mt_233 dL_law_955 rfl)).trans <|
  (r_sld (pg_of mt_233 dL_law_956 rfl) h2).trans <|
  (r_call (t := tt_233) (t2 := tt_86) (pg_of mt_233 dL_law_957 rfl) mt_233 mt_86 rfl rfl (rcv1 rfl) rfl rfl)
theorem b233_960 (l3 : Int32) (s0 : Int32) (h1 : ma_in ((l3 + (1 : Int32))) L = true) (h2 : ma_in ((l3 + (2 : Int32))) L = true) : rn xs L 233 960 [vS 1, vR 0, vR 44, vI l3] [vI s0] (mw f a g) = (ev xs L 182 7 [vR 44, vI (xs ((l3 + (1 : Int32))).toNatClampNeg), vI (xs ((l3 + (2 : Int32))).toNatClampNeg)] (mw f a g)).bind (fun b => rn xs L 233 974 [vS 1, vR 0, vR 44, vI l3] (b.1.toList ++ [vI s0]) b.2) :=
  (r_ald (pg_of mt_233 dL_law_960 rfl) rfl).trans <|
  (r_als (pg_of mt_233 dL_law_961 rfl) (Or.inl rfl) rfl).trans <|
  (r_ild (pg_of mt_233 dL_law_962 rfl) rfl).trans <|
  (r_con (pg_of mt_233 dL_law_963 rfl) (v2 := (1 : Int32)) (by decide)).trans <|
  (r_bin (pg_of mt_233 dL_law_964 rfl)).trans <|
  (r_sld (pg_of mt_233 dL_law_965 rfl) h1).trans <|
  (r_als (pg_of mt_233 dL_law_966 rfl) (Or.inl rfl) rfl).trans <|
  (r_ild (pg_of mt_233 dL_law_967 rfl) rfl).trans <|
  (r_con (pg_of mt_233 dL_law_968 rfl) (v2 := (2 : Int32)) (by decide)).trans <|
  (r_bin (pg_of mt_233 dL_law_969 rfl)).trans <|
  (r_sld (pg_of mt_233 dL_law_970 rfl) h2).trans <|
  (r_call (t := tt_233) (t2 := tt_182) (pg_of mt_233 dL_law_971 rfl) mt_233 mt_182 rfl rfl (rcv1 rfl) rfl rfl)
theorem b233_974 (l3 : Int32) (s0 : Int32) (s1 : Int32) : rn xs L 233 974 [vS 1, vR 0, vR 44, vI l3] [vI s0, vI s1] (mw f a g) = if s1 = s0 then rn xs L 233 1605 [vS 1, vR 0, vR 44, vI l3] [] (mw f a g) else rn xs L 233 977 [vS 1, vR 0, vR 44, vI l3] [] (mw f a g) :=
  (r_eq (pg_of mt_233 dL_law_974 rfl))
theorem b233_977 (l3 : Int32) : rn xs L 233 977 [vS 1, vR 0, vR 44, vI l3] [] (mw f a g) = some (some (vI (0 : Int32)), (mw f a g)) :=
  (r_con (pg_of mt_233 dL_law_977 rfl) (v2 := (0 : Int32)) (by decide)).trans <|
  (r_rz (pg_of mt_233 dL_law_978 rfl) mt_233 rfl (Or.inl rfl))
theorem b233_979 (l3 : Int32) (h1 : ma_in ((l3 + (1 : Int32))) L = true) (h2 : ma_in ((l3 + (2 : Int32))) L = true) (h3 : ma_in ((l3 + (3 : Int32))) L = true) : rn xs L 233 979 [vS 1, vR 0, vR 44, vI l3] [] (mw f a g) = (ev xs L 87 7 [vR 0, vI (xs ((l3 + (1 : Int32))).toNatClampNeg), vI (xs ((l3 + (2 : Int32))).toNatClampNeg), vI (xs ((l3 + (3 : Int32))).toNatClampNeg)] (mw f a g)).bind (fun b => rn xs L 233 998 [vS 1, vR 0, vR 44, vI l3] (b.1.toList ++ []) b.2) :=
  (r_ald (pg_of mt_233 dL_law_979 rfl) rfl).trans <|
  (r_als (pg_of mt_233 dL_law_980 rfl) (Or.inl rfl) rfl).trans <|
  (r_ild (pg_of mt_233 dL_law_981 rfl) rfl).trans <|
  (r_con (pg_of mt_233 dL_law_982 rfl) (v2 := (1 : Int32)) (by decide)).trans <|
  (r_bin (pg_of mt_233 dL_law_983 rfl)).trans <|
  (r_sld (pg_of mt_233 dL_law_984 rfl) h1).trans <|
  (r_als (pg_of mt_233 dL_law_985 rfl) (Or.inl rfl) rfl).trans <|
  (r_ild (pg_of mt_233 dL_law_986 rfl) rfl).trans <|
  (r_con (pg_of mt_233 dL_law_987 rfl) (v2 := (2 : Int32)) (by decide)).trans <|
  (r_bin (pg_of mt_233 dL_law_988 rfl)).trans <|
  (r_sld (pg_of mt_233 dL_law_989 rfl) h2).trans <|
  (r_als (pg_of mt_233 dL_law_990 rfl) (Or.inl rfl) rfl).trans <|
  (r_ild (pg_of mt_233 dL_law_991 rfl) rfl).trans <|
  (r_con (pg_of mt_233 dL_law_992 rfl) (v2 := (3 : Int32)) (by decide)).trans <|
  (r_bin (pg_of mt_233 dL_law_993 rfl)).trans <|
  (r_sld (pg_of mt_233 dL_law_994 rfl) h3).trans <|
  (r_call (t := tt_233) (t2 := tt_87) (pg_of mt_233 dL_law_995 rfl) mt_233 mt_87 rfl rfl (rcv1 rfl) rfl rfl)
theorem b233_998 (l3 : Int32) (s0 : Int32) (h1 : ma_in ((l3 + (1 : Int32))) L = true) (h2 : ma_in ((l3 + (2 : Int32))) L = true) (h3 : ma_in ((l3 + (3 : Int32))) L = true) : rn xs L 233 998 [vS 1, vR 0, vR 44, vI l3] [vI s0] (mw f a g) = (ev xs L 183 10 [vR 44, vI (xs ((l3 + (1 : Int32))).toNatClampNeg), vI (xs ((l3 + (2 : Int32))).toNatClampNeg), vI (xs ((l3 + (3 : Int32))).toNatClampNeg)] (mw f a g)).bind (fun b => rn xs L 233 1017 [vS 1, vR 0, vR 44, vI l3] (b.1.toList ++ [vI s0]) b.2) :=
  (r_ald (pg_of mt_233 dL_law_998 rfl) rfl).trans <|
  (r_als (pg_of mt_233 dL_law_999 rfl) (Or.inl rfl) rfl).trans <|
  (r_ild (pg_of mt_233 dL_law_1000 rfl) rfl).trans <|
  (r_con (pg_of mt_233 dL_law_1001 rfl) (v2 := (1 : Int32)) (by decide)).trans <|
  (r_bin (pg_of mt_233 dL_law_1002 rfl)).trans <|
  (r_sld (pg_of mt_233 dL_law_1003 rfl) h1).trans <|
  (r_als (pg_of mt_233 dL_law_1004 rfl) (Or.inl rfl) rfl).trans <|
  (r_ild (pg_of mt_233 dL_law_1005 rfl) rfl).trans <|
  (r_con (pg_of mt_233 dL_law_1006 rfl) (v2 := (2 : Int32)) (by decide)).trans <|
  (r_bin (pg_of mt_233 dL_law_1007 rfl)).trans <|
  (r_sld (pg_of mt_233 dL_law_1008 rfl) h2).trans <|
  (r_als (pg_of mt_233 dL_law_1009 rfl) (Or.inl rfl) rfl).trans <|
  (r_ild (pg_of mt_233 dL_law_1010 rfl) rfl).trans <|
  (r_con (pg_of mt_233 dL_law_1011 rfl) (v2 := (3 : Int32)) (by decide)).trans <|
  (r_bin (pg_of mt_233 dL_law_1012 rfl)).trans <|
  (r_sld (pg_of mt_233 dL_law_1013 rfl) h3).trans <|
  (r_call (t := tt_233) (t2 := tt_183) (pg_of mt_233 dL_law_1014 rfl) mt_233 mt_183 rfl rfl (rcv1 rfl) rfl rfl)
theorem b233_1017 (l3 : Int32) (s0 : Int32) (s1 : Int32) : rn xs L 233 1017 [vS 1, vR 0, vR 44, vI l3] [vI s0, vI s1] (mw f a g) = if s1 = s0 then rn xs L 233 1605 [vS 1, vR 0, vR 44, vI l3] [] (mw f a g) else rn xs L 233 1020 [vS 1, vR 0, vR 44, vI l3] [] (mw f a g) :=
  (r_eq (pg_of mt_233 dL_law_1017 rfl))
theorem b233_1020 (l3 : Int32) : rn xs L 233 1020 [vS 1, vR 0, vR 44, vI l3] [] (mw f a g) = some (some (vI (0 : Int32)), (mw f a g)) :=
  (r_con (pg_of mt_233 dL_law_1020 rfl) (v2 := (0 : Int32)) (by decide)).trans <|
  (r_rz (pg_of mt_233 dL_law_1021 rfl) mt_233 rfl (Or.inl rfl))
theorem b233_1022 (l3 : Int32) (h1 : ma_in ((l3 + (1 : Int32))) L = true) (h2 : ma_in ((l3 + (2 : Int32))) L = true) (h3 : ma_in ((l3 + (3 : Int32))) L = true) : rn xs L 233 1022 [vS 1, vR 0, vR 44, vI l3] [] (mw f a g) = (ev xs L 89 11 [vR 0, vI (xs ((l3 + (1 : Int32))).toNatClampNeg), vI (xs ((l3 + (2 : Int32))).toNatClampNeg), vI (xs ((l3 + (3 : Int32))).toNatClampNeg)] (mw f a g)).bind (fun b => rn xs L 233 1041 [vS 1, vR 0, vR 44, vI l3] (b.1.toList ++ []) b.2) :=
  (r_ald (pg_of mt_233 dL_law_1022 rfl) rfl).trans <|
  (r_als (pg_of mt_233 dL_law_1023 rfl) (Or.inl rfl) rfl).trans <|
  (r_ild (pg_of mt_233 dL_law_1024 rfl) rfl).trans <|
  (r_con (pg_of mt_233 dL_law_1025 rfl) (v2 := (1 : Int32)) (by decide)).trans <|
  (r_bin (pg_of mt_233 dL_law_1026 rfl)).trans <|
  (r_sld (pg_of mt_233 dL_law_1027 rfl) h1).trans <|
  (r_als (pg_of mt_233 dL_law_1028 rfl) (Or.inl rfl) rfl).trans <|
  (r_ild (pg_of mt_233 dL_law_1029 rfl) rfl).trans <|
  (r_con (pg_of mt_233 dL_law_1030 rfl) (v2 := (2 : Int32)) (by decide)).trans <|
  (r_bin (pg_of mt_233 dL_law_1031 rfl)).trans <|
  (r_sld (pg_of mt_233 dL_law_1032 rfl) h2).trans <|
  (r_als (pg_of mt_233 dL_law_1033 rfl) (Or.inl rfl) rfl).trans <|
  (r_ild (pg_of mt_233 dL_law_1034 rfl) rfl).trans <|
  (r_con (pg_of mt_233 dL_law_1035 rfl) (v2 := (3 : Int32)) (by decide)).trans <|
  (r_bin (pg_of mt_233 dL_law_1036 rfl)).trans <|
  (r_sld (pg_of mt_233 dL_law_1037 rfl) h3).trans <|
  (r_call (t := tt_233) (t2 := tt_89) (pg_of mt_233 dL_law_1038 rfl) mt_233 mt_89 rfl rfl (rcv1 rfl) rfl rfl)
theorem b233_1041 (l3 : Int32) (s0 : Int64) (h1 : ma_in ((l3 + (1 : Int32))) L = true) (h2 : ma_in ((l3 + (2 : Int32))) L = true) (h3 : ma_in ((l3 + (3 : Int32))) L = true) : rn xs L 233 1041 [vS 1, vR 0, vR 44, vI l3] [vL s0] (mw f a g) = (ev xs L 186 9 [vR 44, vI (xs ((l3 + (1 : Int32))).toNatClampNeg), vI (xs ((l3 + (2 : Int32))).toNatClampNeg), vI (xs ((l3 + (3 : Int32))).toNatClampNeg)] (mw f a g)).bind (fun b => rn xs L 233 1060 [vS 1, vR 0, vR 44, vI l3] (b.1.toList ++ [vL s0]) b.2) :=
  (r_ald (pg_of mt_233 dL_law_1041 rfl) rfl).trans <|
  (r_als (pg_of mt_233 dL_law_1042 rfl) (Or.inl rfl) rfl).trans <|
  (r_ild (pg_of mt_233 dL_law_1043 rfl) rfl).trans <|
  (r_con (pg_of mt_233 dL_law_1044 rfl) (v2 := (1 : Int32)) (by decide)).trans <|
  (r_bin (pg_of mt_233 dL_law_1045 rfl)).trans <|
  (r_sld (pg_of mt_233 dL_law_1046 rfl) h1).trans <|
  (r_als (pg_of mt_233 dL_law_1047 rfl) (Or.inl rfl) rfl).trans <|
  (r_ild (pg_of mt_233 dL_law_1048 rfl) rfl).trans <|
  (r_con (pg_of mt_233 dL_law_1049 rfl) (v2 := (2 : Int32)) (by decide)).trans <|
  (r_bin (pg_of mt_233 dL_law_1050 rfl)).trans <|
  (r_sld (pg_of mt_233 dL_law_1051 rfl) h2).trans <|
  (r_als (pg_of mt_233 dL_law_1052 rfl) (Or.inl rfl) rfl).trans <|
  (r_ild (pg_of mt_233 dL_law_1053 rfl) rfl).trans <|
  (r_con (pg_of mt_233 dL_law_1054 rfl) (v2 := (3 : Int32)) (by decide)).trans <|
  (r_bin (pg_of mt_233 dL_law_1055 rfl)).trans <|
  (r_sld (pg_of mt_233 dL_law_1056 rfl) h3).trans <|
  (r_call (t := tt_233) (t2 := tt_186) (pg_of mt_233 dL_law_1057 rfl) mt_233 mt_186 rfl rfl (rcv1 rfl) rfl rfl)
theorem b233_1060 (l3 : Int32) (s0 : Int64) (s1 : Int64) : rn xs L 233 1060 [vS 1, vR 0, vR 44, vI l3] [vL s0, vL s1] (mw f a g) = if (lg_cmp s1 s0) = 0 then rn xs L 233 1605 [vS 1, vR 0, vR 44, vI l3] [] (mw f a g) else rn xs L 233 1064 [vS 1, vR 0, vR 44, vI l3] [] (mw f a g) :=
  (r_lcp (pg_of mt_233 dL_law_1060 rfl)).trans <|
  (r_eq0 (pg_of mt_233 dL_law_1061 rfl))
theorem b233_1064 (l3 : Int32) : rn xs L 233 1064 [vS 1, vR 0, vR 44, vI l3] [] (mw f a g) = some (some (vI (0 : Int32)), (mw f a g)) :=
  (r_con (pg_of mt_233 dL_law_1064 rfl) (v2 := (0 : Int32)) (by decide)).trans <|
  (r_rz (pg_of mt_233 dL_law_1065 rfl) mt_233 rfl (Or.inl rfl))
theorem b233_1066 (l3 : Int32) (h1 : ma_in ((l3 + (1 : Int32))) L = true) (h2 : ma_in ((l3 + (2 : Int32))) L = true) : rn xs L 233 1066 [vS 1, vR 0, vR 44, vI l3] [] (mw f a g) = (ev xs L 92 3 [vR 0, vI (xs ((l3 + (1 : Int32))).toNatClampNeg), vI (xs ((l3 + (2 : Int32))).toNatClampNeg)] (mw f a g)).bind (fun b => rn xs L 233 1080 [vS 1, vR 0, vR 44, vI l3] (b.1.toList ++ []) b.2) :=
  (r_ald (pg_of mt_233 dL_law_1066 rfl) rfl).trans <|
  (r_als (pg_of mt_233 dL_law_1067 rfl) (Or.inl rfl) rfl).trans <|
  (r_ild (pg_of mt_233 dL_law_1068 rfl) rfl).trans <|
  (r_con (pg_of mt_233 dL_law_1069 rfl) (v2 := (1 : Int32)) (by decide)).trans <|
  (r_bin (pg_of mt_233 dL_law_1070 rfl)).trans <|
  (r_sld (pg_of mt_233 dL_law_1071 rfl) h1).trans <|
  (r_als (pg_of mt_233 dL_law_1072 rfl) (Or.inl rfl) rfl).trans <|
  (r_ild (pg_of mt_233 dL_law_1073 rfl) rfl).trans <|
  (r_con (pg_of mt_233 dL_law_1074 rfl) (v2 := (2 : Int32)) (by decide)).trans <|
  (r_bin (pg_of mt_233 dL_law_1075 rfl)).trans <|
  (r_sld (pg_of mt_233 dL_law_1076 rfl) h2).trans <|
  (r_call (t := tt_233) (t2 := tt_92) (pg_of mt_233 dL_law_1077 rfl) mt_233 mt_92 rfl rfl (rcv1 rfl) rfl rfl)
theorem b233_1080 (l3 : Int32) (s0 : Int64) (h1 : ma_in ((l3 + (1 : Int32))) L = true) (h2 : ma_in ((l3 + (2 : Int32))) L = true) : rn xs L 233 1080 [vS 1, vR 0, vR 44, vI l3] [vL s0] (mw f a g) = (ev xs L 189 3 [vR 44, vI (xs ((l3 + (1 : Int32))).toNatClampNeg), vI (xs ((l3 + (2 : Int32))).toNatClampNeg)] (mw f a g)).bind (fun b => rn xs L 233 1094 [vS 1, vR 0, vR 44, vI l3] (b.1.toList ++ [vL s0]) b.2) :=
  (r_ald (pg_of mt_233 dL_law_1080 rfl) rfl).trans <|
  (r_als (pg_of mt_233 dL_law_1081 rfl) (Or.inl rfl) rfl).trans <|
  (r_ild (pg_of mt_233 dL_law_1082 rfl) rfl).trans <|
  (r_con (pg_of mt_233 dL_law_1083 rfl) (v2 := (1 : Int32)) (by decide)).trans <|
  (r_bin (pg_of mt_233 dL_law_1084 rfl)).trans <|
  (r_sld (pg_of mt_233 dL_law_1085 rfl) h1).trans <|
  (r_als (pg_of mt_233 dL_law_1086 rfl) (Or.inl rfl) rfl).trans <|
  (r_ild (pg_of mt_233 dL_law_1087 rfl) rfl).trans <|
  (r_con (pg_of mt_233 dL_law_1088 rfl) (v2 := (2 : Int32)) (by decide)).trans <|
  (r_bin (pg_of mt_233 dL_law_1089 rfl)).trans <|
  (r_sld (pg_of mt_233 dL_law_1090 rfl) h2).trans <|
  (r_call (t := tt_233) (t2 := tt_189) (pg_of mt_233 dL_law_1091 rfl) mt_233 mt_189 rfl rfl (rcv1 rfl) rfl rfl)
theorem b233_1094 (l3 : Int32) (s0 : Int64) (s1 : Int64) : rn xs L 233 1094 [vS 1, vR 0, vR 44, vI l3] [vL s0, vL s1] (mw f a g) = if (lg_cmp s1 s0) = 0 then rn xs L 233 1605 [vS 1, vR 0, vR 44, vI l3] [] (mw f a g) else rn xs L 233 1098 [vS 1, vR 0, vR 44, vI l3] [] (mw f a g) :=
  (r_lcp (pg_of mt_233 dL_law_1094 rfl)).trans <|
  (r_eq0 (pg_of mt_233 dL_law_1095 rfl))
theorem b233_1098 (l3 : Int32) : rn xs L 233 1098 [vS 1, vR 0, vR 44, vI l3] [] (mw f a g) = some (some (vI (0 : Int32)), (mw f a g)) :=
  (r_con (pg_of mt_233 dL_law_1098 rfl) (v2 := (0 : Int32)) (by decide)).trans <|
  (r_rz (pg_of mt_233 dL_law_1099 rfl) mt_233 rfl (Or.inl rfl))
theorem b233_1100 (l3 : Int32) (h1 : ma_in ((l3 + (1 : Int32))) L = true) (h2 : ma_in ((l3 + (2 : Int32))) L = true) : rn xs L 233 1100 [vS 1, vR 0, vR 44, vI l3] [] (mw f a g) = (ev xs L 93 5 [vR 0, vI (xs ((l3 + (1 : Int32))).toNatClampNeg), vI (xs ((l3 + (2 : Int32))).toNatClampNeg)] (mw f a g)).bind (fun b => rn xs L 233 1114 [vS 1, vR 0, vR 44, vI l3] (b.1.toList ++ []) b.2) :=
  (r_ald (pg_of mt_233 dL_law_1100 rfl) rfl).trans <|
  (r_als (pg_of mt_233 dL_law_1101 rfl) (Or.inl rfl) rfl).trans <|
  (r_ild (pg_of mt_233 dL_law_1102 rfl) rfl).trans <|
  (r_con (pg_of mt_233 dL_law_1103 rfl) (v2 := (1 : Int32)) (by decide)).trans <|
  (r_bin (pg_of mt_233 dL_law_1104 rfl)).trans <|
  (r_sld (pg_of mt_233 dL_law_1105 rfl) h1).trans <|
  (r_als (pg_of mt_233 dL_law_1106 rfl) (Or.inl rfl) rfl).trans <|
  (r_ild (pg_of mt_233 dL_law_1107 rfl) rfl).trans <|
  (r_con (pg_of mt_233 dL_law_1108 rfl) (v2 := (2 : Int32)) (by decide)).trans <|
  (r_bin (pg_of mt_233 dL_law_1109 rfl)).trans <|
  (r_sld (pg_of mt_233 dL_law_1110 rfl) h2).trans <|
  (r_call (t := tt_233) (t2 := tt_93) (pg_of mt_233 dL_law_1111 rfl) mt_233 mt_93 rfl rfl (rcv1 rfl) rfl rfl)
theorem b233_1114 (l3 : Int32) (s0 : Int32) (h1 : ma_in ((l3 + (1 : Int32))) L = true) (h2 : ma_in ((l3 + (2 : Int32))) L = true) : rn xs L 233 1114 [vS 1, vR 0, vR 44, vI l3] [vI s0] (mw f a g) = (ev xs L 190 5 [vR 44, vI (xs ((l3 + (1 : Int32))).toNatClampNeg), vI (xs ((l3 + (2 : Int32))).toNatClampNeg)] (mw f a g)).bind (fun b => rn xs L 233 1128 [vS 1, vR 0, vR 44, vI l3] (b.1.toList ++ [vI s0]) b.2) :=
  (r_ald (pg_of mt_233 dL_law_1114 rfl) rfl).trans <|
  (r_als (pg_of mt_233 dL_law_1115 rfl) (Or.inl rfl) rfl).trans <|
  (r_ild (pg_of mt_233 dL_law_1116 rfl) rfl).trans <|
  (r_con (pg_of mt_233 dL_law_1117 rfl) (v2 := (1 : Int32)) (by decide)).trans <|
  (r_bin (pg_of mt_233 dL_law_1118 rfl)).trans <|
  (r_sld (pg_of mt_233 dL_law_1119 rfl) h1).trans <|
  (r_als (pg_of mt_233 dL_law_1120 rfl) (Or.inl rfl) rfl).trans <|
  (r_ild (pg_of mt_233 dL_law_1121 rfl) rfl).trans <|
  (r_con (pg_of mt_233 dL_law_1122 rfl) (v2 := (2 : Int32)) (by decide)).trans <|
  (r_bin (pg_of mt_233 dL_law_1123 rfl)).trans <|
  (r_sld (pg_of mt_233 dL_law_1124 rfl) h2).trans <|
  (r_call (t := tt_233) (t2 := tt_190) (pg_of mt_233 dL_law_1125 rfl) mt_233 mt_190 rfl rfl (rcv1 rfl) rfl rfl)
theorem b233_1128 (l3 : Int32) (s0 : Int32) (s1 : Int32) : rn xs L 233 1128 [vS 1, vR 0, vR 44, vI l3] [vI s0, vI s1] (mw f a g) = if s1 = s0 then rn xs L 233 1605 [vS 1, vR 0, vR 44, vI l3] [] (mw f a g) else rn xs L 233 1131 [vS 1, vR 0, vR 44, vI l3] [] (mw f a g) :=
  (r_eq (pg_of mt_233 dL_law_1128 rfl))
theorem b233_1131 (l3 : Int32) : rn xs L 233 1131 [vS 1, vR 0, vR 44, vI l3] [] (mw f a g) = some (some (vI (0 : Int32)), (mw f a g)) :=
  (r_con (pg_of mt_233 dL_law_1131 rfl) (v2 := (0 : Int32)) (by decide)).trans <|
  (r_rz (pg_of mt_233 dL_law_1132 rfl) mt_233 rfl (Or.inl rfl))
theorem b233_1133 (l3 : Int32) (h1 : ma_in ((l3 + (1 : Int32))) L = true) (h2 : ma_in ((l3 + (2 : Int32))) L = true) : rn xs L 233 1133 [vS 1, vR 0, vR 44, vI l3] [] (mw f a g) = (ev xs L 95 3 [vR 0, vI (xs ((l3 + (1 : Int32))).toNatClampNeg), vI (xs ((l3 + (2 : Int32))).toNatClampNeg)] (mw f a g)).bind (fun b => rn xs L 233 1147 [vS 1, vR 0, vR 44, vI l3] (b.1.toList ++ []) b.2) :=
  (r_ald (pg_of mt_233 dL_law_1133 rfl) rfl).trans <|
  (r_als (pg_of mt_233 dL_law_1134 rfl) (Or.inl rfl) rfl).trans <|
  (r_ild (pg_of mt_233 dL_law_1135 rfl) rfl).trans <|
  (r_con (pg_of mt_233 dL_law_1136 rfl) (v2 := (1 : Int32)) (by decide)).trans <|
  (r_bin (pg_of mt_233 dL_law_1137 rfl)).trans <|
  (r_sld (pg_of mt_233 dL_law_1138 rfl) h1).trans <|
  (r_als (pg_of mt_233 dL_law_1139 rfl) (Or.inl rfl) rfl).trans <|
  (r_ild (pg_of mt_233 dL_law_1140 rfl) rfl).trans <|
  (r_con (pg_of mt_233 dL_law_1141 rfl) (v2 := (2 : Int32)) (by decide)).trans <|
  (r_bin (pg_of mt_233 dL_law_1142 rfl)).trans <|
  (r_sld (pg_of mt_233 dL_law_1143 rfl) h2).trans <|
  (r_call (t := tt_233) (t2 := tt_95) (pg_of mt_233 dL_law_1144 rfl) mt_233 mt_95 rfl rfl (rcv1 rfl) rfl rfl)
theorem b233_1147 (l3 : Int32) (s0 : Int32) (h1 : ma_in ((l3 + (1 : Int32))) L = true) (h2 : ma_in ((l3 + (2 : Int32))) L = true) : rn xs L 233 1147 [vS 1, vR 0, vR 44, vI l3] [vI s0] (mw f a g) = (ev xs L 191 3 [vR 44, vI (xs ((l3 + (1 : Int32))).toNatClampNeg), vI (xs ((l3 + (2 : Int32))).toNatClampNeg)] (mw f a g)).bind (fun b => rn xs L 233 1161 [vS 1, vR 0, vR 44, vI l3] (b.1.toList ++ [vI s0]) b.2) :=
  (r_ald (pg_of mt_233 dL_law_1147 rfl) rfl).trans <|
  (r_als (pg_of mt_233 dL_law_1148 rfl) (Or.inl rfl) rfl).trans <|
  (r_ild (pg_of mt_233 dL_law_1149 rfl) rfl).trans <|
  (r_con (pg_of mt_233 dL_law_1150 rfl) (v2 := (1 : Int32)) (by decide)).trans <|
  (r_bin (pg_of mt_233 dL_law_1151 rfl)).trans <|
  (r_sld (pg_of mt_233 dL_law_1152 rfl) h1).trans <|
  (r_als (pg_of mt_233 dL_law_1153 rfl) (Or.inl rfl) rfl).trans <|
  (r_ild (pg_of mt_233 dL_law_1154 rfl) rfl).trans <|
  (r_con (pg_of mt_233 dL_law_1155 rfl) (v2 := (2 : Int32)) (by decide)).trans <|
  (r_bin (pg_of mt_233 dL_law_1156 rfl)).trans <|
  (r_sld (pg_of mt_233 dL_law_1157 rfl) h2).trans <|
  (r_call (t := tt_233) (t2 := tt_191) (pg_of mt_233 dL_law_1158 rfl) mt_233 mt_191 rfl rfl (rcv1 rfl) rfl rfl)
theorem b233_1161 (l3 : Int32) (s0 : Int32) (s1 : Int32) : rn xs L 233 1161 [vS 1, vR 0, vR 44, vI l3] [vI s0, vI s1] (mw f a g) = if s1 = s0 then rn xs L 233 1605 [vS 1, vR 0, vR 44, vI l3] [] (mw f a g) else rn xs L 233 1164 [vS 1, vR 0, vR 44, vI l3] [] (mw f a g) :=
  (r_eq (pg_of mt_233 dL_law_1161 rfl))
theorem b233_1164 (l3 : Int32) : rn xs L 233 1164 [vS 1, vR 0, vR 44, vI l3] [] (mw f a g) = some (some (vI (0 : Int32)), (mw f a g)) :=
  (r_con (pg_of mt_233 dL_law_1164 rfl) (v2 := (0 : Int32)) (by decide)).trans <|
  (r_rz (pg_of mt_233 dL_law_1165 rfl) mt_233 rfl (Or.inl rfl))
theorem b233_1166 (l3 : Int32) (h1 : ma_in ((l3 + (1 : Int32))) L = true) (h2 : ma_in ((l3 + (2 : Int32))) L = true) (h3 : ma_in ((l3 + (3 : Int32))) L = true) : rn xs L 233 1166 [vS 1, vR 0, vR 44, vI l3] [] (mw f a g) = (ev xs L 97 5 [vR 0, vI (xs ((l3 + (1 : Int32))).toNatClampNeg), vI (xs ((l3 + (2 : Int32))).toNatClampNeg), vI (xs ((l3 + (3 : Int32))).toNatClampNeg)] (mw f a g)).bind (fun b => rn xs L 233 1185 [vS 1, vR 0, vR 44, vI l3] (b.1.toList ++ []) b.2) :=
  (r_ald (pg_of mt_233 dL_law_1166 rfl) rfl).trans <|
  (r_als (pg_of mt_233 dL_law_1167 rfl) (Or.inl rfl) rfl).trans <|
  (r_ild (pg_of mt_233 dL_law_1168 rfl) rfl).trans <|
  (r_con (pg_of mt_233 dL_law_1169 rfl) (v2 := (1 : Int32)) (by decide)).trans <|
  (r_bin (pg_of mt_233 dL_law_1170 rfl)).trans <|
  (r_sld (pg_of mt_233 dL_law_1171 rfl) h1).trans <|
  (r_als (pg_of mt_233 dL_law_1172 rfl) (Or.inl rfl) rfl).trans <|
  (r_ild (pg_of mt_233 dL_law_1173 rfl) rfl).trans <|
  (r_con (pg_of mt_233 dL_law_1174 rfl) (v2 := (2 : Int32)) (by decide)).trans <|
  (r_bin (pg_of mt_233 dL_law_1175 rfl)).trans <|
  (r_sld (pg_of mt_233 dL_law_1176 rfl) h2).trans <|
  (r_als (pg_of mt_233 dL_law_1177 rfl) (Or.inl rfl) rfl).trans <|
  (r_ild (pg_of mt_233 dL_law_1178 rfl) rfl).trans <|
  (r_con (pg_of mt_233 dL_law_1179 rfl) (v2 := (3 : Int32)) (by decide)).trans <|
  (r_bin (pg_of mt_233 dL_law_1180 rfl)).trans <|
  (r_sld (pg_of mt_233 dL_law_1181 rfl) h3).trans <|
  (r_call (t := tt_233) (t2 := tt_97) (pg_of mt_233 dL_law_1182 rfl) mt_233 mt_97 rfl rfl (rcv1 rfl) rfl rfl)
theorem b233_1185 (l3 : Int32) (s0 : Int32) (h1 : ma_in ((l3 + (1 : Int32))) L = true) (h2 : ma_in ((l3 + (2 : Int32))) L = true) (h3 : ma_in ((l3 + (3 : Int32))) L = true) : rn xs L 233 1185 [vS 1, vR 0, vR 44, vI l3] [vI s0] (mw f a g) = (ev xs L 193 5 [vR 44, vI (xs ((l3 + (1 : Int32))).toNatClampNeg), vI (xs ((l3 + (2 : Int32))).toNatClampNeg), vI (xs ((l3 + (3 : Int32))).toNatClampNeg)] (mw f a g)).bind (fun b => rn xs L 233 1204 [vS 1, vR 0, vR 44, vI l3] (b.1.toList ++ [vI s0]) b.2) :=
  (r_ald (pg_of mt_233 dL_law_1185 rfl) rfl).trans <|
  (r_als (pg_of mt_233 dL_law_1186 rfl) (Or.inl rfl) rfl).trans <|
  (r_ild (pg_of mt_233 dL_law_1187 rfl) rfl).trans <|
  (r_con (pg_of mt_233 dL_law_1188 rfl) (v2 := (1 : Int32)) (by decide)).trans <|
  (r_bin (pg_of mt_233 dL_law_1189 rfl)).trans <|
  (r_sld (pg_of mt_233 dL_law_1190 rfl) h1).trans <|
  (r_als (pg_of mt_233 dL_law_1191 rfl) (Or.inl rfl) rfl).trans <|
  (r_ild (pg_of mt_233 dL_law_1192 rfl) rfl).trans <|
  (r_con (pg_of mt_233 dL_law_1193 rfl) (v2 := (2 : Int32)) (by decide)).trans <|
  (r_bin (pg_of mt_233 dL_law_1194 rfl)).trans <|
  (r_sld (pg_of mt_233 dL_law_1195 rfl) h2).trans <|
  (r_als (pg_of mt_233 dL_law_1196 rfl) (Or.inl rfl) rfl).trans <|
  (r_ild (pg_of mt_233 dL_law_1197 rfl) rfl).trans <|
  (r_con (pg_of mt_233 dL_law_1198 rfl) (v2 := (3 : Int32)) (by decide)).trans <|
  (r_bin (pg_of mt_233 dL_law_1199 rfl)).trans <|
  (r_sld (pg_of mt_233 dL_law_1200 rfl) h3).trans <|
  (r_call (t := tt_233) (t2 := tt_193) (pg_of mt_233 dL_law_1201 rfl) mt_233 mt_193 rfl rfl (rcv1 rfl) rfl rfl)
theorem b233_1204 (l3 : Int32) (s0 : Int32) (s1 : Int32) : rn xs L 233 1204 [vS 1, vR 0, vR 44, vI l3] [vI s0, vI s1] (mw f a g) = if s1 = s0 then rn xs L 233 1605 [vS 1, vR 0, vR 44, vI l3] [] (mw f a g) else rn xs L 233 1207 [vS 1, vR 0, vR 44, vI l3] [] (mw f a g) :=
  (r_eq (pg_of mt_233 dL_law_1204 rfl))
theorem b233_1207 (l3 : Int32) : rn xs L 233 1207 [vS 1, vR 0, vR 44, vI l3] [] (mw f a g) = some (some (vI (0 : Int32)), (mw f a g)) :=
  (r_con (pg_of mt_233 dL_law_1207 rfl) (v2 := (0 : Int32)) (by decide)).trans <|
  (r_rz (pg_of mt_233 dL_law_1208 rfl) mt_233 rfl (Or.inl rfl))
theorem b233_1209 (l3 : Int32) (h1 : ma_in ((l3 + (1 : Int32))) L = true) : rn xs L 233 1209 [vS 1, vR 0, vR 44, vI l3] [] (mw f a g) = (ev xs L 98 4 [vR 0, vI (xs ((l3 + (1 : Int32))).toNatClampNeg)] (mw f a g)).bind (fun b => rn xs L 233 1218 [vS 1, vR 0, vR 44, vI l3] (b.1.toList ++ []) b.2) :=
  (r_ald (pg_of mt_233 dL_law_1209 rfl) rfl).trans <|
  (r_als (pg_of mt_233 dL_law_1210 rfl) (Or.inl rfl) rfl).trans <|
  (r_ild (pg_of mt_233 dL_law_1211 rfl) rfl).trans <|
  (r_con (pg_of mt_233 dL_law_1212 rfl) (v2 := (1 : Int32)) (by decide)).trans <|
  (r_bin (pg_of mt_233 dL_law_1213 rfl)).trans <|
  (r_sld (pg_of mt_233 dL_law_1214 rfl) h1).trans <|
  (r_call (t := tt_233) (t2 := tt_98) (pg_of mt_233 dL_law_1215 rfl) mt_233 mt_98 rfl rfl (rcv1 rfl) rfl rfl)
theorem b233_1218 (l3 : Int32) (s0 : Int32) (h1 : ma_in ((l3 + (1 : Int32))) L = true) : rn xs L 233 1218 [vS 1, vR 0, vR 44, vI l3] [vI s0] (mw f a g) = (ev xs L 194 5 [vR 44, vI (xs ((l3 + (1 : Int32))).toNatClampNeg)] (mw f a g)).bind (fun b => rn xs L 233 1227 [vS 1, vR 0, vR 44, vI l3] (b.1.toList ++ [vI s0]) b.2) :=
  (r_ald (pg_of mt_233 dL_law_1218 rfl) rfl).trans <|
  (r_als (pg_of mt_233 dL_law_1219 rfl) (Or.inl rfl) rfl).trans <|
  (r_ild (pg_of mt_233 dL_law_1220 rfl) rfl).trans <|
  (r_con (pg_of mt_233 dL_law_1221 rfl) (v2 := (1 : Int32)) (by decide)).trans <|
  (r_bin (pg_of mt_233 dL_law_1222 rfl)).trans <|
  (r_sld (pg_of mt_233 dL_law_1223 rfl) h1).trans <|
  (r_call (t := tt_233) (t2 := tt_194) (pg_of mt_233 dL_law_1224 rfl) mt_233 mt_194 rfl rfl (rcv1 rfl) rfl rfl)
theorem b233_1227 (l3 : Int32) (s0 : Int32) (s1 : Int32) : rn xs L 233 1227 [vS 1, vR 0, vR 44, vI l3] [vI s0, vI s1] (mw f a g) = if s1 = s0 then rn xs L 233 1605 [vS 1, vR 0, vR 44, vI l3] [] (mw f a g) else rn xs L 233 1230 [vS 1, vR 0, vR 44, vI l3] [] (mw f a g) :=
  (r_eq (pg_of mt_233 dL_law_1227 rfl))
theorem b233_1230 (l3 : Int32) : rn xs L 233 1230 [vS 1, vR 0, vR 44, vI l3] [] (mw f a g) = some (some (vI (0 : Int32)), (mw f a g)) :=
  (r_con (pg_of mt_233 dL_law_1230 rfl) (v2 := (0 : Int32)) (by decide)).trans <|
  (r_rz (pg_of mt_233 dL_law_1231 rfl) mt_233 rfl (Or.inl rfl))
theorem b233_1232 (l3 : Int32) (h1 : ma_in ((l3 + (1 : Int32))) L = true) (h2 : ma_in ((l3 + (2 : Int32))) L = true) (h3 : ma_in ((l3 + (3 : Int32))) L = true) (h4 : ma_in ((l3 + (4 : Int32))) L = true) : rn xs L 233 1232 [vS 1, vR 0, vR 44, vI l3] [] (mw f a g) = (ev xs L 99 7 [vR 0, vI (xs ((l3 + (1 : Int32))).toNatClampNeg), vI (xs ((l3 + (2 : Int32))).toNatClampNeg), vI (xs ((l3 + (3 : Int32))).toNatClampNeg), vI (xs ((l3 + (4 : Int32))).toNatClampNeg)] (mw f a g)).bind (fun b => rn xs L 233 1256 [vS 1, vR 0, vR 44, vI l3] (b.1.toList ++ []) b.2) :=
  (r_ald (pg_of mt_233 dL_law_1232 rfl) rfl).trans <|
  (r_als (pg_of mt_233 dL_law_1233 rfl) (Or.inl rfl) rfl).trans <|
  (r_ild (pg_of mt_233 dL_law_1234 rfl) rfl).trans <|
  (r_con (pg_of mt_233 dL_law_1235 rfl) (v2 := (1 : Int32)) (by decide)).trans <|
  (r_bin (pg_of mt_233 dL_law_1236 rfl)).trans <|
  (r_sld (pg_of mt_233 dL_law_1237 rfl) h1).trans <|
  (r_als (pg_of mt_233 dL_law_1238 rfl) (Or.inl rfl) rfl).trans <|
  (r_ild (pg_of mt_233 dL_law_1239 rfl) rfl).trans <|
  (r_con (pg_of mt_233 dL_law_1240 rfl) (v2 := (2 : Int32)) (by decide)).trans <|
  (r_bin (pg_of mt_233 dL_law_1241 rfl)).trans <|
  (r_sld (pg_of mt_233 dL_law_1242 rfl) h2).trans <|
  (r_als (pg_of mt_233 dL_law_1243 rfl) (Or.inl rfl) rfl).trans <|
  (r_ild (pg_of mt_233 dL_law_1244 rfl) rfl).trans <|
  (r_con (pg_of mt_233 dL_law_1245 rfl) (v2 := (3 : Int32)) (by decide)).trans <|
  (r_bin (pg_of mt_233 dL_law_1246 rfl)).trans <|
  (r_sld (pg_of mt_233 dL_law_1247 rfl) h3).trans <|
  (r_als (pg_of mt_233 dL_law_1248 rfl) (Or.inl rfl) rfl).trans <|
  (r_ild (pg_of mt_233 dL_law_1249 rfl) rfl).trans <|
  (r_con (pg_of mt_233 dL_law_1250 rfl) (v2 := (4 : Int32)) (by decide)).trans <|
  (r_bin (pg_of mt_233 dL_law_1251 rfl)).trans <|
  (r_sld (pg_of mt_233 dL_law_1252 rfl) h4).trans <|
  (r_call (t := tt_233) (t2 := tt_99) (pg_of mt_233 dL_law_1253 rfl) mt_233 mt_99 rfl rfl (rcv1 rfl) rfl rfl)
theorem b233_1256 (l3 : Int32) (s0 : Int32) (h1 : ma_in ((l3 + (1 : Int32))) L = true) (h2 : ma_in ((l3 + (2 : Int32))) L = true) (h3 : ma_in ((l3 + (3 : Int32))) L = true) (h4 : ma_in ((l3 + (4 : Int32))) L = true) : rn xs L 233 1256 [vS 1, vR 0, vR 44, vI l3] [vI s0] (mw f a g) = (ev xs L 199 6 [vR 44, vI (xs ((l3 + (1 : Int32))).toNatClampNeg), vI (xs ((l3 + (2 : Int32))).toNatClampNeg), vI (xs ((l3 + (3 : Int32))).toNatClampNeg), vI (xs ((l3 + (4 : Int32))).toNatClampNeg)] (mw f a g)).bind (fun b => rn xs L 233 1280 [vS 1, vR 0, vR 44, vI l3] (b.1.toList ++ [vI s0]) b.2) :=
  (r_ald (pg_of mt_233 dL_law_1256 rfl) rfl).trans <|
  (r_als (pg_of mt_233 dL_law_1257 rfl) (Or.inl rfl) rfl).trans <|
  (r_ild (pg_of mt_233 dL_law_1258 rfl) rfl).trans <|
  (r_con (pg_of mt_233 dL_law_1259 rfl) (v2 := (1 : Int32)) (by decide)).trans <|
  (r_bin (pg_of mt_233 dL_law_1260 rfl)).trans <|
  (r_sld (pg_of mt_233 dL_law_1261 rfl) h1).trans <|
  (r_als (pg_of mt_233 dL_law_1262 rfl) (Or.inl rfl) rfl).trans <|
  (r_ild (pg_of mt_233 dL_law_1263 rfl) rfl).trans <|
  (r_con (pg_of mt_233 dL_law_1264 rfl) (v2 := (2 : Int32)) (by decide)).trans <|
  (r_bin (pg_of mt_233 dL_law_1265 rfl)).trans <|
  (r_sld (pg_of mt_233 dL_law_1266 rfl) h2).trans <|
  (r_als (pg_of mt_233 dL_law_1267 rfl) (Or.inl rfl) rfl).trans <|
  (r_ild (pg_of mt_233 dL_law_1268 rfl) rfl).trans <|
  (r_con (pg_of mt_233 dL_law_1269 rfl) (v2 := (3 : Int32)) (by decide)).trans <|
  (r_bin (pg_of mt_233 dL_law_1270 rfl)).trans <|
  (r_sld (pg_of mt_233 dL_law_1271 rfl) h3).trans <|
  (r_als (pg_of mt_233 dL_law_1272 rfl) (Or.inl rfl) rfl).trans <|
  (r_ild (pg_of mt_233 dL_law_1273 rfl) rfl).trans <|
  (r_con (pg_of mt_233 dL_law_1274 rfl) (v2 := (4 : Int32)) (by decide)).trans <|
  (r_bin (pg_of mt_233 dL_law_1275 rfl)).trans <|
  (r_sld (pg_of mt_233 dL_law_1276 rfl) h4).trans <|
  (r_call (t := tt_233) (t2 := tt_199) (pg_of mt_233 dL_law_1277 rfl) mt_233 mt_199 rfl rfl (rcv1 rfl) rfl rfl)
theorem b233_1280 (l3 : Int32) (s0 : Int32) (s1 : Int32) : rn xs L 233 1280 [vS 1, vR 0, vR 44, vI l3] [vI s0, vI s1] (mw f a g) = if s1 = s0 then rn xs L 233 1605 [vS 1, vR 0, vR 44, vI l3] [] (mw f a g) else rn xs L 233 1283 [vS 1, vR 0, vR 44, vI l3] [] (mw f a g) :=
  (r_eq (pg_of mt_233 dL_law_1280 rfl))
theorem b233_1283 (l3 : Int32) : rn xs L 233 1283 [vS 1, vR 0, vR 44, vI l3] [] (mw f a g) = some (some (vI (0 : Int32)), (mw f a g)) :=
  (r_con (pg_of mt_233 dL_law_1283 rfl) (v2 := (0 : Int32)) (by decide)).trans <|
  (r_rz (pg_of mt_233 dL_law_1284 rfl) mt_233 rfl (Or.inl rfl))
theorem b233_1285 (l3 : Int32) (h1 : ma_in ((l3 + (1 : Int32))) L = true) (h2 : ma_in ((l3 + (2 : Int32))) L = true) (h3 : ma_in ((l3 + (3 : Int32))) L = true) : rn xs L 233 1285 [vS 1, vR 0, vR 44, vI l3] [] (mw f a g) = (ev xs L 100 4 [vR 0, vI (xs ((l3 + (1 : Int32))).toNatClampNeg), vI (xs ((l3 + (2 : Int32))).toNatClampNeg), vI (xs ((l3 + (3 : Int32))).toNatClampNeg)] (mw f a g)).bind (fun b => rn xs L 233 1304 [vS 1, vR 0, vR 44, vI l3] (b.1.toList ++ []) b.2) :=
  (r_ald (pg_of mt_233 dL_law_1285 rfl) rfl).trans <|
  (r_als (pg_of mt_233 dL_law_1286 rfl) (Or.inl rfl) rfl).trans <|
  (r_ild (pg_of mt_233 dL_law_1287 rfl) rfl).trans <|
  (r_con (pg_of mt_233 dL_law_1288 rfl) (v2 := (1 : Int32)) (by decide)).trans <|
  (r_bin (pg_of mt_233 dL_law_1289 rfl)).trans <|
  (r_sld (pg_of mt_233 dL_law_1290 rfl) h1).trans <|
  (r_als (pg_of mt_233 dL_law_1291 rfl) (Or.inl rfl) rfl).trans <|
  (r_ild (pg_of mt_233 dL_law_1292 rfl) rfl).trans <|
  (r_con (pg_of mt_233 dL_law_1293 rfl) (v2 := (2 : Int32)) (by decide)).trans <|
  (r_bin (pg_of mt_233 dL_law_1294 rfl)).trans <|
  (r_sld (pg_of mt_233 dL_law_1295 rfl) h2).trans <|
  (r_als (pg_of mt_233 dL_law_1296 rfl) (Or.inl rfl) rfl).trans <|
  (r_ild (pg_of mt_233 dL_law_1297 rfl) rfl).trans <|
  (r_con (pg_of mt_233 dL_law_1298 rfl) (v2 := (3 : Int32)) (by decide)).trans <|
  (r_bin (pg_of mt_233 dL_law_1299 rfl)).trans <|
  (r_sld (pg_of mt_233 dL_law_1300 rfl) h3).trans <|
  (r_call (t := tt_233) (t2 := tt_100) (pg_of mt_233 dL_law_1301 rfl) mt_233 mt_100 rfl rfl (rcv1 rfl) rfl rfl)
theorem b233_1304 (l3 : Int32) (s0 : Int32) (h1 : ma_in ((l3 + (1 : Int32))) L = true) (h2 : ma_in ((l3 + (2 : Int32))) L = true) (h3 : ma_in ((l3 + (3 : Int32))) L = true) : rn xs L 233 1304 [vS 1, vR 0, vR 44, vI l3] [vI s0] (mw f a g) = (ev xs L 195 5 [vR 44, vI (xs ((l3 + (1 : Int32))).toNatClampNeg), vI (xs ((l3 + (2 : Int32))).toNatClampNeg), vI (xs ((l3 + (3 : Int32))).toNatClampNeg)] (mw f a g)).bind (fun b => rn xs L 233 1323 [vS 1, vR 0, vR 44, vI l3] (b.1.toList ++ [vI s0]) b.2) :=
  (r_ald (pg_of mt_233 dL_law_1304 rfl) rfl).trans <|
  (r_als (pg_of mt_233 dL_law_1305 rfl) (Or.inl rfl) rfl).trans <|
  (r_ild (pg_of mt_233 dL_law_1306 rfl) rfl).trans <|
  (r_con (pg_of mt_233 dL_law_1307 rfl) (v2 := (1 : Int32)) (by decide)).trans <|
  (r_bin (pg_of mt_233 dL_law_1308 rfl)).trans <|
  (r_sld (pg_of mt_233 dL_law_1309 rfl) h1).trans <|
  (r_als (pg_of mt_233 dL_law_1310 rfl) (Or.inl rfl) rfl).trans <|
  (r_ild (pg_of mt_233 dL_law_1311 rfl) rfl).trans <|
  (r_con (pg_of mt_233 dL_law_1312 rfl) (v2 := (2 : Int32)) (by decide)).trans <|
  (r_bin (pg_of mt_233 dL_law_1313 rfl)).trans <|
  (r_sld (pg_of mt_233 dL_law_1314 rfl) h2).trans <|
  (r_als (pg_of mt_233 dL_law_1315 rfl) (Or.inl rfl) rfl).trans <|
  (r_ild (pg_of mt_233 dL_law_1316 rfl) rfl).trans <|
  (r_con (pg_of mt_233 dL_law_1317 rfl) (v2 := (3 : Int32)) (by decide)).trans <|
  (r_bin (pg_of mt_233 dL_law_1318 rfl)).trans <|
  (r_sld (pg_of mt_233 dL_law_1319 rfl) h3).trans <|
  (r_call (t := tt_233) (t2 := tt_195) (pg_of mt_233 dL_law_1320 rfl) mt_233 mt_195 rfl rfl (rcv1 rfl) rfl rfl)
theorem b233_1323 (l3 : Int32) (s0 : Int32) (s1 : Int32) : rn xs L 233 1323 [vS 1, vR 0, vR 44, vI l3] [vI s0, vI s1] (mw f a g) = if s1 = s0 then rn xs L 233 1605 [vS 1, vR 0, vR 44, vI l3] [] (mw f a g) else rn xs L 233 1326 [vS 1, vR 0, vR 44, vI l3] [] (mw f a g) :=
  (r_eq (pg_of mt_233 dL_law_1323 rfl))
theorem b233_1326 (l3 : Int32) : rn xs L 233 1326 [vS 1, vR 0, vR 44, vI l3] [] (mw f a g) = some (some (vI (0 : Int32)), (mw f a g)) :=
  (r_con (pg_of mt_233 dL_law_1326 rfl) (v2 := (0 : Int32)) (by decide)).trans <|
  (r_rz (pg_of mt_233 dL_law_1327 rfl) mt_233 rfl (Or.inl rfl))
theorem b233_1328 (l3 : Int32) (h1 : ma_in ((l3 + (1 : Int32))) L = true) (h2 : ma_in ((l3 + (2 : Int32))) L = true) (h3 : ma_in ((l3 + (3 : Int32))) L = true) : rn xs L 233 1328 [vS 1, vR 0, vR 44, vI l3] [] (mw f a g) = (ev xs L 101 5 [vR 0, vI (xs ((l3 + (1 : Int32))).toNatClampNeg), vI (xs ((l3 + (2 : Int32))).toNatClampNeg), vI (xs ((l3 + (3 : Int32))).toNatClampNeg)] (mw f a g)).bind (fun b => rn xs L 233 1347 [vS 1, vR 0, vR 44, vI l3] (b.1.toList ++ []) b.2) :=
  (r_ald (pg_of mt_233 dL_law_1328 rfl) rfl).trans <|
  (r_als (pg_of mt_233 dL_law_1329 rfl) (Or.inl rfl) rfl).trans <|
  (r_ild (pg_of mt_233 dL_law_1330 rfl) rfl).trans <|
  (r_con (pg_of mt_233 dL_law_1331 rfl) (v2 := (1 : Int32)) (by decide)).trans <|
  (r_bin (pg_of mt_233 dL_law_1332 rfl)).trans <|
  (r_sld (pg_of mt_233 dL_law_1333 rfl) h1).trans <|
  (r_als (pg_of mt_233 dL_law_1334 rfl) (Or.inl rfl) rfl).trans <|
  (r_ild (pg_of mt_233 dL_law_1335 rfl) rfl).trans <|
  (r_con (pg_of mt_233 dL_law_1336 rfl) (v2 := (2 : Int32)) (by decide)).trans <|
  (r_bin (pg_of mt_233 dL_law_1337 rfl)).trans <|
  (r_sld (pg_of mt_233 dL_law_1338 rfl) h2).trans <|
  (r_als (pg_of mt_233 dL_law_1339 rfl) (Or.inl rfl) rfl).trans <|
  (r_ild (pg_of mt_233 dL_law_1340 rfl) rfl).trans <|
  (r_con (pg_of mt_233 dL_law_1341 rfl) (v2 := (3 : Int32)) (by decide)).trans <|
  (r_bin (pg_of mt_233 dL_law_1342 rfl)).trans <|
  (r_sld (pg_of mt_233 dL_law_1343 rfl) h3).trans <|
  (r_call (t := tt_233) (t2 := tt_101) (pg_of mt_233 dL_law_1344 rfl) mt_233 mt_101 rfl rfl (rcv1 rfl) rfl rfl)
theorem b233_1347 (l3 : Int32) (s0 : Int32) (h1 : ma_in ((l3 + (1 : Int32))) L = true) (h2 : ma_in ((l3 + (2 : Int32))) L = true) (h3 : ma_in ((l3 + (3 : Int32))) L = true) : rn xs L 233 1347 [vS 1, vR 0, vR 44, vI l3] [vI s0] (mw f a g) = (ev xs L 196 4 [vR 44, vI (xs ((l3 + (1 : Int32))).toNatClampNeg), vI (xs ((l3 + (2 : Int32))).toNatClampNeg), vI (xs ((l3 + (3 : Int32))).toNatClampNeg)] (mw f a g)).bind (fun b => rn xs L 233 1366 [vS 1, vR 0, vR 44, vI l3] (b.1.toList ++ [vI s0]) b.2) :=
  (r_ald (pg_of mt_233 dL_law_1347 rfl) rfl).trans <|
  (r_als (pg_of mt_233 dL_law_1348 rfl) (Or.inl rfl) rfl).trans <|
  (r_ild (pg_of mt_233 dL_law_1349 rfl) rfl).trans <|
  (r_con (pg_of mt_233 dL_law_1350 rfl) (v2 := (1 : Int32)) (by decide)).trans <|
  (r_bin (pg_of mt_233 dL_law_1351 rfl)).trans <|
  (r_sld (pg_of mt_233 dL_law_1352 rfl) h1).trans <|
  (r_als (pg_of mt_233 dL_law_1353 rfl) (Or.inl rfl) rfl).trans <|
  (r_ild (pg_of mt_233 dL_law_1354 rfl) rfl).trans <|
  (r_con (pg_of mt_233 dL_law_1355 rfl) (v2 := (2 : Int32)) (by decide)).trans <|
  (r_bin (pg_of mt_233 dL_law_1356 rfl)).trans <|
  (r_sld (pg_of mt_233 dL_law_1357 rfl) h2).trans <|
  (r_als (pg_of mt_233 dL_law_1358 rfl) (Or.inl rfl) rfl).trans <|
  (r_ild (pg_of mt_233 dL_law_1359 rfl) rfl).trans <|
  (r_con (pg_of mt_233 dL_law_1360 rfl) (v2 := (3 : Int32)) (by decide)).trans <|
  (r_bin (pg_of mt_233 dL_law_1361 rfl)).trans <|
  (r_sld (pg_of mt_233 dL_law_1362 rfl) h3).trans <|
  (r_call (t := tt_233) (t2 := tt_196) (pg_of mt_233 dL_law_1363 rfl) mt_233 mt_196 rfl rfl (rcv1 rfl) rfl rfl)
theorem b233_1366 (l3 : Int32) (s0 : Int32) (s1 : Int32) : rn xs L 233 1366 [vS 1, vR 0, vR 44, vI l3] [vI s0, vI s1] (mw f a g) = if s1 = s0 then rn xs L 233 1605 [vS 1, vR 0, vR 44, vI l3] [] (mw f a g) else rn xs L 233 1369 [vS 1, vR 0, vR 44, vI l3] [] (mw f a g) :=
  (r_eq (pg_of mt_233 dL_law_1366 rfl))
theorem b233_1369 (l3 : Int32) : rn xs L 233 1369 [vS 1, vR 0, vR 44, vI l3] [] (mw f a g) = some (some (vI (0 : Int32)), (mw f a g)) :=
  (r_con (pg_of mt_233 dL_law_1369 rfl) (v2 := (0 : Int32)) (by decide)).trans <|
  (r_rz (pg_of mt_233 dL_law_1370 rfl) mt_233 rfl (Or.inl rfl))
theorem b233_1371 (l3 : Int32) (h1 : ma_in ((l3 + (1 : Int32))) L = true) (h2 : ma_in ((l3 + (2 : Int32))) L = true) (h3 : ma_in ((l3 + (3 : Int32))) L = true) : rn xs L 233 1371 [vS 1, vR 0, vR 44, vI l3] [] (mw f a g) = (ev xs L 102 5 [vR 0, vI (xs ((l3 + (1 : Int32))).toNatClampNeg), vI (xs ((l3 + (2 : Int32))).toNatClampNeg), vI (xs ((l3 + (3 : Int32))).toNatClampNeg)] (mw f a g)).bind (fun b => rn xs L 233 1390 [vS 1, vR 0, vR 44, vI l3] (b.1.toList ++ []) b.2) :=
  (r_ald (pg_of mt_233 dL_law_1371 rfl) rfl).trans <|
  (r_als (pg_of mt_233 dL_law_1372 rfl) (Or.inl rfl) rfl).trans <|
  (r_ild (pg_of mt_233 dL_law_1373 rfl) rfl).trans <|
  (r_con (pg_of mt_233 dL_law_1374 rfl) (v2 := (1 : Int32)) (by decide)).trans <|
  (r_bin (pg_of mt_233 dL_law_1375 rfl)).trans <|
  (r_sld (pg_of mt_233 dL_law_1376 rfl) h1).trans <|
  (r_als (pg_of mt_233 dL_law_1377 rfl) (Or.inl rfl) rfl).trans <|
  (r_ild (pg_of mt_233 dL_law_1378 rfl) rfl).trans <|
  (r_con (pg_of mt_233 dL_law_1379 rfl) (v2 := (2 : Int32)) (by decide)).trans <|
  (r_bin (pg_of mt_233 dL_law_1380 rfl)).trans <|
  (r_sld (pg_of mt_233 dL_law_1381 rfl) h2).trans <|
  (r_als (pg_of mt_233 dL_law_1382 rfl) (Or.inl rfl) rfl).trans <|
  (r_ild (pg_of mt_233 dL_law_1383 rfl) rfl).trans <|
  (r_con (pg_of mt_233 dL_law_1384 rfl) (v2 := (3 : Int32)) (by decide)).trans <|
  (r_bin (pg_of mt_233 dL_law_1385 rfl)).trans <|
  (r_sld (pg_of mt_233 dL_law_1386 rfl) h3).trans <|
  (r_call (t := tt_233) (t2 := tt_102) (pg_of mt_233 dL_law_1387 rfl) mt_233 mt_102 rfl rfl (rcv1 rfl) rfl rfl)
theorem b233_1390 (l3 : Int32) (s0 : Int32) (h1 : ma_in ((l3 + (1 : Int32))) L = true) (h2 : ma_in ((l3 + (2 : Int32))) L = true) (h3 : ma_in ((l3 + (3 : Int32))) L = true) : rn xs L 233 1390 [vS 1, vR 0, vR 44, vI l3] [vI s0] (mw f a g) = (ev xs L 197 4 [vR 44, vI (xs ((l3 + (1 : Int32))).toNatClampNeg), vI (xs ((l3 + (2 : Int32))).toNatClampNeg), vI (xs ((l3 + (3 : Int32))).toNatClampNeg)] (mw f a g)).bind (fun b => rn xs L 233 1409 [vS 1, vR 0, vR 44, vI l3] (b.1.toList ++ [vI s0]) b.2) :=
  (r_ald (pg_of mt_233 dL_law_1390 rfl) rfl).trans <|
  (r_als (pg_of mt_233 dL_law_1391 rfl) (Or.inl rfl) rfl).trans <|
  (r_ild (pg_of mt_233 dL_law_1392 rfl) rfl).trans <|
  (r_con (pg_of mt_233 dL_law_1393 rfl) (v2 := (1 : Int32)) (by decide)).trans <|
  (r_bin (pg_of mt_233 dL_law_1394 rfl)).trans <|
  (r_sld (pg_of mt_233 dL_law_1395 rfl) h1).trans <|
  (r_als (pg_of mt_233 dL_law_1396 rfl) (Or.inl rfl) rfl).trans <|
  (r_ild (pg_of mt_233 dL_law_1397 rfl) rfl).trans <|
  (r_con (pg_of mt_233 dL_law_1398 rfl) (v2 := (2 : Int32)) (by decide)).trans <|
  (r_bin (pg_of mt_233 dL_law_1399 rfl)).trans <|
  (r_sld (pg_of mt_233 dL_law_1400 rfl) h2).trans <|
  (r_als (pg_of mt_233 dL_law_1401 rfl) (Or.inl rfl) rfl).trans <|
  (r_ild (pg_of mt_233 dL_law_1402 rfl) rfl).trans <|
  (r_con (pg_of mt_233 dL_law_1403 rfl) (v2 := (3 : Int32)) (by decide)).trans <|
  (r_bin (pg_of mt_233 dL_law_1404 rfl)).trans <|
  (r_sld (pg_of mt_233 dL_law_1405 rfl) h3).trans <|
  (r_call (t := tt_233) (t2 := tt_197) (pg_of mt_233 dL_law_1406 rfl) mt_233 mt_197 rfl rfl (rcv1 rfl) rfl rfl)
theorem b233_1409 (l3 : Int32) (s0 : Int32) (s1 : Int32) : rn xs L 233 1409 [vS 1, vR 0, vR 44, vI l3] [vI s0, vI s1] (mw f a g) = if s1 = s0 then rn xs L 233 1605 [vS 1, vR 0, vR 44, vI l3] [] (mw f a g) else rn xs L 233 1412 [vS 1, vR 0, vR 44, vI l3] [] (mw f a g) :=
  (r_eq (pg_of mt_233 dL_law_1409 rfl))
theorem b233_1412 (l3 : Int32) : rn xs L 233 1412 [vS 1, vR 0, vR 44, vI l3] [] (mw f a g) = some (some (vI (0 : Int32)), (mw f a g)) :=
  (r_con (pg_of mt_233 dL_law_1412 rfl) (v2 := (0 : Int32)) (by decide)).trans <|
  (r_rz (pg_of mt_233 dL_law_1413 rfl) mt_233 rfl (Or.inl rfl))
theorem b233_1414 (l3 : Int32) (h1 : ma_in ((l3 + (1 : Int32))) L = true) (h2 : ma_in ((l3 + (2 : Int32))) L = true) (h3 : ma_in ((l3 + (3 : Int32))) L = true) : rn xs L 233 1414 [vS 1, vR 0, vR 44, vI l3] [] (mw f a g) = (ev xs L 103 5 [vR 0, vI (xs ((l3 + (1 : Int32))).toNatClampNeg), vI (xs ((l3 + (2 : Int32))).toNatClampNeg), vI (xs ((l3 + (3 : Int32))).toNatClampNeg)] (mw f a g)).bind (fun b => rn xs L 233 1433 [vS 1, vR 0, vR 44, vI l3] (b.1.toList ++ []) b.2) :=
  (r_ald (pg_of mt_233 dL_law_1414 rfl) rfl).trans <|
  (r_als (pg_of mt_233 dL_law_1415 rfl) (Or.inl rfl) rfl).trans <|
  (r_ild (pg_of mt_233 dL_law_1416 rfl) rfl).trans <|
  (r_con (pg_of mt_233 dL_law_1417 rfl) (v2 := (1 : Int32)) (by decide)).trans <|
  (r_bin (pg_of mt_233 dL_law_1418 rfl)).trans <|
  (r_sld (pg_of mt_233 dL_law_1419 rfl) h1).trans <|
  (r_als (pg_of mt_233 dL_law_1420 rfl) (Or.inl rfl) rfl).trans <|
  (r_ild (pg_of mt_233 dL_law_1421 rfl) rfl).trans <|
  (r_con (pg_of mt_233 dL_law_1422 rfl) (v2 := (2 : Int32)) (by decide)).trans <|
  (r_bin (pg_of mt_233 dL_law_1423 rfl)).trans <|
  (r_sld (pg_of mt_233 dL_law_1424 rfl) h2).trans <|
  (r_als (pg_of mt_233 dL_law_1425 rfl) (Or.inl rfl) rfl).trans <|
  (r_ild (pg_of mt_233 dL_law_1426 rfl) rfl).trans <|
  (r_con (pg_of mt_233 dL_law_1427 rfl) (v2 := (3 : Int32)) (by decide)).trans <|
  (r_bin (pg_of mt_233 dL_law_1428 rfl)).trans <|
  (r_sld (pg_of mt_233 dL_law_1429 rfl) h3).trans <|
  (r_call (t := tt_233) (t2 := tt_103) (pg_of mt_233 dL_law_1430 rfl) mt_233 mt_103 rfl rfl (rcv1 rfl) rfl rfl)
theorem b233_1433 (l3 : Int32) (s0 : Int32) (h1 : ma_in ((l3 + (1 : Int32))) L = true) (h2 : ma_in ((l3 + (2 : Int32))) L = true) (h3 : ma_in ((l3 + (3 : Int32))) L = true) : rn xs L 233 1433 [vS 1, vR 0, vR 44, vI l3] [vI s0] (mw f a g) = (ev xs L 200 5 [vR 44, vI (xs ((l3 + (1 : Int32))).toNatClampNeg), vI (xs ((l3 + (2 : Int32))).toNatClampNeg), vI (xs ((l3 + (3 : Int32))).toNatClampNeg)] (mw f a g)).bind (fun b => rn xs L 233 1452 [vS 1, vR 0, vR 44, vI l3] (b.1.toList ++ [vI s0]) b.2) :=
  (r_ald (pg_of mt_233 dL_law_1433 rfl) rfl).trans <|
  (r_als (pg_of mt_233 dL_law_1434 rfl) (Or.inl rfl) rfl).trans <|
  (r_ild (pg_of mt_233 dL_law_1435 rfl) rfl).trans <|
  (r_con (pg_of mt_233 dL_law_1436 rfl) (v2 := (1 : Int32)) (by decide)).trans <|
  (r_bin (pg_of mt_233 dL_law_1437 rfl)).trans <|
  (r_sld (pg_of mt_233 dL_law_1438 rfl) h1).trans <|
  (r_als (pg_of mt_233 dL_law_1439 rfl) (Or.inl rfl) rfl).trans <|
  (r_ild (pg_of mt_233 dL_law_1440 rfl) rfl).trans <|
  (r_con (pg_of mt_233 dL_law_1441 rfl) (v2 := (2 : Int32)) (by decide)).trans <|
  (r_bin (pg_of mt_233 dL_law_1442 rfl)).trans <|
  (r_sld (pg_of mt_233 dL_law_1443 rfl) h2).trans <|
  (r_als (pg_of mt_233 dL_law_1444 rfl) (Or.inl rfl) rfl).trans <|
  (r_ild (pg_of mt_233 dL_law_1445 rfl) rfl).trans <|
  (r_con (pg_of mt_233 dL_law_1446 rfl) (v2 := (3 : Int32)) (by decide)).trans <|
  (r_bin (pg_of mt_233 dL_law_1447 rfl)).trans <|
  (r_sld (pg_of mt_233 dL_law_1448 rfl) h3).trans <|
  (r_call (t := tt_233) (t2 := tt_200) (pg_of mt_233 dL_law_1449 rfl) mt_233 mt_200 rfl rfl (rcv1 rfl) rfl rfl)
theorem b233_1452 (l3 : Int32) (s0 : Int32) (s1 : Int32) : rn xs L 233 1452 [vS 1, vR 0, vR 44, vI l3] [vI s0, vI s1] (mw f a g) = if s1 = s0 then rn xs L 233 1605 [vS 1, vR 0, vR 44, vI l3] [] (mw f a g) else rn xs L 233 1455 [vS 1, vR 0, vR 44, vI l3] [] (mw f a g) :=
  (r_eq (pg_of mt_233 dL_law_1452 rfl))
theorem b233_1455 (l3 : Int32) : rn xs L 233 1455 [vS 1, vR 0, vR 44, vI l3] [] (mw f a g) = some (some (vI (0 : Int32)), (mw f a g)) :=
  (r_con (pg_of mt_233 dL_law_1455 rfl) (v2 := (0 : Int32)) (by decide)).trans <|
  (r_rz (pg_of mt_233 dL_law_1456 rfl) mt_233 rfl (Or.inl rfl))
theorem b233_1457 (l3 : Int32) (h1 : ma_in ((l3 + (1 : Int32))) L = true) (h2 : ma_in ((l3 + (2 : Int32))) L = true) : rn xs L 233 1457 [vS 1, vR 0, vR 44, vI l3] [] (mw f a g) = (ev xs L 104 5 [vR 0, vI (xs ((l3 + (1 : Int32))).toNatClampNeg), vI (xs ((l3 + (2 : Int32))).toNatClampNeg)] (mw f a g)).bind (fun b => rn xs L 233 1471 [vS 1, vR 0, vR 44, vI l3] (b.1.toList ++ []) b.2) :=
  (r_ald (pg_of mt_233 dL_law_1457 rfl) rfl).trans <|
  (r_als (pg_of mt_233 dL_law_1458 rfl) (Or.inl rfl) rfl).trans <|
  (r_ild (pg_of mt_233 dL_law_1459 rfl) rfl).trans <|
  (r_con (pg_of mt_233 dL_law_1460 rfl) (v2 := (1 : Int32)) (by decide)).trans <|
  (r_bin (pg_of mt_233 dL_law_1461 rfl)).trans <|
  (r_sld (pg_of mt_233 dL_law_1462 rfl) h1).trans <|
  (r_als (pg_of mt_233 dL_law_1463 rfl) (Or.inl rfl) rfl).trans <|
  (r_ild (pg_of mt_233 dL_law_1464 rfl) rfl).trans <|
  (r_con (pg_of mt_233 dL_law_1465 rfl) (v2 := (2 : Int32)) (by decide)).trans <|
  (r_bin (pg_of mt_233 dL_law_1466 rfl)).trans <|
  (r_sld (pg_of mt_233 dL_law_1467 rfl) h2).trans <|
  (r_call (t := tt_233) (t2 := tt_104) (pg_of mt_233 dL_law_1468 rfl) mt_233 mt_104 rfl rfl (rcv1 rfl) rfl rfl)
theorem b233_1471 (l3 : Int32) (s0 : Int32) (h1 : ma_in ((l3 + (1 : Int32))) L = true) (h2 : ma_in ((l3 + (2 : Int32))) L = true) : rn xs L 233 1471 [vS 1, vR 0, vR 44, vI l3] [vI s0] (mw f a g) = (ev xs L 202 4 [vR 44, vI (xs ((l3 + (1 : Int32))).toNatClampNeg), vI (xs ((l3 + (2 : Int32))).toNatClampNeg)] (mw f a g)).bind (fun b => rn xs L 233 1485 [vS 1, vR 0, vR 44, vI l3] (b.1.toList ++ [vI s0]) b.2) :=
  (r_ald (pg_of mt_233 dL_law_1471 rfl) rfl).trans <|
  (r_als (pg_of mt_233 dL_law_1472 rfl) (Or.inl rfl) rfl).trans <|
  (r_ild (pg_of mt_233 dL_law_1473 rfl) rfl).trans <|
  (r_con (pg_of mt_233 dL_law_1474 rfl) (v2 := (1 : Int32)) (by decide)).trans <|
  (r_bin (pg_of mt_233 dL_law_1475 rfl)).trans <|
  (r_sld (pg_of mt_233 dL_law_1476 rfl) h1).trans <|
  (r_als (pg_of mt_233 dL_law_1477 rfl) (Or.inl rfl) rfl).trans <|
  (r_ild (pg_of mt_233 dL_law_1478 rfl) rfl).trans <|
  (r_con (pg_of mt_233 dL_law_1479 rfl) (v2 := (2 : Int32)) (by decide)).trans <|
  (r_bin (pg_of mt_233 dL_law_1480 rfl)).trans <|
  (r_sld (pg_of mt_233 dL_law_1481 rfl) h2).trans <|
  (r_call (t := tt_233) (t2 := tt_202) (pg_of mt_233 dL_law_1482 rfl) mt_233 mt_202 rfl rfl (rcv1 rfl) rfl rfl)
theorem b233_1485 (l3 : Int32) (s0 : Int32) (s1 : Int32) : rn xs L 233 1485 [vS 1, vR 0, vR 44, vI l3] [vI s0, vI s1] (mw f a g) = if s1 = s0 then rn xs L 233 1605 [vS 1, vR 0, vR 44, vI l3] [] (mw f a g) else rn xs L 233 1488 [vS 1, vR 0, vR 44, vI l3] [] (mw f a g) :=
  (r_eq (pg_of mt_233 dL_law_1485 rfl))
theorem b233_1488 (l3 : Int32) : rn xs L 233 1488 [vS 1, vR 0, vR 44, vI l3] [] (mw f a g) = some (some (vI (0 : Int32)), (mw f a g)) :=
  (r_con (pg_of mt_233 dL_law_1488 rfl) (v2 := (0 : Int32)) (by decide)).trans <|
  (r_rz (pg_of mt_233 dL_law_1489 rfl) mt_233 rfl (Or.inl rfl))
theorem b233_1490 (l3 : Int32) (h1 : ma_in ((l3 + (1 : Int32))) L = true) (h2 : ma_in ((l3 + (2 : Int32))) L = true) (h3 : ma_in ((l3 + (3 : Int32))) L = true) : rn xs L 233 1490 [vS 1, vR 0, vR 44, vI l3] [] (mw f a g) = (ev xs L 107 5 [vR 0, vI (xs ((l3 + (1 : Int32))).toNatClampNeg), vI (xs ((l3 + (2 : Int32))).toNatClampNeg), vI (xs ((l3 + (3 : Int32))).toNatClampNeg)] (mw f a g)).bind (fun b => rn xs L 233 1509 [vS 1, vR 0, vR 44, vI l3] (b.1.toList ++ []) b.2) :=
  (r_ald (pg_of mt_233 dL_law_1490 rfl) rfl).trans <|
  (r_als (pg_of mt_233 dL_law_1491 rfl) (Or.inl rfl) rfl).trans <|
  (r_ild (pg_of mt_233 dL_law_1492 rfl) rfl).trans <|
  (r_con (pg_of mt_233 dL_law_1493 rfl) (v2 := (1 : Int32)) (by decide)).trans <|
  (r_bin (pg_of mt_233 dL_law_1494 rfl)).trans <|
  (r_sld (pg_of mt_233 dL_law_1495 rfl) h1).trans <|
  (r_als (pg_of mt_233 dL_law_1496 rfl) (Or.inl rfl) rfl).trans <|
  (r_ild (pg_of mt_233 dL_law_1497 rfl) rfl).trans <|
  (r_con (pg_of mt_233 dL_law_1498 rfl) (v2 := (2 : Int32)) (by decide)).trans <|
  (r_bin (pg_of mt_233 dL_law_1499 rfl)).trans <|
  (r_sld (pg_of mt_233 dL_law_1500 rfl) h2).trans <|
  (r_als (pg_of mt_233 dL_law_1501 rfl) (Or.inl rfl) rfl).trans <|
  (r_ild (pg_of mt_233 dL_law_1502 rfl) rfl).trans <|
  (r_con (pg_of mt_233 dL_law_1503 rfl) (v2 := (3 : Int32)) (by decide)).trans <|
  (r_bin (pg_of mt_233 dL_law_1504 rfl)).trans <|
  (r_sld (pg_of mt_233 dL_law_1505 rfl) h3).trans <|
  (r_call (t := tt_233) (t2 := tt_107) (pg_of mt_233 dL_law_1506 rfl) mt_233 mt_107 rfl rfl (rcv1 rfl) rfl rfl)
theorem b233_1509 (l3 : Int32) (s0 : Int32) (h1 : ma_in ((l3 + (1 : Int32))) L = true) (h2 : ma_in ((l3 + (2 : Int32))) L = true) (h3 : ma_in ((l3 + (3 : Int32))) L = true) : rn xs L 233 1509 [vS 1, vR 0, vR 44, vI l3] [vI s0] (mw f a g) = (ev xs L 205 5 [vR 44, vI (xs ((l3 + (1 : Int32))).toNatClampNeg), vI (xs ((l3 + (2 : Int32))).toNatClampNeg), vI (xs ((l3 + (3 : Int32))).toNatClampNeg)] (mw f a g)).bind (fun b => rn xs L 233 1528 [vS 1, vR 0, vR 44, vI l3] (b.1.toList ++ [vI s0]) b.2) :=
  (r_ald (pg_of mt_233 dL_law_1509 rfl) rfl).trans <|
  (r_als (pg_of mt_233 dL_law_1510 rfl) (Or.inl rfl) rfl).trans <|
  (r_ild (pg_of mt_233 dL_law_1511 rfl) rfl).trans <|
  (r_con (pg_of mt_233 dL_law_1512 rfl) (v2 := (1 : Int32)) (by decide)).trans <|
  (r_bin (pg_of mt_233 dL_law_1513 rfl)).trans <|
  (r_sld (pg_of mt_233 dL_law_1514 rfl) h1).trans <|
  (r_als (pg_of mt_233 dL_law_1515 rfl) (Or.inl rfl) rfl).trans <|
  (r_ild (pg_of mt_233 dL_law_1516 rfl) rfl).trans <|
  (r_con (pg_of mt_233 dL_law_1517 rfl) (v2 := (2 : Int32)) (by decide)).trans <|
  (r_bin (pg_of mt_233 dL_law_1518 rfl)).trans <|
  (r_sld (pg_of mt_233 dL_law_1519 rfl) h2).trans <|
  (r_als (pg_of mt_233 dL_law_1520 rfl) (Or.inl rfl) rfl).trans <|
  (r_ild (pg_of mt_233 dL_law_1521 rfl) rfl).trans <|
  (r_con (pg_of mt_233 dL_law_1522 rfl) (v2 := (3 : Int32)) (by decide)).trans <|
  (r_bin (pg_of mt_233 dL_law_1523 rfl)).trans <|
  (r_sld (pg_of mt_233 dL_law_1524 rfl) h3).trans <|
  (r_call (t := tt_233) (t2 := tt_205) (pg_of mt_233 dL_law_1525 rfl) mt_233 mt_205 rfl rfl (rcv1 rfl) rfl rfl)
theorem b233_1528 (l3 : Int32) (s0 : Int32) (s1 : Int32) : rn xs L 233 1528 [vS 1, vR 0, vR 44, vI l3] [vI s0, vI s1] (mw f a g) = if s1 = s0 then rn xs L 233 1605 [vS 1, vR 0, vR 44, vI l3] [] (mw f a g) else rn xs L 233 1531 [vS 1, vR 0, vR 44, vI l3] [] (mw f a g) :=
  (r_eq (pg_of mt_233 dL_law_1528 rfl))
theorem b233_1531 (l3 : Int32) : rn xs L 233 1531 [vS 1, vR 0, vR 44, vI l3] [] (mw f a g) = some (some (vI (0 : Int32)), (mw f a g)) :=
  (r_con (pg_of mt_233 dL_law_1531 rfl) (v2 := (0 : Int32)) (by decide)).trans <|
  (r_rz (pg_of mt_233 dL_law_1532 rfl) mt_233 rfl (Or.inl rfl))
theorem b233_1533 (l3 : Int32) (h1 : ma_in ((l3 + (1 : Int32))) L = true) : rn xs L 233 1533 [vS 1, vR 0, vR 44, vI l3] [] (mw f a g) = (ev xs L 108 2 [vR 0, vI (xs ((l3 + (1 : Int32))).toNatClampNeg)] (mw f a g)).bind (fun b => rn xs L 233 1542 [vS 1, vR 0, vR 44, vI l3] (b.1.toList ++ []) b.2) :=
  (r_ald (pg_of mt_233 dL_law_1533 rfl) rfl).trans <|
  (r_als (pg_of mt_233 dL_law_1534 rfl) (Or.inl rfl) rfl).trans <|
  (r_ild (pg_of mt_233 dL_law_1535 rfl) rfl).trans <|
  (r_con (pg_of mt_233 dL_law_1536 rfl) (v2 := (1 : Int32)) (by decide)).trans <|
  (r_bin (pg_of mt_233 dL_law_1537 rfl)).trans <|
  (r_sld (pg_of mt_233 dL_law_1538 rfl) h1).trans <|
  (r_call (t := tt_233) (t2 := tt_108) (pg_of mt_233 dL_law_1539 rfl) mt_233 mt_108 rfl rfl (rcv1 rfl) rfl rfl)
theorem b233_1542 (l3 : Int32) (s0 : Int32) (h1 : ma_in ((l3 + (1 : Int32))) L = true) : rn xs L 233 1542 [vS 1, vR 0, vR 44, vI l3] [vI s0] (mw f a g) = (ev xs L 216 2 [vR 44, vI (xs ((l3 + (1 : Int32))).toNatClampNeg)] (mw f a g)).bind (fun b => rn xs L 233 1551 [vS 1, vR 0, vR 44, vI l3] (b.1.toList ++ [vI s0]) b.2) :=
  (r_ald (pg_of mt_233 dL_law_1542 rfl) rfl).trans <|
  (r_als (pg_of mt_233 dL_law_1543 rfl) (Or.inl rfl) rfl).trans <|
  (r_ild (pg_of mt_233 dL_law_1544 rfl) rfl).trans <|
  (r_con (pg_of mt_233 dL_law_1545 rfl) (v2 := (1 : Int32)) (by decide)).trans <|
  (r_bin (pg_of mt_233 dL_law_1546 rfl)).trans <|
  (r_sld (pg_of mt_233 dL_law_1547 rfl) h1).trans <|
  (r_call (t := tt_233) (t2 := tt_216) (pg_of mt_233 dL_law_1548 rfl) mt_233 mt_216 rfl rfl (rcv1 rfl) rfl rfl)
theorem b233_1551 (l3 : Int32) (s0 : Int32) (s1 : Int32) : rn xs L 233 1551 [vS 1, vR 0, vR 44, vI l3] [vI s0, vI s1] (mw f a g) = if s1 = s0 then rn xs L 233 1605 [vS 1, vR 0, vR 44, vI l3] [] (mw f a g) else rn xs L 233 1554 [vS 1, vR 0, vR 44, vI l3] [] (mw f a g) :=
  (r_eq (pg_of mt_233 dL_law_1551 rfl))
theorem b233_1554 (l3 : Int32) : rn xs L 233 1554 [vS 1, vR 0, vR 44, vI l3] [] (mw f a g) = some (some (vI (0 : Int32)), (mw f a g)) :=
  (r_con (pg_of mt_233 dL_law_1554 rfl) (v2 := (0 : Int32)) (by decide)).trans <|
  (r_rz (pg_of mt_233 dL_law_1555 rfl) mt_233 rfl (Or.inl rfl))
theorem b233_1556 (l3 : Int32) (h1 : ma_in ((l3 + (1 : Int32))) L = true) : rn xs L 233 1556 [vS 1, vR 0, vR 44, vI l3] [] (mw f a g) = (ev xs L 109 2 [vR 0, vI (xs ((l3 + (1 : Int32))).toNatClampNeg)] (mw f a g)).bind (fun b => rn xs L 233 1565 [vS 1, vR 0, vR 44, vI l3] (b.1.toList ++ []) b.2) :=
  (r_ald (pg_of mt_233 dL_law_1556 rfl) rfl).trans <|
  (r_als (pg_of mt_233 dL_law_1557 rfl) (Or.inl rfl) rfl).trans <|
  (r_ild (pg_of mt_233 dL_law_1558 rfl) rfl).trans <|
  (r_con (pg_of mt_233 dL_law_1559 rfl) (v2 := (1 : Int32)) (by decide)).trans <|
  (r_bin (pg_of mt_233 dL_law_1560 rfl)).trans <|
  (r_sld (pg_of mt_233 dL_law_1561 rfl) h1).trans <|
  (r_call (t := tt_233) (t2 := tt_109) (pg_of mt_233 dL_law_1562 rfl) mt_233 mt_109 rfl rfl (rcv1 rfl) rfl rfl)
theorem b233_1565 (l3 : Int32) (s0 : Int32) (h1 : ma_in ((l3 + (1 : Int32))) L = true) : rn xs L 233 1565 [vS 1, vR 0, vR 44, vI l3] [vI s0] (mw f a g) = (ev xs L 217 2 [vR 44, vI (xs ((l3 + (1 : Int32))).toNatClampNeg)] (mw f a g)).bind (fun b => rn xs L 233 1574 [vS 1, vR 0, vR 44, vI l3] (b.1.toList ++ [vI s0]) b.2) :=
  (r_ald (pg_of mt_233 dL_law_1565 rfl) rfl).trans <|
  (r_als (pg_of mt_233 dL_law_1566 rfl) (Or.inl rfl) rfl).trans <|
  (r_ild (pg_of mt_233 dL_law_1567 rfl) rfl).trans <|
  (r_con (pg_of mt_233 dL_law_1568 rfl) (v2 := (1 : Int32)) (by decide)).trans <|
  (r_bin (pg_of mt_233 dL_law_1569 rfl)).trans <|
  (r_sld (pg_of mt_233 dL_law_1570 rfl) h1).trans <|
  (r_call (t := tt_233) (t2 := tt_217) (pg_of mt_233 dL_law_1571 rfl) mt_233 mt_217 rfl rfl (rcv1 rfl) rfl rfl)
theorem b233_1574 (l3 : Int32) (s0 : Int32) (s1 : Int32) : rn xs L 233 1574 [vS 1, vR 0, vR 44, vI l3] [vI s0, vI s1] (mw f a g) = if s1 = s0 then rn xs L 233 1605 [vS 1, vR 0, vR 44, vI l3] [] (mw f a g) else rn xs L 233 1577 [vS 1, vR 0, vR 44, vI l3] [] (mw f a g) :=
  (r_eq (pg_of mt_233 dL_law_1574 rfl))
theorem b233_1577 (l3 : Int32) : rn xs L 233 1577 [vS 1, vR 0, vR 44, vI l3] [] (mw f a g) = some (some (vI (0 : Int32)), (mw f a g)) :=
  (r_con (pg_of mt_233 dL_law_1577 rfl) (v2 := (0 : Int32)) (by decide)).trans <|
  (r_rz (pg_of mt_233 dL_law_1578 rfl) mt_233 rfl (Or.inl rfl))
theorem b233_1579 (l3 : Int32) : rn xs L 233 1579 [vS 1, vR 0, vR 44, vI l3] [] (mw f a g) = (ev xs L 110 1 [vR 0] (mw f a g)).bind (fun b => rn xs L 233 1583 [vS 1, vR 0, vR 44, vI l3] (b.1.toList ++ []) b.2) :=
  (r_ald (pg_of mt_233 dL_law_1579 rfl) rfl).trans <|
  (r_call (t := tt_233) (t2 := tt_110) (pg_of mt_233 dL_law_1580 rfl) mt_233 mt_110 rfl rfl (rcv1 rfl) rfl rfl)
theorem b233_1583 (l3 : Int32) (s0 : Int32) : rn xs L 233 1583 [vS 1, vR 0, vR 44, vI l3] [vI s0] (mw f a g) = (ev xs L 219 2 [vR 44] (mw f a g)).bind (fun b => rn xs L 233 1587 [vS 1, vR 0, vR 44, vI l3] (b.1.toList ++ [vI s0]) b.2) :=
  (r_ald (pg_of mt_233 dL_law_1583 rfl) rfl).trans <|
  (r_call (t := tt_233) (t2 := tt_219) (pg_of mt_233 dL_law_1584 rfl) mt_233 mt_219 rfl rfl (rcv1 rfl) rfl rfl)
theorem b233_1587 (l3 : Int32) (s0 : Int32) (s1 : Int32) : rn xs L 233 1587 [vS 1, vR 0, vR 44, vI l3] [vI s0, vI s1] (mw f a g) = if s1 = s0 then rn xs L 233 1605 [vS 1, vR 0, vR 44, vI l3] [] (mw f a g) else rn xs L 233 1590 [vS 1, vR 0, vR 44, vI l3] [] (mw f a g) :=
  (r_eq (pg_of mt_233 dL_law_1587 rfl))
theorem b233_1590 (l3 : Int32) : rn xs L 233 1590 [vS 1, vR 0, vR 44, vI l3] [] (mw f a g) = some (some (vI (0 : Int32)), (mw f a g)) :=
  (r_con (pg_of mt_233 dL_law_1590 rfl) (v2 := (0 : Int32)) (by decide)).trans <|
  (r_rz (pg_of mt_233 dL_law_1591 rfl) mt_233 rfl (Or.inl rfl))
theorem b233_1592 (l3 : Int32) : rn xs L 233 1592 [vS 1, vR 0, vR 44, vI l3] [] (mw f a g) = (ev xs L 111 1 [vR 0] (mw f a g)).bind (fun b => rn xs L 233 1596 [vS 1, vR 0, vR 44, vI l3] (b.1.toList ++ []) b.2) :=
  (r_ald (pg_of mt_233 dL_law_1592 rfl) rfl).trans <|
  (r_call (t := tt_233) (t2 := tt_111) (pg_of mt_233 dL_law_1593 rfl) mt_233 mt_111 rfl rfl (rcv1 rfl) rfl rfl)
theorem b233_1596 (l3 : Int32) (s0 : Int32) : rn xs L 233 1596 [vS 1, vR 0, vR 44, vI l3] [vI s0] (mw f a g) = (ev xs L 220 2 [vR 44] (mw f a g)).bind (fun b => rn xs L 233 1600 [vS 1, vR 0, vR 44, vI l3] (b.1.toList ++ [vI s0]) b.2) :=
  (r_ald (pg_of mt_233 dL_law_1596 rfl) rfl).trans <|
  (r_call (t := tt_233) (t2 := tt_220) (pg_of mt_233 dL_law_1597 rfl) mt_233 mt_220 rfl rfl (rcv1 rfl) rfl rfl)
theorem b233_1600 (l3 : Int32) (s0 : Int32) (s1 : Int32) : rn xs L 233 1600 [vS 1, vR 0, vR 44, vI l3] [vI s0, vI s1] (mw f a g) = if s1 = s0 then rn xs L 233 1605 [vS 1, vR 0, vR 44, vI l3] [] (mw f a g) else rn xs L 233 1603 [vS 1, vR 0, vR 44, vI l3] [] (mw f a g) :=
  (r_eq (pg_of mt_233 dL_law_1600 rfl))
theorem b233_1603 (l3 : Int32) : rn xs L 233 1603 [vS 1, vR 0, vR 44, vI l3] [] (mw f a g) = some (some (vI (0 : Int32)), (mw f a g)) :=
  (r_con (pg_of mt_233 dL_law_1603 rfl) (v2 := (0 : Int32)) (by decide)).trans <|
  (r_rz (pg_of mt_233 dL_law_1604 rfl) mt_233 rfl (Or.inl rfl))
theorem b233_1605 (l3 : Int32) : rn xs L 233 1605 [vS 1, vR 0, vR 44, vI l3] [] (mw f a g) = rn xs L 233 18 [vS 1, vR 0, vR 44, vI (l3 + (5 : Int32))] [] (mw f a g) :=
  (r_inc (pg_of mt_233 dL_law_1605 rfl) (y := (5 : Int32)) (by decide) rfl rfl).trans <|
  (r_gto (pg_of mt_233 dL_law_1608 rfl))
theorem b233_1611 (l3 : Int32) : rn xs L 233 1611 [vS 1, vR 0, vR 44, vI l3] [] (mw f a g) = some (some (vI (1 : Int32)), (mw f a g)) :=
  (r_con (pg_of mt_233 dL_law_1611 rfl) (v2 := (1 : Int32)) (by decide)).trans <|
  (r_rz (pg_of mt_233 dL_law_1612 rfl) mt_233 rfl (Or.inr rfl))
end
