/-! ===== the makers (laid by a program: wip/whole/layctor.py) ===== -/
section
variable {xs : Nat → Int32} {L : Nat} {f a : Nat → Nat → Int32} {fr ar : Nat → Nat → Option Nat} {g : Nat → Nat → Int64}
theorem ct_112_44_s0 (hz : Fz 45 f fr a g ar)  : rn xs L 112 0 [vR 44] [] (cw 45 f fr a g ar) = rn xs L 112 36 [vR 44] [] (cw 49 f (ma_u2 (ma_u2 (ma_u2 (ma_u2 fr 44 0 (some 45)) 44 1 (some 46)) 44 2 (some 47)) 44 3 (some 48)) a g ar) :=
  (r_ald (pg_of mt_112 dX6_init_0 rfl) rfl).trans <|
  (k_oin (pg_of mt_112 dX6_init_1 rfl) (Nat.le_of_ble_eq_true rfl)).trans <|
  (r_ald (pg_of mt_112 dX6_init_4 rfl) rfl).trans <|
  (r_con (pg_of mt_112 dX6_init_5 rfl) (v2 := (62 : Int32)) (by decide)).trans <|
  (k_nwa (n := 45) (t := 0) (N := 62) (pg_of mt_112 dX6_init_7 rfl) (by decide) (by decide) (by decide) rfl hz).trans <|
  (k_ptr (ci := 6) (k := 0) (pg_of mt_112 dX6_init_9 rfl) rfl).trans <|
  (r_ald (pg_of mt_112 dX6_init_12 rfl) rfl).trans <|
  (r_con (pg_of mt_112 dX6_init_13 rfl) (v2 := (62 : Int32)) (by decide)).trans <|
  (k_nwa (n := 46) (t := 0) (N := 62) (pg_of mt_112 dX6_init_15 rfl) (by decide) (by decide) (by decide) rfl (hz.up.ur (by decide))).trans <|
  (k_ptr (ci := 6) (k := 1) (pg_of mt_112 dX6_init_17 rfl) rfl).trans <|
  (r_ald (pg_of mt_112 dX6_init_20 rfl) rfl).trans <|
  (r_con (pg_of mt_112 dX6_init_21 rfl) (v2 := (62 : Int32)) (by decide)).trans <|
  (k_nwa (n := 47) (t := 0) (N := 62) (pg_of mt_112 dX6_init_23 rfl) (by decide) (by decide) (by decide) rfl ((hz.up.ur (by decide)).up.ur (by decide))).trans <|
  (k_ptr (ci := 6) (k := 2) (pg_of mt_112 dX6_init_25 rfl) rfl).trans <|
  (r_ald (pg_of mt_112 dX6_init_28 rfl) rfl).trans <|
  (r_con (pg_of mt_112 dX6_init_29 rfl) (v2 := (62 : Int32)) (by decide)).trans <|
  (k_nwa (n := 48) (t := 0) (N := 62) (pg_of mt_112 dX6_init_31 rfl) (by decide) (by decide) (by decide) rfl (((hz.up.ur (by decide)).up.ur (by decide)).up.ur (by decide))).trans <|
  (k_ptr (ci := 6) (k := 3) (pg_of mt_112 dX6_init_33 rfl) rfl)
theorem ct_112_44_s1 (hz : Fz 49 f fr a g ar)  : rn xs L 112 36 [vR 44] [] (cw 49 f fr a g ar) = rn xs L 112 61 [vR 44] [] (cw 52 f (ma_u2 (ma_u2 (ma_u2 fr 44 5 (some 49)) 44 12 (some 50)) 44 13 (some 51)) a g ar) :=
  (r_ald (pg_of mt_112 dX6_init_36 rfl) rfl).trans <|
  (r_con (pg_of mt_112 dX6_init_37 rfl) (v2 := (200 : Int32)) (by decide)).trans <|
  (k_nwa (n := 49) (t := 0) (N := 200) (pg_of mt_112 dX6_init_40 rfl) (by decide) (by decide) (by decide) rfl hz).trans <|
  (k_ptr (ci := 6) (k := 5) (pg_of mt_112 dX6_init_42 rfl) rfl).trans <|
  (r_ald (pg_of mt_112 dX6_init_45 rfl) rfl).trans <|
  (r_con (pg_of mt_112 dX6_init_46 rfl) (v2 := (8 : Int32)) (by decide)).trans <|
  (k_nwa (n := 50) (t := 0) (N := 8) (pg_of mt_112 dX6_init_48 rfl) (by decide) (by decide) (by decide) rfl (hz.up.ur (by decide))).trans <|
  (k_ptr (ci := 6) (k := 12) (pg_of mt_112 dX6_init_50 rfl) rfl).trans <|
  (r_ald (pg_of mt_112 dX6_init_53 rfl) rfl).trans <|
  (r_con (pg_of mt_112 dX6_init_54 rfl) (v2 := (30 : Int32)) (by decide)).trans <|
  (k_nwa (n := 51) (t := 0) (N := 30) (pg_of mt_112 dX6_init_56 rfl) (by decide) (by decide) (by decide) rfl ((hz.up.ur (by decide)).up.ur (by decide))).trans <|
  (k_ptr (ci := 6) (k := 13) (pg_of mt_112 dX6_init_58 rfl) rfl)
theorem ct_112_44_s2 (hz : Fz 52 f fr a g ar)  : rn xs L 112 61 [vR 44] [] (cw 52 f fr a g ar) = rn xs L 112 84 [vR 44] [] (cw 53 f (ma_u2 fr 44 15 (some 52)) (ma_u2 (ma_u2 (ma_u2 (ma_u2 a 52 0 (-1 : Int32)) 52 1 (-1 : Int32)) 52 2 (-1 : Int32)) 52 3 (-1 : Int32)) g ar) :=
  (r_ald (pg_of mt_112 dX6_init_61 rfl) rfl).trans <|
  (r_con (pg_of mt_112 dX6_init_62 rfl) (v2 := (4 : Int32)) (by decide)).trans <|
  (k_nwa (n := 52) (t := 0) (N := 4) (pg_of mt_112 dX6_init_63 rfl) (by decide) (by decide) (by decide) rfl hz).trans <|
  (r_dup (pg_of mt_112 dX6_init_65 rfl) rfl).trans <|
  (r_con (pg_of mt_112 dX6_init_66 rfl) (v2 := (0 : Int32)) (by decide)).trans <|
  (r_con (pg_of mt_112 dX6_init_67 rfl) (v2 := (-1 : Int32)) (by decide)).trans <|
  (k_iast (N := 4) (j := 0) (pg_of mt_112 dX6_init_68 rfl) rfl (by decide) (by decide)).trans <|
  (r_dup (pg_of mt_112 dX6_init_69 rfl) rfl).trans <|
  (r_con (pg_of mt_112 dX6_init_70 rfl) (v2 := (1 : Int32)) (by decide)).trans <|
  (r_con (pg_of mt_112 dX6_init_71 rfl) (v2 := (-1 : Int32)) (by decide)).trans <|
  (k_iast (N := 4) (j := 1) (pg_of mt_112 dX6_init_72 rfl) rfl (by decide) (by decide)).trans <|
  (r_dup (pg_of mt_112 dX6_init_73 rfl) rfl).trans <|
  (r_con (pg_of mt_112 dX6_init_74 rfl) (v2 := (2 : Int32)) (by decide)).trans <|
  (r_con (pg_of mt_112 dX6_init_75 rfl) (v2 := (-1 : Int32)) (by decide)).trans <|
  (k_iast (N := 4) (j := 2) (pg_of mt_112 dX6_init_76 rfl) rfl (by decide) (by decide)).trans <|
  (r_dup (pg_of mt_112 dX6_init_77 rfl) rfl).trans <|
  (r_con (pg_of mt_112 dX6_init_78 rfl) (v2 := (3 : Int32)) (by decide)).trans <|
  (r_con (pg_of mt_112 dX6_init_79 rfl) (v2 := (-1 : Int32)) (by decide)).trans <|
  (k_iast (N := 4) (j := 3) (pg_of mt_112 dX6_init_80 rfl) rfl (by decide) (by decide)).trans <|
  (k_ptr (ci := 6) (k := 15) (pg_of mt_112 dX6_init_81 rfl) rfl)
theorem ct_112_44_s3 (hz : Fz 53 f fr a g ar)  : rn xs L 112 84 [vR 44] [] (cw 53 f fr a g ar) = rn xs L 112 107 [vR 44] [] (cw 56 f (ma_u2 (ma_u2 (ma_u2 fr 44 16 (some 53)) 44 17 (some 54)) 44 18 (some 55)) a g ar) :=
  (r_ald (pg_of mt_112 dX6_init_84 rfl) rfl).trans <|
  (r_con (pg_of mt_112 dX6_init_85 rfl) (v2 := (4 : Int32)) (by decide)).trans <|
  (k_nwa (n := 53) (t := 0) (N := 4) (pg_of mt_112 dX6_init_86 rfl) (by decide) (by decide) (by decide) rfl hz).trans <|
  (k_ptr (ci := 6) (k := 16) (pg_of mt_112 dX6_init_88 rfl) rfl).trans <|
  (r_ald (pg_of mt_112 dX6_init_91 rfl) rfl).trans <|
  (r_con (pg_of mt_112 dX6_init_92 rfl) (v2 := (160 : Int32)) (by decide)).trans <|
  (k_nwa (n := 54) (t := 0) (N := 160) (pg_of mt_112 dX6_init_95 rfl) (by decide) (by decide) (by decide) rfl (hz.up.ur (by decide))).trans <|
  (k_ptr (ci := 6) (k := 17) (pg_of mt_112 dX6_init_97 rfl) rfl).trans <|
  (r_ald (pg_of mt_112 dX6_init_100 rfl) rfl).trans <|
  (r_con (pg_of mt_112 dX6_init_101 rfl) (v2 := (4 : Int32)) (by decide)).trans <|
  (k_nwa (n := 55) (t := 0) (N := 4) (pg_of mt_112 dX6_init_102 rfl) (by decide) (by decide) (by decide) rfl ((hz.up.ur (by decide)).up.ur (by decide))).trans <|
  (k_ptr (ci := 6) (k := 18) (pg_of mt_112 dX6_init_104 rfl) rfl)
theorem ct_112_44_s4 (hz : Fz 56 f fr a g ar)  : rn xs L 112 107 [vR 44] [] (cw 56 f fr a g ar) = (ev xs L 113 3 [vR 44] (cw 59 f (ma_u2 (ma_u2 (ma_u2 fr 44 19 (some 56)) 44 20 (some 57)) 44 21 (some 58)) a g ar)).bind (fun b => rn xs L 112 133 [vR 44] (b.1.toList ++ []) b.2) :=
  (r_ald (pg_of mt_112 dX6_init_107 rfl) rfl).trans <|
  (r_con (pg_of mt_112 dX6_init_108 rfl) (v2 := (4 : Int32)) (by decide)).trans <|
  (k_nwa (n := 56) (t := 0) (N := 4) (pg_of mt_112 dX6_init_109 rfl) (by decide) (by decide) (by decide) rfl hz).trans <|
  (k_ptr (ci := 6) (k := 19) (pg_of mt_112 dX6_init_111 rfl) rfl).trans <|
  (r_ald (pg_of mt_112 dX6_init_114 rfl) rfl).trans <|
  (r_con (pg_of mt_112 dX6_init_115 rfl) (v2 := (4 : Int32)) (by decide)).trans <|
  (k_nwa (n := 57) (t := 0) (N := 4) (pg_of mt_112 dX6_init_116 rfl) (by decide) (by decide) (by decide) rfl (hz.up.ur (by decide))).trans <|
  (k_ptr (ci := 6) (k := 20) (pg_of mt_112 dX6_init_118 rfl) rfl).trans <|
  (r_ald (pg_of mt_112 dX6_init_121 rfl) rfl).trans <|
  (r_con (pg_of mt_112 dX6_init_122 rfl) (v2 := (30 : Int32)) (by decide)).trans <|
  (k_nwa (n := 58) (t := 0) (N := 30) (pg_of mt_112 dX6_init_124 rfl) (by decide) (by decide) (by decide) rfl ((hz.up.ur (by decide)).up.ur (by decide))).trans <|
  (k_ptr (ci := 6) (k := 21) (pg_of mt_112 dX6_init_126 rfl) rfl).trans <|
  (r_ald (pg_of mt_112 dX6_init_129 rfl) rfl).trans <|
  (r_call (t := tt_112) (t2 := tt_113) (pg_of mt_112 dX6_init_130 rfl) mt_112 mt_113 rfl rfl (rcv1 rfl) rfl rfl)
end
