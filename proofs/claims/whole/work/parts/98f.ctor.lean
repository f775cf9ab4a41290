/-! ===== the makers (laid by a program: wip/whole/layctor.py) ===== -/
section
variable {xs : Nat → Int32} {L : Nat} {f a : Nat → Nat → Int32} {fr ar : Nat → Nat → Option Nat} {g : Nat → Nat → Int64}
theorem ct_54_0_s0 (hz : Fz 1 f fr a g ar)  : rn xs L 54 0 [vR 0, (vS 0)] [] (cw 1 f fr a g ar) = (ev xs L 30 1 [vR 1] (cw 2 f fr a g ar)).bind (fun b => rn xs L 54 12 [vR 0, (vS 0)] (b.1.toList ++ [vR 1, vR 0]) b.2) :=
  (r_ald (pg_of mt_54 dX5_init_0 rfl) rfl).trans <|
  (k_oin (pg_of mt_54 dX5_init_1 rfl) (Nat.le_of_ble_eq_true rfl)).trans <|
  (r_ald (pg_of mt_54 dX5_init_4 rfl) rfl).trans <|
  (k_new (n := 1) (ci := 4) (pg_of mt_54 dX5_init_5 rfl) (by decide) rfl hz).trans <|
  (r_dup (pg_of mt_54 dX5_init_8 rfl) rfl).trans <|
  (r_call (t := tt_54) (t2 := tt_30) (pg_of mt_54 dX5_init_9 rfl) mt_54 mt_30 rfl rfl rfl rfl rfl)
theorem ct_30_1_s0 (hz : Fz 2 f fr a g ar)  : rn xs L 30 0 [vR 1] [] (cw 2 f fr a g ar) = (ev xs L 31 2 [vR 1] (cw 9 (ma_u2 f 1 10 (1 : Int32)) (ma_u2 (ma_u2 (ma_u2 (ma_u2 (ma_u2 (ma_u2 (ma_u2 fr 1 0 (some 2)) 1 1 (some 3)) 1 2 (some 4)) 1 3 (some 5)) 1 4 (some 6)) 1 5 (some 7)) 1 6 (some 8)) a g ar)).bind (fun b => rn xs L 30 68 [vR 1] (b.1.toList ++ []) b.2) :=
  (r_ald (pg_of mt_30 dX4_init_0 rfl) rfl).trans <|
  (k_oin (pg_of mt_30 dX4_init_1 rfl) (Nat.le_of_ble_eq_true rfl)).trans <|
  (r_ald (pg_of mt_30 dX4_init_4 rfl) rfl).trans <|
  (r_con (pg_of mt_30 dX4_init_5 rfl) (v2 := (4 : Int32)) (by decide)).trans <|
  (k_nwa (n := 2) (t := 0) (N := 4) (pg_of mt_30 dX4_init_6 rfl) (by decide) (by decide) (by decide) rfl hz).trans <|
  (k_ptr (ci := 4) (k := 0) (pg_of mt_30 dX4_init_8 rfl) rfl).trans <|
  (r_ald (pg_of mt_30 dX4_init_11 rfl) rfl).trans <|
  (r_con (pg_of mt_30 dX4_init_12 rfl) (v2 := (6 : Int32)) (by decide)).trans <|
  (k_nwa (n := 3) (t := 0) (N := 6) (pg_of mt_30 dX4_init_14 rfl) (by decide) (by decide) (by decide) rfl (hz.up.ur (by decide))).trans <|
  (k_ptr (ci := 4) (k := 1) (pg_of mt_30 dX4_init_16 rfl) rfl).trans <|
  (r_ald (pg_of mt_30 dX4_init_19 rfl) rfl).trans <|
  (r_con (pg_of mt_30 dX4_init_20 rfl) (v2 := (8 : Int32)) (by decide)).trans <|
  (k_nwa (n := 4) (t := 0) (N := 8) (pg_of mt_30 dX4_init_22 rfl) (by decide) (by decide) (by decide) rfl ((hz.up.ur (by decide)).up.ur (by decide))).trans <|
  (k_ptr (ci := 4) (k := 2) (pg_of mt_30 dX4_init_24 rfl) rfl).trans <|
  (r_ald (pg_of mt_30 dX4_init_27 rfl) rfl).trans <|
  (r_con (pg_of mt_30 dX4_init_28 rfl) (v2 := (8 : Int32)) (by decide)).trans <|
  (k_nwa (n := 5) (t := 0) (N := 8) (pg_of mt_30 dX4_init_30 rfl) (by decide) (by decide) (by decide) rfl (((hz.up.ur (by decide)).up.ur (by decide)).up.ur (by decide))).trans <|
  (k_ptr (ci := 4) (k := 3) (pg_of mt_30 dX4_init_32 rfl) rfl).trans <|
  (r_ald (pg_of mt_30 dX4_init_35 rfl) rfl).trans <|
  (r_con (pg_of mt_30 dX4_init_36 rfl) (v2 := (8 : Int32)) (by decide)).trans <|
  (k_nwa (n := 6) (t := 0) (N := 8) (pg_of mt_30 dX4_init_38 rfl) (by decide) (by decide) (by decide) rfl ((((hz.up.ur (by decide)).up.ur (by decide)).up.ur (by decide)).up.ur (by decide))).trans <|
  (k_ptr (ci := 4) (k := 4) (pg_of mt_30 dX4_init_40 rfl) rfl).trans <|
  (r_ald (pg_of mt_30 dX4_init_43 rfl) rfl).trans <|
  (r_con (pg_of mt_30 dX4_init_44 rfl) (v2 := (8 : Int32)) (by decide)).trans <|
  (k_nwa (n := 7) (t := 0) (N := 8) (pg_of mt_30 dX4_init_46 rfl) (by decide) (by decide) (by decide) rfl (((((hz.up.ur (by decide)).up.ur (by decide)).up.ur (by decide)).up.ur (by decide)).up.ur (by decide))).trans <|
  (k_ptr (ci := 4) (k := 5) (pg_of mt_30 dX4_init_48 rfl) rfl).trans <|
  (r_ald (pg_of mt_30 dX4_init_51 rfl) rfl).trans <|
  (r_con (pg_of mt_30 dX4_init_52 rfl) (v2 := (8 : Int32)) (by decide)).trans <|
  (k_nwa (n := 8) (t := 0) (N := 8) (pg_of mt_30 dX4_init_54 rfl) (by decide) (by decide) (by decide) rfl ((((((hz.up.ur (by decide)).up.ur (by decide)).up.ur (by decide)).up.ur (by decide)).up.ur (by decide)).up.ur (by decide))).trans <|
  (k_ptr (ci := 4) (k := 6) (pg_of mt_30 dX4_init_56 rfl) rfl).trans <|
  (r_ald (pg_of mt_30 dX4_init_59 rfl) rfl).trans <|
  (r_con (pg_of mt_30 dX4_init_60 rfl) (v2 := (1 : Int32)) (by decide)).trans <|
  (k_pti (ci := 4) (k := 10) (pg_of mt_30 dX4_init_61 rfl) rfl rfl).trans <|
  (r_ald (pg_of mt_30 dX4_init_64 rfl) rfl).trans <|
  (r_call (t := tt_30) (t2 := tt_31) (pg_of mt_30 dX4_init_65 rfl) mt_30 mt_31 rfl rfl (rcv1 rfl) rfl rfl)
theorem ct_31_1_s0 (hz : Fz 9 f fr a g ar) (hr_1_0 : fr 1 0 = some 2) (hr_1_1 : fr 1 1 = some 3) : rn xs L 31 0 [vR 1, (vS 0)] [] (cw 9 f fr a g ar) = some (none, (cw 9 (ma_u2 (ma_u2 (ma_u2 (ma_u2 f 1 7 (0 : Int32)) 1 8 (0 : Int32)) 1 9 (0 : Int32)) 1 11 (0 : Int32)) fr (ma_u2 (ma_u2 (ma_u2 (ma_u2 (ma_u2 (ma_u2 (ma_u2 (ma_u2 (ma_u2 (ma_u2 a 2 0 (2 : Int32)) 2 1 (1 : Int32)) 2 2 (1 : Int32)) 2 3 (20 : Int32)) 3 0 (1 : Int32)) 3 1 (1 : Int32)) 3 2 (1 : Int32)) 3 3 (1 : Int32)) 3 4 (1 : Int32)) 3 5 (1 : Int32)) g ar)) :=
  (r_ald (pg_of mt_31 dX4_clear_0 rfl) rfl).trans <|
  (k_gtr (ci := 4) (k := 0) (b := 2) (pg_of mt_31 dX4_clear_1 rfl) rfl hr_1_0).trans <|
  (r_con (pg_of mt_31 dX4_clear_4 rfl) (v2 := (0 : Int32)) (by decide)).trans <|
  (r_con (pg_of mt_31 dX4_clear_5 rfl) (v2 := (2 : Int32)) (by decide)).trans <|
  (k_iast (N := 4) (j := 0) (pg_of mt_31 dX4_clear_6 rfl) rfl (by decide) (by decide)).trans <|
  (r_ald (pg_of mt_31 dX4_clear_7 rfl) rfl).trans <|
  (k_gtr (ci := 4) (k := 0) (b := 2) (pg_of mt_31 dX4_clear_8 rfl) rfl hr_1_0).trans <|
  (r_con (pg_of mt_31 dX4_clear_11 rfl) (v2 := (1 : Int32)) (by decide)).trans <|
  (r_con (pg_of mt_31 dX4_clear_12 rfl) (v2 := (1 : Int32)) (by decide)).trans <|
  (k_iast (N := 4) (j := 1) (pg_of mt_31 dX4_clear_13 rfl) rfl (by decide) (by decide)).trans <|
  (r_ald (pg_of mt_31 dX4_clear_14 rfl) rfl).trans <|
  (k_gtr (ci := 4) (k := 0) (b := 2) (pg_of mt_31 dX4_clear_15 rfl) rfl hr_1_0).trans <|
  (r_con (pg_of mt_31 dX4_clear_18 rfl) (v2 := (2 : Int32)) (by decide)).trans <|
  (r_con (pg_of mt_31 dX4_clear_19 rfl) (v2 := (1 : Int32)) (by decide)).trans <|
  (k_iast (N := 4) (j := 2) (pg_of mt_31 dX4_clear_20 rfl) rfl (by decide) (by decide)).trans <|
  (r_ald (pg_of mt_31 dX4_clear_21 rfl) rfl).trans <|
  (k_gtr (ci := 4) (k := 0) (b := 2) (pg_of mt_31 dX4_clear_22 rfl) rfl hr_1_0).trans <|
  (r_con (pg_of mt_31 dX4_clear_25 rfl) (v2 := (3 : Int32)) (by decide)).trans <|
  (r_con (pg_of mt_31 dX4_clear_26 rfl) (v2 := (20 : Int32)) (by decide)).trans <|
  (k_iast (N := 4) (j := 3) (pg_of mt_31 dX4_clear_28 rfl) rfl (by decide) (by decide)).trans <|
  (r_con (pg_of mt_31 dX4_clear_29 rfl) (v2 := (0 : Int32)) (by decide)).trans <|
  (r_ist (pg_of mt_31 dX4_clear_30 rfl) (Nat.le_of_ble_eq_true rfl) rfl).trans <|
  (r_ild (pg_of mt_31 dX4_clear_31 rfl) rfl).trans <|
  (r_con (pg_of mt_31 dX4_clear_32 rfl) (v2 := (6 : Int32)) (by decide)).trans <|
  (r_ge (pg_of mt_31 dX4_clear_34 rfl)).trans <|
  (if_pos (by decide)).trans <|
  (r_ald (pg_of mt_31 dX4_clear_37 rfl) rfl).trans <|
  (k_gtr (ci := 4) (k := 1) (b := 3) (pg_of mt_31 dX4_clear_38 rfl) rfl hr_1_1).trans <|
  (r_ild (pg_of mt_31 dX4_clear_41 rfl) rfl).trans <|
  (r_con (pg_of mt_31 dX4_clear_42 rfl) (v2 := (1 : Int32)) (by decide)).trans <|
  (k_iast (N := 6) (j := 0) (pg_of mt_31 dX4_clear_43 rfl) rfl (by decide) (by decide)).trans <|
  (k_inc (pg_of mt_31 dX4_clear_44 rfl) (y := (1 : Int32)) (z := (1 : Int32)) (by decide) rfl (by decide) rfl).trans <|
  (r_gto (pg_of mt_31 dX4_clear_47 rfl)).trans <|
  (r_ild (pg_of mt_31 dX4_clear_31 rfl) rfl).trans <|
  (r_con (pg_of mt_31 dX4_clear_32 rfl) (v2 := (6 : Int32)) (by decide)).trans <|
  (r_ge (pg_of mt_31 dX4_clear_34 rfl)).trans <|
  (if_pos (by decide)).trans <|
  (r_ald (pg_of mt_31 dX4_clear_37 rfl) rfl).trans <|
  (k_gtr (ci := 4) (k := 1) (b := 3) (pg_of mt_31 dX4_clear_38 rfl) rfl hr_1_1).trans <|
  (r_ild (pg_of mt_31 dX4_clear_41 rfl) rfl).trans <|
  (r_con (pg_of mt_31 dX4_clear_42 rfl) (v2 := (1 : Int32)) (by decide)).trans <|
  (k_iast (N := 6) (j := 1) (pg_of mt_31 dX4_clear_43 rfl) rfl (by decide) (by decide)).trans <|
  (k_inc (pg_of mt_31 dX4_clear_44 rfl) (y := (1 : Int32)) (z := (2 : Int32)) (by decide) rfl (by decide) rfl).trans <|
  (r_gto (pg_of mt_31 dX4_clear_47 rfl)).trans <|
  (r_ild (pg_of mt_31 dX4_clear_31 rfl) rfl).trans <|
  (r_con (pg_of mt_31 dX4_clear_32 rfl) (v2 := (6 : Int32)) (by decide)).trans <|
  (r_ge (pg_of mt_31 dX4_clear_34 rfl)).trans <|
  (if_pos (by decide)).trans <|
  (r_ald (pg_of mt_31 dX4_clear_37 rfl) rfl).trans <|
  (k_gtr (ci := 4) (k := 1) (b := 3) (pg_of mt_31 dX4_clear_38 rfl) rfl hr_1_1).trans <|
  (r_ild (pg_of mt_31 dX4_clear_41 rfl) rfl).trans <|
  (r_con (pg_of mt_31 dX4_clear_42 rfl) (v2 := (1 : Int32)) (by decide)).trans <|
  (k_iast (N := 6) (j := 2) (pg_of mt_31 dX4_clear_43 rfl) rfl (by decide) (by decide)).trans <|
  (k_inc (pg_of mt_31 dX4_clear_44 rfl) (y := (1 : Int32)) (z := (3 : Int32)) (by decide) rfl (by decide) rfl).trans <|
  (r_gto (pg_of mt_31 dX4_clear_47 rfl)).trans <|
  (r_ild (pg_of mt_31 dX4_clear_31 rfl) rfl).trans <|
  (r_con (pg_of mt_31 dX4_clear_32 rfl) (v2 := (6 : Int32)) (by decide)).trans <|
  (r_ge (pg_of mt_31 dX4_clear_34 rfl)).trans <|
  (if_pos (by decide)).trans <|
  (r_ald (pg_of mt_31 dX4_clear_37 rfl) rfl).trans <|
  (k_gtr (ci := 4) (k := 1) (b := 3) (pg_of mt_31 dX4_clear_38 rfl) rfl hr_1_1).trans <|
  (r_ild (pg_of mt_31 dX4_clear_41 rfl) rfl).trans <|
  (r_con (pg_of mt_31 dX4_clear_42 rfl) (v2 := (1 : Int32)) (by decide)).trans <|
  (k_iast (N := 6) (j := 3) (pg_of mt_31 dX4_clear_43 rfl) rfl (by decide) (by decide)).trans <|
  (k_inc (pg_of mt_31 dX4_clear_44 rfl) (y := (1 : Int32)) (z := (4 : Int32)) (by decide) rfl (by decide) rfl).trans <|
  (r_gto (pg_of mt_31 dX4_clear_47 rfl)).trans <|
  (r_ild (pg_of mt_31 dX4_clear_31 rfl) rfl).trans <|
  (r_con (pg_of mt_31 dX4_clear_32 rfl) (v2 := (6 : Int32)) (by decide)).trans <|
  (r_ge (pg_of mt_31 dX4_clear_34 rfl)).trans <|
  (if_pos (by decide)).trans <|
  (r_ald (pg_of mt_31 dX4_clear_37 rfl) rfl).trans <|
  (k_gtr (ci := 4) (k := 1) (b := 3) (pg_of mt_31 dX4_clear_38 rfl) rfl hr_1_1).trans <|
  (r_ild (pg_of mt_31 dX4_clear_41 rfl) rfl).trans <|
  (r_con (pg_of mt_31 dX4_clear_42 rfl) (v2 := (1 : Int32)) (by decide)).trans <|
  (k_iast (N := 6) (j := 4) (pg_of mt_31 dX4_clear_43 rfl) rfl (by decide) (by decide)).trans <|
  (k_inc (pg_of mt_31 dX4_clear_44 rfl) (y := (1 : Int32)) (z := (5 : Int32)) (by decide) rfl (by decide) rfl).trans <|
  (r_gto (pg_of mt_31 dX4_clear_47 rfl)).trans <|
  (r_ild (pg_of mt_31 dX4_clear_31 rfl) rfl).trans <|
  (r_con (pg_of mt_31 dX4_clear_32 rfl) (v2 := (6 : Int32)) (by decide)).trans <|
  (r_ge (pg_of mt_31 dX4_clear_34 rfl)).trans <|
  (if_pos (by decide)).trans <|
  (r_ald (pg_of mt_31 dX4_clear_37 rfl) rfl).trans <|
  (k_gtr (ci := 4) (k := 1) (b := 3) (pg_of mt_31 dX4_clear_38 rfl) rfl hr_1_1).trans <|
  (r_ild (pg_of mt_31 dX4_clear_41 rfl) rfl).trans <|
  (r_con (pg_of mt_31 dX4_clear_42 rfl) (v2 := (1 : Int32)) (by decide)).trans <|
  (k_iast (N := 6) (j := 5) (pg_of mt_31 dX4_clear_43 rfl) rfl (by decide) (by decide)).trans <|
  (k_inc (pg_of mt_31 dX4_clear_44 rfl) (y := (1 : Int32)) (z := (6 : Int32)) (by decide) rfl (by decide) rfl).trans <|
  (r_gto (pg_of mt_31 dX4_clear_47 rfl)).trans <|
  (r_ild (pg_of mt_31 dX4_clear_31 rfl) rfl).trans <|
  (r_con (pg_of mt_31 dX4_clear_32 rfl) (v2 := (6 : Int32)) (by decide)).trans <|
  (r_ge (pg_of mt_31 dX4_clear_34 rfl)).trans <|
  (if_neg (by decide)).trans <|
  (r_ald (pg_of mt_31 dX4_clear_50 rfl) rfl).trans <|
  (r_con (pg_of mt_31 dX4_clear_51 rfl) (v2 := (0 : Int32)) (by decide)).trans <|
  (k_pti (ci := 4) (k := 7) (pg_of mt_31 dX4_clear_52 rfl) rfl rfl).trans <|
  (r_ald (pg_of mt_31 dX4_clear_55 rfl) rfl).trans <|
  (r_con (pg_of mt_31 dX4_clear_56 rfl) (v2 := (0 : Int32)) (by decide)).trans <|
  (k_pti (ci := 4) (k := 8) (pg_of mt_31 dX4_clear_57 rfl) rfl rfl).trans <|
  (r_ald (pg_of mt_31 dX4_clear_60 rfl) rfl).trans <|
  (r_con (pg_of mt_31 dX4_clear_61 rfl) (v2 := (0 : Int32)) (by decide)).trans <|
  (k_pti (ci := 4) (k := 9) (pg_of mt_31 dX4_clear_62 rfl) rfl rfl).trans <|
  (r_ald (pg_of mt_31 dX4_clear_65 rfl) rfl).trans <|
  (r_con (pg_of mt_31 dX4_clear_66 rfl) (v2 := (0 : Int32)) (by decide)).trans <|
  (k_pti (ci := 4) (k := 11) (pg_of mt_31 dX4_clear_67 rfl) rfl rfl).trans <|
  (r_rv (pg_of mt_31 dX4_clear_70 rfl) mt_31 rfl)
theorem ct_31_1 (hz : Fz 9 f fr a g ar) (hr_1_0 : fr 1 0 = some 2) (hr_1_1 : fr 1 1 = some 3) : ev xs L 31 2 [vR 1] (cw 9 f fr a g ar) = some (none, (cw 9 (ma_u2 (ma_u2 (ma_u2 (ma_u2 f 1 7 (0 : Int32)) 1 8 (0 : Int32)) 1 9 (0 : Int32)) 1 11 (0 : Int32)) fr (ma_u2 (ma_u2 (ma_u2 (ma_u2 (ma_u2 (ma_u2 (ma_u2 (ma_u2 (ma_u2 (ma_u2 a 2 0 (2 : Int32)) 2 1 (1 : Int32)) 2 2 (1 : Int32)) 2 3 (20 : Int32)) 3 0 (1 : Int32)) 3 1 (1 : Int32)) 3 2 (1 : Int32)) 3 3 (1 : Int32)) 3 4 (1 : Int32)) 3 5 (1 : Int32)) g ar)) := by
  show rn xs L 31 0 [vR 1, (vS 0)] [] (cw 9 f fr a g ar) = _
  rw [ct_31_1_s0 hz (by first | rfl | assumption) (by first | rfl | assumption)]
theorem ct_30_1_s1 (hz : Fz 9 f fr a g ar)  : rn xs L 30 68 [vR 1] [] (cw 9 f fr a g ar) = some (none, (cw 9 f fr a g ar)) :=
  (r_rv (pg_of mt_30 dX4_init_68 rfl) mt_30 rfl)
theorem ct_30_1 (hz : Fz 2 f fr a g ar)  : ev xs L 30 1 [vR 1] (cw 2 f fr a g ar) = some (none, (cw 9 (ma_u2 (ma_u2 (ma_u2 (ma_u2 (ma_u2 f 1 10 (1 : Int32)) 1 7 (0 : Int32)) 1 8 (0 : Int32)) 1 9 (0 : Int32)) 1 11 (0 : Int32)) (ma_u2 (ma_u2 (ma_u2 (ma_u2 (ma_u2 (ma_u2 (ma_u2 fr 1 0 (some 2)) 1 1 (some 3)) 1 2 (some 4)) 1 3 (some 5)) 1 4 (some 6)) 1 5 (some 7)) 1 6 (some 8)) (ma_u2 (ma_u2 (ma_u2 (ma_u2 (ma_u2 (ma_u2 (ma_u2 (ma_u2 (ma_u2 (ma_u2 a 2 0 (2 : Int32)) 2 1 (1 : Int32)) 2 2 (1 : Int32)) 2 3 (20 : Int32)) 3 0 (1 : Int32)) 3 1 (1 : Int32)) 3 2 (1 : Int32)) 3 3 (1 : Int32)) 3 4 (1 : Int32)) 3 5 (1 : Int32)) g ar)) := by
  show rn xs L 30 0 [vR 1] [] (cw 2 f fr a g ar) = _
  rw [ct_30_1_s0 hz]
  rw [ct_31_1 ((((((((hz.up.ur (by decide)).up.ur (by decide)).up.ur (by decide)).up.ur (by decide)).up.ur (by decide)).up.ur (by decide)).up.ur (by decide)).uf (by decide)) (by first | rfl | assumption) (by first | rfl | assumption)]
  simp only [Option.bind_some, Option.toList_none, List.nil_append]
  rw [ct_30_1_s1 ((((((((((((((((((((((hz.up.ur (by decide)).up.ur (by decide)).up.ur (by decide)).up.ur (by decide)).up.ur (by decide)).up.ur (by decide)).up.ur (by decide)).uf (by decide)).ua (by decide)).ua (by decide)).ua (by decide)).ua (by decide)).ua (by decide)).ua (by decide)).ua (by decide)).ua (by decide)).ua (by decide)).ua (by decide)).uf (by decide)).uf (by decide)).uf (by decide)).uf (by decide))]
theorem ct_54_0_s1 (hz : Fz 9 f fr a g ar)  : rn xs L 54 12 [vR 0, (vS 0)] [vR 1, vR 0] (cw 9 f fr a g ar) = (ev xs L 30 1 [vR 9] (cw 10 f (ma_u2 fr 0 0 (some 1)) a g ar)).bind (fun b => rn xs L 54 23 [vR 0, (vS 0)] (b.1.toList ++ [vR 9, vR 0]) b.2) :=
  (k_ptr (ci := 5) (k := 0) (pg_of mt_54 dX5_init_12 rfl) rfl).trans <|
  (r_ald (pg_of mt_54 dX5_init_15 rfl) rfl).trans <|
  (k_new (n := 9) (ci := 4) (pg_of mt_54 dX5_init_16 rfl) (by decide) rfl (hz.ur (by decide))).trans <|
  (r_dup (pg_of mt_54 dX5_init_19 rfl) rfl).trans <|
  (r_call (t := tt_54) (t2 := tt_30) (pg_of mt_54 dX5_init_20 rfl) mt_54 mt_30 rfl rfl rfl rfl rfl)
theorem ct_30_9_s0 (hz : Fz 10 f fr a g ar)  : rn xs L 30 0 [vR 9] [] (cw 10 f fr a g ar) = (ev xs L 31 2 [vR 9] (cw 17 (ma_u2 f 9 10 (1 : Int32)) (ma_u2 (ma_u2 (ma_u2 (ma_u2 (ma_u2 (ma_u2 (ma_u2 fr 9 0 (some 10)) 9 1 (some 11)) 9 2 (some 12)) 9 3 (some 13)) 9 4 (some 14)) 9 5 (some 15)) 9 6 (some 16)) a g ar)).bind (fun b => rn xs L 30 68 [vR 9] (b.1.toList ++ []) b.2) :=
  (r_ald (pg_of mt_30 dX4_init_0 rfl) rfl).trans <|
  (k_oin (pg_of mt_30 dX4_init_1 rfl) (Nat.le_of_ble_eq_true rfl)).trans <|
  (r_ald (pg_of mt_30 dX4_init_4 rfl) rfl).trans <|
  (r_con (pg_of mt_30 dX4_init_5 rfl) (v2 := (4 : Int32)) (by decide)).trans <|
  (k_nwa (n := 10) (t := 0) (N := 4) (pg_of mt_30 dX4_init_6 rfl) (by decide) (by decide) (by decide) rfl hz).trans <|
  (k_ptr (ci := 4) (k := 0) (pg_of mt_30 dX4_init_8 rfl) rfl).trans <|
  (r_ald (pg_of mt_30 dX4_init_11 rfl) rfl).trans <|
  (r_con (pg_of mt_30 dX4_init_12 rfl) (v2 := (6 : Int32)) (by decide)).trans <|
  (k_nwa (n := 11) (t := 0) (N := 6) (pg_of mt_30 dX4_init_14 rfl) (by decide) (by decide) (by decide) rfl (hz.up.ur (by decide))).trans <|
  (k_ptr (ci := 4) (k := 1) (pg_of mt_30 dX4_init_16 rfl) rfl).trans <|
  (r_ald (pg_of mt_30 dX4_init_19 rfl) rfl).trans <|
  (r_con (pg_of mt_30 dX4_init_20 rfl) (v2 := (8 : Int32)) (by decide)).trans <|
  (k_nwa (n := 12) (t := 0) (N := 8) (pg_of mt_30 dX4_init_22 rfl) (by decide) (by decide) (by decide) rfl ((hz.up.ur (by decide)).up.ur (by decide))).trans <|
  (k_ptr (ci := 4) (k := 2) (pg_of mt_30 dX4_init_24 rfl) rfl).trans <|
  (r_ald (pg_of mt_30 dX4_init_27 rfl) rfl).trans <|
  (r_con (pg_of mt_30 dX4_init_28 rfl) (v2 := (8 : Int32)) (by decide)).trans <|
  (k_nwa (n := 13) (t := 0) (N := 8) (pg_of mt_30 dX4_init_30 rfl) (by decide) (by decide) (by decide) rfl (((hz.up.ur (by decide)).up.ur (by decide)).up.ur (by decide))).trans <|
  (k_ptr (ci := 4) (k := 3) (pg_of mt_30 dX4_init_32 rfl) rfl).trans <|
  (r_ald (pg_of mt_30 dX4_init_35 rfl) rfl).trans <|
  (r_con (pg_of mt_30 dX4_init_36 rfl) (v2 := (8 : Int32)) (by decide)).trans <|
  (k_nwa (n := 14) (t := 0) (N := 8) (pg_of mt_30 dX4_init_38 rfl) (by decide) (by decide) (by decide) rfl ((((hz.up.ur (by decide)).up.ur (by decide)).up.ur (by decide)).up.ur (by decide))).trans <|
  (k_ptr (ci := 4) (k := 4) (pg_of mt_30 dX4_init_40 rfl) rfl).trans <|
  (r_ald (pg_of mt_30 dX4_init_43 rfl) rfl).trans <|
  (r_con (pg_of mt_30 dX4_init_44 rfl) (v2 := (8 : Int32)) (by decide)).trans <|
  (k_nwa (n := 15) (t := 0) (N := 8) (pg_of mt_30 dX4_init_46 rfl) (by decide) (by decide) (by decide) rfl (((((hz.up.ur (by decide)).up.ur (by decide)).up.ur (by decide)).up.ur (by decide)).up.ur (by decide))).trans <|
  (k_ptr (ci := 4) (k := 5) (pg_of mt_30 dX4_init_48 rfl) rfl).trans <|
  (r_ald (pg_of mt_30 dX4_init_51 rfl) rfl).trans <|
  (r_con (pg_of mt_30 dX4_init_52 rfl) (v2 := (8 : Int32)) (by decide)).trans <|
  (k_nwa (n := 16) (t := 0) (N := 8) (pg_of mt_30 dX4_init_54 rfl) (by decide) (by decide) (by decide) rfl ((((((hz.up.ur (by decide)).up.ur (by decide)).up.ur (by decide)).up.ur (by decide)).up.ur (by decide)).up.ur (by decide))).trans <|
  (k_ptr (ci := 4) (k := 6) (pg_of mt_30 dX4_init_56 rfl) rfl).trans <|
  (r_ald (pg_of mt_30 dX4_init_59 rfl) rfl).trans <|
  (r_con (pg_of mt_30 dX4_init_60 rfl) (v2 := (1 : Int32)) (by decide)).trans <|
  (k_pti (ci := 4) (k := 10) (pg_of mt_30 dX4_init_61 rfl) rfl rfl).trans <|
  (r_ald (pg_of mt_30 dX4_init_64 rfl) rfl).trans <|
  (r_call (t := tt_30) (t2 := tt_31) (pg_of mt_30 dX4_init_65 rfl) mt_30 mt_31 rfl rfl (rcv1 rfl) rfl rfl)
theorem ct_31_9_s0 (hz : Fz 17 f fr a g ar) (hr_9_0 : fr 9 0 = some 10) (hr_9_1 : fr 9 1 = some 11) : rn xs L 31 0 [vR 9, (vS 0)] [] (cw 17 f fr a g ar) = some (none, (cw 17 (ma_u2 (ma_u2 (ma_u2 (ma_u2 f 9 7 (0 : Int32)) 9 8 (0 : Int32)) 9 9 (0 : Int32)) 9 11 (0 : Int32)) fr (ma_u2 (ma_u2 (ma_u2 (ma_u2 (ma_u2 (ma_u2 (ma_u2 (ma_u2 (ma_u2 (ma_u2 a 10 0 (2 : Int32)) 10 1 (1 : Int32)) 10 2 (1 : Int32)) 10 3 (20 : Int32)) 11 0 (1 : Int32)) 11 1 (1 : Int32)) 11 2 (1 : Int32)) 11 3 (1 : Int32)) 11 4 (1 : Int32)) 11 5 (1 : Int32)) g ar)) :=
  (r_ald (pg_of mt_31 dX4_clear_0 rfl) rfl).trans <|
  (k_gtr (ci := 4) (k := 0) (b := 10) (pg_of mt_31 dX4_clear_1 rfl) rfl hr_9_0).trans <|
  (r_con (pg_of mt_31 dX4_clear_4 rfl) (v2 := (0 : Int32)) (by decide)).trans <|
  (r_con (pg_of mt_31 dX4_clear_5 rfl) (v2 := (2 : Int32)) (by decide)).trans <|
  (k_iast (N := 4) (j := 0) (pg_of mt_31 dX4_clear_6 rfl) rfl (by decide) (by decide)).trans <|
  (r_ald (pg_of mt_31 dX4_clear_7 rfl) rfl).trans <|
  (k_gtr (ci := 4) (k := 0) (b := 10) (pg_of mt_31 dX4_clear_8 rfl) rfl hr_9_0).trans <|
  (r_con (pg_of mt_31 dX4_clear_11 rfl) (v2 := (1 : Int32)) (by decide)).trans <|
  (r_con (pg_of mt_31 dX4_clear_12 rfl) (v2 := (1 : Int32)) (by decide)).trans <|
  (k_iast (N := 4) (j := 1) (pg_of mt_31 dX4_clear_13 rfl) rfl (by decide) (by decide)).trans <|
  (r_ald (pg_of mt_31 dX4_clear_14 rfl) rfl).trans <|
  (k_gtr (ci := 4) (k := 0) (b := 10) (pg_of mt_31 dX4_clear_15 rfl) rfl hr_9_0).trans <|
  (r_con (pg_of mt_31 dX4_clear_18 rfl) (v2 := (2 : Int32)) (by decide)).trans <|
  (r_con (pg_of mt_31 dX4_clear_19 rfl) (v2 := (1 : Int32)) (by decide)).trans <|
  (k_iast (N := 4) (j := 2) (pg_of mt_31 dX4_clear_20 rfl) rfl (by decide) (by decide)).trans <|
  (r_ald (pg_of mt_31 dX4_clear_21 rfl) rfl).trans <|
  (k_gtr (ci := 4) (k := 0) (b := 10) (pg_of mt_31 dX4_clear_22 rfl) rfl hr_9_0).trans <|
  (r_con (pg_of mt_31 dX4_clear_25 rfl) (v2 := (3 : Int32)) (by decide)).trans <|
  (r_con (pg_of mt_31 dX4_clear_26 rfl) (v2 := (20 : Int32)) (by decide)).trans <|
  (k_iast (N := 4) (j := 3) (pg_of mt_31 dX4_clear_28 rfl) rfl (by decide) (by decide)).trans <|
  (r_con (pg_of mt_31 dX4_clear_29 rfl) (v2 := (0 : Int32)) (by decide)).trans <|
  (r_ist (pg_of mt_31 dX4_clear_30 rfl) (Nat.le_of_ble_eq_true rfl) rfl).trans <|
  (r_ild (pg_of mt_31 dX4_clear_31 rfl) rfl).trans <|
  (r_con (pg_of mt_31 dX4_clear_32 rfl) (v2 := (6 : Int32)) (by decide)).trans <|
  (r_ge (pg_of mt_31 dX4_clear_34 rfl)).trans <|
  (if_pos (by decide)).trans <|
  (r_ald (pg_of mt_31 dX4_clear_37 rfl) rfl).trans <|
  (k_gtr (ci := 4) (k := 1) (b := 11) (pg_of mt_31 dX4_clear_38 rfl) rfl hr_9_1).trans <|
  (r_ild (pg_of mt_31 dX4_clear_41 rfl) rfl).trans <|
  (r_con (pg_of mt_31 dX4_clear_42 rfl) (v2 := (1 : Int32)) (by decide)).trans <|
  (k_iast (N := 6) (j := 0) (pg_of mt_31 dX4_clear_43 rfl) rfl (by decide) (by decide)).trans <|
  (k_inc (pg_of mt_31 dX4_clear_44 rfl) (y := (1 : Int32)) (z := (1 : Int32)) (by decide) rfl (by decide) rfl).trans <|
  (r_gto (pg_of mt_31 dX4_clear_47 rfl)).trans <|
  (r_ild (pg_of mt_31 dX4_clear_31 rfl) rfl).trans <|
  (r_con (pg_of mt_31 dX4_clear_32 rfl) (v2 := (6 : Int32)) (by decide)).trans <|
  (r_ge (pg_of mt_31 dX4_clear_34 rfl)).trans <|
  (if_pos (by decide)).trans <|
  (r_ald (pg_of mt_31 dX4_clear_37 rfl) rfl).trans <|
  (k_gtr (ci := 4) (k := 1) (b := 11) (pg_of mt_31 dX4_clear_38 rfl) rfl hr_9_1).trans <|
  (r_ild (pg_of mt_31 dX4_clear_41 rfl) rfl).trans <|
  (r_con (pg_of mt_31 dX4_clear_42 rfl) (v2 := (1 : Int32)) (by decide)).trans <|
  (k_iast (N := 6) (j := 1) (pg_of mt_31 dX4_clear_43 rfl) rfl (by decide) (by decide)).trans <|
  (k_inc (pg_of mt_31 dX4_clear_44 rfl) (y := (1 : Int32)) (z := (2 : Int32)) (by decide) rfl (by decide) rfl).trans <|
  (r_gto (pg_of mt_31 dX4_clear_47 rfl)).trans <|
  (r_ild (pg_of mt_31 dX4_clear_31 rfl) rfl).trans <|
  (r_con (pg_of mt_31 dX4_clear_32 rfl) (v2 := (6 : Int32)) (by decide)).trans <|
  (r_ge (pg_of mt_31 dX4_clear_34 rfl)).trans <|
  (if_pos (by decide)).trans <|
  (r_ald (pg_of mt_31 dX4_clear_37 rfl) rfl).trans <|
  (k_gtr (ci := 4) (k := 1) (b := 11) (pg_of mt_31 dX4_clear_38 rfl) rfl hr_9_1).trans <|
  (r_ild (pg_of mt_31 dX4_clear_41 rfl) rfl).trans <|
  (r_con (pg_of mt_31 dX4_clear_42 rfl) (v2 := (1 : Int32)) (by decide)).trans <|
  (k_iast (N := 6) (j := 2) (pg_of mt_31 dX4_clear_43 rfl) rfl (by decide) (by decide)).trans <|
  (k_inc (pg_of mt_31 dX4_clear_44 rfl) (y := (1 : Int32)) (z := (3 : Int32)) (by decide) rfl (by decide) rfl).trans <|
  (r_gto (pg_of mt_31 dX4_clear_47 rfl)).trans <|
  (r_ild (pg_of mt_31 dX4_clear_31 rfl) rfl).trans <|
  (r_con (pg_of mt_31 dX4_clear_32 rfl) (v2 := (6 : Int32)) (by decide)).trans <|
  (r_ge (pg_of mt_31 dX4_clear_34 rfl)).trans <|
  (if_pos (by decide)).trans <|
  (r_ald (pg_of mt_31 dX4_clear_37 rfl) rfl).trans <|
  (k_gtr (ci := 4) (k := 1) (b := 11) (pg_of mt_31 dX4_clear_38 rfl) rfl hr_9_1).trans <|
  (r_ild (pg_of mt_31 dX4_clear_41 rfl) rfl).trans <|
  (r_con (pg_of mt_31 dX4_clear_42 rfl) (v2 := (1 : Int32)) (by decide)).trans <|
  (k_iast (N := 6) (j := 3) (pg_of mt_31 dX4_clear_43 rfl) rfl (by decide) (by decide)).trans <|
  (k_inc (pg_of mt_31 dX4_clear_44 rfl) (y := (1 : Int32)) (z := (4 : Int32)) (by decide) rfl (by decide) rfl).trans <|
  (r_gto (pg_of mt_31 dX4_clear_47 rfl)).trans <|
  (r_ild (pg_of mt_31 dX4_clear_31 rfl) rfl).trans <|
  (r_con (pg_of mt_31 dX4_clear_32 rfl) (v2 := (6 : Int32)) (by decide)).trans <|
  (r_ge (pg_of mt_31 dX4_clear_34 rfl)).trans <|
  (if_pos (by decide)).trans <|
  (r_ald (pg_of mt_31 dX4_clear_37 rfl) rfl).trans <|
  (k_gtr (ci := 4) (k := 1) (b := 11) (pg_of mt_31 dX4_clear_38 rfl) rfl hr_9_1).trans <|
  (r_ild (pg_of mt_31 dX4_clear_41 rfl) rfl).trans <|
  (r_con (pg_of mt_31 dX4_clear_42 rfl) (v2 := (1 : Int32)) (by decide)).trans <|
  (k_iast (N := 6) (j := 4) (pg_of mt_31 dX4_clear_43 rfl) rfl (by decide) (by decide)).trans <|
  (k_inc (pg_of mt_31 dX4_clear_44 rfl) (y := (1 : Int32)) (z := (5 : Int32)) (by decide) rfl (by decide) rfl).trans <|
  (r_gto (pg_of mt_31 dX4_clear_47 rfl)).trans <|
  (r_ild (pg_of mt_31 dX4_clear_31 rfl) rfl).trans <|
  (r_con (pg_of mt_31 dX4_clear_32 rfl) (v2 := (6 : Int32)) (by decide)).trans <|
  (r_ge (pg_of mt_31 dX4_clear_34 rfl)).trans <|
  (if_pos (by decide)).trans <|
  (r_ald (pg_of mt_31 dX4_clear_37 rfl) rfl).trans <|
  (k_gtr (ci := 4) (k := 1) (b := 11) (pg_of mt_31 dX4_clear_38 rfl) rfl hr_9_1).trans <|
  (r_ild (pg_of mt_31 dX4_clear_41 rfl) rfl).trans <|
  (r_con (pg_of mt_31 dX4_clear_42 rfl) (v2 := (1 : Int32)) (by decide)).trans <|
  (k_iast (N := 6) (j := 5) (pg_of mt_31 dX4_clear_43 rfl) rfl (by decide) (by decide)).trans <|
  (k_inc (pg_of mt_31 dX4_clear_44 rfl) (y := (1 : Int32)) (z := (6 : Int32)) (by decide) rfl (by decide) rfl).trans <|
  (r_gto (pg_of mt_31 dX4_clear_47 rfl)).trans <|
  (r_ild (pg_of mt_31 dX4_clear_31 rfl) rfl).trans <|
  (r_con (pg_of mt_31 dX4_clear_32 rfl) (v2 := (6 : Int32)) (by decide)).trans <|
  (r_ge (pg_of mt_31 dX4_clear_34 rfl)).trans <|
  (if_neg (by decide)).trans <|
  (r_ald (pg_of mt_31 dX4_clear_50 rfl) rfl).trans <|
  (r_con (pg_of mt_31 dX4_clear_51 rfl) (v2 := (0 : Int32)) (by decide)).trans <|
  (k_pti (ci := 4) (k := 7) (pg_of mt_31 dX4_clear_52 rfl) rfl rfl).trans <|
  (r_ald (pg_of mt_31 dX4_clear_55 rfl) rfl).trans <|
  (r_con (pg_of mt_31 dX4_clear_56 rfl) (v2 := (0 : Int32)) (by decide)).trans <|
  (k_pti (ci := 4) (k := 8) (pg_of mt_31 dX4_clear_57 rfl) rfl rfl).trans <|
  (r_ald (pg_of mt_31 dX4_clear_60 rfl) rfl).trans <|
  (r_con (pg_of mt_31 dX4_clear_61 rfl) (v2 := (0 : Int32)) (by decide)).trans <|
  (k_pti (ci := 4) (k := 9) (pg_of mt_31 dX4_clear_62 rfl) rfl rfl).trans <|
  (r_ald (pg_of mt_31 dX4_clear_65 rfl) rfl).trans <|
  (r_con (pg_of mt_31 dX4_clear_66 rfl) (v2 := (0 : Int32)) (by decide)).trans <|
  (k_pti (ci := 4) (k := 11) (pg_of mt_31 dX4_clear_67 rfl) rfl rfl).trans <|
  (r_rv (pg_of mt_31 dX4_clear_70 rfl) mt_31 rfl)
theorem ct_31_9 (hz : Fz 17 f fr a g ar) (hr_9_0 : fr 9 0 = some 10) (hr_9_1 : fr 9 1 = some 11) : ev xs L 31 2 [vR 9] (cw 17 f fr a g ar) = some (none, (cw 17 (ma_u2 (ma_u2 (ma_u2 (ma_u2 f 9 7 (0 : Int32)) 9 8 (0 : Int32)) 9 9 (0 : Int32)) 9 11 (0 : Int32)) fr (ma_u2 (ma_u2 (ma_u2 (ma_u2 (ma_u2 (ma_u2 (ma_u2 (ma_u2 (ma_u2 (ma_u2 a 10 0 (2 : Int32)) 10 1 (1 : Int32)) 10 2 (1 : Int32)) 10 3 (20 : Int32)) 11 0 (1 : Int32)) 11 1 (1 : Int32)) 11 2 (1 : Int32)) 11 3 (1 : Int32)) 11 4 (1 : Int32)) 11 5 (1 : Int32)) g ar)) := by
  show rn xs L 31 0 [vR 9, (vS 0)] [] (cw 17 f fr a g ar) = _
  rw [ct_31_9_s0 hz (by first | rfl | assumption) (by first | rfl | assumption)]
theorem ct_30_9_s1 (hz : Fz 17 f fr a g ar)  : rn xs L 30 68 [vR 9] [] (cw 17 f fr a g ar) = some (none, (cw 17 f fr a g ar)) :=
  (r_rv (pg_of mt_30 dX4_init_68 rfl) mt_30 rfl)
theorem ct_30_9 (hz : Fz 10 f fr a g ar)  : ev xs L 30 1 [vR 9] (cw 10 f fr a g ar) = some (none, (cw 17 (ma_u2 (ma_u2 (ma_u2 (ma_u2 (ma_u2 f 9 10 (1 : Int32)) 9 7 (0 : Int32)) 9 8 (0 : Int32)) 9 9 (0 : Int32)) 9 11 (0 : Int32)) (ma_u2 (ma_u2 (ma_u2 (ma_u2 (ma_u2 (ma_u2 (ma_u2 fr 9 0 (some 10)) 9 1 (some 11)) 9 2 (some 12)) 9 3 (some 13)) 9 4 (some 14)) 9 5 (some 15)) 9 6 (some 16)) (ma_u2 (ma_u2 (ma_u2 (ma_u2 (ma_u2 (ma_u2 (ma_u2 (ma_u2 (ma_u2 (ma_u2 a 10 0 (2 : Int32)) 10 1 (1 : Int32)) 10 2 (1 : Int32)) 10 3 (20 : Int32)) 11 0 (1 : Int32)) 11 1 (1 : Int32)) 11 2 (1 : Int32)) 11 3 (1 : Int32)) 11 4 (1 : Int32)) 11 5 (1 : Int32)) g ar)) := by
  show rn xs L 30 0 [vR 9] [] (cw 10 f fr a g ar) = _
  rw [ct_30_9_s0 hz]
  rw [ct_31_9 ((((((((hz.up.ur (by decide)).up.ur (by decide)).up.ur (by decide)).up.ur (by decide)).up.ur (by decide)).up.ur (by decide)).up.ur (by decide)).uf (by decide)) (by first | rfl | assumption) (by first | rfl | assumption)]
  simp only [Option.bind_some, Option.toList_none, List.nil_append]
  rw [ct_30_9_s1 ((((((((((((((((((((((hz.up.ur (by decide)).up.ur (by decide)).up.ur (by decide)).up.ur (by decide)).up.ur (by decide)).up.ur (by decide)).up.ur (by decide)).uf (by decide)).ua (by decide)).ua (by decide)).ua (by decide)).ua (by decide)).ua (by decide)).ua (by decide)).ua (by decide)).ua (by decide)).ua (by decide)).ua (by decide)).uf (by decide)).uf (by decide)).uf (by decide)).uf (by decide))]
theorem ct_54_0_s2 (hz : Fz 17 f fr a g ar)  : rn xs L 54 23 [vR 0, (vS 0)] [vR 9, vR 0] (cw 17 f fr a g ar) = (ev xs L 30 1 [vR 17] (cw 18 f (ma_u2 fr 0 1 (some 9)) a g ar)).bind (fun b => rn xs L 54 34 [vR 0, (vS 0)] (b.1.toList ++ [vR 17, vR 0]) b.2) :=
  (k_ptr (ci := 5) (k := 1) (pg_of mt_54 dX5_init_23 rfl) rfl).trans <|
  (r_ald (pg_of mt_54 dX5_init_26 rfl) rfl).trans <|
  (k_new (n := 17) (ci := 4) (pg_of mt_54 dX5_init_27 rfl) (by decide) rfl (hz.ur (by decide))).trans <|
  (r_dup (pg_of mt_54 dX5_init_30 rfl) rfl).trans <|
  (r_call (t := tt_54) (t2 := tt_30) (pg_of mt_54 dX5_init_31 rfl) mt_54 mt_30 rfl rfl rfl rfl rfl)
theorem ct_30_17_s0 (hz : Fz 18 f fr a g ar)  : rn xs L 30 0 [vR 17] [] (cw 18 f fr a g ar) = (ev xs L 31 2 [vR 17] (cw 25 (ma_u2 f 17 10 (1 : Int32)) (ma_u2 (ma_u2 (ma_u2 (ma_u2 (ma_u2 (ma_u2 (ma_u2 fr 17 0 (some 18)) 17 1 (some 19)) 17 2 (some 20)) 17 3 (some 21)) 17 4 (some 22)) 17 5 (some 23)) 17 6 (some 24)) a g ar)).bind (fun b => rn xs L 30 68 [vR 17] (b.1.toList ++ []) b.2) :=
  (r_ald (pg_of mt_30 dX4_init_0 rfl) rfl).trans <|
  (k_oin (pg_of mt_30 dX4_init_1 rfl) (Nat.le_of_ble_eq_true rfl)).trans <|
  (r_ald (pg_of mt_30 dX4_init_4 rfl) rfl).trans <|
  (r_con (pg_of mt_30 dX4_init_5 rfl) (v2 := (4 : Int32)) (by decide)).trans <|
  (k_nwa (n := 18) (t := 0) (N := 4) (pg_of mt_30 dX4_init_6 rfl) (by decide) (by decide) (by decide) rfl hz).trans <|
  (k_ptr (ci := 4) (k := 0) (pg_of mt_30 dX4_init_8 rfl) rfl).trans <|
  (r_ald (pg_of mt_30 dX4_init_11 rfl) rfl).trans <|
  (r_con (pg_of mt_30 dX4_init_12 rfl) (v2 := (6 : Int32)) (by decide)).trans <|
  (k_nwa (n := 19) (t := 0) (N := 6) (pg_of mt_30 dX4_init_14 rfl) (by decide) (by decide) (by decide) rfl (hz.up.ur (by decide))).trans <|
  (k_ptr (ci := 4) (k := 1) (pg_of mt_30 dX4_init_16 rfl) rfl).trans <|
  (r_ald (pg_of mt_30 dX4_init_19 rfl) rfl).trans <|
  (r_con (pg_of mt_30 dX4_init_20 rfl) (v2 := (8 : Int32)) (by decide)).trans <|
  (k_nwa (n := 20) (t := 0) (N := 8) (pg_of mt_30 dX4_init_22 rfl) (by decide) (by decide) (by decide) rfl ((hz.up.ur (by decide)).up.ur (by decide))).trans <|
  (k_ptr (ci := 4) (k := 2) (pg_of mt_30 dX4_init_24 rfl) rfl).trans <|
  (r_ald (pg_of mt_30 dX4_init_27 rfl) rfl).trans <|
  (r_con (pg_of mt_30 dX4_init_28 rfl) (v2 := (8 : Int32)) (by decide)).trans <|
  (k_nwa (n := 21) (t := 0) (N := 8) (pg_of mt_30 dX4_init_30 rfl) (by decide) (by decide) (by decide) rfl (((hz.up.ur (by decide)).up.ur (by decide)).up.ur (by decide))).trans <|
  (k_ptr (ci := 4) (k := 3) (pg_of mt_30 dX4_init_32 rfl) rfl).trans <|
  (r_ald (pg_of mt_30 dX4_init_35 rfl) rfl).trans <|
  (r_con (pg_of mt_30 dX4_init_36 rfl) (v2 := (8 : Int32)) (by decide)).trans <|
  (k_nwa (n := 22) (t := 0) (N := 8) (pg_of mt_30 dX4_init_38 rfl) (by decide) (by decide) (by decide) rfl ((((hz.up.ur (by decide)).up.ur (by decide)).up.ur (by decide)).up.ur (by decide))).trans <|
  (k_ptr (ci := 4) (k := 4) (pg_of mt_30 dX4_init_40 rfl) rfl).trans <|
  (r_ald (pg_of mt_30 dX4_init_43 rfl) rfl).trans <|
  (r_con (pg_of mt_30 dX4_init_44 rfl) (v2 := (8 : Int32)) (by decide)).trans <|
  (k_nwa (n := 23) (t := 0) (N := 8) (pg_of mt_30 dX4_init_46 rfl) (by decide) (by decide) (by decide) rfl (((((hz.up.ur (by decide)).up.ur (by decide)).up.ur (by decide)).up.ur (by decide)).up.ur (by decide))).trans <|
  (k_ptr (ci := 4) (k := 5) (pg_of mt_30 dX4_init_48 rfl) rfl).trans <|
  (r_ald (pg_of mt_30 dX4_init_51 rfl) rfl).trans <|
  (r_con (pg_of mt_30 dX4_init_52 rfl) (v2 := (8 : Int32)) (by decide)).trans <|
  (k_nwa (n := 24) (t := 0) (N := 8) (pg_of mt_30 dX4_init_54 rfl) (by decide) (by decide) (by decide) rfl ((((((hz.up.ur (by decide)).up.ur (by decide)).up.ur (by decide)).up.ur (by decide)).up.ur (by decide)).up.ur (by decide))).trans <|
  (k_ptr (ci := 4) (k := 6) (pg_of mt_30 dX4_init_56 rfl) rfl).trans <|
  (r_ald (pg_of mt_30 dX4_init_59 rfl) rfl).trans <|
  (r_con (pg_of mt_30 dX4_init_60 rfl) (v2 := (1 : Int32)) (by decide)).trans <|
  (k_pti (ci := 4) (k := 10) (pg_of mt_30 dX4_init_61 rfl) rfl rfl).trans <|
  (r_ald (pg_of mt_30 dX4_init_64 rfl) rfl).trans <|
  (r_call (t := tt_30) (t2 := tt_31) (pg_of mt_30 dX4_init_65 rfl) mt_30 mt_31 rfl rfl (rcv1 rfl) rfl rfl)
theorem ct_31_17_s0 (hz : Fz 25 f fr a g ar) (hr_17_0 : fr 17 0 = some 18) (hr_17_1 : fr 17 1 = some 19) : rn xs L 31 0 [vR 17, (vS 0)] [] (cw 25 f fr a g ar) = some (none, (cw 25 (ma_u2 (ma_u2 (ma_u2 (ma_u2 f 17 7 (0 : Int32)) 17 8 (0 : Int32)) 17 9 (0 : Int32)) 17 11 (0 : Int32)) fr (ma_u2 (ma_u2 (ma_u2 (ma_u2 (ma_u2 (ma_u2 (ma_u2 (ma_u2 (ma_u2 (ma_u2 a 18 0 (2 : Int32)) 18 1 (1 : Int32)) 18 2 (1 : Int32)) 18 3 (20 : Int32)) 19 0 (1 : Int32)) 19 1 (1 : Int32)) 19 2 (1 : Int32)) 19 3 (1 : Int32)) 19 4 (1 : Int32)) 19 5 (1 : Int32)) g ar)) :=
  (r_ald (pg_of mt_31 dX4_clear_0 rfl) rfl).trans <|
  (k_gtr (ci := 4) (k := 0) (b := 18) (pg_of mt_31 dX4_clear_1 rfl) rfl hr_17_0).trans <|
  (r_con (pg_of mt_31 dX4_clear_4 rfl) (v2 := (0 : Int32)) (by decide)).trans <|
  (r_con (pg_of mt_31 dX4_clear_5 rfl) (v2 := (2 : Int32)) (by decide)).trans <|
  (k_iast (N := 4) (j := 0) (pg_of mt_31 dX4_clear_6 rfl) rfl (by decide) (by decide)).trans <|
  (r_ald (pg_of mt_31 dX4_clear_7 rfl) rfl).trans <|
  (k_gtr (ci := 4) (k := 0) (b := 18) (pg_of mt_31 dX4_clear_8 rfl) rfl hr_17_0).trans <|
  (r_con (pg_of mt_31 dX4_clear_11 rfl) (v2 := (1 : Int32)) (by decide)).trans <|
  (r_con (pg_of mt_31 dX4_clear_12 rfl) (v2 := (1 : Int32)) (by decide)).trans <|
  (k_iast (N := 4) (j := 1) (pg_of mt_31 dX4_clear_13 rfl) rfl (by decide) (by decide)).trans <|
  (r_ald (pg_of mt_31 dX4_clear_14 rfl) rfl).trans <|
  (k_gtr (ci := 4) (k := 0) (b := 18) (pg_of mt_31 dX4_clear_15 rfl) rfl hr_17_0).trans <|
  (r_con (pg_of mt_31 dX4_clear_18 rfl) (v2 := (2 : Int32)) (by decide)).trans <|
  (r_con (pg_of mt_31 dX4_clear_19 rfl) (v2 := (1 : Int32)) (by decide)).trans <|
  (k_iast (N := 4) (j := 2) (pg_of mt_31 dX4_clear_20 rfl) rfl (by decide) (by decide)).trans <|
  (r_ald (pg_of mt_31 dX4_clear_21 rfl) rfl).trans <|
  (k_gtr (ci := 4) (k := 0) (b := 18) (pg_of mt_31 dX4_clear_22 rfl) rfl hr_17_0).trans <|
  (r_con (pg_of mt_31 dX4_clear_25 rfl) (v2 := (3 : Int32)) (by decide)).trans <|
  (r_con (pg_of mt_31 dX4_clear_26 rfl) (v2 := (20 : Int32)) (by decide)).trans <|
  (k_iast (N := 4) (j := 3) (pg_of mt_31 dX4_clear_28 rfl) rfl (by decide) (by decide)).trans <|
  (r_con (pg_of mt_31 dX4_clear_29 rfl) (v2 := (0 : Int32)) (by decide)).trans <|
  (r_ist (pg_of mt_31 dX4_clear_30 rfl) (Nat.le_of_ble_eq_true rfl) rfl).trans <|
  (r_ild (pg_of mt_31 dX4_clear_31 rfl) rfl).trans <|
  (r_con (pg_of mt_31 dX4_clear_32 rfl) (v2 := (6 : Int32)) (by decide)).trans <|
  (r_ge (pg_of mt_31 dX4_clear_34 rfl)).trans <|
  (if_pos (by decide)).trans <|
  (r_ald (pg_of mt_31 dX4_clear_37 rfl) rfl).trans <|
  (k_gtr (ci := 4) (k := 1) (b := 19) (pg_of mt_31 dX4_clear_38 rfl) rfl hr_17_1).trans <|
  (r_ild (pg_of mt_31 dX4_clear_41 rfl) rfl).trans <|
  (r_con (pg_of mt_31 dX4_clear_42 rfl) (v2 := (1 : Int32)) (by decide)).trans <|
  (k_iast (N := 6) (j := 0) (pg_of mt_31 dX4_clear_43 rfl) rfl (by decide) (by decide)).trans <|
  (k_inc (pg_of mt_31 dX4_clear_44 rfl) (y := (1 : Int32)) (z := (1 : Int32)) (by decide) rfl (by decide) rfl).trans <|
  (r_gto (pg_of mt_31 dX4_clear_47 rfl)).trans <|
  (r_ild (pg_of mt_31 dX4_clear_31 rfl) rfl).trans <|
  (r_con (pg_of mt_31 dX4_clear_32 rfl) (v2 := (6 : Int32)) (by decide)).trans <|
  (r_ge (pg_of mt_31 dX4_clear_34 rfl)).trans <|
  (if_pos (by decide)).trans <|
  (r_ald (pg_of mt_31 dX4_clear_37 rfl) rfl).trans <|
  (k_gtr (ci := 4) (k := 1) (b := 19) (pg_of mt_31 dX4_clear_38 rfl) rfl hr_17_1).trans <|
  (r_ild (pg_of mt_31 dX4_clear_41 rfl) rfl).trans <|
  (r_con (pg_of mt_31 dX4_clear_42 rfl) (v2 := (1 : Int32)) (by decide)).trans <|
  (k_iast (N := 6) (j := 1) (pg_of mt_31 dX4_clear_43 rfl) rfl (by decide) (by decide)).trans <|
  (k_inc (pg_of mt_31 dX4_clear_44 rfl) (y := (1 : Int32)) (z := (2 : Int32)) (by decide) rfl (by decide) rfl).trans <|
  (r_gto (pg_of mt_31 dX4_clear_47 rfl)).trans <|
  (r_ild (pg_of mt_31 dX4_clear_31 rfl) rfl).trans <|
  (r_con (pg_of mt_31 dX4_clear_32 rfl) (v2 := (6 : Int32)) (by decide)).trans <|
  (r_ge (pg_of mt_31 dX4_clear_34 rfl)).trans <|
  (if_pos (by decide)).trans <|
  (r_ald (pg_of mt_31 dX4_clear_37 rfl) rfl).trans <|
  (k_gtr (ci := 4) (k := 1) (b := 19) (pg_of mt_31 dX4_clear_38 rfl) rfl hr_17_1).trans <|
  (r_ild (pg_of mt_31 dX4_clear_41 rfl) rfl).trans <|
  (r_con (pg_of mt_31 dX4_clear_42 rfl) (v2 := (1 : Int32)) (by decide)).trans <|
  (k_iast (N := 6) (j := 2) (pg_of mt_31 dX4_clear_43 rfl) rfl (by decide) (by decide)).trans <|
  (k_inc (pg_of mt_31 dX4_clear_44 rfl) (y := (1 : Int32)) (z := (3 : Int32)) (by decide) rfl (by decide) rfl).trans <|
  (r_gto (pg_of mt_31 dX4_clear_47 rfl)).trans <|
  (r_ild (pg_of mt_31 dX4_clear_31 rfl) rfl).trans <|
  (r_con (pg_of mt_31 dX4_clear_32 rfl) (v2 := (6 : Int32)) (by decide)).trans <|
  (r_ge (pg_of mt_31 dX4_clear_34 rfl)).trans <|
  (if_pos (by decide)).trans <|
  (r_ald (pg_of mt_31 dX4_clear_37 rfl) rfl).trans <|
  (k_gtr (ci := 4) (k := 1) (b := 19) (pg_of mt_31 dX4_clear_38 rfl) rfl hr_17_1).trans <|
  (r_ild (pg_of mt_31 dX4_clear_41 rfl) rfl).trans <|
  (r_con (pg_of mt_31 dX4_clear_42 rfl) (v2 := (1 : Int32)) (by decide)).trans <|
  (k_iast (N := 6) (j := 3) (pg_of mt_31 dX4_clear_43 rfl) rfl (by decide) (by decide)).trans <|
  (k_inc (pg_of mt_31 dX4_clear_44 rfl) (y := (1 : Int32)) (z := (4 : Int32)) (by decide) rfl (by decide) rfl).trans <|
  (r_gto (pg_of mt_31 dX4_clear_47 rfl)).trans <|
  (r_ild (pg_of mt_31 dX4_clear_31 rfl) rfl).trans <|
  (r_con (pg_of mt_31 dX4_clear_32 rfl) (v2 := (6 : Int32)) (by decide)).trans <|
  (r_ge (pg_of mt_31 dX4_clear_34 rfl)).trans <|
  (if_pos (by decide)).trans <|
  (r_ald (pg_of mt_31 dX4_clear_37 rfl) rfl).trans <|
  (k_gtr (ci := 4) (k := 1) (b := 19) (pg_of mt_31 dX4_clear_38 rfl) rfl hr_17_1).trans <|
  (r_ild (pg_of mt_31 dX4_clear_41 rfl) rfl).trans <|
  (r_con (pg_of mt_31 dX4_clear_42 rfl) (v2 := (1 : Int32)) (by decide)).trans <|
  (k_iast (N := 6) (j := 4) (pg_of mt_31 dX4_clear_43 rfl) rfl (by decide) (by decide)).trans <|
  (k_inc (pg_of mt_31 dX4_clear_44 rfl) (y := (1 : Int32)) (z := (5 : Int32)) (by decide) rfl (by decide) rfl).trans <|
  (r_gto (pg_of mt_31 dX4_clear_47 rfl)).trans <|
  (r_ild (pg_of mt_31 dX4_clear_31 rfl) rfl).trans <|
  (r_con (pg_of mt_31 dX4_clear_32 rfl) (v2 := (6 : Int32)) (by decide)).trans <|
  (r_ge (pg_of mt_31 dX4_clear_34 rfl)).trans <|
  (if_pos (by decide)).trans <|
  (r_ald (pg_of mt_31 dX4_clear_37 rfl) rfl).trans <|
  (k_gtr (ci := 4) (k := 1) (b := 19) (pg_of mt_31 dX4_clear_38 rfl) rfl hr_17_1).trans <|
  (r_ild (pg_of mt_31 dX4_clear_41 rfl) rfl).trans <|
  (r_con (pg_of mt_31 dX4_clear_42 rfl) (v2 := (1 : Int32)) (by decide)).trans <|
  (k_iast (N := 6) (j := 5) (pg_of mt_31 dX4_clear_43 rfl) rfl (by decide) (by decide)).trans <|
  (k_inc (pg_of mt_31 dX4_clear_44 rfl) (y := (1 : Int32)) (z := (6 : Int32)) (by decide) rfl (by decide) rfl).trans <|
  (r_gto (pg_of mt_31 dX4_clear_47 rfl)).trans <|
  (r_ild (pg_of mt_31 dX4_clear_31 rfl) rfl).trans <|
  (r_con (pg_of mt_31 dX4_clear_32 rfl) (v2 := (6 : Int32)) (by decide)).trans <|
  (r_ge (pg_of mt_31 dX4_clear_34 rfl)).trans <|
  (if_neg (by decide)).trans <|
  (r_ald (pg_of mt_31 dX4_clear_50 rfl) rfl).trans <|
  (r_con (pg_of mt_31 dX4_clear_51 rfl) (v2 := (0 : Int32)) (by decide)).trans <|
  (k_pti (ci := 4) (k := 7) (pg_of mt_31 dX4_clear_52 rfl) rfl rfl).trans <|
  (r_ald (pg_of mt_31 dX4_clear_55 rfl) rfl).trans <|
  (r_con (pg_of mt_31 dX4_clear_56 rfl) (v2 := (0 : Int32)) (by decide)).trans <|
  (k_pti (ci := 4) (k := 8) (pg_of mt_31 dX4_clear_57 rfl) rfl rfl).trans <|
  (r_ald (pg_of mt_31 dX4_clear_60 rfl) rfl).trans <|
  (r_con (pg_of mt_31 dX4_clear_61 rfl) (v2 := (0 : Int32)) (by decide)).trans <|
  (k_pti (ci := 4) (k := 9) (pg_of mt_31 dX4_clear_62 rfl) rfl rfl).trans <|
  (r_ald (pg_of mt_31 dX4_clear_65 rfl) rfl).trans <|
  (r_con (pg_of mt_31 dX4_clear_66 rfl) (v2 := (0 : Int32)) (by decide)).trans <|
  (k_pti (ci := 4) (k := 11) (pg_of mt_31 dX4_clear_67 rfl) rfl rfl).trans <|
  (r_rv (pg_of mt_31 dX4_clear_70 rfl) mt_31 rfl)
theorem ct_31_17 (hz : Fz 25 f fr a g ar) (hr_17_0 : fr 17 0 = some 18) (hr_17_1 : fr 17 1 = some 19) : ev xs L 31 2 [vR 17] (cw 25 f fr a g ar) = some (none, (cw 25 (ma_u2 (ma_u2 (ma_u2 (ma_u2 f 17 7 (0 : Int32)) 17 8 (0 : Int32)) 17 9 (0 : Int32)) 17 11 (0 : Int32)) fr (ma_u2 (ma_u2 (ma_u2 (ma_u2 (ma_u2 (ma_u2 (ma_u2 (ma_u2 (ma_u2 (ma_u2 a 18 0 (2 : Int32)) 18 1 (1 : Int32)) 18 2 (1 : Int32)) 18 3 (20 : Int32)) 19 0 (1 : Int32)) 19 1 (1 : Int32)) 19 2 (1 : Int32)) 19 3 (1 : Int32)) 19 4 (1 : Int32)) 19 5 (1 : Int32)) g ar)) := by
  show rn xs L 31 0 [vR 17, (vS 0)] [] (cw 25 f fr a g ar) = _
  rw [ct_31_17_s0 hz (by first | rfl | assumption) (by first | rfl | assumption)]
theorem ct_30_17_s1 (hz : Fz 25 f fr a g ar)  : rn xs L 30 68 [vR 17] [] (cw 25 f fr a g ar) = some (none, (cw 25 f fr a g ar)) :=
  (r_rv (pg_of mt_30 dX4_init_68 rfl) mt_30 rfl)
theorem ct_30_17 (hz : Fz 18 f fr a g ar)  : ev xs L 30 1 [vR 17] (cw 18 f fr a g ar) = some (none, (cw 25 (ma_u2 (ma_u2 (ma_u2 (ma_u2 (ma_u2 f 17 10 (1 : Int32)) 17 7 (0 : Int32)) 17 8 (0 : Int32)) 17 9 (0 : Int32)) 17 11 (0 : Int32)) (ma_u2 (ma_u2 (ma_u2 (ma_u2 (ma_u2 (ma_u2 (ma_u2 fr 17 0 (some 18)) 17 1 (some 19)) 17 2 (some 20)) 17 3 (some 21)) 17 4 (some 22)) 17 5 (some 23)) 17 6 (some 24)) (ma_u2 (ma_u2 (ma_u2 (ma_u2 (ma_u2 (ma_u2 (ma_u2 (ma_u2 (ma_u2 (ma_u2 a 18 0 (2 : Int32)) 18 1 (1 : Int32)) 18 2 (1 : Int32)) 18 3 (20 : Int32)) 19 0 (1 : Int32)) 19 1 (1 : Int32)) 19 2 (1 : Int32)) 19 3 (1 : Int32)) 19 4 (1 : Int32)) 19 5 (1 : Int32)) g ar)) := by
  show rn xs L 30 0 [vR 17] [] (cw 18 f fr a g ar) = _
  rw [ct_30_17_s0 hz]
  rw [ct_31_17 ((((((((hz.up.ur (by decide)).up.ur (by decide)).up.ur (by decide)).up.ur (by decide)).up.ur (by decide)).up.ur (by decide)).up.ur (by decide)).uf (by decide)) (by first | rfl | assumption) (by first | rfl | assumption)]
  simp only [Option.bind_some, Option.toList_none, List.nil_append]
  rw [ct_30_17_s1 ((((((((((((((((((((((hz.up.ur (by decide)).up.ur (by decide)).up.ur (by decide)).up.ur (by decide)).up.ur (by decide)).up.ur (by decide)).up.ur (by decide)).uf (by decide)).ua (by decide)).ua (by decide)).ua (by decide)).ua (by decide)).ua (by decide)).ua (by decide)).ua (by decide)).ua (by decide)).ua (by decide)).ua (by decide)).uf (by decide)).uf (by decide)).uf (by decide)).uf (by decide))]
theorem ct_54_0_s3 (hz : Fz 25 f fr a g ar)  : rn xs L 54 34 [vR 0, (vS 0)] [vR 17, vR 0] (cw 25 f fr a g ar) = (ev xs L 14 1 [vR 25] (cw 26 f (ma_u2 fr 0 2 (some 17)) a g ar)).bind (fun b => rn xs L 54 45 [vR 0, (vS 0)] (b.1.toList ++ [vR 25, vR 0]) b.2) :=
  (k_ptr (ci := 5) (k := 2) (pg_of mt_54 dX5_init_34 rfl) rfl).trans <|
  (r_ald (pg_of mt_54 dX5_init_37 rfl) rfl).trans <|
  (k_new (n := 25) (ci := 3) (pg_of mt_54 dX5_init_38 rfl) (by decide) rfl (hz.ur (by decide))).trans <|
  (r_dup (pg_of mt_54 dX5_init_41 rfl) rfl).trans <|
  (r_call (t := tt_54) (t2 := tt_14) (pg_of mt_54 dX5_init_42 rfl) mt_54 mt_14 rfl rfl rfl rfl rfl)
theorem ct_14_25_s0 (hz : Fz 26 f fr a g ar)  : rn xs L 14 0 [vR 25] [] (cw 26 f fr a g ar) = some (none, (cw 27 f (ma_u2 fr 25 0 (some 26)) a g ar)) :=
  (r_ald (pg_of mt_14 dX3_init_0 rfl) rfl).trans <|
  (k_oin (pg_of mt_14 dX3_init_1 rfl) (Nat.le_of_ble_eq_true rfl)).trans <|
  (r_ald (pg_of mt_14 dX3_init_4 rfl) rfl).trans <|
  (r_con (pg_of mt_14 dX3_init_5 rfl) (v2 := (200 : Int32)) (by decide)).trans <|
  (k_nwa (n := 26) (t := 1) (N := 200) (pg_of mt_14 dX3_init_8 rfl) (by decide) (by decide) (by decide) rfl hz).trans <|
  (k_ptr (ci := 3) (k := 0) (pg_of mt_14 dX3_init_10 rfl) rfl).trans <|
  (r_rv (pg_of mt_14 dX3_init_13 rfl) mt_14 rfl)
theorem ct_14_25 (hz : Fz 26 f fr a g ar)  : ev xs L 14 1 [vR 25] (cw 26 f fr a g ar) = some (none, (cw 27 f (ma_u2 fr 25 0 (some 26)) a g ar)) := by
  show rn xs L 14 0 [vR 25] [] (cw 26 f fr a g ar) = _
  rw [ct_14_25_s0 hz]
theorem ct_54_0_s4 (hz : Fz 27 f fr a g ar)  : rn xs L 54 45 [vR 0, (vS 0)] [vR 25, vR 0] (cw 27 f fr a g ar) = rn xs L 54 53 [vR 0, (vS 0)] [vR 27, vR 0] (cw 28 f (ma_u2 fr 0 4 (some 25)) a g ar) :=
  (k_ptr (ci := 5) (k := 4) (pg_of mt_54 dX5_init_45 rfl) rfl).trans <|
  (r_ald (pg_of mt_54 dX5_init_48 rfl) rfl).trans <|
  (r_con (pg_of mt_54 dX5_init_49 rfl) (v2 := (30 : Int32)) (by decide)).trans <|
  (k_nwa (n := 27) (t := 0) (N := 30) (pg_of mt_54 dX5_init_51 rfl) (by decide) (by decide) (by decide) rfl (hz.ur (by decide)))
theorem ct_54_0_s5 (hz : Fz 28 f fr a g ar)  : rn xs L 54 53 [vR 0, (vS 0)] [vR 27, vR 0] (cw 28 f fr a g ar) = (ev xs L 0 1 [vR 30] (cw 31 f (ma_u2 (ma_u2 (ma_u2 fr 0 5 (some 27)) 0 7 (some 28)) 0 8 (some 29)) a g ar)).bind (fun b => rn xs L 54 80 [vR 0, (vS 0)] (b.1.toList ++ [vR 30, vR 0]) b.2) :=
  (k_ptr (ci := 5) (k := 5) (pg_of mt_54 dX5_init_53 rfl) rfl).trans <|
  (r_ald (pg_of mt_54 dX5_init_56 rfl) rfl).trans <|
  (r_con (pg_of mt_54 dX5_init_57 rfl) (v2 := (4 : Int32)) (by decide)).trans <|
  (k_nwa (n := 28) (t := 3) (N := 4) (pg_of mt_54 dX5_init_58 rfl) (by decide) (by decide) (by decide) rfl (hz.ur (by decide))).trans <|
  (k_ptr (ci := 5) (k := 7) (pg_of mt_54 dX5_init_61 rfl) rfl).trans <|
  (r_ald (pg_of mt_54 dX5_init_64 rfl) rfl).trans <|
  (r_con (pg_of mt_54 dX5_init_65 rfl) (v2 := (4 : Int32)) (by decide)).trans <|
  (k_nwa (n := 29) (t := 4) (N := 4) (pg_of mt_54 dX5_init_66 rfl) (by decide) (by decide) (by decide) rfl ((hz.ur (by decide)).up.ur (by decide))).trans <|
  (k_ptr (ci := 5) (k := 8) (pg_of mt_54 dX5_init_69 rfl) rfl).trans <|
  (r_ald (pg_of mt_54 dX5_init_72 rfl) rfl).trans <|
  (k_new (n := 30) (ci := 0) (pg_of mt_54 dX5_init_73 rfl) (by decide) rfl (((hz.ur (by decide)).up.ur (by decide)).up.ur (by decide))).trans <|
  (r_dup (pg_of mt_54 dX5_init_76 rfl) rfl).trans <|
  (r_call (t := tt_54) (t2 := tt_0) (pg_of mt_54 dX5_init_77 rfl) mt_54 mt_0 rfl rfl rfl rfl rfl)
theorem ct_0_30_s0 (hz : Fz 31 f fr a g ar)  : rn xs L 0 0 [vR 30] [] (cw 31 f fr a g ar) = some (none, (cw 32 f (ma_u2 fr 30 3 (some 31)) a g ar)) :=
  (r_ald (pg_of mt_0 dX0_init_0 rfl) rfl).trans <|
  (k_oin (pg_of mt_0 dX0_init_1 rfl) (Nat.le_of_ble_eq_true rfl)).trans <|
  (r_ald (pg_of mt_0 dX0_init_4 rfl) rfl).trans <|
  (r_con (pg_of mt_0 dX0_init_5 rfl) (v2 := (30 : Int32)) (by decide)).trans <|
  (k_nwa (n := 31) (t := 0) (N := 30) (pg_of mt_0 dX0_init_7 rfl) (by decide) (by decide) (by decide) rfl hz).trans <|
  (k_ptr (ci := 0) (k := 3) (pg_of mt_0 dX0_init_9 rfl) rfl).trans <|
  (r_rv (pg_of mt_0 dX0_init_12 rfl) mt_0 rfl)
theorem ct_0_30 (hz : Fz 31 f fr a g ar)  : ev xs L 0 1 [vR 30] (cw 31 f fr a g ar) = some (none, (cw 32 f (ma_u2 fr 30 3 (some 31)) a g ar)) := by
  show rn xs L 0 0 [vR 30] [] (cw 31 f fr a g ar) = _
  rw [ct_0_30_s0 hz]
theorem ct_54_0_s6 (hz : Fz 32 f fr a g ar)  : rn xs L 54 80 [vR 0, (vS 0)] [vR 30, vR 0] (cw 32 f fr a g ar) = rn xs L 54 83 [vR 0, (vS 0)] [] (cw 32 f (ma_u2 fr 0 9 (some 30)) a g ar) :=
  (k_ptr (ci := 5) (k := 9) (pg_of mt_54 dX5_init_80 rfl) rfl)
theorem ct_54_0_s7 (hz : Fz 32 f fr a g ar) (hr_0_7 : fr 0 7 = some 28) : rn xs L 54 83 [vR 0, (vS 0)] [] (cw 32 f fr a g ar) = (ev xs L 7 1 [vR 32] (cw 33 f fr a g ar)).bind (fun b => rn xs L 54 102 [vR 0, vI (0 : Int32)] (b.1.toList ++ [vR 32, vI (0 : Int32), vR 28]) b.2) :=
  (r_con (pg_of mt_54 dX5_init_83 rfl) (v2 := (0 : Int32)) (by decide)).trans <|
  (r_ist (pg_of mt_54 dX5_init_84 rfl) (Nat.le_of_ble_eq_true rfl) rfl).trans <|
  (r_ild (pg_of mt_54 dX5_init_85 rfl) rfl).trans <|
  (r_con (pg_of mt_54 dX5_init_86 rfl) (v2 := (4 : Int32)) (by decide)).trans <|
  (r_ge (pg_of mt_54 dX5_init_87 rfl)).trans <|
  (if_pos (by decide)).trans <|
  (r_ald (pg_of mt_54 dX5_init_90 rfl) rfl).trans <|
  (k_gtr (ci := 5) (k := 7) (b := 28) (pg_of mt_54 dX5_init_91 rfl) rfl hr_0_7).trans <|
  (r_ild (pg_of mt_54 dX5_init_94 rfl) rfl).trans <|
  (k_new (n := 32) (ci := 1) (pg_of mt_54 dX5_init_95 rfl) (by decide) rfl hz).trans <|
  (r_dup (pg_of mt_54 dX5_init_98 rfl) rfl).trans <|
  (r_call (t := tt_54) (t2 := tt_7) (pg_of mt_54 dX5_init_99 rfl) mt_54 mt_7 rfl rfl rfl rfl rfl)
theorem ct_7_32_s0 (hz : Fz 33 f fr a g ar)  : rn xs L 7 0 [vR 32] [] (cw 33 f fr a g ar) = some (none, (cw 34 (ma_u2 f 32 1 (-1 : Int32)) (ma_u2 fr 32 0 (some 33)) a g ar)) :=
  (r_ald (pg_of mt_7 dX1_init_0 rfl) rfl).trans <|
  (k_oin (pg_of mt_7 dX1_init_1 rfl) (Nat.le_of_ble_eq_true rfl)).trans <|
  (r_ald (pg_of mt_7 dX1_init_4 rfl) rfl).trans <|
  (r_con (pg_of mt_7 dX1_init_5 rfl) (v2 := (40 : Int32)) (by decide)).trans <|
  (k_nwa (n := 33) (t := 2) (N := 40) (pg_of mt_7 dX1_init_7 rfl) (by decide) (by decide) (by decide) rfl hz).trans <|
  (k_ptr (ci := 1) (k := 0) (pg_of mt_7 dX1_init_9 rfl) rfl).trans <|
  (r_ald (pg_of mt_7 dX1_init_12 rfl) rfl).trans <|
  (r_con (pg_of mt_7 dX1_init_13 rfl) (v2 := (-1 : Int32)) (by decide)).trans <|
  (k_pti (ci := 1) (k := 1) (pg_of mt_7 dX1_init_14 rfl) rfl rfl).trans <|
  (r_rv (pg_of mt_7 dX1_init_17 rfl) mt_7 rfl)
theorem ct_7_32 (hz : Fz 33 f fr a g ar)  : ev xs L 7 1 [vR 32] (cw 33 f fr a g ar) = some (none, (cw 34 (ma_u2 f 32 1 (-1 : Int32)) (ma_u2 fr 32 0 (some 33)) a g ar)) := by
  show rn xs L 7 0 [vR 32] [] (cw 33 f fr a g ar) = _
  rw [ct_7_32_s0 hz]
theorem ct_54_0_s8 (hz : Fz 34 f fr a g ar) (hr_0_7 : fr 0 7 = some 28) : rn xs L 54 102 [vR 0, vI (0 : Int32)] [vR 32, vI (0 : Int32), vR 28] (cw 34 f fr a g ar) = (ev xs L 7 1 [vR 34] (cw 35 f fr a g (ma_u2 ar 28 0 (some 32)))).bind (fun b => rn xs L 54 102 [vR 0, vI (1 : Int32)] (b.1.toList ++ [vR 34, vI (1 : Int32), vR 28]) b.2) :=
  (k_aast (t := 3) (N := 4) (j := 0) (pg_of mt_54 dX5_init_102 rfl) (by decide) rfl (by decide) (by decide) rfl).trans <|
  (k_inc (pg_of mt_54 dX5_init_103 rfl) (y := (1 : Int32)) (z := (1 : Int32)) (by decide) rfl (by decide) rfl).trans <|
  (r_gto (pg_of mt_54 dX5_init_106 rfl)).trans <|
  (r_ild (pg_of mt_54 dX5_init_85 rfl) rfl).trans <|
  (r_con (pg_of mt_54 dX5_init_86 rfl) (v2 := (4 : Int32)) (by decide)).trans <|
  (r_ge (pg_of mt_54 dX5_init_87 rfl)).trans <|
  (if_pos (by decide)).trans <|
  (r_ald (pg_of mt_54 dX5_init_90 rfl) rfl).trans <|
  (k_gtr (ci := 5) (k := 7) (b := 28) (pg_of mt_54 dX5_init_91 rfl) rfl hr_0_7).trans <|
  (r_ild (pg_of mt_54 dX5_init_94 rfl) rfl).trans <|
  (k_new (n := 34) (ci := 1) (pg_of mt_54 dX5_init_95 rfl) (by decide) rfl (hz.ux (by decide))).trans <|
  (r_dup (pg_of mt_54 dX5_init_98 rfl) rfl).trans <|
  (r_call (t := tt_54) (t2 := tt_7) (pg_of mt_54 dX5_init_99 rfl) mt_54 mt_7 rfl rfl rfl rfl rfl)
theorem ct_7_34_s0 (hz : Fz 35 f fr a g ar)  : rn xs L 7 0 [vR 34] [] (cw 35 f fr a g ar) = some (none, (cw 36 (ma_u2 f 34 1 (-1 : Int32)) (ma_u2 fr 34 0 (some 35)) a g ar)) :=
  (r_ald (pg_of mt_7 dX1_init_0 rfl) rfl).trans <|
  (k_oin (pg_of mt_7 dX1_init_1 rfl) (Nat.le_of_ble_eq_true rfl)).trans <|
  (r_ald (pg_of mt_7 dX1_init_4 rfl) rfl).trans <|
  (r_con (pg_of mt_7 dX1_init_5 rfl) (v2 := (40 : Int32)) (by decide)).trans <|
  (k_nwa (n := 35) (t := 2) (N := 40) (pg_of mt_7 dX1_init_7 rfl) (by decide) (by decide) (by decide) rfl hz).trans <|
  (k_ptr (ci := 1) (k := 0) (pg_of mt_7 dX1_init_9 rfl) rfl).trans <|
  (r_ald (pg_of mt_7 dX1_init_12 rfl) rfl).trans <|
  (r_con (pg_of mt_7 dX1_init_13 rfl) (v2 := (-1 : Int32)) (by decide)).trans <|
  (k_pti (ci := 1) (k := 1) (pg_of mt_7 dX1_init_14 rfl) rfl rfl).trans <|
  (r_rv (pg_of mt_7 dX1_init_17 rfl) mt_7 rfl)
theorem ct_7_34 (hz : Fz 35 f fr a g ar)  : ev xs L 7 1 [vR 34] (cw 35 f fr a g ar) = some (none, (cw 36 (ma_u2 f 34 1 (-1 : Int32)) (ma_u2 fr 34 0 (some 35)) a g ar)) := by
  show rn xs L 7 0 [vR 34] [] (cw 35 f fr a g ar) = _
  rw [ct_7_34_s0 hz]
theorem ct_54_0_s9 (hz : Fz 36 f fr a g ar) (hr_0_7 : fr 0 7 = some 28) : rn xs L 54 102 [vR 0, vI (1 : Int32)] [vR 34, vI (1 : Int32), vR 28] (cw 36 f fr a g ar) = (ev xs L 7 1 [vR 36] (cw 37 f fr a g (ma_u2 ar 28 1 (some 34)))).bind (fun b => rn xs L 54 102 [vR 0, vI (2 : Int32)] (b.1.toList ++ [vR 36, vI (2 : Int32), vR 28]) b.2) :=
  (k_aast (t := 3) (N := 4) (j := 1) (pg_of mt_54 dX5_init_102 rfl) (by decide) rfl (by decide) (by decide) rfl).trans <|
  (k_inc (pg_of mt_54 dX5_init_103 rfl) (y := (1 : Int32)) (z := (2 : Int32)) (by decide) rfl (by decide) rfl).trans <|
  (r_gto (pg_of mt_54 dX5_init_106 rfl)).trans <|
  (r_ild (pg_of mt_54 dX5_init_85 rfl) rfl).trans <|
  (r_con (pg_of mt_54 dX5_init_86 rfl) (v2 := (4 : Int32)) (by decide)).trans <|
  (r_ge (pg_of mt_54 dX5_init_87 rfl)).trans <|
  (if_pos (by decide)).trans <|
  (r_ald (pg_of mt_54 dX5_init_90 rfl) rfl).trans <|
  (k_gtr (ci := 5) (k := 7) (b := 28) (pg_of mt_54 dX5_init_91 rfl) rfl hr_0_7).trans <|
  (r_ild (pg_of mt_54 dX5_init_94 rfl) rfl).trans <|
  (k_new (n := 36) (ci := 1) (pg_of mt_54 dX5_init_95 rfl) (by decide) rfl (hz.ux (by decide))).trans <|
  (r_dup (pg_of mt_54 dX5_init_98 rfl) rfl).trans <|
  (r_call (t := tt_54) (t2 := tt_7) (pg_of mt_54 dX5_init_99 rfl) mt_54 mt_7 rfl rfl rfl rfl rfl)
theorem ct_7_36_s0 (hz : Fz 37 f fr a g ar)  : rn xs L 7 0 [vR 36] [] (cw 37 f fr a g ar) = some (none, (cw 38 (ma_u2 f 36 1 (-1 : Int32)) (ma_u2 fr 36 0 (some 37)) a g ar)) :=
  (r_ald (pg_of mt_7 dX1_init_0 rfl) rfl).trans <|
  (k_oin (pg_of mt_7 dX1_init_1 rfl) (Nat.le_of_ble_eq_true rfl)).trans <|
  (r_ald (pg_of mt_7 dX1_init_4 rfl) rfl).trans <|
  (r_con (pg_of mt_7 dX1_init_5 rfl) (v2 := (40 : Int32)) (by decide)).trans <|
  (k_nwa (n := 37) (t := 2) (N := 40) (pg_of mt_7 dX1_init_7 rfl) (by decide) (by decide) (by decide) rfl hz).trans <|
  (k_ptr (ci := 1) (k := 0) (pg_of mt_7 dX1_init_9 rfl) rfl).trans <|
  (r_ald (pg_of mt_7 dX1_init_12 rfl) rfl).trans <|
  (r_con (pg_of mt_7 dX1_init_13 rfl) (v2 := (-1 : Int32)) (by decide)).trans <|
  (k_pti (ci := 1) (k := 1) (pg_of mt_7 dX1_init_14 rfl) rfl rfl).trans <|
  (r_rv (pg_of mt_7 dX1_init_17 rfl) mt_7 rfl)
theorem ct_7_36 (hz : Fz 37 f fr a g ar)  : ev xs L 7 1 [vR 36] (cw 37 f fr a g ar) = some (none, (cw 38 (ma_u2 f 36 1 (-1 : Int32)) (ma_u2 fr 36 0 (some 37)) a g ar)) := by
  show rn xs L 7 0 [vR 36] [] (cw 37 f fr a g ar) = _
  rw [ct_7_36_s0 hz]
theorem ct_54_0_s10 (hz : Fz 38 f fr a g ar) (hr_0_7 : fr 0 7 = some 28) : rn xs L 54 102 [vR 0, vI (2 : Int32)] [vR 36, vI (2 : Int32), vR 28] (cw 38 f fr a g ar) = (ev xs L 7 1 [vR 38] (cw 39 f fr a g (ma_u2 ar 28 2 (some 36)))).bind (fun b => rn xs L 54 102 [vR 0, vI (3 : Int32)] (b.1.toList ++ [vR 38, vI (3 : Int32), vR 28]) b.2) :=
  (k_aast (t := 3) (N := 4) (j := 2) (pg_of mt_54 dX5_init_102 rfl) (by decide) rfl (by decide) (by decide) rfl).trans <|
  (k_inc (pg_of mt_54 dX5_init_103 rfl) (y := (1 : Int32)) (z := (3 : Int32)) (by decide) rfl (by decide) rfl).trans <|
  (r_gto (pg_of mt_54 dX5_init_106 rfl)).trans <|
  (r_ild (pg_of mt_54 dX5_init_85 rfl) rfl).trans <|
  (r_con (pg_of mt_54 dX5_init_86 rfl) (v2 := (4 : Int32)) (by decide)).trans <|
  (r_ge (pg_of mt_54 dX5_init_87 rfl)).trans <|
  (if_pos (by decide)).trans <|
  (r_ald (pg_of mt_54 dX5_init_90 rfl) rfl).trans <|
  (k_gtr (ci := 5) (k := 7) (b := 28) (pg_of mt_54 dX5_init_91 rfl) rfl hr_0_7).trans <|
  (r_ild (pg_of mt_54 dX5_init_94 rfl) rfl).trans <|
  (k_new (n := 38) (ci := 1) (pg_of mt_54 dX5_init_95 rfl) (by decide) rfl (hz.ux (by decide))).trans <|
  (r_dup (pg_of mt_54 dX5_init_98 rfl) rfl).trans <|
  (r_call (t := tt_54) (t2 := tt_7) (pg_of mt_54 dX5_init_99 rfl) mt_54 mt_7 rfl rfl rfl rfl rfl)
theorem ct_7_38_s0 (hz : Fz 39 f fr a g ar)  : rn xs L 7 0 [vR 38] [] (cw 39 f fr a g ar) = some (none, (cw 40 (ma_u2 f 38 1 (-1 : Int32)) (ma_u2 fr 38 0 (some 39)) a g ar)) :=
  (r_ald (pg_of mt_7 dX1_init_0 rfl) rfl).trans <|
  (k_oin (pg_of mt_7 dX1_init_1 rfl) (Nat.le_of_ble_eq_true rfl)).trans <|
  (r_ald (pg_of mt_7 dX1_init_4 rfl) rfl).trans <|
  (r_con (pg_of mt_7 dX1_init_5 rfl) (v2 := (40 : Int32)) (by decide)).trans <|
  (k_nwa (n := 39) (t := 2) (N := 40) (pg_of mt_7 dX1_init_7 rfl) (by decide) (by decide) (by decide) rfl hz).trans <|
  (k_ptr (ci := 1) (k := 0) (pg_of mt_7 dX1_init_9 rfl) rfl).trans <|
  (r_ald (pg_of mt_7 dX1_init_12 rfl) rfl).trans <|
  (r_con (pg_of mt_7 dX1_init_13 rfl) (v2 := (-1 : Int32)) (by decide)).trans <|
  (k_pti (ci := 1) (k := 1) (pg_of mt_7 dX1_init_14 rfl) rfl rfl).trans <|
  (r_rv (pg_of mt_7 dX1_init_17 rfl) mt_7 rfl)
theorem ct_7_38 (hz : Fz 39 f fr a g ar)  : ev xs L 7 1 [vR 38] (cw 39 f fr a g ar) = some (none, (cw 40 (ma_u2 f 38 1 (-1 : Int32)) (ma_u2 fr 38 0 (some 39)) a g ar)) := by
  show rn xs L 7 0 [vR 38] [] (cw 39 f fr a g ar) = _
  rw [ct_7_38_s0 hz]
theorem ct_54_0_s11 (hz : Fz 40 f fr a g ar) (hr_0_8 : fr 0 8 = some 29) : rn xs L 54 102 [vR 0, vI (3 : Int32)] [vR 38, vI (3 : Int32), vR 28] (cw 40 f fr a g ar) = (ev xs L 11 1 [vR 40] (cw 41 f fr a g (ma_u2 ar 28 3 (some 38)))).bind (fun b => rn xs L 54 128 [vR 0, vI (0 : Int32)] (b.1.toList ++ [vR 40, vI (0 : Int32), vR 29]) b.2) :=
  (k_aast (t := 3) (N := 4) (j := 3) (pg_of mt_54 dX5_init_102 rfl) (by decide) rfl (by decide) (by decide) rfl).trans <|
  (k_inc (pg_of mt_54 dX5_init_103 rfl) (y := (1 : Int32)) (z := (4 : Int32)) (by decide) rfl (by decide) rfl).trans <|
  (r_gto (pg_of mt_54 dX5_init_106 rfl)).trans <|
  (r_ild (pg_of mt_54 dX5_init_85 rfl) rfl).trans <|
  (r_con (pg_of mt_54 dX5_init_86 rfl) (v2 := (4 : Int32)) (by decide)).trans <|
  (r_ge (pg_of mt_54 dX5_init_87 rfl)).trans <|
  (if_neg (by decide)).trans <|
  (r_con (pg_of mt_54 dX5_init_109 rfl) (v2 := (0 : Int32)) (by decide)).trans <|
  (r_ist (pg_of mt_54 dX5_init_110 rfl) (Nat.le_of_ble_eq_true rfl) rfl).trans <|
  (r_ild (pg_of mt_54 dX5_init_111 rfl) rfl).trans <|
  (r_con (pg_of mt_54 dX5_init_112 rfl) (v2 := (4 : Int32)) (by decide)).trans <|
  (r_ge (pg_of mt_54 dX5_init_113 rfl)).trans <|
  (if_pos (by decide)).trans <|
  (r_ald (pg_of mt_54 dX5_init_116 rfl) rfl).trans <|
  (k_gtr (ci := 5) (k := 8) (b := 29) (pg_of mt_54 dX5_init_117 rfl) rfl hr_0_8).trans <|
  (r_ild (pg_of mt_54 dX5_init_120 rfl) rfl).trans <|
  (k_new (n := 40) (ci := 2) (pg_of mt_54 dX5_init_121 rfl) (by decide) rfl (hz.ux (by decide))).trans <|
  (r_dup (pg_of mt_54 dX5_init_124 rfl) rfl).trans <|
  (r_call (t := tt_54) (t2 := tt_11) (pg_of mt_54 dX5_init_125 rfl) mt_54 mt_11 rfl rfl rfl rfl rfl)
theorem ct_11_40_s0 (hz : Fz 41 f fr a g ar)  : rn xs L 11 0 [vR 40] [] (cw 41 f fr a g ar) = some (none, (cw 41 (ma_u2 f 40 0 (2 : Int32)) fr a g ar)) :=
  (r_ald (pg_of mt_11 dX2_init_0 rfl) rfl).trans <|
  (k_oin (pg_of mt_11 dX2_init_1 rfl) (Nat.le_of_ble_eq_true rfl)).trans <|
  (r_ald (pg_of mt_11 dX2_init_4 rfl) rfl).trans <|
  (r_con (pg_of mt_11 dX2_init_5 rfl) (v2 := (2 : Int32)) (by decide)).trans <|
  (k_pti (ci := 2) (k := 0) (pg_of mt_11 dX2_init_6 rfl) rfl rfl).trans <|
  (r_rv (pg_of mt_11 dX2_init_9 rfl) mt_11 rfl)
theorem ct_11_40 (hz : Fz 41 f fr a g ar)  : ev xs L 11 1 [vR 40] (cw 41 f fr a g ar) = some (none, (cw 41 (ma_u2 f 40 0 (2 : Int32)) fr a g ar)) := by
  show rn xs L 11 0 [vR 40] [] (cw 41 f fr a g ar) = _
  rw [ct_11_40_s0 hz]
theorem ct_54_0_s12 (hz : Fz 41 f fr a g ar) (hr_0_8 : fr 0 8 = some 29) : rn xs L 54 128 [vR 0, vI (0 : Int32)] [vR 40, vI (0 : Int32), vR 29] (cw 41 f fr a g ar) = (ev xs L 11 1 [vR 41] (cw 42 f fr a g (ma_u2 ar 29 0 (some 40)))).bind (fun b => rn xs L 54 128 [vR 0, vI (1 : Int32)] (b.1.toList ++ [vR 41, vI (1 : Int32), vR 29]) b.2) :=
  (k_aast (t := 4) (N := 4) (j := 0) (pg_of mt_54 dX5_init_128 rfl) (by decide) rfl (by decide) (by decide) rfl).trans <|
  (k_inc (pg_of mt_54 dX5_init_129 rfl) (y := (1 : Int32)) (z := (1 : Int32)) (by decide) rfl (by decide) rfl).trans <|
  (r_gto (pg_of mt_54 dX5_init_132 rfl)).trans <|
  (r_ild (pg_of mt_54 dX5_init_111 rfl) rfl).trans <|
  (r_con (pg_of mt_54 dX5_init_112 rfl) (v2 := (4 : Int32)) (by decide)).trans <|
  (r_ge (pg_of mt_54 dX5_init_113 rfl)).trans <|
  (if_pos (by decide)).trans <|
  (r_ald (pg_of mt_54 dX5_init_116 rfl) rfl).trans <|
  (k_gtr (ci := 5) (k := 8) (b := 29) (pg_of mt_54 dX5_init_117 rfl) rfl hr_0_8).trans <|
  (r_ild (pg_of mt_54 dX5_init_120 rfl) rfl).trans <|
  (k_new (n := 41) (ci := 2) (pg_of mt_54 dX5_init_121 rfl) (by decide) rfl (hz.ux (by decide))).trans <|
  (r_dup (pg_of mt_54 dX5_init_124 rfl) rfl).trans <|
  (r_call (t := tt_54) (t2 := tt_11) (pg_of mt_54 dX5_init_125 rfl) mt_54 mt_11 rfl rfl rfl rfl rfl)
theorem ct_11_41_s0 (hz : Fz 42 f fr a g ar)  : rn xs L 11 0 [vR 41] [] (cw 42 f fr a g ar) = some (none, (cw 42 (ma_u2 f 41 0 (2 : Int32)) fr a g ar)) :=
  (r_ald (pg_of mt_11 dX2_init_0 rfl) rfl).trans <|
  (k_oin (pg_of mt_11 dX2_init_1 rfl) (Nat.le_of_ble_eq_true rfl)).trans <|
  (r_ald (pg_of mt_11 dX2_init_4 rfl) rfl).trans <|
  (r_con (pg_of mt_11 dX2_init_5 rfl) (v2 := (2 : Int32)) (by decide)).trans <|
  (k_pti (ci := 2) (k := 0) (pg_of mt_11 dX2_init_6 rfl) rfl rfl).trans <|
  (r_rv (pg_of mt_11 dX2_init_9 rfl) mt_11 rfl)
theorem ct_11_41 (hz : Fz 42 f fr a g ar)  : ev xs L 11 1 [vR 41] (cw 42 f fr a g ar) = some (none, (cw 42 (ma_u2 f 41 0 (2 : Int32)) fr a g ar)) := by
  show rn xs L 11 0 [vR 41] [] (cw 42 f fr a g ar) = _
  rw [ct_11_41_s0 hz]
theorem ct_54_0_s13 (hz : Fz 42 f fr a g ar) (hr_0_8 : fr 0 8 = some 29) : rn xs L 54 128 [vR 0, vI (1 : Int32)] [vR 41, vI (1 : Int32), vR 29] (cw 42 f fr a g ar) = (ev xs L 11 1 [vR 42] (cw 43 f fr a g (ma_u2 ar 29 1 (some 41)))).bind (fun b => rn xs L 54 128 [vR 0, vI (2 : Int32)] (b.1.toList ++ [vR 42, vI (2 : Int32), vR 29]) b.2) :=
  (k_aast (t := 4) (N := 4) (j := 1) (pg_of mt_54 dX5_init_128 rfl) (by decide) rfl (by decide) (by decide) rfl).trans <|
  (k_inc (pg_of mt_54 dX5_init_129 rfl) (y := (1 : Int32)) (z := (2 : Int32)) (by decide) rfl (by decide) rfl).trans <|
  (r_gto (pg_of mt_54 dX5_init_132 rfl)).trans <|
  (r_ild (pg_of mt_54 dX5_init_111 rfl) rfl).trans <|
  (r_con (pg_of mt_54 dX5_init_112 rfl) (v2 := (4 : Int32)) (by decide)).trans <|
  (r_ge (pg_of mt_54 dX5_init_113 rfl)).trans <|
  (if_pos (by decide)).trans <|
  (r_ald (pg_of mt_54 dX5_init_116 rfl) rfl).trans <|
  (k_gtr (ci := 5) (k := 8) (b := 29) (pg_of mt_54 dX5_init_117 rfl) rfl hr_0_8).trans <|
  (r_ild (pg_of mt_54 dX5_init_120 rfl) rfl).trans <|
  (k_new (n := 42) (ci := 2) (pg_of mt_54 dX5_init_121 rfl) (by decide) rfl (hz.ux (by decide))).trans <|
  (r_dup (pg_of mt_54 dX5_init_124 rfl) rfl).trans <|
  (r_call (t := tt_54) (t2 := tt_11) (pg_of mt_54 dX5_init_125 rfl) mt_54 mt_11 rfl rfl rfl rfl rfl)
theorem ct_11_42_s0 (hz : Fz 43 f fr a g ar)  : rn xs L 11 0 [vR 42] [] (cw 43 f fr a g ar) = some (none, (cw 43 (ma_u2 f 42 0 (2 : Int32)) fr a g ar)) :=
  (r_ald (pg_of mt_11 dX2_init_0 rfl) rfl).trans <|
  (k_oin (pg_of mt_11 dX2_init_1 rfl) (Nat.le_of_ble_eq_true rfl)).trans <|
  (r_ald (pg_of mt_11 dX2_init_4 rfl) rfl).trans <|
  (r_con (pg_of mt_11 dX2_init_5 rfl) (v2 := (2 : Int32)) (by decide)).trans <|
  (k_pti (ci := 2) (k := 0) (pg_of mt_11 dX2_init_6 rfl) rfl rfl).trans <|
  (r_rv (pg_of mt_11 dX2_init_9 rfl) mt_11 rfl)
theorem ct_11_42 (hz : Fz 43 f fr a g ar)  : ev xs L 11 1 [vR 42] (cw 43 f fr a g ar) = some (none, (cw 43 (ma_u2 f 42 0 (2 : Int32)) fr a g ar)) := by
  show rn xs L 11 0 [vR 42] [] (cw 43 f fr a g ar) = _
  rw [ct_11_42_s0 hz]
theorem ct_54_0_s14 (hz : Fz 43 f fr a g ar) (hr_0_8 : fr 0 8 = some 29) : rn xs L 54 128 [vR 0, vI (2 : Int32)] [vR 42, vI (2 : Int32), vR 29] (cw 43 f fr a g ar) = (ev xs L 11 1 [vR 43] (cw 44 f fr a g (ma_u2 ar 29 2 (some 42)))).bind (fun b => rn xs L 54 128 [vR 0, vI (3 : Int32)] (b.1.toList ++ [vR 43, vI (3 : Int32), vR 29]) b.2) :=
  (k_aast (t := 4) (N := 4) (j := 2) (pg_of mt_54 dX5_init_128 rfl) (by decide) rfl (by decide) (by decide) rfl).trans <|
  (k_inc (pg_of mt_54 dX5_init_129 rfl) (y := (1 : Int32)) (z := (3 : Int32)) (by decide) rfl (by decide) rfl).trans <|
  (r_gto (pg_of mt_54 dX5_init_132 rfl)).trans <|
  (r_ild (pg_of mt_54 dX5_init_111 rfl) rfl).trans <|
  (r_con (pg_of mt_54 dX5_init_112 rfl) (v2 := (4 : Int32)) (by decide)).trans <|
  (r_ge (pg_of mt_54 dX5_init_113 rfl)).trans <|
  (if_pos (by decide)).trans <|
  (r_ald (pg_of mt_54 dX5_init_116 rfl) rfl).trans <|
  (k_gtr (ci := 5) (k := 8) (b := 29) (pg_of mt_54 dX5_init_117 rfl) rfl hr_0_8).trans <|
  (r_ild (pg_of mt_54 dX5_init_120 rfl) rfl).trans <|
  (k_new (n := 43) (ci := 2) (pg_of mt_54 dX5_init_121 rfl) (by decide) rfl (hz.ux (by decide))).trans <|
  (r_dup (pg_of mt_54 dX5_init_124 rfl) rfl).trans <|
  (r_call (t := tt_54) (t2 := tt_11) (pg_of mt_54 dX5_init_125 rfl) mt_54 mt_11 rfl rfl rfl rfl rfl)
theorem ct_11_43_s0 (hz : Fz 44 f fr a g ar)  : rn xs L 11 0 [vR 43] [] (cw 44 f fr a g ar) = some (none, (cw 44 (ma_u2 f 43 0 (2 : Int32)) fr a g ar)) :=
  (r_ald (pg_of mt_11 dX2_init_0 rfl) rfl).trans <|
  (k_oin (pg_of mt_11 dX2_init_1 rfl) (Nat.le_of_ble_eq_true rfl)).trans <|
  (r_ald (pg_of mt_11 dX2_init_4 rfl) rfl).trans <|
  (r_con (pg_of mt_11 dX2_init_5 rfl) (v2 := (2 : Int32)) (by decide)).trans <|
  (k_pti (ci := 2) (k := 0) (pg_of mt_11 dX2_init_6 rfl) rfl rfl).trans <|
  (r_rv (pg_of mt_11 dX2_init_9 rfl) mt_11 rfl)
theorem ct_11_43 (hz : Fz 44 f fr a g ar)  : ev xs L 11 1 [vR 43] (cw 44 f fr a g ar) = some (none, (cw 44 (ma_u2 f 43 0 (2 : Int32)) fr a g ar)) := by
  show rn xs L 11 0 [vR 43] [] (cw 44 f fr a g ar) = _
  rw [ct_11_43_s0 hz]
theorem ct_54_0_s15 (hz : Fz 44 f fr a g ar)  : rn xs L 54 128 [vR 0, vI (3 : Int32)] [vR 43, vI (3 : Int32), vR 29] (cw 44 f fr a g ar) = some (none, (cw 44 f fr a g (ma_u2 ar 29 3 (some 43)))) :=
  (k_aast (t := 4) (N := 4) (j := 3) (pg_of mt_54 dX5_init_128 rfl) (by decide) rfl (by decide) (by decide) rfl).trans <|
  (k_inc (pg_of mt_54 dX5_init_129 rfl) (y := (1 : Int32)) (z := (4 : Int32)) (by decide) rfl (by decide) rfl).trans <|
  (r_gto (pg_of mt_54 dX5_init_132 rfl)).trans <|
  (r_ild (pg_of mt_54 dX5_init_111 rfl) rfl).trans <|
  (r_con (pg_of mt_54 dX5_init_112 rfl) (v2 := (4 : Int32)) (by decide)).trans <|
  (r_ge (pg_of mt_54 dX5_init_113 rfl)).trans <|
  (if_neg (by decide)).trans <|
  (r_rv (pg_of mt_54 dX5_init_135 rfl) mt_54 rfl)
theorem ct_54_0 (hz : Fz 1 f fr a g ar)  : ev xs L 54 2 [vR 0] (cw 1 f fr a g ar) = some (none, (cw 44 (ma_u2 (ma_u2 (ma_u2 (ma_u2 (ma_u2 (ma_u2 (ma_u2 (ma_u2 (ma_u2 (ma_u2 (ma_u2 (ma_u2 (ma_u2 (ma_u2 (ma_u2 (ma_u2 (ma_u2 (ma_u2 (ma_u2 (ma_u2 (ma_u2 (ma_u2 (ma_u2 f 1 10 (1 : Int32)) 1 7 (0 : Int32)) 1 8 (0 : Int32)) 1 9 (0 : Int32)) 1 11 (0 : Int32)) 9 10 (1 : Int32)) 9 7 (0 : Int32)) 9 8 (0 : Int32)) 9 9 (0 : Int32)) 9 11 (0 : Int32)) 17 10 (1 : Int32)) 17 7 (0 : Int32)) 17 8 (0 : Int32)) 17 9 (0 : Int32)) 17 11 (0 : Int32)) 32 1 (-1 : Int32)) 34 1 (-1 : Int32)) 36 1 (-1 : Int32)) 38 1 (-1 : Int32)) 40 0 (2 : Int32)) 41 0 (2 : Int32)) 42 0 (2 : Int32)) 43 0 (2 : Int32)) (ma_u2 (ma_u2 (ma_u2 (ma_u2 (ma_u2 (ma_u2 (ma_u2 (ma_u2 (ma_u2 (ma_u2 (ma_u2 (ma_u2 (ma_u2 (ma_u2 (ma_u2 (ma_u2 (ma_u2 (ma_u2 (ma_u2 (ma_u2 (ma_u2 (ma_u2 (ma_u2 (ma_u2 (ma_u2 (ma_u2 (ma_u2 (ma_u2 (ma_u2 (ma_u2 (ma_u2 (ma_u2 (ma_u2 (ma_u2 (ma_u2 fr 1 0 (some 2)) 1 1 (some 3)) 1 2 (some 4)) 1 3 (some 5)) 1 4 (some 6)) 1 5 (some 7)) 1 6 (some 8)) 0 0 (some 1)) 9 0 (some 10)) 9 1 (some 11)) 9 2 (some 12)) 9 3 (some 13)) 9 4 (some 14)) 9 5 (some 15)) 9 6 (some 16)) 0 1 (some 9)) 17 0 (some 18)) 17 1 (some 19)) 17 2 (some 20)) 17 3 (some 21)) 17 4 (some 22)) 17 5 (some 23)) 17 6 (some 24)) 0 2 (some 17)) 25 0 (some 26)) 0 4 (some 25)) 0 5 (some 27)) 0 7 (some 28)) 0 8 (some 29)) 30 3 (some 31)) 0 9 (some 30)) 32 0 (some 33)) 34 0 (some 35)) 36 0 (some 37)) 38 0 (some 39)) (ma_u2 (ma_u2 (ma_u2 (ma_u2 (ma_u2 (ma_u2 (ma_u2 (ma_u2 (ma_u2 (ma_u2 (ma_u2 (ma_u2 (ma_u2 (ma_u2 (ma_u2 (ma_u2 (ma_u2 (ma_u2 (ma_u2 (ma_u2 (ma_u2 (ma_u2 (ma_u2 (ma_u2 (ma_u2 (ma_u2 (ma_u2 (ma_u2 (ma_u2 (ma_u2 a 2 0 (2 : Int32)) 2 1 (1 : Int32)) 2 2 (1 : Int32)) 2 3 (20 : Int32)) 3 0 (1 : Int32)) 3 1 (1 : Int32)) 3 2 (1 : Int32)) 3 3 (1 : Int32)) 3 4 (1 : Int32)) 3 5 (1 : Int32)) 10 0 (2 : Int32)) 10 1 (1 : Int32)) 10 2 (1 : Int32)) 10 3 (20 : Int32)) 11 0 (1 : Int32)) 11 1 (1 : Int32)) 11 2 (1 : Int32)) 11 3 (1 : Int32)) 11 4 (1 : Int32)) 11 5 (1 : Int32)) 18 0 (2 : Int32)) 18 1 (1 : Int32)) 18 2 (1 : Int32)) 18 3 (20 : Int32)) 19 0 (1 : Int32)) 19 1 (1 : Int32)) 19 2 (1 : Int32)) 19 3 (1 : Int32)) 19 4 (1 : Int32)) 19 5 (1 : Int32)) g (ma_u2 (ma_u2 (ma_u2 (ma_u2 (ma_u2 (ma_u2 (ma_u2 (ma_u2 ar 28 0 (some 32)) 28 1 (some 34)) 28 2 (some 36)) 28 3 (some 38)) 29 0 (some 40)) 29 1 (some 41)) 29 2 (some 42)) 29 3 (some 43)))) := by
  show rn xs L 54 0 [vR 0, (vS 0)] [] (cw 1 f fr a g ar) = _
  rw [ct_54_0_s0 hz]
  rw [ct_30_1 hz.up]
  simp only [Option.bind_some, Option.toList_none, List.nil_append]
  rw [ct_54_0_s1 (((((((((((((((((((((((hz.up).up.ur (by decide)).up.ur (by decide)).up.ur (by decide)).up.ur (by decide)).up.ur (by decide)).up.ur (by decide)).up.ur (by decide)).uf (by decide)).ua (by decide)).ua (by decide)).ua (by decide)).ua (by decide)).ua (by decide)).ua (by decide)).ua (by decide)).ua (by decide)).ua (by decide)).ua (by decide)).uf (by decide)).uf (by decide)).uf (by decide)).uf (by decide))]
  rw [ct_30_9 ((((((((((((((((((((((((hz.up).up.ur (by decide)).up.ur (by decide)).up.ur (by decide)).up.ur (by decide)).up.ur (by decide)).up.ur (by decide)).up.ur (by decide)).uf (by decide)).ua (by decide)).ua (by decide)).ua (by decide)).ua (by decide)).ua (by decide)).ua (by decide)).ua (by decide)).ua (by decide)).ua (by decide)).ua (by decide)).uf (by decide)).uf (by decide)).uf (by decide)).uf (by decide)).ur (by decide)).up]
  simp only [Option.bind_some, Option.toList_none, List.nil_append]
  rw [ct_54_0_s2 (((((((((((((((((((((((((((((((((((((((((((((((hz.up).up.ur (by decide)).up.ur (by decide)).up.ur (by decide)).up.ur (by decide)).up.ur (by decide)).up.ur (by decide)).up.ur (by decide)).uf (by decide)).ua (by decide)).ua (by decide)).ua (by decide)).ua (by decide)).ua (by decide)).ua (by decide)).ua (by decide)).ua (by decide)).ua (by decide)).ua (by decide)).uf (by decide)).uf (by decide)).uf (by decide)).uf (by decide)).ur (by decide)).up).up.ur (by decide)).up.ur (by decide)).up.ur (by decide)).up.ur (by decide)).up.ur (by decide)).up.ur (by decide)).up.ur (by decide)).uf (by decide)).ua (by decide)).ua (by decide)).ua (by decide)).ua (by decide)).ua (by decide)).ua (by decide)).ua (by decide)).ua (by decide)).ua (by decide)).ua (by decide)).uf (by decide)).uf (by decide)).uf (by decide)).uf (by decide))]
  rw [ct_30_17 ((((((((((((((((((((((((((((((((((((((((((((((((hz.up).up.ur (by decide)).up.ur (by decide)).up.ur (by decide)).up.ur (by decide)).up.ur (by decide)).up.ur (by decide)).up.ur (by decide)).uf (by decide)).ua (by decide)).ua (by decide)).ua (by decide)).ua (by decide)).ua (by decide)).ua (by decide)).ua (by decide)).ua (by decide)).ua (by decide)).ua (by decide)).uf (by decide)).uf (by decide)).uf (by decide)).uf (by decide)).ur (by decide)).up).up.ur (by decide)).up.ur (by decide)).up.ur (by decide)).up.ur (by decide)).up.ur (by decide)).up.ur (by decide)).up.ur (by decide)).uf (by decide)).ua (by decide)).ua (by decide)).ua (by decide)).ua (by decide)).ua (by decide)).ua (by decide)).ua (by decide)).ua (by decide)).ua (by decide)).ua (by decide)).uf (by decide)).uf (by decide)).uf (by decide)).uf (by decide)).ur (by decide)).up]
  simp only [Option.bind_some, Option.toList_none, List.nil_append]
  rw [ct_54_0_s3 (((((((((((((((((((((((((((((((((((((((((((((((((((((((((((((((((((((((hz.up).up.ur (by decide)).up.ur (by decide)).up.ur (by decide)).up.ur (by decide)).up.ur (by decide)).up.ur (by decide)).up.ur (by decide)).uf (by decide)).ua (by decide)).ua (by decide)).ua (by decide)).ua (by decide)).ua (by decide)).ua (by decide)).ua (by decide)).ua (by decide)).ua (by decide)).ua (by decide)).uf (by decide)).uf (by decide)).uf (by decide)).uf (by decide)).ur (by decide)).up).up.ur (by decide)).up.ur (by decide)).up.ur (by decide)).up.ur (by decide)).up.ur (by decide)).up.ur (by decide)).up.ur (by decide)).uf (by decide)).ua (by decide)).ua (by decide)).ua (by decide)).ua (by decide)).ua (by decide)).ua (by decide)).ua (by decide)).ua (by decide)).ua (by decide)).ua (by decide)).uf (by decide)).uf (by decide)).uf (by decide)).uf (by decide)).ur (by decide)).up).up.ur (by decide)).up.ur (by decide)).up.ur (by decide)).up.ur (by decide)).up.ur (by decide)).up.ur (by decide)).up.ur (by decide)).uf (by decide)).ua (by decide)).ua (by decide)).ua (by decide)).ua (by decide)).ua (by decide)).ua (by decide)).ua (by decide)).ua (by decide)).ua (by decide)).ua (by decide)).uf (by decide)).uf (by decide)).uf (by decide)).uf (by decide))]
  rw [ct_14_25 ((((((((((((((((((((((((((((((((((((((((((((((((((((((((((((((((((((((((hz.up).up.ur (by decide)).up.ur (by decide)).up.ur (by decide)).up.ur (by decide)).up.ur (by decide)).up.ur (by decide)).up.ur (by decide)).uf (by decide)).ua (by decide)).ua (by decide)).ua (by decide)).ua (by decide)).ua (by decide)).ua (by decide)).ua (by decide)).ua (by decide)).ua (by decide)).ua (by decide)).uf (by decide)).uf (by decide)).uf (by decide)).uf (by decide)).ur (by decide)).up).up.ur (by decide)).up.ur (by decide)).up.ur (by decide)).up.ur (by decide)).up.ur (by decide)).up.ur (by decide)).up.ur (by decide)).uf (by decide)).ua (by decide)).ua (by decide)).ua (by decide)).ua (by decide)).ua (by decide)).ua (by decide)).ua (by decide)).ua (by decide)).ua (by decide)).ua (by decide)).uf (by decide)).uf (by decide)).uf (by decide)).uf (by decide)).ur (by decide)).up).up.ur (by decide)).up.ur (by decide)).up.ur (by decide)).up.ur (by decide)).up.ur (by decide)).up.ur (by decide)).up.ur (by decide)).uf (by decide)).ua (by decide)).ua (by decide)).ua (by decide)).ua (by decide)).ua (by decide)).ua (by decide)).ua (by decide)).ua (by decide)).ua (by decide)).ua (by decide)).uf (by decide)).uf (by decide)).uf (by decide)).uf (by decide)).ur (by decide)).up]
  simp only [Option.bind_some, Option.toList_none, List.nil_append]
  rw [ct_54_0_s4 ((((((((((((((((((((((((((((((((((((((((((((((((((((((((((((((((((((((((((hz.up).up.ur (by decide)).up.ur (by decide)).up.ur (by decide)).up.ur (by decide)).up.ur (by decide)).up.ur (by decide)).up.ur (by decide)).uf (by decide)).ua (by decide)).ua (by decide)).ua (by decide)).ua (by decide)).ua (by decide)).ua (by decide)).ua (by decide)).ua (by decide)).ua (by decide)).ua (by decide)).uf (by decide)).uf (by decide)).uf (by decide)).uf (by decide)).ur (by decide)).up).up.ur (by decide)).up.ur (by decide)).up.ur (by decide)).up.ur (by decide)).up.ur (by decide)).up.ur (by decide)).up.ur (by decide)).uf (by decide)).ua (by decide)).ua (by decide)).ua (by decide)).ua (by decide)).ua (by decide)).ua (by decide)).ua (by decide)).ua (by decide)).ua (by decide)).ua (by decide)).uf (by decide)).uf (by decide)).uf (by decide)).uf (by decide)).ur (by decide)).up).up.ur (by decide)).up.ur (by decide)).up.ur (by decide)).up.ur (by decide)).up.ur (by decide)).up.ur (by decide)).up.ur (by decide)).uf (by decide)).ua (by decide)).ua (by decide)).ua (by decide)).ua (by decide)).ua (by decide)).ua (by decide)).ua (by decide)).ua (by decide)).ua (by decide)).ua (by decide)).uf (by decide)).uf (by decide)).uf (by decide)).uf (by decide)).ur (by decide)).up).up.ur (by decide))]
  rw [ct_54_0_s5 (((((((((((((((((((((((((((((((((((((((((((((((((((((((((((((((((((((((((((hz.up).up.ur (by decide)).up.ur (by decide)).up.ur (by decide)).up.ur (by decide)).up.ur (by decide)).up.ur (by decide)).up.ur (by decide)).uf (by decide)).ua (by decide)).ua (by decide)).ua (by decide)).ua (by decide)).ua (by decide)).ua (by decide)).ua (by decide)).ua (by decide)).ua (by decide)).ua (by decide)).uf (by decide)).uf (by decide)).uf (by decide)).uf (by decide)).ur (by decide)).up).up.ur (by decide)).up.ur (by decide)).up.ur (by decide)).up.ur (by decide)).up.ur (by decide)).up.ur (by decide)).up.ur (by decide)).uf (by decide)).ua (by decide)).ua (by decide)).ua (by decide)).ua (by decide)).ua (by decide)).ua (by decide)).ua (by decide)).ua (by decide)).ua (by decide)).ua (by decide)).uf (by decide)).uf (by decide)).uf (by decide)).uf (by decide)).ur (by decide)).up).up.ur (by decide)).up.ur (by decide)).up.ur (by decide)).up.ur (by decide)).up.ur (by decide)).up.ur (by decide)).up.ur (by decide)).uf (by decide)).ua (by decide)).ua (by decide)).ua (by decide)).ua (by decide)).ua (by decide)).ua (by decide)).ua (by decide)).ua (by decide)).ua (by decide)).ua (by decide)).uf (by decide)).uf (by decide)).uf (by decide)).uf (by decide)).ur (by decide)).up).up.ur (by decide)).ur (by decide)).up]
  rw [ct_0_30 ((((((((((((((((((((((((((((((((((((((((((((((((((((((((((((((((((((((((((((((hz.up).up.ur (by decide)).up.ur (by decide)).up.ur (by decide)).up.ur (by decide)).up.ur (by decide)).up.ur (by decide)).up.ur (by decide)).uf (by decide)).ua (by decide)).ua (by decide)).ua (by decide)).ua (by decide)).ua (by decide)).ua (by decide)).ua (by decide)).ua (by decide)).ua (by decide)).ua (by decide)).uf (by decide)).uf (by decide)).uf (by decide)).uf (by decide)).ur (by decide)).up).up.ur (by decide)).up.ur (by decide)).up.ur (by decide)).up.ur (by decide)).up.ur (by decide)).up.ur (by decide)).up.ur (by decide)).uf (by decide)).ua (by decide)).ua (by decide)).ua (by decide)).ua (by decide)).ua (by decide)).ua (by decide)).ua (by decide)).ua (by decide)).ua (by decide)).ua (by decide)).uf (by decide)).uf (by decide)).uf (by decide)).uf (by decide)).ur (by decide)).up).up.ur (by decide)).up.ur (by decide)).up.ur (by decide)).up.ur (by decide)).up.ur (by decide)).up.ur (by decide)).up.ur (by decide)).uf (by decide)).ua (by decide)).ua (by decide)).ua (by decide)).ua (by decide)).ua (by decide)).ua (by decide)).ua (by decide)).ua (by decide)).ua (by decide)).ua (by decide)).uf (by decide)).uf (by decide)).uf (by decide)).uf (by decide)).ur (by decide)).up).up.ur (by decide)).ur (by decide)).up.ur (by decide)).up.ur (by decide)).up.ur (by decide)).up]
  simp only [Option.bind_some, Option.toList_none, List.nil_append]
  rw [ct_54_0_s6 ((((((((((((((((((((((((((((((((((((((((((((((((((((((((((((((((((((((((((((((((hz.up).up.ur (by decide)).up.ur (by decide)).up.ur (by decide)).up.ur (by decide)).up.ur (by decide)).up.ur (by decide)).up.ur (by decide)).uf (by decide)).ua (by decide)).ua (by decide)).ua (by decide)).ua (by decide)).ua (by decide)).ua (by decide)).ua (by decide)).ua (by decide)).ua (by decide)).ua (by decide)).uf (by decide)).uf (by decide)).uf (by decide)).uf (by decide)).ur (by decide)).up).up.ur (by decide)).up.ur (by decide)).up.ur (by decide)).up.ur (by decide)).up.ur (by decide)).up.ur (by decide)).up.ur (by decide)).uf (by decide)).ua (by decide)).ua (by decide)).ua (by decide)).ua (by decide)).ua (by decide)).ua (by decide)).ua (by decide)).ua (by decide)).ua (by decide)).ua (by decide)).uf (by decide)).uf (by decide)).uf (by decide)).uf (by decide)).ur (by decide)).up).up.ur (by decide)).up.ur (by decide)).up.ur (by decide)).up.ur (by decide)).up.ur (by decide)).up.ur (by decide)).up.ur (by decide)).uf (by decide)).ua (by decide)).ua (by decide)).ua (by decide)).ua (by decide)).ua (by decide)).ua (by decide)).ua (by decide)).ua (by decide)).ua (by decide)).ua (by decide)).uf (by decide)).uf (by decide)).uf (by decide)).uf (by decide)).ur (by decide)).up).up.ur (by decide)).ur (by decide)).up.ur (by decide)).up.ur (by decide)).up.ur (by decide)).up).up.ur (by decide))]
  rw [ct_54_0_s7 (((((((((((((((((((((((((((((((((((((((((((((((((((((((((((((((((((((((((((((((((hz.up).up.ur (by decide)).up.ur (by decide)).up.ur (by decide)).up.ur (by decide)).up.ur (by decide)).up.ur (by decide)).up.ur (by decide)).uf (by decide)).ua (by decide)).ua (by decide)).ua (by decide)).ua (by decide)).ua (by decide)).ua (by decide)).ua (by decide)).ua (by decide)).ua (by decide)).ua (by decide)).uf (by decide)).uf (by decide)).uf (by decide)).uf (by decide)).ur (by decide)).up).up.ur (by decide)).up.ur (by decide)).up.ur (by decide)).up.ur (by decide)).up.ur (by decide)).up.ur (by decide)).up.ur (by decide)).uf (by decide)).ua (by decide)).ua (by decide)).ua (by decide)).ua (by decide)).ua (by decide)).ua (by decide)).ua (by decide)).ua (by decide)).ua (by decide)).ua (by decide)).uf (by decide)).uf (by decide)).uf (by decide)).uf (by decide)).ur (by decide)).up).up.ur (by decide)).up.ur (by decide)).up.ur (by decide)).up.ur (by decide)).up.ur (by decide)).up.ur (by decide)).up.ur (by decide)).uf (by decide)).ua (by decide)).ua (by decide)).ua (by decide)).ua (by decide)).ua (by decide)).ua (by decide)).ua (by decide)).ua (by decide)).ua (by decide)).ua (by decide)).uf (by decide)).uf (by decide)).uf (by decide)).uf (by decide)).ur (by decide)).up).up.ur (by decide)).ur (by decide)).up.ur (by decide)).up.ur (by decide)).up.ur (by decide)).up).up.ur (by decide)).ur (by decide)) (by first | rfl | assumption)]
  rw [ct_7_32 (((((((((((((((((((((((((((((((((((((((((((((((((((((((((((((((((((((((((((((((((hz.up).up.ur (by decide)).up.ur (by decide)).up.ur (by decide)).up.ur (by decide)).up.ur (by decide)).up.ur (by decide)).up.ur (by decide)).uf (by decide)).ua (by decide)).ua (by decide)).ua (by decide)).ua (by decide)).ua (by decide)).ua (by decide)).ua (by decide)).ua (by decide)).ua (by decide)).ua (by decide)).uf (by decide)).uf (by decide)).uf (by decide)).uf (by decide)).ur (by decide)).up).up.ur (by decide)).up.ur (by decide)).up.ur (by decide)).up.ur (by decide)).up.ur (by decide)).up.ur (by decide)).up.ur (by decide)).uf (by decide)).ua (by decide)).ua (by decide)).ua (by decide)).ua (by decide)).ua (by decide)).ua (by decide)).ua (by decide)).ua (by decide)).ua (by decide)).ua (by decide)).uf (by decide)).uf (by decide)).uf (by decide)).uf (by decide)).ur (by decide)).up).up.ur (by decide)).up.ur (by decide)).up.ur (by decide)).up.ur (by decide)).up.ur (by decide)).up.ur (by decide)).up.ur (by decide)).uf (by decide)).ua (by decide)).ua (by decide)).ua (by decide)).ua (by decide)).ua (by decide)).ua (by decide)).ua (by decide)).ua (by decide)).ua (by decide)).ua (by decide)).uf (by decide)).uf (by decide)).uf (by decide)).uf (by decide)).ur (by decide)).up).up.ur (by decide)).ur (by decide)).up.ur (by decide)).up.ur (by decide)).up.ur (by decide)).up).up.ur (by decide)).ur (by decide)).up]
  simp only [Option.bind_some, Option.toList_none, List.nil_append]
  rw [ct_54_0_s8 ((((((((((((((((((((((((((((((((((((((((((((((((((((((((((((((((((((((((((((((((((((hz.up).up.ur (by decide)).up.ur (by decide)).up.ur (by decide)).up.ur (by decide)).up.ur (by decide)).up.ur (by decide)).up.ur (by decide)).uf (by decide)).ua (by decide)).ua (by decide)).ua (by decide)).ua (by decide)).ua (by decide)).ua (by decide)).ua (by decide)).ua (by decide)).ua (by decide)).ua (by decide)).uf (by decide)).uf (by decide)).uf (by decide)).uf (by decide)).ur (by decide)).up).up.ur (by decide)).up.ur (by decide)).up.ur (by decide)).up.ur (by decide)).up.ur (by decide)).up.ur (by decide)).up.ur (by decide)).uf (by decide)).ua (by decide)).ua (by decide)).ua (by decide)).ua (by decide)).ua (by decide)).ua (by decide)).ua (by decide)).ua (by decide)).ua (by decide)).ua (by decide)).uf (by decide)).uf (by decide)).uf (by decide)).uf (by decide)).ur (by decide)).up).up.ur (by decide)).up.ur (by decide)).up.ur (by decide)).up.ur (by decide)).up.ur (by decide)).up.ur (by decide)).up.ur (by decide)).uf (by decide)).ua (by decide)).ua (by decide)).ua (by decide)).ua (by decide)).ua (by decide)).ua (by decide)).ua (by decide)).ua (by decide)).ua (by decide)).ua (by decide)).uf (by decide)).uf (by decide)).uf (by decide)).uf (by decide)).ur (by decide)).up).up.ur (by decide)).ur (by decide)).up.ur (by decide)).up.ur (by decide)).up.ur (by decide)).up).up.ur (by decide)).ur (by decide)).up).up.ur (by decide)).uf (by decide)) (by first | rfl | assumption)]
  rw [ct_7_34 (((((((((((((((((((((((((((((((((((((((((((((((((((((((((((((((((((((((((((((((((((((hz.up).up.ur (by decide)).up.ur (by decide)).up.ur (by decide)).up.ur (by decide)).up.ur (by decide)).up.ur (by decide)).up.ur (by decide)).uf (by decide)).ua (by decide)).ua (by decide)).ua (by decide)).ua (by decide)).ua (by decide)).ua (by decide)).ua (by decide)).ua (by decide)).ua (by decide)).ua (by decide)).uf (by decide)).uf (by decide)).uf (by decide)).uf (by decide)).ur (by decide)).up).up.ur (by decide)).up.ur (by decide)).up.ur (by decide)).up.ur (by decide)).up.ur (by decide)).up.ur (by decide)).up.ur (by decide)).uf (by decide)).ua (by decide)).ua (by decide)).ua (by decide)).ua (by decide)).ua (by decide)).ua (by decide)).ua (by decide)).ua (by decide)).ua (by decide)).ua (by decide)).uf (by decide)).uf (by decide)).uf (by decide)).uf (by decide)).ur (by decide)).up).up.ur (by decide)).up.ur (by decide)).up.ur (by decide)).up.ur (by decide)).up.ur (by decide)).up.ur (by decide)).up.ur (by decide)).uf (by decide)).ua (by decide)).ua (by decide)).ua (by decide)).ua (by decide)).ua (by decide)).ua (by decide)).ua (by decide)).ua (by decide)).ua (by decide)).ua (by decide)).uf (by decide)).uf (by decide)).uf (by decide)).uf (by decide)).ur (by decide)).up).up.ur (by decide)).ur (by decide)).up.ur (by decide)).up.ur (by decide)).up.ur (by decide)).up).up.ur (by decide)).ur (by decide)).up).up.ur (by decide)).uf (by decide)).ux (by decide)).up]
  simp only [Option.bind_some, Option.toList_none, List.nil_append]
  rw [ct_54_0_s9 ((((((((((((((((((((((((((((((((((((((((((((((((((((((((((((((((((((((((((((((((((((((((hz.up).up.ur (by decide)).up.ur (by decide)).up.ur (by decide)).up.ur (by decide)).up.ur (by decide)).up.ur (by decide)).up.ur (by decide)).uf (by decide)).ua (by decide)).ua (by decide)).ua (by decide)).ua (by decide)).ua (by decide)).ua (by decide)).ua (by decide)).ua (by decide)).ua (by decide)).ua (by decide)).uf (by decide)).uf (by decide)).uf (by decide)).uf (by decide)).ur (by decide)).up).up.ur (by decide)).up.ur (by decide)).up.ur (by decide)).up.ur (by decide)).up.ur (by decide)).up.ur (by decide)).up.ur (by decide)).uf (by decide)).ua (by decide)).ua (by decide)).ua (by decide)).ua (by decide)).ua (by decide)).ua (by decide)).ua (by decide)).ua (by decide)).ua (by decide)).ua (by decide)).uf (by decide)).uf (by decide)).uf (by decide)).uf (by decide)).ur (by decide)).up).up.ur (by decide)).up.ur (by decide)).up.ur (by decide)).up.ur (by decide)).up.ur (by decide)).up.ur (by decide)).up.ur (by decide)).uf (by decide)).ua (by decide)).ua (by decide)).ua (by decide)).ua (by decide)).ua (by decide)).ua (by decide)).ua (by decide)).ua (by decide)).ua (by decide)).ua (by decide)).uf (by decide)).uf (by decide)).uf (by decide)).uf (by decide)).ur (by decide)).up).up.ur (by decide)).ur (by decide)).up.ur (by decide)).up.ur (by decide)).up.ur (by decide)).up).up.ur (by decide)).ur (by decide)).up).up.ur (by decide)).uf (by decide)).ux (by decide)).up).up.ur (by decide)).uf (by decide)) (by first | rfl | assumption)]
  rw [ct_7_36 (((((((((((((((((((((((((((((((((((((((((((((((((((((((((((((((((((((((((((((((((((((((((hz.up).up.ur (by decide)).up.ur (by decide)).up.ur (by decide)).up.ur (by decide)).up.ur (by decide)).up.ur (by decide)).up.ur (by decide)).uf (by decide)).ua (by decide)).ua (by decide)).ua (by decide)).ua (by decide)).ua (by decide)).ua (by decide)).ua (by decide)).ua (by decide)).ua (by decide)).ua (by decide)).uf (by decide)).uf (by decide)).uf (by decide)).uf (by decide)).ur (by decide)).up).up.ur (by decide)).up.ur (by decide)).up.ur (by decide)).up.ur (by decide)).up.ur (by decide)).up.ur (by decide)).up.ur (by decide)).uf (by decide)).ua (by decide)).ua (by decide)).ua (by decide)).ua (by decide)).ua (by decide)).ua (by decide)).ua (by decide)).ua (by decide)).ua (by decide)).ua (by decide)).uf (by decide)).uf (by decide)).uf (by decide)).uf (by decide)).ur (by decide)).up).up.ur (by decide)).up.ur (by decide)).up.ur (by decide)).up.ur (by decide)).up.ur (by decide)).up.ur (by decide)).up.ur (by decide)).uf (by decide)).ua (by decide)).ua (by decide)).ua (by decide)).ua (by decide)).ua (by decide)).ua (by decide)).ua (by decide)).ua (by decide)).ua (by decide)).ua (by decide)).uf (by decide)).uf (by decide)).uf (by decide)).uf (by decide)).ur (by decide)).up).up.ur (by decide)).ur (by decide)).up.ur (by decide)).up.ur (by decide)).up.ur (by decide)).up).up.ur (by decide)).ur (by decide)).up).up.ur (by decide)).uf (by decide)).ux (by decide)).up).up.ur (by decide)).uf (by decide)).ux (by decide)).up]
  simp only [Option.bind_some, Option.toList_none, List.nil_append]
  rw [ct_54_0_s10 ((((((((((((((((((((((((((((((((((((((((((((((((((((((((((((((((((((((((((((((((((((((((((((hz.up).up.ur (by decide)).up.ur (by decide)).up.ur (by decide)).up.ur (by decide)).up.ur (by decide)).up.ur (by decide)).up.ur (by decide)).uf (by decide)).ua (by decide)).ua (by decide)).ua (by decide)).ua (by decide)).ua (by decide)).ua (by decide)).ua (by decide)).ua (by decide)).ua (by decide)).ua (by decide)).uf (by decide)).uf (by decide)).uf (by decide)).uf (by decide)).ur (by decide)).up).up.ur (by decide)).up.ur (by decide)).up.ur (by decide)).up.ur (by decide)).up.ur (by decide)).up.ur (by decide)).up.ur (by decide)).uf (by decide)).ua (by decide)).ua (by decide)).ua (by decide)).ua (by decide)).ua (by decide)).ua (by decide)).ua (by decide)).ua (by decide)).ua (by decide)).ua (by decide)).uf (by decide)).uf (by decide)).uf (by decide)).uf (by decide)).ur (by decide)).up).up.ur (by decide)).up.ur (by decide)).up.ur (by decide)).up.ur (by decide)).up.ur (by decide)).up.ur (by decide)).up.ur (by decide)).uf (by decide)).ua (by decide)).ua (by decide)).ua (by decide)).ua (by decide)).ua (by decide)).ua (by decide)).ua (by decide)).ua (by decide)).ua (by decide)).ua (by decide)).uf (by decide)).uf (by decide)).uf (by decide)).uf (by decide)).ur (by decide)).up).up.ur (by decide)).ur (by decide)).up.ur (by decide)).up.ur (by decide)).up.ur (by decide)).up).up.ur (by decide)).ur (by decide)).up).up.ur (by decide)).uf (by decide)).ux (by decide)).up).up.ur (by decide)).uf (by decide)).ux (by decide)).up).up.ur (by decide)).uf (by decide)) (by first | rfl | assumption)]
  rw [ct_7_38 (((((((((((((((((((((((((((((((((((((((((((((((((((((((((((((((((((((((((((((((((((((((((((((hz.up).up.ur (by decide)).up.ur (by decide)).up.ur (by decide)).up.ur (by decide)).up.ur (by decide)).up.ur (by decide)).up.ur (by decide)).uf (by decide)).ua (by decide)).ua (by decide)).ua (by decide)).ua (by decide)).ua (by decide)).ua (by decide)).ua (by decide)).ua (by decide)).ua (by decide)).ua (by decide)).uf (by decide)).uf (by decide)).uf (by decide)).uf (by decide)).ur (by decide)).up).up.ur (by decide)).up.ur (by decide)).up.ur (by decide)).up.ur (by decide)).up.ur (by decide)).up.ur (by decide)).up.ur (by decide)).uf (by decide)).ua (by decide)).ua (by decide)).ua (by decide)).ua (by decide)).ua (by decide)).ua (by decide)).ua (by decide)).ua (by decide)).ua (by decide)).ua (by decide)).uf (by decide)).uf (by decide)).uf (by decide)).uf (by decide)).ur (by decide)).up).up.ur (by decide)).up.ur (by decide)).up.ur (by decide)).up.ur (by decide)).up.ur (by decide)).up.ur (by decide)).up.ur (by decide)).uf (by decide)).ua (by decide)).ua (by decide)).ua (by decide)).ua (by decide)).ua (by decide)).ua (by decide)).ua (by decide)).ua (by decide)).ua (by decide)).ua (by decide)).uf (by decide)).uf (by decide)).uf (by decide)).uf (by decide)).ur (by decide)).up).up.ur (by decide)).ur (by decide)).up.ur (by decide)).up.ur (by decide)).up.ur (by decide)).up).up.ur (by decide)).ur (by decide)).up).up.ur (by decide)).uf (by decide)).ux (by decide)).up).up.ur (by decide)).uf (by decide)).ux (by decide)).up).up.ur (by decide)).uf (by decide)).ux (by decide)).up]
  simp only [Option.bind_some, Option.toList_none, List.nil_append]
  rw [ct_54_0_s11 ((((((((((((((((((((((((((((((((((((((((((((((((((((((((((((((((((((((((((((((((((((((((((((((((hz.up).up.ur (by decide)).up.ur (by decide)).up.ur (by decide)).up.ur (by decide)).up.ur (by decide)).up.ur (by decide)).up.ur (by decide)).uf (by decide)).ua (by decide)).ua (by decide)).ua (by decide)).ua (by decide)).ua (by decide)).ua (by decide)).ua (by decide)).ua (by decide)).ua (by decide)).ua (by decide)).uf (by decide)).uf (by decide)).uf (by decide)).uf (by decide)).ur (by decide)).up).up.ur (by decide)).up.ur (by decide)).up.ur (by decide)).up.ur (by decide)).up.ur (by decide)).up.ur (by decide)).up.ur (by decide)).uf (by decide)).ua (by decide)).ua (by decide)).ua (by decide)).ua (by decide)).ua (by decide)).ua (by decide)).ua (by decide)).ua (by decide)).ua (by decide)).ua (by decide)).uf (by decide)).uf (by decide)).uf (by decide)).uf (by decide)).ur (by decide)).up).up.ur (by decide)).up.ur (by decide)).up.ur (by decide)).up.ur (by decide)).up.ur (by decide)).up.ur (by decide)).up.ur (by decide)).uf (by decide)).ua (by decide)).ua (by decide)).ua (by decide)).ua (by decide)).ua (by decide)).ua (by decide)).ua (by decide)).ua (by decide)).ua (by decide)).ua (by decide)).uf (by decide)).uf (by decide)).uf (by decide)).uf (by decide)).ur (by decide)).up).up.ur (by decide)).ur (by decide)).up.ur (by decide)).up.ur (by decide)).up.ur (by decide)).up).up.ur (by decide)).ur (by decide)).up).up.ur (by decide)).uf (by decide)).ux (by decide)).up).up.ur (by decide)).uf (by decide)).ux (by decide)).up).up.ur (by decide)).uf (by decide)).ux (by decide)).up).up.ur (by decide)).uf (by decide)) (by first | rfl | assumption)]
  rw [ct_11_40 (((((((((((((((((((((((((((((((((((((((((((((((((((((((((((((((((((((((((((((((((((((((((((((((((hz.up).up.ur (by decide)).up.ur (by decide)).up.ur (by decide)).up.ur (by decide)).up.ur (by decide)).up.ur (by decide)).up.ur (by decide)).uf (by decide)).ua (by decide)).ua (by decide)).ua (by decide)).ua (by decide)).ua (by decide)).ua (by decide)).ua (by decide)).ua (by decide)).ua (by decide)).ua (by decide)).uf (by decide)).uf (by decide)).uf (by decide)).uf (by decide)).ur (by decide)).up).up.ur (by decide)).up.ur (by decide)).up.ur (by decide)).up.ur (by decide)).up.ur (by decide)).up.ur (by decide)).up.ur (by decide)).uf (by decide)).ua (by decide)).ua (by decide)).ua (by decide)).ua (by decide)).ua (by decide)).ua (by decide)).ua (by decide)).ua (by decide)).ua (by decide)).ua (by decide)).uf (by decide)).uf (by decide)).uf (by decide)).uf (by decide)).ur (by decide)).up).up.ur (by decide)).up.ur (by decide)).up.ur (by decide)).up.ur (by decide)).up.ur (by decide)).up.ur (by decide)).up.ur (by decide)).uf (by decide)).ua (by decide)).ua (by decide)).ua (by decide)).ua (by decide)).ua (by decide)).ua (by decide)).ua (by decide)).ua (by decide)).ua (by decide)).ua (by decide)).uf (by decide)).uf (by decide)).uf (by decide)).uf (by decide)).ur (by decide)).up).up.ur (by decide)).ur (by decide)).up.ur (by decide)).up.ur (by decide)).up.ur (by decide)).up).up.ur (by decide)).ur (by decide)).up).up.ur (by decide)).uf (by decide)).ux (by decide)).up).up.ur (by decide)).uf (by decide)).ux (by decide)).up).up.ur (by decide)).uf (by decide)).ux (by decide)).up).up.ur (by decide)).uf (by decide)).ux (by decide)).up]
  simp only [Option.bind_some, Option.toList_none, List.nil_append]
  rw [ct_54_0_s12 ((((((((((((((((((((((((((((((((((((((((((((((((((((((((((((((((((((((((((((((((((((((((((((((((((hz.up).up.ur (by decide)).up.ur (by decide)).up.ur (by decide)).up.ur (by decide)).up.ur (by decide)).up.ur (by decide)).up.ur (by decide)).uf (by decide)).ua (by decide)).ua (by decide)).ua (by decide)).ua (by decide)).ua (by decide)).ua (by decide)).ua (by decide)).ua (by decide)).ua (by decide)).ua (by decide)).uf (by decide)).uf (by decide)).uf (by decide)).uf (by decide)).ur (by decide)).up).up.ur (by decide)).up.ur (by decide)).up.ur (by decide)).up.ur (by decide)).up.ur (by decide)).up.ur (by decide)).up.ur (by decide)).uf (by decide)).ua (by decide)).ua (by decide)).ua (by decide)).ua (by decide)).ua (by decide)).ua (by decide)).ua (by decide)).ua (by decide)).ua (by decide)).ua (by decide)).uf (by decide)).uf (by decide)).uf (by decide)).uf (by decide)).ur (by decide)).up).up.ur (by decide)).up.ur (by decide)).up.ur (by decide)).up.ur (by decide)).up.ur (by decide)).up.ur (by decide)).up.ur (by decide)).uf (by decide)).ua (by decide)).ua (by decide)).ua (by decide)).ua (by decide)).ua (by decide)).ua (by decide)).ua (by decide)).ua (by decide)).ua (by decide)).ua (by decide)).uf (by decide)).uf (by decide)).uf (by decide)).uf (by decide)).ur (by decide)).up).up.ur (by decide)).ur (by decide)).up.ur (by decide)).up.ur (by decide)).up.ur (by decide)).up).up.ur (by decide)).ur (by decide)).up).up.ur (by decide)).uf (by decide)).ux (by decide)).up).up.ur (by decide)).uf (by decide)).ux (by decide)).up).up.ur (by decide)).uf (by decide)).ux (by decide)).up).up.ur (by decide)).uf (by decide)).ux (by decide)).up.uf (by decide)) (by first | rfl | assumption)]
  rw [ct_11_41 (((((((((((((((((((((((((((((((((((((((((((((((((((((((((((((((((((((((((((((((((((((((((((((((((((hz.up).up.ur (by decide)).up.ur (by decide)).up.ur (by decide)).up.ur (by decide)).up.ur (by decide)).up.ur (by decide)).up.ur (by decide)).uf (by decide)).ua (by decide)).ua (by decide)).ua (by decide)).ua (by decide)).ua (by decide)).ua (by decide)).ua (by decide)).ua (by decide)).ua (by decide)).ua (by decide)).uf (by decide)).uf (by decide)).uf (by decide)).uf (by decide)).ur (by decide)).up).up.ur (by decide)).up.ur (by decide)).up.ur (by decide)).up.ur (by decide)).up.ur (by decide)).up.ur (by decide)).up.ur (by decide)).uf (by decide)).ua (by decide)).ua (by decide)).ua (by decide)).ua (by decide)).ua (by decide)).ua (by decide)).ua (by decide)).ua (by decide)).ua (by decide)).ua (by decide)).uf (by decide)).uf (by decide)).uf (by decide)).uf (by decide)).ur (by decide)).up).up.ur (by decide)).up.ur (by decide)).up.ur (by decide)).up.ur (by decide)).up.ur (by decide)).up.ur (by decide)).up.ur (by decide)).uf (by decide)).ua (by decide)).ua (by decide)).ua (by decide)).ua (by decide)).ua (by decide)).ua (by decide)).ua (by decide)).ua (by decide)).ua (by decide)).ua (by decide)).uf (by decide)).uf (by decide)).uf (by decide)).uf (by decide)).ur (by decide)).up).up.ur (by decide)).ur (by decide)).up.ur (by decide)).up.ur (by decide)).up.ur (by decide)).up).up.ur (by decide)).ur (by decide)).up).up.ur (by decide)).uf (by decide)).ux (by decide)).up).up.ur (by decide)).uf (by decide)).ux (by decide)).up).up.ur (by decide)).uf (by decide)).ux (by decide)).up).up.ur (by decide)).uf (by decide)).ux (by decide)).up.uf (by decide)).ux (by decide)).up]
  simp only [Option.bind_some, Option.toList_none, List.nil_append]
  rw [ct_54_0_s13 ((((((((((((((((((((((((((((((((((((((((((((((((((((((((((((((((((((((((((((((((((((((((((((((((((((hz.up).up.ur (by decide)).up.ur (by decide)).up.ur (by decide)).up.ur (by decide)).up.ur (by decide)).up.ur (by decide)).up.ur (by decide)).uf (by decide)).ua (by decide)).ua (by decide)).ua (by decide)).ua (by decide)).ua (by decide)).ua (by decide)).ua (by decide)).ua (by decide)).ua (by decide)).ua (by decide)).uf (by decide)).uf (by decide)).uf (by decide)).uf (by decide)).ur (by decide)).up).up.ur (by decide)).up.ur (by decide)).up.ur (by decide)).up.ur (by decide)).up.ur (by decide)).up.ur (by decide)).up.ur (by decide)).uf (by decide)).ua (by decide)).ua (by decide)).ua (by decide)).ua (by decide)).ua (by decide)).ua (by decide)).ua (by decide)).ua (by decide)).ua (by decide)).ua (by decide)).uf (by decide)).uf (by decide)).uf (by decide)).uf (by decide)).ur (by decide)).up).up.ur (by decide)).up.ur (by decide)).up.ur (by decide)).up.ur (by decide)).up.ur (by decide)).up.ur (by decide)).up.ur (by decide)).uf (by decide)).ua (by decide)).ua (by decide)).ua (by decide)).ua (by decide)).ua (by decide)).ua (by decide)).ua (by decide)).ua (by decide)).ua (by decide)).ua (by decide)).uf (by decide)).uf (by decide)).uf (by decide)).uf (by decide)).ur (by decide)).up).up.ur (by decide)).ur (by decide)).up.ur (by decide)).up.ur (by decide)).up.ur (by decide)).up).up.ur (by decide)).ur (by decide)).up).up.ur (by decide)).uf (by decide)).ux (by decide)).up).up.ur (by decide)).uf (by decide)).ux (by decide)).up).up.ur (by decide)).uf (by decide)).ux (by decide)).up).up.ur (by decide)).uf (by decide)).ux (by decide)).up.uf (by decide)).ux (by decide)).up.uf (by decide)) (by first | rfl | assumption)]
  rw [ct_11_42 (((((((((((((((((((((((((((((((((((((((((((((((((((((((((((((((((((((((((((((((((((((((((((((((((((((hz.up).up.ur (by decide)).up.ur (by decide)).up.ur (by decide)).up.ur (by decide)).up.ur (by decide)).up.ur (by decide)).up.ur (by decide)).uf (by decide)).ua (by decide)).ua (by decide)).ua (by decide)).ua (by decide)).ua (by decide)).ua (by decide)).ua (by decide)).ua (by decide)).ua (by decide)).ua (by decide)).uf (by decide)).uf (by decide)).uf (by decide)).uf (by decide)).ur (by decide)).up).up.ur (by decide)).up.ur (by decide)).up.ur (by decide)).up.ur (by decide)).up.ur (by decide)).up.ur (by decide)).up.ur (by decide)).uf (by decide)).ua (by decide)).ua (by decide)).ua (by decide)).ua (by decide)).ua (by decide)).ua (by decide)).ua (by decide)).ua (by decide)).ua (by decide)).ua (by decide)).uf (by decide)).uf (by decide)).uf (by decide)).uf (by decide)).ur (by decide)).up).up.ur (by decide)).up.ur (by decide)).up.ur (by decide)).up.ur (by decide)).up.ur (by decide)).up.ur (by decide)).up.ur (by decide)).uf (by decide)).ua (by decide)).ua (by decide)).ua (by decide)).ua (by decide)).ua (by decide)).ua (by decide)).ua (by decide)).ua (by decide)).ua (by decide)).ua (by decide)).uf (by decide)).uf (by decide)).uf (by decide)).uf (by decide)).ur (by decide)).up).up.ur (by decide)).ur (by decide)).up.ur (by decide)).up.ur (by decide)).up.ur (by decide)).up).up.ur (by decide)).ur (by decide)).up).up.ur (by decide)).uf (by decide)).ux (by decide)).up).up.ur (by decide)).uf (by decide)).ux (by decide)).up).up.ur (by decide)).uf (by decide)).ux (by decide)).up).up.ur (by decide)).uf (by decide)).ux (by decide)).up.uf (by decide)).ux (by decide)).up.uf (by decide)).ux (by decide)).up]
  simp only [Option.bind_some, Option.toList_none, List.nil_append]
  rw [ct_54_0_s14 ((((((((((((((((((((((((((((((((((((((((((((((((((((((((((((((((((((((((((((((((((((((((((((((((((((((hz.up).up.ur (by decide)).up.ur (by decide)).up.ur (by decide)).up.ur (by decide)).up.ur (by decide)).up.ur (by decide)).up.ur (by decide)).uf (by decide)).ua (by decide)).ua (by decide)).ua (by decide)).ua (by decide)).ua (by decide)).ua (by decide)).ua (by decide)).ua (by decide)).ua (by decide)).ua (by decide)).uf (by decide)).uf (by decide)).uf (by decide)).uf (by decide)).ur (by decide)).up).up.ur (by decide)).up.ur (by decide)).up.ur (by decide)).up.ur (by decide)).up.ur (by decide)).up.ur (by decide)).up.ur (by decide)).uf (by decide)).ua (by decide)).ua (by decide)).ua (by decide)).ua (by decide)).ua (by decide)).ua (by decide)).ua (by decide)).ua (by decide)).ua (by decide)).ua (by decide)).uf (by decide)).uf (by decide)).uf (by decide)).uf (by decide)).ur (by decide)).up).up.ur (by decide)).up.ur (by decide)).up.ur (by decide)).up.ur (by decide)).up.ur (by decide)).up.ur (by decide)).up.ur (by decide)).uf (by decide)).ua (by decide)).ua (by decide)).ua (by decide)).ua (by decide)).ua (by decide)).ua (by decide)).ua (by decide)).ua (by decide)).ua (by decide)).ua (by decide)).uf (by decide)).uf (by decide)).uf (by decide)).uf (by decide)).ur (by decide)).up).up.ur (by decide)).ur (by decide)).up.ur (by decide)).up.ur (by decide)).up.ur (by decide)).up).up.ur (by decide)).ur (by decide)).up).up.ur (by decide)).uf (by decide)).ux (by decide)).up).up.ur (by decide)).uf (by decide)).ux (by decide)).up).up.ur (by decide)).uf (by decide)).ux (by decide)).up).up.ur (by decide)).uf (by decide)).ux (by decide)).up.uf (by decide)).ux (by decide)).up.uf (by decide)).ux (by decide)).up.uf (by decide)) (by first | rfl | assumption)]
  rw [ct_11_43 (((((((((((((((((((((((((((((((((((((((((((((((((((((((((((((((((((((((((((((((((((((((((((((((((((((((hz.up).up.ur (by decide)).up.ur (by decide)).up.ur (by decide)).up.ur (by decide)).up.ur (by decide)).up.ur (by decide)).up.ur (by decide)).uf (by decide)).ua (by decide)).ua (by decide)).ua (by decide)).ua (by decide)).ua (by decide)).ua (by decide)).ua (by decide)).ua (by decide)).ua (by decide)).ua (by decide)).uf (by decide)).uf (by decide)).uf (by decide)).uf (by decide)).ur (by decide)).up).up.ur (by decide)).up.ur (by decide)).up.ur (by decide)).up.ur (by decide)).up.ur (by decide)).up.ur (by decide)).up.ur (by decide)).uf (by decide)).ua (by decide)).ua (by decide)).ua (by decide)).ua (by decide)).ua (by decide)).ua (by decide)).ua (by decide)).ua (by decide)).ua (by decide)).ua (by decide)).uf (by decide)).uf (by decide)).uf (by decide)).uf (by decide)).ur (by decide)).up).up.ur (by decide)).up.ur (by decide)).up.ur (by decide)).up.ur (by decide)).up.ur (by decide)).up.ur (by decide)).up.ur (by decide)).uf (by decide)).ua (by decide)).ua (by decide)).ua (by decide)).ua (by decide)).ua (by decide)).ua (by decide)).ua (by decide)).ua (by decide)).ua (by decide)).ua (by decide)).uf (by decide)).uf (by decide)).uf (by decide)).uf (by decide)).ur (by decide)).up).up.ur (by decide)).ur (by decide)).up.ur (by decide)).up.ur (by decide)).up.ur (by decide)).up).up.ur (by decide)).ur (by decide)).up).up.ur (by decide)).uf (by decide)).ux (by decide)).up).up.ur (by decide)).uf (by decide)).ux (by decide)).up).up.ur (by decide)).uf (by decide)).ux (by decide)).up).up.ur (by decide)).uf (by decide)).ux (by decide)).up.uf (by decide)).ux (by decide)).up.uf (by decide)).ux (by decide)).up.uf (by decide)).ux (by decide)).up]
  simp only [Option.bind_some, Option.toList_none, List.nil_append]
  rw [ct_54_0_s15 ((((((((((((((((((((((((((((((((((((((((((((((((((((((((((((((((((((((((((((((((((((((((((((((((((((((((hz.up).up.ur (by decide)).up.ur (by decide)).up.ur (by decide)).up.ur (by decide)).up.ur (by decide)).up.ur (by decide)).up.ur (by decide)).uf (by decide)).ua (by decide)).ua (by decide)).ua (by decide)).ua (by decide)).ua (by decide)).ua (by decide)).ua (by decide)).ua (by decide)).ua (by decide)).ua (by decide)).uf (by decide)).uf (by decide)).uf (by decide)).uf (by decide)).ur (by decide)).up).up.ur (by decide)).up.ur (by decide)).up.ur (by decide)).up.ur (by decide)).up.ur (by decide)).up.ur (by decide)).up.ur (by decide)).uf (by decide)).ua (by decide)).ua (by decide)).ua (by decide)).ua (by decide)).ua (by decide)).ua (by decide)).ua (by decide)).ua (by decide)).ua (by decide)).ua (by decide)).uf (by decide)).uf (by decide)).uf (by decide)).uf (by decide)).ur (by decide)).up).up.ur (by decide)).up.ur (by decide)).up.ur (by decide)).up.ur (by decide)).up.ur (by decide)).up.ur (by decide)).up.ur (by decide)).uf (by decide)).ua (by decide)).ua (by decide)).ua (by decide)).ua (by decide)).ua (by decide)).ua (by decide)).ua (by decide)).ua (by decide)).ua (by decide)).ua (by decide)).uf (by decide)).uf (by decide)).uf (by decide)).uf (by decide)).ur (by decide)).up).up.ur (by decide)).ur (by decide)).up.ur (by decide)).up.ur (by decide)).up.ur (by decide)).up).up.ur (by decide)).ur (by decide)).up).up.ur (by decide)).uf (by decide)).ux (by decide)).up).up.ur (by decide)).uf (by decide)).ux (by decide)).up).up.ur (by decide)).uf (by decide)).ux (by decide)).up).up.ur (by decide)).uf (by decide)).ux (by decide)).up.uf (by decide)).ux (by decide)).up.uf (by decide)).ux (by decide)).up.uf (by decide)).ux (by decide)).up.uf (by decide))]
end
