/-! ===== blocks (laid by a program: wip/whole/layblk.py) ===== -/
section
variable {xs : Nat → Int32} {L : Nat} {f a : Nat → Nat → Int32} {g : Nat → Nat → Int64}
-- 1 LeafFalls$Acts.perform(II)I
theorem sw1_6 {ls st : List ma_V} {w : ma_W} {x : Int32} : rn xs L 1 6 ls (vI x :: st) w = if x = 0 then rn xs L 1 36 ls st w else if x = 1 then rn xs L 1 45 ls st w else if x = 2 then rn xs L 1 54 ls st w else if x = 3 then rn xs L 1 63 ls st w else rn xs L 1 72 ls st w := by
  by_cases h0 : x = 0
  · rw [if_pos h0, h0]; exact r_swi (t := 36) (pg_of mt_1 dX0_perform_6 rfl) (by decide)
  rw [if_neg h0]
  by_cases h1 : x = 1
  · rw [if_pos h1, h1]; exact r_swi (t := 45) (pg_of mt_1 dX0_perform_6 rfl) (by decide)
  rw [if_neg h1]
  by_cases h2 : x = 2
  · rw [if_pos h2, h2]; exact r_swi (t := 54) (pg_of mt_1 dX0_perform_6 rfl) (by decide)
  rw [if_neg h2]
  by_cases h3 : x = 3
  · rw [if_pos h3, h3]; exact r_swi (t := 63) (pg_of mt_1 dX0_perform_6 rfl) (by decide)
  rw [if_neg h3]
  have e0 := i_nei (k := 0) (0 : Int32) (by decide) h0
  have e1 := i_nei (k := 1) (1 : Int32) (by decide) h1
  have e2 := i_nei (k := 2) (2 : Int32) (by decide) h2
  have e3 := i_nei (k := 3) (3 : Int32) (by decide) h3
  exact r_swi (t := 72) (pg_of mt_1 dX0_perform_6 rfl) (tsw_out (by omega) (by decide) (by decide))
theorem b1_0 (l1 : Int32) (l2 : Int32) (l3 : ma_V) : rn xs L 1 0 [vR 30, vI l1, vI l2, l3] [] (mw f a g) = if l1 = 0 then rn xs L 1 36 [vR 30, vI l1, vI l2, l3] [] (mw ((ma_u2 f 30 5 ((0 : Int32)))) a g) else if l1 = 1 then rn xs L 1 45 [vR 30, vI l1, vI l2, l3] [] (mw ((ma_u2 f 30 5 ((0 : Int32)))) a g) else if l1 = 2 then rn xs L 1 54 [vR 30, vI l1, vI l2, l3] [] (mw ((ma_u2 f 30 5 ((0 : Int32)))) a g) else if l1 = 3 then rn xs L 1 63 [vR 30, vI l1, vI l2, l3] [] (mw ((ma_u2 f 30 5 ((0 : Int32)))) a g) else rn xs L 1 72 [vR 30, vI l1, vI l2, l3] [] (mw ((ma_u2 f 30 5 ((0 : Int32)))) a g) :=
  (r_ald (pg_of mt_1 dX0_perform_0 rfl) rfl).trans <|
  (r_con (pg_of mt_1 dX0_perform_1 rfl) (v2 := (0 : Int32)) (by decide)).trans <|
  (r_pti (pg_of mt_1 dX0_perform_2 rfl) rfl (by decide)).trans <|
  (r_ild (pg_of mt_1 dX0_perform_5 rfl) rfl).trans <|
  (sw1_6)
theorem b1_36 (l1 : Int32) (l2 : Int32) (l3 : ma_V) : rn xs L 1 36 [vR 30, vI l1, vI l2, l3] [] (mw f a g) = (ev xs L 2 3 [vR 30, vI l2] (mw f a g)).bind (fun b => rn xs L 1 41 [vR 30, vI l1, vI l2, l3] (b.1.toList ++ []) b.2) :=
  (r_ald (pg_of mt_1 dX0_perform_36 rfl) rfl).trans <|
  (r_ild (pg_of mt_1 dX0_perform_37 rfl) rfl).trans <|
  (r_call (t := tt_1) (t2 := tt_2) (pg_of mt_1 dX0_perform_38 rfl) mt_1 mt_2 rfl rfl (rcv1 rfl) rfl rfl)
theorem b1_41 (l1 : Int32) (l2 : Int32) (l3 : ma_V) (s0 : Int32) : rn xs L 1 41 [vR 30, vI l1, vI l2, l3] [vI s0] (mw f a g) = if (f 30 5) = 0 then rn xs L 1 86 [vR 30, vI l1, vI l2, vI s0] [] (mw f a g) else rn xs L 1 81 [vR 30, vI l1, vI l2, vI s0] [] (mw f a g) :=
  (r_ist (pg_of mt_1 dX0_perform_41 rfl) (Nat.le_of_ble_eq_true rfl) rfl).trans <|
  (r_gto (pg_of mt_1 dX0_perform_42 rfl)).trans <|
  (r_ald (pg_of mt_1 dX0_perform_74 rfl) rfl).trans <|
  (r_gti (pg_of mt_1 dX0_perform_75 rfl) rfl).trans <|
  (r_eq0 (pg_of mt_1 dX0_perform_78 rfl))
theorem b1_45 (l1 : Int32) (l2 : Int32) (l3 : ma_V) : rn xs L 1 45 [vR 30, vI l1, vI l2, l3] [] (mw f a g) = (ev xs L 4 3 [vR 30, vI l2] (mw f a g)).bind (fun b => rn xs L 1 50 [vR 30, vI l1, vI l2, l3] (b.1.toList ++ []) b.2) :=
  (r_ald (pg_of mt_1 dX0_perform_45 rfl) rfl).trans <|
  (r_ild (pg_of mt_1 dX0_perform_46 rfl) rfl).trans <|
  (r_call (t := tt_1) (t2 := tt_4) (pg_of mt_1 dX0_perform_47 rfl) mt_1 mt_4 rfl rfl (rcv1 rfl) rfl rfl)
theorem b1_50 (l1 : Int32) (l2 : Int32) (l3 : ma_V) (s0 : Int32) : rn xs L 1 50 [vR 30, vI l1, vI l2, l3] [vI s0] (mw f a g) = if (f 30 5) = 0 then rn xs L 1 86 [vR 30, vI l1, vI l2, vI s0] [] (mw f a g) else rn xs L 1 81 [vR 30, vI l1, vI l2, vI s0] [] (mw f a g) :=
  (r_ist (pg_of mt_1 dX0_perform_50 rfl) (Nat.le_of_ble_eq_true rfl) rfl).trans <|
  (r_gto (pg_of mt_1 dX0_perform_51 rfl)).trans <|
  (r_ald (pg_of mt_1 dX0_perform_74 rfl) rfl).trans <|
  (r_gti (pg_of mt_1 dX0_perform_75 rfl) rfl).trans <|
  (r_eq0 (pg_of mt_1 dX0_perform_78 rfl))
theorem b1_54 (l1 : Int32) (l2 : Int32) (l3 : ma_V) : rn xs L 1 54 [vR 30, vI l1, vI l2, l3] [] (mw f a g) = (ev xs L 5 4 [vR 30, vI l2] (mw f a g)).bind (fun b => rn xs L 1 59 [vR 30, vI l1, vI l2, l3] (b.1.toList ++ []) b.2) :=
  (r_ald (pg_of mt_1 dX0_perform_54 rfl) rfl).trans <|
  (r_ild (pg_of mt_1 dX0_perform_55 rfl) rfl).trans <|
  (r_call (t := tt_1) (t2 := tt_5) (pg_of mt_1 dX0_perform_56 rfl) mt_1 mt_5 rfl rfl (rcv1 rfl) rfl rfl)
theorem b1_59 (l1 : Int32) (l2 : Int32) (l3 : ma_V) (s0 : Int32) : rn xs L 1 59 [vR 30, vI l1, vI l2, l3] [vI s0] (mw f a g) = if (f 30 5) = 0 then rn xs L 1 86 [vR 30, vI l1, vI l2, vI s0] [] (mw f a g) else rn xs L 1 81 [vR 30, vI l1, vI l2, vI s0] [] (mw f a g) :=
  (r_ist (pg_of mt_1 dX0_perform_59 rfl) (Nat.le_of_ble_eq_true rfl) rfl).trans <|
  (r_gto (pg_of mt_1 dX0_perform_60 rfl)).trans <|
  (r_ald (pg_of mt_1 dX0_perform_74 rfl) rfl).trans <|
  (r_gti (pg_of mt_1 dX0_perform_75 rfl) rfl).trans <|
  (r_eq0 (pg_of mt_1 dX0_perform_78 rfl))
theorem b1_63 (l1 : Int32) (l2 : Int32) (l3 : ma_V) : rn xs L 1 63 [vR 30, vI l1, vI l2, l3] [] (mw f a g) = (ev xs L 6 3 [vR 30, vI l2] (mw f a g)).bind (fun b => rn xs L 1 68 [vR 30, vI l1, vI l2, l3] (b.1.toList ++ []) b.2) :=
  (r_ald (pg_of mt_1 dX0_perform_63 rfl) rfl).trans <|
  (r_ild (pg_of mt_1 dX0_perform_64 rfl) rfl).trans <|
  (r_call (t := tt_1) (t2 := tt_6) (pg_of mt_1 dX0_perform_65 rfl) mt_1 mt_6 rfl rfl (rcv1 rfl) rfl rfl)
theorem b1_68 (l1 : Int32) (l2 : Int32) (l3 : ma_V) (s0 : Int32) : rn xs L 1 68 [vR 30, vI l1, vI l2, l3] [vI s0] (mw f a g) = if (f 30 5) = 0 then rn xs L 1 86 [vR 30, vI l1, vI l2, vI s0] [] (mw f a g) else rn xs L 1 81 [vR 30, vI l1, vI l2, vI s0] [] (mw f a g) :=
  (r_ist (pg_of mt_1 dX0_perform_68 rfl) (Nat.le_of_ble_eq_true rfl) rfl).trans <|
  (r_gto (pg_of mt_1 dX0_perform_69 rfl)).trans <|
  (r_ald (pg_of mt_1 dX0_perform_74 rfl) rfl).trans <|
  (r_gti (pg_of mt_1 dX0_perform_75 rfl) rfl).trans <|
  (r_eq0 (pg_of mt_1 dX0_perform_78 rfl))
theorem b1_72 (l1 : Int32) (l2 : Int32) (l3 : ma_V) : rn xs L 1 72 [vR 30, vI l1, vI l2, l3] [] (mw f a g) = if (f 30 5) = 0 then rn xs L 1 86 [vR 30, vI l1, vI l2, vI (0 : Int32)] [] (mw f a g) else rn xs L 1 81 [vR 30, vI l1, vI l2, vI (0 : Int32)] [] (mw f a g) :=
  (r_con (pg_of mt_1 dX0_perform_72 rfl) (v2 := (0 : Int32)) (by decide)).trans <|
  (r_ist (pg_of mt_1 dX0_perform_73 rfl) (Nat.le_of_ble_eq_true rfl) rfl).trans <|
  (r_ald (pg_of mt_1 dX0_perform_74 rfl) rfl).trans <|
  (r_gti (pg_of mt_1 dX0_perform_75 rfl) rfl).trans <|
  (r_eq0 (pg_of mt_1 dX0_perform_78 rfl))
theorem b1_81 (l1 : Int32) (l2 : Int32) (l3 : Int32) : rn xs L 1 81 [vR 30, vI l1, vI l2, vI l3] [] (mw f a g) = some (some (vI (-15 : Int32)), (mw f a g)) :=
  (r_con (pg_of mt_1 dX0_perform_81 rfl) (v2 := (-15 : Int32)) (by decide)).trans <|
  (r_gto (pg_of mt_1 dX0_perform_83 rfl)).trans <|
  (r_ri (pg_of mt_1 dX0_perform_87 rfl) mt_1 rfl)
theorem b1_86 (l1 : Int32) (l2 : Int32) (l3 : Int32) : rn xs L 1 86 [vR 30, vI l1, vI l2, vI l3] [] (mw f a g) = some (some (vI l3), (mw f a g)) :=
  (r_ild (pg_of mt_1 dX0_perform_86 rfl) rfl).trans <|
  (r_ri (pg_of mt_1 dX0_perform_87 rfl) mt_1 rfl)
-- 2 LeafFalls$Acts.turns(I)I
theorem b2_0 (l1 : Int32) (l2 : ma_V) : rn xs L 2 0 [vR 30, vI l1, l2] [] (mw f a g) = if (f 30 0) = (4 : Int32) then rn xs L 2 11 [vR 30, vI l1, l2] [vI (40 : Int32), vR 30] (mw f a g) else rn xs L 2 15 [vR 30, vI l1, l2] [vI (40 : Int32), vR 30] (mw f a g) :=
  (r_ald (pg_of mt_2 dX0_turns_0 rfl) rfl).trans <|
  (r_con (pg_of mt_2 dX0_turns_1 rfl) (v2 := (40 : Int32)) (by decide)).trans <|
  (r_ald (pg_of mt_2 dX0_turns_3 rfl) rfl).trans <|
  (r_gti (pg_of mt_2 dX0_turns_4 rfl) rfl).trans <|
  (r_con (pg_of mt_2 dX0_turns_7 rfl) (v2 := (4 : Int32)) (by decide)).trans <|
  (r_ne (pg_of mt_2 dX0_turns_8 rfl))
theorem b2_11 (l1 : Int32) (l2 : ma_V) (s0 : Int32) : rn xs L 2 11 [vR 30, vI l1, l2] [vI s0, vR 30] (mw f a g) = (ev xs L 3 3 [vR 30, vI s0, vI (1 : Int32)] (mw f a g)).bind (fun b => rn xs L 2 19 [vR 30, vI l1, l2] (b.1.toList ++ []) b.2) :=
  (r_con (pg_of mt_2 dX0_turns_11 rfl) (v2 := (1 : Int32)) (by decide)).trans <|
  (r_gto (pg_of mt_2 dX0_turns_12 rfl)).trans <|
  (r_call (t := tt_2) (t2 := tt_3) (pg_of mt_2 dX0_turns_16 rfl) mt_2 mt_3 rfl rfl (rcv1 rfl) rfl rfl)
theorem b2_15 (l1 : Int32) (l2 : ma_V) (s0 : Int32) : rn xs L 2 15 [vR 30, vI l1, l2] [vI s0, vR 30] (mw f a g) = (ev xs L 3 3 [vR 30, vI s0, vI (0 : Int32)] (mw f a g)).bind (fun b => rn xs L 2 19 [vR 30, vI l1, l2] (b.1.toList ++ []) b.2) :=
  (r_con (pg_of mt_2 dX0_turns_15 rfl) (v2 := (0 : Int32)) (by decide)).trans <|
  (r_call (t := tt_2) (t2 := tt_3) (pg_of mt_2 dX0_turns_16 rfl) mt_2 mt_3 rfl rfl (rcv1 rfl) rfl rfl)
theorem b2_19 (l1 : Int32) (l2 : ma_V) : rn xs L 2 19 [vR 30, vI l1, l2] [] (mw f a g) = (ev xs L 106 2 [vI (f 30 0), vI (2 : Int32)] (mw f a g)).bind (fun b => rn xs L 2 30 [vR 30, vI l1, l2] (b.1.toList ++ [vI (30 : Int32), vR 30]) b.2) :=
  (r_ald (pg_of mt_2 dX0_turns_19 rfl) rfl).trans <|
  (r_con (pg_of mt_2 dX0_turns_20 rfl) (v2 := (30 : Int32)) (by decide)).trans <|
  (r_ald (pg_of mt_2 dX0_turns_22 rfl) rfl).trans <|
  (r_gti (pg_of mt_2 dX0_turns_23 rfl) rfl).trans <|
  (r_con (pg_of mt_2 dX0_turns_26 rfl) (v2 := (2 : Int32)) (by decide)).trans <|
  (r_call (t := tt_2) (t2 := tt_106) (pg_of mt_2 dX0_turns_27 rfl) mt_2 mt_106 rfl rfl rfl rfl rfl)
theorem b2_30 (l1 : Int32) (l2 : ma_V) (s0 : Int32) (s1 : Int32) : rn xs L 2 30 [vR 30, vI l1, l2] [vI s0, vI s1, vR 30] (mw f a g) = (ev xs L 3 3 [vR 30, vI s1, vI s0] (mw f a g)).bind (fun b => rn xs L 2 33 [vR 30, vI l1, l2] (b.1.toList ++ []) b.2) :=
  (r_call (t := tt_2) (t2 := tt_3) (pg_of mt_2 dX0_turns_30 rfl) mt_2 mt_3 rfl rfl (rcv1 rfl) rfl rfl)
theorem b2_33 (l1 : Int32) (l2 : ma_V) : rn xs L 2 33 [vR 30, vI l1, l2] [] (mw f a g) = if (f 30 0) = (3 : Int32) then rn xs L 2 44 [vR 30, vI l1, l2] [vI (51 : Int32), vR 30] (mw f a g) else rn xs L 2 48 [vR 30, vI l1, l2] [vI (51 : Int32), vR 30] (mw f a g) :=
  (r_ald (pg_of mt_2 dX0_turns_33 rfl) rfl).trans <|
  (r_con (pg_of mt_2 dX0_turns_34 rfl) (v2 := (51 : Int32)) (by decide)).trans <|
  (r_ald (pg_of mt_2 dX0_turns_36 rfl) rfl).trans <|
  (r_gti (pg_of mt_2 dX0_turns_37 rfl) rfl).trans <|
  (r_con (pg_of mt_2 dX0_turns_40 rfl) (v2 := (3 : Int32)) (by decide)).trans <|
  (r_ne (pg_of mt_2 dX0_turns_41 rfl))
theorem b2_44 (l1 : Int32) (l2 : ma_V) (s0 : Int32) : rn xs L 2 44 [vR 30, vI l1, l2] [vI s0, vR 30] (mw f a g) = (ev xs L 3 3 [vR 30, vI s0, vI (1 : Int32)] (mw f a g)).bind (fun b => rn xs L 2 52 [vR 30, vI l1, l2] (b.1.toList ++ []) b.2) :=
  (r_con (pg_of mt_2 dX0_turns_44 rfl) (v2 := (1 : Int32)) (by decide)).trans <|
  (r_gto (pg_of mt_2 dX0_turns_45 rfl)).trans <|
  (r_call (t := tt_2) (t2 := tt_3) (pg_of mt_2 dX0_turns_49 rfl) mt_2 mt_3 rfl rfl (rcv1 rfl) rfl rfl)
theorem b2_48 (l1 : Int32) (l2 : ma_V) (s0 : Int32) : rn xs L 2 48 [vR 30, vI l1, l2] [vI s0, vR 30] (mw f a g) = (ev xs L 3 3 [vR 30, vI s0, vI (0 : Int32)] (mw f a g)).bind (fun b => rn xs L 2 52 [vR 30, vI l1, l2] (b.1.toList ++ []) b.2) :=
  (r_con (pg_of mt_2 dX0_turns_48 rfl) (v2 := (0 : Int32)) (by decide)).trans <|
  (r_call (t := tt_2) (t2 := tt_3) (pg_of mt_2 dX0_turns_49 rfl) mt_2 mt_3 rfl rfl (rcv1 rfl) rfl rfl)
theorem b2_52 (l1 : Int32) (l2 : ma_V) : rn xs L 2 52 [vR 30, vI l1, l2] [] (mw f a g) = (ev xs L 3 3 [vR 30, vI (10 : Int32), vI (1 : Int32)] (mw f a g)).bind (fun b => rn xs L 2 59 [vR 30, vI l1, l2] (b.1.toList ++ []) b.2) :=
  (r_ald (pg_of mt_2 dX0_turns_52 rfl) rfl).trans <|
  (r_con (pg_of mt_2 dX0_turns_53 rfl) (v2 := (10 : Int32)) (by decide)).trans <|
  (r_con (pg_of mt_2 dX0_turns_55 rfl) (v2 := (1 : Int32)) (by decide)).trans <|
  (r_call (t := tt_2) (t2 := tt_3) (pg_of mt_2 dX0_turns_56 rfl) mt_2 mt_3 rfl rfl (rcv1 rfl) rfl rfl)
theorem b2_59 (l1 : Int32) (l2 : ma_V) : rn xs L 2 59 [vR 30, vI l1, l2] [] (mw f a g) = (ev xs L 106 2 [vI (f 30 0), vI (2 : Int32)] (mw f a g)).bind (fun b => rn xs L 2 78 [vR 30, vI l1, vI ((l1 * (2 : Int32)) + ((f 30 1) * (5 : Int32)))] (b.1.toList ++ []) b.2) :=
  (r_ild (pg_of mt_2 dX0_turns_59 rfl) rfl).trans <|
  (r_con (pg_of mt_2 dX0_turns_60 rfl) (v2 := (2 : Int32)) (by decide)).trans <|
  (r_bin (pg_of mt_2 dX0_turns_61 rfl)).trans <|
  (r_ald (pg_of mt_2 dX0_turns_62 rfl) rfl).trans <|
  (r_gti (pg_of mt_2 dX0_turns_63 rfl) rfl).trans <|
  (r_con (pg_of mt_2 dX0_turns_66 rfl) (v2 := (5 : Int32)) (by decide)).trans <|
  (r_bin (pg_of mt_2 dX0_turns_67 rfl)).trans <|
  (r_bin (pg_of mt_2 dX0_turns_68 rfl)).trans <|
  (r_ist (pg_of mt_2 dX0_turns_69 rfl) (Nat.le_of_ble_eq_true rfl) rfl).trans <|
  (r_ald (pg_of mt_2 dX0_turns_70 rfl) rfl).trans <|
  (r_gti (pg_of mt_2 dX0_turns_71 rfl) rfl).trans <|
  (r_con (pg_of mt_2 dX0_turns_74 rfl) (v2 := (2 : Int32)) (by decide)).trans <|
  (r_call (t := tt_2) (t2 := tt_106) (pg_of mt_2 dX0_turns_75 rfl) mt_2 mt_106 rfl rfl rfl rfl rfl)
theorem b2_78 (l1 : Int32) (l2 : Int32) (s0 : Int32) : rn xs L 2 78 [vR 30, vI l1, vI l2] [vI s0] (mw f a g) = if s0 = 0 then rn xs L 2 85 [vR 30, vI l1, vI l2] [] (mw f a g) else rn xs L 2 81 [vR 30, vI l1, vI l2] [] (mw f a g) :=
  (r_eq0 (pg_of mt_2 dX0_turns_78 rfl))
theorem b2_81 (l1 : Int32) (l2 : Int32) : rn xs L 2 81 [vR 30, vI l1, vI l2] [] (mw f a g) = if (f 30 0) = (4 : Int32) then rn xs L 2 93 [vR 30, vI l1, vI (l2 ^^^ (1 : Int32))] [] (mw f a g) else rn xs L 2 97 [vR 30, vI l1, vI (l2 ^^^ (1 : Int32))] [] (mw f a g) :=
  (r_ild (pg_of mt_2 dX0_turns_81 rfl) rfl).trans <|
  (r_con (pg_of mt_2 dX0_turns_82 rfl) (v2 := (1 : Int32)) (by decide)).trans <|
  (r_bin (pg_of mt_2 dX0_turns_83 rfl)).trans <|
  (r_ist (pg_of mt_2 dX0_turns_84 rfl) (Nat.le_of_ble_eq_true rfl) rfl).trans <|
  (r_ald (pg_of mt_2 dX0_turns_85 rfl) rfl).trans <|
  (r_gti (pg_of mt_2 dX0_turns_86 rfl) rfl).trans <|
  (r_con (pg_of mt_2 dX0_turns_89 rfl) (v2 := (4 : Int32)) (by decide)).trans <|
  (r_ne (pg_of mt_2 dX0_turns_90 rfl))
theorem b2_85 (l1 : Int32) (l2 : Int32) : rn xs L 2 85 [vR 30, vI l1, vI l2] [] (mw f a g) = if (f 30 0) = (4 : Int32) then rn xs L 2 93 [vR 30, vI l1, vI l2] [] (mw f a g) else rn xs L 2 97 [vR 30, vI l1, vI l2] [] (mw f a g) :=
  (r_ald (pg_of mt_2 dX0_turns_85 rfl) rfl).trans <|
  (r_gti (pg_of mt_2 dX0_turns_86 rfl) rfl).trans <|
  (r_con (pg_of mt_2 dX0_turns_89 rfl) (v2 := (4 : Int32)) (by decide)).trans <|
  (r_ne (pg_of mt_2 dX0_turns_90 rfl))
theorem b2_93 (l1 : Int32) (l2 : Int32) : rn xs L 2 93 [vR 30, vI l1, vI l2] [] (mw f a g) = if (f 30 0) = (3 : Int32) then rn xs L 2 105 [vR 30, vI l1, vI (l2 * (2 : Int32))] [] (mw f a g) else rn xs L 2 114 [vR 30, vI l1, vI (l2 * (2 : Int32))] [] (mw f a g) :=
  (r_ild (pg_of mt_2 dX0_turns_93 rfl) rfl).trans <|
  (r_con (pg_of mt_2 dX0_turns_94 rfl) (v2 := (2 : Int32)) (by decide)).trans <|
  (r_bin (pg_of mt_2 dX0_turns_95 rfl)).trans <|
  (r_ist (pg_of mt_2 dX0_turns_96 rfl) (Nat.le_of_ble_eq_true rfl) rfl).trans <|
  (r_ald (pg_of mt_2 dX0_turns_97 rfl) rfl).trans <|
  (r_gti (pg_of mt_2 dX0_turns_98 rfl) rfl).trans <|
  (r_con (pg_of mt_2 dX0_turns_101 rfl) (v2 := (3 : Int32)) (by decide)).trans <|
  (r_ne (pg_of mt_2 dX0_turns_102 rfl))
theorem b2_97 (l1 : Int32) (l2 : Int32) : rn xs L 2 97 [vR 30, vI l1, vI l2] [] (mw f a g) = if (f 30 0) = (3 : Int32) then rn xs L 2 105 [vR 30, vI l1, vI l2] [] (mw f a g) else rn xs L 2 114 [vR 30, vI l1, vI l2] [] (mw f a g) :=
  (r_ald (pg_of mt_2 dX0_turns_97 rfl) rfl).trans <|
  (r_gti (pg_of mt_2 dX0_turns_98 rfl) rfl).trans <|
  (r_con (pg_of mt_2 dX0_turns_101 rfl) (v2 := (3 : Int32)) (by decide)).trans <|
  (r_ne (pg_of mt_2 dX0_turns_102 rfl))
theorem b2_105 (l1 : Int32) (l2 : Int32) : rn xs L 2 105 [vR 30, vI l1, vI l2] [] (mw f a g) = some (some (vI (l2 + (f 30 2))), (mw f a g)) :=
  (r_ild (pg_of mt_2 dX0_turns_105 rfl) rfl).trans <|
  (r_ald (pg_of mt_2 dX0_turns_106 rfl) rfl).trans <|
  (r_gti (pg_of mt_2 dX0_turns_107 rfl) rfl).trans <|
  (r_bin (pg_of mt_2 dX0_turns_110 rfl)).trans <|
  (r_gto (pg_of mt_2 dX0_turns_111 rfl)).trans <|
  (r_ri (pg_of mt_2 dX0_turns_115 rfl) mt_2 rfl)
theorem b2_114 (l1 : Int32) (l2 : Int32) : rn xs L 2 114 [vR 30, vI l1, vI l2] [] (mw f a g) = some (some (vI l2), (mw f a g)) :=
  (r_ild (pg_of mt_2 dX0_turns_114 rfl) rfl).trans <|
  (r_ri (pg_of mt_2 dX0_turns_115 rfl) mt_2 rfl)
-- 3 LeafFalls$Acts.began(IZ)V
theorem b3_0 (l1 : Int32) (l2 : Int32) : rn xs L 3 0 [vR 30, vI l1, vI l2] [] (mw f a g) = if l2 = 0 then rn xs L 3 33 [vR 30, vI l1, vI l2] [] (mw f a g) else rn xs L 3 4 [vR 30, vI l1, vI l2] [] (mw f a g) :=
  (r_ild (pg_of mt_3 dX0_began_0 rfl) rfl).trans <|
  (r_eq0 (pg_of mt_3 dX0_began_1 rfl))
theorem b3_4 (l1 : Int32) (l2 : Int32) : rn xs L 3 4 [vR 30, vI l1, vI l2] [] (mw f a g) = if (f 30 4) < (30 : Int32) then rn xs L 3 13 [vR 30, vI l1, vI l2] [] (mw f a g) else rn xs L 3 33 [vR 30, vI l1, vI l2] [] (mw f a g) :=
  (r_ald (pg_of mt_3 dX0_began_4 rfl) rfl).trans <|
  (r_gti (pg_of mt_3 dX0_began_5 rfl) rfl).trans <|
  (r_con (pg_of mt_3 dX0_began_8 rfl) (v2 := (30 : Int32)) (by decide)).trans <|
  (r_ge (pg_of mt_3 dX0_began_10 rfl))
theorem b3_13 (l1 : Int32) (l2 : Int32) (h1 : ma_in ((f 30 4)) 30 = true) : rn xs L 3 13 [vR 30, vI l1, vI l2] [] (mw f a g) = some (none, (mw ((ma_u2 f 30 4 (((f 30 4) + (1 : Int32))))) ((ma_u2 a 31 ((f 30 4)).toNatClampNeg l1)) g)) :=
  (r_ald (pg_of mt_3 dX0_began_13 rfl) rfl).trans <|
  (r_gtr (a := 31) (pg_of mt_3 dX0_began_14 rfl) rfl rfl).trans <|
  (r_ald (pg_of mt_3 dX0_began_17 rfl) rfl).trans <|
  (r_gti (pg_of mt_3 dX0_began_18 rfl) rfl).trans <|
  (r_ild (pg_of mt_3 dX0_began_21 rfl) rfl).trans <|
  (r_iast (pg_of mt_3 dX0_began_22 rfl) rfl h1).trans <|
  (r_ald (pg_of mt_3 dX0_began_23 rfl) rfl).trans <|
  (r_dup (pg_of mt_3 dX0_began_24 rfl) rfl).trans <|
  (r_gti (pg_of mt_3 dX0_began_25 rfl) rfl).trans <|
  (r_con (pg_of mt_3 dX0_began_28 rfl) (v2 := (1 : Int32)) (by decide)).trans <|
  (r_bin (pg_of mt_3 dX0_began_29 rfl)).trans <|
  (r_pti (pg_of mt_3 dX0_began_30 rfl) rfl rfl).trans <|
  (r_rv (pg_of mt_3 dX0_began_33 rfl) mt_3 rfl)
theorem b3_33 (l1 : Int32) (l2 : Int32) : rn xs L 3 33 [vR 30, vI l1, vI l2] [] (mw f a g) = some (none, (mw f a g)) :=
  (r_rv (pg_of mt_3 dX0_began_33 rfl) mt_3 rfl)
-- 4 LeafFalls$Acts.names(I)I
theorem b4_0 (l1 : Int32) (l2 : ma_V) : rn xs L 4 0 [vR 30, vI l1, l2] [] (mw f a g) = if (f 30 0) = (4 : Int32) then rn xs L 4 11 [vR 30, vI l1, l2] [vI (41 : Int32), vR 30] (mw f a g) else rn xs L 4 15 [vR 30, vI l1, l2] [vI (41 : Int32), vR 30] (mw f a g) :=
  (r_ald (pg_of mt_4 dX0_names_0 rfl) rfl).trans <|
  (r_con (pg_of mt_4 dX0_names_1 rfl) (v2 := (41 : Int32)) (by decide)).trans <|
  (r_ald (pg_of mt_4 dX0_names_3 rfl) rfl).trans <|
  (r_gti (pg_of mt_4 dX0_names_4 rfl) rfl).trans <|
  (r_con (pg_of mt_4 dX0_names_7 rfl) (v2 := (4 : Int32)) (by decide)).trans <|
  (r_ne (pg_of mt_4 dX0_names_8 rfl))
theorem b4_11 (l1 : Int32) (l2 : ma_V) (s0 : Int32) : rn xs L 4 11 [vR 30, vI l1, l2] [vI s0, vR 30] (mw f a g) = (ev xs L 3 3 [vR 30, vI s0, vI (1 : Int32)] (mw f a g)).bind (fun b => rn xs L 4 19 [vR 30, vI l1, l2] (b.1.toList ++ []) b.2) :=
  (r_con (pg_of mt_4 dX0_names_11 rfl) (v2 := (1 : Int32)) (by decide)).trans <|
  (r_gto (pg_of mt_4 dX0_names_12 rfl)).trans <|
  (r_call (t := tt_4) (t2 := tt_3) (pg_of mt_4 dX0_names_16 rfl) mt_4 mt_3 rfl rfl (rcv1 rfl) rfl rfl)
theorem b4_15 (l1 : Int32) (l2 : ma_V) (s0 : Int32) : rn xs L 4 15 [vR 30, vI l1, l2] [vI s0, vR 30] (mw f a g) = (ev xs L 3 3 [vR 30, vI s0, vI (0 : Int32)] (mw f a g)).bind (fun b => rn xs L 4 19 [vR 30, vI l1, l2] (b.1.toList ++ []) b.2) :=
  (r_con (pg_of mt_4 dX0_names_15 rfl) (v2 := (0 : Int32)) (by decide)).trans <|
  (r_call (t := tt_4) (t2 := tt_3) (pg_of mt_4 dX0_names_16 rfl) mt_4 mt_3 rfl rfl (rcv1 rfl) rfl rfl)
theorem b4_19 (l1 : Int32) (l2 : ma_V) : rn xs L 4 19 [vR 30, vI l1, l2] [] (mw f a g) = (ev xs L 106 2 [vI (f 30 0), vI (1 : Int32)] (mw f a g)).bind (fun b => rn xs L 4 30 [vR 30, vI l1, l2] (b.1.toList ++ [vI (20 : Int32), vR 30]) b.2) :=
  (r_ald (pg_of mt_4 dX0_names_19 rfl) rfl).trans <|
  (r_con (pg_of mt_4 dX0_names_20 rfl) (v2 := (20 : Int32)) (by decide)).trans <|
  (r_ald (pg_of mt_4 dX0_names_22 rfl) rfl).trans <|
  (r_gti (pg_of mt_4 dX0_names_23 rfl) rfl).trans <|
  (r_con (pg_of mt_4 dX0_names_26 rfl) (v2 := (1 : Int32)) (by decide)).trans <|
  (r_call (t := tt_4) (t2 := tt_106) (pg_of mt_4 dX0_names_27 rfl) mt_4 mt_106 rfl rfl rfl rfl rfl)
theorem b4_30 (l1 : Int32) (l2 : ma_V) (s0 : Int32) (s1 : Int32) : rn xs L 4 30 [vR 30, vI l1, l2] [vI s0, vI s1, vR 30] (mw f a g) = (ev xs L 3 3 [vR 30, vI s1, vI s0] (mw f a g)).bind (fun b => rn xs L 4 33 [vR 30, vI l1, l2] (b.1.toList ++ []) b.2) :=
  (r_call (t := tt_4) (t2 := tt_3) (pg_of mt_4 dX0_names_30 rfl) mt_4 mt_3 rfl rfl (rcv1 rfl) rfl rfl)
theorem b4_33 (l1 : Int32) (l2 : ma_V) : rn xs L 4 33 [vR 30, vI l1, l2] [] (mw f a g) = (ev xs L 3 3 [vR 30, vI (11 : Int32), vI (1 : Int32)] (mw f a g)).bind (fun b => rn xs L 4 40 [vR 30, vI l1, l2] (b.1.toList ++ []) b.2) :=
  (r_ald (pg_of mt_4 dX0_names_33 rfl) rfl).trans <|
  (r_con (pg_of mt_4 dX0_names_34 rfl) (v2 := (11 : Int32)) (by decide)).trans <|
  (r_con (pg_of mt_4 dX0_names_36 rfl) (v2 := (1 : Int32)) (by decide)).trans <|
  (r_call (t := tt_4) (t2 := tt_3) (pg_of mt_4 dX0_names_37 rfl) mt_4 mt_3 rfl rfl (rcv1 rfl) rfl rfl)
theorem b4_40 (l1 : Int32) (l2 : ma_V) : rn xs L 4 40 [vR 30, vI l1, l2] [] (mw f a g) = (ev xs L 2 3 [vR 30, vI l1] (mw f a g)).bind (fun b => rn xs L 4 45 [vR 30, vI l1, l2] (b.1.toList ++ []) b.2) :=
  (r_ald (pg_of mt_4 dX0_names_40 rfl) rfl).trans <|
  (r_ild (pg_of mt_4 dX0_names_41 rfl) rfl).trans <|
  (r_call (t := tt_4) (t2 := tt_2) (pg_of mt_4 dX0_names_42 rfl) mt_4 mt_2 rfl rfl (rcv1 rfl) rfl rfl)
theorem b4_45 (l1 : Int32) (l2 : ma_V) (s0 : Int32) : rn xs L 4 45 [vR 30, vI l1, l2] [vI s0] (mw f a g) = (ev xs L 106 2 [vI (f 30 0), vI (1 : Int32)] (mw f a g)).bind (fun b => rn xs L 4 59 [vR 30, vI l1, vI (s0 - (f 30 2))] (b.1.toList ++ []) b.2) :=
  (r_ald (pg_of mt_4 dX0_names_45 rfl) rfl).trans <|
  (r_gti (pg_of mt_4 dX0_names_46 rfl) rfl).trans <|
  (r_bin (pg_of mt_4 dX0_names_49 rfl)).trans <|
  (r_ist (pg_of mt_4 dX0_names_50 rfl) (Nat.le_of_ble_eq_true rfl) rfl).trans <|
  (r_ald (pg_of mt_4 dX0_names_51 rfl) rfl).trans <|
  (r_gti (pg_of mt_4 dX0_names_52 rfl) rfl).trans <|
  (r_con (pg_of mt_4 dX0_names_55 rfl) (v2 := (1 : Int32)) (by decide)).trans <|
  (r_call (t := tt_4) (t2 := tt_106) (pg_of mt_4 dX0_names_56 rfl) mt_4 mt_106 rfl rfl rfl rfl rfl)
theorem b4_59 (l1 : Int32) (l2 : Int32) (s0 : Int32) : rn xs L 4 59 [vR 30, vI l1, vI l2] [vI s0] (mw f a g) = if s0 = 0 then rn xs L 4 65 [vR 30, vI l1, vI l2] [] (mw f a g) else rn xs L 4 62 [vR 30, vI l1, vI l2] [] (mw f a g) :=
  (r_eq0 (pg_of mt_4 dX0_names_59 rfl))
theorem b4_62 (l1 : Int32) (l2 : Int32) : rn xs L 4 62 [vR 30, vI l1, vI l2] [] (mw f a g) = if (f 30 0) = (4 : Int32) then rn xs L 4 73 [vR 30, vI l1, vI (l2 + (7 : Int32))] [] (mw f a g) else rn xs L 4 86 [vR 30, vI l1, vI (l2 + (7 : Int32))] [] (mw f a g) :=
  (r_inc (pg_of mt_4 dX0_names_62 rfl) (y := (7 : Int32)) (by decide) rfl rfl).trans <|
  (r_ald (pg_of mt_4 dX0_names_65 rfl) rfl).trans <|
  (r_gti (pg_of mt_4 dX0_names_66 rfl) rfl).trans <|
  (r_con (pg_of mt_4 dX0_names_69 rfl) (v2 := (4 : Int32)) (by decide)).trans <|
  (r_ne (pg_of mt_4 dX0_names_70 rfl))
theorem b4_65 (l1 : Int32) (l2 : Int32) : rn xs L 4 65 [vR 30, vI l1, vI l2] [] (mw f a g) = if (f 30 0) = (4 : Int32) then rn xs L 4 73 [vR 30, vI l1, vI l2] [] (mw f a g) else rn xs L 4 86 [vR 30, vI l1, vI l2] [] (mw f a g) :=
  (r_ald (pg_of mt_4 dX0_names_65 rfl) rfl).trans <|
  (r_gti (pg_of mt_4 dX0_names_66 rfl) rfl).trans <|
  (r_con (pg_of mt_4 dX0_names_69 rfl) (v2 := (4 : Int32)) (by decide)).trans <|
  (r_ne (pg_of mt_4 dX0_names_70 rfl))
theorem b4_73 (l1 : Int32) (l2 : Int32) : rn xs L 4 73 [vR 30, vI l1, vI l2] [] (mw f a g) = (ev xs L 2 3 [vR 30, vI (f 30 2)] (mw f a g)).bind (fun b => rn xs L 4 82 [vR 30, vI l1, vI l2] (b.1.toList ++ [vI l2]) b.2) :=
  (r_ild (pg_of mt_4 dX0_names_73 rfl) rfl).trans <|
  (r_ald (pg_of mt_4 dX0_names_74 rfl) rfl).trans <|
  (r_ald (pg_of mt_4 dX0_names_75 rfl) rfl).trans <|
  (r_gti (pg_of mt_4 dX0_names_76 rfl) rfl).trans <|
  (r_call (t := tt_4) (t2 := tt_2) (pg_of mt_4 dX0_names_79 rfl) mt_4 mt_2 rfl rfl (rcv1 rfl) rfl rfl)
theorem b4_82 (l1 : Int32) (l2 : Int32) (s0 : Int32) (s1 : Int32) : rn xs L 4 82 [vR 30, vI l1, vI l2] [vI s0, vI s1] (mw f a g) = some (some (vI (s1 - s0)), (mw f a g)) :=
  (r_bin (pg_of mt_4 dX0_names_82 rfl)).trans <|
  (r_gto (pg_of mt_4 dX0_names_83 rfl)).trans <|
  (r_ri (pg_of mt_4 dX0_names_87 rfl) mt_4 rfl)
theorem b4_86 (l1 : Int32) (l2 : Int32) : rn xs L 4 86 [vR 30, vI l1, vI l2] [] (mw f a g) = some (some (vI l2), (mw f a g)) :=
  (r_ild (pg_of mt_4 dX0_names_86 rfl) rfl).trans <|
  (r_ri (pg_of mt_4 dX0_names_87 rfl) mt_4 rfl)
-- 5 LeafFalls$Acts.parts(I)I
theorem b5_0 (l1 : Int32) (l2 : ma_V) (l3 : ma_V) : rn xs L 5 0 [vR 30, vI l1, l2, l3] [] (mw f a g) = if (f 30 0) = (3 : Int32) then rn xs L 5 11 [vR 30, vI l1, l2, l3] [vI (50 : Int32), vR 30] (mw f a g) else rn xs L 5 15 [vR 30, vI l1, l2, l3] [vI (50 : Int32), vR 30] (mw f a g) :=
  (r_ald (pg_of mt_5 dX0_parts_0 rfl) rfl).trans <|
  (r_con (pg_of mt_5 dX0_parts_1 rfl) (v2 := (50 : Int32)) (by decide)).trans <|
  (r_ald (pg_of mt_5 dX0_parts_3 rfl) rfl).trans <|
  (r_gti (pg_of mt_5 dX0_parts_4 rfl) rfl).trans <|
  (r_con (pg_of mt_5 dX0_parts_7 rfl) (v2 := (3 : Int32)) (by decide)).trans <|
  (r_ne (pg_of mt_5 dX0_parts_8 rfl))
theorem b5_11 (l1 : Int32) (l2 : ma_V) (l3 : ma_V) (s0 : Int32) : rn xs L 5 11 [vR 30, vI l1, l2, l3] [vI s0, vR 30] (mw f a g) = (ev xs L 3 3 [vR 30, vI s0, vI (1 : Int32)] (mw f a g)).bind (fun b => rn xs L 5 19 [vR 30, vI l1, l2, l3] (b.1.toList ++ []) b.2) :=
  (r_con (pg_of mt_5 dX0_parts_11 rfl) (v2 := (1 : Int32)) (by decide)).trans <|
  (r_gto (pg_of mt_5 dX0_parts_12 rfl)).trans <|
  (r_call (t := tt_5) (t2 := tt_3) (pg_of mt_5 dX0_parts_16 rfl) mt_5 mt_3 rfl rfl (rcv1 rfl) rfl rfl)
theorem b5_15 (l1 : Int32) (l2 : ma_V) (l3 : ma_V) (s0 : Int32) : rn xs L 5 15 [vR 30, vI l1, l2, l3] [vI s0, vR 30] (mw f a g) = (ev xs L 3 3 [vR 30, vI s0, vI (0 : Int32)] (mw f a g)).bind (fun b => rn xs L 5 19 [vR 30, vI l1, l2, l3] (b.1.toList ++ []) b.2) :=
  (r_con (pg_of mt_5 dX0_parts_15 rfl) (v2 := (0 : Int32)) (by decide)).trans <|
  (r_call (t := tt_5) (t2 := tt_3) (pg_of mt_5 dX0_parts_16 rfl) mt_5 mt_3 rfl rfl (rcv1 rfl) rfl rfl)
theorem b5_19 (l1 : Int32) (l2 : ma_V) (l3 : ma_V) : rn xs L 5 19 [vR 30, vI l1, l2, l3] [] (mw f a g) = if (f 30 0) = (5 : Int32) then rn xs L 5 30 [vR 30, vI l1, l2, l3] [vI (61 : Int32), vR 30] (mw f a g) else rn xs L 5 34 [vR 30, vI l1, l2, l3] [vI (61 : Int32), vR 30] (mw f a g) :=
  (r_ald (pg_of mt_5 dX0_parts_19 rfl) rfl).trans <|
  (r_con (pg_of mt_5 dX0_parts_20 rfl) (v2 := (61 : Int32)) (by decide)).trans <|
  (r_ald (pg_of mt_5 dX0_parts_22 rfl) rfl).trans <|
  (r_gti (pg_of mt_5 dX0_parts_23 rfl) rfl).trans <|
  (r_con (pg_of mt_5 dX0_parts_26 rfl) (v2 := (5 : Int32)) (by decide)).trans <|
  (r_ne (pg_of mt_5 dX0_parts_27 rfl))
theorem b5_30 (l1 : Int32) (l2 : ma_V) (l3 : ma_V) (s0 : Int32) : rn xs L 5 30 [vR 30, vI l1, l2, l3] [vI s0, vR 30] (mw f a g) = (ev xs L 3 3 [vR 30, vI s0, vI (1 : Int32)] (mw f a g)).bind (fun b => rn xs L 5 38 [vR 30, vI l1, l2, l3] (b.1.toList ++ []) b.2) :=
  (r_con (pg_of mt_5 dX0_parts_30 rfl) (v2 := (1 : Int32)) (by decide)).trans <|
  (r_gto (pg_of mt_5 dX0_parts_31 rfl)).trans <|
  (r_call (t := tt_5) (t2 := tt_3) (pg_of mt_5 dX0_parts_35 rfl) mt_5 mt_3 rfl rfl (rcv1 rfl) rfl rfl)
theorem b5_34 (l1 : Int32) (l2 : ma_V) (l3 : ma_V) (s0 : Int32) : rn xs L 5 34 [vR 30, vI l1, l2, l3] [vI s0, vR 30] (mw f a g) = (ev xs L 3 3 [vR 30, vI s0, vI (0 : Int32)] (mw f a g)).bind (fun b => rn xs L 5 38 [vR 30, vI l1, l2, l3] (b.1.toList ++ []) b.2) :=
  (r_con (pg_of mt_5 dX0_parts_34 rfl) (v2 := (0 : Int32)) (by decide)).trans <|
  (r_call (t := tt_5) (t2 := tt_3) (pg_of mt_5 dX0_parts_35 rfl) mt_5 mt_3 rfl rfl (rcv1 rfl) rfl rfl)
theorem b5_38 (l1 : Int32) (l2 : ma_V) (l3 : ma_V) : rn xs L 5 38 [vR 30, vI l1, l2, l3] [] (mw f a g) = (ev xs L 3 3 [vR 30, vI (12 : Int32), vI (1 : Int32)] (mw f a g)).bind (fun b => rn xs L 5 45 [vR 30, vI l1, l2, l3] (b.1.toList ++ []) b.2) :=
  (r_ald (pg_of mt_5 dX0_parts_38 rfl) rfl).trans <|
  (r_con (pg_of mt_5 dX0_parts_39 rfl) (v2 := (12 : Int32)) (by decide)).trans <|
  (r_con (pg_of mt_5 dX0_parts_41 rfl) (v2 := (1 : Int32)) (by decide)).trans <|
  (r_call (t := tt_5) (t2 := tt_3) (pg_of mt_5 dX0_parts_42 rfl) mt_5 mt_3 rfl rfl (rcv1 rfl) rfl rfl)
theorem b5_45 (l1 : Int32) (l2 : ma_V) (l3 : ma_V) : rn xs L 5 45 [vR 30, vI l1, l2, l3] [] (mw f a g) = if ((f 30 2) - (f 30 1)) = 0 then rn xs L 5 59 [vR 30, vI l1, vI ((f 30 2) - (f 30 1)), l3] [] (mw f a g) else rn xs L 5 66 [vR 30, vI l1, vI ((f 30 2) - (f 30 1)), l3] [] (mw f a g) :=
  (r_ald (pg_of mt_5 dX0_parts_45 rfl) rfl).trans <|
  (r_gti (pg_of mt_5 dX0_parts_46 rfl) rfl).trans <|
  (r_ald (pg_of mt_5 dX0_parts_49 rfl) rfl).trans <|
  (r_gti (pg_of mt_5 dX0_parts_50 rfl) rfl).trans <|
  (r_bin (pg_of mt_5 dX0_parts_53 rfl)).trans <|
  (r_ist (pg_of mt_5 dX0_parts_54 rfl) (Nat.le_of_ble_eq_true rfl) rfl).trans <|
  (r_ild (pg_of mt_5 dX0_parts_55 rfl) rfl).trans <|
  (r_ne0 (pg_of mt_5 dX0_parts_56 rfl))
theorem b5_59 (l1 : Int32) (l2 : Int32) (l3 : ma_V) : rn xs L 5 59 [vR 30, vI l1, vI l2, l3] [] (mw f a g) = some (some (vI (0 : Int32)), (mw ((ma_u2 f 30 5 ((1 : Int32)))) a g)) :=
  (r_ald (pg_of mt_5 dX0_parts_59 rfl) rfl).trans <|
  (r_con (pg_of mt_5 dX0_parts_60 rfl) (v2 := (1 : Int32)) (by decide)).trans <|
  (r_pti (pg_of mt_5 dX0_parts_61 rfl) rfl (by decide)).trans <|
  (r_con (pg_of mt_5 dX0_parts_64 rfl) (v2 := (0 : Int32)) (by decide)).trans <|
  (r_ri (pg_of mt_5 dX0_parts_65 rfl) mt_5 rfl)
theorem b5_66 (l1 : Int32) (l2 : Int32) (l3 : ma_V) : rn xs L 5 66 [vR 30, vI l1, vI l2, l3] [] (mw f a g) = if (f 30 0) = (3 : Int32) then rn xs L 5 74 [vR 30, vI l1, vI l2, l3] [] (mw f a g) else rn xs L 5 80 [vR 30, vI l1, vI l2, l3] [] (mw f a g) :=
  (r_ald (pg_of mt_5 dX0_parts_66 rfl) rfl).trans <|
  (r_gti (pg_of mt_5 dX0_parts_67 rfl) rfl).trans <|
  (r_con (pg_of mt_5 dX0_parts_70 rfl) (v2 := (3 : Int32)) (by decide)).trans <|
  (r_ne (pg_of mt_5 dX0_parts_71 rfl))
theorem b5_74 (l1 : Int32) (l2 : Int32) (l3 : ma_V) (h1 : ¬ l2 = 0) : rn xs L 5 74 [vR 30, vI l1, vI l2, l3] [] (mw f a g) = if (f 30 0) = (5 : Int32) then rn xs L 5 92 [vR 30, vI l1, vI l2, vI ((l1 + (3 : Int32)) / l2)] [] (mw f a g) else rn xs L 5 103 [vR 30, vI l1, vI l2, vI ((l1 + (3 : Int32)) / l2)] [] (mw f a g) :=
  (r_ild (pg_of mt_5 dX0_parts_74 rfl) rfl).trans <|
  (r_con (pg_of mt_5 dX0_parts_75 rfl) (v2 := (3 : Int32)) (by decide)).trans <|
  (r_bin (pg_of mt_5 dX0_parts_76 rfl)).trans <|
  (r_gto (pg_of mt_5 dX0_parts_77 rfl)).trans <|
  (r_ild (pg_of mt_5 dX0_parts_81 rfl) rfl).trans <|
  (r_dvi (pg_of mt_5 dX0_parts_82 rfl) h1).trans <|
  (r_ist (pg_of mt_5 dX0_parts_83 rfl) (Nat.le_of_ble_eq_true rfl) rfl).trans <|
  (r_ald (pg_of mt_5 dX0_parts_84 rfl) rfl).trans <|
  (r_gti (pg_of mt_5 dX0_parts_85 rfl) rfl).trans <|
  (r_con (pg_of mt_5 dX0_parts_88 rfl) (v2 := (5 : Int32)) (by decide)).trans <|
  (r_ne (pg_of mt_5 dX0_parts_89 rfl))
theorem b5_80 (l1 : Int32) (l2 : Int32) (l3 : ma_V) (h1 : ¬ l2 = 0) : rn xs L 5 80 [vR 30, vI l1, vI l2, l3] [] (mw f a g) = if (f 30 0) = (5 : Int32) then rn xs L 5 92 [vR 30, vI l1, vI l2, vI (l1 / l2)] [] (mw f a g) else rn xs L 5 103 [vR 30, vI l1, vI l2, vI (l1 / l2)] [] (mw f a g) :=
  (r_ild (pg_of mt_5 dX0_parts_80 rfl) rfl).trans <|
  (r_ild (pg_of mt_5 dX0_parts_81 rfl) rfl).trans <|
  (r_dvi (pg_of mt_5 dX0_parts_82 rfl) h1).trans <|
  (r_ist (pg_of mt_5 dX0_parts_83 rfl) (Nat.le_of_ble_eq_true rfl) rfl).trans <|
  (r_ald (pg_of mt_5 dX0_parts_84 rfl) rfl).trans <|
  (r_gti (pg_of mt_5 dX0_parts_85 rfl) rfl).trans <|
  (r_con (pg_of mt_5 dX0_parts_88 rfl) (v2 := (5 : Int32)) (by decide)).trans <|
  (r_ne (pg_of mt_5 dX0_parts_89 rfl))
theorem b5_92 (l1 : Int32) (l2 : Int32) (l3 : Int32) : rn xs L 5 92 [vR 30, vI l1, vI l2, vI l3] [] (mw f a g) = (ev xs L 2 3 [vR 30, vI (f 30 1)] (mw f a g)).bind (fun b => rn xs L 5 101 [vR 30, vI l1, vI l2, vI l3] (b.1.toList ++ [vI l3]) b.2) :=
  (r_ild (pg_of mt_5 dX0_parts_92 rfl) rfl).trans <|
  (r_ald (pg_of mt_5 dX0_parts_93 rfl) rfl).trans <|
  (r_ald (pg_of mt_5 dX0_parts_94 rfl) rfl).trans <|
  (r_gti (pg_of mt_5 dX0_parts_95 rfl) rfl).trans <|
  (r_call (t := tt_5) (t2 := tt_2) (pg_of mt_5 dX0_parts_98 rfl) mt_5 mt_2 rfl rfl (rcv1 rfl) rfl rfl)
theorem b5_101 (l1 : Int32) (l2 : Int32) (l3 : Int32) (s0 : Int32) (s1 : Int32) : rn xs L 5 101 [vR 30, vI l1, vI l2, vI l3] [vI s0, vI s1] (mw f a g) = some (some (vI (s1 + s0)), (mw f a g)) :=
  (r_bin (pg_of mt_5 dX0_parts_101 rfl)).trans <|
  (r_ri (pg_of mt_5 dX0_parts_102 rfl) mt_5 rfl)
theorem b5_103 (l1 : Int32) (l2 : Int32) (l3 : Int32) : rn xs L 5 103 [vR 30, vI l1, vI l2, vI l3] [] (mw f a g) = if (f 30 0) = (3 : Int32) then rn xs L 5 111 [vR 30, vI l1, vI l2, vI l3] [] (mw f a g) else rn xs L 5 117 [vR 30, vI l1, vI l2, vI l3] [] (mw f a g) :=
  (r_ald (pg_of mt_5 dX0_parts_103 rfl) rfl).trans <|
  (r_gti (pg_of mt_5 dX0_parts_104 rfl) rfl).trans <|
  (r_con (pg_of mt_5 dX0_parts_107 rfl) (v2 := (3 : Int32)) (by decide)).trans <|
  (r_ne (pg_of mt_5 dX0_parts_108 rfl))
theorem b5_111 (l1 : Int32) (l2 : Int32) (l3 : Int32) : rn xs L 5 111 [vR 30, vI l1, vI l2, vI l3] [] (mw f a g) = some (some (vI ((0 : Int32) - l3)), (mw f a g)) :=
  (r_con (pg_of mt_5 dX0_parts_111 rfl) (v2 := (0 : Int32)) (by decide)).trans <|
  (r_ild (pg_of mt_5 dX0_parts_112 rfl) rfl).trans <|
  (r_bin (pg_of mt_5 dX0_parts_113 rfl)).trans <|
  (r_gto (pg_of mt_5 dX0_parts_114 rfl)).trans <|
  (r_ri (pg_of mt_5 dX0_parts_118 rfl) mt_5 rfl)
theorem b5_117 (l1 : Int32) (l2 : Int32) (l3 : Int32) : rn xs L 5 117 [vR 30, vI l1, vI l2, vI l3] [] (mw f a g) = some (some (vI l3), (mw f a g)) :=
  (r_ild (pg_of mt_5 dX0_parts_117 rfl) rfl).trans <|
  (r_ri (pg_of mt_5 dX0_parts_118 rfl) mt_5 rfl)
-- 6 LeafFalls$Acts.lands(I)I
theorem b6_0 (l1 : Int32) (l2 : ma_V) : rn xs L 6 0 [vR 30, vI l1, l2] [] (mw f a g) = (ev xs L 106 2 [vI (f 30 0), vI (2 : Int32)] (mw f a g)).bind (fun b => rn xs L 6 11 [vR 30, vI l1, l2] (b.1.toList ++ [vI (31 : Int32), vR 30]) b.2) :=
  (r_ald (pg_of mt_6 dX0_lands_0 rfl) rfl).trans <|
  (r_con (pg_of mt_6 dX0_lands_1 rfl) (v2 := (31 : Int32)) (by decide)).trans <|
  (r_ald (pg_of mt_6 dX0_lands_3 rfl) rfl).trans <|
  (r_gti (pg_of mt_6 dX0_lands_4 rfl) rfl).trans <|
  (r_con (pg_of mt_6 dX0_lands_7 rfl) (v2 := (2 : Int32)) (by decide)).trans <|
  (r_call (t := tt_6) (t2 := tt_106) (pg_of mt_6 dX0_lands_8 rfl) mt_6 mt_106 rfl rfl rfl rfl rfl)
theorem b6_11 (l1 : Int32) (l2 : ma_V) (s0 : Int32) (s1 : Int32) : rn xs L 6 11 [vR 30, vI l1, l2] [vI s0, vI s1, vR 30] (mw f a g) = (ev xs L 3 3 [vR 30, vI s1, vI s0] (mw f a g)).bind (fun b => rn xs L 6 14 [vR 30, vI l1, l2] (b.1.toList ++ []) b.2) :=
  (r_call (t := tt_6) (t2 := tt_3) (pg_of mt_6 dX0_lands_11 rfl) mt_6 mt_3 rfl rfl (rcv1 rfl) rfl rfl)
theorem b6_14 (l1 : Int32) (l2 : ma_V) : rn xs L 6 14 [vR 30, vI l1, l2] [] (mw f a g) = if (f 30 0) = (5 : Int32) then rn xs L 6 25 [vR 30, vI l1, l2] [vI (60 : Int32), vR 30] (mw f a g) else rn xs L 6 29 [vR 30, vI l1, l2] [vI (60 : Int32), vR 30] (mw f a g) :=
  (r_ald (pg_of mt_6 dX0_lands_14 rfl) rfl).trans <|
  (r_con (pg_of mt_6 dX0_lands_15 rfl) (v2 := (60 : Int32)) (by decide)).trans <|
  (r_ald (pg_of mt_6 dX0_lands_17 rfl) rfl).trans <|
  (r_gti (pg_of mt_6 dX0_lands_18 rfl) rfl).trans <|
  (r_con (pg_of mt_6 dX0_lands_21 rfl) (v2 := (5 : Int32)) (by decide)).trans <|
  (r_ne (pg_of mt_6 dX0_lands_22 rfl))
theorem b6_25 (l1 : Int32) (l2 : ma_V) (s0 : Int32) : rn xs L 6 25 [vR 30, vI l1, l2] [vI s0, vR 30] (mw f a g) = (ev xs L 3 3 [vR 30, vI s0, vI (1 : Int32)] (mw f a g)).bind (fun b => rn xs L 6 33 [vR 30, vI l1, l2] (b.1.toList ++ []) b.2) :=
  (r_con (pg_of mt_6 dX0_lands_25 rfl) (v2 := (1 : Int32)) (by decide)).trans <|
  (r_gto (pg_of mt_6 dX0_lands_26 rfl)).trans <|
  (r_call (t := tt_6) (t2 := tt_3) (pg_of mt_6 dX0_lands_30 rfl) mt_6 mt_3 rfl rfl (rcv1 rfl) rfl rfl)
theorem b6_29 (l1 : Int32) (l2 : ma_V) (s0 : Int32) : rn xs L 6 29 [vR 30, vI l1, l2] [vI s0, vR 30] (mw f a g) = (ev xs L 3 3 [vR 30, vI s0, vI (0 : Int32)] (mw f a g)).bind (fun b => rn xs L 6 33 [vR 30, vI l1, l2] (b.1.toList ++ []) b.2) :=
  (r_con (pg_of mt_6 dX0_lands_29 rfl) (v2 := (0 : Int32)) (by decide)).trans <|
  (r_call (t := tt_6) (t2 := tt_3) (pg_of mt_6 dX0_lands_30 rfl) mt_6 mt_3 rfl rfl (rcv1 rfl) rfl rfl)
theorem b6_33 (l1 : Int32) (l2 : ma_V) : rn xs L 6 33 [vR 30, vI l1, l2] [] (mw f a g) = (ev xs L 3 3 [vR 30, vI (13 : Int32), vI (1 : Int32)] (mw f a g)).bind (fun b => rn xs L 6 40 [vR 30, vI l1, l2] (b.1.toList ++ []) b.2) :=
  (r_ald (pg_of mt_6 dX0_lands_33 rfl) rfl).trans <|
  (r_con (pg_of mt_6 dX0_lands_34 rfl) (v2 := (13 : Int32)) (by decide)).trans <|
  (r_con (pg_of mt_6 dX0_lands_36 rfl) (v2 := (1 : Int32)) (by decide)).trans <|
  (r_call (t := tt_6) (t2 := tt_3) (pg_of mt_6 dX0_lands_37 rfl) mt_6 mt_3 rfl rfl (rcv1 rfl) rfl rfl)
theorem b6_40 (l1 : Int32) (l2 : ma_V) : rn xs L 6 40 [vR 30, vI l1, l2] [] (mw f a g) = (ev xs L 4 3 [vR 30, vI l1] (mw f a g)).bind (fun b => rn xs L 6 45 [vR 30, vI l1, l2] (b.1.toList ++ []) b.2) :=
  (r_ald (pg_of mt_6 dX0_lands_40 rfl) rfl).trans <|
  (r_ild (pg_of mt_6 dX0_lands_41 rfl) rfl).trans <|
  (r_call (t := tt_6) (t2 := tt_4) (pg_of mt_6 dX0_lands_42 rfl) mt_6 mt_4 rfl rfl (rcv1 rfl) rfl rfl)
theorem b6_45 (l1 : Int32) (l2 : ma_V) (s0 : Int32) : rn xs L 6 45 [vR 30, vI l1, l2] [vI s0] (mw f a g) = (ev xs L 106 2 [vI (f 30 0), vI (2 : Int32)] (mw f a g)).bind (fun b => rn xs L 6 57 [vR 30, vI l1, vI (s0 ^^^ (20 : Int32))] (b.1.toList ++ []) b.2) :=
  (r_con (pg_of mt_6 dX0_lands_45 rfl) (v2 := (20 : Int32)) (by decide)).trans <|
  (r_bin (pg_of mt_6 dX0_lands_47 rfl)).trans <|
  (r_ist (pg_of mt_6 dX0_lands_48 rfl) (Nat.le_of_ble_eq_true rfl) rfl).trans <|
  (r_ald (pg_of mt_6 dX0_lands_49 rfl) rfl).trans <|
  (r_gti (pg_of mt_6 dX0_lands_50 rfl) rfl).trans <|
  (r_con (pg_of mt_6 dX0_lands_53 rfl) (v2 := (2 : Int32)) (by decide)).trans <|
  (r_call (t := tt_6) (t2 := tt_106) (pg_of mt_6 dX0_lands_54 rfl) mt_6 mt_106 rfl rfl rfl rfl rfl)
theorem b6_57 (l1 : Int32) (l2 : Int32) (s0 : Int32) : rn xs L 6 57 [vR 30, vI l1, vI l2] [vI s0] (mw f a g) = if s0 = 0 then rn xs L 6 71 [vR 30, vI l1, vI l2] [] (mw f a g) else rn xs L 6 60 [vR 30, vI l1, vI l2] [] (mw f a g) :=
  (r_eq0 (pg_of mt_6 dX0_lands_57 rfl))
theorem b6_60 (l1 : Int32) (l2 : Int32) : rn xs L 6 60 [vR 30, vI l1, vI l2] [] (mw f a g) = (ev xs L 5 4 [vR 30, vI (f 30 1)] (mw f a g)).bind (fun b => rn xs L 6 69 [vR 30, vI l1, vI l2] (b.1.toList ++ [vI l2]) b.2) :=
  (r_ild (pg_of mt_6 dX0_lands_60 rfl) rfl).trans <|
  (r_ald (pg_of mt_6 dX0_lands_61 rfl) rfl).trans <|
  (r_ald (pg_of mt_6 dX0_lands_62 rfl) rfl).trans <|
  (r_gti (pg_of mt_6 dX0_lands_63 rfl) rfl).trans <|
  (r_call (t := tt_6) (t2 := tt_5) (pg_of mt_6 dX0_lands_66 rfl) mt_6 mt_5 rfl rfl (rcv1 rfl) rfl rfl)
theorem b6_69 (l1 : Int32) (l2 : Int32) (s0 : Int32) (s1 : Int32) : rn xs L 6 69 [vR 30, vI l1, vI l2] [vI s0, vI s1] (mw f a g) = some (some (vI (s1 - s0)), (mw f a g)) :=
  (r_bin (pg_of mt_6 dX0_lands_69 rfl)).trans <|
  (r_ri (pg_of mt_6 dX0_lands_70 rfl) mt_6 rfl)
theorem b6_71 (l1 : Int32) (l2 : Int32) : rn xs L 6 71 [vR 30, vI l1, vI l2] [] (mw f a g) = if (f 30 0) = (5 : Int32) then rn xs L 6 79 [vR 30, vI l1, vI l2] [] (mw f a g) else rn xs L 6 85 [vR 30, vI l1, vI l2] [] (mw f a g) :=
  (r_ald (pg_of mt_6 dX0_lands_71 rfl) rfl).trans <|
  (r_gti (pg_of mt_6 dX0_lands_72 rfl) rfl).trans <|
  (r_con (pg_of mt_6 dX0_lands_75 rfl) (v2 := (5 : Int32)) (by decide)).trans <|
  (r_ne (pg_of mt_6 dX0_lands_76 rfl))
theorem b6_79 (l1 : Int32) (l2 : Int32) : rn xs L 6 79 [vR 30, vI l1, vI l2] [] (mw f a g) = some (some (vI (l2 ^^^ l1)), (mw f a g)) :=
  (r_ild (pg_of mt_6 dX0_lands_79 rfl) rfl).trans <|
  (r_ild (pg_of mt_6 dX0_lands_80 rfl) rfl).trans <|
  (r_bin (pg_of mt_6 dX0_lands_81 rfl)).trans <|
  (r_gto (pg_of mt_6 dX0_lands_82 rfl)).trans <|
  (r_ri (pg_of mt_6 dX0_lands_86 rfl) mt_6 rfl)
theorem b6_85 (l1 : Int32) (l2 : Int32) : rn xs L 6 85 [vR 30, vI l1, vI l2] [] (mw f a g) = some (some (vI l2), (mw f a g)) :=
  (r_ild (pg_of mt_6 dX0_lands_85 rfl) rfl).trans <|
  (r_ri (pg_of mt_6 dX0_lands_86 rfl) mt_6 rfl)
-- 8 LeafFalls$Sheet.isMissing()Z
theorem b8_0 (t : Nat) (ht : is_sh t) : rn xs L 8 0 [vR t] [] (mw f a g) = if (f t 1) = (-1 : Int32) then rn xs L 8 8 [vR t] [] (mw f a g) else rn xs L 8 12 [vR t] [] (mw f a g) :=
  (r_ald (pg_of mt_8 dX1_isMissing_0 rfl) rfl).trans <|
  (r_gti (pg_of mt_8 dX1_isMissing_1 rfl) (mw_sh ht)).trans <|
  (r_con (pg_of mt_8 dX1_isMissing_4 rfl) (v2 := (-1 : Int32)) (by decide)).trans <|
  (r_ne (pg_of mt_8 dX1_isMissing_5 rfl))
theorem b8_8 (t : Nat) (ht : is_sh t) : rn xs L 8 8 [vR t] [] (mw f a g) = some (some (vI (1 : Int32)), (mw f a g)) :=
  (r_con (pg_of mt_8 dX1_isMissing_8 rfl) (v2 := (1 : Int32)) (by decide)).trans <|
  (r_gto (pg_of mt_8 dX1_isMissing_9 rfl)).trans <|
  (r_rz (pg_of mt_8 dX1_isMissing_13 rfl) mt_8 rfl (Or.inr rfl))
theorem b8_12 (t : Nat) (ht : is_sh t) : rn xs L 8 12 [vR t] [] (mw f a g) = some (some (vI (0 : Int32)), (mw f a g)) :=
  (r_con (pg_of mt_8 dX1_isMissing_12 rfl) (v2 := (0 : Int32)) (by decide)).trans <|
  (r_rz (pg_of mt_8 dX1_isMissing_13 rfl) mt_8 rfl (Or.inl rfl))
-- 9 LeafFalls$Sheet.begin(II)V
theorem b9_0 (t : Nat) (l1 : Int32) (l2 : Int32) (l3 : ma_V) (ht : is_sh t) : rn xs L 9 0 [vR t, vI l1, vI l2, l3] [] (mw f a g) = rn xs L 9 12 [vR t, vI l1, vI l2, vI (0 : Int32)] [] (mw ((ma_u2 ((ma_u2 f t 1 l1)) t 2 l2)) a g) :=
  (r_ald (pg_of mt_9 dX1_begin_0 rfl) rfl).trans <|
  (r_ild (pg_of mt_9 dX1_begin_1 rfl) rfl).trans <|
  (r_pti (pg_of mt_9 dX1_begin_2 rfl) (mw_sh ht) rfl).trans <|
  (r_ald (pg_of mt_9 dX1_begin_5 rfl) rfl).trans <|
  (r_ild (pg_of mt_9 dX1_begin_6 rfl) rfl).trans <|
  (r_pti (pg_of mt_9 dX1_begin_7 rfl) (mw_sh ht) rfl).trans <|
  (r_con (pg_of mt_9 dX1_begin_10 rfl) (v2 := (0 : Int32)) (by decide)).trans <|
  (r_ist (pg_of mt_9 dX1_begin_11 rfl) (Nat.le_of_ble_eq_true rfl) rfl)
theorem b9_12 (t : Nat) (l1 : Int32) (l2 : Int32) (l3 : Int32) (ht : is_sh t) : rn xs L 9 12 [vR t, vI l1, vI l2, vI l3] [] (mw f a g) = if l3 < (40 : Int32) then rn xs L 9 18 [vR t, vI l1, vI l2, vI l3] [] (mw f a g) else rn xs L 9 31 [vR t, vI l1, vI l2, vI l3] [] (mw f a g) :=
  (r_ild (pg_of mt_9 dX1_begin_12 rfl) rfl).trans <|
  (r_con (pg_of mt_9 dX1_begin_13 rfl) (v2 := (40 : Int32)) (by decide)).trans <|
  (r_ge (pg_of mt_9 dX1_begin_15 rfl))
theorem b9_18 (t : Nat) (l1 : Int32) (l2 : Int32) (l3 : Int32) (ht : is_sh t) (h1 : ma_in l3 40 = true) : rn xs L 9 18 [vR t, vI l1, vI l2, vI l3] [] (mw f a g) = rn xs L 9 12 [vR t, vI l1, vI l2, vI (l3 + (1 : Int32))] [] (mw f a ((ma_u2 g ((t + 1)) l3.toNatClampNeg ((0 : Int64))))) :=
  (r_ald (pg_of mt_9 dX1_begin_18 rfl) rfl).trans <|
  (r_gtr (a := (t + 1)) (pg_of mt_9 dX1_begin_19 rfl) (mw_sh ht) (mw_shf ht)).trans <|
  (r_ild (pg_of mt_9 dX1_begin_22 rfl) rfl).trans <|
  (r_lcn (pg_of mt_9 dX1_begin_23 rfl) (v2 := (0 : Int64)) (by decide)).trans <|
  (r_last (pg_of mt_9 dX1_begin_24 rfl) (mw_sh0 ht) h1).trans <|
  (r_inc (pg_of mt_9 dX1_begin_25 rfl) (y := (1 : Int32)) (by decide) rfl rfl).trans <|
  (r_gto (pg_of mt_9 dX1_begin_28 rfl))
theorem b9_31 (t : Nat) (l1 : Int32) (l2 : Int32) (l3 : Int32) (ht : is_sh t) : rn xs L 9 31 [vR t, vI l1, vI l2, vI l3] [] (mw f a g) = some (none, (mw f a g)) :=
  (r_rv (pg_of mt_9 dX1_begin_31 rfl) mt_9 rfl)
-- 10 LeafFalls$Sheet.narrowed(I)J
theorem b10_0 (t : Nat) (l1 : Int32) (ht : is_sh t) : rn xs L 10 0 [vR t, vI l1] [] (mw f a g) = if (f t 1) = 0 then rn xs L 10 7 [vR t, vI l1] [] (mw f a g) else rn xs L 10 13 [vR t, vI l1] [] (mw f a g) :=
  (r_ald (pg_of mt_10 dX1_narrowed_0 rfl) rfl).trans <|
  (r_gti (pg_of mt_10 dX1_narrowed_1 rfl) (mw_sh ht)).trans <|
  (r_ne0 (pg_of mt_10 dX1_narrowed_4 rfl))
theorem b10_7 (t : Nat) (l1 : Int32) (ht : is_sh t) : rn xs L 10 7 [vR t, vI l1] [] (mw f a g) = some (some (vL (((l1).toInt8.toInt32)).toInt64), (mw f a g)) :=
  (r_ild (pg_of mt_10 dX1_narrowed_7 rfl) rfl).trans <|
  (r_una (pg_of mt_10 dX1_narrowed_8 rfl)).trans <|
  (r_i2l (pg_of mt_10 dX1_narrowed_9 rfl)).trans <|
  (r_gto (pg_of mt_10 dX1_narrowed_10 rfl)).trans <|
  (r_rl (pg_of mt_10 dX1_narrowed_29 rfl) mt_10 rfl)
theorem b10_13 (t : Nat) (l1 : Int32) (ht : is_sh t) : rn xs L 10 13 [vR t, vI l1] [] (mw f a g) = if (f t 1) = (1 : Int32) then rn xs L 10 21 [vR t, vI l1] [] (mw f a g) else rn xs L 10 27 [vR t, vI l1] [] (mw f a g) :=
  (r_ald (pg_of mt_10 dX1_narrowed_13 rfl) rfl).trans <|
  (r_gti (pg_of mt_10 dX1_narrowed_14 rfl) (mw_sh ht)).trans <|
  (r_con (pg_of mt_10 dX1_narrowed_17 rfl) (v2 := (1 : Int32)) (by decide)).trans <|
  (r_ne (pg_of mt_10 dX1_narrowed_18 rfl))
theorem b10_21 (t : Nat) (l1 : Int32) (ht : is_sh t) : rn xs L 10 21 [vR t, vI l1] [] (mw f a g) = some (some (vL (((l1).toInt16.toInt32)).toInt64), (mw f a g)) :=
  (r_ild (pg_of mt_10 dX1_narrowed_21 rfl) rfl).trans <|
  (r_una (pg_of mt_10 dX1_narrowed_22 rfl)).trans <|
  (r_i2l (pg_of mt_10 dX1_narrowed_23 rfl)).trans <|
  (r_gto (pg_of mt_10 dX1_narrowed_24 rfl)).trans <|
  (r_rl (pg_of mt_10 dX1_narrowed_29 rfl) mt_10 rfl)
theorem b10_27 (t : Nat) (l1 : Int32) (ht : is_sh t) : rn xs L 10 27 [vR t, vI l1] [] (mw f a g) = some (some (vL (l1).toInt64), (mw f a g)) :=
  (r_ild (pg_of mt_10 dX1_narrowed_27 rfl) rfl).trans <|
  (r_i2l (pg_of mt_10 dX1_narrowed_28 rfl)).trans <|
  (r_rl (pg_of mt_10 dX1_narrowed_29 rfl) mt_10 rfl)
-- 12 LeafFalls$Shelf.takeLeaf(I)V
theorem b12_0 (t : Nat) (l1 : Int32) (ht : is_sf t) : rn xs L 12 0 [vR t, vI l1] [] (mw f a g) = some (none, (mw ((ma_u2 ((ma_u2 f t 0 ((0 : Int32)))) t 1 l1)) a g)) :=
  (r_ald (pg_of mt_12 dX2_takeLeaf_0 rfl) rfl).trans <|
  (r_con (pg_of mt_12 dX2_takeLeaf_1 rfl) (v2 := (0 : Int32)) (by decide)).trans <|
  (r_pti (pg_of mt_12 dX2_takeLeaf_2 rfl) (mw_sf ht) rfl).trans <|
  (r_ald (pg_of mt_12 dX2_takeLeaf_5 rfl) rfl).trans <|
  (r_ild (pg_of mt_12 dX2_takeLeaf_6 rfl) rfl).trans <|
  (r_pti (pg_of mt_12 dX2_takeLeaf_7 rfl) (mw_sf ht) rfl).trans <|
  (r_rv (pg_of mt_12 dX2_takeLeaf_10 rfl) mt_12 rfl)
-- 13 LeafFalls$Shelf.takeRow(LLeafFalls$Sheet;)V
theorem b13_0 (t : Nat) (l1 : Nat) (ht : is_sf t) (hl1 : is_sh l1) : rn xs L 13 0 [vR t, vR l1] [] (mw f a g) = (ev xs L 8 1 [vR l1] (mw f a g)).bind (fun b => rn xs L 13 5 [vR t, vR l1] (b.1.toList ++ [vR t]) b.2) :=
  (r_ald (pg_of mt_13 dX2_takeRow_0 rfl) rfl).trans <|
  (r_ald (pg_of mt_13 dX2_takeRow_1 rfl) rfl).trans <|
  (r_call (t := tt_13) (t2 := tt_8) (pg_of mt_13 dX2_takeRow_2 rfl) mt_13 mt_8 rfl rfl (rcv1 (mw_sh hl1)) rfl rfl)
theorem b13_5 (t : Nat) (l1 : Nat) (s0 : Int32) (ht : is_sf t) (hl1 : is_sh l1) : rn xs L 13 5 [vR t, vR l1] [vI s0, vR t] (mw f a g) = if s0 = 0 then rn xs L 13 12 [vR t, vR l1] [vR t] (mw f a g) else rn xs L 13 8 [vR t, vR l1] [vR t] (mw f a g) :=
  (r_eq0 (pg_of mt_13 dX2_takeRow_5 rfl))
theorem b13_8 (t : Nat) (l1 : Nat) (ht : is_sf t) (hl1 : is_sh l1) : rn xs L 13 8 [vR t, vR l1] [vR t] (mw f a g) = some (none, (mw ((ma_u2 ((ma_u2 ((ma_u2 f t 0 ((2 : Int32)))) t 1 ((((ma_u2 f t 0 ((2 : Int32)))) l1 2)))) t 2 ((((ma_u2 ((ma_u2 f t 0 ((2 : Int32)))) t 1 ((((ma_u2 f t 0 ((2 : Int32)))) l1 2)))) l1 1)))) a g)) :=
  (r_con (pg_of mt_13 dX2_takeRow_8 rfl) (v2 := (2 : Int32)) (by decide)).trans <|
  (r_gto (pg_of mt_13 dX2_takeRow_9 rfl)).trans <|
  (r_pti (pg_of mt_13 dX2_takeRow_13 rfl) (mw_sf ht) rfl).trans <|
  (r_ald (pg_of mt_13 dX2_takeRow_16 rfl) rfl).trans <|
  (r_ald (pg_of mt_13 dX2_takeRow_17 rfl) rfl).trans <|
  (r_gti (pg_of mt_13 dX2_takeRow_18 rfl) (mw_sh hl1)).trans <|
  (r_pti (pg_of mt_13 dX2_takeRow_21 rfl) (mw_sf ht) rfl).trans <|
  (r_ald (pg_of mt_13 dX2_takeRow_24 rfl) rfl).trans <|
  (r_ald (pg_of mt_13 dX2_takeRow_25 rfl) rfl).trans <|
  (r_gti (pg_of mt_13 dX2_takeRow_26 rfl) (mw_sh hl1)).trans <|
  (r_pti (pg_of mt_13 dX2_takeRow_29 rfl) (mw_sf ht) rfl).trans <|
  (r_rv (pg_of mt_13 dX2_takeRow_32 rfl) mt_13 rfl)
theorem b13_12 (t : Nat) (l1 : Nat) (ht : is_sf t) (hl1 : is_sh l1) : rn xs L 13 12 [vR t, vR l1] [vR t] (mw f a g) = some (none, (mw ((ma_u2 ((ma_u2 ((ma_u2 f t 0 ((1 : Int32)))) t 1 ((((ma_u2 f t 0 ((1 : Int32)))) l1 2)))) t 2 ((((ma_u2 ((ma_u2 f t 0 ((1 : Int32)))) t 1 ((((ma_u2 f t 0 ((1 : Int32)))) l1 2)))) l1 1)))) a g)) :=
  (r_con (pg_of mt_13 dX2_takeRow_12 rfl) (v2 := (1 : Int32)) (by decide)).trans <|
  (r_pti (pg_of mt_13 dX2_takeRow_13 rfl) (mw_sf ht) rfl).trans <|
  (r_ald (pg_of mt_13 dX2_takeRow_16 rfl) rfl).trans <|
  (r_ald (pg_of mt_13 dX2_takeRow_17 rfl) rfl).trans <|
  (r_gti (pg_of mt_13 dX2_takeRow_18 rfl) (mw_sh hl1)).trans <|
  (r_pti (pg_of mt_13 dX2_takeRow_21 rfl) (mw_sf ht) rfl).trans <|
  (r_ald (pg_of mt_13 dX2_takeRow_24 rfl) rfl).trans <|
  (r_ald (pg_of mt_13 dX2_takeRow_25 rfl) rfl).trans <|
  (r_gti (pg_of mt_13 dX2_takeRow_26 rfl) (mw_sh hl1)).trans <|
  (r_pti (pg_of mt_13 dX2_takeRow_29 rfl) (mw_sf ht) rfl).trans <|
  (r_rv (pg_of mt_13 dX2_takeRow_32 rfl) mt_13 rfl)
-- 15 LeafFalls$Text.readInto(LLeafFalls$Tree;)I
theorem b15_0 (l1 : Nat) (l2 : ma_V) (l3 : ma_V) (l4 : ma_V) (hl1 : is_tr l1) : rn xs L 15 0 [vR 25, vR l1, l2, l3, l4] [] (mw f a g) = (ev xs L 16 1 [vR 25] (mw ((ma_u2 ((ma_u2 f 25 4 ((0 : Int32)))) 25 5 ((-1 : Int32)))) a g)).bind (fun b => rn xs L 15 14 [vR 25, vR l1, l2, l3, l4] (b.1.toList ++ []) b.2) :=
  (r_ald (pg_of mt_15 dX3_readInto_0 rfl) rfl).trans <|
  (r_con (pg_of mt_15 dX3_readInto_1 rfl) (v2 := (0 : Int32)) (by decide)).trans <|
  (r_pti (pg_of mt_15 dX3_readInto_2 rfl) rfl rfl).trans <|
  (r_ald (pg_of mt_15 dX3_readInto_5 rfl) rfl).trans <|
  (r_con (pg_of mt_15 dX3_readInto_6 rfl) (v2 := (-1 : Int32)) (by decide)).trans <|
  (r_pti (pg_of mt_15 dX3_readInto_7 rfl) rfl rfl).trans <|
  (r_ald (pg_of mt_15 dX3_readInto_10 rfl) rfl).trans <|
  (r_call (t := tt_15) (t2 := tt_16) (pg_of mt_15 dX3_readInto_11 rfl) mt_15 mt_16 rfl rfl (rcv1 rfl) rfl rfl)
theorem b15_14 (l1 : Nat) (l2 : ma_V) (l3 : ma_V) (l4 : ma_V) (hl1 : is_tr l1) : rn xs L 15 14 [vR 25, vR l1, l2, l3, l4] [] (mw f a g) = rn xs L 15 16 [vR 25, vR l1, vI (0 : Int32), l3, l4] [] (mw f a g) :=
  (r_con (pg_of mt_15 dX3_readInto_14 rfl) (v2 := (0 : Int32)) (by decide)).trans <|
  (r_ist (pg_of mt_15 dX3_readInto_15 rfl) (Nat.le_of_ble_eq_true rfl) rfl)
theorem b15_16 (l1 : Nat) (l2 : Int32) (l3 : ma_V) (l4 : ma_V) (hl1 : is_tr l1) : rn xs L 15 16 [vR 25, vR l1, vI l2, l3, l4] [] (mw f a g) = if l2 < (200 : Int32) then rn xs L 15 23 [vR 25, vR l1, vI l2, l3, l4] [] (mw f a g) else rn xs L 15 116 [vR 25, vR l1, vI l2, l3, l4] [] (mw f a g) :=
  (r_ild (pg_of mt_15 dX3_readInto_16 rfl) rfl).trans <|
  (r_con (pg_of mt_15 dX3_readInto_17 rfl) (v2 := (200 : Int32)) (by decide)).trans <|
  (r_ge (pg_of mt_15 dX3_readInto_20 rfl))
theorem b15_23 (l1 : Nat) (l2 : Int32) (l3 : ma_V) (l4 : ma_V) (hl1 : is_tr l1) : rn xs L 15 23 [vR 25, vR l1, vI l2, l3, l4] [] (mw f a g) = if (f 25 2) = 0 then rn xs L 15 116 [vR 25, vR l1, vI l2, l3, l4] [] (mw f a g) else rn xs L 15 30 [vR 25, vR l1, vI l2, l3, l4] [] (mw f a g) :=
  (r_ald (pg_of mt_15 dX3_readInto_23 rfl) rfl).trans <|
  (r_gti (pg_of mt_15 dX3_readInto_24 rfl) rfl).trans <|
  (r_eq0 (pg_of mt_15 dX3_readInto_27 rfl))
theorem b15_30 (l1 : Nat) (l2 : Int32) (l3 : ma_V) (l4 : ma_V) (hl1 : is_tr l1) : rn xs L 15 30 [vR 25, vR l1, vI l2, l3, l4] [] (mw f a g) = if (f 25 5) < 0 then rn xs L 15 37 [vR 25, vR l1, vI l2, l3, l4] [] (mw f a g) else rn xs L 15 116 [vR 25, vR l1, vI l2, l3, l4] [] (mw f a g) :=
  (r_ald (pg_of mt_15 dX3_readInto_30 rfl) rfl).trans <|
  (r_gti (pg_of mt_15 dX3_readInto_31 rfl) rfl).trans <|
  (r_ge0 (pg_of mt_15 dX3_readInto_34 rfl))
theorem b15_37 (l1 : Nat) (l2 : Int32) (l3 : ma_V) (l4 : ma_V) (hl1 : is_tr l1) : rn xs L 15 37 [vR 25, vR l1, vI l2, l3, l4] [] (mw f a g) = (ev xs L 18 1 [vR 25] (mw f a g)).bind (fun b => rn xs L 15 41 [vR 25, vR l1, vI l2, l3, l4] (b.1.toList ++ []) b.2) :=
  (r_ald (pg_of mt_15 dX3_readInto_37 rfl) rfl).trans <|
  (r_call (t := tt_15) (t2 := tt_18) (pg_of mt_15 dX3_readInto_38 rfl) mt_15 mt_18 rfl rfl (rcv1 rfl) rfl rfl)
theorem b15_41 (l1 : Nat) (l2 : Int32) (l3 : ma_V) (l4 : ma_V) (s0 : Int32) (hl1 : is_tr l1) : rn xs L 15 41 [vR 25, vR l1, vI l2, l3, l4] [vI s0] (mw f a g) = (ev xs L 20 2 [vR 25] (mw f a g)).bind (fun b => rn xs L 15 46 [vR 25, vR l1, vI l2, vI s0, l4] (b.1.toList ++ []) b.2) :=
  (r_ist (pg_of mt_15 dX3_readInto_41 rfl) (Nat.le_of_ble_eq_true rfl) rfl).trans <|
  (r_ald (pg_of mt_15 dX3_readInto_42 rfl) rfl).trans <|
  (r_call (t := tt_15) (t2 := tt_20) (pg_of mt_15 dX3_readInto_43 rfl) mt_15 mt_20 rfl rfl (rcv1 rfl) rfl rfl)
theorem b15_46 (l1 : Nat) (l2 : Int32) (l3 : Int32) (l4 : ma_V) (s0 : Int32) (hl1 : is_tr l1) : rn xs L 15 46 [vR 25, vR l1, vI l2, vI l3, l4] [vI s0] (mw f a g) = if l3 < 0 then rn xs L 15 61 [vR 25, vR l1, vI l2, vI l3, vI s0] [] (mw f a g) else rn xs L 15 52 [vR 25, vR l1, vI l2, vI l3, vI s0] [] (mw f a g) :=
  (r_ist (pg_of mt_15 dX3_readInto_46 rfl) (Nat.le_of_ble_eq_true rfl) rfl).trans <|
  (r_ild (pg_of mt_15 dX3_readInto_48 rfl) rfl).trans <|
  (r_lt0 (pg_of mt_15 dX3_readInto_49 rfl))
theorem b15_52 (l1 : Nat) (l2 : Int32) (l3 : Int32) (l4 : Int32) (hl1 : is_tr l1) : rn xs L 15 52 [vR 25, vR l1, vI l2, vI l3, vI l4] [] (mw f a g) = (ev xs L 22 4 [vR 25, vR l1, vI l3] (mw f a g)).bind (fun b => rn xs L 15 58 [vR 25, vR l1, vI l2, vI l3, vI l4] (b.1.toList ++ []) b.2) :=
  (r_ald (pg_of mt_15 dX3_readInto_52 rfl) rfl).trans <|
  (r_ald (pg_of mt_15 dX3_readInto_53 rfl) rfl).trans <|
  (r_ild (pg_of mt_15 dX3_readInto_54 rfl) rfl).trans <|
  (r_call (t := tt_15) (t2 := tt_22) (pg_of mt_15 dX3_readInto_55 rfl) mt_15 mt_22 rfl rfl (rcv1 rfl) rfl rfl)
theorem b15_58 (l1 : Nat) (l2 : Int32) (l3 : Int32) (l4 : Int32) (hl1 : is_tr l1) : rn xs L 15 58 [vR 25, vR l1, vI l2, vI l3, vI l4] [] (mw f a g) = rn xs L 15 16 [vR 25, vR l1, vI (l2 + (1 : Int32)), vI l3, vI l4] [] (mw f a g) :=
  (r_gto (pg_of mt_15 dX3_readInto_58 rfl)).trans <|
  (r_inc (pg_of mt_15 dX3_readInto_110 rfl) (y := (1 : Int32)) (by decide) rfl rfl).trans <|
  (r_gto (pg_of mt_15 dX3_readInto_113 rfl))
theorem b15_61 (l1 : Nat) (l2 : Int32) (l3 : Int32) (l4 : Int32) (hl1 : is_tr l1) : rn xs L 15 61 [vR 25, vR l1, vI l2, vI l3, vI l4] [] (mw f a g) = (ev xs L 19 3 [vR 25, vS 23] (mw f a g)).bind (fun b => rn xs L 15 67 [vR 25, vR l1, vI l2, vI l3, vI l4] (b.1.toList ++ []) b.2) :=
  (r_ald (pg_of mt_15 dX3_readInto_61 rfl) rfl).trans <|
  (r_spc (pg_of mt_15 dX3_readInto_62 rfl)).trans <|
  (r_call (t := tt_15) (t2 := tt_19) (pg_of mt_15 dX3_readInto_64 rfl) mt_15 mt_19 rfl rfl (rcv1 rfl) rfl rfl)
theorem b15_67 (l1 : Nat) (l2 : Int32) (l3 : Int32) (l4 : Int32) (s0 : Int32) (hl1 : is_tr l1) : rn xs L 15 67 [vR 25, vR l1, vI l2, vI l3, vI l4] [vI s0] (mw f a g) = if s0 = 0 then rn xs L 15 78 [vR 25, vR l1, vI l2, vI l3, vI l4] [] (mw f a g) else rn xs L 15 70 [vR 25, vR l1, vI l2, vI l3, vI l4] [] (mw f a g) :=
  (r_eq0 (pg_of mt_15 dX3_readInto_67 rfl))
theorem b15_70 (l1 : Nat) (l2 : Int32) (l3 : Int32) (l4 : Int32) (hl1 : is_tr l1) : rn xs L 15 70 [vR 25, vR l1, vI l2, vI l3, vI l4] [] (mw f a g) = (ev xs L 26 4 [vR 25, vR l1] (mw f a g)).bind (fun b => rn xs L 15 75 [vR 25, vR l1, vI l2, vI l3, vI l4] (b.1.toList ++ []) b.2) :=
  (r_ald (pg_of mt_15 dX3_readInto_70 rfl) rfl).trans <|
  (r_ald (pg_of mt_15 dX3_readInto_71 rfl) rfl).trans <|
  (r_call (t := tt_15) (t2 := tt_26) (pg_of mt_15 dX3_readInto_72 rfl) mt_15 mt_26 rfl rfl (rcv1 rfl) rfl rfl)
theorem b15_75 (l1 : Nat) (l2 : Int32) (l3 : Int32) (l4 : Int32) (hl1 : is_tr l1) : rn xs L 15 75 [vR 25, vR l1, vI l2, vI l3, vI l4] [] (mw f a g) = rn xs L 15 16 [vR 25, vR l1, vI (l2 + (1 : Int32)), vI l3, vI l4] [] (mw f a g) :=
  (r_gto (pg_of mt_15 dX3_readInto_75 rfl)).trans <|
  (r_inc (pg_of mt_15 dX3_readInto_110 rfl) (y := (1 : Int32)) (by decide) rfl rfl).trans <|
  (r_gto (pg_of mt_15 dX3_readInto_113 rfl))
theorem b15_78 (l1 : Nat) (l2 : Int32) (l3 : Int32) (l4 : Int32) (hl1 : is_tr l1) : rn xs L 15 78 [vR 25, vR l1, vI l2, vI l3, vI l4] [] (mw f a g) = if l4 < 0 then rn xs L 15 102 [vR 25, vR l1, vI l2, vI l3, vI l4] [] (mw f a g) else rn xs L 15 83 [vR 25, vR l1, vI l2, vI l3, vI l4] [] (mw f a g) :=
  (r_ild (pg_of mt_15 dX3_readInto_78 rfl) rfl).trans <|
  (r_lt0 (pg_of mt_15 dX3_readInto_80 rfl))
theorem b15_83 (l1 : Nat) (l2 : Int32) (l3 : Int32) (l4 : Int32) (hl1 : is_tr l1) : rn xs L 15 83 [vR 25, vR l1, vI l2, vI l3, vI l4] [] (mw f a g) = if (f l1 7) < (8 : Int32) then rn xs L 15 92 [vR 25, vR l1, vI l2, vI l3, vI l4] [] (mw f a g) else rn xs L 15 102 [vR 25, vR l1, vI l2, vI l3, vI l4] [] (mw f a g) :=
  (r_ald (pg_of mt_15 dX3_readInto_83 rfl) rfl).trans <|
  (r_gti (pg_of mt_15 dX3_readInto_84 rfl) (mw_tr hl1)).trans <|
  (r_con (pg_of mt_15 dX3_readInto_87 rfl) (v2 := (8 : Int32)) (by decide)).trans <|
  (r_ge (pg_of mt_15 dX3_readInto_89 rfl))
theorem b15_92 (l1 : Nat) (l2 : Int32) (l3 : Int32) (l4 : Int32) (hl1 : is_tr l1) : rn xs L 15 92 [vR 25, vR l1, vI l2, vI l3, vI l4] [] (mw f a g) = (ev xs L 28 6 [vR 25, vR l1, vI l4] (mw f a g)).bind (fun b => rn xs L 15 99 [vR 25, vR l1, vI l2, vI l3, vI l4] (b.1.toList ++ []) b.2) :=
  (r_ald (pg_of mt_15 dX3_readInto_92 rfl) rfl).trans <|
  (r_ald (pg_of mt_15 dX3_readInto_93 rfl) rfl).trans <|
  (r_ild (pg_of mt_15 dX3_readInto_94 rfl) rfl).trans <|
  (r_call (t := tt_15) (t2 := tt_28) (pg_of mt_15 dX3_readInto_96 rfl) mt_15 mt_28 rfl rfl (rcv1 rfl) rfl rfl)
theorem b15_99 (l1 : Nat) (l2 : Int32) (l3 : Int32) (l4 : Int32) (hl1 : is_tr l1) : rn xs L 15 99 [vR 25, vR l1, vI l2, vI l3, vI l4] [] (mw f a g) = rn xs L 15 16 [vR 25, vR l1, vI (l2 + (1 : Int32)), vI l3, vI l4] [] (mw f a g) :=
  (r_gto (pg_of mt_15 dX3_readInto_99 rfl)).trans <|
  (r_inc (pg_of mt_15 dX3_readInto_110 rfl) (y := (1 : Int32)) (by decide) rfl rfl).trans <|
  (r_gto (pg_of mt_15 dX3_readInto_113 rfl))
theorem b15_102 (l1 : Nat) (l2 : Int32) (l3 : Int32) (l4 : Int32) (hl1 : is_tr l1) : rn xs L 15 102 [vR 25, vR l1, vI l2, vI l3, vI l4] [] (mw f a g) = rn xs L 15 16 [vR 25, vR l1, vI (l2 + (1 : Int32)), vI l3, vI l4] [] (mw ((ma_u2 f 25 5 ((f 25 3)))) a g) :=
  (r_ald (pg_of mt_15 dX3_readInto_102 rfl) rfl).trans <|
  (r_ald (pg_of mt_15 dX3_readInto_103 rfl) rfl).trans <|
  (r_gti (pg_of mt_15 dX3_readInto_104 rfl) rfl).trans <|
  (r_pti (pg_of mt_15 dX3_readInto_107 rfl) rfl rfl).trans <|
  (r_inc (pg_of mt_15 dX3_readInto_110 rfl) (y := (1 : Int32)) (by decide) rfl rfl).trans <|
  (r_gto (pg_of mt_15 dX3_readInto_113 rfl))
theorem b15_116 (l1 : Nat) (l2 : Int32) (l3 : ma_V) (l4 : ma_V) (hl1 : is_tr l1) : rn xs L 15 116 [vR 25, vR l1, vI l2, l3, l4] [] (mw f a g) = some (some (vI (f 25 5)), (mw f a g)) :=
  (r_ald (pg_of mt_15 dX3_readInto_116 rfl) rfl).trans <|
  (r_gti (pg_of mt_15 dX3_readInto_117 rfl) rfl).trans <|
  (r_ri (pg_of mt_15 dX3_readInto_120 rfl) mt_15 rfl)
-- 16 LeafFalls$Text.step()V
theorem b16_0  : rn xs L 16 0 [vR 25] [] (mw f a g) = rn xs L 16 8 [vR 25] [] (mw ((ma_u2 f 25 3 ((f 25 4)))) a g) :=
  (r_ald (pg_of mt_16 dX3_step_0 rfl) rfl).trans <|
  (r_ald (pg_of mt_16 dX3_step_1 rfl) rfl).trans <|
  (r_gti (pg_of mt_16 dX3_step_2 rfl) rfl).trans <|
  (r_pti (pg_of mt_16 dX3_step_5 rfl) rfl rfl)
theorem b16_8  : rn xs L 16 8 [vR 25] [] (mw f a g) = if (f 25 3) < (f 25 1) then rn xs L 16 19 [vR 25] [] (mw f a g) else rn xs L 16 46 [vR 25] [] (mw f a g) :=
  (r_ald (pg_of mt_16 dX3_step_8 rfl) rfl).trans <|
  (r_gti (pg_of mt_16 dX3_step_9 rfl) rfl).trans <|
  (r_ald (pg_of mt_16 dX3_step_12 rfl) rfl).trans <|
  (r_gti (pg_of mt_16 dX3_step_13 rfl) rfl).trans <|
  (r_ge (pg_of mt_16 dX3_step_16 rfl))
theorem b16_19 (h1 : ma_in ((f 25 3)) 200 = true) : rn xs L 16 19 [vR 25] [] (mw f a g) = if (a 26 ((f 25 3)).toNatClampNeg) = (32 : Int32) then rn xs L 16 33 [vR 25] [] (mw f a g) else rn xs L 16 46 [vR 25] [] (mw f a g) :=
  (r_ald (pg_of mt_16 dX3_step_19 rfl) rfl).trans <|
  (r_gtr (a := 26) (pg_of mt_16 dX3_step_20 rfl) rfl rfl).trans <|
  (r_ald (pg_of mt_16 dX3_step_23 rfl) rfl).trans <|
  (r_gti (pg_of mt_16 dX3_step_24 rfl) rfl).trans <|
  (r_bald (pg_of mt_16 dX3_step_27 rfl) rfl h1).trans <|
  (r_con (pg_of mt_16 dX3_step_28 rfl) (v2 := (32 : Int32)) (by decide)).trans <|
  (r_ne (pg_of mt_16 dX3_step_30 rfl))
theorem b16_33  : rn xs L 16 33 [vR 25] [] (mw f a g) = rn xs L 16 8 [vR 25] [] (mw ((ma_u2 f 25 3 (((f 25 3) + (1 : Int32))))) a g) :=
  (r_ald (pg_of mt_16 dX3_step_33 rfl) rfl).trans <|
  (r_dup (pg_of mt_16 dX3_step_34 rfl) rfl).trans <|
  (r_gti (pg_of mt_16 dX3_step_35 rfl) rfl).trans <|
  (r_con (pg_of mt_16 dX3_step_38 rfl) (v2 := (1 : Int32)) (by decide)).trans <|
  (r_bin (pg_of mt_16 dX3_step_39 rfl)).trans <|
  (r_pti (pg_of mt_16 dX3_step_40 rfl) rfl rfl).trans <|
  (r_gto (pg_of mt_16 dX3_step_43 rfl))
theorem b16_46  : rn xs L 16 46 [vR 25] [] (mw f a g) = (ev xs L 17 3 [vR 25, vI (((ma_u2 f 25 4 ((f 25 3)))) 25 3)] (mw ((ma_u2 f 25 4 ((f 25 3)))) a g)).bind (fun b => rn xs L 16 63 [vR 25] (b.1.toList ++ [vR 25]) b.2) :=
  (r_ald (pg_of mt_16 dX3_step_46 rfl) rfl).trans <|
  (r_ald (pg_of mt_16 dX3_step_47 rfl) rfl).trans <|
  (r_gti (pg_of mt_16 dX3_step_48 rfl) rfl).trans <|
  (r_pti (pg_of mt_16 dX3_step_51 rfl) rfl rfl).trans <|
  (r_ald (pg_of mt_16 dX3_step_54 rfl) rfl).trans <|
  (r_ald (pg_of mt_16 dX3_step_55 rfl) rfl).trans <|
  (r_ald (pg_of mt_16 dX3_step_56 rfl) rfl).trans <|
  (r_gti (pg_of mt_16 dX3_step_57 rfl) rfl).trans <|
  (r_call (t := tt_16) (t2 := tt_17) (pg_of mt_16 dX3_step_60 rfl) mt_16 mt_17 rfl rfl (rcv1 rfl) rfl rfl)
theorem b16_63 (s0 : Int32) : rn xs L 16 63 [vR 25] [vI s0, vR 25] (mw f a g) = if (((ma_u2 f 25 2 s0)) 25 2) = 0 then rn xs L 16 73 [vR 25] [] (mw ((ma_u2 f 25 2 s0)) a g) else rn xs L 16 74 [vR 25] [] (mw ((ma_u2 f 25 2 s0)) a g) :=
  (r_pti (pg_of mt_16 dX3_step_63 rfl) rfl rfl).trans <|
  (r_ald (pg_of mt_16 dX3_step_66 rfl) rfl).trans <|
  (r_gti (pg_of mt_16 dX3_step_67 rfl) rfl).trans <|
  (r_ne0 (pg_of mt_16 dX3_step_70 rfl))
theorem b16_73  : rn xs L 16 73 [vR 25] [] (mw f a g) = some (none, (mw f a g)) :=
  (r_rv (pg_of mt_16 dX3_step_73 rfl) mt_16 rfl)
theorem b16_74  : rn xs L 16 74 [vR 25] [] (mw f a g) = rn xs L 16 84 [vR 25] [] (mw ((ma_u2 f 25 4 (((f 25 4) + (1 : Int32))))) a g) :=
  (r_ald (pg_of mt_16 dX3_step_74 rfl) rfl).trans <|
  (r_dup (pg_of mt_16 dX3_step_75 rfl) rfl).trans <|
  (r_gti (pg_of mt_16 dX3_step_76 rfl) rfl).trans <|
  (r_con (pg_of mt_16 dX3_step_79 rfl) (v2 := (1 : Int32)) (by decide)).trans <|
  (r_bin (pg_of mt_16 dX3_step_80 rfl)).trans <|
  (r_pti (pg_of mt_16 dX3_step_81 rfl) rfl rfl)
theorem b16_84  : rn xs L 16 84 [vR 25] [] (mw f a g) = if (f 25 2) = (3 : Int32) then rn xs L 16 131 [vR 25] [] (mw f a g) else rn xs L 16 92 [vR 25] [] (mw f a g) :=
  (r_ald (pg_of mt_16 dX3_step_84 rfl) rfl).trans <|
  (r_gti (pg_of mt_16 dX3_step_85 rfl) rfl).trans <|
  (r_con (pg_of mt_16 dX3_step_88 rfl) (v2 := (3 : Int32)) (by decide)).trans <|
  (r_eq (pg_of mt_16 dX3_step_89 rfl))
theorem b16_92  : rn xs L 16 92 [vR 25] [] (mw f a g) = if (f 25 4) < (f 25 1) then rn xs L 16 103 [vR 25] [] (mw f a g) else rn xs L 16 131 [vR 25] [] (mw f a g) :=
  (r_ald (pg_of mt_16 dX3_step_92 rfl) rfl).trans <|
  (r_gti (pg_of mt_16 dX3_step_93 rfl) rfl).trans <|
  (r_ald (pg_of mt_16 dX3_step_96 rfl) rfl).trans <|
  (r_gti (pg_of mt_16 dX3_step_97 rfl) rfl).trans <|
  (r_ge (pg_of mt_16 dX3_step_100 rfl))
theorem b16_103  : rn xs L 16 103 [vR 25] [] (mw f a g) = (ev xs L 17 3 [vR 25, vI (f 25 4)] (mw f a g)).bind (fun b => rn xs L 16 111 [vR 25] (b.1.toList ++ []) b.2) :=
  (r_ald (pg_of mt_16 dX3_step_103 rfl) rfl).trans <|
  (r_ald (pg_of mt_16 dX3_step_104 rfl) rfl).trans <|
  (r_gti (pg_of mt_16 dX3_step_105 rfl) rfl).trans <|
  (r_call (t := tt_16) (t2 := tt_17) (pg_of mt_16 dX3_step_108 rfl) mt_16 mt_17 rfl rfl (rcv1 rfl) rfl rfl)
theorem b16_111 (s0 : Int32) : rn xs L 16 111 [vR 25] [vI s0] (mw f a g) = if s0 = (f 25 2) then rn xs L 16 118 [vR 25] [] (mw f a g) else rn xs L 16 131 [vR 25] [] (mw f a g) :=
  (r_ald (pg_of mt_16 dX3_step_111 rfl) rfl).trans <|
  (r_gti (pg_of mt_16 dX3_step_112 rfl) rfl).trans <|
  (r_ne (pg_of mt_16 dX3_step_115 rfl))
theorem b16_118  : rn xs L 16 118 [vR 25] [] (mw f a g) = rn xs L 16 84 [vR 25] [] (mw ((ma_u2 f 25 4 (((f 25 4) + (1 : Int32))))) a g) :=
  (r_ald (pg_of mt_16 dX3_step_118 rfl) rfl).trans <|
  (r_dup (pg_of mt_16 dX3_step_119 rfl) rfl).trans <|
  (r_gti (pg_of mt_16 dX3_step_120 rfl) rfl).trans <|
  (r_con (pg_of mt_16 dX3_step_123 rfl) (v2 := (1 : Int32)) (by decide)).trans <|
  (r_bin (pg_of mt_16 dX3_step_124 rfl)).trans <|
  (r_pti (pg_of mt_16 dX3_step_125 rfl) rfl rfl).trans <|
  (r_gto (pg_of mt_16 dX3_step_128 rfl))
theorem b16_131  : rn xs L 16 131 [vR 25] [] (mw f a g) = some (none, (mw f a g)) :=
  (r_rv (pg_of mt_16 dX3_step_131 rfl) mt_16 rfl)
-- 17 LeafFalls$Text.sortAt(I)I
theorem b17_0 (l1 : Int32) (l2 : ma_V) : rn xs L 17 0 [vR 25, vI l1, l2] [] (mw f a g) = if l1 < 0 then rn xs L 17 19 [vR 25, vI l1, l2] [] (mw f a g) else rn xs L 17 4 [vR 25, vI l1, l2] [] (mw f a g) :=
  (r_ild (pg_of mt_17 dX3_sortAt_0 rfl) rfl).trans <|
  (r_lt0 (pg_of mt_17 dX3_sortAt_1 rfl))
theorem b17_4 (l1 : Int32) (l2 : ma_V) : rn xs L 17 4 [vR 25, vI l1, l2] [] (mw f a g) = if l1 < (f 25 1) then rn xs L 17 12 [vR 25, vI l1, l2] [] (mw f a g) else rn xs L 17 19 [vR 25, vI l1, l2] [] (mw f a g) :=
  (r_ild (pg_of mt_17 dX3_sortAt_4 rfl) rfl).trans <|
  (r_ald (pg_of mt_17 dX3_sortAt_5 rfl) rfl).trans <|
  (r_gti (pg_of mt_17 dX3_sortAt_6 rfl) rfl).trans <|
  (r_ge (pg_of mt_17 dX3_sortAt_9 rfl))
theorem b17_12 (l1 : Int32) (l2 : ma_V) : rn xs L 17 12 [vR 25, vI l1, l2] [] (mw f a g) = if l1 < (200 : Int32) then rn xs L 17 21 [vR 25, vI l1, l2] [] (mw f a g) else rn xs L 17 19 [vR 25, vI l1, l2] [] (mw f a g) :=
  (r_ild (pg_of mt_17 dX3_sortAt_12 rfl) rfl).trans <|
  (r_con (pg_of mt_17 dX3_sortAt_13 rfl) (v2 := (200 : Int32)) (by decide)).trans <|
  (r_lt (pg_of mt_17 dX3_sortAt_16 rfl))
theorem b17_19 (l1 : Int32) (l2 : ma_V) : rn xs L 17 19 [vR 25, vI l1, l2] [] (mw f a g) = some (some (vI (0 : Int32)), (mw f a g)) :=
  (r_con (pg_of mt_17 dX3_sortAt_19 rfl) (v2 := (0 : Int32)) (by decide)).trans <|
  (r_ri (pg_of mt_17 dX3_sortAt_20 rfl) mt_17 rfl)
theorem b17_21 (l1 : Int32) (l2 : ma_V) (h1 : ma_in l1 200 = true) : rn xs L 17 21 [vR 25, vI l1, l2] [] (mw f a g) = if (a 26 l1.toNatClampNeg) < (97 : Int32) then rn xs L 17 44 [vR 25, vI l1, vI (a 26 l1.toNatClampNeg)] [] (mw f a g) else rn xs L 17 34 [vR 25, vI l1, vI (a 26 l1.toNatClampNeg)] [] (mw f a g) :=
  (r_ald (pg_of mt_17 dX3_sortAt_21 rfl) rfl).trans <|
  (r_gtr (a := 26) (pg_of mt_17 dX3_sortAt_22 rfl) rfl rfl).trans <|
  (r_ild (pg_of mt_17 dX3_sortAt_25 rfl) rfl).trans <|
  (r_bald (pg_of mt_17 dX3_sortAt_26 rfl) rfl h1).trans <|
  (r_ist (pg_of mt_17 dX3_sortAt_27 rfl) (Nat.le_of_ble_eq_true rfl) rfl).trans <|
  (r_ild (pg_of mt_17 dX3_sortAt_28 rfl) rfl).trans <|
  (r_con (pg_of mt_17 dX3_sortAt_29 rfl) (v2 := (97 : Int32)) (by decide)).trans <|
  (r_lt (pg_of mt_17 dX3_sortAt_31 rfl))
theorem b17_34 (l1 : Int32) (l2 : Int32) : rn xs L 17 34 [vR 25, vI l1, vI l2] [] (mw f a g) = if (122 : Int32) < l2 then rn xs L 17 44 [vR 25, vI l1, vI l2] [] (mw f a g) else rn xs L 17 40 [vR 25, vI l1, vI l2] [] (mw f a g) :=
  (r_ild (pg_of mt_17 dX3_sortAt_34 rfl) rfl).trans <|
  (r_con (pg_of mt_17 dX3_sortAt_35 rfl) (v2 := (122 : Int32)) (by decide)).trans <|
  (r_gt (pg_of mt_17 dX3_sortAt_37 rfl))
theorem b17_40 (l1 : Int32) (l2 : Int32) : rn xs L 17 40 [vR 25, vI l1, vI l2] [] (mw f a g) = some (some (vI (1 : Int32)), (mw f a g)) :=
  (r_con (pg_of mt_17 dX3_sortAt_40 rfl) (v2 := (1 : Int32)) (by decide)).trans <|
  (r_gto (pg_of mt_17 dX3_sortAt_41 rfl)).trans <|
  (r_ri (pg_of mt_17 dX3_sortAt_61 rfl) mt_17 rfl)
theorem b17_44 (l1 : Int32) (l2 : Int32) : rn xs L 17 44 [vR 25, vI l1, vI l2] [] (mw f a g) = if l2 < (48 : Int32) then rn xs L 17 60 [vR 25, vI l1, vI l2] [] (mw f a g) else rn xs L 17 50 [vR 25, vI l1, vI l2] [] (mw f a g) :=
  (r_ild (pg_of mt_17 dX3_sortAt_44 rfl) rfl).trans <|
  (r_con (pg_of mt_17 dX3_sortAt_45 rfl) (v2 := (48 : Int32)) (by decide)).trans <|
  (r_lt (pg_of mt_17 dX3_sortAt_47 rfl))
theorem b17_50 (l1 : Int32) (l2 : Int32) : rn xs L 17 50 [vR 25, vI l1, vI l2] [] (mw f a g) = if (57 : Int32) < l2 then rn xs L 17 60 [vR 25, vI l1, vI l2] [] (mw f a g) else rn xs L 17 56 [vR 25, vI l1, vI l2] [] (mw f a g) :=
  (r_ild (pg_of mt_17 dX3_sortAt_50 rfl) rfl).trans <|
  (r_con (pg_of mt_17 dX3_sortAt_51 rfl) (v2 := (57 : Int32)) (by decide)).trans <|
  (r_gt (pg_of mt_17 dX3_sortAt_53 rfl))
theorem b17_56 (l1 : Int32) (l2 : Int32) : rn xs L 17 56 [vR 25, vI l1, vI l2] [] (mw f a g) = some (some (vI (2 : Int32)), (mw f a g)) :=
  (r_con (pg_of mt_17 dX3_sortAt_56 rfl) (v2 := (2 : Int32)) (by decide)).trans <|
  (r_gto (pg_of mt_17 dX3_sortAt_57 rfl)).trans <|
  (r_ri (pg_of mt_17 dX3_sortAt_61 rfl) mt_17 rfl)
theorem b17_60 (l1 : Int32) (l2 : Int32) : rn xs L 17 60 [vR 25, vI l1, vI l2] [] (mw f a g) = some (some (vI (3 : Int32)), (mw f a g)) :=
  (r_con (pg_of mt_17 dX3_sortAt_60 rfl) (v2 := (3 : Int32)) (by decide)).trans <|
  (r_ri (pg_of mt_17 dX3_sortAt_61 rfl) mt_17 rfl)
-- 18 LeafFalls$Text.lawNamed()I
theorem b18_0  : rn xs L 18 0 [vR 25] [] (mw f a g) = (ev xs L 19 3 [vR 25, vS 3] (mw f a g)).bind (fun b => rn xs L 18 6 [vR 25] (b.1.toList ++ []) b.2) :=
  (r_ald (pg_of mt_18 dX3_lawNamed_0 rfl) rfl).trans <|
  (r_spc (pg_of mt_18 dX3_lawNamed_1 rfl)).trans <|
  (r_call (t := tt_18) (t2 := tt_19) (pg_of mt_18 dX3_lawNamed_3 rfl) mt_18 mt_19 rfl rfl (rcv1 rfl) rfl rfl)
theorem b18_6 (s0 : Int32) : rn xs L 18 6 [vR 25] [vI s0] (mw f a g) = if s0 = 0 then rn xs L 18 13 [vR 25] [] (mw f a g) else rn xs L 18 9 [vR 25] [] (mw f a g) :=
  (r_eq0 (pg_of mt_18 dX3_lawNamed_6 rfl))
theorem b18_9  : rn xs L 18 9 [vR 25] [] (mw f a g) = some (some (vI (0 : Int32)), (mw f a g)) :=
  (r_con (pg_of mt_18 dX3_lawNamed_9 rfl) (v2 := (0 : Int32)) (by decide)).trans <|
  (r_gto (pg_of mt_18 dX3_lawNamed_10 rfl)).trans <|
  (r_ri (pg_of mt_18 dX3_lawNamed_53 rfl) mt_18 rfl)
theorem b18_13  : rn xs L 18 13 [vR 25] [] (mw f a g) = (ev xs L 19 3 [vR 25, vS 5] (mw f a g)).bind (fun b => rn xs L 18 19 [vR 25] (b.1.toList ++ []) b.2) :=
  (r_ald (pg_of mt_18 dX3_lawNamed_13 rfl) rfl).trans <|
  (r_spc (pg_of mt_18 dX3_lawNamed_14 rfl)).trans <|
  (r_call (t := tt_18) (t2 := tt_19) (pg_of mt_18 dX3_lawNamed_16 rfl) mt_18 mt_19 rfl rfl (rcv1 rfl) rfl rfl)
theorem b18_19 (s0 : Int32) : rn xs L 18 19 [vR 25] [vI s0] (mw f a g) = if s0 = 0 then rn xs L 18 26 [vR 25] [] (mw f a g) else rn xs L 18 22 [vR 25] [] (mw f a g) :=
  (r_eq0 (pg_of mt_18 dX3_lawNamed_19 rfl))
theorem b18_22  : rn xs L 18 22 [vR 25] [] (mw f a g) = some (some (vI (1 : Int32)), (mw f a g)) :=
  (r_con (pg_of mt_18 dX3_lawNamed_22 rfl) (v2 := (1 : Int32)) (by decide)).trans <|
  (r_gto (pg_of mt_18 dX3_lawNamed_23 rfl)).trans <|
  (r_ri (pg_of mt_18 dX3_lawNamed_53 rfl) mt_18 rfl)
theorem b18_26  : rn xs L 18 26 [vR 25] [] (mw f a g) = (ev xs L 19 3 [vR 25, vS 7] (mw f a g)).bind (fun b => rn xs L 18 32 [vR 25] (b.1.toList ++ []) b.2) :=
  (r_ald (pg_of mt_18 dX3_lawNamed_26 rfl) rfl).trans <|
  (r_spc (pg_of mt_18 dX3_lawNamed_27 rfl)).trans <|
  (r_call (t := tt_18) (t2 := tt_19) (pg_of mt_18 dX3_lawNamed_29 rfl) mt_18 mt_19 rfl rfl (rcv1 rfl) rfl rfl)
theorem b18_32 (s0 : Int32) : rn xs L 18 32 [vR 25] [vI s0] (mw f a g) = if s0 = 0 then rn xs L 18 39 [vR 25] [] (mw f a g) else rn xs L 18 35 [vR 25] [] (mw f a g) :=
  (r_eq0 (pg_of mt_18 dX3_lawNamed_32 rfl))
theorem b18_35  : rn xs L 18 35 [vR 25] [] (mw f a g) = some (some (vI (2 : Int32)), (mw f a g)) :=
  (r_con (pg_of mt_18 dX3_lawNamed_35 rfl) (v2 := (2 : Int32)) (by decide)).trans <|
  (r_gto (pg_of mt_18 dX3_lawNamed_36 rfl)).trans <|
  (r_ri (pg_of mt_18 dX3_lawNamed_53 rfl) mt_18 rfl)
theorem b18_39  : rn xs L 18 39 [vR 25] [] (mw f a g) = (ev xs L 19 3 [vR 25, vS 9] (mw f a g)).bind (fun b => rn xs L 18 45 [vR 25] (b.1.toList ++ []) b.2) :=
  (r_ald (pg_of mt_18 dX3_lawNamed_39 rfl) rfl).trans <|
  (r_spc (pg_of mt_18 dX3_lawNamed_40 rfl)).trans <|
  (r_call (t := tt_18) (t2 := tt_19) (pg_of mt_18 dX3_lawNamed_42 rfl) mt_18 mt_19 rfl rfl (rcv1 rfl) rfl rfl)
theorem b18_45 (s0 : Int32) : rn xs L 18 45 [vR 25] [vI s0] (mw f a g) = if s0 = 0 then rn xs L 18 52 [vR 25] [] (mw f a g) else rn xs L 18 48 [vR 25] [] (mw f a g) :=
  (r_eq0 (pg_of mt_18 dX3_lawNamed_45 rfl))
theorem b18_48  : rn xs L 18 48 [vR 25] [] (mw f a g) = some (some (vI (3 : Int32)), (mw f a g)) :=
  (r_con (pg_of mt_18 dX3_lawNamed_48 rfl) (v2 := (3 : Int32)) (by decide)).trans <|
  (r_gto (pg_of mt_18 dX3_lawNamed_49 rfl)).trans <|
  (r_ri (pg_of mt_18 dX3_lawNamed_53 rfl) mt_18 rfl)
theorem b18_52  : rn xs L 18 52 [vR 25] [] (mw f a g) = some (some (vI (-1 : Int32)), (mw f a g)) :=
  (r_con (pg_of mt_18 dX3_lawNamed_52 rfl) (v2 := (-1 : Int32)) (by decide)).trans <|
  (r_ri (pg_of mt_18 dX3_lawNamed_53 rfl) mt_18 rfl)
-- 19 LeafFalls$Text.isName(Ljava/lang/String;)Z
theorem b19_0 (l1 : Nat) (l2 : ma_V) : rn xs L 19 0 [vR 25, vS l1, l2] [] (mw f a g) = if (f 25 2) = (1 : Int32) then rn xs L 19 8 [vR 25, vS l1, l2] [] (mw f a g) else rn xs L 19 34 [vR 25, vS l1, l2] [] (mw f a g) :=
  (r_ald (pg_of mt_19 dX3_isName_0 rfl) rfl).trans <|
  (r_gti (pg_of mt_19 dX3_isName_1 rfl) rfl).trans <|
  (r_con (pg_of mt_19 dX3_isName_4 rfl) (v2 := (1 : Int32)) (by decide)).trans <|
  (r_ne (pg_of mt_19 dX3_isName_5 rfl))
theorem b19_8 (l1 : Nat) (l2 : ma_V) (hSl1 : 3 ≤ l1 ∧ l1 < 33) (h1 : 3 ≤ l1 ∧ l1 < 33 ∧ l1 % 2 = 1) : rn xs L 19 8 [vR 25, vS l1, l2] [] (mw f a g) = (ev xs L 221 1 [vS l1] (mw f a g)).bind (fun b => rn xs L 19 21 [vR 25, vS l1, l2] (b.1.toList ++ [vI ((f 25 4) - (f 25 3))]) b.2) :=
  (r_ald (pg_of mt_19 dX3_isName_8 rfl) rfl).trans <|
  (r_gti (pg_of mt_19 dX3_isName_9 rfl) rfl).trans <|
  (r_ald (pg_of mt_19 dX3_isName_12 rfl) rfl).trans <|
  (r_gti (pg_of mt_19 dX3_isName_13 rfl) rfl).trans <|
  (r_bin (pg_of mt_19 dX3_isName_16 rfl)).trans <|
  (r_als (pg_of mt_19 dX3_isName_17 rfl) (Or.inr (hSl1).1) rfl).trans <|
  (r_call (t := tt_19) (t2 := tt_221) (pg_of mt_19 dX3_isName_18 rfl) mt_19 mt_221 rfl rfl (rcv2 h1) rfl rfl)
theorem b19_21 (l1 : Nat) (l2 : ma_V) (s0 : Int32) (s1 : Int32) : rn xs L 19 21 [vR 25, vS l1, l2] [vI s0, vI s1] (mw f a g) = if s1 = s0 then rn xs L 19 24 [vR 25, vS l1, l2] [] (mw f a g) else rn xs L 19 34 [vR 25, vS l1, l2] [] (mw f a g) :=
  (r_ne (pg_of mt_19 dX3_isName_21 rfl))
theorem b19_24 (l1 : Nat) (l2 : ma_V) : rn xs L 19 24 [vR 25, vS l1, l2] [] (mw f a g) = if (200 : Int32) < (f 25 4) then rn xs L 19 34 [vR 25, vS l1, l2] [] (mw f a g) else rn xs L 19 36 [vR 25, vS l1, l2] [] (mw f a g) :=
  (r_ald (pg_of mt_19 dX3_isName_24 rfl) rfl).trans <|
  (r_gti (pg_of mt_19 dX3_isName_25 rfl) rfl).trans <|
  (r_con (pg_of mt_19 dX3_isName_28 rfl) (v2 := (200 : Int32)) (by decide)).trans <|
  (r_le (pg_of mt_19 dX3_isName_31 rfl))
theorem b19_34 (l1 : Nat) (l2 : ma_V) : rn xs L 19 34 [vR 25, vS l1, l2] [] (mw f a g) = some (some (vI (0 : Int32)), (mw f a g)) :=
  (r_con (pg_of mt_19 dX3_isName_34 rfl) (v2 := (0 : Int32)) (by decide)).trans <|
  (r_rz (pg_of mt_19 dX3_isName_35 rfl) mt_19 rfl (Or.inl rfl))
theorem b19_36 (l1 : Nat) (l2 : ma_V) : rn xs L 19 36 [vR 25, vS l1, l2] [] (mw f a g) = rn xs L 19 38 [vR 25, vS l1, vI (0 : Int32)] [] (mw f a g) :=
  (r_con (pg_of mt_19 dX3_isName_36 rfl) (v2 := (0 : Int32)) (by decide)).trans <|
  (r_ist (pg_of mt_19 dX3_isName_37 rfl) (Nat.le_of_ble_eq_true rfl) rfl)
theorem b19_38 (l1 : Nat) (l2 : Int32) (hSl1 : 3 ≤ l1 ∧ l1 < 33) (h1 : 3 ≤ l1 ∧ l1 < 33 ∧ l1 % 2 = 1) : rn xs L 19 38 [vR 25, vS l1, vI l2] [] (mw f a g) = (ev xs L 221 1 [vS l1] (mw f a g)).bind (fun b => rn xs L 19 43 [vR 25, vS l1, vI l2] (b.1.toList ++ [vI l2]) b.2) :=
  (r_ild (pg_of mt_19 dX3_isName_38 rfl) rfl).trans <|
  (r_als (pg_of mt_19 dX3_isName_39 rfl) (Or.inr (hSl1).1) rfl).trans <|
  (r_call (t := tt_19) (t2 := tt_221) (pg_of mt_19 dX3_isName_40 rfl) mt_19 mt_221 rfl rfl (rcv2 h1) rfl rfl)
theorem b19_43 (l1 : Nat) (l2 : Int32) (s0 : Int32) (s1 : Int32) : rn xs L 19 43 [vR 25, vS l1, vI l2] [vI s0, vI s1] (mw f a g) = if s1 < s0 then rn xs L 19 46 [vR 25, vS l1, vI l2] [] (mw f a g) else rn xs L 19 73 [vR 25, vS l1, vI l2] [] (mw f a g) :=
  (r_ge (pg_of mt_19 dX3_isName_43 rfl))
theorem b19_46 (l1 : Nat) (l2 : Int32) (h1 : ma_in (((f 25 3) + l2)) 200 = true) (hSl1 : 3 ≤ l1 ∧ l1 < 33) (h2 : 3 ≤ l1 ∧ l1 < 33 ∧ l1 % 2 = 1) : rn xs L 19 46 [vR 25, vS l1, vI l2] [] (mw f a g) = (ev xs L 223 2 [vS l1, vI l2] (mw f a g)).bind (fun b => rn xs L 19 62 [vR 25, vS l1, vI l2] (b.1.toList ++ [vI (a 26 (((f 25 3) + l2)).toNatClampNeg)]) b.2) :=
  (r_ald (pg_of mt_19 dX3_isName_46 rfl) rfl).trans <|
  (r_gtr (a := 26) (pg_of mt_19 dX3_isName_47 rfl) rfl rfl).trans <|
  (r_ald (pg_of mt_19 dX3_isName_50 rfl) rfl).trans <|
  (r_gti (pg_of mt_19 dX3_isName_51 rfl) rfl).trans <|
  (r_ild (pg_of mt_19 dX3_isName_54 rfl) rfl).trans <|
  (r_bin (pg_of mt_19 dX3_isName_55 rfl)).trans <|
  (r_bald (pg_of mt_19 dX3_isName_56 rfl) rfl h1).trans <|
  (r_als (pg_of mt_19 dX3_isName_57 rfl) (Or.inr (hSl1).1) rfl).trans <|
  (r_ild (pg_of mt_19 dX3_isName_58 rfl) rfl).trans <|
  (r_call (t := tt_19) (t2 := tt_223) (pg_of mt_19 dX3_isName_59 rfl) mt_19 mt_223 rfl rfl (rcv2 h2) rfl rfl)
theorem b19_62 (l1 : Nat) (l2 : Int32) (s0 : Int32) (s1 : Int32) : rn xs L 19 62 [vR 25, vS l1, vI l2] [vI s0, vI s1] (mw f a g) = if s1 = s0 then rn xs L 19 67 [vR 25, vS l1, vI l2] [] (mw f a g) else rn xs L 19 65 [vR 25, vS l1, vI l2] [] (mw f a g) :=
  (r_eq (pg_of mt_19 dX3_isName_62 rfl))
theorem b19_65 (l1 : Nat) (l2 : Int32) : rn xs L 19 65 [vR 25, vS l1, vI l2] [] (mw f a g) = some (some (vI (0 : Int32)), (mw f a g)) :=
  (r_con (pg_of mt_19 dX3_isName_65 rfl) (v2 := (0 : Int32)) (by decide)).trans <|
  (r_rz (pg_of mt_19 dX3_isName_66 rfl) mt_19 rfl (Or.inl rfl))
theorem b19_67 (l1 : Nat) (l2 : Int32) : rn xs L 19 67 [vR 25, vS l1, vI l2] [] (mw f a g) = rn xs L 19 38 [vR 25, vS l1, vI (l2 + (1 : Int32))] [] (mw f a g) :=
  (r_inc (pg_of mt_19 dX3_isName_67 rfl) (y := (1 : Int32)) (by decide) rfl rfl).trans <|
  (r_gto (pg_of mt_19 dX3_isName_70 rfl))
theorem b19_73 (l1 : Nat) (l2 : Int32) : rn xs L 19 73 [vR 25, vS l1, vI l2] [] (mw f a g) = some (some (vI (1 : Int32)), (mw f a g)) :=
  (r_con (pg_of mt_19 dX3_isName_73 rfl) (v2 := (1 : Int32)) (by decide)).trans <|
  (r_rz (pg_of mt_19 dX3_isName_74 rfl) mt_19 rfl (Or.inr rfl))
-- 20 LeafFalls$Text.kindNamed()I
theorem b20_0 (l1 : ma_V) : rn xs L 20 0 [vR 25, l1] [] (mw f a g) = rn xs L 20 2 [vR 25, vI (0 : Int32)] [] (mw f a g) :=
  (r_con (pg_of mt_20 dX3_kindNamed_0 rfl) (v2 := (0 : Int32)) (by decide)).trans <|
  (r_ist (pg_of mt_20 dX3_kindNamed_1 rfl) (Nat.le_of_ble_eq_true rfl) rfl)
theorem b20_2 (l1 : Int32) : rn xs L 20 2 [vR 25, vI l1] [] (mw f a g) = if l1 < (6 : Int32) then rn xs L 20 8 [vR 25, vI l1] [] (mw f a g) else rn xs L 20 27 [vR 25, vI l1] [] (mw f a g) :=
  (r_ild (pg_of mt_20 dX3_kindNamed_2 rfl) rfl).trans <|
  (r_con (pg_of mt_20 dX3_kindNamed_3 rfl) (v2 := (6 : Int32)) (by decide)).trans <|
  (r_ge (pg_of mt_20 dX3_kindNamed_5 rfl))
theorem b20_8 (l1 : Int32) : rn xs L 20 8 [vR 25, vI l1] [] (mw f a g) = (ev xs L 21 1 [vI l1] (mw f a g)).bind (fun b => rn xs L 20 13 [vR 25, vI l1] (b.1.toList ++ [vR 25]) b.2) :=
  (r_ald (pg_of mt_20 dX3_kindNamed_8 rfl) rfl).trans <|
  (r_ild (pg_of mt_20 dX3_kindNamed_9 rfl) rfl).trans <|
  (r_call (t := tt_20) (t2 := tt_21) (pg_of mt_20 dX3_kindNamed_10 rfl) mt_20 mt_21 rfl rfl rfl rfl rfl)
theorem b20_13 (l1 : Int32) (s0 : Nat) : rn xs L 20 13 [vR 25, vI l1] [vS s0, vR 25] (mw f a g) = (ev xs L 19 3 [vR 25, vS s0] (mw f a g)).bind (fun b => rn xs L 20 16 [vR 25, vI l1] (b.1.toList ++ []) b.2) :=
  (r_call (t := tt_20) (t2 := tt_19) (pg_of mt_20 dX3_kindNamed_13 rfl) mt_20 mt_19 rfl rfl (rcv1 rfl) rfl rfl)
theorem b20_16 (l1 : Int32) (s0 : Int32) : rn xs L 20 16 [vR 25, vI l1] [vI s0] (mw f a g) = if s0 = 0 then rn xs L 20 21 [vR 25, vI l1] [] (mw f a g) else rn xs L 20 19 [vR 25, vI l1] [] (mw f a g) :=
  (r_eq0 (pg_of mt_20 dX3_kindNamed_16 rfl))
theorem b20_19 (l1 : Int32) : rn xs L 20 19 [vR 25, vI l1] [] (mw f a g) = some (some (vI l1), (mw f a g)) :=
  (r_ild (pg_of mt_20 dX3_kindNamed_19 rfl) rfl).trans <|
  (r_ri (pg_of mt_20 dX3_kindNamed_20 rfl) mt_20 rfl)
theorem b20_21 (l1 : Int32) : rn xs L 20 21 [vR 25, vI l1] [] (mw f a g) = rn xs L 20 2 [vR 25, vI (l1 + (1 : Int32))] [] (mw f a g) :=
  (r_inc (pg_of mt_20 dX3_kindNamed_21 rfl) (y := (1 : Int32)) (by decide) rfl rfl).trans <|
  (r_gto (pg_of mt_20 dX3_kindNamed_24 rfl))
theorem b20_27 (l1 : Int32) : rn xs L 20 27 [vR 25, vI l1] [] (mw f a g) = some (some (vI (-1 : Int32)), (mw f a g)) :=
  (r_con (pg_of mt_20 dX3_kindNamed_27 rfl) (v2 := (-1 : Int32)) (by decide)).trans <|
  (r_ri (pg_of mt_20 dX3_kindNamed_28 rfl) mt_20 rfl)
-- 21 LeafFalls$Text.kindName(I)Ljava/lang/String;
theorem sw21_1 {ls st : List ma_V} {w : ma_W} {x : Int32} : rn xs L 21 1 ls (vI x :: st) w = if x = 1 then rn xs L 21 36 ls st w else if x = 2 then rn xs L 21 39 ls st w else if x = 3 then rn xs L 21 42 ls st w else if x = 4 then rn xs L 21 45 ls st w else if x = 5 then rn xs L 21 48 ls st w else rn xs L 21 51 ls st w := by
  by_cases h0 : x = 1
  · rw [if_pos h0, h0]; exact r_swi (t := 36) (pg_of mt_21 dX3_kindName_1 rfl) (by decide)
  rw [if_neg h0]
  by_cases h1 : x = 2
  · rw [if_pos h1, h1]; exact r_swi (t := 39) (pg_of mt_21 dX3_kindName_1 rfl) (by decide)
  rw [if_neg h1]
  by_cases h2 : x = 3
  · rw [if_pos h2, h2]; exact r_swi (t := 42) (pg_of mt_21 dX3_kindName_1 rfl) (by decide)
  rw [if_neg h2]
  by_cases h3 : x = 4
  · rw [if_pos h3, h3]; exact r_swi (t := 45) (pg_of mt_21 dX3_kindName_1 rfl) (by decide)
  rw [if_neg h3]
  by_cases h4 : x = 5
  · rw [if_pos h4, h4]; exact r_swi (t := 48) (pg_of mt_21 dX3_kindName_1 rfl) (by decide)
  rw [if_neg h4]
  have e0 := i_nei (k := 1) (1 : Int32) (by decide) h0
  have e1 := i_nei (k := 2) (2 : Int32) (by decide) h1
  have e2 := i_nei (k := 3) (3 : Int32) (by decide) h2
  have e3 := i_nei (k := 4) (4 : Int32) (by decide) h3
  have e4 := i_nei (k := 5) (5 : Int32) (by decide) h4
  exact r_swi (t := 51) (pg_of mt_21 dX3_kindName_1 rfl) (tsw_out (by omega) (by decide) (by decide))
theorem b21_0 (l0 : Int32) : rn xs L 21 0 [vI l0] [] (mw f a g) = if l0 = 1 then rn xs L 21 36 [vI l0] [] (mw f a g) else if l0 = 2 then rn xs L 21 39 [vI l0] [] (mw f a g) else if l0 = 3 then rn xs L 21 42 [vI l0] [] (mw f a g) else if l0 = 4 then rn xs L 21 45 [vI l0] [] (mw f a g) else if l0 = 5 then rn xs L 21 48 [vI l0] [] (mw f a g) else rn xs L 21 51 [vI l0] [] (mw f a g) :=
  (r_ild (pg_of mt_21 dX3_kindName_0 rfl) rfl).trans <|
  (sw21_1)
theorem b21_36 (l0 : Int32) : rn xs L 21 36 [vI l0] [] (mw f a g) = some (some (vS 11), (mw f a g)) :=
  (r_spc (pg_of mt_21 dX3_kindName_36 rfl)).trans <|
  (r_rs (pg_of mt_21 dX3_kindName_38 rfl) mt_21 rfl (by decide))
theorem b21_39 (l0 : Int32) : rn xs L 21 39 [vI l0] [] (mw f a g) = some (some (vS 13), (mw f a g)) :=
  (r_spc (pg_of mt_21 dX3_kindName_39 rfl)).trans <|
  (r_rs (pg_of mt_21 dX3_kindName_41 rfl) mt_21 rfl (by decide))
theorem b21_42 (l0 : Int32) : rn xs L 21 42 [vI l0] [] (mw f a g) = some (some (vS 15), (mw f a g)) :=
  (r_spc (pg_of mt_21 dX3_kindName_42 rfl)).trans <|
  (r_rs (pg_of mt_21 dX3_kindName_44 rfl) mt_21 rfl (by decide))
theorem b21_45 (l0 : Int32) : rn xs L 21 45 [vI l0] [] (mw f a g) = some (some (vS 17), (mw f a g)) :=
  (r_spc (pg_of mt_21 dX3_kindName_45 rfl)).trans <|
  (r_rs (pg_of mt_21 dX3_kindName_47 rfl) mt_21 rfl (by decide))
theorem b21_48 (l0 : Int32) : rn xs L 21 48 [vI l0] [] (mw f a g) = some (some (vS 19), (mw f a g)) :=
  (r_spc (pg_of mt_21 dX3_kindName_48 rfl)).trans <|
  (r_rs (pg_of mt_21 dX3_kindName_50 rfl) mt_21 rfl (by decide))
theorem b21_51 (l0 : Int32) : rn xs L 21 51 [vI l0] [] (mw f a g) = some (some (vS 21), (mw f a g)) :=
  (r_spc (pg_of mt_21 dX3_kindName_51 rfl)).trans <|
  (r_rs (pg_of mt_21 dX3_kindName_53 rfl) mt_21 rfl (by decide))
-- 22 LeafFalls$Text.readLaw(LLeafFalls$Tree;I)V
theorem b22_0 (l1 : Nat) (l2 : Int32) (l3 : ma_V) (hl1 : is_tr l1) : rn xs L 22 0 [vR 25, vR l1, vI l2, l3] [] (mw f a g) = (ev xs L 16 1 [vR 25] (mw f a g)).bind (fun b => rn xs L 22 4 [vR 25, vR l1, vI l2, l3] (b.1.toList ++ []) b.2) :=
  (r_ald (pg_of mt_22 dX3_readLaw_0 rfl) rfl).trans <|
  (r_call (t := tt_22) (t2 := tt_16) (pg_of mt_22 dX3_readLaw_1 rfl) mt_22 mt_16 rfl rfl (rcv1 rfl) rfl rfl)
theorem b22_4 (l1 : Nat) (l2 : Int32) (l3 : ma_V) (hl1 : is_tr l1) : rn xs L 22 4 [vR 25, vR l1, vI l2, l3] [] (mw f a g) = (ev xs L 58 1 [vI l2] (mw f a g)).bind (fun b => rn xs L 22 9 [vR 25, vR l1, vI l2, l3] (b.1.toList ++ [vR 25]) b.2) :=
  (r_ald (pg_of mt_22 dX3_readLaw_4 rfl) rfl).trans <|
  (r_ild (pg_of mt_22 dX3_readLaw_5 rfl) rfl).trans <|
  (r_call (t := tt_22) (t2 := tt_58) (pg_of mt_22 dX3_readLaw_6 rfl) mt_22 mt_58 rfl rfl rfl rfl rfl)
theorem b22_9 (l1 : Nat) (l2 : Int32) (l3 : ma_V) (s0 : Int32) (hl1 : is_tr l1) : rn xs L 22 9 [vR 25, vR l1, vI l2, l3] [vI s0, vR 25] (mw f a g) = (ev xs L 23 3 [vR 25, vI s0] (mw f a g)).bind (fun b => rn xs L 22 12 [vR 25, vR l1, vI l2, l3] (b.1.toList ++ []) b.2) :=
  (r_call (t := tt_22) (t2 := tt_23) (pg_of mt_22 dX3_readLaw_9 rfl) mt_22 mt_23 rfl rfl (rcv1 rfl) rfl rfl)
theorem b22_12 (l1 : Nat) (l2 : Int32) (l3 : ma_V) (s0 : Int32) (hl1 : is_tr l1) : rn xs L 22 12 [vR 25, vR l1, vI l2, l3] [vI s0] (mw f a g) = if s0 < 0 then rn xs L 22 31 [vR 25, vR l1, vI l2, vI s0] [] (mw f a g) else rn xs L 22 17 [vR 25, vR l1, vI l2, vI s0] [] (mw f a g) :=
  (r_ist (pg_of mt_22 dX3_readLaw_12 rfl) (Nat.le_of_ble_eq_true rfl) rfl).trans <|
  (r_ild (pg_of mt_22 dX3_readLaw_13 rfl) rfl).trans <|
  (r_lt0 (pg_of mt_22 dX3_readLaw_14 rfl))
theorem b22_17 (l1 : Nat) (l2 : Int32) (l3 : Int32) (hl1 : is_tr l1) : rn xs L 22 17 [vR 25, vR l1, vI l2, vI l3] [] (mw f a g) = (ev xs L 25 2 [vR 25] (mw f a g)).bind (fun b => rn xs L 22 21 [vR 25, vR l1, vI l2, vI l3] (b.1.toList ++ []) b.2) :=
  (r_ald (pg_of mt_22 dX3_readLaw_17 rfl) rfl).trans <|
  (r_call (t := tt_22) (t2 := tt_25) (pg_of mt_22 dX3_readLaw_18 rfl) mt_22 mt_25 rfl rfl (rcv1 rfl) rfl rfl)
theorem b22_21 (l1 : Nat) (l2 : Int32) (l3 : Int32) (s0 : Int32) (hl1 : is_tr l1) : rn xs L 22 21 [vR 25, vR l1, vI l2, vI l3] [vI s0] (mw f a g) = if s0 = 0 then rn xs L 22 31 [vR 25, vR l1, vI l2, vI l3] [] (mw f a g) else rn xs L 22 24 [vR 25, vR l1, vI l2, vI l3] [] (mw f a g) :=
  (r_eq0 (pg_of mt_22 dX3_readLaw_21 rfl))
theorem b22_24 (l1 : Nat) (l2 : Int32) (l3 : Int32) (hl1 : is_tr l1) (h1 : ma_in l2 4 = true) : rn xs L 22 24 [vR 25, vR l1, vI l2, vI l3] [] (mw f a g) = some (none, (mw f ((ma_u2 a ((l1 + 1)) l2.toNatClampNeg l3)) g)) :=
  (r_ald (pg_of mt_22 dX3_readLaw_24 rfl) rfl).trans <|
  (r_gtr (a := (l1 + 1)) (pg_of mt_22 dX3_readLaw_25 rfl) (mw_tr hl1) (mw_tf hl1 (by decide))).trans <|
  (r_ild (pg_of mt_22 dX3_readLaw_28 rfl) rfl).trans <|
  (r_ild (pg_of mt_22 dX3_readLaw_29 rfl) rfl).trans <|
  (r_iast (pg_of mt_22 dX3_readLaw_30 rfl) (mw_tr0 hl1) h1).trans <|
  (r_rv (pg_of mt_22 dX3_readLaw_31 rfl) mt_22 rfl)
theorem b22_31 (l1 : Nat) (l2 : Int32) (l3 : Int32) (hl1 : is_tr l1) : rn xs L 22 31 [vR 25, vR l1, vI l2, vI l3] [] (mw f a g) = some (none, (mw f a g)) :=
  (r_rv (pg_of mt_22 dX3_readLaw_31 rfl) mt_22 rfl)
-- 23 LeafFalls$Text.number(I)I
theorem b23_0 (l1 : Int32) (l2 : ma_V) : rn xs L 23 0 [vR 25, vI l1, l2] [] (mw f a g) = if (f 25 2) = (2 : Int32) then rn xs L 23 8 [vR 25, vI l1, l2] [] (mw f a g) else rn xs L 23 28 [vR 25, vI l1, l2] [] (mw f a g) :=
  (r_ald (pg_of mt_23 dX3_number_0 rfl) rfl).trans <|
  (r_gti (pg_of mt_23 dX3_number_1 rfl) rfl).trans <|
  (r_con (pg_of mt_23 dX3_number_4 rfl) (v2 := (2 : Int32)) (by decide)).trans <|
  (r_ne (pg_of mt_23 dX3_number_5 rfl))
theorem b23_8 (l1 : Int32) (l2 : ma_V) : rn xs L 23 8 [vR 25, vI l1, l2] [] (mw f a g) = if (3 : Int32) < ((f 25 4) - (f 25 3)) then rn xs L 23 28 [vR 25, vI l1, l2] [] (mw f a g) else rn xs L 23 21 [vR 25, vI l1, l2] [] (mw f a g) :=
  (r_ald (pg_of mt_23 dX3_number_8 rfl) rfl).trans <|
  (r_gti (pg_of mt_23 dX3_number_9 rfl) rfl).trans <|
  (r_ald (pg_of mt_23 dX3_number_12 rfl) rfl).trans <|
  (r_gti (pg_of mt_23 dX3_number_13 rfl) rfl).trans <|
  (r_bin (pg_of mt_23 dX3_number_16 rfl)).trans <|
  (r_con (pg_of mt_23 dX3_number_17 rfl) (v2 := (3 : Int32)) (by decide)).trans <|
  (r_gt (pg_of mt_23 dX3_number_18 rfl))
theorem b23_21 (l1 : Int32) (l2 : ma_V) : rn xs L 23 21 [vR 25, vI l1, l2] [] (mw f a g) = (ev xs L 24 3 [vR 25] (mw f a g)).bind (fun b => rn xs L 23 25 [vR 25, vI l1, l2] (b.1.toList ++ []) b.2) :=
  (r_ald (pg_of mt_23 dX3_number_21 rfl) rfl).trans <|
  (r_call (t := tt_23) (t2 := tt_24) (pg_of mt_23 dX3_number_22 rfl) mt_23 mt_24 rfl rfl (rcv1 rfl) rfl rfl)
theorem b23_25 (l1 : Int32) (l2 : ma_V) (s0 : Int32) : rn xs L 23 25 [vR 25, vI l1, l2] [vI s0] (mw f a g) = if l1 < s0 then rn xs L 23 37 [vR 25, vI l1, vI s0] [] (mw f a g) else rn xs L 23 47 [vR 25, vI l1, vI s0] [] (mw f a g) :=
  (r_gto (pg_of mt_23 dX3_number_25 rfl)).trans <|
  (r_ist (pg_of mt_23 dX3_number_31 rfl) (Nat.le_of_ble_eq_true rfl) rfl).trans <|
  (r_ild (pg_of mt_23 dX3_number_32 rfl) rfl).trans <|
  (r_ild (pg_of mt_23 dX3_number_33 rfl) rfl).trans <|
  (r_le (pg_of mt_23 dX3_number_34 rfl))
theorem b23_28 (l1 : Int32) (l2 : ma_V) : rn xs L 23 28 [vR 25, vI l1, l2] [] (mw f a g) = if l1 < (l1 + (1 : Int32)) then rn xs L 23 37 [vR 25, vI l1, vI (l1 + (1 : Int32))] [] (mw f a g) else rn xs L 23 47 [vR 25, vI l1, vI (l1 + (1 : Int32))] [] (mw f a g) :=
  (r_ild (pg_of mt_23 dX3_number_28 rfl) rfl).trans <|
  (r_con (pg_of mt_23 dX3_number_29 rfl) (v2 := (1 : Int32)) (by decide)).trans <|
  (r_bin (pg_of mt_23 dX3_number_30 rfl)).trans <|
  (r_ist (pg_of mt_23 dX3_number_31 rfl) (Nat.le_of_ble_eq_true rfl) rfl).trans <|
  (r_ild (pg_of mt_23 dX3_number_32 rfl) rfl).trans <|
  (r_ild (pg_of mt_23 dX3_number_33 rfl) rfl).trans <|
  (r_le (pg_of mt_23 dX3_number_34 rfl))
theorem b23_37 (l1 : Int32) (l2 : Int32) : rn xs L 23 37 [vR 25, vI l1, vI l2] [] (mw f a g) = some (some (vI (-1 : Int32)), (mw ((ma_u2 f 25 5 ((f 25 3)))) a g)) :=
  (r_ald (pg_of mt_23 dX3_number_37 rfl) rfl).trans <|
  (r_ald (pg_of mt_23 dX3_number_38 rfl) rfl).trans <|
  (r_gti (pg_of mt_23 dX3_number_39 rfl) rfl).trans <|
  (r_pti (pg_of mt_23 dX3_number_42 rfl) rfl rfl).trans <|
  (r_con (pg_of mt_23 dX3_number_45 rfl) (v2 := (-1 : Int32)) (by decide)).trans <|
  (r_ri (pg_of mt_23 dX3_number_46 rfl) mt_23 rfl)
theorem b23_47 (l1 : Int32) (l2 : Int32) : rn xs L 23 47 [vR 25, vI l1, vI l2] [] (mw f a g) = (ev xs L 16 1 [vR 25] (mw f a g)).bind (fun b => rn xs L 23 51 [vR 25, vI l1, vI l2] (b.1.toList ++ []) b.2) :=
  (r_ald (pg_of mt_23 dX3_number_47 rfl) rfl).trans <|
  (r_call (t := tt_23) (t2 := tt_16) (pg_of mt_23 dX3_number_48 rfl) mt_23 mt_16 rfl rfl (rcv1 rfl) rfl rfl)
theorem b23_51 (l1 : Int32) (l2 : Int32) : rn xs L 23 51 [vR 25, vI l1, vI l2] [] (mw f a g) = some (some (vI l2), (mw f a g)) :=
  (r_ild (pg_of mt_23 dX3_number_51 rfl) rfl).trans <|
  (r_ri (pg_of mt_23 dX3_number_52 rfl) mt_23 rfl)
-- 24 LeafFalls$Text.value()I
theorem b24_0 (l1 : ma_V) (l2 : ma_V) : rn xs L 24 0 [vR 25, l1, l2] [] (mw f a g) = rn xs L 24 7 [vR 25, vI (0 : Int32), vI (f 25 3)] [] (mw f a g) :=
  (r_con (pg_of mt_24 dX3_value_0 rfl) (v2 := (0 : Int32)) (by decide)).trans <|
  (r_ist (pg_of mt_24 dX3_value_1 rfl) (Nat.le_of_ble_eq_true rfl) rfl).trans <|
  (r_ald (pg_of mt_24 dX3_value_2 rfl) rfl).trans <|
  (r_gti (pg_of mt_24 dX3_value_3 rfl) rfl).trans <|
  (r_ist (pg_of mt_24 dX3_value_6 rfl) (Nat.le_of_ble_eq_true rfl) rfl)
theorem b24_7 (l1 : Int32) (l2 : Int32) : rn xs L 24 7 [vR 25, vI l1, vI l2] [] (mw f a g) = if l2 < (f 25 4) then rn xs L 24 15 [vR 25, vI l1, vI l2] [] (mw f a g) else rn xs L 24 43 [vR 25, vI l1, vI l2] [] (mw f a g) :=
  (r_ild (pg_of mt_24 dX3_value_7 rfl) rfl).trans <|
  (r_ald (pg_of mt_24 dX3_value_8 rfl) rfl).trans <|
  (r_gti (pg_of mt_24 dX3_value_9 rfl) rfl).trans <|
  (r_ge (pg_of mt_24 dX3_value_12 rfl))
theorem b24_15 (l1 : Int32) (l2 : Int32) : rn xs L 24 15 [vR 25, vI l1, vI l2] [] (mw f a g) = if l2 < (200 : Int32) then rn xs L 24 22 [vR 25, vI l1, vI l2] [] (mw f a g) else rn xs L 24 43 [vR 25, vI l1, vI l2] [] (mw f a g) :=
  (r_ild (pg_of mt_24 dX3_value_15 rfl) rfl).trans <|
  (r_con (pg_of mt_24 dX3_value_16 rfl) (v2 := (200 : Int32)) (by decide)).trans <|
  (r_ge (pg_of mt_24 dX3_value_19 rfl))
theorem b24_22 (l1 : Int32) (l2 : Int32) (h1 : ma_in l2 200 = true) : rn xs L 24 22 [vR 25, vI l1, vI l2] [] (mw f a g) = rn xs L 24 7 [vR 25, vI (((l1 * (10 : Int32)) + (a 26 l2.toNatClampNeg)) - (48 : Int32)), vI (l2 + (1 : Int32))] [] (mw f a g) :=
  (r_ild (pg_of mt_24 dX3_value_22 rfl) rfl).trans <|
  (r_con (pg_of mt_24 dX3_value_23 rfl) (v2 := (10 : Int32)) (by decide)).trans <|
  (r_bin (pg_of mt_24 dX3_value_25 rfl)).trans <|
  (r_ald (pg_of mt_24 dX3_value_26 rfl) rfl).trans <|
  (r_gtr (a := 26) (pg_of mt_24 dX3_value_27 rfl) rfl rfl).trans <|
  (r_ild (pg_of mt_24 dX3_value_30 rfl) rfl).trans <|
  (r_bald (pg_of mt_24 dX3_value_31 rfl) rfl h1).trans <|
  (r_bin (pg_of mt_24 dX3_value_32 rfl)).trans <|
  (r_con (pg_of mt_24 dX3_value_33 rfl) (v2 := (48 : Int32)) (by decide)).trans <|
  (r_bin (pg_of mt_24 dX3_value_35 rfl)).trans <|
  (r_ist (pg_of mt_24 dX3_value_36 rfl) (Nat.le_of_ble_eq_true rfl) rfl).trans <|
  (r_inc (pg_of mt_24 dX3_value_37 rfl) (y := (1 : Int32)) (by decide) rfl rfl).trans <|
  (r_gto (pg_of mt_24 dX3_value_40 rfl))
theorem b24_43 (l1 : Int32) (l2 : Int32) : rn xs L 24 43 [vR 25, vI l1, vI l2] [] (mw f a g) = some (some (vI l1), (mw f a g)) :=
  (r_ild (pg_of mt_24 dX3_value_43 rfl) rfl).trans <|
  (r_ri (pg_of mt_24 dX3_value_44 rfl) mt_24 rfl)
-- 25 LeafFalls$Text.passSemicolon()Z
theorem b25_0 (l1 : ma_V) : rn xs L 25 0 [vR 25, l1] [] (mw f a g) = if (f 25 2) = (3 : Int32) then rn xs L 25 8 [vR 25, l1] [] (mw f a g) else rn xs L 25 36 [vR 25, l1] [] (mw f a g) :=
  (r_ald (pg_of mt_25 dX3_passSemicolon_0 rfl) rfl).trans <|
  (r_gti (pg_of mt_25 dX3_passSemicolon_1 rfl) rfl).trans <|
  (r_con (pg_of mt_25 dX3_passSemicolon_4 rfl) (v2 := (3 : Int32)) (by decide)).trans <|
  (r_ne (pg_of mt_25 dX3_passSemicolon_5 rfl))
theorem b25_8 (l1 : ma_V) : rn xs L 25 8 [vR 25, l1] [] (mw f a g) = if (f 25 3) < (200 : Int32) then rn xs L 25 18 [vR 25, l1] [] (mw f a g) else rn xs L 25 36 [vR 25, l1] [] (mw f a g) :=
  (r_ald (pg_of mt_25 dX3_passSemicolon_8 rfl) rfl).trans <|
  (r_gti (pg_of mt_25 dX3_passSemicolon_9 rfl) rfl).trans <|
  (r_con (pg_of mt_25 dX3_passSemicolon_12 rfl) (v2 := (200 : Int32)) (by decide)).trans <|
  (r_ge (pg_of mt_25 dX3_passSemicolon_15 rfl))
theorem b25_18 (l1 : ma_V) (h1 : ma_in ((f 25 3)) 200 = true) : rn xs L 25 18 [vR 25, l1] [] (mw f a g) = if (a 26 ((f 25 3)).toNatClampNeg) = (59 : Int32) then rn xs L 25 32 [vR 25, l1] [] (mw f a g) else rn xs L 25 36 [vR 25, l1] [] (mw f a g) :=
  (r_ald (pg_of mt_25 dX3_passSemicolon_18 rfl) rfl).trans <|
  (r_gtr (a := 26) (pg_of mt_25 dX3_passSemicolon_19 rfl) rfl rfl).trans <|
  (r_ald (pg_of mt_25 dX3_passSemicolon_22 rfl) rfl).trans <|
  (r_gti (pg_of mt_25 dX3_passSemicolon_23 rfl) rfl).trans <|
  (r_bald (pg_of mt_25 dX3_passSemicolon_26 rfl) rfl h1).trans <|
  (r_con (pg_of mt_25 dX3_passSemicolon_27 rfl) (v2 := (59 : Int32)) (by decide)).trans <|
  (r_ne (pg_of mt_25 dX3_passSemicolon_29 rfl))
theorem b25_32 (l1 : ma_V) : rn xs L 25 32 [vR 25, l1] [] (mw f a g) = if (1 : Int32) = 0 then rn xs L 25 49 [vR 25, vI (1 : Int32)] [] (mw f a g) else rn xs L 25 42 [vR 25, vI (1 : Int32)] [] (mw f a g) :=
  (r_con (pg_of mt_25 dX3_passSemicolon_32 rfl) (v2 := (1 : Int32)) (by decide)).trans <|
  (r_gto (pg_of mt_25 dX3_passSemicolon_33 rfl)).trans <|
  (r_ist (pg_of mt_25 dX3_passSemicolon_37 rfl) (Nat.le_of_ble_eq_true rfl) rfl).trans <|
  (r_ild (pg_of mt_25 dX3_passSemicolon_38 rfl) rfl).trans <|
  (r_eq0 (pg_of mt_25 dX3_passSemicolon_39 rfl))
theorem b25_36 (l1 : ma_V) : rn xs L 25 36 [vR 25, l1] [] (mw f a g) = if (0 : Int32) = 0 then rn xs L 25 49 [vR 25, vI (0 : Int32)] [] (mw f a g) else rn xs L 25 42 [vR 25, vI (0 : Int32)] [] (mw f a g) :=
  (r_con (pg_of mt_25 dX3_passSemicolon_36 rfl) (v2 := (0 : Int32)) (by decide)).trans <|
  (r_ist (pg_of mt_25 dX3_passSemicolon_37 rfl) (Nat.le_of_ble_eq_true rfl) rfl).trans <|
  (r_ild (pg_of mt_25 dX3_passSemicolon_38 rfl) rfl).trans <|
  (r_eq0 (pg_of mt_25 dX3_passSemicolon_39 rfl))
theorem b25_42 (l1 : Int32) : rn xs L 25 42 [vR 25, vI l1] [] (mw f a g) = (ev xs L 16 1 [vR 25] (mw f a g)).bind (fun b => rn xs L 25 46 [vR 25, vI l1] (b.1.toList ++ []) b.2) :=
  (r_ald (pg_of mt_25 dX3_passSemicolon_42 rfl) rfl).trans <|
  (r_call (t := tt_25) (t2 := tt_16) (pg_of mt_25 dX3_passSemicolon_43 rfl) mt_25 mt_16 rfl rfl (rcv1 rfl) rfl rfl)
theorem b25_46 (l1 : Int32) (h1 : l1 = 0 ∨ l1 = 1) : rn xs L 25 46 [vR 25, vI l1] [] (mw f a g) = some (some (vI l1), (mw f a g)) :=
  (r_gto (pg_of mt_25 dX3_passSemicolon_46 rfl)).trans <|
  (r_ild (pg_of mt_25 dX3_passSemicolon_57 rfl) rfl).trans <|
  (r_rz (pg_of mt_25 dX3_passSemicolon_58 rfl) mt_25 rfl h1)
theorem b25_49 (l1 : Int32) (h1 : l1 = 0 ∨ l1 = 1) : rn xs L 25 49 [vR 25, vI l1] [] (mw f a g) = some (some (vI l1), (mw ((ma_u2 f 25 5 ((f 25 3)))) a g)) :=
  (r_ald (pg_of mt_25 dX3_passSemicolon_49 rfl) rfl).trans <|
  (r_ald (pg_of mt_25 dX3_passSemicolon_50 rfl) rfl).trans <|
  (r_gti (pg_of mt_25 dX3_passSemicolon_51 rfl) rfl).trans <|
  (r_pti (pg_of mt_25 dX3_passSemicolon_54 rfl) rfl rfl).trans <|
  (r_ild (pg_of mt_25 dX3_passSemicolon_57 rfl) rfl).trans <|
  (r_rz (pg_of mt_25 dX3_passSemicolon_58 rfl) mt_25 rfl h1)
-- 26 LeafFalls$Text.readSway(LLeafFalls$Tree;)V
theorem b26_0 (l1 : Nat) (l2 : ma_V) (l3 : ma_V) (hl1 : is_tr l1) : rn xs L 26 0 [vR 25, vR l1, l2, l3] [] (mw f a g) = (ev xs L 16 1 [vR 25] (mw f a g)).bind (fun b => rn xs L 26 4 [vR 25, vR l1, l2, l3] (b.1.toList ++ []) b.2) :=
  (r_ald (pg_of mt_26 dX3_readSway_0 rfl) rfl).trans <|
  (r_call (t := tt_26) (t2 := tt_16) (pg_of mt_26 dX3_readSway_1 rfl) mt_26 mt_16 rfl rfl (rcv1 rfl) rfl rfl)
theorem b26_4 (l1 : Nat) (l2 : ma_V) (l3 : ma_V) (hl1 : is_tr l1) : rn xs L 26 4 [vR 25, vR l1, l2, l3] [] (mw f a g) = (ev xs L 23 3 [vR 25, vI (5 : Int32)] (mw f a g)).bind (fun b => rn xs L 26 9 [vR 25, vR l1, l2, l3] (b.1.toList ++ []) b.2) :=
  (r_ald (pg_of mt_26 dX3_readSway_4 rfl) rfl).trans <|
  (r_con (pg_of mt_26 dX3_readSway_5 rfl) (v2 := (5 : Int32)) (by decide)).trans <|
  (r_call (t := tt_26) (t2 := tt_23) (pg_of mt_26 dX3_readSway_6 rfl) mt_26 mt_23 rfl rfl (rcv1 rfl) rfl rfl)
theorem b26_9 (l1 : Nat) (l2 : ma_V) (l3 : ma_V) (s0 : Int32) (hl1 : is_tr l1) : rn xs L 26 9 [vR 25, vR l1, l2, l3] [vI s0] (mw f a g) = if s0 < 0 then rn xs L 26 23 [vR 25, vR l1, vI s0, l3] [] (mw f a g) else rn xs L 26 14 [vR 25, vR l1, vI s0, l3] [] (mw f a g) :=
  (r_ist (pg_of mt_26 dX3_readSway_9 rfl) (Nat.le_of_ble_eq_true rfl) rfl).trans <|
  (r_ild (pg_of mt_26 dX3_readSway_10 rfl) rfl).trans <|
  (r_lt0 (pg_of mt_26 dX3_readSway_11 rfl))
theorem b26_14 (l1 : Nat) (l2 : Int32) (l3 : ma_V) (hl1 : is_tr l1) : rn xs L 26 14 [vR 25, vR l1, vI l2, l3] [] (mw f a g) = (ev xs L 27 3 [vR 25, vS 25] (mw f a g)).bind (fun b => rn xs L 26 20 [vR 25, vR l1, vI l2, l3] (b.1.toList ++ []) b.2) :=
  (r_ald (pg_of mt_26 dX3_readSway_14 rfl) rfl).trans <|
  (r_spc (pg_of mt_26 dX3_readSway_15 rfl)).trans <|
  (r_call (t := tt_26) (t2 := tt_27) (pg_of mt_26 dX3_readSway_17 rfl) mt_26 mt_27 rfl rfl (rcv1 rfl) rfl rfl)
theorem b26_20 (l1 : Nat) (l2 : Int32) (l3 : ma_V) (s0 : Int32) (hl1 : is_tr l1) : rn xs L 26 20 [vR 25, vR l1, vI l2, l3] [vI s0] (mw f a g) = if s0 = 0 then rn xs L 26 23 [vR 25, vR l1, vI l2, l3] [] (mw f a g) else rn xs L 26 24 [vR 25, vR l1, vI l2, l3] [] (mw f a g) :=
  (r_ne0 (pg_of mt_26 dX3_readSway_20 rfl))
theorem b26_23 (l1 : Nat) (l2 : Int32) (l3 : ma_V) (hl1 : is_tr l1) : rn xs L 26 23 [vR 25, vR l1, vI l2, l3] [] (mw f a g) = some (none, (mw f a g)) :=
  (r_rv (pg_of mt_26 dX3_readSway_23 rfl) mt_26 rfl)
theorem b26_24 (l1 : Nat) (l2 : Int32) (l3 : ma_V) (hl1 : is_tr l1) : rn xs L 26 24 [vR 25, vR l1, vI l2, l3] [] (mw f a g) = (ev xs L 23 3 [vR 25, vI (9 : Int32)] (mw f a g)).bind (fun b => rn xs L 26 30 [vR 25, vR l1, vI l2, l3] (b.1.toList ++ []) b.2) :=
  (r_ald (pg_of mt_26 dX3_readSway_24 rfl) rfl).trans <|
  (r_con (pg_of mt_26 dX3_readSway_25 rfl) (v2 := (9 : Int32)) (by decide)).trans <|
  (r_call (t := tt_26) (t2 := tt_23) (pg_of mt_26 dX3_readSway_27 rfl) mt_26 mt_23 rfl rfl (rcv1 rfl) rfl rfl)
theorem b26_30 (l1 : Nat) (l2 : Int32) (l3 : ma_V) (s0 : Int32) (hl1 : is_tr l1) : rn xs L 26 30 [vR 25, vR l1, vI l2, l3] [vI s0] (mw f a g) = if s0 < 0 then rn xs L 26 49 [vR 25, vR l1, vI l2, vI s0] [] (mw f a g) else rn xs L 26 35 [vR 25, vR l1, vI l2, vI s0] [] (mw f a g) :=
  (r_ist (pg_of mt_26 dX3_readSway_30 rfl) (Nat.le_of_ble_eq_true rfl) rfl).trans <|
  (r_ild (pg_of mt_26 dX3_readSway_31 rfl) rfl).trans <|
  (r_lt0 (pg_of mt_26 dX3_readSway_32 rfl))
theorem b26_35 (l1 : Nat) (l2 : Int32) (l3 : Int32) (hl1 : is_tr l1) : rn xs L 26 35 [vR 25, vR l1, vI l2, vI l3] [] (mw f a g) = (ev xs L 25 2 [vR 25] (mw f a g)).bind (fun b => rn xs L 26 39 [vR 25, vR l1, vI l2, vI l3] (b.1.toList ++ []) b.2) :=
  (r_ald (pg_of mt_26 dX3_readSway_35 rfl) rfl).trans <|
  (r_call (t := tt_26) (t2 := tt_25) (pg_of mt_26 dX3_readSway_36 rfl) mt_26 mt_25 rfl rfl (rcv1 rfl) rfl rfl)
theorem b26_39 (l1 : Nat) (l2 : Int32) (l3 : Int32) (s0 : Int32) (hl1 : is_tr l1) : rn xs L 26 39 [vR 25, vR l1, vI l2, vI l3] [vI s0] (mw f a g) = if s0 = 0 then rn xs L 26 49 [vR 25, vR l1, vI l2, vI l3] [] (mw f a g) else rn xs L 26 42 [vR 25, vR l1, vI l2, vI l3] [] (mw f a g) :=
  (r_eq0 (pg_of mt_26 dX3_readSway_39 rfl))
theorem b26_42 (l1 : Nat) (l2 : Int32) (l3 : Int32) (hl1 : is_tr l1) (h1 : ma_in l2 6 = true) : rn xs L 26 42 [vR 25, vR l1, vI l2, vI l3] [] (mw f a g) = some (none, (mw f ((ma_u2 a ((l1 + 2)) l2.toNatClampNeg l3)) g)) :=
  (r_ald (pg_of mt_26 dX3_readSway_42 rfl) rfl).trans <|
  (r_gtr (a := (l1 + 2)) (pg_of mt_26 dX3_readSway_43 rfl) (mw_tr hl1) (mw_tf hl1 (by decide))).trans <|
  (r_ild (pg_of mt_26 dX3_readSway_46 rfl) rfl).trans <|
  (r_ild (pg_of mt_26 dX3_readSway_47 rfl) rfl).trans <|
  (r_iast (pg_of mt_26 dX3_readSway_48 rfl) (mw_tr1 hl1) h1).trans <|
  (r_rv (pg_of mt_26 dX3_readSway_49 rfl) mt_26 rfl)
theorem b26_49 (l1 : Nat) (l2 : Int32) (l3 : Int32) (hl1 : is_tr l1) : rn xs L 26 49 [vR 25, vR l1, vI l2, vI l3] [] (mw f a g) = some (none, (mw f a g)) :=
  (r_rv (pg_of mt_26 dX3_readSway_49 rfl) mt_26 rfl)
-- 27 LeafFalls$Text.passName(Ljava/lang/String;)Z
theorem b27_0 (l1 : Nat) (l2 : ma_V) (hSl1 : 3 ≤ l1 ∧ l1 < 33) : rn xs L 27 0 [vR 25, vS l1, l2] [] (mw f a g) = (ev xs L 19 3 [vR 25, vS l1] (mw f a g)).bind (fun b => rn xs L 27 5 [vR 25, vS l1, l2] (b.1.toList ++ []) b.2) :=
  (r_ald (pg_of mt_27 dX3_passName_0 rfl) rfl).trans <|
  (r_als (pg_of mt_27 dX3_passName_1 rfl) (Or.inr (hSl1).1) rfl).trans <|
  (r_call (t := tt_27) (t2 := tt_19) (pg_of mt_27 dX3_passName_2 rfl) mt_27 mt_19 rfl rfl (rcv1 rfl) rfl rfl)
theorem b27_5 (l1 : Nat) (l2 : ma_V) (s0 : Int32) : rn xs L 27 5 [vR 25, vS l1, l2] [vI s0] (mw f a g) = if s0 = 0 then rn xs L 27 17 [vR 25, vS l1, vI s0] [] (mw f a g) else rn xs L 27 10 [vR 25, vS l1, vI s0] [] (mw f a g) :=
  (r_ist (pg_of mt_27 dX3_passName_5 rfl) (Nat.le_of_ble_eq_true rfl) rfl).trans <|
  (r_ild (pg_of mt_27 dX3_passName_6 rfl) rfl).trans <|
  (r_eq0 (pg_of mt_27 dX3_passName_7 rfl))
theorem b27_10 (l1 : Nat) (l2 : Int32) : rn xs L 27 10 [vR 25, vS l1, vI l2] [] (mw f a g) = (ev xs L 16 1 [vR 25] (mw f a g)).bind (fun b => rn xs L 27 14 [vR 25, vS l1, vI l2] (b.1.toList ++ []) b.2) :=
  (r_ald (pg_of mt_27 dX3_passName_10 rfl) rfl).trans <|
  (r_call (t := tt_27) (t2 := tt_16) (pg_of mt_27 dX3_passName_11 rfl) mt_27 mt_16 rfl rfl (rcv1 rfl) rfl rfl)
theorem b27_14 (l1 : Nat) (l2 : Int32) (h1 : l2 = 0 ∨ l2 = 1) : rn xs L 27 14 [vR 25, vS l1, vI l2] [] (mw f a g) = some (some (vI l2), (mw f a g)) :=
  (r_gto (pg_of mt_27 dX3_passName_14 rfl)).trans <|
  (r_ild (pg_of mt_27 dX3_passName_25 rfl) rfl).trans <|
  (r_rz (pg_of mt_27 dX3_passName_26 rfl) mt_27 rfl h1)
theorem b27_17 (l1 : Nat) (l2 : Int32) (h1 : l2 = 0 ∨ l2 = 1) : rn xs L 27 17 [vR 25, vS l1, vI l2] [] (mw f a g) = some (some (vI l2), (mw ((ma_u2 f 25 5 ((f 25 3)))) a g)) :=
  (r_ald (pg_of mt_27 dX3_passName_17 rfl) rfl).trans <|
  (r_ald (pg_of mt_27 dX3_passName_18 rfl) rfl).trans <|
  (r_gti (pg_of mt_27 dX3_passName_19 rfl) rfl).trans <|
  (r_pti (pg_of mt_27 dX3_passName_22 rfl) rfl rfl).trans <|
  (r_ild (pg_of mt_27 dX3_passName_25 rfl) rfl).trans <|
  (r_rz (pg_of mt_27 dX3_passName_26 rfl) mt_27 rfl h1)
-- 28 LeafFalls$Text.readLeaf(LLeafFalls$Tree;I)V
theorem b28_0 (l1 : Nat) (l2 : Int32) (l3 : ma_V) (l4 : ma_V) (l5 : ma_V) (hl1 : is_tr l1) : rn xs L 28 0 [vR 25, vR l1, vI l2, l3, l4, l5] [] (mw f a g) = (ev xs L 16 1 [vR 25] (mw f a g)).bind (fun b => rn xs L 28 4 [vR 25, vR l1, vI l2, l3, l4, l5] (b.1.toList ++ []) b.2) :=
  (r_ald (pg_of mt_28 dX3_readLeaf_0 rfl) rfl).trans <|
  (r_call (t := tt_28) (t2 := tt_16) (pg_of mt_28 dX3_readLeaf_1 rfl) mt_28 mt_16 rfl rfl (rcv1 rfl) rfl rfl)
theorem b28_4 (l1 : Nat) (l2 : Int32) (l3 : ma_V) (l4 : ma_V) (l5 : ma_V) (hl1 : is_tr l1) : rn xs L 28 4 [vR 25, vR l1, vI l2, l3, l4, l5] [] (mw f a g) = (ev xs L 27 3 [vR 25, vS 27] (mw f a g)).bind (fun b => rn xs L 28 10 [vR 25, vR l1, vI l2, l3, l4, l5] (b.1.toList ++ []) b.2) :=
  (r_ald (pg_of mt_28 dX3_readLeaf_4 rfl) rfl).trans <|
  (r_spc (pg_of mt_28 dX3_readLeaf_5 rfl)).trans <|
  (r_call (t := tt_28) (t2 := tt_27) (pg_of mt_28 dX3_readLeaf_7 rfl) mt_28 mt_27 rfl rfl (rcv1 rfl) rfl rfl)
theorem b28_10 (l1 : Nat) (l2 : Int32) (l3 : ma_V) (l4 : ma_V) (l5 : ma_V) (s0 : Int32) (hl1 : is_tr l1) : rn xs L 28 10 [vR 25, vR l1, vI l2, l3, l4, l5] [vI s0] (mw f a g) = if s0 = 0 then rn xs L 28 13 [vR 25, vR l1, vI l2, l3, l4, l5] [] (mw f a g) else rn xs L 28 14 [vR 25, vR l1, vI l2, l3, l4, l5] [] (mw f a g) :=
  (r_ne0 (pg_of mt_28 dX3_readLeaf_10 rfl))
theorem b28_13 (l1 : Nat) (l2 : Int32) (l3 : ma_V) (l4 : ma_V) (l5 : ma_V) (hl1 : is_tr l1) : rn xs L 28 13 [vR 25, vR l1, vI l2, l3, l4, l5] [] (mw f a g) = some (none, (mw f a g)) :=
  (r_rv (pg_of mt_28 dX3_readLeaf_13 rfl) mt_28 rfl)
theorem b28_14 (l1 : Nat) (l2 : Int32) (l3 : ma_V) (l4 : ma_V) (l5 : ma_V) (hl1 : is_tr l1) : rn xs L 28 14 [vR 25, vR l1, vI l2, l3, l4, l5] [] (mw f a g) = (ev xs L 23 3 [vR 25, vI (5 : Int32)] (mw f a g)).bind (fun b => rn xs L 28 19 [vR 25, vR l1, vI l2, l3, l4, l5] (b.1.toList ++ []) b.2) :=
  (r_ald (pg_of mt_28 dX3_readLeaf_14 rfl) rfl).trans <|
  (r_con (pg_of mt_28 dX3_readLeaf_15 rfl) (v2 := (5 : Int32)) (by decide)).trans <|
  (r_call (t := tt_28) (t2 := tt_23) (pg_of mt_28 dX3_readLeaf_16 rfl) mt_28 mt_23 rfl rfl (rcv1 rfl) rfl rfl)
theorem b28_19 (l1 : Nat) (l2 : Int32) (l3 : ma_V) (l4 : ma_V) (l5 : ma_V) (s0 : Int32) (hl1 : is_tr l1) : rn xs L 28 19 [vR 25, vR l1, vI l2, l3, l4, l5] [vI s0] (mw f a g) = if s0 < 0 then rn xs L 28 24 [vR 25, vR l1, vI l2, vI s0, l4, l5] [] (mw f a g) else rn xs L 28 25 [vR 25, vR l1, vI l2, vI s0, l4, l5] [] (mw f a g) :=
  (r_ist (pg_of mt_28 dX3_readLeaf_19 rfl) (Nat.le_of_ble_eq_true rfl) rfl).trans <|
  (r_ild (pg_of mt_28 dX3_readLeaf_20 rfl) rfl).trans <|
  (r_ge0 (pg_of mt_28 dX3_readLeaf_21 rfl))
theorem b28_24 (l1 : Nat) (l2 : Int32) (l3 : Int32) (l4 : ma_V) (l5 : ma_V) (hl1 : is_tr l1) : rn xs L 28 24 [vR 25, vR l1, vI l2, vI l3, l4, l5] [] (mw f a g) = some (none, (mw f a g)) :=
  (r_rv (pg_of mt_28 dX3_readLeaf_24 rfl) mt_28 rfl)
theorem b28_25 (l1 : Nat) (l2 : Int32) (l3 : Int32) (l4 : ma_V) (l5 : ma_V) (hl1 : is_tr l1) : rn xs L 28 25 [vR 25, vR l1, vI l2, vI l3, l4, l5] [] (mw f a g) = (ev xs L 29 4 [vR 25, vS 29, vI (99 : Int32), vI (10 : Int32)] (mw f a g)).bind (fun b => rn xs L 28 35 [vR 25, vR l1, vI l2, vI l3, l4, l5] (b.1.toList ++ []) b.2) :=
  (r_ald (pg_of mt_28 dX3_readLeaf_25 rfl) rfl).trans <|
  (r_spc (pg_of mt_28 dX3_readLeaf_26 rfl)).trans <|
  (r_con (pg_of mt_28 dX3_readLeaf_28 rfl) (v2 := (99 : Int32)) (by decide)).trans <|
  (r_con (pg_of mt_28 dX3_readLeaf_30 rfl) (v2 := (10 : Int32)) (by decide)).trans <|
  (r_call (t := tt_28) (t2 := tt_29) (pg_of mt_28 dX3_readLeaf_32 rfl) mt_28 mt_29 rfl rfl (rcv1 rfl) rfl rfl)
theorem b28_35 (l1 : Nat) (l2 : Int32) (l3 : Int32) (l4 : ma_V) (l5 : ma_V) (s0 : Int32) (hl1 : is_tr l1) : rn xs L 28 35 [vR 25, vR l1, vI l2, vI l3, l4, l5] [vI s0] (mw f a g) = if s0 < 0 then rn xs L 28 42 [vR 25, vR l1, vI l2, vI l3, vI s0, l5] [] (mw f a g) else rn xs L 28 43 [vR 25, vR l1, vI l2, vI l3, vI s0, l5] [] (mw f a g) :=
  (r_ist (pg_of mt_28 dX3_readLeaf_35 rfl) (Nat.le_of_ble_eq_true rfl) rfl).trans <|
  (r_ild (pg_of mt_28 dX3_readLeaf_37 rfl) rfl).trans <|
  (r_ge0 (pg_of mt_28 dX3_readLeaf_39 rfl))
theorem b28_42 (l1 : Nat) (l2 : Int32) (l3 : Int32) (l4 : Int32) (l5 : ma_V) (hl1 : is_tr l1) : rn xs L 28 42 [vR 25, vR l1, vI l2, vI l3, vI l4, l5] [] (mw f a g) = some (none, (mw f a g)) :=
  (r_rv (pg_of mt_28 dX3_readLeaf_42 rfl) mt_28 rfl)
theorem b28_43 (l1 : Nat) (l2 : Int32) (l3 : Int32) (l4 : Int32) (l5 : ma_V) (hl1 : is_tr l1) : rn xs L 28 43 [vR 25, vR l1, vI l2, vI l3, vI l4, l5] [] (mw f a g) = (ev xs L 29 4 [vR 25, vS 31, vI (9 : Int32), vI (0 : Int32)] (mw f a g)).bind (fun b => rn xs L 28 52 [vR 25, vR l1, vI l2, vI l3, vI l4, l5] (b.1.toList ++ []) b.2) :=
  (r_ald (pg_of mt_28 dX3_readLeaf_43 rfl) rfl).trans <|
  (r_spc (pg_of mt_28 dX3_readLeaf_44 rfl)).trans <|
  (r_con (pg_of mt_28 dX3_readLeaf_46 rfl) (v2 := (9 : Int32)) (by decide)).trans <|
  (r_con (pg_of mt_28 dX3_readLeaf_48 rfl) (v2 := (0 : Int32)) (by decide)).trans <|
  (r_call (t := tt_28) (t2 := tt_29) (pg_of mt_28 dX3_readLeaf_49 rfl) mt_28 mt_29 rfl rfl (rcv1 rfl) rfl rfl)
theorem b28_52 (l1 : Nat) (l2 : Int32) (l3 : Int32) (l4 : Int32) (l5 : ma_V) (s0 : Int32) (hl1 : is_tr l1) : rn xs L 28 52 [vR 25, vR l1, vI l2, vI l3, vI l4, l5] [vI s0] (mw f a g) = if s0 < 0 then rn xs L 28 76 [vR 25, vR l1, vI l2, vI l3, vI l4, vI s0] [] (mw f a g) else rn xs L 28 59 [vR 25, vR l1, vI l2, vI l3, vI l4, vI s0] [] (mw f a g) :=
  (r_ist (pg_of mt_28 dX3_readLeaf_52 rfl) (Nat.le_of_ble_eq_true rfl) rfl).trans <|
  (r_ild (pg_of mt_28 dX3_readLeaf_54 rfl) rfl).trans <|
  (r_lt0 (pg_of mt_28 dX3_readLeaf_56 rfl))
theorem b28_59 (l1 : Nat) (l2 : Int32) (l3 : Int32) (l4 : Int32) (l5 : Int32) (hl1 : is_tr l1) : rn xs L 28 59 [vR 25, vR l1, vI l2, vI l3, vI l4, vI l5] [] (mw f a g) = (ev xs L 25 2 [vR 25] (mw f a g)).bind (fun b => rn xs L 28 63 [vR 25, vR l1, vI l2, vI l3, vI l4, vI l5] (b.1.toList ++ []) b.2) :=
  (r_ald (pg_of mt_28 dX3_readLeaf_59 rfl) rfl).trans <|
  (r_call (t := tt_28) (t2 := tt_25) (pg_of mt_28 dX3_readLeaf_60 rfl) mt_28 mt_25 rfl rfl (rcv1 rfl) rfl rfl)
theorem b28_63 (l1 : Nat) (l2 : Int32) (l3 : Int32) (l4 : Int32) (l5 : Int32) (s0 : Int32) (hl1 : is_tr l1) : rn xs L 28 63 [vR 25, vR l1, vI l2, vI l3, vI l4, vI l5] [vI s0] (mw f a g) = if s0 = 0 then rn xs L 28 76 [vR 25, vR l1, vI l2, vI l3, vI l4, vI l5] [] (mw f a g) else rn xs L 28 66 [vR 25, vR l1, vI l2, vI l3, vI l4, vI l5] [] (mw f a g) :=
  (r_eq0 (pg_of mt_28 dX3_readLeaf_63 rfl))
theorem b28_66 (l1 : Nat) (l2 : Int32) (l3 : Int32) (l4 : Int32) (l5 : Int32) (hl1 : is_tr l1) : rn xs L 28 66 [vR 25, vR l1, vI l2, vI l3, vI l4, vI l5] [] (mw f a g) = (ev xs L 32 5 [vR l1, vI l2, vI l3, vI l4, vI l5] (mw f a g)).bind (fun b => rn xs L 28 76 [vR 25, vR l1, vI l2, vI l3, vI l4, vI l5] (b.1.toList ++ []) b.2) :=
  (r_ald (pg_of mt_28 dX3_readLeaf_66 rfl) rfl).trans <|
  (r_ild (pg_of mt_28 dX3_readLeaf_67 rfl) rfl).trans <|
  (r_ild (pg_of mt_28 dX3_readLeaf_68 rfl) rfl).trans <|
  (r_ild (pg_of mt_28 dX3_readLeaf_69 rfl) rfl).trans <|
  (r_ild (pg_of mt_28 dX3_readLeaf_71 rfl) rfl).trans <|
  (r_call (t := tt_28) (t2 := tt_32) (pg_of mt_28 dX3_readLeaf_73 rfl) mt_28 mt_32 rfl rfl (rcv1 (mw_tr hl1)) rfl rfl)
theorem b28_76 (l1 : Nat) (l2 : Int32) (l3 : Int32) (l4 : Int32) (l5 : Int32) (hl1 : is_tr l1) : rn xs L 28 76 [vR 25, vR l1, vI l2, vI l3, vI l4, vI l5] [] (mw f a g) = some (none, (mw f a g)) :=
  (r_rv (pg_of mt_28 dX3_readLeaf_76 rfl) mt_28 rfl)
-- 29 LeafFalls$Text.numberNamed(Ljava/lang/String;II)I
theorem b29_0 (l1 : Nat) (l2 : Int32) (l3 : Int32) (hSl1 : 3 ≤ l1 ∧ l1 < 33) : rn xs L 29 0 [vR 25, vS l1, vI l2, vI l3] [] (mw f a g) = (ev xs L 19 3 [vR 25, vS l1] (mw f a g)).bind (fun b => rn xs L 29 5 [vR 25, vS l1, vI l2, vI l3] (b.1.toList ++ []) b.2) :=
  (r_ald (pg_of mt_29 dX3_numberNamed_0 rfl) rfl).trans <|
  (r_als (pg_of mt_29 dX3_numberNamed_1 rfl) (Or.inr (hSl1).1) rfl).trans <|
  (r_call (t := tt_29) (t2 := tt_19) (pg_of mt_29 dX3_numberNamed_2 rfl) mt_29 mt_19 rfl rfl (rcv1 rfl) rfl rfl)
theorem b29_5 (l1 : Nat) (l2 : Int32) (l3 : Int32) (s0 : Int32) : rn xs L 29 5 [vR 25, vS l1, vI l2, vI l3] [vI s0] (mw f a g) = if s0 = 0 then rn xs L 29 8 [vR 25, vS l1, vI l2, vI l3] [] (mw f a g) else rn xs L 29 10 [vR 25, vS l1, vI l2, vI l3] [] (mw f a g) :=
  (r_ne0 (pg_of mt_29 dX3_numberNamed_5 rfl))
theorem b29_8 (l1 : Nat) (l2 : Int32) (l3 : Int32) : rn xs L 29 8 [vR 25, vS l1, vI l2, vI l3] [] (mw f a g) = some (some (vI l3), (mw f a g)) :=
  (r_ild (pg_of mt_29 dX3_numberNamed_8 rfl) rfl).trans <|
  (r_ri (pg_of mt_29 dX3_numberNamed_9 rfl) mt_29 rfl)
theorem b29_10 (l1 : Nat) (l2 : Int32) (l3 : Int32) : rn xs L 29 10 [vR 25, vS l1, vI l2, vI l3] [] (mw f a g) = (ev xs L 16 1 [vR 25] (mw f a g)).bind (fun b => rn xs L 29 14 [vR 25, vS l1, vI l2, vI l3] (b.1.toList ++ []) b.2) :=
  (r_ald (pg_of mt_29 dX3_numberNamed_10 rfl) rfl).trans <|
  (r_call (t := tt_29) (t2 := tt_16) (pg_of mt_29 dX3_numberNamed_11 rfl) mt_29 mt_16 rfl rfl (rcv1 rfl) rfl rfl)
theorem b29_14 (l1 : Nat) (l2 : Int32) (l3 : Int32) : rn xs L 29 14 [vR 25, vS l1, vI l2, vI l3] [] (mw f a g) = (ev xs L 23 3 [vR 25, vI l2] (mw f a g)).bind (fun b => rn xs L 29 19 [vR 25, vS l1, vI l2, vI l3] (b.1.toList ++ []) b.2) :=
  (r_ald (pg_of mt_29 dX3_numberNamed_14 rfl) rfl).trans <|
  (r_ild (pg_of mt_29 dX3_numberNamed_15 rfl) rfl).trans <|
  (r_call (t := tt_29) (t2 := tt_23) (pg_of mt_29 dX3_numberNamed_16 rfl) mt_29 mt_23 rfl rfl (rcv1 rfl) rfl rfl)
theorem b29_19 (l1 : Nat) (l2 : Int32) (l3 : Int32) (s0 : Int32) : rn xs L 29 19 [vR 25, vS l1, vI l2, vI l3] [vI s0] (mw f a g) = some (some (vI s0), (mw f a g)) :=
  (r_ri (pg_of mt_29 dX3_numberNamed_19 rfl) mt_29 rfl)
-- 221 java/lang/String.length()I
theorem b221_0 (l0 : Nat) (hSl0 : 3 ≤ l0 ∧ l0 < 33) (h1 : 3 ≤ l0 ∧ l0 < 33 ∧ l0 % 2 = 1) : rn xs L 221 0 [vS l0] [] (mw f a g) = (ev xs L 222 1 [vS l0] (mw f a g)).bind (fun b => rn xs L 221 9 [vS l0] (b.1.toList ++ [vI (Int32.ofNat (ma_len (((l0 + 1) - 4) / 2)))]) b.2) :=
  (r_als (pg_of mt_221 dJ0_length_8abf5_0 rfl) (Or.inr (hSl0).1) rfl).trans <|
  (r_gts0 (pg_of mt_221 dJ0_length_8abf5_1 rfl) h1).trans <|
  (r_alnS (pg_of mt_221 dJ0_length_8abf5_4 rfl) (by omega)).trans <|
  (r_als (pg_of mt_221 dJ0_length_8abf5_5 rfl) (Or.inr (hSl0).1) rfl).trans <|
  (r_call (t := tt_221) (t2 := tt_222) (pg_of mt_221 dJ0_length_8abf5_6 rfl) mt_221 mt_222 rfl rfl (rcv2 h1) rfl rfl)
theorem b221_9 (l0 : Nat) (s0 : Int32) (s1 : Int32) : rn xs L 221 9 [vS l0] [vI s0, vI s1] (mw f a g) = some (some (vI (s1 >>> (s0 &&& 31))), (mw f a g)) :=
  (r_bin (pg_of mt_221 dJ0_length_8abf5_9 rfl)).trans <|
  (r_ri (pg_of mt_221 dJ0_length_8abf5_10 rfl) mt_221 rfl)
-- 222 java/lang/String.coder()B
theorem b222_0 (l0 : Nat) : rn xs L 222 0 [vS l0] [] (mw f a g) = if (1 : Int32) = 0 then rn xs L 222 13 [vS l0] [] (mw f a g) else rn xs L 222 6 [vS l0] [] (mw f a g) :=
  (r_con (pg_of mt_222 dJ0_coder_7d493_0 rfl) (v2 := (1 : Int32)) rfl).trans <|
  (r_eq0 (pg_of mt_222 dJ0_coder_7d493_3 rfl))
theorem b222_6 (l0 : Nat) (hSl0 : 3 ≤ l0 ∧ l0 < 33) (h1 : 3 ≤ l0 ∧ l0 < 33 ∧ l0 % 2 = 1) : rn xs L 222 6 [vS l0] [] (mw f a g) = some (some (vI (0 : Int32)), (mw f a g)) :=
  (r_als (pg_of mt_222 dJ0_coder_7d493_6 rfl) (Or.inr (hSl0).1) rfl).trans <|
  (r_gts1 (pg_of mt_222 dJ0_coder_7d493_7 rfl) h1).trans <|
  (r_gto (pg_of mt_222 dJ0_coder_7d493_10 rfl)).trans <|
  (r_rb (pg_of mt_222 dJ0_coder_7d493_14 rfl) mt_222 rfl (by decide))
theorem b222_13 (l0 : Nat) : rn xs L 222 13 [vS l0] [] (mw f a g) = some (some (vI (1 : Int32)), (mw f a g)) :=
  (r_con (pg_of mt_222 dJ0_coder_7d493_13 rfl) (v2 := (1 : Int32)) (by decide)).trans <|
  (r_rb (pg_of mt_222 dJ0_coder_7d493_14 rfl) mt_222 rfl (by decide))
-- 223 java/lang/String.charAt(I)C
theorem b223_0 (l0 : Nat) (l1 : Int32) (hSl0 : 3 ≤ l0 ∧ l0 < 33) (h1 : 3 ≤ l0 ∧ l0 < 33 ∧ l0 % 2 = 1) : rn xs L 223 0 [vS l0, vI l1] [] (mw f a g) = (ev xs L 224 1 [vS l0] (mw f a g)).bind (fun b => rn xs L 223 4 [vS l0, vI l1] (b.1.toList ++ []) b.2) :=
  (r_als (pg_of mt_223 dJ0_charAt_5068e_0 rfl) (Or.inr (hSl0).1) rfl).trans <|
  (r_call (t := tt_223) (t2 := tt_224) (pg_of mt_223 dJ0_charAt_5068e_1 rfl) mt_223 mt_224 rfl rfl (rcv2 h1) rfl rfl)
theorem b223_4 (l0 : Nat) (l1 : Int32) (s0 : Int32) : rn xs L 223 4 [vS l0, vI l1] [vI s0] (mw f a g) = if s0 = 0 then rn xs L 223 16 [vS l0, vI l1] [] (mw f a g) else rn xs L 223 7 [vS l0, vI l1] [] (mw f a g) :=
  (r_eq0 (pg_of mt_223 dJ0_charAt_5068e_4 rfl))
theorem b223_7 (l0 : Nat) (l1 : Int32) (hSl0 : 3 ≤ l0 ∧ l0 < 33) (h1 : 3 ≤ l0 ∧ l0 < 33 ∧ l0 % 2 = 1) : rn xs L 223 7 [vS l0, vI l1] [] (mw f a g) = (ev xs L 226 2 [vS (l0 + 1), vI l1] (mw f a g)).bind (fun b => rn xs L 223 15 [vS l0, vI l1] (b.1.toList ++ []) b.2) :=
  (r_als (pg_of mt_223 dJ0_charAt_5068e_7 rfl) (Or.inr (hSl0).1) rfl).trans <|
  (r_gts0 (pg_of mt_223 dJ0_charAt_5068e_8 rfl) h1).trans <|
  (r_ild (pg_of mt_223 dJ0_charAt_5068e_11 rfl) rfl).trans <|
  (r_call (t := tt_223) (t2 := tt_226) (pg_of mt_223 dJ0_charAt_5068e_12 rfl) mt_223 mt_226 rfl rfl rfl rfl rfl)
theorem b223_15 (l0 : Nat) (l1 : Int32) (s0 : Int32) (h1 : vp_nar .char s0 = s0) : rn xs L 223 15 [vS l0, vI l1] [vI s0] (mw f a g) = some (some (vI s0), (mw f a g)) :=
  (r_rc (pg_of mt_223 dJ0_charAt_5068e_15 rfl) mt_223 rfl h1)
theorem b223_16 (l0 : Nat) (l1 : Int32) (hSl0 : 3 ≤ l0 ∧ l0 < 33) (h1 : 3 ≤ l0 ∧ l0 < 33 ∧ l0 % 2 = 1) : rn xs L 223 16 [vS l0, vI l1] [] (mw f a g) = (ev xs L 227 2 [vS (l0 + 1), vI l1] (mw f a g)).bind (fun b => rn xs L 223 24 [vS l0, vI l1] (b.1.toList ++ []) b.2) :=
  (r_als (pg_of mt_223 dJ0_charAt_5068e_16 rfl) (Or.inr (hSl0).1) rfl).trans <|
  (r_gts0 (pg_of mt_223 dJ0_charAt_5068e_17 rfl) h1).trans <|
  (r_ild (pg_of mt_223 dJ0_charAt_5068e_20 rfl) rfl).trans <|
  (r_call (t := tt_223) (t2 := tt_227) (pg_of mt_223 dJ0_charAt_5068e_21 rfl) mt_223 mt_227 rfl rfl rfl rfl rfl)
theorem b223_24 (l0 : Nat) (l1 : Int32) (s0 : Int32) (h1 : vp_nar .char s0 = s0) : rn xs L 223 24 [vS l0, vI l1] [vI s0] (mw f a g) = some (some (vI s0), (mw f a g)) :=
  (r_rc (pg_of mt_223 dJ0_charAt_5068e_24 rfl) mt_223 rfl h1)
-- 224 java/lang/String.isLatin1()Z
theorem b224_0 (l0 : Nat) : rn xs L 224 0 [vS l0] [] (mw f a g) = if (1 : Int32) = 0 then rn xs L 224 17 [vS l0] [] (mw f a g) else rn xs L 224 6 [vS l0] [] (mw f a g) :=
  (r_con (pg_of mt_224 dJ0_isLatin1_aae02_0 rfl) (v2 := (1 : Int32)) rfl).trans <|
  (r_eq0 (pg_of mt_224 dJ0_isLatin1_aae02_3 rfl))
theorem b224_6 (l0 : Nat) (hSl0 : 3 ≤ l0 ∧ l0 < 33) (h1 : 3 ≤ l0 ∧ l0 < 33 ∧ l0 % 2 = 1) : rn xs L 224 6 [vS l0] [] (mw f a g) = if (0 : Int32) = 0 then rn xs L 224 13 [vS l0] [] (mw f a g) else rn xs L 224 17 [vS l0] [] (mw f a g) :=
  (r_als (pg_of mt_224 dJ0_isLatin1_aae02_6 rfl) (Or.inr (hSl0).1) rfl).trans <|
  (r_gts1 (pg_of mt_224 dJ0_isLatin1_aae02_7 rfl) h1).trans <|
  (r_ne0 (pg_of mt_224 dJ0_isLatin1_aae02_10 rfl))
theorem b224_13 (l0 : Nat) : rn xs L 224 13 [vS l0] [] (mw f a g) = some (some (vI (1 : Int32)), (mw f a g)) :=
  (r_con (pg_of mt_224 dJ0_isLatin1_aae02_13 rfl) (v2 := (1 : Int32)) (by decide)).trans <|
  (r_gto (pg_of mt_224 dJ0_isLatin1_aae02_14 rfl)).trans <|
  (r_rz (pg_of mt_224 dJ0_isLatin1_aae02_18 rfl) mt_224 rfl (Or.inr rfl))
theorem b224_17 (l0 : Nat) : rn xs L 224 17 [vS l0] [] (mw f a g) = some (some (vI (0 : Int32)), (mw f a g)) :=
  (r_con (pg_of mt_224 dJ0_isLatin1_aae02_17 rfl) (v2 := (0 : Int32)) (by decide)).trans <|
  (r_rz (pg_of mt_224 dJ0_isLatin1_aae02_18 rfl) mt_224 rfl (Or.inl rfl))
-- 225 java/lang/String.checkIndex(II)V
theorem b225_0 (l0 : Int32) (l1 : Int32) : rn xs L 225 0 [vI l0, vI l1] [] (mw f a g) = (ev xs L 231 3 [vI l0, vI l1, vS 2] (mw f a g)).bind (fun b => rn xs L 225 8 [vI l0, vI l1] (b.1.toList ++ []) b.2) :=
  (r_ild (pg_of mt_225 dJ0_checkIndex_df160_0 rfl) rfl).trans <|
  (r_ild (pg_of mt_225 dJ0_checkIndex_df160_1 rfl) rfl).trans <|
  (r_spc (pg_of mt_225 dJ0_checkIndex_df160_2 rfl)).trans <|
  (r_call (t := tt_225) (t2 := tt_231) (pg_of mt_225 dJ0_checkIndex_df160_5 rfl) mt_225 mt_231 rfl rfl rfl rfl rfl)
theorem b225_8 (l0 : Int32) (l1 : Int32) (s0 : Int32) : rn xs L 225 8 [vI l0, vI l1] [vI s0] (mw f a g) = some (none, (mw f a g)) :=
  (r_pop (pg_of mt_225 dJ0_checkIndex_df160_8 rfl) rfl).trans <|
  (r_rv (pg_of mt_225 dJ0_checkIndex_df160_9 rfl) mt_225 rfl)
-- 226 java/lang/StringLatin1.charAt([BI)C
theorem b226_0 (l0 : Nat) (l1 : Int32) (hSl0 : 3 ≤ l0 ∧ l0 < 33) (h1 : 3 ≤ l0 ∧ l0 < 33 ∧ l0 % 2 = 0) : rn xs L 226 0 [vS l0, vI l1] [] (mw f a g) = (ev xs L 225 2 [vI l1, vI (Int32.ofNat (ma_len ((l0 - 4) / 2)))] (mw f a g)).bind (fun b => rn xs L 226 6 [vS l0, vI l1] (b.1.toList ++ []) b.2) :=
  (r_ild (pg_of mt_226 dJ1_charAt_3b067_0 rfl) rfl).trans <|
  (r_als (pg_of mt_226 dJ1_charAt_3b067_1 rfl) (Or.inr (hSl0).1) rfl).trans <|
  (r_alnS (pg_of mt_226 dJ1_charAt_3b067_2 rfl) h1).trans <|
  (r_call (t := tt_226) (t2 := tt_225) (pg_of mt_226 dJ1_charAt_3b067_3 rfl) mt_226 mt_225 rfl rfl rfl rfl rfl)
theorem b226_6 (l0 : Nat) (l1 : Int32) (hSl0 : 3 ≤ l0 ∧ l0 < 33) (h1 : 3 ≤ l0 ∧ l0 < 33 ∧ l0 % 2 = 0) (h2 : ma_in l1 (ma_len ((l0 - 4) / 2)) = true) (h3 : vp_nar .char ((((((ma_chr ((l0 - 4) / 2) l1.toNatClampNeg) &&& (255 : Int32))).toUInt32 % 65536).toInt32)) = (((((ma_chr ((l0 - 4) / 2) l1.toNatClampNeg) &&& (255 : Int32))).toUInt32 % 65536).toInt32)) : rn xs L 226 6 [vS l0, vI l1] [] (mw f a g) = some (some (vI (((((ma_chr ((l0 - 4) / 2) l1.toNatClampNeg) &&& (255 : Int32))).toUInt32 % 65536).toInt32)), (mw f a g)) :=
  (r_als (pg_of mt_226 dJ1_charAt_3b067_6 rfl) (Or.inr (hSl0).1) rfl).trans <|
  (r_ild (pg_of mt_226 dJ1_charAt_3b067_7 rfl) rfl).trans <|
  (r_balS (pg_of mt_226 dJ1_charAt_3b067_8 rfl) ⟨(h1).1, (h1).2.1, (h1).2.2, h2⟩).trans <|
  (r_con (pg_of mt_226 dJ1_charAt_3b067_9 rfl) (v2 := (255 : Int32)) (by decide)).trans <|
  (r_bin (pg_of mt_226 dJ1_charAt_3b067_12 rfl)).trans <|
  (r_una (pg_of mt_226 dJ1_charAt_3b067_13 rfl)).trans <|
  (r_rc (pg_of mt_226 dJ1_charAt_3b067_14 rfl) mt_226 rfl h3)
-- 231 jdk/internal/util/Preconditions.checkIndex(IILjava/util/function/BiFunction;)I
theorem b231_0 (l0 : Int32) (l1 : Int32) (l2 : Nat) : rn xs L 231 0 [vI l0, vI l1, vS l2] [] (mw f a g) = if l0 < 0 then rn xs L 231 9 [vI l0, vI l1, vS l2] [] (mw f a g) else rn xs L 231 4 [vI l0, vI l1, vS l2] [] (mw f a g) :=
  (r_ild (pg_of mt_231 dJ3_checkIndex_8e157_0 rfl) rfl).trans <|
  (r_lt0 (pg_of mt_231 dJ3_checkIndex_8e157_1 rfl))
theorem b231_4 (l0 : Int32) (l1 : Int32) (l2 : Nat) : rn xs L 231 4 [vI l0, vI l1, vS l2] [] (mw f a g) = if l0 < l1 then rn xs L 231 16 [vI l0, vI l1, vS l2] [] (mw f a g) else rn xs L 231 9 [vI l0, vI l1, vS l2] [] (mw f a g) :=
  (r_ild (pg_of mt_231 dJ3_checkIndex_8e157_4 rfl) rfl).trans <|
  (r_ild (pg_of mt_231 dJ3_checkIndex_8e157_5 rfl) rfl).trans <|
  (r_lt (pg_of mt_231 dJ3_checkIndex_8e157_6 rfl))
theorem b231_16 (l0 : Int32) (l1 : Int32) (l2 : Nat) : rn xs L 231 16 [vI l0, vI l1, vS l2] [] (mw f a g) = some (some (vI l0), (mw f a g)) :=
  (r_ild (pg_of mt_231 dJ3_checkIndex_8e157_16 rfl) rfl).trans <|
  (r_ri (pg_of mt_231 dJ3_checkIndex_8e157_17 rfl) mt_231 rfl)
-- 232 java/lang/Integer.bitCount(I)I
theorem b232_0 (l0 : Int32) : rn xs L 232 0 [vI l0] [] (mw f a g) = some (some (vI ((((((((l0 - ((((l0).toUInt32 >>> (((1 : Int32)).toUInt32 &&& Int32.toUInt32 31)).toInt32) &&& (1431655765 : Int32))) &&& (858993459 : Int32)) + (((((l0 - ((((l0).toUInt32 >>> (((1 : Int32)).toUInt32 &&& Int32.toUInt32 31)).toInt32) &&& (1431655765 : Int32)))).toUInt32 >>> (((2 : Int32)).toUInt32 &&& Int32.toUInt32 31)).toInt32) &&& (858993459 : Int32))) + ((((((l0 - ((((l0).toUInt32 >>> (((1 : Int32)).toUInt32 &&& Int32.toUInt32 31)).toInt32) &&& (1431655765 : Int32))) &&& (858993459 : Int32)) + (((((l0 - ((((l0).toUInt32 >>> (((1 : Int32)).toUInt32 &&& Int32.toUInt32 31)).toInt32) &&& (1431655765 : Int32)))).toUInt32 >>> (((2 : Int32)).toUInt32 &&& Int32.toUInt32 31)).toInt32) &&& (858993459 : Int32)))).toUInt32 >>> (((4 : Int32)).toUInt32 &&& Int32.toUInt32 31)).toInt32)) &&& (252645135 : Int32)) + ((((((((l0 - ((((l0).toUInt32 >>> (((1 : Int32)).toUInt32 &&& Int32.toUInt32 31)).toInt32) &&& (1431655765 : Int32))) &&& (858993459 : Int32)) + (((((l0 - ((((l0).toUInt32 >>> (((1 : Int32)).toUInt32 &&& Int32.toUInt32 31)).toInt32) &&& (1431655765 : Int32)))).toUInt32 >>> (((2 : Int32)).toUInt32 &&& Int32.toUInt32 31)).toInt32) &&& (858993459 : Int32))) + ((((((l0 - ((((l0).toUInt32 >>> (((1 : Int32)).toUInt32 &&& Int32.toUInt32 31)).toInt32) &&& (1431655765 : Int32))) &&& (858993459 : Int32)) + (((((l0 - ((((l0).toUInt32 >>> (((1 : Int32)).toUInt32 &&& Int32.toUInt32 31)).toInt32) &&& (1431655765 : Int32)))).toUInt32 >>> (((2 : Int32)).toUInt32 &&& Int32.toUInt32 31)).toInt32) &&& (858993459 : Int32)))).toUInt32 >>> (((4 : Int32)).toUInt32 &&& Int32.toUInt32 31)).toInt32)) &&& (252645135 : Int32))).toUInt32 >>> (((8 : Int32)).toUInt32 &&& Int32.toUInt32 31)).toInt32)) + (((((((((l0 - ((((l0).toUInt32 >>> (((1 : Int32)).toUInt32 &&& Int32.toUInt32 31)).toInt32) &&& (1431655765 : Int32))) &&& (858993459 : Int32)) + (((((l0 - ((((l0).toUInt32 >>> (((1 : Int32)).toUInt32 &&& Int32.toUInt32 31)).toInt32) &&& (1431655765 : Int32)))).toUInt32 >>> (((2 : Int32)).toUInt32 &&& Int32.toUInt32 31)).toInt32) &&& (858993459 : Int32))) + ((((((l0 - ((((l0).toUInt32 >>> (((1 : Int32)).toUInt32 &&& Int32.toUInt32 31)).toInt32) &&& (1431655765 : Int32))) &&& (858993459 : Int32)) + (((((l0 - ((((l0).toUInt32 >>> (((1 : Int32)).toUInt32 &&& Int32.toUInt32 31)).toInt32) &&& (1431655765 : Int32)))).toUInt32 >>> (((2 : Int32)).toUInt32 &&& Int32.toUInt32 31)).toInt32) &&& (858993459 : Int32)))).toUInt32 >>> (((4 : Int32)).toUInt32 &&& Int32.toUInt32 31)).toInt32)) &&& (252645135 : Int32)) + ((((((((l0 - ((((l0).toUInt32 >>> (((1 : Int32)).toUInt32 &&& Int32.toUInt32 31)).toInt32) &&& (1431655765 : Int32))) &&& (858993459 : Int32)) + (((((l0 - ((((l0).toUInt32 >>> (((1 : Int32)).toUInt32 &&& Int32.toUInt32 31)).toInt32) &&& (1431655765 : Int32)))).toUInt32 >>> (((2 : Int32)).toUInt32 &&& Int32.toUInt32 31)).toInt32) &&& (858993459 : Int32))) + ((((((l0 - ((((l0).toUInt32 >>> (((1 : Int32)).toUInt32 &&& Int32.toUInt32 31)).toInt32) &&& (1431655765 : Int32))) &&& (858993459 : Int32)) + (((((l0 - ((((l0).toUInt32 >>> (((1 : Int32)).toUInt32 &&& Int32.toUInt32 31)).toInt32) &&& (1431655765 : Int32)))).toUInt32 >>> (((2 : Int32)).toUInt32 &&& Int32.toUInt32 31)).toInt32) &&& (858993459 : Int32)))).toUInt32 >>> (((4 : Int32)).toUInt32 &&& Int32.toUInt32 31)).toInt32)) &&& (252645135 : Int32))).toUInt32 >>> (((8 : Int32)).toUInt32 &&& Int32.toUInt32 31)).toInt32))).toUInt32 >>> (((16 : Int32)).toUInt32 &&& Int32.toUInt32 31)).toInt32)) &&& (63 : Int32))), (mw f a g)) :=
  (r_ild (pg_of mt_232 dJ6_bitCount_0f7a4_0 rfl) rfl).trans <|
  (r_ild (pg_of mt_232 dJ6_bitCount_0f7a4_1 rfl) rfl).trans <|
  (r_con (pg_of mt_232 dJ6_bitCount_0f7a4_2 rfl) (v2 := (1 : Int32)) (by decide)).trans <|
  (r_bin (pg_of mt_232 dJ6_bitCount_0f7a4_3 rfl)).trans <|
  (r_con (pg_of mt_232 dJ6_bitCount_0f7a4_4 rfl) (v2 := (1431655765 : Int32)) rfl).trans <|
  (r_bin (pg_of mt_232 dJ6_bitCount_0f7a4_7 rfl)).trans <|
  (r_bin (pg_of mt_232 dJ6_bitCount_0f7a4_8 rfl)).trans <|
  (r_ist (pg_of mt_232 dJ6_bitCount_0f7a4_9 rfl) (Nat.le_of_ble_eq_true rfl) rfl).trans <|
  (r_ild (pg_of mt_232 dJ6_bitCount_0f7a4_10 rfl) rfl).trans <|
  (r_con (pg_of mt_232 dJ6_bitCount_0f7a4_11 rfl) (v2 := (858993459 : Int32)) rfl).trans <|
  (r_bin (pg_of mt_232 dJ6_bitCount_0f7a4_14 rfl)).trans <|
  (r_ild (pg_of mt_232 dJ6_bitCount_0f7a4_15 rfl) rfl).trans <|
  (r_con (pg_of mt_232 dJ6_bitCount_0f7a4_16 rfl) (v2 := (2 : Int32)) (by decide)).trans <|
  (r_bin (pg_of mt_232 dJ6_bitCount_0f7a4_17 rfl)).trans <|
  (r_con (pg_of mt_232 dJ6_bitCount_0f7a4_18 rfl) (v2 := (858993459 : Int32)) rfl).trans <|
  (r_bin (pg_of mt_232 dJ6_bitCount_0f7a4_21 rfl)).trans <|
  (r_bin (pg_of mt_232 dJ6_bitCount_0f7a4_22 rfl)).trans <|
  (r_ist (pg_of mt_232 dJ6_bitCount_0f7a4_23 rfl) (Nat.le_of_ble_eq_true rfl) rfl).trans <|
  (r_ild (pg_of mt_232 dJ6_bitCount_0f7a4_24 rfl) rfl).trans <|
  (r_ild (pg_of mt_232 dJ6_bitCount_0f7a4_25 rfl) rfl).trans <|
  (r_con (pg_of mt_232 dJ6_bitCount_0f7a4_26 rfl) (v2 := (4 : Int32)) (by decide)).trans <|
  (r_bin (pg_of mt_232 dJ6_bitCount_0f7a4_27 rfl)).trans <|
  (r_bin (pg_of mt_232 dJ6_bitCount_0f7a4_28 rfl)).trans <|
  (r_con (pg_of mt_232 dJ6_bitCount_0f7a4_29 rfl) (v2 := (252645135 : Int32)) rfl).trans <|
  (r_bin (pg_of mt_232 dJ6_bitCount_0f7a4_32 rfl)).trans <|
  (r_ist (pg_of mt_232 dJ6_bitCount_0f7a4_33 rfl) (Nat.le_of_ble_eq_true rfl) rfl).trans <|
  (r_ild (pg_of mt_232 dJ6_bitCount_0f7a4_34 rfl) rfl).trans <|
  (r_ild (pg_of mt_232 dJ6_bitCount_0f7a4_35 rfl) rfl).trans <|
  (r_con (pg_of mt_232 dJ6_bitCount_0f7a4_36 rfl) (v2 := (8 : Int32)) (by decide)).trans <|
  (r_bin (pg_of mt_232 dJ6_bitCount_0f7a4_38 rfl)).trans <|
  (r_bin (pg_of mt_232 dJ6_bitCount_0f7a4_39 rfl)).trans <|
  (r_ist (pg_of mt_232 dJ6_bitCount_0f7a4_40 rfl) (Nat.le_of_ble_eq_true rfl) rfl).trans <|
  (r_ild (pg_of mt_232 dJ6_bitCount_0f7a4_41 rfl) rfl).trans <|
  (r_ild (pg_of mt_232 dJ6_bitCount_0f7a4_42 rfl) rfl).trans <|
  (r_con (pg_of mt_232 dJ6_bitCount_0f7a4_43 rfl) (v2 := (16 : Int32)) (by decide)).trans <|
  (r_bin (pg_of mt_232 dJ6_bitCount_0f7a4_45 rfl)).trans <|
  (r_bin (pg_of mt_232 dJ6_bitCount_0f7a4_46 rfl)).trans <|
  (r_ist (pg_of mt_232 dJ6_bitCount_0f7a4_47 rfl) (Nat.le_of_ble_eq_true rfl) rfl).trans <|
  (r_ild (pg_of mt_232 dJ6_bitCount_0f7a4_48 rfl) rfl).trans <|
  (r_con (pg_of mt_232 dJ6_bitCount_0f7a4_49 rfl) (v2 := (63 : Int32)) (by decide)).trans <|
  (r_bin (pg_of mt_232 dJ6_bitCount_0f7a4_51 rfl)).trans <|
  (r_ri (pg_of mt_232 dJ6_bitCount_0f7a4_52 rfl) mt_232 rfl)
end
