/-! ===== blocks (laid by a program: wip/whole/layblk.py) ===== -/
section
variable {xs : Nat → Int32} {L : Nat} {f a : Nat → Nat → Int32} {g : Nat → Nat → Int64}
-- 55 LeafFalls.feed(JI)I
theorem b55_0 (l1 : Int64) (l3 : Int32) (l4 : ma_V) : rn xs L 55 0 [vR 0, vL l1, (vS 0), vI l3, l4] [] (mw f a g) = (ev xs L 56 3 [vI l3, vI (1 : Int32), vI (8 : Int32)] (mw f a g)).bind (fun b => rn xs L 55 7 [vR 0, vL l1, (vS 0), vI l3, l4] (b.1.toList ++ []) b.2) :=
  (r_ild (pg_of mt_55 dX5_feed_0 rfl) rfl).trans <|
  (r_con (pg_of mt_55 dX5_feed_1 rfl) (v2 := (1 : Int32)) (by decide)).trans <|
  (r_con (pg_of mt_55 dX5_feed_2 rfl) (v2 := (8 : Int32)) (by decide)).trans <|
  (r_call (t := tt_55) (t2 := tt_56) (pg_of mt_55 dX5_feed_4 rfl) mt_55 mt_56 rfl rfl rfl rfl rfl)
theorem b55_7 (l1 : Int64) (l3 : Int32) (l4 : ma_V) (s0 : Int32) : rn xs L 55 7 [vR 0, vL l1, (vS 0), vI l3, l4] [vI s0] (mw f a g) = if s0 = 0 then rn xs L 55 10 [vR 0, vL l1, (vS 0), vI l3, l4] [] (mw f a g) else rn xs L 55 12 [vR 0, vL l1, (vS 0), vI l3, l4] [] (mw f a g) :=
  (r_ne0 (pg_of mt_55 dX5_feed_7 rfl))
theorem b55_10 (l1 : Int64) (l3 : Int32) (l4 : ma_V) : rn xs L 55 10 [vR 0, vL l1, (vS 0), vI l3, l4] [] (mw f a g) = some (some (vI (-1 : Int32)), (mw f a g)) :=
  (r_con (pg_of mt_55 dX5_feed_10 rfl) (v2 := (-1 : Int32)) (by decide)).trans <|
  (r_ri (pg_of mt_55 dX5_feed_11 rfl) mt_55 rfl)
theorem b55_12 (l1 : Int64) (l3 : Int32) (l4 : ma_V) : rn xs L 55 12 [vR 0, vL l1, (vS 0), vI l3, l4] [] (mw f a g) = if (200 : Int32) < ((f 25 1) + l3) then rn xs L 55 27 [vR 0, vL l1, (vS 0), vI l3, l4] [] (mw f a g) else rn xs L 55 30 [vR 0, vL l1, (vS 0), vI l3, l4] [] (mw f a g) :=
  (r_ald (pg_of mt_55 dX5_feed_12 rfl) rfl).trans <|
  (r_gtr (a := 25) (pg_of mt_55 dX5_feed_13 rfl) rfl rfl).trans <|
  (r_gti (pg_of mt_55 dX5_feed_16 rfl) rfl).trans <|
  (r_ild (pg_of mt_55 dX5_feed_19 rfl) rfl).trans <|
  (r_bin (pg_of mt_55 dX5_feed_20 rfl)).trans <|
  (r_con (pg_of mt_55 dX5_feed_21 rfl) (v2 := (200 : Int32)) (by decide)).trans <|
  (r_le (pg_of mt_55 dX5_feed_24 rfl))
theorem b55_27 (l1 : Int64) (l3 : Int32) (l4 : ma_V) : rn xs L 55 27 [vR 0, vL l1, (vS 0), vI l3, l4] [] (mw f a g) = some (some (vI (-2 : Int32)), (mw f a g)) :=
  (r_con (pg_of mt_55 dX5_feed_27 rfl) (v2 := (-2 : Int32)) (by decide)).trans <|
  (r_ri (pg_of mt_55 dX5_feed_29 rfl) mt_55 rfl)
theorem b55_30 (l1 : Int64) (l3 : Int32) (l4 : ma_V) : rn xs L 55 30 [vR 0, vL l1, (vS 0), vI l3, l4] [] (mw f a g) = rn xs L 55 33 [vR 0, vL l1, (vS 0), vI l3, vI (0 : Int32)] [] (mw f a g) :=
  (r_con (pg_of mt_55 dX5_feed_30 rfl) (v2 := (0 : Int32)) (by decide)).trans <|
  (r_ist (pg_of mt_55 dX5_feed_31 rfl) (Nat.le_of_ble_eq_true rfl) rfl)
theorem b55_33 (l1 : Int64) (l3 : Int32) (l4 : Int32) : rn xs L 55 33 [vR 0, vL l1, (vS 0), vI l3, vI l4] [] (mw f a g) = if l4 < l3 then rn xs L 55 39 [vR 0, vL l1, (vS 0), vI l3, vI l4] [] (mw f a g) else rn xs L 55 82 [vR 0, vL l1, (vS 0), vI l3, vI l4] [] (mw f a g) :=
  (r_ild (pg_of mt_55 dX5_feed_33 rfl) rfl).trans <|
  (r_ild (pg_of mt_55 dX5_feed_35 rfl) rfl).trans <|
  (r_ge (pg_of mt_55 dX5_feed_36 rfl))
theorem b55_39 (l1 : Int64) (l3 : Int32) (l4 : Int32) (h1 : ma_in ((f 25 1)) 200 = true) : rn xs L 55 39 [vR 0, vL l1, (vS 0), vI l3, vI l4] [] (mw f a g) = rn xs L 55 33 [vR 0, vL l1, (vS 0), vI l3, vI (l4 + (1 : Int32))] [] (mw ((ma_u2 f 25 1 (((f 25 1) + (1 : Int32))))) ((ma_u2 a 26 ((f 25 1)).toNatClampNeg (vp_nar .byte (((((((l1).toUInt64 >>> ((((8 : Int32) * l4)).toInt64.toUInt64 &&& Int64.toUInt64 63)).toInt64)).toInt32).toInt8.toInt32))))) g) :=
  (r_ald (pg_of mt_55 dX5_feed_39 rfl) rfl).trans <|
  (r_gtr (a := 25) (pg_of mt_55 dX5_feed_40 rfl) rfl rfl).trans <|
  (r_gtr (a := 26) (pg_of mt_55 dX5_feed_43 rfl) rfl rfl).trans <|
  (r_ald (pg_of mt_55 dX5_feed_46 rfl) rfl).trans <|
  (r_gtr (a := 25) (pg_of mt_55 dX5_feed_47 rfl) rfl rfl).trans <|
  (r_gti (pg_of mt_55 dX5_feed_50 rfl) rfl).trans <|
  (r_lld (pg_of mt_55 dX5_feed_53 rfl) rfl).trans <|
  (r_con (pg_of mt_55 dX5_feed_54 rfl) (v2 := (8 : Int32)) (by decide)).trans <|
  (r_ild (pg_of mt_55 dX5_feed_56 rfl) rfl).trans <|
  (r_bin (pg_of mt_55 dX5_feed_58 rfl)).trans <|
  (r_lsh (pg_of mt_55 dX5_feed_59 rfl)).trans <|
  (r_l2i (pg_of mt_55 dX5_feed_60 rfl)).trans <|
  (r_una (pg_of mt_55 dX5_feed_61 rfl)).trans <|
  (r_bast (pg_of mt_55 dX5_feed_62 rfl) rfl h1).trans <|
  (r_ald (pg_of mt_55 dX5_feed_63 rfl) rfl).trans <|
  (r_gtr (a := 25) (pg_of mt_55 dX5_feed_64 rfl) rfl rfl).trans <|
  (r_dup (pg_of mt_55 dX5_feed_67 rfl) rfl).trans <|
  (r_gti (pg_of mt_55 dX5_feed_68 rfl) rfl).trans <|
  (r_con (pg_of mt_55 dX5_feed_71 rfl) (v2 := (1 : Int32)) (by decide)).trans <|
  (r_bin (pg_of mt_55 dX5_feed_72 rfl)).trans <|
  (r_pti (pg_of mt_55 dX5_feed_73 rfl) rfl rfl).trans <|
  (r_inc (pg_of mt_55 dX5_feed_76 rfl) (y := (1 : Int32)) (by decide) rfl rfl).trans <|
  (r_gto (pg_of mt_55 dX5_feed_79 rfl))
theorem b55_82 (l1 : Int64) (l3 : Int32) (l4 : Int32) : rn xs L 55 82 [vR 0, vL l1, (vS 0), vI l3, vI l4] [] (mw f a g) = some (some (vI (f 25 1)), (mw f a g)) :=
  (r_ald (pg_of mt_55 dX5_feed_82 rfl) rfl).trans <|
  (r_gtr (a := 25) (pg_of mt_55 dX5_feed_83 rfl) rfl rfl).trans <|
  (r_gti (pg_of mt_55 dX5_feed_86 rfl) rfl).trans <|
  (r_ri (pg_of mt_55 dX5_feed_89 rfl) mt_55 rfl)
-- 56 LeafFalls.isWithin(III)Z
theorem b56_0 (l0 : Int32) (l1 : Int32) (l2 : Int32) : rn xs L 56 0 [vI l0, vI l1, vI l2] [] (mw f a g) = if l0 < l1 then rn xs L 56 14 [vI l0, vI l1, vI l2] [] (mw f a g) else rn xs L 56 5 [vI l0, vI l1, vI l2] [] (mw f a g) :=
  (r_ild (pg_of mt_56 dX5_isWithin_0 rfl) rfl).trans <|
  (r_ild (pg_of mt_56 dX5_isWithin_1 rfl) rfl).trans <|
  (r_lt (pg_of mt_56 dX5_isWithin_2 rfl))
theorem b56_5 (l0 : Int32) (l1 : Int32) (l2 : Int32) : rn xs L 56 5 [vI l0, vI l1, vI l2] [] (mw f a g) = if l2 < l0 then rn xs L 56 14 [vI l0, vI l1, vI l2] [] (mw f a g) else rn xs L 56 10 [vI l0, vI l1, vI l2] [] (mw f a g) :=
  (r_ild (pg_of mt_56 dX5_isWithin_5 rfl) rfl).trans <|
  (r_ild (pg_of mt_56 dX5_isWithin_6 rfl) rfl).trans <|
  (r_gt (pg_of mt_56 dX5_isWithin_7 rfl))
theorem b56_10 (l0 : Int32) (l1 : Int32) (l2 : Int32) : rn xs L 56 10 [vI l0, vI l1, vI l2] [] (mw f a g) = some (some (vI (1 : Int32)), (mw f a g)) :=
  (r_con (pg_of mt_56 dX5_isWithin_10 rfl) (v2 := (1 : Int32)) (by decide)).trans <|
  (r_gto (pg_of mt_56 dX5_isWithin_11 rfl)).trans <|
  (r_rz (pg_of mt_56 dX5_isWithin_15 rfl) mt_56 rfl (Or.inr rfl))
theorem b56_14 (l0 : Int32) (l1 : Int32) (l2 : Int32) : rn xs L 56 14 [vI l0, vI l1, vI l2] [] (mw f a g) = some (some (vI (0 : Int32)), (mw f a g)) :=
  (r_con (pg_of mt_56 dX5_isWithin_14 rfl) (v2 := (0 : Int32)) (by decide)).trans <|
  (r_rz (pg_of mt_56 dX5_isWithin_15 rfl) mt_56 rfl (Or.inl rfl))
-- 57 LeafFalls.autumn()I
theorem b57_0 (l1 : ma_V) : rn xs L 57 0 [vR 0, l1] [] (mw f a g) = (ev xs L 31 2 [vR 9] (mw f a g)).bind (fun b => rn xs L 57 7 [vR 0, l1] (b.1.toList ++ []) b.2) :=
  (r_ald (pg_of mt_57 dX5_autumn_0 rfl) rfl).trans <|
  (r_gtr (a := 9) (pg_of mt_57 dX5_autumn_1 rfl) rfl rfl).trans <|
  (r_call (t := tt_57) (t2 := tt_31) (pg_of mt_57 dX5_autumn_4 rfl) mt_57 mt_31 rfl rfl (rcv1 rfl) rfl rfl)
theorem b57_7 (l1 : ma_V) : rn xs L 57 7 [vR 0, l1] [] (mw f a g) = (ev xs L 15 5 [vR 25, vR 9] (mw ((ma_u2 f 9 10 ((f 1 10)))) a g)).bind (fun b => rn xs L 57 32 [vR 0, l1] (b.1.toList ++ []) b.2) :=
  (r_ald (pg_of mt_57 dX5_autumn_7 rfl) rfl).trans <|
  (r_gtr (a := 9) (pg_of mt_57 dX5_autumn_8 rfl) rfl rfl).trans <|
  (r_ald (pg_of mt_57 dX5_autumn_11 rfl) rfl).trans <|
  (r_gtr (a := 1) (pg_of mt_57 dX5_autumn_12 rfl) rfl rfl).trans <|
  (r_gti (pg_of mt_57 dX5_autumn_15 rfl) rfl).trans <|
  (r_pti (pg_of mt_57 dX5_autumn_18 rfl) rfl rfl).trans <|
  (r_ald (pg_of mt_57 dX5_autumn_21 rfl) rfl).trans <|
  (r_gtr (a := 25) (pg_of mt_57 dX5_autumn_22 rfl) rfl rfl).trans <|
  (r_ald (pg_of mt_57 dX5_autumn_25 rfl) rfl).trans <|
  (r_gtr (a := 9) (pg_of mt_57 dX5_autumn_26 rfl) rfl rfl).trans <|
  (r_call (t := tt_57) (t2 := tt_15) (pg_of mt_57 dX5_autumn_29 rfl) mt_57 mt_15 rfl rfl (rcv1 rfl) rfl rfl)
theorem b57_32 (l1 : ma_V) (s0 : Int32) : rn xs L 57 32 [vR 0, l1] [vI s0] (mw f a g) = if s0 < 0 then rn xs L 57 50 [vR 0, vI s0] [] (mw ((ma_u2 f 25 1 ((0 : Int32)))) a g) else rn xs L 57 45 [vR 0, vI s0] [] (mw ((ma_u2 f 25 1 ((0 : Int32)))) a g) :=
  (r_ist (pg_of mt_57 dX5_autumn_32 rfl) (Nat.le_of_ble_eq_true rfl) rfl).trans <|
  (r_ald (pg_of mt_57 dX5_autumn_33 rfl) rfl).trans <|
  (r_gtr (a := 25) (pg_of mt_57 dX5_autumn_34 rfl) rfl rfl).trans <|
  (r_con (pg_of mt_57 dX5_autumn_37 rfl) (v2 := (0 : Int32)) (by decide)).trans <|
  (r_pti (pg_of mt_57 dX5_autumn_38 rfl) rfl rfl).trans <|
  (r_ild (pg_of mt_57 dX5_autumn_41 rfl) rfl).trans <|
  (r_lt0 (pg_of mt_57 dX5_autumn_42 rfl))
theorem b57_45 (l1 : Int32) : rn xs L 57 45 [vR 0, vI l1] [] (mw f a g) = some (some (vI ((-100 : Int32) - l1)), (mw f a g)) :=
  (r_con (pg_of mt_57 dX5_autumn_45 rfl) (v2 := (-100 : Int32)) (by decide)).trans <|
  (r_ild (pg_of mt_57 dX5_autumn_47 rfl) rfl).trans <|
  (r_bin (pg_of mt_57 dX5_autumn_48 rfl)).trans <|
  (r_ri (pg_of mt_57 dX5_autumn_49 rfl) mt_57 rfl)
theorem b57_50 (l1 : Int32) : rn xs L 57 50 [vR 0, vI l1] [] (mw f a g) = (ev xs L 33 2 [vR 1, vR 9] (mw f a g)).bind (fun b => rn xs L 57 61 [vR 0, vI l1] (b.1.toList ++ []) b.2) :=
  (r_ald (pg_of mt_57 dX5_autumn_50 rfl) rfl).trans <|
  (r_gtr (a := 1) (pg_of mt_57 dX5_autumn_51 rfl) rfl rfl).trans <|
  (r_ald (pg_of mt_57 dX5_autumn_54 rfl) rfl).trans <|
  (r_gtr (a := 9) (pg_of mt_57 dX5_autumn_55 rfl) rfl rfl).trans <|
  (r_call (t := tt_57) (t2 := tt_33) (pg_of mt_57 dX5_autumn_58 rfl) mt_57 mt_33 rfl rfl (rcv1 rfl) rfl rfl)
theorem b57_61 (l1 : Int32) : rn xs L 57 61 [vR 0, vI l1] [] (mw f a g) = some (some (vI (((ma_u2 f 0 6 ((0 : Int32)))) 1 7)), (mw ((ma_u2 f 0 6 ((0 : Int32)))) a g)) :=
  (r_ald (pg_of mt_57 dX5_autumn_61 rfl) rfl).trans <|
  (r_con (pg_of mt_57 dX5_autumn_62 rfl) (v2 := (0 : Int32)) (by decide)).trans <|
  (r_pti (pg_of mt_57 dX5_autumn_63 rfl) rfl rfl).trans <|
  (r_ald (pg_of mt_57 dX5_autumn_66 rfl) rfl).trans <|
  (r_gtr (a := 1) (pg_of mt_57 dX5_autumn_67 rfl) rfl rfl).trans <|
  (r_gti (pg_of mt_57 dX5_autumn_70 rfl) rfl).trans <|
  (r_ri (pg_of mt_57 dX5_autumn_73 rfl) mt_57 rfl)
-- 58 LeafFalls.mostOfLaw(I)I
theorem b58_0 (l0 : Int32) : rn xs L 58 0 [vI l0] [] (mw f a g) = if l0 = (3 : Int32) then rn xs L 58 5 [vI l0] [] (mw f a g) else rn xs L 58 10 [vI l0] [] (mw f a g) :=
  (r_ild (pg_of mt_58 dX5_mostOfLaw_0 rfl) rfl).trans <|
  (r_con (pg_of mt_58 dX5_mostOfLaw_1 rfl) (v2 := (3 : Int32)) (by decide)).trans <|
  (r_ne (pg_of mt_58 dX5_mostOfLaw_2 rfl))
theorem b58_5 (l0 : Int32) : rn xs L 58 5 [vI l0] [] (mw f a g) = some (some (vI (99 : Int32)), (mw f a g)) :=
  (r_con (pg_of mt_58 dX5_mostOfLaw_5 rfl) (v2 := (99 : Int32)) (by decide)).trans <|
  (r_gto (pg_of mt_58 dX5_mostOfLaw_7 rfl)).trans <|
  (r_ri (pg_of mt_58 dX5_mostOfLaw_12 rfl) mt_58 rfl)
theorem b58_10 (l0 : Int32) : rn xs L 58 10 [vI l0] [] (mw f a g) = some (some (vI (9 : Int32)), (mw f a g)) :=
  (r_con (pg_of mt_58 dX5_mostOfLaw_10 rfl) (v2 := (9 : Int32)) (by decide)).trans <|
  (r_ri (pg_of mt_58 dX5_mostOfLaw_12 rfl) mt_58 rfl)
-- 59 LeafFalls.set(II)I
theorem b59_0 (l1 : Int32) (l2 : Int32) (l3 : ma_V) : rn xs L 59 0 [vR 0, vI l1, vI l2, l3] [] (mw f a g) = (ev xs L 56 3 [vI l1, vI (0 : Int32), vI (3 : Int32)] (mw f a g)).bind (fun b => rn xs L 59 6 [vR 0, vI l1, vI l2, l3] (b.1.toList ++ []) b.2) :=
  (r_ild (pg_of mt_59 dX5_set_0 rfl) rfl).trans <|
  (r_con (pg_of mt_59 dX5_set_1 rfl) (v2 := (0 : Int32)) (by decide)).trans <|
  (r_con (pg_of mt_59 dX5_set_2 rfl) (v2 := (3 : Int32)) (by decide)).trans <|
  (r_call (t := tt_59) (t2 := tt_56) (pg_of mt_59 dX5_set_3 rfl) mt_59 mt_56 rfl rfl rfl rfl rfl)
theorem b59_6 (l1 : Int32) (l2 : Int32) (l3 : ma_V) (s0 : Int32) : rn xs L 59 6 [vR 0, vI l1, vI l2, l3] [vI s0] (mw f a g) = if s0 = 0 then rn xs L 59 21 [vR 0, vI l1, vI l2, l3] [] (mw f a g) else rn xs L 59 9 [vR 0, vI l1, vI l2, l3] [] (mw f a g) :=
  (r_eq0 (pg_of mt_59 dX5_set_6 rfl))
theorem b59_9 (l1 : Int32) (l2 : Int32) (l3 : ma_V) : rn xs L 59 9 [vR 0, vI l1, vI l2, l3] [] (mw f a g) = (ev xs L 58 1 [vI l1] (mw f a g)).bind (fun b => rn xs L 59 15 [vR 0, vI l1, vI l2, l3] (b.1.toList ++ [vI (0 : Int32), vI l2]) b.2) :=
  (r_ild (pg_of mt_59 dX5_set_9 rfl) rfl).trans <|
  (r_con (pg_of mt_59 dX5_set_10 rfl) (v2 := (0 : Int32)) (by decide)).trans <|
  (r_ild (pg_of mt_59 dX5_set_11 rfl) rfl).trans <|
  (r_call (t := tt_59) (t2 := tt_58) (pg_of mt_59 dX5_set_12 rfl) mt_59 mt_58 rfl rfl rfl rfl rfl)
theorem b59_15 (l1 : Int32) (l2 : Int32) (l3 : ma_V) (s0 : Int32) (s1 : Int32) (s2 : Int32) : rn xs L 59 15 [vR 0, vI l1, vI l2, l3] [vI s0, vI s1, vI s2] (mw f a g) = (ev xs L 56 3 [vI s2, vI s1, vI s0] (mw f a g)).bind (fun b => rn xs L 59 18 [vR 0, vI l1, vI l2, l3] (b.1.toList ++ []) b.2) :=
  (r_call (t := tt_59) (t2 := tt_56) (pg_of mt_59 dX5_set_15 rfl) mt_59 mt_56 rfl rfl rfl rfl rfl)
theorem b59_18 (l1 : Int32) (l2 : Int32) (l3 : ma_V) (s0 : Int32) : rn xs L 59 18 [vR 0, vI l1, vI l2, l3] [vI s0] (mw f a g) = if s0 = 0 then rn xs L 59 21 [vR 0, vI l1, vI l2, l3] [] (mw f a g) else rn xs L 59 23 [vR 0, vI l1, vI l2, l3] [] (mw f a g) :=
  (r_ne0 (pg_of mt_59 dX5_set_18 rfl))
theorem b59_21 (l1 : Int32) (l2 : Int32) (l3 : ma_V) : rn xs L 59 21 [vR 0, vI l1, vI l2, l3] [] (mw f a g) = some (some (vI (-1 : Int32)), (mw f a g)) :=
  (r_con (pg_of mt_59 dX5_set_21 rfl) (v2 := (-1 : Int32)) (by decide)).trans <|
  (r_ri (pg_of mt_59 dX5_set_22 rfl) mt_59 rfl)
theorem b59_23 (l1 : Int32) (l2 : Int32) (l3 : ma_V) (h1 : ma_in l1 4 = true) (h2 : ma_in l1 4 = true) : rn xs L 59 23 [vR 0, vI l1, vI l2, l3] [] (mw f a g) = some (some (vI (a 2 l1.toNatClampNeg)), (mw f ((ma_u2 a 2 l1.toNatClampNeg l2)) g)) :=
  (r_ald (pg_of mt_59 dX5_set_23 rfl) rfl).trans <|
  (r_gtr (a := 1) (pg_of mt_59 dX5_set_24 rfl) rfl rfl).trans <|
  (r_gtr (a := 2) (pg_of mt_59 dX5_set_27 rfl) rfl rfl).trans <|
  (r_ild (pg_of mt_59 dX5_set_30 rfl) rfl).trans <|
  (r_iald (pg_of mt_59 dX5_set_31 rfl) rfl h1).trans <|
  (r_ist (pg_of mt_59 dX5_set_32 rfl) (Nat.le_of_ble_eq_true rfl) rfl).trans <|
  (r_ald (pg_of mt_59 dX5_set_33 rfl) rfl).trans <|
  (r_gtr (a := 1) (pg_of mt_59 dX5_set_34 rfl) rfl rfl).trans <|
  (r_gtr (a := 2) (pg_of mt_59 dX5_set_37 rfl) rfl rfl).trans <|
  (r_ild (pg_of mt_59 dX5_set_40 rfl) rfl).trans <|
  (r_ild (pg_of mt_59 dX5_set_41 rfl) rfl).trans <|
  (r_iast (pg_of mt_59 dX5_set_42 rfl) rfl h2).trans <|
  (r_ild (pg_of mt_59 dX5_set_43 rfl) rfl).trans <|
  (r_ri (pg_of mt_59 dX5_set_44 rfl) mt_59 rfl)
-- 60 LeafFalls.lawOf(I)I
theorem b60_0 (l1 : Int32) : rn xs L 60 0 [vR 0, vI l1] [] (mw f a g) = (ev xs L 56 3 [vI l1, vI (0 : Int32), vI (3 : Int32)] (mw f a g)).bind (fun b => rn xs L 60 6 [vR 0, vI l1] (b.1.toList ++ []) b.2) :=
  (r_ild (pg_of mt_60 dX5_lawOf_0 rfl) rfl).trans <|
  (r_con (pg_of mt_60 dX5_lawOf_1 rfl) (v2 := (0 : Int32)) (by decide)).trans <|
  (r_con (pg_of mt_60 dX5_lawOf_2 rfl) (v2 := (3 : Int32)) (by decide)).trans <|
  (r_call (t := tt_60) (t2 := tt_56) (pg_of mt_60 dX5_lawOf_3 rfl) mt_60 mt_56 rfl rfl rfl rfl rfl)
theorem b60_6 (l1 : Int32) (s0 : Int32) : rn xs L 60 6 [vR 0, vI l1] [vI s0] (mw f a g) = if s0 = 0 then rn xs L 60 21 [vR 0, vI l1] [] (mw f a g) else rn xs L 60 9 [vR 0, vI l1] [] (mw f a g) :=
  (r_eq0 (pg_of mt_60 dX5_lawOf_6 rfl))
theorem b60_9 (l1 : Int32) (h1 : ma_in l1 4 = true) : rn xs L 60 9 [vR 0, vI l1] [] (mw f a g) = some (some (vI (a 2 l1.toNatClampNeg)), (mw f a g)) :=
  (r_ald (pg_of mt_60 dX5_lawOf_9 rfl) rfl).trans <|
  (r_gtr (a := 1) (pg_of mt_60 dX5_lawOf_10 rfl) rfl rfl).trans <|
  (r_gtr (a := 2) (pg_of mt_60 dX5_lawOf_13 rfl) rfl rfl).trans <|
  (r_ild (pg_of mt_60 dX5_lawOf_16 rfl) rfl).trans <|
  (r_iald (pg_of mt_60 dX5_lawOf_17 rfl) rfl h1).trans <|
  (r_gto (pg_of mt_60 dX5_lawOf_18 rfl)).trans <|
  (r_ri (pg_of mt_60 dX5_lawOf_22 rfl) mt_60 rfl)
theorem b60_21 (l1 : Int32) : rn xs L 60 21 [vR 0, vI l1] [] (mw f a g) = some (some (vI (-1 : Int32)), (mw f a g)) :=
  (r_con (pg_of mt_60 dX5_lawOf_21 rfl) (v2 := (-1 : Int32)) (by decide)).trans <|
  (r_ri (pg_of mt_60 dX5_lawOf_22 rfl) mt_60 rfl)
-- 61 LeafFalls.leaf(IIII)I
theorem b61_0 (l1 : Int32) (l2 : Int32) (l3 : Int32) (l4 : Int32) : rn xs L 61 0 [vR 0, vI l1, vI l2, vI l3, vI l4] [] (mw f a g) = (ev xs L 56 3 [vI l1, vI (0 : Int32), vI (5 : Int32)] (mw f a g)).bind (fun b => rn xs L 61 6 [vR 0, vI l1, vI l2, vI l3, vI l4] (b.1.toList ++ []) b.2) :=
  (r_ild (pg_of mt_61 dX5_leaf_0 rfl) rfl).trans <|
  (r_con (pg_of mt_61 dX5_leaf_1 rfl) (v2 := (0 : Int32)) (by decide)).trans <|
  (r_con (pg_of mt_61 dX5_leaf_2 rfl) (v2 := (5 : Int32)) (by decide)).trans <|
  (r_call (t := tt_61) (t2 := tt_56) (pg_of mt_61 dX5_leaf_3 rfl) mt_61 mt_56 rfl rfl rfl rfl rfl)
theorem b61_6 (l1 : Int32) (l2 : Int32) (l3 : Int32) (l4 : Int32) (s0 : Int32) : rn xs L 61 6 [vR 0, vI l1, vI l2, vI l3, vI l4] [vI s0] (mw f a g) = if s0 = 0 then rn xs L 61 39 [vR 0, vI l1, vI l2, vI l3, vI l4] [] (mw f a g) else rn xs L 61 9 [vR 0, vI l1, vI l2, vI l3, vI l4] [] (mw f a g) :=
  (r_eq0 (pg_of mt_61 dX5_leaf_6 rfl))
theorem b61_9 (l1 : Int32) (l2 : Int32) (l3 : Int32) (l4 : Int32) : rn xs L 61 9 [vR 0, vI l1, vI l2, vI l3, vI l4] [] (mw f a g) = (ev xs L 56 3 [vI l2, vI (0 : Int32), vI (5 : Int32)] (mw f a g)).bind (fun b => rn xs L 61 15 [vR 0, vI l1, vI l2, vI l3, vI l4] (b.1.toList ++ []) b.2) :=
  (r_ild (pg_of mt_61 dX5_leaf_9 rfl) rfl).trans <|
  (r_con (pg_of mt_61 dX5_leaf_10 rfl) (v2 := (0 : Int32)) (by decide)).trans <|
  (r_con (pg_of mt_61 dX5_leaf_11 rfl) (v2 := (5 : Int32)) (by decide)).trans <|
  (r_call (t := tt_61) (t2 := tt_56) (pg_of mt_61 dX5_leaf_12 rfl) mt_61 mt_56 rfl rfl rfl rfl rfl)
theorem b61_15 (l1 : Int32) (l2 : Int32) (l3 : Int32) (l4 : Int32) (s0 : Int32) : rn xs L 61 15 [vR 0, vI l1, vI l2, vI l3, vI l4] [vI s0] (mw f a g) = if s0 = 0 then rn xs L 61 39 [vR 0, vI l1, vI l2, vI l3, vI l4] [] (mw f a g) else rn xs L 61 18 [vR 0, vI l1, vI l2, vI l3, vI l4] [] (mw f a g) :=
  (r_eq0 (pg_of mt_61 dX5_leaf_15 rfl))
theorem b61_18 (l1 : Int32) (l2 : Int32) (l3 : Int32) (l4 : Int32) : rn xs L 61 18 [vR 0, vI l1, vI l2, vI l3, vI l4] [] (mw f a g) = (ev xs L 56 3 [vI l3, vI (0 : Int32), vI (99 : Int32)] (mw f a g)).bind (fun b => rn xs L 61 25 [vR 0, vI l1, vI l2, vI l3, vI l4] (b.1.toList ++ []) b.2) :=
  (r_ild (pg_of mt_61 dX5_leaf_18 rfl) rfl).trans <|
  (r_con (pg_of mt_61 dX5_leaf_19 rfl) (v2 := (0 : Int32)) (by decide)).trans <|
  (r_con (pg_of mt_61 dX5_leaf_20 rfl) (v2 := (99 : Int32)) (by decide)).trans <|
  (r_call (t := tt_61) (t2 := tt_56) (pg_of mt_61 dX5_leaf_22 rfl) mt_61 mt_56 rfl rfl rfl rfl rfl)
theorem b61_25 (l1 : Int32) (l2 : Int32) (l3 : Int32) (l4 : Int32) (s0 : Int32) : rn xs L 61 25 [vR 0, vI l1, vI l2, vI l3, vI l4] [vI s0] (mw f a g) = if s0 = 0 then rn xs L 61 39 [vR 0, vI l1, vI l2, vI l3, vI l4] [] (mw f a g) else rn xs L 61 28 [vR 0, vI l1, vI l2, vI l3, vI l4] [] (mw f a g) :=
  (r_eq0 (pg_of mt_61 dX5_leaf_25 rfl))
theorem b61_28 (l1 : Int32) (l2 : Int32) (l3 : Int32) (l4 : Int32) : rn xs L 61 28 [vR 0, vI l1, vI l2, vI l3, vI l4] [] (mw f a g) = (ev xs L 56 3 [vI l4, vI (0 : Int32), vI (9 : Int32)] (mw f a g)).bind (fun b => rn xs L 61 36 [vR 0, vI l1, vI l2, vI l3, vI l4] (b.1.toList ++ []) b.2) :=
  (r_ild (pg_of mt_61 dX5_leaf_28 rfl) rfl).trans <|
  (r_con (pg_of mt_61 dX5_leaf_30 rfl) (v2 := (0 : Int32)) (by decide)).trans <|
  (r_con (pg_of mt_61 dX5_leaf_31 rfl) (v2 := (9 : Int32)) (by decide)).trans <|
  (r_call (t := tt_61) (t2 := tt_56) (pg_of mt_61 dX5_leaf_33 rfl) mt_61 mt_56 rfl rfl rfl rfl rfl)
theorem b61_36 (l1 : Int32) (l2 : Int32) (l3 : Int32) (l4 : Int32) (s0 : Int32) : rn xs L 61 36 [vR 0, vI l1, vI l2, vI l3, vI l4] [vI s0] (mw f a g) = if s0 = 0 then rn xs L 61 39 [vR 0, vI l1, vI l2, vI l3, vI l4] [] (mw f a g) else rn xs L 61 41 [vR 0, vI l1, vI l2, vI l3, vI l4] [] (mw f a g) :=
  (r_ne0 (pg_of mt_61 dX5_leaf_36 rfl))
theorem b61_39 (l1 : Int32) (l2 : Int32) (l3 : Int32) (l4 : Int32) : rn xs L 61 39 [vR 0, vI l1, vI l2, vI l3, vI l4] [] (mw f a g) = some (some (vI (-1 : Int32)), (mw f a g)) :=
  (r_con (pg_of mt_61 dX5_leaf_39 rfl) (v2 := (-1 : Int32)) (by decide)).trans <|
  (r_ri (pg_of mt_61 dX5_leaf_40 rfl) mt_61 rfl)
theorem b61_41 (l1 : Int32) (l2 : Int32) (l3 : Int32) (l4 : Int32) : rn xs L 61 41 [vR 0, vI l1, vI l2, vI l3, vI l4] [] (mw f a g) = if (f 1 7) < (8 : Int32) then rn xs L 61 56 [vR 0, vI l1, vI l2, vI l3, vI l4] [] (mw f a g) else rn xs L 61 53 [vR 0, vI l1, vI l2, vI l3, vI l4] [] (mw f a g) :=
  (r_ald (pg_of mt_61 dX5_leaf_41 rfl) rfl).trans <|
  (r_gtr (a := 1) (pg_of mt_61 dX5_leaf_42 rfl) rfl rfl).trans <|
  (r_gti (pg_of mt_61 dX5_leaf_45 rfl) rfl).trans <|
  (r_con (pg_of mt_61 dX5_leaf_48 rfl) (v2 := (8 : Int32)) (by decide)).trans <|
  (r_lt (pg_of mt_61 dX5_leaf_50 rfl))
theorem b61_53 (l1 : Int32) (l2 : Int32) (l3 : Int32) (l4 : Int32) : rn xs L 61 53 [vR 0, vI l1, vI l2, vI l3, vI l4] [] (mw f a g) = some (some (vI (-2 : Int32)), (mw f a g)) :=
  (r_con (pg_of mt_61 dX5_leaf_53 rfl) (v2 := (-2 : Int32)) (by decide)).trans <|
  (r_ri (pg_of mt_61 dX5_leaf_55 rfl) mt_61 rfl)
theorem b61_56 (l1 : Int32) (l2 : Int32) (l3 : Int32) (l4 : Int32) : rn xs L 61 56 [vR 0, vI l1, vI l2, vI l3, vI l4] [] (mw f a g) = (ev xs L 32 5 [vR 1, vI l1, vI l2, vI l3, vI l4] (mw f a g)).bind (fun b => rn xs L 61 68 [vR 0, vI l1, vI l2, vI l3, vI l4] (b.1.toList ++ []) b.2) :=
  (r_ald (pg_of mt_61 dX5_leaf_56 rfl) rfl).trans <|
  (r_gtr (a := 1) (pg_of mt_61 dX5_leaf_57 rfl) rfl rfl).trans <|
  (r_ild (pg_of mt_61 dX5_leaf_60 rfl) rfl).trans <|
  (r_ild (pg_of mt_61 dX5_leaf_61 rfl) rfl).trans <|
  (r_ild (pg_of mt_61 dX5_leaf_62 rfl) rfl).trans <|
  (r_ild (pg_of mt_61 dX5_leaf_63 rfl) rfl).trans <|
  (r_call (t := tt_61) (t2 := tt_32) (pg_of mt_61 dX5_leaf_65 rfl) mt_61 mt_32 rfl rfl (rcv1 rfl) rfl rfl)
theorem b61_68 (l1 : Int32) (l2 : Int32) (l3 : Int32) (l4 : Int32) : rn xs L 61 68 [vR 0, vI l1, vI l2, vI l3, vI l4] [] (mw f a g) = some (some (vI ((f 1 7) - (1 : Int32))), (mw f a g)) :=
  (r_ald (pg_of mt_61 dX5_leaf_68 rfl) rfl).trans <|
  (r_gtr (a := 1) (pg_of mt_61 dX5_leaf_69 rfl) rfl rfl).trans <|
  (r_gti (pg_of mt_61 dX5_leaf_72 rfl) rfl).trans <|
  (r_con (pg_of mt_61 dX5_leaf_75 rfl) (v2 := (1 : Int32)) (by decide)).trans <|
  (r_bin (pg_of mt_61 dX5_leaf_76 rfl)).trans <|
  (r_ri (pg_of mt_61 dX5_leaf_77 rfl) mt_61 rfl)
-- 62 LeafFalls.of(II)I
theorem sw62_14 {ls st : List ma_V} {w : ma_W} {x : Int32} : rn xs L 62 14 ls (vI x :: st) w = if x = 0 then rn xs L 62 56 ls st w else if x = 1 then rn xs L 62 66 ls st w else if x = 2 then rn xs L 62 76 ls st w else if x = 3 then rn xs L 62 86 ls st w else if x = 4 then rn xs L 62 96 ls st w else if x = 5 then rn xs L 62 113 ls st w else if x = 6 then rn xs L 62 123 ls st w else rn xs L 62 132 ls st w := by
  by_cases h0 : x = 0
  · rw [if_pos h0, h0]; exact r_swi (t := 56) (pg_of mt_62 dX5_of_14 rfl) (by decide)
  rw [if_neg h0]
  by_cases h1 : x = 1
  · rw [if_pos h1, h1]; exact r_swi (t := 66) (pg_of mt_62 dX5_of_14 rfl) (by decide)
  rw [if_neg h1]
  by_cases h2 : x = 2
  · rw [if_pos h2, h2]; exact r_swi (t := 76) (pg_of mt_62 dX5_of_14 rfl) (by decide)
  rw [if_neg h2]
  by_cases h3 : x = 3
  · rw [if_pos h3, h3]; exact r_swi (t := 86) (pg_of mt_62 dX5_of_14 rfl) (by decide)
  rw [if_neg h3]
  by_cases h4 : x = 4
  · rw [if_pos h4, h4]; exact r_swi (t := 96) (pg_of mt_62 dX5_of_14 rfl) (by decide)
  rw [if_neg h4]
  by_cases h5 : x = 5
  · rw [if_pos h5, h5]; exact r_swi (t := 113) (pg_of mt_62 dX5_of_14 rfl) (by decide)
  rw [if_neg h5]
  by_cases h6 : x = 6
  · rw [if_pos h6, h6]; exact r_swi (t := 123) (pg_of mt_62 dX5_of_14 rfl) (by decide)
  rw [if_neg h6]
  have e0 := i_nei (k := 0) (0 : Int32) (by decide) h0
  have e1 := i_nei (k := 1) (1 : Int32) (by decide) h1
  have e2 := i_nei (k := 2) (2 : Int32) (by decide) h2
  have e3 := i_nei (k := 3) (3 : Int32) (by decide) h3
  have e4 := i_nei (k := 4) (4 : Int32) (by decide) h4
  have e5 := i_nei (k := 5) (5 : Int32) (by decide) h5
  have e6 := i_nei (k := 6) (6 : Int32) (by decide) h6
  exact r_swi (t := 132) (pg_of mt_62 dX5_of_14 rfl) (tsw_out (by omega) (by decide) (by decide))
theorem b62_0 (l1 : Int32) (l2 : Int32) : rn xs L 62 0 [vR 0, vI l1, vI l2] [] (mw f a g) = (ev xs L 34 2 [vR 1, vI l1] (mw f a g)).bind (fun b => rn xs L 62 8 [vR 0, vI l1, vI l2] (b.1.toList ++ []) b.2) :=
  (r_ald (pg_of mt_62 dX5_of_0 rfl) rfl).trans <|
  (r_gtr (a := 1) (pg_of mt_62 dX5_of_1 rfl) rfl rfl).trans <|
  (r_ild (pg_of mt_62 dX5_of_4 rfl) rfl).trans <|
  (r_call (t := tt_62) (t2 := tt_34) (pg_of mt_62 dX5_of_5 rfl) mt_62 mt_34 rfl rfl (rcv1 rfl) rfl rfl)
theorem b62_8 (l1 : Int32) (l2 : Int32) (s0 : Int32) : rn xs L 62 8 [vR 0, vI l1, vI l2] [vI s0] (mw f a g) = if s0 = 0 then rn xs L 62 11 [vR 0, vI l1, vI l2] [] (mw f a g) else rn xs L 62 13 [vR 0, vI l1, vI l2] [] (mw f a g) :=
  (r_ne0 (pg_of mt_62 dX5_of_8 rfl))
theorem b62_11 (l1 : Int32) (l2 : Int32) : rn xs L 62 11 [vR 0, vI l1, vI l2] [] (mw f a g) = some (some (vI (-1 : Int32)), (mw f a g)) :=
  (r_con (pg_of mt_62 dX5_of_11 rfl) (v2 := (-1 : Int32)) (by decide)).trans <|
  (r_ri (pg_of mt_62 dX5_of_12 rfl) mt_62 rfl)
theorem b62_13 (l1 : Int32) (l2 : Int32) : rn xs L 62 13 [vR 0, vI l1, vI l2] [] (mw f a g) = if l2 = 0 then rn xs L 62 56 [vR 0, vI l1, vI l2] [] (mw f a g) else if l2 = 1 then rn xs L 62 66 [vR 0, vI l1, vI l2] [] (mw f a g) else if l2 = 2 then rn xs L 62 76 [vR 0, vI l1, vI l2] [] (mw f a g) else if l2 = 3 then rn xs L 62 86 [vR 0, vI l1, vI l2] [] (mw f a g) else if l2 = 4 then rn xs L 62 96 [vR 0, vI l1, vI l2] [] (mw f a g) else if l2 = 5 then rn xs L 62 113 [vR 0, vI l1, vI l2] [] (mw f a g) else if l2 = 6 then rn xs L 62 123 [vR 0, vI l1, vI l2] [] (mw f a g) else rn xs L 62 132 [vR 0, vI l1, vI l2] [] (mw f a g) :=
  (r_ild (pg_of mt_62 dX5_of_13 rfl) rfl).trans <|
  (sw62_14)
theorem b62_56 (l1 : Int32) (l2 : Int32) (h1 : ma_in l1 8 = true) : rn xs L 62 56 [vR 0, vI l1, vI l2] [] (mw f a g) = some (some (vI (a 4 l1.toNatClampNeg)), (mw f a g)) :=
  (r_ald (pg_of mt_62 dX5_of_56 rfl) rfl).trans <|
  (r_gtr (a := 1) (pg_of mt_62 dX5_of_57 rfl) rfl rfl).trans <|
  (r_gtr (a := 4) (pg_of mt_62 dX5_of_60 rfl) rfl rfl).trans <|
  (r_ild (pg_of mt_62 dX5_of_63 rfl) rfl).trans <|
  (r_iald (pg_of mt_62 dX5_of_64 rfl) rfl h1).trans <|
  (r_ri (pg_of mt_62 dX5_of_65 rfl) mt_62 rfl)
theorem b62_66 (l1 : Int32) (l2 : Int32) (h1 : ma_in l1 8 = true) : rn xs L 62 66 [vR 0, vI l1, vI l2] [] (mw f a g) = some (some (vI (a 5 l1.toNatClampNeg)), (mw f a g)) :=
  (r_ald (pg_of mt_62 dX5_of_66 rfl) rfl).trans <|
  (r_gtr (a := 1) (pg_of mt_62 dX5_of_67 rfl) rfl rfl).trans <|
  (r_gtr (a := 5) (pg_of mt_62 dX5_of_70 rfl) rfl rfl).trans <|
  (r_ild (pg_of mt_62 dX5_of_73 rfl) rfl).trans <|
  (r_iald (pg_of mt_62 dX5_of_74 rfl) rfl h1).trans <|
  (r_ri (pg_of mt_62 dX5_of_75 rfl) mt_62 rfl)
theorem b62_76 (l1 : Int32) (l2 : Int32) (h1 : ma_in l1 8 = true) : rn xs L 62 76 [vR 0, vI l1, vI l2] [] (mw f a g) = some (some (vI (a 6 l1.toNatClampNeg)), (mw f a g)) :=
  (r_ald (pg_of mt_62 dX5_of_76 rfl) rfl).trans <|
  (r_gtr (a := 1) (pg_of mt_62 dX5_of_77 rfl) rfl rfl).trans <|
  (r_gtr (a := 6) (pg_of mt_62 dX5_of_80 rfl) rfl rfl).trans <|
  (r_ild (pg_of mt_62 dX5_of_83 rfl) rfl).trans <|
  (r_iald (pg_of mt_62 dX5_of_84 rfl) rfl h1).trans <|
  (r_ri (pg_of mt_62 dX5_of_85 rfl) mt_62 rfl)
theorem b62_86 (l1 : Int32) (l2 : Int32) (h1 : ma_in l1 8 = true) : rn xs L 62 86 [vR 0, vI l1, vI l2] [] (mw f a g) = some (some (vI (a 7 l1.toNatClampNeg)), (mw f a g)) :=
  (r_ald (pg_of mt_62 dX5_of_86 rfl) rfl).trans <|
  (r_gtr (a := 1) (pg_of mt_62 dX5_of_87 rfl) rfl rfl).trans <|
  (r_gtr (a := 7) (pg_of mt_62 dX5_of_90 rfl) rfl rfl).trans <|
  (r_ild (pg_of mt_62 dX5_of_93 rfl) rfl).trans <|
  (r_iald (pg_of mt_62 dX5_of_94 rfl) rfl h1).trans <|
  (r_ri (pg_of mt_62 dX5_of_95 rfl) mt_62 rfl)
theorem b62_96 (l1 : Int32) (l2 : Int32) : rn xs L 62 96 [vR 0, vI l1, vI l2] [] (mw f a g) = (ev xs L 35 2 [vR 1, vI l1] (mw f a g)).bind (fun b => rn xs L 62 104 [vR 0, vI l1, vI l2] (b.1.toList ++ []) b.2) :=
  (r_ald (pg_of mt_62 dX5_of_96 rfl) rfl).trans <|
  (r_gtr (a := 1) (pg_of mt_62 dX5_of_97 rfl) rfl rfl).trans <|
  (r_ild (pg_of mt_62 dX5_of_100 rfl) rfl).trans <|
  (r_call (t := tt_62) (t2 := tt_35) (pg_of mt_62 dX5_of_101 rfl) mt_62 mt_35 rfl rfl (rcv1 rfl) rfl rfl)
theorem b62_104 (l1 : Int32) (l2 : Int32) (s0 : Int32) : rn xs L 62 104 [vR 0, vI l1, vI l2] [vI s0] (mw f a g) = if s0 = 0 then rn xs L 62 111 [vR 0, vI l1, vI l2] [] (mw f a g) else rn xs L 62 107 [vR 0, vI l1, vI l2] [] (mw f a g) :=
  (r_eq0 (pg_of mt_62 dX5_of_104 rfl))
theorem b62_107 (l1 : Int32) (l2 : Int32) : rn xs L 62 107 [vR 0, vI l1, vI l2] [] (mw f a g) = some (some (vI (1 : Int32)), (mw f a g)) :=
  (r_con (pg_of mt_62 dX5_of_107 rfl) (v2 := (1 : Int32)) (by decide)).trans <|
  (r_gto (pg_of mt_62 dX5_of_108 rfl)).trans <|
  (r_ri (pg_of mt_62 dX5_of_112 rfl) mt_62 rfl)
theorem b62_111 (l1 : Int32) (l2 : Int32) : rn xs L 62 111 [vR 0, vI l1, vI l2] [] (mw f a g) = some (some (vI (0 : Int32)), (mw f a g)) :=
  (r_con (pg_of mt_62 dX5_of_111 rfl) (v2 := (0 : Int32)) (by decide)).trans <|
  (r_ri (pg_of mt_62 dX5_of_112 rfl) mt_62 rfl)
theorem b62_113 (l1 : Int32) (l2 : Int32) (h1 : ma_in l1 8 = true) : rn xs L 62 113 [vR 0, vI l1, vI l2] [] (mw f a g) = some (some (vI (a 8 l1.toNatClampNeg)), (mw f a g)) :=
  (r_ald (pg_of mt_62 dX5_of_113 rfl) rfl).trans <|
  (r_gtr (a := 1) (pg_of mt_62 dX5_of_114 rfl) rfl rfl).trans <|
  (r_gtr (a := 8) (pg_of mt_62 dX5_of_117 rfl) rfl rfl).trans <|
  (r_ild (pg_of mt_62 dX5_of_120 rfl) rfl).trans <|
  (r_iald (pg_of mt_62 dX5_of_121 rfl) rfl h1).trans <|
  (r_ri (pg_of mt_62 dX5_of_122 rfl) mt_62 rfl)
theorem b62_123 (l1 : Int32) (l2 : Int32) : rn xs L 62 123 [vR 0, vI l1, vI l2] [] (mw f a g) = (ev xs L 36 2 [vR 1, vI l1] (mw f a g)).bind (fun b => rn xs L 62 131 [vR 0, vI l1, vI l2] (b.1.toList ++ []) b.2) :=
  (r_ald (pg_of mt_62 dX5_of_123 rfl) rfl).trans <|
  (r_gtr (a := 1) (pg_of mt_62 dX5_of_124 rfl) rfl rfl).trans <|
  (r_ild (pg_of mt_62 dX5_of_127 rfl) rfl).trans <|
  (r_call (t := tt_62) (t2 := tt_36) (pg_of mt_62 dX5_of_128 rfl) mt_62 mt_36 rfl rfl (rcv1 rfl) rfl rfl)
theorem b62_131 (l1 : Int32) (l2 : Int32) (s0 : Int32) : rn xs L 62 131 [vR 0, vI l1, vI l2] [vI s0] (mw f a g) = some (some (vI s0), (mw f a g)) :=
  (r_ri (pg_of mt_62 dX5_of_131 rfl) mt_62 rfl)
theorem b62_132 (l1 : Int32) (l2 : Int32) : rn xs L 62 132 [vR 0, vI l1, vI l2] [] (mw f a g) = some (some (vI (-1 : Int32)), (mw f a g)) :=
  (r_con (pg_of mt_62 dX5_of_132 rfl) (v2 := (-1 : Int32)) (by decide)).trans <|
  (r_ri (pg_of mt_62 dX5_of_133 rfl) mt_62 rfl)
-- 63 LeafFalls.does(II)I
theorem b63_0 (l1 : Int32) (l2 : Int32) : rn xs L 63 0 [vR 0, vI l1, vI l2] [] (mw f a g) = (ev xs L 34 2 [vR 1, vI l1] (mw f a g)).bind (fun b => rn xs L 63 8 [vR 0, vI l1, vI l2] (b.1.toList ++ []) b.2) :=
  (r_ald (pg_of mt_63 dX5_does_0 rfl) rfl).trans <|
  (r_gtr (a := 1) (pg_of mt_63 dX5_does_1 rfl) rfl rfl).trans <|
  (r_ild (pg_of mt_63 dX5_does_4 rfl) rfl).trans <|
  (r_call (t := tt_63) (t2 := tt_34) (pg_of mt_63 dX5_does_5 rfl) mt_63 mt_34 rfl rfl (rcv1 rfl) rfl rfl)
theorem b63_8 (l1 : Int32) (l2 : Int32) (s0 : Int32) : rn xs L 63 8 [vR 0, vI l1, vI l2] [vI s0] (mw f a g) = if s0 = 0 then rn xs L 63 20 [vR 0, vI l1, vI l2] [] (mw f a g) else rn xs L 63 11 [vR 0, vI l1, vI l2] [] (mw f a g) :=
  (r_eq0 (pg_of mt_63 dX5_does_8 rfl))
theorem b63_11 (l1 : Int32) (l2 : Int32) : rn xs L 63 11 [vR 0, vI l1, vI l2] [] (mw f a g) = (ev xs L 56 3 [vI l2, vI (0 : Int32), vI (1 : Int32)] (mw f a g)).bind (fun b => rn xs L 63 17 [vR 0, vI l1, vI l2] (b.1.toList ++ []) b.2) :=
  (r_ild (pg_of mt_63 dX5_does_11 rfl) rfl).trans <|
  (r_con (pg_of mt_63 dX5_does_12 rfl) (v2 := (0 : Int32)) (by decide)).trans <|
  (r_con (pg_of mt_63 dX5_does_13 rfl) (v2 := (1 : Int32)) (by decide)).trans <|
  (r_call (t := tt_63) (t2 := tt_56) (pg_of mt_63 dX5_does_14 rfl) mt_63 mt_56 rfl rfl rfl rfl rfl)
theorem b63_17 (l1 : Int32) (l2 : Int32) (s0 : Int32) : rn xs L 63 17 [vR 0, vI l1, vI l2] [vI s0] (mw f a g) = if s0 = 0 then rn xs L 63 20 [vR 0, vI l1, vI l2] [] (mw f a g) else rn xs L 63 22 [vR 0, vI l1, vI l2] [] (mw f a g) :=
  (r_ne0 (pg_of mt_63 dX5_does_17 rfl))
theorem b63_20 (l1 : Int32) (l2 : Int32) : rn xs L 63 20 [vR 0, vI l1, vI l2] [] (mw f a g) = some (some (vI (-1 : Int32)), (mw f a g)) :=
  (r_con (pg_of mt_63 dX5_does_20 rfl) (v2 := (-1 : Int32)) (by decide)).trans <|
  (r_ri (pg_of mt_63 dX5_does_21 rfl) mt_63 rfl)
theorem b63_22 (l1 : Int32) (l2 : Int32) : rn xs L 63 22 [vR 0, vI l1, vI l2] [] (mw f a g) = if l2 = 0 then rn xs L 63 29 [vR 0, vI l1, vI l2] [vI (1000 : Int32)] (mw f a g) else rn xs L 63 40 [vR 0, vI l1, vI l2] [vI (1000 : Int32)] (mw f a g) :=
  (r_con (pg_of mt_63 dX5_does_22 rfl) (v2 := (1000 : Int32)) (by decide)).trans <|
  (r_ild (pg_of mt_63 dX5_does_25 rfl) rfl).trans <|
  (r_ne0 (pg_of mt_63 dX5_does_26 rfl))
theorem b63_29 (l1 : Int32) (l2 : Int32) (s0 : Int32) : rn xs L 63 29 [vR 0, vI l1, vI l2] [vI s0] (mw f a g) = (ev xs L 38 3 [vR 1, vI l1] (mw f a g)).bind (fun b => rn xs L 63 37 [vR 0, vI l1, vI l2] (b.1.toList ++ [vI s0]) b.2) :=
  (r_ald (pg_of mt_63 dX5_does_29 rfl) rfl).trans <|
  (r_gtr (a := 1) (pg_of mt_63 dX5_does_30 rfl) rfl rfl).trans <|
  (r_ild (pg_of mt_63 dX5_does_33 rfl) rfl).trans <|
  (r_call (t := tt_63) (t2 := tt_38) (pg_of mt_63 dX5_does_34 rfl) mt_63 mt_38 rfl rfl (rcv1 rfl) rfl rfl)
theorem b63_37 (l1 : Int32) (l2 : Int32) (s0 : Int32) (s1 : Int32) : rn xs L 63 37 [vR 0, vI l1, vI l2] [vI s0, vI s1] (mw f a g) = some (some (vI (s1 + s0)), (mw f a g)) :=
  (r_gto (pg_of mt_63 dX5_does_37 rfl)).trans <|
  (r_bin (pg_of mt_63 dX5_does_48 rfl)).trans <|
  (r_ri (pg_of mt_63 dX5_does_49 rfl) mt_63 rfl)
theorem b63_40 (l1 : Int32) (l2 : Int32) (s0 : Int32) : rn xs L 63 40 [vR 0, vI l1, vI l2] [vI s0] (mw f a g) = (ev xs L 39 3 [vR 1, vI l1] (mw f a g)).bind (fun b => rn xs L 63 48 [vR 0, vI l1, vI l2] (b.1.toList ++ [vI s0]) b.2) :=
  (r_ald (pg_of mt_63 dX5_does_40 rfl) rfl).trans <|
  (r_gtr (a := 1) (pg_of mt_63 dX5_does_41 rfl) rfl rfl).trans <|
  (r_ild (pg_of mt_63 dX5_does_44 rfl) rfl).trans <|
  (r_call (t := tt_63) (t2 := tt_39) (pg_of mt_63 dX5_does_45 rfl) mt_63 mt_39 rfl rfl (rcv1 rfl) rfl rfl)
theorem b63_48 (l1 : Int32) (l2 : Int32) (s0 : Int32) (s1 : Int32) : rn xs L 63 48 [vR 0, vI l1, vI l2] [vI s0, vI s1] (mw f a g) = some (some (vI (s1 + s0)), (mw f a g)) :=
  (r_bin (pg_of mt_63 dX5_does_48 rfl)).trans <|
  (r_ri (pg_of mt_63 dX5_does_49 rfl) mt_63 rfl)
-- 64 LeafFalls.mind(III)I
theorem b64_0 (l1 : Int32) (l2 : Int32) (l3 : Int32) (l4 : ma_V) : rn xs L 64 0 [vR 0, vI l1, vI l2, vI l3, l4] [] (mw f a g) = (ev xs L 34 2 [vR 1, vI l1] (mw f a g)).bind (fun b => rn xs L 64 8 [vR 0, vI l1, vI l2, vI l3, l4] (b.1.toList ++ []) b.2) :=
  (r_ald (pg_of mt_64 dX5_mind_0 rfl) rfl).trans <|
  (r_gtr (a := 1) (pg_of mt_64 dX5_mind_1 rfl) rfl rfl).trans <|
  (r_ild (pg_of mt_64 dX5_mind_4 rfl) rfl).trans <|
  (r_call (t := tt_64) (t2 := tt_34) (pg_of mt_64 dX5_mind_5 rfl) mt_64 mt_34 rfl rfl (rcv1 rfl) rfl rfl)
theorem b64_8 (l1 : Int32) (l2 : Int32) (l3 : Int32) (l4 : ma_V) (s0 : Int32) : rn xs L 64 8 [vR 0, vI l1, vI l2, vI l3, l4] [vI s0] (mw f a g) = if s0 = 0 then rn xs L 64 30 [vR 0, vI l1, vI l2, vI l3, l4] [] (mw f a g) else rn xs L 64 11 [vR 0, vI l1, vI l2, vI l3, l4] [] (mw f a g) :=
  (r_eq0 (pg_of mt_64 dX5_mind_8 rfl))
theorem b64_11 (l1 : Int32) (l2 : Int32) (l3 : Int32) (l4 : ma_V) : rn xs L 64 11 [vR 0, vI l1, vI l2, vI l3, l4] [] (mw f a g) = (ev xs L 56 3 [vI l2, vI (0 : Int32), vI (5 : Int32)] (mw f a g)).bind (fun b => rn xs L 64 17 [vR 0, vI l1, vI l2, vI l3, l4] (b.1.toList ++ []) b.2) :=
  (r_ild (pg_of mt_64 dX5_mind_11 rfl) rfl).trans <|
  (r_con (pg_of mt_64 dX5_mind_12 rfl) (v2 := (0 : Int32)) (by decide)).trans <|
  (r_con (pg_of mt_64 dX5_mind_13 rfl) (v2 := (5 : Int32)) (by decide)).trans <|
  (r_call (t := tt_64) (t2 := tt_56) (pg_of mt_64 dX5_mind_14 rfl) mt_64 mt_56 rfl rfl rfl rfl rfl)
theorem b64_17 (l1 : Int32) (l2 : Int32) (l3 : Int32) (l4 : ma_V) (s0 : Int32) : rn xs L 64 17 [vR 0, vI l1, vI l2, vI l3, l4] [vI s0] (mw f a g) = if s0 = 0 then rn xs L 64 30 [vR 0, vI l1, vI l2, vI l3, l4] [] (mw f a g) else rn xs L 64 20 [vR 0, vI l1, vI l2, vI l3, l4] [] (mw f a g) :=
  (r_eq0 (pg_of mt_64 dX5_mind_17 rfl))
theorem b64_20 (l1 : Int32) (l2 : Int32) (l3 : Int32) (l4 : ma_V) : rn xs L 64 20 [vR 0, vI l1, vI l2, vI l3, l4] [] (mw f a g) = (ev xs L 56 3 [vI l3, vI (0 : Int32), vI (9 : Int32)] (mw f a g)).bind (fun b => rn xs L 64 27 [vR 0, vI l1, vI l2, vI l3, l4] (b.1.toList ++ []) b.2) :=
  (r_ild (pg_of mt_64 dX5_mind_20 rfl) rfl).trans <|
  (r_con (pg_of mt_64 dX5_mind_21 rfl) (v2 := (0 : Int32)) (by decide)).trans <|
  (r_con (pg_of mt_64 dX5_mind_22 rfl) (v2 := (9 : Int32)) (by decide)).trans <|
  (r_call (t := tt_64) (t2 := tt_56) (pg_of mt_64 dX5_mind_24 rfl) mt_64 mt_56 rfl rfl rfl rfl rfl)
theorem b64_27 (l1 : Int32) (l2 : Int32) (l3 : Int32) (l4 : ma_V) (s0 : Int32) : rn xs L 64 27 [vR 0, vI l1, vI l2, vI l3, l4] [vI s0] (mw f a g) = if s0 = 0 then rn xs L 64 30 [vR 0, vI l1, vI l2, vI l3, l4] [] (mw f a g) else rn xs L 64 32 [vR 0, vI l1, vI l2, vI l3, l4] [] (mw f a g) :=
  (r_ne0 (pg_of mt_64 dX5_mind_27 rfl))
theorem b64_30 (l1 : Int32) (l2 : Int32) (l3 : Int32) (l4 : ma_V) : rn xs L 64 30 [vR 0, vI l1, vI l2, vI l3, l4] [] (mw f a g) = some (some (vI (-1 : Int32)), (mw f a g)) :=
  (r_con (pg_of mt_64 dX5_mind_30 rfl) (v2 := (-1 : Int32)) (by decide)).trans <|
  (r_ri (pg_of mt_64 dX5_mind_31 rfl) mt_64 rfl)
theorem b64_32 (l1 : Int32) (l2 : Int32) (l3 : Int32) (l4 : ma_V) (h1 : ma_in l1 8 = true) (h2 : ma_in l1 8 = true) (h3 : ma_in l1 8 = true) : rn xs L 64 32 [vR 0, vI l1, vI l2, vI l3, l4] [] (mw f a g) = some (some (vI (a 4 l1.toNatClampNeg)), (mw f ((ma_u2 ((ma_u2 a 4 l1.toNatClampNeg l2)) 7 l1.toNatClampNeg l3)) g)) :=
  (r_ald (pg_of mt_64 dX5_mind_32 rfl) rfl).trans <|
  (r_gtr (a := 1) (pg_of mt_64 dX5_mind_33 rfl) rfl rfl).trans <|
  (r_gtr (a := 4) (pg_of mt_64 dX5_mind_36 rfl) rfl rfl).trans <|
  (r_ild (pg_of mt_64 dX5_mind_39 rfl) rfl).trans <|
  (r_iald (pg_of mt_64 dX5_mind_40 rfl) rfl h1).trans <|
  (r_ist (pg_of mt_64 dX5_mind_41 rfl) (Nat.le_of_ble_eq_true rfl) rfl).trans <|
  (r_ald (pg_of mt_64 dX5_mind_43 rfl) rfl).trans <|
  (r_gtr (a := 1) (pg_of mt_64 dX5_mind_44 rfl) rfl rfl).trans <|
  (r_gtr (a := 4) (pg_of mt_64 dX5_mind_47 rfl) rfl rfl).trans <|
  (r_ild (pg_of mt_64 dX5_mind_50 rfl) rfl).trans <|
  (r_ild (pg_of mt_64 dX5_mind_51 rfl) rfl).trans <|
  (r_iast (pg_of mt_64 dX5_mind_52 rfl) rfl h2).trans <|
  (r_ald (pg_of mt_64 dX5_mind_53 rfl) rfl).trans <|
  (r_gtr (a := 1) (pg_of mt_64 dX5_mind_54 rfl) rfl rfl).trans <|
  (r_gtr (a := 7) (pg_of mt_64 dX5_mind_57 rfl) rfl rfl).trans <|
  (r_ild (pg_of mt_64 dX5_mind_60 rfl) rfl).trans <|
  (r_ild (pg_of mt_64 dX5_mind_61 rfl) rfl).trans <|
  (r_iast (pg_of mt_64 dX5_mind_62 rfl) rfl h3).trans <|
  (r_ild (pg_of mt_64 dX5_mind_63 rfl) rfl).trans <|
  (r_ri (pg_of mt_64 dX5_mind_65 rfl) mt_64 rfl)
-- 65 LeafFalls.hold(II)I
theorem b65_0 (l1 : Int32) (l2 : Int32) (l3 : ma_V) : rn xs L 65 0 [vR 0, vI l1, vI l2, l3] [] (mw f a g) = (ev xs L 34 2 [vR 1, vI l1] (mw f a g)).bind (fun b => rn xs L 65 8 [vR 0, vI l1, vI l2, l3] (b.1.toList ++ []) b.2) :=
  (r_ald (pg_of mt_65 dX5_hold_0 rfl) rfl).trans <|
  (r_gtr (a := 1) (pg_of mt_65 dX5_hold_1 rfl) rfl rfl).trans <|
  (r_ild (pg_of mt_65 dX5_hold_4 rfl) rfl).trans <|
  (r_call (t := tt_65) (t2 := tt_34) (pg_of mt_65 dX5_hold_5 rfl) mt_65 mt_34 rfl rfl (rcv1 rfl) rfl rfl)
theorem b65_8 (l1 : Int32) (l2 : Int32) (l3 : ma_V) (s0 : Int32) : rn xs L 65 8 [vR 0, vI l1, vI l2, l3] [vI s0] (mw f a g) = if s0 = 0 then rn xs L 65 21 [vR 0, vI l1, vI l2, l3] [] (mw f a g) else rn xs L 65 11 [vR 0, vI l1, vI l2, l3] [] (mw f a g) :=
  (r_eq0 (pg_of mt_65 dX5_hold_8 rfl))
theorem b65_11 (l1 : Int32) (l2 : Int32) (l3 : ma_V) : rn xs L 65 11 [vR 0, vI l1, vI l2, l3] [] (mw f a g) = (ev xs L 56 3 [vI l2, vI (0 : Int32), vI (99 : Int32)] (mw f a g)).bind (fun b => rn xs L 65 18 [vR 0, vI l1, vI l2, l3] (b.1.toList ++ []) b.2) :=
  (r_ild (pg_of mt_65 dX5_hold_11 rfl) rfl).trans <|
  (r_con (pg_of mt_65 dX5_hold_12 rfl) (v2 := (0 : Int32)) (by decide)).trans <|
  (r_con (pg_of mt_65 dX5_hold_13 rfl) (v2 := (99 : Int32)) (by decide)).trans <|
  (r_call (t := tt_65) (t2 := tt_56) (pg_of mt_65 dX5_hold_15 rfl) mt_65 mt_56 rfl rfl rfl rfl rfl)
theorem b65_18 (l1 : Int32) (l2 : Int32) (l3 : ma_V) (s0 : Int32) : rn xs L 65 18 [vR 0, vI l1, vI l2, l3] [vI s0] (mw f a g) = if s0 = 0 then rn xs L 65 21 [vR 0, vI l1, vI l2, l3] [] (mw f a g) else rn xs L 65 23 [vR 0, vI l1, vI l2, l3] [] (mw f a g) :=
  (r_ne0 (pg_of mt_65 dX5_hold_18 rfl))
theorem b65_21 (l1 : Int32) (l2 : Int32) (l3 : ma_V) : rn xs L 65 21 [vR 0, vI l1, vI l2, l3] [] (mw f a g) = some (some (vI (-1 : Int32)), (mw f a g)) :=
  (r_con (pg_of mt_65 dX5_hold_21 rfl) (v2 := (-1 : Int32)) (by decide)).trans <|
  (r_ri (pg_of mt_65 dX5_hold_22 rfl) mt_65 rfl)
theorem b65_23 (l1 : Int32) (l2 : Int32) (l3 : ma_V) (h1 : ma_in l1 8 = true) (h2 : ma_in l1 8 = true) : rn xs L 65 23 [vR 0, vI l1, vI l2, l3] [] (mw f a g) = some (some (vI (a 6 l1.toNatClampNeg)), (mw f ((ma_u2 a 6 l1.toNatClampNeg l2)) g)) :=
  (r_ald (pg_of mt_65 dX5_hold_23 rfl) rfl).trans <|
  (r_gtr (a := 1) (pg_of mt_65 dX5_hold_24 rfl) rfl rfl).trans <|
  (r_gtr (a := 6) (pg_of mt_65 dX5_hold_27 rfl) rfl rfl).trans <|
  (r_ild (pg_of mt_65 dX5_hold_30 rfl) rfl).trans <|
  (r_iald (pg_of mt_65 dX5_hold_31 rfl) rfl h1).trans <|
  (r_ist (pg_of mt_65 dX5_hold_32 rfl) (Nat.le_of_ble_eq_true rfl) rfl).trans <|
  (r_ald (pg_of mt_65 dX5_hold_33 rfl) rfl).trans <|
  (r_gtr (a := 1) (pg_of mt_65 dX5_hold_34 rfl) rfl rfl).trans <|
  (r_gtr (a := 6) (pg_of mt_65 dX5_hold_37 rfl) rfl rfl).trans <|
  (r_ild (pg_of mt_65 dX5_hold_40 rfl) rfl).trans <|
  (r_ild (pg_of mt_65 dX5_hold_41 rfl) rfl).trans <|
  (r_iast (pg_of mt_65 dX5_hold_42 rfl) rfl h2).trans <|
  (r_ild (pg_of mt_65 dX5_hold_43 rfl) rfl).trans <|
  (r_ri (pg_of mt_65 dX5_hold_44 rfl) mt_65 rfl)
-- 66 LeafFalls.move(II)I
theorem b66_0 (l1 : Int32) (l2 : Int32) (l3 : ma_V) : rn xs L 66 0 [vR 0, vI l1, vI l2, l3] [] (mw f a g) = (ev xs L 34 2 [vR 1, vI l1] (mw f a g)).bind (fun b => rn xs L 66 8 [vR 0, vI l1, vI l2, l3] (b.1.toList ++ []) b.2) :=
  (r_ald (pg_of mt_66 dX5_move_0 rfl) rfl).trans <|
  (r_gtr (a := 1) (pg_of mt_66 dX5_move_1 rfl) rfl rfl).trans <|
  (r_ild (pg_of mt_66 dX5_move_4 rfl) rfl).trans <|
  (r_call (t := tt_66) (t2 := tt_34) (pg_of mt_66 dX5_move_5 rfl) mt_66 mt_34 rfl rfl (rcv1 rfl) rfl rfl)
theorem b66_8 (l1 : Int32) (l2 : Int32) (l3 : ma_V) (s0 : Int32) : rn xs L 66 8 [vR 0, vI l1, vI l2, l3] [vI s0] (mw f a g) = if s0 = 0 then rn xs L 66 20 [vR 0, vI l1, vI l2, l3] [] (mw f a g) else rn xs L 66 11 [vR 0, vI l1, vI l2, l3] [] (mw f a g) :=
  (r_eq0 (pg_of mt_66 dX5_move_8 rfl))
theorem b66_11 (l1 : Int32) (l2 : Int32) (l3 : ma_V) : rn xs L 66 11 [vR 0, vI l1, vI l2, l3] [] (mw f a g) = (ev xs L 56 3 [vI l2, vI (0 : Int32), vI (5 : Int32)] (mw f a g)).bind (fun b => rn xs L 66 17 [vR 0, vI l1, vI l2, l3] (b.1.toList ++ []) b.2) :=
  (r_ild (pg_of mt_66 dX5_move_11 rfl) rfl).trans <|
  (r_con (pg_of mt_66 dX5_move_12 rfl) (v2 := (0 : Int32)) (by decide)).trans <|
  (r_con (pg_of mt_66 dX5_move_13 rfl) (v2 := (5 : Int32)) (by decide)).trans <|
  (r_call (t := tt_66) (t2 := tt_56) (pg_of mt_66 dX5_move_14 rfl) mt_66 mt_56 rfl rfl rfl rfl rfl)
theorem b66_17 (l1 : Int32) (l2 : Int32) (l3 : ma_V) (s0 : Int32) : rn xs L 66 17 [vR 0, vI l1, vI l2, l3] [vI s0] (mw f a g) = if s0 = 0 then rn xs L 66 20 [vR 0, vI l1, vI l2, l3] [] (mw f a g) else rn xs L 66 22 [vR 0, vI l1, vI l2, l3] [] (mw f a g) :=
  (r_ne0 (pg_of mt_66 dX5_move_17 rfl))
theorem b66_20 (l1 : Int32) (l2 : Int32) (l3 : ma_V) : rn xs L 66 20 [vR 0, vI l1, vI l2, l3] [] (mw f a g) = some (some (vI (-1 : Int32)), (mw f a g)) :=
  (r_con (pg_of mt_66 dX5_move_20 rfl) (v2 := (-1 : Int32)) (by decide)).trans <|
  (r_ri (pg_of mt_66 dX5_move_21 rfl) mt_66 rfl)
theorem b66_22 (l1 : Int32) (l2 : Int32) (l3 : ma_V) (h1 : ma_in l1 8 = true) (h2 : ma_in l1 8 = true) : rn xs L 66 22 [vR 0, vI l1, vI l2, l3] [] (mw f a g) = some (some (vI (a 5 l1.toNatClampNeg)), (mw f ((ma_u2 a 5 l1.toNatClampNeg l2)) g)) :=
  (r_ald (pg_of mt_66 dX5_move_22 rfl) rfl).trans <|
  (r_gtr (a := 1) (pg_of mt_66 dX5_move_23 rfl) rfl rfl).trans <|
  (r_gtr (a := 5) (pg_of mt_66 dX5_move_26 rfl) rfl rfl).trans <|
  (r_ild (pg_of mt_66 dX5_move_29 rfl) rfl).trans <|
  (r_iald (pg_of mt_66 dX5_move_30 rfl) rfl h1).trans <|
  (r_ist (pg_of mt_66 dX5_move_31 rfl) (Nat.le_of_ble_eq_true rfl) rfl).trans <|
  (r_ald (pg_of mt_66 dX5_move_32 rfl) rfl).trans <|
  (r_gtr (a := 1) (pg_of mt_66 dX5_move_33 rfl) rfl rfl).trans <|
  (r_gtr (a := 5) (pg_of mt_66 dX5_move_36 rfl) rfl rfl).trans <|
  (r_ild (pg_of mt_66 dX5_move_39 rfl) rfl).trans <|
  (r_ild (pg_of mt_66 dX5_move_40 rfl) rfl).trans <|
  (r_iast (pg_of mt_66 dX5_move_41 rfl) rfl h2).trans <|
  (r_ild (pg_of mt_66 dX5_move_42 rfl) rfl).trans <|
  (r_ri (pg_of mt_66 dX5_move_43 rfl) mt_66 rfl)
-- 67 LeafFalls.pluck(I)I
theorem b67_0 (l1 : Int32) : rn xs L 67 0 [vR 0, vI l1] [] (mw f a g) = (ev xs L 34 2 [vR 1, vI l1] (mw f a g)).bind (fun b => rn xs L 67 8 [vR 0, vI l1] (b.1.toList ++ []) b.2) :=
  (r_ald (pg_of mt_67 dX5_pluck_0 rfl) rfl).trans <|
  (r_gtr (a := 1) (pg_of mt_67 dX5_pluck_1 rfl) rfl rfl).trans <|
  (r_ild (pg_of mt_67 dX5_pluck_4 rfl) rfl).trans <|
  (r_call (t := tt_67) (t2 := tt_34) (pg_of mt_67 dX5_pluck_5 rfl) mt_67 mt_34 rfl rfl (rcv1 rfl) rfl rfl)
theorem b67_8 (l1 : Int32) (s0 : Int32) : rn xs L 67 8 [vR 0, vI l1] [vI s0] (mw f a g) = if s0 = 0 then rn xs L 67 11 [vR 0, vI l1] [] (mw f a g) else rn xs L 67 13 [vR 0, vI l1] [] (mw f a g) :=
  (r_ne0 (pg_of mt_67 dX5_pluck_8 rfl))
theorem b67_11 (l1 : Int32) : rn xs L 67 11 [vR 0, vI l1] [] (mw f a g) = some (some (vI (-1 : Int32)), (mw f a g)) :=
  (r_con (pg_of mt_67 dX5_pluck_11 rfl) (v2 := (-1 : Int32)) (by decide)).trans <|
  (r_ri (pg_of mt_67 dX5_pluck_12 rfl) mt_67 rfl)
theorem b67_13 (l1 : Int32) : rn xs L 67 13 [vR 0, vI l1] [] (mw f a g) = (ev xs L 35 2 [vR 1, vI l1] (mw f a g)).bind (fun b => rn xs L 67 21 [vR 0, vI l1] (b.1.toList ++ []) b.2) :=
  (r_ald (pg_of mt_67 dX5_pluck_13 rfl) rfl).trans <|
  (r_gtr (a := 1) (pg_of mt_67 dX5_pluck_14 rfl) rfl rfl).trans <|
  (r_ild (pg_of mt_67 dX5_pluck_17 rfl) rfl).trans <|
  (r_call (t := tt_67) (t2 := tt_35) (pg_of mt_67 dX5_pluck_18 rfl) mt_67 mt_35 rfl rfl (rcv1 rfl) rfl rfl)
theorem b67_21 (l1 : Int32) (s0 : Int32) : rn xs L 67 21 [vR 0, vI l1] [vI s0] (mw f a g) = if s0 = 0 then rn xs L 67 24 [vR 0, vI l1] [] (mw f a g) else rn xs L 67 27 [vR 0, vI l1] [] (mw f a g) :=
  (r_ne0 (pg_of mt_67 dX5_pluck_21 rfl))
theorem b67_24 (l1 : Int32) : rn xs L 67 24 [vR 0, vI l1] [] (mw f a g) = some (some (vI (-3 : Int32)), (mw f a g)) :=
  (r_con (pg_of mt_67 dX5_pluck_24 rfl) (v2 := (-3 : Int32)) (by decide)).trans <|
  (r_ri (pg_of mt_67 dX5_pluck_26 rfl) mt_67 rfl)
theorem b67_27 (l1 : Int32) : rn xs L 67 27 [vR 0, vI l1] [] (mw f a g) = (ev xs L 40 2 [vR 1, vI l1] (mw f a g)).bind (fun b => rn xs L 67 35 [vR 0, vI l1] (b.1.toList ++ []) b.2) :=
  (r_ald (pg_of mt_67 dX5_pluck_27 rfl) rfl).trans <|
  (r_gtr (a := 1) (pg_of mt_67 dX5_pluck_28 rfl) rfl rfl).trans <|
  (r_ild (pg_of mt_67 dX5_pluck_31 rfl) rfl).trans <|
  (r_call (t := tt_67) (t2 := tt_40) (pg_of mt_67 dX5_pluck_32 rfl) mt_67 mt_40 rfl rfl (rcv1 rfl) rfl rfl)
theorem b67_35 (l1 : Int32) : rn xs L 67 35 [vR 0, vI l1] [] (mw f a g) = (ev xs L 41 1 [vR 1] (mw f a g)).bind (fun b => rn xs L 67 42 [vR 0, vI l1] (b.1.toList ++ []) b.2) :=
  (r_ald (pg_of mt_67 dX5_pluck_35 rfl) rfl).trans <|
  (r_gtr (a := 1) (pg_of mt_67 dX5_pluck_36 rfl) rfl rfl).trans <|
  (r_call (t := tt_67) (t2 := tt_41) (pg_of mt_67 dX5_pluck_39 rfl) mt_67 mt_41 rfl rfl (rcv1 rfl) rfl rfl)
theorem b67_42 (l1 : Int32) (s0 : Int32) : rn xs L 67 42 [vR 0, vI l1] [vI s0] (mw f a g) = some (some (vI s0), (mw f a g)) :=
  (r_ri (pg_of mt_67 dX5_pluck_42 rfl) mt_67 rfl)
-- 68 LeafFalls.bough(II)I
theorem b68_0 (l1 : Int32) (l2 : Int32) : rn xs L 68 0 [vR 0, vI l1, vI l2] [] (mw f a g) = (ev xs L 56 3 [vI l1, vI (0 : Int32), vI (5 : Int32)] (mw f a g)).bind (fun b => rn xs L 68 6 [vR 0, vI l1, vI l2] (b.1.toList ++ []) b.2) :=
  (r_ild (pg_of mt_68 dX5_bough_0 rfl) rfl).trans <|
  (r_con (pg_of mt_68 dX5_bough_1 rfl) (v2 := (0 : Int32)) (by decide)).trans <|
  (r_con (pg_of mt_68 dX5_bough_2 rfl) (v2 := (5 : Int32)) (by decide)).trans <|
  (r_call (t := tt_68) (t2 := tt_56) (pg_of mt_68 dX5_bough_3 rfl) mt_68 mt_56 rfl rfl rfl rfl rfl)
theorem b68_6 (l1 : Int32) (l2 : Int32) (s0 : Int32) : rn xs L 68 6 [vR 0, vI l1, vI l2] [vI s0] (mw f a g) = if s0 = 0 then rn xs L 68 18 [vR 0, vI l1, vI l2] [] (mw f a g) else rn xs L 68 9 [vR 0, vI l1, vI l2] [] (mw f a g) :=
  (r_eq0 (pg_of mt_68 dX5_bough_6 rfl))
theorem b68_9 (l1 : Int32) (l2 : Int32) : rn xs L 68 9 [vR 0, vI l1, vI l2] [] (mw f a g) = (ev xs L 56 3 [vI l2, vI (0 : Int32), vI (1 : Int32)] (mw f a g)).bind (fun b => rn xs L 68 15 [vR 0, vI l1, vI l2] (b.1.toList ++ []) b.2) :=
  (r_ild (pg_of mt_68 dX5_bough_9 rfl) rfl).trans <|
  (r_con (pg_of mt_68 dX5_bough_10 rfl) (v2 := (0 : Int32)) (by decide)).trans <|
  (r_con (pg_of mt_68 dX5_bough_11 rfl) (v2 := (1 : Int32)) (by decide)).trans <|
  (r_call (t := tt_68) (t2 := tt_56) (pg_of mt_68 dX5_bough_12 rfl) mt_68 mt_56 rfl rfl rfl rfl rfl)
theorem b68_15 (l1 : Int32) (l2 : Int32) (s0 : Int32) : rn xs L 68 15 [vR 0, vI l1, vI l2] [vI s0] (mw f a g) = if s0 = 0 then rn xs L 68 18 [vR 0, vI l1, vI l2] [] (mw f a g) else rn xs L 68 20 [vR 0, vI l1, vI l2] [] (mw f a g) :=
  (r_ne0 (pg_of mt_68 dX5_bough_15 rfl))
theorem b68_18 (l1 : Int32) (l2 : Int32) : rn xs L 68 18 [vR 0, vI l1, vI l2] [] (mw f a g) = some (some (vI (-1 : Int32)), (mw f a g)) :=
  (r_con (pg_of mt_68 dX5_bough_18 rfl) (v2 := (-1 : Int32)) (by decide)).trans <|
  (r_ri (pg_of mt_68 dX5_bough_19 rfl) mt_68 rfl)
theorem b68_20 (l1 : Int32) (l2 : Int32) : rn xs L 68 20 [vR 0, vI l1, vI l2] [] (mw f a g) = if l2 = 0 then rn xs L 68 24 [vR 0, vI l1, vI l2] [] (mw f a g) else rn xs L 68 36 [vR 0, vI l1, vI l2] [] (mw f a g) :=
  (r_ild (pg_of mt_68 dX5_bough_20 rfl) rfl).trans <|
  (r_ne0 (pg_of mt_68 dX5_bough_21 rfl))
theorem b68_24 (l1 : Int32) (l2 : Int32) (h1 : ma_in l1 6 = true) : rn xs L 68 24 [vR 0, vI l1, vI l2] [] (mw f a g) = some (some (vI (a 3 l1.toNatClampNeg)), (mw f a g)) :=
  (r_ald (pg_of mt_68 dX5_bough_24 rfl) rfl).trans <|
  (r_gtr (a := 1) (pg_of mt_68 dX5_bough_25 rfl) rfl rfl).trans <|
  (r_gtr (a := 3) (pg_of mt_68 dX5_bough_28 rfl) rfl rfl).trans <|
  (r_ild (pg_of mt_68 dX5_bough_31 rfl) rfl).trans <|
  (r_iald (pg_of mt_68 dX5_bough_32 rfl) rfl h1).trans <|
  (r_gto (pg_of mt_68 dX5_bough_33 rfl)).trans <|
  (r_ri (pg_of mt_68 dX5_bough_44 rfl) mt_68 rfl)
theorem b68_36 (l1 : Int32) (l2 : Int32) : rn xs L 68 36 [vR 0, vI l1, vI l2] [] (mw f a g) = (ev xs L 37 4 [vR 1, vI l1] (mw f a g)).bind (fun b => rn xs L 68 44 [vR 0, vI l1, vI l2] (b.1.toList ++ []) b.2) :=
  (r_ald (pg_of mt_68 dX5_bough_36 rfl) rfl).trans <|
  (r_gtr (a := 1) (pg_of mt_68 dX5_bough_37 rfl) rfl rfl).trans <|
  (r_ild (pg_of mt_68 dX5_bough_40 rfl) rfl).trans <|
  (r_call (t := tt_68) (t2 := tt_37) (pg_of mt_68 dX5_bough_41 rfl) mt_68 mt_37 rfl rfl (rcv1 rfl) rfl rfl)
theorem b68_44 (l1 : Int32) (l2 : Int32) (s0 : Int32) : rn xs L 68 44 [vR 0, vI l1, vI l2] [vI s0] (mw f a g) = some (some (vI s0), (mw f a g)) :=
  (r_ri (pg_of mt_68 dX5_bough_44 rfl) mt_68 rfl)
-- 69 LeafFalls.sway(II)I
theorem b69_0 (l1 : Int32) (l2 : Int32) (l3 : ma_V) : rn xs L 69 0 [vR 0, vI l1, vI l2, l3] [] (mw f a g) = (ev xs L 56 3 [vI l1, vI (0 : Int32), vI (5 : Int32)] (mw f a g)).bind (fun b => rn xs L 69 6 [vR 0, vI l1, vI l2, l3] (b.1.toList ++ []) b.2) :=
  (r_ild (pg_of mt_69 dX5_sway_0 rfl) rfl).trans <|
  (r_con (pg_of mt_69 dX5_sway_1 rfl) (v2 := (0 : Int32)) (by decide)).trans <|
  (r_con (pg_of mt_69 dX5_sway_2 rfl) (v2 := (5 : Int32)) (by decide)).trans <|
  (r_call (t := tt_69) (t2 := tt_56) (pg_of mt_69 dX5_sway_3 rfl) mt_69 mt_56 rfl rfl rfl rfl rfl)
theorem b69_6 (l1 : Int32) (l2 : Int32) (l3 : ma_V) (s0 : Int32) : rn xs L 69 6 [vR 0, vI l1, vI l2, l3] [vI s0] (mw f a g) = if s0 = 0 then rn xs L 69 19 [vR 0, vI l1, vI l2, l3] [] (mw f a g) else rn xs L 69 9 [vR 0, vI l1, vI l2, l3] [] (mw f a g) :=
  (r_eq0 (pg_of mt_69 dX5_sway_6 rfl))
theorem b69_9 (l1 : Int32) (l2 : Int32) (l3 : ma_V) : rn xs L 69 9 [vR 0, vI l1, vI l2, l3] [] (mw f a g) = (ev xs L 56 3 [vI l2, vI (0 : Int32), vI (9 : Int32)] (mw f a g)).bind (fun b => rn xs L 69 16 [vR 0, vI l1, vI l2, l3] (b.1.toList ++ []) b.2) :=
  (r_ild (pg_of mt_69 dX5_sway_9 rfl) rfl).trans <|
  (r_con (pg_of mt_69 dX5_sway_10 rfl) (v2 := (0 : Int32)) (by decide)).trans <|
  (r_con (pg_of mt_69 dX5_sway_11 rfl) (v2 := (9 : Int32)) (by decide)).trans <|
  (r_call (t := tt_69) (t2 := tt_56) (pg_of mt_69 dX5_sway_13 rfl) mt_69 mt_56 rfl rfl rfl rfl rfl)
theorem b69_16 (l1 : Int32) (l2 : Int32) (l3 : ma_V) (s0 : Int32) : rn xs L 69 16 [vR 0, vI l1, vI l2, l3] [vI s0] (mw f a g) = if s0 = 0 then rn xs L 69 19 [vR 0, vI l1, vI l2, l3] [] (mw f a g) else rn xs L 69 21 [vR 0, vI l1, vI l2, l3] [] (mw f a g) :=
  (r_ne0 (pg_of mt_69 dX5_sway_16 rfl))
theorem b69_19 (l1 : Int32) (l2 : Int32) (l3 : ma_V) : rn xs L 69 19 [vR 0, vI l1, vI l2, l3] [] (mw f a g) = some (some (vI (-1 : Int32)), (mw f a g)) :=
  (r_con (pg_of mt_69 dX5_sway_19 rfl) (v2 := (-1 : Int32)) (by decide)).trans <|
  (r_ri (pg_of mt_69 dX5_sway_20 rfl) mt_69 rfl)
theorem b69_21 (l1 : Int32) (l2 : Int32) (l3 : ma_V) (h1 : ma_in l1 6 = true) (h2 : ma_in l1 6 = true) : rn xs L 69 21 [vR 0, vI l1, vI l2, l3] [] (mw f a g) = some (some (vI (a 3 l1.toNatClampNeg)), (mw f ((ma_u2 a 3 l1.toNatClampNeg l2)) g)) :=
  (r_ald (pg_of mt_69 dX5_sway_21 rfl) rfl).trans <|
  (r_gtr (a := 1) (pg_of mt_69 dX5_sway_22 rfl) rfl rfl).trans <|
  (r_gtr (a := 3) (pg_of mt_69 dX5_sway_25 rfl) rfl rfl).trans <|
  (r_ild (pg_of mt_69 dX5_sway_28 rfl) rfl).trans <|
  (r_iald (pg_of mt_69 dX5_sway_29 rfl) rfl h1).trans <|
  (r_ist (pg_of mt_69 dX5_sway_30 rfl) (Nat.le_of_ble_eq_true rfl) rfl).trans <|
  (r_ald (pg_of mt_69 dX5_sway_31 rfl) rfl).trans <|
  (r_gtr (a := 1) (pg_of mt_69 dX5_sway_32 rfl) rfl rfl).trans <|
  (r_gtr (a := 3) (pg_of mt_69 dX5_sway_35 rfl) rfl rfl).trans <|
  (r_ild (pg_of mt_69 dX5_sway_38 rfl) rfl).trans <|
  (r_ild (pg_of mt_69 dX5_sway_39 rfl) rfl).trans <|
  (r_iast (pg_of mt_69 dX5_sway_40 rfl) rfl h2).trans <|
  (r_ild (pg_of mt_69 dX5_sway_41 rfl) rfl).trans <|
  (r_ri (pg_of mt_69 dX5_sway_42 rfl) mt_69 rfl)
-- 70 LeafFalls.days(I)I
theorem b70_0 (l1 : Int32) (l2 : ma_V) : rn xs L 70 0 [vR 0, vI l1, l2] [] (mw f a g) = (ev xs L 56 3 [vI l1, vI (1 : Int32), vI (60 : Int32)] (mw f a g)).bind (fun b => rn xs L 70 7 [vR 0, vI l1, l2] (b.1.toList ++ []) b.2) :=
  (r_ild (pg_of mt_70 dX5_days_0 rfl) rfl).trans <|
  (r_con (pg_of mt_70 dX5_days_1 rfl) (v2 := (1 : Int32)) (by decide)).trans <|
  (r_con (pg_of mt_70 dX5_days_2 rfl) (v2 := (60 : Int32)) (by decide)).trans <|
  (r_call (t := tt_70) (t2 := tt_56) (pg_of mt_70 dX5_days_4 rfl) mt_70 mt_56 rfl rfl rfl rfl rfl)
theorem b70_7 (l1 : Int32) (l2 : ma_V) (s0 : Int32) : rn xs L 70 7 [vR 0, vI l1, l2] [vI s0] (mw f a g) = if s0 = 0 then rn xs L 70 10 [vR 0, vI l1, l2] [] (mw f a g) else rn xs L 70 12 [vR 0, vI l1, l2] [] (mw f a g) :=
  (r_ne0 (pg_of mt_70 dX5_days_7 rfl))
theorem b70_10 (l1 : Int32) (l2 : ma_V) : rn xs L 70 10 [vR 0, vI l1, l2] [] (mw f a g) = some (some (vI (-1 : Int32)), (mw f a g)) :=
  (r_con (pg_of mt_70 dX5_days_10 rfl) (v2 := (-1 : Int32)) (by decide)).trans <|
  (r_ri (pg_of mt_70 dX5_days_11 rfl) mt_70 rfl)
theorem b70_12 (l1 : Int32) (l2 : ma_V) : rn xs L 70 12 [vR 0, vI l1, l2] [] (mw f a g) = rn xs L 70 14 [vR 0, vI l1, vI (0 : Int32)] [] (mw f a g) :=
  (r_con (pg_of mt_70 dX5_days_12 rfl) (v2 := (0 : Int32)) (by decide)).trans <|
  (r_ist (pg_of mt_70 dX5_days_13 rfl) (Nat.le_of_ble_eq_true rfl) rfl)
theorem b70_14 (l1 : Int32) (l2 : Int32) : rn xs L 70 14 [vR 0, vI l1, vI l2] [] (mw f a g) = if l2 < l1 then rn xs L 70 19 [vR 0, vI l1, vI l2] [] (mw f a g) else rn xs L 70 33 [vR 0, vI l1, vI l2] [] (mw f a g) :=
  (r_ild (pg_of mt_70 dX5_days_14 rfl) rfl).trans <|
  (r_ild (pg_of mt_70 dX5_days_15 rfl) rfl).trans <|
  (r_ge (pg_of mt_70 dX5_days_16 rfl))
theorem b70_19 (l1 : Int32) (l2 : Int32) : rn xs L 70 19 [vR 0, vI l1, vI l2] [] (mw f a g) = (ev xs L 42 2 [vR 1] (mw f a g)).bind (fun b => rn xs L 70 26 [vR 0, vI l1, vI l2] (b.1.toList ++ []) b.2) :=
  (r_ald (pg_of mt_70 dX5_days_19 rfl) rfl).trans <|
  (r_gtr (a := 1) (pg_of mt_70 dX5_days_20 rfl) rfl rfl).trans <|
  (r_call (t := tt_70) (t2 := tt_42) (pg_of mt_70 dX5_days_23 rfl) mt_70 mt_42 rfl rfl (rcv1 rfl) rfl rfl)
theorem b70_26 (l1 : Int32) (l2 : Int32) (s0 : Int32) : rn xs L 70 26 [vR 0, vI l1, vI l2] [vI s0] (mw f a g) = rn xs L 70 14 [vR 0, vI l1, vI (l2 + (1 : Int32))] [] (mw f a g) :=
  (r_pop (pg_of mt_70 dX5_days_26 rfl) rfl).trans <|
  (r_inc (pg_of mt_70 dX5_days_27 rfl) (y := (1 : Int32)) (by decide) rfl rfl).trans <|
  (r_gto (pg_of mt_70 dX5_days_30 rfl))
theorem b70_33 (l1 : Int32) (l2 : Int32) : rn xs L 70 33 [vR 0, vI l1, vI l2] [] (mw f a g) = (ev xs L 41 1 [vR 1] (mw f a g)).bind (fun b => rn xs L 70 40 [vR 0, vI l1, vI l2] (b.1.toList ++ []) b.2) :=
  (r_ald (pg_of mt_70 dX5_days_33 rfl) rfl).trans <|
  (r_gtr (a := 1) (pg_of mt_70 dX5_days_34 rfl) rfl rfl).trans <|
  (r_call (t := tt_70) (t2 := tt_41) (pg_of mt_70 dX5_days_37 rfl) mt_70 mt_41 rfl rfl (rcv1 rfl) rfl rfl)
theorem b70_40 (l1 : Int32) (l2 : Int32) (s0 : Int32) : rn xs L 70 40 [vR 0, vI l1, vI l2] [vI s0] (mw f a g) = some (some (vI s0), (mw f a g)) :=
  (r_ri (pg_of mt_70 dX5_days_40 rfl) mt_70 rfl)
-- 71 LeafFalls.held(I)I
theorem b71_0 (l0 : Int32) : rn xs L 71 0 [vI l0] [] (mw f a g) = some (some (vI (if (0 : Int32) < (if l0 < (99 : Int32) then l0 else (99 : Int32)) then (if l0 < (99 : Int32) then l0 else (99 : Int32)) else (0 : Int32))), (mw f a g)) :=
  (r_con (pg_of mt_71 dX5_held_0 rfl) (v2 := (0 : Int32)) (by decide)).trans <|
  (r_con (pg_of mt_71 dX5_held_1 rfl) (v2 := (99 : Int32)) (by decide)).trans <|
  (r_ild (pg_of mt_71 dX5_held_3 rfl) rfl).trans <|
  (r_lim (pg_of mt_71 dX5_held_4 rfl) (Nat.le_of_ble_eq_true rfl)).trans <|
  (r_lim (pg_of mt_71 dX5_held_7 rfl) (Nat.le_of_ble_eq_true rfl)).trans <|
  (r_ri (pg_of mt_71 dX5_held_10 rfl) mt_71 rfl)
-- 72 LeafFalls.seed(I)I
theorem b72_0 (l1 : Int32) (l2 : ma_V) : rn xs L 72 0 [vR 0, vI l1, l2] [] (mw f a g) = some (some (vI (f 1 10)), (mw ((ma_u2 f 1 10 l1)) a g)) :=
  (r_ald (pg_of mt_72 dX5_seed_0 rfl) rfl).trans <|
  (r_gtr (a := 1) (pg_of mt_72 dX5_seed_1 rfl) rfl rfl).trans <|
  (r_gti (pg_of mt_72 dX5_seed_4 rfl) rfl).trans <|
  (r_ist (pg_of mt_72 dX5_seed_7 rfl) (Nat.le_of_ble_eq_true rfl) rfl).trans <|
  (r_ald (pg_of mt_72 dX5_seed_8 rfl) rfl).trans <|
  (r_gtr (a := 1) (pg_of mt_72 dX5_seed_9 rfl) rfl rfl).trans <|
  (r_ild (pg_of mt_72 dX5_seed_12 rfl) rfl).trans <|
  (r_pti (pg_of mt_72 dX5_seed_13 rfl) rfl rfl).trans <|
  (r_ild (pg_of mt_72 dX5_seed_16 rfl) rfl).trans <|
  (r_ri (pg_of mt_72 dX5_seed_17 rfl) mt_72 rfl)
-- 73 LeafFalls.day()I
theorem b73_0  : rn xs L 73 0 [vR 0] [] (mw f a g) = (ev xs L 45 2 [vR 1] (mw f a g)).bind (fun b => rn xs L 73 7 [vR 0] (b.1.toList ++ []) b.2) :=
  (r_ald (pg_of mt_73 dX5_day_0 rfl) rfl).trans <|
  (r_gtr (a := 1) (pg_of mt_73 dX5_day_1 rfl) rfl rfl).trans <|
  (r_call (t := tt_73) (t2 := tt_45) (pg_of mt_73 dX5_day_4 rfl) mt_73 mt_45 rfl rfl (rcv1 rfl) rfl rfl)
theorem b73_7 (s0 : Int32) : rn xs L 73 7 [vR 0] [vI s0] (mw f a g) = (ev xs L 41 1 [vR 1] (mw f a g)).bind (fun b => rn xs L 73 15 [vR 0] (b.1.toList ++ []) b.2) :=
  (r_pop (pg_of mt_73 dX5_day_7 rfl) rfl).trans <|
  (r_ald (pg_of mt_73 dX5_day_8 rfl) rfl).trans <|
  (r_gtr (a := 1) (pg_of mt_73 dX5_day_9 rfl) rfl rfl).trans <|
  (r_call (t := tt_73) (t2 := tt_41) (pg_of mt_73 dX5_day_12 rfl) mt_73 mt_41 rfl rfl (rcv1 rfl) rfl rfl)
theorem b73_15 (s0 : Int32) : rn xs L 73 15 [vR 0] [vI s0] (mw f a g) = some (some (vI s0), (mw f a g)) :=
  (r_ri (pg_of mt_73 dX5_day_15 rfl) mt_73 rfl)
-- 74 LeafFalls.lost(I)I
theorem b74_0 (l1 : Int32) (l2 : ma_V) (l3 : ma_V) (l4 : ma_V) (l5 : ma_V) : rn xs L 74 0 [vR 0, vI l1, l2, l3, l4, l5] [] (mw f a g) = (ev xs L 56 3 [vI l1, vI (1 : Int32), vI (30 : Int32)] (mw f a g)).bind (fun b => rn xs L 74 7 [vR 0, vI l1, l2, l3, l4, l5] (b.1.toList ++ []) b.2) :=
  (r_ild (pg_of mt_74 dX5_lost_0 rfl) rfl).trans <|
  (r_con (pg_of mt_74 dX5_lost_1 rfl) (v2 := (1 : Int32)) (by decide)).trans <|
  (r_con (pg_of mt_74 dX5_lost_2 rfl) (v2 := (30 : Int32)) (by decide)).trans <|
  (r_call (t := tt_74) (t2 := tt_56) (pg_of mt_74 dX5_lost_4 rfl) mt_74 mt_56 rfl rfl rfl rfl rfl)
theorem b74_7 (l1 : Int32) (l2 : ma_V) (l3 : ma_V) (l4 : ma_V) (l5 : ma_V) (s0 : Int32) : rn xs L 74 7 [vR 0, vI l1, l2, l3, l4, l5] [vI s0] (mw f a g) = if s0 = 0 then rn xs L 74 10 [vR 0, vI l1, l2, l3, l4, l5] [] (mw f a g) else rn xs L 74 12 [vR 0, vI l1, l2, l3, l4, l5] [] (mw f a g) :=
  (r_ne0 (pg_of mt_74 dX5_lost_7 rfl))
theorem b74_10 (l1 : Int32) (l2 : ma_V) (l3 : ma_V) (l4 : ma_V) (l5 : ma_V) : rn xs L 74 10 [vR 0, vI l1, l2, l3, l4, l5] [] (mw f a g) = some (some (vI (-1 : Int32)), (mw f a g)) :=
  (r_con (pg_of mt_74 dX5_lost_10 rfl) (v2 := (-1 : Int32)) (by decide)).trans <|
  (r_ri (pg_of mt_74 dX5_lost_11 rfl) mt_74 rfl)
theorem b74_12 (l1 : Int32) (l2 : ma_V) (l3 : ma_V) (l4 : ma_V) (l5 : ma_V) : rn xs L 74 12 [vR 0, vI l1, l2, l3, l4, l5] [] (mw f a g) = (ev xs L 33 2 [vR 9, vR 1] (mw f a g)).bind (fun b => rn xs L 74 23 [vR 0, vI l1, l2, l3, l4, l5] (b.1.toList ++ []) b.2) :=
  (r_ald (pg_of mt_74 dX5_lost_12 rfl) rfl).trans <|
  (r_gtr (a := 9) (pg_of mt_74 dX5_lost_13 rfl) rfl rfl).trans <|
  (r_ald (pg_of mt_74 dX5_lost_16 rfl) rfl).trans <|
  (r_gtr (a := 1) (pg_of mt_74 dX5_lost_17 rfl) rfl rfl).trans <|
  (r_call (t := tt_74) (t2 := tt_33) (pg_of mt_74 dX5_lost_20 rfl) mt_74 mt_33 rfl rfl (rcv1 rfl) rfl rfl)
theorem b74_23 (l1 : Int32) (l2 : ma_V) (l3 : ma_V) (l4 : ma_V) (l5 : ma_V) : rn xs L 74 23 [vR 0, vI l1, l2, l3, l4, l5] [] (mw f a g) = (ev xs L 42 2 [vR 9] (mw f a g)).bind (fun b => rn xs L 74 30 [vR 0, vI l1, l2, l3, l4, l5] (b.1.toList ++ []) b.2) :=
  (r_ald (pg_of mt_74 dX5_lost_23 rfl) rfl).trans <|
  (r_gtr (a := 9) (pg_of mt_74 dX5_lost_24 rfl) rfl rfl).trans <|
  (r_call (t := tt_74) (t2 := tt_42) (pg_of mt_74 dX5_lost_27 rfl) mt_74 mt_42 rfl rfl (rcv1 rfl) rfl rfl)
theorem b74_30 (l1 : Int32) (l2 : ma_V) (l3 : ma_V) (l4 : ma_V) (l5 : ma_V) (s0 : Int32) : rn xs L 74 30 [vR 0, vI l1, l2, l3, l4, l5] [vI s0] (mw f a g) = rn xs L 74 45 [vR 0, vI l1, vI s0, vI (f 1 10), vI (0 : Int32), vI (0 : Int32)] [] (mw f a g) :=
  (r_ist (pg_of mt_74 dX5_lost_30 rfl) (Nat.le_of_ble_eq_true rfl) rfl).trans <|
  (r_ald (pg_of mt_74 dX5_lost_31 rfl) rfl).trans <|
  (r_gtr (a := 1) (pg_of mt_74 dX5_lost_32 rfl) rfl rfl).trans <|
  (r_gti (pg_of mt_74 dX5_lost_35 rfl) rfl).trans <|
  (r_ist (pg_of mt_74 dX5_lost_38 rfl) (Nat.le_of_ble_eq_true rfl) rfl).trans <|
  (r_con (pg_of mt_74 dX5_lost_39 rfl) (v2 := (0 : Int32)) (by decide)).trans <|
  (r_ist (pg_of mt_74 dX5_lost_40 rfl) (Nat.le_of_ble_eq_true rfl) rfl).trans <|
  (r_con (pg_of mt_74 dX5_lost_42 rfl) (v2 := (0 : Int32)) (by decide)).trans <|
  (r_ist (pg_of mt_74 dX5_lost_43 rfl) (Nat.le_of_ble_eq_true rfl) rfl)
theorem b74_45 (l1 : Int32) (l2 : Int32) (l3 : Int32) (l4 : Int32) (l5 : Int32) : rn xs L 74 45 [vR 0, vI l1, vI l2, vI l3, vI l4, vI l5] [] (mw f a g) = if l5 < l1 then rn xs L 74 51 [vR 0, vI l1, vI l2, vI l3, vI l4, vI l5] [] (mw f a g) else rn xs L 74 98 [vR 0, vI l1, vI l2, vI l3, vI l4, vI l5] [] (mw f a g) :=
  (r_ild (pg_of mt_74 dX5_lost_45 rfl) rfl).trans <|
  (r_ild (pg_of mt_74 dX5_lost_47 rfl) rfl).trans <|
  (r_ge (pg_of mt_74 dX5_lost_48 rfl))
theorem b74_51 (l1 : Int32) (l2 : Int32) (l3 : Int32) (l4 : Int32) (l5 : Int32) : rn xs L 74 51 [vR 0, vI l1, vI l2, vI l3, vI l4, vI l5] [] (mw f a g) = (ev xs L 33 2 [vR 9, vR 1] (mw f a g)).bind (fun b => rn xs L 74 62 [vR 0, vI l1, vI l2, vI l3, vI l4, vI l5] (b.1.toList ++ []) b.2) :=
  (r_ald (pg_of mt_74 dX5_lost_51 rfl) rfl).trans <|
  (r_gtr (a := 9) (pg_of mt_74 dX5_lost_52 rfl) rfl rfl).trans <|
  (r_ald (pg_of mt_74 dX5_lost_55 rfl) rfl).trans <|
  (r_gtr (a := 1) (pg_of mt_74 dX5_lost_56 rfl) rfl rfl).trans <|
  (r_call (t := tt_74) (t2 := tt_33) (pg_of mt_74 dX5_lost_59 rfl) mt_74 mt_33 rfl rfl (rcv1 rfl) rfl rfl)
theorem b74_62 (l1 : Int32) (l2 : Int32) (l3 : Int32) (l4 : Int32) (l5 : Int32) : rn xs L 74 62 [vR 0, vI l1, vI l2, vI l3, vI l4, vI l5] [] (mw f a g) = (ev xs L 45 2 [vR 9] (mw ((ma_u2 f 9 10 l3)) a g)).bind (fun b => rn xs L 74 77 [vR 0, vI l1, vI l2, vI l3, vI l4, vI l5] (b.1.toList ++ []) b.2) :=
  (r_ald (pg_of mt_74 dX5_lost_62 rfl) rfl).trans <|
  (r_gtr (a := 9) (pg_of mt_74 dX5_lost_63 rfl) rfl rfl).trans <|
  (r_ild (pg_of mt_74 dX5_lost_66 rfl) rfl).trans <|
  (r_pti (pg_of mt_74 dX5_lost_67 rfl) rfl rfl).trans <|
  (r_ald (pg_of mt_74 dX5_lost_70 rfl) rfl).trans <|
  (r_gtr (a := 9) (pg_of mt_74 dX5_lost_71 rfl) rfl rfl).trans <|
  (r_call (t := tt_74) (t2 := tt_45) (pg_of mt_74 dX5_lost_74 rfl) mt_74 mt_45 rfl rfl (rcv1 rfl) rfl rfl)
theorem b74_77 (l1 : Int32) (l2 : Int32) (l3 : Int32) (l4 : Int32) (l5 : Int32) (s0 : Int32) : rn xs L 74 77 [vR 0, vI l1, vI l2, vI l3, vI l4, vI l5] [vI s0] (mw f a g) = if s0 = l2 then rn xs L 74 84 [vR 0, vI l1, vI l2, vI l3, vI l4, vI l5] [] (mw f a g) else rn xs L 74 81 [vR 0, vI l1, vI l2, vI l3, vI l4, vI l5] [] (mw f a g) :=
  (r_ild (pg_of mt_74 dX5_lost_77 rfl) rfl).trans <|
  (r_eq (pg_of mt_74 dX5_lost_78 rfl))
theorem b74_81 (l1 : Int32) (l2 : Int32) (l3 : Int32) (l4 : Int32) (l5 : Int32) : rn xs L 74 81 [vR 0, vI l1, vI l2, vI l3, vI l4, vI l5] [] (mw f a g) = rn xs L 74 45 [vR 0, vI l1, vI l2, vI (f 9 10), vI (l4 + (1 : Int32)), vI (l5 + (1 : Int32))] [] (mw f a g) :=
  (r_inc (pg_of mt_74 dX5_lost_81 rfl) (y := (1 : Int32)) (by decide) rfl rfl).trans <|
  (r_ald (pg_of mt_74 dX5_lost_84 rfl) rfl).trans <|
  (r_gtr (a := 9) (pg_of mt_74 dX5_lost_85 rfl) rfl rfl).trans <|
  (r_gti (pg_of mt_74 dX5_lost_88 rfl) rfl).trans <|
  (r_ist (pg_of mt_74 dX5_lost_91 rfl) (Nat.le_of_ble_eq_true rfl) rfl).trans <|
  (r_inc (pg_of mt_74 dX5_lost_92 rfl) (y := (1 : Int32)) (by decide) rfl rfl).trans <|
  (r_gto (pg_of mt_74 dX5_lost_95 rfl))
theorem b74_84 (l1 : Int32) (l2 : Int32) (l3 : Int32) (l4 : Int32) (l5 : Int32) : rn xs L 74 84 [vR 0, vI l1, vI l2, vI l3, vI l4, vI l5] [] (mw f a g) = rn xs L 74 45 [vR 0, vI l1, vI l2, vI (f 9 10), vI l4, vI (l5 + (1 : Int32))] [] (mw f a g) :=
  (r_ald (pg_of mt_74 dX5_lost_84 rfl) rfl).trans <|
  (r_gtr (a := 9) (pg_of mt_74 dX5_lost_85 rfl) rfl rfl).trans <|
  (r_gti (pg_of mt_74 dX5_lost_88 rfl) rfl).trans <|
  (r_ist (pg_of mt_74 dX5_lost_91 rfl) (Nat.le_of_ble_eq_true rfl) rfl).trans <|
  (r_inc (pg_of mt_74 dX5_lost_92 rfl) (y := (1 : Int32)) (by decide) rfl rfl).trans <|
  (r_gto (pg_of mt_74 dX5_lost_95 rfl))
theorem b74_98 (l1 : Int32) (l2 : Int32) (l3 : Int32) (l4 : Int32) (l5 : Int32) : rn xs L 74 98 [vR 0, vI l1, vI l2, vI l3, vI l4, vI l5] [] (mw f a g) = some (some (vI l4), (mw f a g)) :=
  (r_ild (pg_of mt_74 dX5_lost_98 rfl) rfl).trans <|
  (r_ri (pg_of mt_74 dX5_lost_100 rfl) mt_74 rfl)
-- 75 LeafFalls.written(I)I
theorem b75_0 (l1 : Int32) : rn xs L 75 0 [vR 0, vI l1] [] (mw f a g) = (ev xs L 56 3 [vI l1, vI (0 : Int32), vI ((f 1 8) - (1 : Int32))] (mw f a g)).bind (fun b => rn xs L 75 14 [vR 0, vI l1] (b.1.toList ++ []) b.2) :=
  (r_ild (pg_of mt_75 dX5_written_0 rfl) rfl).trans <|
  (r_con (pg_of mt_75 dX5_written_1 rfl) (v2 := (0 : Int32)) (by decide)).trans <|
  (r_ald (pg_of mt_75 dX5_written_2 rfl) rfl).trans <|
  (r_gtr (a := 1) (pg_of mt_75 dX5_written_3 rfl) rfl rfl).trans <|
  (r_gti (pg_of mt_75 dX5_written_6 rfl) rfl).trans <|
  (r_con (pg_of mt_75 dX5_written_9 rfl) (v2 := (1 : Int32)) (by decide)).trans <|
  (r_bin (pg_of mt_75 dX5_written_10 rfl)).trans <|
  (r_call (t := tt_75) (t2 := tt_56) (pg_of mt_75 dX5_written_11 rfl) mt_75 mt_56 rfl rfl rfl rfl rfl)
theorem b75_14 (l1 : Int32) (s0 : Int32) : rn xs L 75 14 [vR 0, vI l1] [vI s0] (mw f a g) = if s0 = 0 then rn xs L 75 28 [vR 0, vI l1] [] (mw f a g) else rn xs L 75 17 [vR 0, vI l1] [] (mw f a g) :=
  (r_eq0 (pg_of mt_75 dX5_written_14 rfl))
theorem b75_17 (l1 : Int32) : rn xs L 75 17 [vR 0, vI l1] [] (mw f a g) = (ev xs L 47 3 [vR 1, vI l1] (mw f a g)).bind (fun b => rn xs L 75 25 [vR 0, vI l1] (b.1.toList ++ []) b.2) :=
  (r_ald (pg_of mt_75 dX5_written_17 rfl) rfl).trans <|
  (r_gtr (a := 1) (pg_of mt_75 dX5_written_18 rfl) rfl rfl).trans <|
  (r_ild (pg_of mt_75 dX5_written_21 rfl) rfl).trans <|
  (r_call (t := tt_75) (t2 := tt_47) (pg_of mt_75 dX5_written_22 rfl) mt_75 mt_47 rfl rfl (rcv1 rfl) rfl rfl)
theorem b75_25 (l1 : Int32) (s0 : Int32) : rn xs L 75 25 [vR 0, vI l1] [vI s0] (mw f a g) = some (some (vI s0), (mw f a g)) :=
  (r_gto (pg_of mt_75 dX5_written_25 rfl)).trans <|
  (r_ri (pg_of mt_75 dX5_written_30 rfl) mt_75 rfl)
theorem b75_28 (l1 : Int32) : rn xs L 75 28 [vR 0, vI l1] [] (mw f a g) = some (some (vI (-3 : Int32)), (mw f a g)) :=
  (r_con (pg_of mt_75 dX5_written_28 rfl) (v2 := (-3 : Int32)) (by decide)).trans <|
  (r_ri (pg_of mt_75 dX5_written_30 rfl) mt_75 rfl)
-- 76 LeafFalls.state(I)I
theorem sw76_1 {ls st : List ma_V} {w : ma_W} {x : Int32} : rn xs L 76 1 ls (vI x :: st) w = if x = 0 then rn xs L 76 40 ls st w else if x = 1 then rn xs L 76 48 ls st w else if x = 2 then rn xs L 76 56 ls st w else if x = 3 then rn xs L 76 64 ls st w else if x = 4 then rn xs L 76 72 ls st w else if x = 5 then rn xs L 76 80 ls st w else rn xs L 76 88 ls st w := by
  by_cases h0 : x = 0
  · rw [if_pos h0, h0]; exact r_swi (t := 40) (pg_of mt_76 dX5_state_1 rfl) (by decide)
  rw [if_neg h0]
  by_cases h1 : x = 1
  · rw [if_pos h1, h1]; exact r_swi (t := 48) (pg_of mt_76 dX5_state_1 rfl) (by decide)
  rw [if_neg h1]
  by_cases h2 : x = 2
  · rw [if_pos h2, h2]; exact r_swi (t := 56) (pg_of mt_76 dX5_state_1 rfl) (by decide)
  rw [if_neg h2]
  by_cases h3 : x = 3
  · rw [if_pos h3, h3]; exact r_swi (t := 64) (pg_of mt_76 dX5_state_1 rfl) (by decide)
  rw [if_neg h3]
  by_cases h4 : x = 4
  · rw [if_pos h4, h4]; exact r_swi (t := 72) (pg_of mt_76 dX5_state_1 rfl) (by decide)
  rw [if_neg h4]
  by_cases h5 : x = 5
  · rw [if_pos h5, h5]; exact r_swi (t := 80) (pg_of mt_76 dX5_state_1 rfl) (by decide)
  rw [if_neg h5]
  have e0 := i_nei (k := 0) (0 : Int32) (by decide) h0
  have e1 := i_nei (k := 1) (1 : Int32) (by decide) h1
  have e2 := i_nei (k := 2) (2 : Int32) (by decide) h2
  have e3 := i_nei (k := 3) (3 : Int32) (by decide) h3
  have e4 := i_nei (k := 4) (4 : Int32) (by decide) h4
  have e5 := i_nei (k := 5) (5 : Int32) (by decide) h5
  exact r_swi (t := 88) (pg_of mt_76 dX5_state_1 rfl) (tsw_out (by omega) (by decide) (by decide))
theorem b76_0 (l1 : Int32) : rn xs L 76 0 [vR 0, vI l1] [] (mw f a g) = if l1 = 0 then rn xs L 76 40 [vR 0, vI l1] [] (mw f a g) else if l1 = 1 then rn xs L 76 48 [vR 0, vI l1] [] (mw f a g) else if l1 = 2 then rn xs L 76 56 [vR 0, vI l1] [] (mw f a g) else if l1 = 3 then rn xs L 76 64 [vR 0, vI l1] [] (mw f a g) else if l1 = 4 then rn xs L 76 72 [vR 0, vI l1] [] (mw f a g) else if l1 = 5 then rn xs L 76 80 [vR 0, vI l1] [] (mw f a g) else rn xs L 76 88 [vR 0, vI l1] [] (mw f a g) :=
  (r_ild (pg_of mt_76 dX5_state_0 rfl) rfl).trans <|
  (sw76_1)
theorem b76_40 (l1 : Int32) : rn xs L 76 40 [vR 0, vI l1] [] (mw f a g) = some (some (vI (f 1 9)), (mw f a g)) :=
  (r_ald (pg_of mt_76 dX5_state_40 rfl) rfl).trans <|
  (r_gtr (a := 1) (pg_of mt_76 dX5_state_41 rfl) rfl rfl).trans <|
  (r_gti (pg_of mt_76 dX5_state_44 rfl) rfl).trans <|
  (r_ri (pg_of mt_76 dX5_state_47 rfl) mt_76 rfl)
theorem b76_48 (l1 : Int32) : rn xs L 76 48 [vR 0, vI l1] [] (mw f a g) = (ev xs L 48 3 [vR 1] (mw f a g)).bind (fun b => rn xs L 76 55 [vR 0, vI l1] (b.1.toList ++ []) b.2) :=
  (r_ald (pg_of mt_76 dX5_state_48 rfl) rfl).trans <|
  (r_gtr (a := 1) (pg_of mt_76 dX5_state_49 rfl) rfl rfl).trans <|
  (r_call (t := tt_76) (t2 := tt_48) (pg_of mt_76 dX5_state_52 rfl) mt_76 mt_48 rfl rfl (rcv1 rfl) rfl rfl)
theorem b76_55 (l1 : Int32) (s0 : Int32) : rn xs L 76 55 [vR 0, vI l1] [vI s0] (mw f a g) = some (some (vI s0), (mw f a g)) :=
  (r_ri (pg_of mt_76 dX5_state_55 rfl) mt_76 rfl)
theorem b76_56 (l1 : Int32) : rn xs L 76 56 [vR 0, vI l1] [] (mw f a g) = (ev xs L 49 3 [vR 1] (mw f a g)).bind (fun b => rn xs L 76 63 [vR 0, vI l1] (b.1.toList ++ []) b.2) :=
  (r_ald (pg_of mt_76 dX5_state_56 rfl) rfl).trans <|
  (r_gtr (a := 1) (pg_of mt_76 dX5_state_57 rfl) rfl rfl).trans <|
  (r_call (t := tt_76) (t2 := tt_49) (pg_of mt_76 dX5_state_60 rfl) mt_76 mt_49 rfl rfl (rcv1 rfl) rfl rfl)
theorem b76_63 (l1 : Int32) (s0 : Int32) : rn xs L 76 63 [vR 0, vI l1] [vI s0] (mw f a g) = some (some (vI s0), (mw f a g)) :=
  (r_ri (pg_of mt_76 dX5_state_63 rfl) mt_76 rfl)
theorem b76_64 (l1 : Int32) : rn xs L 76 64 [vR 0, vI l1] [] (mw f a g) = (ev xs L 50 3 [vR 1] (mw f a g)).bind (fun b => rn xs L 76 71 [vR 0, vI l1] (b.1.toList ++ []) b.2) :=
  (r_ald (pg_of mt_76 dX5_state_64 rfl) rfl).trans <|
  (r_gtr (a := 1) (pg_of mt_76 dX5_state_65 rfl) rfl rfl).trans <|
  (r_call (t := tt_76) (t2 := tt_50) (pg_of mt_76 dX5_state_68 rfl) mt_76 mt_50 rfl rfl (rcv1 rfl) rfl rfl)
theorem b76_71 (l1 : Int32) (s0 : Int32) : rn xs L 76 71 [vR 0, vI l1] [vI s0] (mw f a g) = some (some (vI s0), (mw f a g)) :=
  (r_ri (pg_of mt_76 dX5_state_71 rfl) mt_76 rfl)
theorem b76_72 (l1 : Int32) : rn xs L 76 72 [vR 0, vI l1] [] (mw f a g) = (ev xs L 51 3 [vR 1] (mw f a g)).bind (fun b => rn xs L 76 79 [vR 0, vI l1] (b.1.toList ++ []) b.2) :=
  (r_ald (pg_of mt_76 dX5_state_72 rfl) rfl).trans <|
  (r_gtr (a := 1) (pg_of mt_76 dX5_state_73 rfl) rfl rfl).trans <|
  (r_call (t := tt_76) (t2 := tt_51) (pg_of mt_76 dX5_state_76 rfl) mt_76 mt_51 rfl rfl (rcv1 rfl) rfl rfl)
theorem b76_79 (l1 : Int32) (s0 : Int32) : rn xs L 76 79 [vR 0, vI l1] [vI s0] (mw f a g) = some (some (vI s0), (mw f a g)) :=
  (r_ri (pg_of mt_76 dX5_state_79 rfl) mt_76 rfl)
theorem b76_80 (l1 : Int32) : rn xs L 76 80 [vR 0, vI l1] [] (mw f a g) = (ev xs L 52 3 [vR 1] (mw f a g)).bind (fun b => rn xs L 76 87 [vR 0, vI l1] (b.1.toList ++ []) b.2) :=
  (r_ald (pg_of mt_76 dX5_state_80 rfl) rfl).trans <|
  (r_gtr (a := 1) (pg_of mt_76 dX5_state_81 rfl) rfl rfl).trans <|
  (r_call (t := tt_76) (t2 := tt_52) (pg_of mt_76 dX5_state_84 rfl) mt_76 mt_52 rfl rfl (rcv1 rfl) rfl rfl)
theorem b76_87 (l1 : Int32) (s0 : Int32) : rn xs L 76 87 [vR 0, vI l1] [vI s0] (mw f a g) = some (some (vI s0), (mw f a g)) :=
  (r_ri (pg_of mt_76 dX5_state_87 rfl) mt_76 rfl)
theorem b76_88 (l1 : Int32) : rn xs L 76 88 [vR 0, vI l1] [] (mw f a g) = some (some (vI (-1 : Int32)), (mw f a g)) :=
  (r_con (pg_of mt_76 dX5_state_88 rfl) (v2 := (-1 : Int32)) (by decide)).trans <|
  (r_ri (pg_of mt_76 dX5_state_89 rfl) mt_76 rfl)
-- 77 LeafFalls.falls(I)I
theorem b77_0 (l1 : Int32) (l2 : ma_V) : rn xs L 77 0 [vR 0, vI l1, l2] [] (mw f a g) = (ev xs L 34 2 [vR 1, vI l1] (mw f a g)).bind (fun b => rn xs L 77 8 [vR 0, vI l1, l2] (b.1.toList ++ []) b.2) :=
  (r_ald (pg_of mt_77 dX5_falls_0 rfl) rfl).trans <|
  (r_gtr (a := 1) (pg_of mt_77 dX5_falls_1 rfl) rfl rfl).trans <|
  (r_ild (pg_of mt_77 dX5_falls_4 rfl) rfl).trans <|
  (r_call (t := tt_77) (t2 := tt_34) (pg_of mt_77 dX5_falls_5 rfl) mt_77 mt_34 rfl rfl (rcv1 rfl) rfl rfl)
theorem b77_8 (l1 : Int32) (l2 : ma_V) (s0 : Int32) : rn xs L 77 8 [vR 0, vI l1, l2] [vI s0] (mw f a g) = if s0 = 0 then rn xs L 77 11 [vR 0, vI l1, l2] [] (mw f a g) else rn xs L 77 13 [vR 0, vI l1, l2] [] (mw f a g) :=
  (r_ne0 (pg_of mt_77 dX5_falls_8 rfl))
theorem b77_11 (l1 : Int32) (l2 : ma_V) : rn xs L 77 11 [vR 0, vI l1, l2] [] (mw f a g) = some (some (vI (-1 : Int32)), (mw f a g)) :=
  (r_con (pg_of mt_77 dX5_falls_11 rfl) (v2 := (-1 : Int32)) (by decide)).trans <|
  (r_ri (pg_of mt_77 dX5_falls_12 rfl) mt_77 rfl)
theorem b77_13 (l1 : Int32) (l2 : ma_V) : rn xs L 77 13 [vR 0, vI l1, l2] [] (mw f a g) = (ev xs L 33 2 [vR 9, vR 1] (mw f a g)).bind (fun b => rn xs L 77 24 [vR 0, vI l1, l2] (b.1.toList ++ []) b.2) :=
  (r_ald (pg_of mt_77 dX5_falls_13 rfl) rfl).trans <|
  (r_gtr (a := 9) (pg_of mt_77 dX5_falls_14 rfl) rfl rfl).trans <|
  (r_ald (pg_of mt_77 dX5_falls_17 rfl) rfl).trans <|
  (r_gtr (a := 1) (pg_of mt_77 dX5_falls_18 rfl) rfl rfl).trans <|
  (r_call (t := tt_77) (t2 := tt_33) (pg_of mt_77 dX5_falls_21 rfl) mt_77 mt_33 rfl rfl (rcv1 rfl) rfl rfl)
theorem b77_24 (l1 : Int32) (l2 : ma_V) : rn xs L 77 24 [vR 0, vI l1, l2] [] (mw f a g) = (ev xs L 78 3 [vR 0, vI l1] (mw f a g)).bind (fun b => rn xs L 77 29 [vR 0, vI l1, l2] (b.1.toList ++ []) b.2) :=
  (r_ald (pg_of mt_77 dX5_falls_24 rfl) rfl).trans <|
  (r_ild (pg_of mt_77 dX5_falls_25 rfl) rfl).trans <|
  (r_call (t := tt_77) (t2 := tt_78) (pg_of mt_77 dX5_falls_26 rfl) mt_77 mt_78 rfl rfl (rcv1 rfl) rfl rfl)
theorem b77_29 (l1 : Int32) (l2 : ma_V) (s0 : Int32) : rn xs L 77 29 [vR 0, vI l1, l2] [vI s0] (mw f a g) = if s0 = (61 : Int32) then rn xs L 77 36 [vR 0, vI l1, vI s0] [] (mw f a g) else rn xs L 77 41 [vR 0, vI l1, vI s0] [] (mw f a g) :=
  (r_ist (pg_of mt_77 dX5_falls_29 rfl) (Nat.le_of_ble_eq_true rfl) rfl).trans <|
  (r_ild (pg_of mt_77 dX5_falls_30 rfl) rfl).trans <|
  (r_con (pg_of mt_77 dX5_falls_31 rfl) (v2 := (61 : Int32)) (by decide)).trans <|
  (r_ne (pg_of mt_77 dX5_falls_33 rfl))
theorem b77_36 (l1 : Int32) (l2 : Int32) : rn xs L 77 36 [vR 0, vI l1, vI l2] [] (mw f a g) = some (some (vI (-3 : Int32)), (mw f a g)) :=
  (r_con (pg_of mt_77 dX5_falls_36 rfl) (v2 := (-3 : Int32)) (by decide)).trans <|
  (r_gto (pg_of mt_77 dX5_falls_38 rfl)).trans <|
  (r_ri (pg_of mt_77 dX5_falls_42 rfl) mt_77 rfl)
theorem b77_41 (l1 : Int32) (l2 : Int32) : rn xs L 77 41 [vR 0, vI l1, vI l2] [] (mw f a g) = some (some (vI l2), (mw f a g)) :=
  (r_ild (pg_of mt_77 dX5_falls_41 rfl) rfl).trans <|
  (r_ri (pg_of mt_77 dX5_falls_42 rfl) mt_77 rfl)
-- 78 LeafFalls.daysToFall(I)I
theorem b78_0 (l1 : Int32) (l2 : ma_V) : rn xs L 78 0 [vR 0, vI l1, l2] [] (mw f a g) = rn xs L 78 2 [vR 0, vI l1, vI (0 : Int32)] [] (mw f a g) :=
  (r_con (pg_of mt_78 dX5_daysToFall_0 rfl) (v2 := (0 : Int32)) (by decide)).trans <|
  (r_ist (pg_of mt_78 dX5_daysToFall_1 rfl) (Nat.le_of_ble_eq_true rfl) rfl)
theorem b78_2 (l1 : Int32) (l2 : Int32) : rn xs L 78 2 [vR 0, vI l1, vI l2] [] (mw f a g) = if (60 : Int32) < l2 then rn xs L 78 35 [vR 0, vI l1, vI l2] [] (mw f a g) else rn xs L 78 8 [vR 0, vI l1, vI l2] [] (mw f a g) :=
  (r_ild (pg_of mt_78 dX5_daysToFall_2 rfl) rfl).trans <|
  (r_con (pg_of mt_78 dX5_daysToFall_3 rfl) (v2 := (60 : Int32)) (by decide)).trans <|
  (r_gt (pg_of mt_78 dX5_daysToFall_5 rfl))
theorem b78_8 (l1 : Int32) (l2 : Int32) : rn xs L 78 8 [vR 0, vI l1, vI l2] [] (mw f a g) = (ev xs L 35 2 [vR 9, vI l1] (mw f a g)).bind (fun b => rn xs L 78 16 [vR 0, vI l1, vI l2] (b.1.toList ++ []) b.2) :=
  (r_ald (pg_of mt_78 dX5_daysToFall_8 rfl) rfl).trans <|
  (r_gtr (a := 9) (pg_of mt_78 dX5_daysToFall_9 rfl) rfl rfl).trans <|
  (r_ild (pg_of mt_78 dX5_daysToFall_12 rfl) rfl).trans <|
  (r_call (t := tt_78) (t2 := tt_35) (pg_of mt_78 dX5_daysToFall_13 rfl) mt_78 mt_35 rfl rfl (rcv1 rfl) rfl rfl)
theorem b78_16 (l1 : Int32) (l2 : Int32) (s0 : Int32) : rn xs L 78 16 [vR 0, vI l1, vI l2] [vI s0] (mw f a g) = if s0 = 0 then rn xs L 78 19 [vR 0, vI l1, vI l2] [] (mw f a g) else rn xs L 78 21 [vR 0, vI l1, vI l2] [] (mw f a g) :=
  (r_ne0 (pg_of mt_78 dX5_daysToFall_16 rfl))
theorem b78_19 (l1 : Int32) (l2 : Int32) : rn xs L 78 19 [vR 0, vI l1, vI l2] [] (mw f a g) = some (some (vI l2), (mw f a g)) :=
  (r_ild (pg_of mt_78 dX5_daysToFall_19 rfl) rfl).trans <|
  (r_ri (pg_of mt_78 dX5_daysToFall_20 rfl) mt_78 rfl)
theorem b78_21 (l1 : Int32) (l2 : Int32) : rn xs L 78 21 [vR 0, vI l1, vI l2] [] (mw f a g) = (ev xs L 42 2 [vR 9] (mw f a g)).bind (fun b => rn xs L 78 28 [vR 0, vI l1, vI l2] (b.1.toList ++ []) b.2) :=
  (r_ald (pg_of mt_78 dX5_daysToFall_21 rfl) rfl).trans <|
  (r_gtr (a := 9) (pg_of mt_78 dX5_daysToFall_22 rfl) rfl rfl).trans <|
  (r_call (t := tt_78) (t2 := tt_42) (pg_of mt_78 dX5_daysToFall_25 rfl) mt_78 mt_42 rfl rfl (rcv1 rfl) rfl rfl)
theorem b78_28 (l1 : Int32) (l2 : Int32) (s0 : Int32) : rn xs L 78 28 [vR 0, vI l1, vI l2] [vI s0] (mw f a g) = rn xs L 78 2 [vR 0, vI l1, vI (l2 + (1 : Int32))] [] (mw f a g) :=
  (r_pop (pg_of mt_78 dX5_daysToFall_28 rfl) rfl).trans <|
  (r_inc (pg_of mt_78 dX5_daysToFall_29 rfl) (y := (1 : Int32)) (by decide) rfl rfl).trans <|
  (r_gto (pg_of mt_78 dX5_daysToFall_32 rfl))
theorem b78_35 (l1 : Int32) (l2 : Int32) : rn xs L 78 35 [vR 0, vI l1, vI l2] [] (mw f a g) = some (some (vI (61 : Int32)), (mw f a g)) :=
  (r_con (pg_of mt_78 dX5_daysToFall_35 rfl) (v2 := (61 : Int32)) (by decide)).trans <|
  (r_ri (pg_of mt_78 dX5_daysToFall_37 rfl) mt_78 rfl)
-- 79 LeafFalls.bare()I
theorem b79_0 (l1 : ma_V) : rn xs L 79 0 [vR 0, l1] [] (mw f a g) = (ev xs L 33 2 [vR 9, vR 1] (mw f a g)).bind (fun b => rn xs L 79 11 [vR 0, l1] (b.1.toList ++ []) b.2) :=
  (r_ald (pg_of mt_79 dX5_bare_0 rfl) rfl).trans <|
  (r_gtr (a := 9) (pg_of mt_79 dX5_bare_1 rfl) rfl rfl).trans <|
  (r_ald (pg_of mt_79 dX5_bare_4 rfl) rfl).trans <|
  (r_gtr (a := 1) (pg_of mt_79 dX5_bare_5 rfl) rfl rfl).trans <|
  (r_call (t := tt_79) (t2 := tt_33) (pg_of mt_79 dX5_bare_8 rfl) mt_79 mt_33 rfl rfl (rcv1 rfl) rfl rfl)
theorem b79_11 (l1 : ma_V) : rn xs L 79 11 [vR 0, l1] [] (mw f a g) = rn xs L 79 13 [vR 0, vI (0 : Int32)] [] (mw f a g) :=
  (r_con (pg_of mt_79 dX5_bare_11 rfl) (v2 := (0 : Int32)) (by decide)).trans <|
  (r_ist (pg_of mt_79 dX5_bare_12 rfl) (Nat.le_of_ble_eq_true rfl) rfl)
theorem b79_13 (l1 : Int32) : rn xs L 79 13 [vR 0, vI l1] [] (mw f a g) = if (60 : Int32) < l1 then rn xs L 79 45 [vR 0, vI l1] [] (mw f a g) else rn xs L 79 19 [vR 0, vI l1] [] (mw f a g) :=
  (r_ild (pg_of mt_79 dX5_bare_13 rfl) rfl).trans <|
  (r_con (pg_of mt_79 dX5_bare_14 rfl) (v2 := (60 : Int32)) (by decide)).trans <|
  (r_gt (pg_of mt_79 dX5_bare_16 rfl))
theorem b79_19 (l1 : Int32) : rn xs L 79 19 [vR 0, vI l1] [] (mw f a g) = (ev xs L 41 1 [vR 9] (mw f a g)).bind (fun b => rn xs L 79 26 [vR 0, vI l1] (b.1.toList ++ []) b.2) :=
  (r_ald (pg_of mt_79 dX5_bare_19 rfl) rfl).trans <|
  (r_gtr (a := 9) (pg_of mt_79 dX5_bare_20 rfl) rfl rfl).trans <|
  (r_call (t := tt_79) (t2 := tt_41) (pg_of mt_79 dX5_bare_23 rfl) mt_79 mt_41 rfl rfl (rcv1 rfl) rfl rfl)
theorem b79_26 (l1 : Int32) (s0 : Int32) : rn xs L 79 26 [vR 0, vI l1] [vI s0] (mw f a g) = if s0 = 0 then rn xs L 79 29 [vR 0, vI l1] [] (mw f a g) else rn xs L 79 31 [vR 0, vI l1] [] (mw f a g) :=
  (r_ne0 (pg_of mt_79 dX5_bare_26 rfl))
theorem b79_29 (l1 : Int32) : rn xs L 79 29 [vR 0, vI l1] [] (mw f a g) = some (some (vI l1), (mw f a g)) :=
  (r_ild (pg_of mt_79 dX5_bare_29 rfl) rfl).trans <|
  (r_ri (pg_of mt_79 dX5_bare_30 rfl) mt_79 rfl)
theorem b79_31 (l1 : Int32) : rn xs L 79 31 [vR 0, vI l1] [] (mw f a g) = (ev xs L 42 2 [vR 9] (mw f a g)).bind (fun b => rn xs L 79 38 [vR 0, vI l1] (b.1.toList ++ []) b.2) :=
  (r_ald (pg_of mt_79 dX5_bare_31 rfl) rfl).trans <|
  (r_gtr (a := 9) (pg_of mt_79 dX5_bare_32 rfl) rfl rfl).trans <|
  (r_call (t := tt_79) (t2 := tt_42) (pg_of mt_79 dX5_bare_35 rfl) mt_79 mt_42 rfl rfl (rcv1 rfl) rfl rfl)
theorem b79_38 (l1 : Int32) (s0 : Int32) : rn xs L 79 38 [vR 0, vI l1] [vI s0] (mw f a g) = rn xs L 79 13 [vR 0, vI (l1 + (1 : Int32))] [] (mw f a g) :=
  (r_pop (pg_of mt_79 dX5_bare_38 rfl) rfl).trans <|
  (r_inc (pg_of mt_79 dX5_bare_39 rfl) (y := (1 : Int32)) (by decide) rfl rfl).trans <|
  (r_gto (pg_of mt_79 dX5_bare_42 rfl))
theorem b79_45 (l1 : Int32) : rn xs L 79 45 [vR 0, vI l1] [] (mw f a g) = some (some (vI (-3 : Int32)), (mw f a g)) :=
  (r_con (pg_of mt_79 dX5_bare_45 rfl) (v2 := (-3 : Int32)) (by decide)).trans <|
  (r_ri (pg_of mt_79 dX5_bare_47 rfl) mt_79 rfl)
-- 80 LeafFalls.next()I
theorem b80_0 (l1 : ma_V) (l2 : ma_V) : rn xs L 80 0 [vR 0, l1, l2] [] (mw f a g) = (ev xs L 33 2 [vR 9, vR 1] (mw f a g)).bind (fun b => rn xs L 80 11 [vR 0, l1, l2] (b.1.toList ++ []) b.2) :=
  (r_ald (pg_of mt_80 dX5_next_0 rfl) rfl).trans <|
  (r_gtr (a := 9) (pg_of mt_80 dX5_next_1 rfl) rfl rfl).trans <|
  (r_ald (pg_of mt_80 dX5_next_4 rfl) rfl).trans <|
  (r_gtr (a := 1) (pg_of mt_80 dX5_next_5 rfl) rfl rfl).trans <|
  (r_call (t := tt_80) (t2 := tt_33) (pg_of mt_80 dX5_next_8 rfl) mt_80 mt_33 rfl rfl (rcv1 rfl) rfl rfl)
theorem b80_11 (l1 : ma_V) (l2 : ma_V) : rn xs L 80 11 [vR 0, l1, l2] [] (mw f a g) = rn xs L 80 13 [vR 0, vI (0 : Int32), l2] [] (mw f a g) :=
  (r_con (pg_of mt_80 dX5_next_11 rfl) (v2 := (0 : Int32)) (by decide)).trans <|
  (r_ist (pg_of mt_80 dX5_next_12 rfl) (Nat.le_of_ble_eq_true rfl) rfl)
theorem b80_13 (l1 : Int32) (l2 : ma_V) : rn xs L 80 13 [vR 0, vI l1, l2] [] (mw f a g) = if l1 < (60 : Int32) then rn xs L 80 19 [vR 0, vI l1, l2] [] (mw f a g) else rn xs L 80 39 [vR 0, vI l1, l2] [] (mw f a g) :=
  (r_ild (pg_of mt_80 dX5_next_13 rfl) rfl).trans <|
  (r_con (pg_of mt_80 dX5_next_14 rfl) (v2 := (60 : Int32)) (by decide)).trans <|
  (r_ge (pg_of mt_80 dX5_next_16 rfl))
theorem b80_19 (l1 : Int32) (l2 : ma_V) : rn xs L 80 19 [vR 0, vI l1, l2] [] (mw f a g) = (ev xs L 42 2 [vR 9] (mw f a g)).bind (fun b => rn xs L 80 26 [vR 0, vI l1, l2] (b.1.toList ++ []) b.2) :=
  (r_ald (pg_of mt_80 dX5_next_19 rfl) rfl).trans <|
  (r_gtr (a := 9) (pg_of mt_80 dX5_next_20 rfl) rfl rfl).trans <|
  (r_call (t := tt_80) (t2 := tt_42) (pg_of mt_80 dX5_next_23 rfl) mt_80 mt_42 rfl rfl (rcv1 rfl) rfl rfl)
theorem b80_26 (l1 : Int32) (l2 : ma_V) (s0 : Int32) : rn xs L 80 26 [vR 0, vI l1, l2] [vI s0] (mw f a g) = if s0 < 0 then rn xs L 80 33 [vR 0, vI l1, vI s0] [] (mw f a g) else rn xs L 80 31 [vR 0, vI l1, vI s0] [] (mw f a g) :=
  (r_ist (pg_of mt_80 dX5_next_26 rfl) (Nat.le_of_ble_eq_true rfl) rfl).trans <|
  (r_ild (pg_of mt_80 dX5_next_27 rfl) rfl).trans <|
  (r_lt0 (pg_of mt_80 dX5_next_28 rfl))
theorem b80_31 (l1 : Int32) (l2 : Int32) : rn xs L 80 31 [vR 0, vI l1, vI l2] [] (mw f a g) = some (some (vI l2), (mw f a g)) :=
  (r_ild (pg_of mt_80 dX5_next_31 rfl) rfl).trans <|
  (r_ri (pg_of mt_80 dX5_next_32 rfl) mt_80 rfl)
theorem b80_33 (l1 : Int32) (l2 : Int32) : rn xs L 80 33 [vR 0, vI l1, vI l2] [] (mw f a g) = rn xs L 80 13 [vR 0, vI (l1 + (1 : Int32)), vI l2] [] (mw f a g) :=
  (r_inc (pg_of mt_80 dX5_next_33 rfl) (y := (1 : Int32)) (by decide) rfl rfl).trans <|
  (r_gto (pg_of mt_80 dX5_next_36 rfl))
theorem b80_39 (l1 : Int32) (l2 : ma_V) : rn xs L 80 39 [vR 0, vI l1, l2] [] (mw f a g) = some (some (vI (-3 : Int32)), (mw f a g)) :=
  (r_con (pg_of mt_80 dX5_next_39 rfl) (v2 := (-3 : Int32)) (by decide)).trans <|
  (r_ri (pg_of mt_80 dX5_next_41 rfl) mt_80 rfl)
-- 81 LeafFalls.latest()I
theorem b81_0 (l1 : ma_V) (l2 : ma_V) (l3 : ma_V) : rn xs L 81 0 [vR 0, l1, l2, l3] [] (mw f a g) = (ev xs L 33 2 [vR 9, vR 1] (mw f a g)).bind (fun b => rn xs L 81 11 [vR 0, l1, l2, l3] (b.1.toList ++ []) b.2) :=
  (r_ald (pg_of mt_81 dX5_latest_0 rfl) rfl).trans <|
  (r_gtr (a := 9) (pg_of mt_81 dX5_latest_1 rfl) rfl rfl).trans <|
  (r_ald (pg_of mt_81 dX5_latest_4 rfl) rfl).trans <|
  (r_gtr (a := 1) (pg_of mt_81 dX5_latest_5 rfl) rfl rfl).trans <|
  (r_call (t := tt_81) (t2 := tt_33) (pg_of mt_81 dX5_latest_8 rfl) mt_81 mt_33 rfl rfl (rcv1 rfl) rfl rfl)
theorem b81_11 (l1 : ma_V) (l2 : ma_V) (l3 : ma_V) : rn xs L 81 11 [vR 0, l1, l2, l3] [] (mw f a g) = rn xs L 81 16 [vR 0, vI (-3 : Int32), vI (0 : Int32), l3] [] (mw f a g) :=
  (r_con (pg_of mt_81 dX5_latest_11 rfl) (v2 := (-3 : Int32)) (by decide)).trans <|
  (r_ist (pg_of mt_81 dX5_latest_13 rfl) (Nat.le_of_ble_eq_true rfl) rfl).trans <|
  (r_con (pg_of mt_81 dX5_latest_14 rfl) (v2 := (0 : Int32)) (by decide)).trans <|
  (r_ist (pg_of mt_81 dX5_latest_15 rfl) (Nat.le_of_ble_eq_true rfl) rfl)
theorem b81_16 (l1 : Int32) (l2 : Int32) (l3 : ma_V) : rn xs L 81 16 [vR 0, vI l1, vI l2, l3] [] (mw f a g) = if l2 < (60 : Int32) then rn xs L 81 22 [vR 0, vI l1, vI l2, l3] [] (mw f a g) else rn xs L 81 42 [vR 0, vI l1, vI l2, l3] [] (mw f a g) :=
  (r_ild (pg_of mt_81 dX5_latest_16 rfl) rfl).trans <|
  (r_con (pg_of mt_81 dX5_latest_17 rfl) (v2 := (60 : Int32)) (by decide)).trans <|
  (r_ge (pg_of mt_81 dX5_latest_19 rfl))
theorem b81_22 (l1 : Int32) (l2 : Int32) (l3 : ma_V) : rn xs L 81 22 [vR 0, vI l1, vI l2, l3] [] (mw f a g) = (ev xs L 42 2 [vR 9] (mw f a g)).bind (fun b => rn xs L 81 29 [vR 0, vI l1, vI l2, l3] (b.1.toList ++ []) b.2) :=
  (r_ald (pg_of mt_81 dX5_latest_22 rfl) rfl).trans <|
  (r_gtr (a := 9) (pg_of mt_81 dX5_latest_23 rfl) rfl rfl).trans <|
  (r_call (t := tt_81) (t2 := tt_42) (pg_of mt_81 dX5_latest_26 rfl) mt_81 mt_42 rfl rfl (rcv1 rfl) rfl rfl)
theorem b81_29 (l1 : Int32) (l2 : Int32) (l3 : ma_V) (s0 : Int32) : rn xs L 81 29 [vR 0, vI l1, vI l2, l3] [vI s0] (mw f a g) = if s0 < 0 then rn xs L 81 36 [vR 0, vI l1, vI l2, vI s0] [] (mw f a g) else rn xs L 81 34 [vR 0, vI l1, vI l2, vI s0] [] (mw f a g) :=
  (r_ist (pg_of mt_81 dX5_latest_29 rfl) (Nat.le_of_ble_eq_true rfl) rfl).trans <|
  (r_ild (pg_of mt_81 dX5_latest_30 rfl) rfl).trans <|
  (r_lt0 (pg_of mt_81 dX5_latest_31 rfl))
theorem b81_34 (l1 : Int32) (l2 : Int32) (l3 : Int32) : rn xs L 81 34 [vR 0, vI l1, vI l2, vI l3] [] (mw f a g) = rn xs L 81 16 [vR 0, vI l3, vI (l2 + (1 : Int32)), vI l3] [] (mw f a g) :=
  (r_ild (pg_of mt_81 dX5_latest_34 rfl) rfl).trans <|
  (r_ist (pg_of mt_81 dX5_latest_35 rfl) (Nat.le_of_ble_eq_true rfl) rfl).trans <|
  (r_inc (pg_of mt_81 dX5_latest_36 rfl) (y := (1 : Int32)) (by decide) rfl rfl).trans <|
  (r_gto (pg_of mt_81 dX5_latest_39 rfl))
theorem b81_36 (l1 : Int32) (l2 : Int32) (l3 : Int32) : rn xs L 81 36 [vR 0, vI l1, vI l2, vI l3] [] (mw f a g) = rn xs L 81 16 [vR 0, vI l1, vI (l2 + (1 : Int32)), vI l3] [] (mw f a g) :=
  (r_inc (pg_of mt_81 dX5_latest_36 rfl) (y := (1 : Int32)) (by decide) rfl rfl).trans <|
  (r_gto (pg_of mt_81 dX5_latest_39 rfl))
theorem b81_42 (l1 : Int32) (l2 : Int32) (l3 : ma_V) : rn xs L 81 42 [vR 0, vI l1, vI l2, l3] [] (mw f a g) = rn xs L 81 44 [vR 0, vI l1, vI (0 : Int32), l3] [] (mw f a g) :=
  (r_con (pg_of mt_81 dX5_latest_42 rfl) (v2 := (0 : Int32)) (by decide)).trans <|
  (r_ist (pg_of mt_81 dX5_latest_43 rfl) (Nat.le_of_ble_eq_true rfl) rfl)
theorem b81_44 (l1 : Int32) (l2 : Int32) (l3 : ma_V) : rn xs L 81 44 [vR 0, vI l1, vI l2, l3] [] (mw f a g) = if l2 < (f 9 7) then rn xs L 81 55 [vR 0, vI l1, vI l2, l3] [] (mw f a g) else rn xs L 81 74 [vR 0, vI l1, vI l2, l3] [] (mw f a g) :=
  (r_ild (pg_of mt_81 dX5_latest_44 rfl) rfl).trans <|
  (r_ald (pg_of mt_81 dX5_latest_45 rfl) rfl).trans <|
  (r_gtr (a := 9) (pg_of mt_81 dX5_latest_46 rfl) rfl rfl).trans <|
  (r_gti (pg_of mt_81 dX5_latest_49 rfl) rfl).trans <|
  (r_ge (pg_of mt_81 dX5_latest_52 rfl))
theorem b81_55 (l1 : Int32) (l2 : Int32) (l3 : ma_V) : rn xs L 81 55 [vR 0, vI l1, vI l2, l3] [] (mw f a g) = (ev xs L 35 2 [vR 9, vI l2] (mw f a g)).bind (fun b => rn xs L 81 63 [vR 0, vI l1, vI l2, l3] (b.1.toList ++ []) b.2) :=
  (r_ald (pg_of mt_81 dX5_latest_55 rfl) rfl).trans <|
  (r_gtr (a := 9) (pg_of mt_81 dX5_latest_56 rfl) rfl rfl).trans <|
  (r_ild (pg_of mt_81 dX5_latest_59 rfl) rfl).trans <|
  (r_call (t := tt_81) (t2 := tt_35) (pg_of mt_81 dX5_latest_60 rfl) mt_81 mt_35 rfl rfl (rcv1 rfl) rfl rfl)
theorem b81_63 (l1 : Int32) (l2 : Int32) (l3 : ma_V) (s0 : Int32) : rn xs L 81 63 [vR 0, vI l1, vI l2, l3] [vI s0] (mw f a g) = if s0 = 0 then rn xs L 81 68 [vR 0, vI l1, vI l2, l3] [] (mw f a g) else rn xs L 81 66 [vR 0, vI l1, vI l2, l3] [] (mw f a g) :=
  (r_eq0 (pg_of mt_81 dX5_latest_63 rfl))
theorem b81_66 (l1 : Int32) (l2 : Int32) (l3 : ma_V) : rn xs L 81 66 [vR 0, vI l1, vI l2, l3] [] (mw f a g) = some (some (vI l2), (mw f a g)) :=
  (r_ild (pg_of mt_81 dX5_latest_66 rfl) rfl).trans <|
  (r_ri (pg_of mt_81 dX5_latest_67 rfl) mt_81 rfl)
theorem b81_68 (l1 : Int32) (l2 : Int32) (l3 : ma_V) : rn xs L 81 68 [vR 0, vI l1, vI l2, l3] [] (mw f a g) = rn xs L 81 44 [vR 0, vI l1, vI (l2 + (1 : Int32)), l3] [] (mw f a g) :=
  (r_inc (pg_of mt_81 dX5_latest_68 rfl) (y := (1 : Int32)) (by decide) rfl rfl).trans <|
  (r_gto (pg_of mt_81 dX5_latest_71 rfl))
theorem b81_74 (l1 : Int32) (l2 : Int32) (l3 : ma_V) : rn xs L 81 74 [vR 0, vI l1, vI l2, l3] [] (mw f a g) = some (some (vI l1), (mw f a g)) :=
  (r_ild (pg_of mt_81 dX5_latest_74 rfl) rfl).trans <|
  (r_ri (pg_of mt_81 dX5_latest_75 rfl) mt_81 rfl)
-- 82 LeafFalls.boughFor(I)I
theorem b82_0 (l1 : Int32) (l2 : ma_V) (l3 : ma_V) (l4 : ma_V) (l5 : ma_V) : rn xs L 82 0 [vR 0, vI l1, l2, l3, l4, l5] [] (mw f a g) = (ev xs L 34 2 [vR 1, vI l1] (mw f a g)).bind (fun b => rn xs L 82 8 [vR 0, vI l1, l2, l3, l4, l5] (b.1.toList ++ []) b.2) :=
  (r_ald (pg_of mt_82 dX5_boughFor_0 rfl) rfl).trans <|
  (r_gtr (a := 1) (pg_of mt_82 dX5_boughFor_1 rfl) rfl rfl).trans <|
  (r_ild (pg_of mt_82 dX5_boughFor_4 rfl) rfl).trans <|
  (r_call (t := tt_82) (t2 := tt_34) (pg_of mt_82 dX5_boughFor_5 rfl) mt_82 mt_34 rfl rfl (rcv1 rfl) rfl rfl)
theorem b82_8 (l1 : Int32) (l2 : ma_V) (l3 : ma_V) (l4 : ma_V) (l5 : ma_V) (s0 : Int32) : rn xs L 82 8 [vR 0, vI l1, l2, l3, l4, l5] [vI s0] (mw f a g) = if s0 = 0 then rn xs L 82 11 [vR 0, vI l1, l2, l3, l4, l5] [] (mw f a g) else rn xs L 82 13 [vR 0, vI l1, l2, l3, l4, l5] [] (mw f a g) :=
  (r_ne0 (pg_of mt_82 dX5_boughFor_8 rfl))
theorem b82_11 (l1 : Int32) (l2 : ma_V) (l3 : ma_V) (l4 : ma_V) (l5 : ma_V) : rn xs L 82 11 [vR 0, vI l1, l2, l3, l4, l5] [] (mw f a g) = some (some (vI (-1 : Int32)), (mw f a g)) :=
  (r_con (pg_of mt_82 dX5_boughFor_11 rfl) (v2 := (-1 : Int32)) (by decide)).trans <|
  (r_ri (pg_of mt_82 dX5_boughFor_12 rfl) mt_82 rfl)
theorem b82_13 (l1 : Int32) (l2 : ma_V) (l3 : ma_V) (l4 : ma_V) (l5 : ma_V) : rn xs L 82 13 [vR 0, vI l1, l2, l3, l4, l5] [] (mw f a g) = (ev xs L 35 2 [vR 1, vI l1] (mw f a g)).bind (fun b => rn xs L 82 21 [vR 0, vI l1, l2, l3, l4, l5] (b.1.toList ++ []) b.2) :=
  (r_ald (pg_of mt_82 dX5_boughFor_13 rfl) rfl).trans <|
  (r_gtr (a := 1) (pg_of mt_82 dX5_boughFor_14 rfl) rfl rfl).trans <|
  (r_ild (pg_of mt_82 dX5_boughFor_17 rfl) rfl).trans <|
  (r_call (t := tt_82) (t2 := tt_35) (pg_of mt_82 dX5_boughFor_18 rfl) mt_82 mt_35 rfl rfl (rcv1 rfl) rfl rfl)
theorem b82_21 (l1 : Int32) (l2 : ma_V) (l3 : ma_V) (l4 : ma_V) (l5 : ma_V) (s0 : Int32) : rn xs L 82 21 [vR 0, vI l1, l2, l3, l4, l5] [vI s0] (mw f a g) = if s0 = 0 then rn xs L 82 24 [vR 0, vI l1, l2, l3, l4, l5] [] (mw f a g) else rn xs L 82 27 [vR 0, vI l1, l2, l3, l4, l5] [] (mw f a g) :=
  (r_ne0 (pg_of mt_82 dX5_boughFor_21 rfl))
theorem b82_24 (l1 : Int32) (l2 : ma_V) (l3 : ma_V) (l4 : ma_V) (l5 : ma_V) : rn xs L 82 24 [vR 0, vI l1, l2, l3, l4, l5] [] (mw f a g) = some (some (vI (-3 : Int32)), (mw f a g)) :=
  (r_con (pg_of mt_82 dX5_boughFor_24 rfl) (v2 := (-3 : Int32)) (by decide)).trans <|
  (r_ri (pg_of mt_82 dX5_boughFor_26 rfl) mt_82 rfl)
theorem b82_27 (l1 : Int32) (l2 : ma_V) (l3 : ma_V) (l4 : ma_V) (l5 : ma_V) : rn xs L 82 27 [vR 0, vI l1, l2, l3, l4, l5] [] (mw f a g) = rn xs L 82 34 [vR 0, vI l1, vI (0 : Int32), vI (-1 : Int32), vI (0 : Int32), l5] [] (mw f a g) :=
  (r_con (pg_of mt_82 dX5_boughFor_27 rfl) (v2 := (0 : Int32)) (by decide)).trans <|
  (r_ist (pg_of mt_82 dX5_boughFor_28 rfl) (Nat.le_of_ble_eq_true rfl) rfl).trans <|
  (r_con (pg_of mt_82 dX5_boughFor_29 rfl) (v2 := (-1 : Int32)) (by decide)).trans <|
  (r_ist (pg_of mt_82 dX5_boughFor_30 rfl) (Nat.le_of_ble_eq_true rfl) rfl).trans <|
  (r_con (pg_of mt_82 dX5_boughFor_31 rfl) (v2 := (0 : Int32)) (by decide)).trans <|
  (r_ist (pg_of mt_82 dX5_boughFor_32 rfl) (Nat.le_of_ble_eq_true rfl) rfl)
theorem b82_34 (l1 : Int32) (l2 : Int32) (l3 : Int32) (l4 : Int32) (l5 : ma_V) : rn xs L 82 34 [vR 0, vI l1, vI l2, vI l3, vI l4, l5] [] (mw f a g) = if l4 < (6 : Int32) then rn xs L 82 41 [vR 0, vI l1, vI l2, vI l3, vI l4, l5] [] (mw f a g) else rn xs L 82 88 [vR 0, vI l1, vI l2, vI l3, vI l4, l5] [] (mw f a g) :=
  (r_ild (pg_of mt_82 dX5_boughFor_34 rfl) rfl).trans <|
  (r_con (pg_of mt_82 dX5_boughFor_36 rfl) (v2 := (6 : Int32)) (by decide)).trans <|
  (r_ge (pg_of mt_82 dX5_boughFor_38 rfl))
theorem b82_41 (l1 : Int32) (l2 : Int32) (l3 : Int32) (l4 : Int32) (l5 : ma_V) : rn xs L 82 41 [vR 0, vI l1, vI l2, vI l3, vI l4, l5] [] (mw f a g) = (ev xs L 33 2 [vR 9, vR 1] (mw f a g)).bind (fun b => rn xs L 82 52 [vR 0, vI l1, vI l2, vI l3, vI l4, l5] (b.1.toList ++ []) b.2) :=
  (r_ald (pg_of mt_82 dX5_boughFor_41 rfl) rfl).trans <|
  (r_gtr (a := 9) (pg_of mt_82 dX5_boughFor_42 rfl) rfl rfl).trans <|
  (r_ald (pg_of mt_82 dX5_boughFor_45 rfl) rfl).trans <|
  (r_gtr (a := 1) (pg_of mt_82 dX5_boughFor_46 rfl) rfl rfl).trans <|
  (r_call (t := tt_82) (t2 := tt_33) (pg_of mt_82 dX5_boughFor_49 rfl) mt_82 mt_33 rfl rfl (rcv1 rfl) rfl rfl)
theorem b82_52 (l1 : Int32) (l2 : Int32) (l3 : Int32) (l4 : Int32) (l5 : ma_V) (h1 : ma_in l1 8 = true) : rn xs L 82 52 [vR 0, vI l1, vI l2, vI l3, vI l4, l5] [] (mw f a g) = (ev xs L 78 3 [vR 0, vI l1] (mw f ((ma_u2 a 13 l1.toNatClampNeg l4)) g)).bind (fun b => rn xs L 82 68 [vR 0, vI l1, vI l2, vI l3, vI l4, l5] (b.1.toList ++ []) b.2) :=
  (r_ald (pg_of mt_82 dX5_boughFor_52 rfl) rfl).trans <|
  (r_gtr (a := 9) (pg_of mt_82 dX5_boughFor_53 rfl) rfl rfl).trans <|
  (r_gtr (a := 13) (pg_of mt_82 dX5_boughFor_56 rfl) rfl rfl).trans <|
  (r_ild (pg_of mt_82 dX5_boughFor_59 rfl) rfl).trans <|
  (r_ild (pg_of mt_82 dX5_boughFor_60 rfl) rfl).trans <|
  (r_iast (pg_of mt_82 dX5_boughFor_62 rfl) rfl h1).trans <|
  (r_ald (pg_of mt_82 dX5_boughFor_63 rfl) rfl).trans <|
  (r_ild (pg_of mt_82 dX5_boughFor_64 rfl) rfl).trans <|
  (r_call (t := tt_82) (t2 := tt_78) (pg_of mt_82 dX5_boughFor_65 rfl) mt_82 mt_78 rfl rfl (rcv1 rfl) rfl rfl)
theorem b82_68 (l1 : Int32) (l2 : Int32) (l3 : Int32) (l4 : Int32) (l5 : ma_V) (s0 : Int32) : rn xs L 82 68 [vR 0, vI l1, vI l2, vI l3, vI l4, l5] [vI s0] (mw f a g) = if l3 < s0 then rn xs L 82 76 [vR 0, vI l1, vI l2, vI l3, vI l4, vI s0] [] (mw f a g) else rn xs L 82 82 [vR 0, vI l1, vI l2, vI l3, vI l4, vI s0] [] (mw f a g) :=
  (r_ist (pg_of mt_82 dX5_boughFor_68 rfl) (Nat.le_of_ble_eq_true rfl) rfl).trans <|
  (r_ild (pg_of mt_82 dX5_boughFor_70 rfl) rfl).trans <|
  (r_ild (pg_of mt_82 dX5_boughFor_72 rfl) rfl).trans <|
  (r_le (pg_of mt_82 dX5_boughFor_73 rfl))
theorem b82_76 (l1 : Int32) (l2 : Int32) (l3 : Int32) (l4 : Int32) (l5 : Int32) : rn xs L 82 76 [vR 0, vI l1, vI l2, vI l3, vI l4, vI l5] [] (mw f a g) = rn xs L 82 34 [vR 0, vI l1, vI l4, vI l5, vI (l4 + (1 : Int32)), vI l5] [] (mw f a g) :=
  (r_ild (pg_of mt_82 dX5_boughFor_76 rfl) rfl).trans <|
  (r_ist (pg_of mt_82 dX5_boughFor_78 rfl) (Nat.le_of_ble_eq_true rfl) rfl).trans <|
  (r_ild (pg_of mt_82 dX5_boughFor_79 rfl) rfl).trans <|
  (r_ist (pg_of mt_82 dX5_boughFor_81 rfl) (Nat.le_of_ble_eq_true rfl) rfl).trans <|
  (r_inc (pg_of mt_82 dX5_boughFor_82 rfl) (y := (1 : Int32)) (by decide) rfl rfl).trans <|
  (r_gto (pg_of mt_82 dX5_boughFor_85 rfl))
theorem b82_82 (l1 : Int32) (l2 : Int32) (l3 : Int32) (l4 : Int32) (l5 : Int32) : rn xs L 82 82 [vR 0, vI l1, vI l2, vI l3, vI l4, vI l5] [] (mw f a g) = rn xs L 82 34 [vR 0, vI l1, vI l2, vI l3, vI (l4 + (1 : Int32)), vI l5] [] (mw f a g) :=
  (r_inc (pg_of mt_82 dX5_boughFor_82 rfl) (y := (1 : Int32)) (by decide) rfl rfl).trans <|
  (r_gto (pg_of mt_82 dX5_boughFor_85 rfl))
theorem b82_88 (l1 : Int32) (l2 : Int32) (l3 : Int32) (l4 : Int32) (l5 : ma_V) : rn xs L 82 88 [vR 0, vI l1, vI l2, vI l3, vI l4, l5] [] (mw f a g) = some (some (vI l2), (mw f a g)) :=
  (r_ild (pg_of mt_82 dX5_boughFor_88 rfl) rfl).trans <|
  (r_ri (pg_of mt_82 dX5_boughFor_89 rfl) mt_82 rfl)
-- 83 LeafFalls.kindFor(I)I
theorem b83_0 (l1 : Int32) (l2 : ma_V) (l3 : ma_V) (l4 : ma_V) (l5 : ma_V) : rn xs L 83 0 [vR 0, vI l1, l2, l3, l4, l5] [] (mw f a g) = (ev xs L 34 2 [vR 1, vI l1] (mw f a g)).bind (fun b => rn xs L 83 8 [vR 0, vI l1, l2, l3, l4, l5] (b.1.toList ++ []) b.2) :=
  (r_ald (pg_of mt_83 dX5_kindFor_0 rfl) rfl).trans <|
  (r_gtr (a := 1) (pg_of mt_83 dX5_kindFor_1 rfl) rfl rfl).trans <|
  (r_ild (pg_of mt_83 dX5_kindFor_4 rfl) rfl).trans <|
  (r_call (t := tt_83) (t2 := tt_34) (pg_of mt_83 dX5_kindFor_5 rfl) mt_83 mt_34 rfl rfl (rcv1 rfl) rfl rfl)
theorem b83_8 (l1 : Int32) (l2 : ma_V) (l3 : ma_V) (l4 : ma_V) (l5 : ma_V) (s0 : Int32) : rn xs L 83 8 [vR 0, vI l1, l2, l3, l4, l5] [vI s0] (mw f a g) = if s0 = 0 then rn xs L 83 11 [vR 0, vI l1, l2, l3, l4, l5] [] (mw f a g) else rn xs L 83 13 [vR 0, vI l1, l2, l3, l4, l5] [] (mw f a g) :=
  (r_ne0 (pg_of mt_83 dX5_kindFor_8 rfl))
theorem b83_11 (l1 : Int32) (l2 : ma_V) (l3 : ma_V) (l4 : ma_V) (l5 : ma_V) : rn xs L 83 11 [vR 0, vI l1, l2, l3, l4, l5] [] (mw f a g) = some (some (vI (-1 : Int32)), (mw f a g)) :=
  (r_con (pg_of mt_83 dX5_kindFor_11 rfl) (v2 := (-1 : Int32)) (by decide)).trans <|
  (r_ri (pg_of mt_83 dX5_kindFor_12 rfl) mt_83 rfl)
theorem b83_13 (l1 : Int32) (l2 : ma_V) (l3 : ma_V) (l4 : ma_V) (l5 : ma_V) : rn xs L 83 13 [vR 0, vI l1, l2, l3, l4, l5] [] (mw f a g) = (ev xs L 35 2 [vR 1, vI l1] (mw f a g)).bind (fun b => rn xs L 83 21 [vR 0, vI l1, l2, l3, l4, l5] (b.1.toList ++ []) b.2) :=
  (r_ald (pg_of mt_83 dX5_kindFor_13 rfl) rfl).trans <|
  (r_gtr (a := 1) (pg_of mt_83 dX5_kindFor_14 rfl) rfl rfl).trans <|
  (r_ild (pg_of mt_83 dX5_kindFor_17 rfl) rfl).trans <|
  (r_call (t := tt_83) (t2 := tt_35) (pg_of mt_83 dX5_kindFor_18 rfl) mt_83 mt_35 rfl rfl (rcv1 rfl) rfl rfl)
theorem b83_21 (l1 : Int32) (l2 : ma_V) (l3 : ma_V) (l4 : ma_V) (l5 : ma_V) (s0 : Int32) : rn xs L 83 21 [vR 0, vI l1, l2, l3, l4, l5] [vI s0] (mw f a g) = if s0 = 0 then rn xs L 83 24 [vR 0, vI l1, l2, l3, l4, l5] [] (mw f a g) else rn xs L 83 27 [vR 0, vI l1, l2, l3, l4, l5] [] (mw f a g) :=
  (r_ne0 (pg_of mt_83 dX5_kindFor_21 rfl))
theorem b83_24 (l1 : Int32) (l2 : ma_V) (l3 : ma_V) (l4 : ma_V) (l5 : ma_V) : rn xs L 83 24 [vR 0, vI l1, l2, l3, l4, l5] [] (mw f a g) = some (some (vI (-3 : Int32)), (mw f a g)) :=
  (r_con (pg_of mt_83 dX5_kindFor_24 rfl) (v2 := (-3 : Int32)) (by decide)).trans <|
  (r_ri (pg_of mt_83 dX5_kindFor_26 rfl) mt_83 rfl)
theorem b83_27 (l1 : Int32) (l2 : ma_V) (l3 : ma_V) (l4 : ma_V) (l5 : ma_V) : rn xs L 83 27 [vR 0, vI l1, l2, l3, l4, l5] [] (mw f a g) = rn xs L 83 34 [vR 0, vI l1, vI (0 : Int32), vI (-1 : Int32), vI (0 : Int32), l5] [] (mw f a g) :=
  (r_con (pg_of mt_83 dX5_kindFor_27 rfl) (v2 := (0 : Int32)) (by decide)).trans <|
  (r_ist (pg_of mt_83 dX5_kindFor_28 rfl) (Nat.le_of_ble_eq_true rfl) rfl).trans <|
  (r_con (pg_of mt_83 dX5_kindFor_29 rfl) (v2 := (-1 : Int32)) (by decide)).trans <|
  (r_ist (pg_of mt_83 dX5_kindFor_30 rfl) (Nat.le_of_ble_eq_true rfl) rfl).trans <|
  (r_con (pg_of mt_83 dX5_kindFor_31 rfl) (v2 := (0 : Int32)) (by decide)).trans <|
  (r_ist (pg_of mt_83 dX5_kindFor_32 rfl) (Nat.le_of_ble_eq_true rfl) rfl)
theorem b83_34 (l1 : Int32) (l2 : Int32) (l3 : Int32) (l4 : Int32) (l5 : ma_V) : rn xs L 83 34 [vR 0, vI l1, vI l2, vI l3, vI l4, l5] [] (mw f a g) = if l4 < (6 : Int32) then rn xs L 83 41 [vR 0, vI l1, vI l2, vI l3, vI l4, l5] [] (mw f a g) else rn xs L 83 88 [vR 0, vI l1, vI l2, vI l3, vI l4, l5] [] (mw f a g) :=
  (r_ild (pg_of mt_83 dX5_kindFor_34 rfl) rfl).trans <|
  (r_con (pg_of mt_83 dX5_kindFor_36 rfl) (v2 := (6 : Int32)) (by decide)).trans <|
  (r_ge (pg_of mt_83 dX5_kindFor_38 rfl))
theorem b83_41 (l1 : Int32) (l2 : Int32) (l3 : Int32) (l4 : Int32) (l5 : ma_V) : rn xs L 83 41 [vR 0, vI l1, vI l2, vI l3, vI l4, l5] [] (mw f a g) = (ev xs L 33 2 [vR 9, vR 1] (mw f a g)).bind (fun b => rn xs L 83 52 [vR 0, vI l1, vI l2, vI l3, vI l4, l5] (b.1.toList ++ []) b.2) :=
  (r_ald (pg_of mt_83 dX5_kindFor_41 rfl) rfl).trans <|
  (r_gtr (a := 9) (pg_of mt_83 dX5_kindFor_42 rfl) rfl rfl).trans <|
  (r_ald (pg_of mt_83 dX5_kindFor_45 rfl) rfl).trans <|
  (r_gtr (a := 1) (pg_of mt_83 dX5_kindFor_46 rfl) rfl rfl).trans <|
  (r_call (t := tt_83) (t2 := tt_33) (pg_of mt_83 dX5_kindFor_49 rfl) mt_83 mt_33 rfl rfl (rcv1 rfl) rfl rfl)
theorem b83_52 (l1 : Int32) (l2 : Int32) (l3 : Int32) (l4 : Int32) (l5 : ma_V) (h1 : ma_in l1 8 = true) : rn xs L 83 52 [vR 0, vI l1, vI l2, vI l3, vI l4, l5] [] (mw f a g) = (ev xs L 78 3 [vR 0, vI l1] (mw f ((ma_u2 a 12 l1.toNatClampNeg l4)) g)).bind (fun b => rn xs L 83 68 [vR 0, vI l1, vI l2, vI l3, vI l4, l5] (b.1.toList ++ []) b.2) :=
  (r_ald (pg_of mt_83 dX5_kindFor_52 rfl) rfl).trans <|
  (r_gtr (a := 9) (pg_of mt_83 dX5_kindFor_53 rfl) rfl rfl).trans <|
  (r_gtr (a := 12) (pg_of mt_83 dX5_kindFor_56 rfl) rfl rfl).trans <|
  (r_ild (pg_of mt_83 dX5_kindFor_59 rfl) rfl).trans <|
  (r_ild (pg_of mt_83 dX5_kindFor_60 rfl) rfl).trans <|
  (r_iast (pg_of mt_83 dX5_kindFor_62 rfl) rfl h1).trans <|
  (r_ald (pg_of mt_83 dX5_kindFor_63 rfl) rfl).trans <|
  (r_ild (pg_of mt_83 dX5_kindFor_64 rfl) rfl).trans <|
  (r_call (t := tt_83) (t2 := tt_78) (pg_of mt_83 dX5_kindFor_65 rfl) mt_83 mt_78 rfl rfl (rcv1 rfl) rfl rfl)
theorem b83_68 (l1 : Int32) (l2 : Int32) (l3 : Int32) (l4 : Int32) (l5 : ma_V) (s0 : Int32) : rn xs L 83 68 [vR 0, vI l1, vI l2, vI l3, vI l4, l5] [vI s0] (mw f a g) = if l3 < s0 then rn xs L 83 76 [vR 0, vI l1, vI l2, vI l3, vI l4, vI s0] [] (mw f a g) else rn xs L 83 82 [vR 0, vI l1, vI l2, vI l3, vI l4, vI s0] [] (mw f a g) :=
  (r_ist (pg_of mt_83 dX5_kindFor_68 rfl) (Nat.le_of_ble_eq_true rfl) rfl).trans <|
  (r_ild (pg_of mt_83 dX5_kindFor_70 rfl) rfl).trans <|
  (r_ild (pg_of mt_83 dX5_kindFor_72 rfl) rfl).trans <|
  (r_le (pg_of mt_83 dX5_kindFor_73 rfl))
theorem b83_76 (l1 : Int32) (l2 : Int32) (l3 : Int32) (l4 : Int32) (l5 : Int32) : rn xs L 83 76 [vR 0, vI l1, vI l2, vI l3, vI l4, vI l5] [] (mw f a g) = rn xs L 83 34 [vR 0, vI l1, vI l4, vI l5, vI (l4 + (1 : Int32)), vI l5] [] (mw f a g) :=
  (r_ild (pg_of mt_83 dX5_kindFor_76 rfl) rfl).trans <|
  (r_ist (pg_of mt_83 dX5_kindFor_78 rfl) (Nat.le_of_ble_eq_true rfl) rfl).trans <|
  (r_ild (pg_of mt_83 dX5_kindFor_79 rfl) rfl).trans <|
  (r_ist (pg_of mt_83 dX5_kindFor_81 rfl) (Nat.le_of_ble_eq_true rfl) rfl).trans <|
  (r_inc (pg_of mt_83 dX5_kindFor_82 rfl) (y := (1 : Int32)) (by decide) rfl rfl).trans <|
  (r_gto (pg_of mt_83 dX5_kindFor_85 rfl))
theorem b83_82 (l1 : Int32) (l2 : Int32) (l3 : Int32) (l4 : Int32) (l5 : Int32) : rn xs L 83 82 [vR 0, vI l1, vI l2, vI l3, vI l4, vI l5] [] (mw f a g) = rn xs L 83 34 [vR 0, vI l1, vI l2, vI l3, vI (l4 + (1 : Int32)), vI l5] [] (mw f a g) :=
  (r_inc (pg_of mt_83 dX5_kindFor_82 rfl) (y := (1 : Int32)) (by decide) rfl rfl).trans <|
  (r_gto (pg_of mt_83 dX5_kindFor_85 rfl))
theorem b83_88 (l1 : Int32) (l2 : Int32) (l3 : Int32) (l4 : Int32) (l5 : ma_V) : rn xs L 83 88 [vR 0, vI l1, vI l2, vI l3, vI l4, l5] [] (mw f a g) = some (some (vI l2), (mw f a g)) :=
  (r_ild (pg_of mt_83 dX5_kindFor_88 rfl) rfl).trans <|
  (r_ri (pg_of mt_83 dX5_kindFor_89 rfl) mt_83 rfl)
-- 84 LeafFalls.holdFor(II)I
theorem b84_0 (l1 : Int32) (l2 : Int32) (l3 : ma_V) : rn xs L 84 0 [vR 0, vI l1, vI l2, l3] [] (mw f a g) = (ev xs L 34 2 [vR 1, vI l1] (mw f a g)).bind (fun b => rn xs L 84 8 [vR 0, vI l1, vI l2, l3] (b.1.toList ++ []) b.2) :=
  (r_ald (pg_of mt_84 dX5_holdFor_0 rfl) rfl).trans <|
  (r_gtr (a := 1) (pg_of mt_84 dX5_holdFor_1 rfl) rfl rfl).trans <|
  (r_ild (pg_of mt_84 dX5_holdFor_4 rfl) rfl).trans <|
  (r_call (t := tt_84) (t2 := tt_34) (pg_of mt_84 dX5_holdFor_5 rfl) mt_84 mt_34 rfl rfl (rcv1 rfl) rfl rfl)
theorem b84_8 (l1 : Int32) (l2 : Int32) (l3 : ma_V) (s0 : Int32) : rn xs L 84 8 [vR 0, vI l1, vI l2, l3] [vI s0] (mw f a g) = if s0 = 0 then rn xs L 84 21 [vR 0, vI l1, vI l2, l3] [] (mw f a g) else rn xs L 84 11 [vR 0, vI l1, vI l2, l3] [] (mw f a g) :=
  (r_eq0 (pg_of mt_84 dX5_holdFor_8 rfl))
theorem b84_11 (l1 : Int32) (l2 : Int32) (l3 : ma_V) : rn xs L 84 11 [vR 0, vI l1, vI l2, l3] [] (mw f a g) = (ev xs L 56 3 [vI l2, vI (1 : Int32), vI (20 : Int32)] (mw f a g)).bind (fun b => rn xs L 84 18 [vR 0, vI l1, vI l2, l3] (b.1.toList ++ []) b.2) :=
  (r_ild (pg_of mt_84 dX5_holdFor_11 rfl) rfl).trans <|
  (r_con (pg_of mt_84 dX5_holdFor_12 rfl) (v2 := (1 : Int32)) (by decide)).trans <|
  (r_con (pg_of mt_84 dX5_holdFor_13 rfl) (v2 := (20 : Int32)) (by decide)).trans <|
  (r_call (t := tt_84) (t2 := tt_56) (pg_of mt_84 dX5_holdFor_15 rfl) mt_84 mt_56 rfl rfl rfl rfl rfl)
theorem b84_18 (l1 : Int32) (l2 : Int32) (l3 : ma_V) (s0 : Int32) : rn xs L 84 18 [vR 0, vI l1, vI l2, l3] [vI s0] (mw f a g) = if s0 = 0 then rn xs L 84 21 [vR 0, vI l1, vI l2, l3] [] (mw f a g) else rn xs L 84 23 [vR 0, vI l1, vI l2, l3] [] (mw f a g) :=
  (r_ne0 (pg_of mt_84 dX5_holdFor_18 rfl))
theorem b84_21 (l1 : Int32) (l2 : Int32) (l3 : ma_V) : rn xs L 84 21 [vR 0, vI l1, vI l2, l3] [] (mw f a g) = some (some (vI (-1 : Int32)), (mw f a g)) :=
  (r_con (pg_of mt_84 dX5_holdFor_21 rfl) (v2 := (-1 : Int32)) (by decide)).trans <|
  (r_ri (pg_of mt_84 dX5_holdFor_22 rfl) mt_84 rfl)
theorem b84_23 (l1 : Int32) (l2 : Int32) (l3 : ma_V) : rn xs L 84 23 [vR 0, vI l1, vI l2, l3] [] (mw f a g) = (ev xs L 35 2 [vR 1, vI l1] (mw f a g)).bind (fun b => rn xs L 84 31 [vR 0, vI l1, vI l2, l3] (b.1.toList ++ []) b.2) :=
  (r_ald (pg_of mt_84 dX5_holdFor_23 rfl) rfl).trans <|
  (r_gtr (a := 1) (pg_of mt_84 dX5_holdFor_24 rfl) rfl rfl).trans <|
  (r_ild (pg_of mt_84 dX5_holdFor_27 rfl) rfl).trans <|
  (r_call (t := tt_84) (t2 := tt_35) (pg_of mt_84 dX5_holdFor_28 rfl) mt_84 mt_35 rfl rfl (rcv1 rfl) rfl rfl)
theorem b84_31 (l1 : Int32) (l2 : Int32) (l3 : ma_V) (s0 : Int32) : rn xs L 84 31 [vR 0, vI l1, vI l2, l3] [vI s0] (mw f a g) = if s0 = 0 then rn xs L 84 34 [vR 0, vI l1, vI l2, l3] [] (mw f a g) else rn xs L 84 37 [vR 0, vI l1, vI l2, l3] [] (mw f a g) :=
  (r_ne0 (pg_of mt_84 dX5_holdFor_31 rfl))
theorem b84_34 (l1 : Int32) (l2 : Int32) (l3 : ma_V) : rn xs L 84 34 [vR 0, vI l1, vI l2, l3] [] (mw f a g) = some (some (vI (-3 : Int32)), (mw f a g)) :=
  (r_con (pg_of mt_84 dX5_holdFor_34 rfl) (v2 := (-3 : Int32)) (by decide)).trans <|
  (r_ri (pg_of mt_84 dX5_holdFor_36 rfl) mt_84 rfl)
theorem b84_37 (l1 : Int32) (l2 : Int32) (l3 : ma_V) : rn xs L 84 37 [vR 0, vI l1, vI l2, l3] [] (mw f a g) = rn xs L 84 39 [vR 0, vI l1, vI l2, vI (0 : Int32)] [] (mw f a g) :=
  (r_con (pg_of mt_84 dX5_holdFor_37 rfl) (v2 := (0 : Int32)) (by decide)).trans <|
  (r_ist (pg_of mt_84 dX5_holdFor_38 rfl) (Nat.le_of_ble_eq_true rfl) rfl)
theorem b84_39 (l1 : Int32) (l2 : Int32) (l3 : Int32) : rn xs L 84 39 [vR 0, vI l1, vI l2, vI l3] [] (mw f a g) = if (99 : Int32) < l3 then rn xs L 84 83 [vR 0, vI l1, vI l2, vI l3] [] (mw f a g) else rn xs L 84 45 [vR 0, vI l1, vI l2, vI l3] [] (mw f a g) :=
  (r_ild (pg_of mt_84 dX5_holdFor_39 rfl) rfl).trans <|
  (r_con (pg_of mt_84 dX5_holdFor_40 rfl) (v2 := (99 : Int32)) (by decide)).trans <|
  (r_gt (pg_of mt_84 dX5_holdFor_42 rfl))
theorem b84_45 (l1 : Int32) (l2 : Int32) (l3 : Int32) : rn xs L 84 45 [vR 0, vI l1, vI l2, vI l3] [] (mw f a g) = (ev xs L 33 2 [vR 9, vR 1] (mw f a g)).bind (fun b => rn xs L 84 56 [vR 0, vI l1, vI l2, vI l3] (b.1.toList ++ []) b.2) :=
  (r_ald (pg_of mt_84 dX5_holdFor_45 rfl) rfl).trans <|
  (r_gtr (a := 9) (pg_of mt_84 dX5_holdFor_46 rfl) rfl rfl).trans <|
  (r_ald (pg_of mt_84 dX5_holdFor_49 rfl) rfl).trans <|
  (r_gtr (a := 1) (pg_of mt_84 dX5_holdFor_50 rfl) rfl rfl).trans <|
  (r_call (t := tt_84) (t2 := tt_33) (pg_of mt_84 dX5_holdFor_53 rfl) mt_84 mt_33 rfl rfl (rcv1 rfl) rfl rfl)
theorem b84_56 (l1 : Int32) (l2 : Int32) (l3 : Int32) (h1 : ma_in l1 8 = true) : rn xs L 84 56 [vR 0, vI l1, vI l2, vI l3] [] (mw f a g) = (ev xs L 85 4 [vR 0, vI l1, vI l2] (mw f ((ma_u2 a 14 l1.toNatClampNeg l3)) g)).bind (fun b => rn xs L 84 72 [vR 0, vI l1, vI l2, vI l3] (b.1.toList ++ []) b.2) :=
  (r_ald (pg_of mt_84 dX5_holdFor_56 rfl) rfl).trans <|
  (r_gtr (a := 9) (pg_of mt_84 dX5_holdFor_57 rfl) rfl rfl).trans <|
  (r_gtr (a := 14) (pg_of mt_84 dX5_holdFor_60 rfl) rfl rfl).trans <|
  (r_ild (pg_of mt_84 dX5_holdFor_63 rfl) rfl).trans <|
  (r_ild (pg_of mt_84 dX5_holdFor_64 rfl) rfl).trans <|
  (r_iast (pg_of mt_84 dX5_holdFor_65 rfl) rfl h1).trans <|
  (r_ald (pg_of mt_84 dX5_holdFor_66 rfl) rfl).trans <|
  (r_ild (pg_of mt_84 dX5_holdFor_67 rfl) rfl).trans <|
  (r_ild (pg_of mt_84 dX5_holdFor_68 rfl) rfl).trans <|
  (r_call (t := tt_84) (t2 := tt_85) (pg_of mt_84 dX5_holdFor_69 rfl) mt_84 mt_85 rfl rfl (rcv1 rfl) rfl rfl)
theorem b84_72 (l1 : Int32) (l2 : Int32) (l3 : Int32) (s0 : Int32) : rn xs L 84 72 [vR 0, vI l1, vI l2, vI l3] [vI s0] (mw f a g) = if s0 = 0 then rn xs L 84 77 [vR 0, vI l1, vI l2, vI l3] [] (mw f a g) else rn xs L 84 75 [vR 0, vI l1, vI l2, vI l3] [] (mw f a g) :=
  (r_eq0 (pg_of mt_84 dX5_holdFor_72 rfl))
theorem b84_75 (l1 : Int32) (l2 : Int32) (l3 : Int32) : rn xs L 84 75 [vR 0, vI l1, vI l2, vI l3] [] (mw f a g) = some (some (vI l3), (mw f a g)) :=
  (r_ild (pg_of mt_84 dX5_holdFor_75 rfl) rfl).trans <|
  (r_ri (pg_of mt_84 dX5_holdFor_76 rfl) mt_84 rfl)
theorem b84_77 (l1 : Int32) (l2 : Int32) (l3 : Int32) : rn xs L 84 77 [vR 0, vI l1, vI l2, vI l3] [] (mw f a g) = rn xs L 84 39 [vR 0, vI l1, vI l2, vI (l3 + (1 : Int32))] [] (mw f a g) :=
  (r_inc (pg_of mt_84 dX5_holdFor_77 rfl) (y := (1 : Int32)) (by decide) rfl rfl).trans <|
  (r_gto (pg_of mt_84 dX5_holdFor_80 rfl))
theorem b84_83 (l1 : Int32) (l2 : Int32) (l3 : Int32) : rn xs L 84 83 [vR 0, vI l1, vI l2, vI l3] [] (mw f a g) = some (some (vI (-3 : Int32)), (mw f a g)) :=
  (r_con (pg_of mt_84 dX5_holdFor_83 rfl) (v2 := (-3 : Int32)) (by decide)).trans <|
  (r_ri (pg_of mt_84 dX5_holdFor_85 rfl) mt_84 rfl)
-- 85 LeafFalls.hangsBehind(II)Z
theorem b85_0 (l1 : Int32) (l2 : Int32) (l3 : ma_V) : rn xs L 85 0 [vR 0, vI l1, vI l2, l3] [] (mw f a g) = rn xs L 85 2 [vR 0, vI l1, vI l2, vI (0 : Int32)] [] (mw f a g) :=
  (r_con (pg_of mt_85 dX5_hangsBehind_0 rfl) (v2 := (0 : Int32)) (by decide)).trans <|
  (r_ist (pg_of mt_85 dX5_hangsBehind_1 rfl) (Nat.le_of_ble_eq_true rfl) rfl)
theorem b85_2 (l1 : Int32) (l2 : Int32) (l3 : Int32) : rn xs L 85 2 [vR 0, vI l1, vI l2, vI l3] [] (mw f a g) = if l3 < l2 then rn xs L 85 7 [vR 0, vI l1, vI l2, vI l3] [] (mw f a g) else rn xs L 85 32 [vR 0, vI l1, vI l2, vI l3] [] (mw f a g) :=
  (r_ild (pg_of mt_85 dX5_hangsBehind_2 rfl) rfl).trans <|
  (r_ild (pg_of mt_85 dX5_hangsBehind_3 rfl) rfl).trans <|
  (r_ge (pg_of mt_85 dX5_hangsBehind_4 rfl))
theorem b85_7 (l1 : Int32) (l2 : Int32) (l3 : Int32) : rn xs L 85 7 [vR 0, vI l1, vI l2, vI l3] [] (mw f a g) = (ev xs L 35 2 [vR 9, vI l1] (mw f a g)).bind (fun b => rn xs L 85 15 [vR 0, vI l1, vI l2, vI l3] (b.1.toList ++ []) b.2) :=
  (r_ald (pg_of mt_85 dX5_hangsBehind_7 rfl) rfl).trans <|
  (r_gtr (a := 9) (pg_of mt_85 dX5_hangsBehind_8 rfl) rfl rfl).trans <|
  (r_ild (pg_of mt_85 dX5_hangsBehind_11 rfl) rfl).trans <|
  (r_call (t := tt_85) (t2 := tt_35) (pg_of mt_85 dX5_hangsBehind_12 rfl) mt_85 mt_35 rfl rfl (rcv1 rfl) rfl rfl)
theorem b85_15 (l1 : Int32) (l2 : Int32) (l3 : Int32) (s0 : Int32) : rn xs L 85 15 [vR 0, vI l1, vI l2, vI l3] [vI s0] (mw f a g) = if s0 = 0 then rn xs L 85 32 [vR 0, vI l1, vI l2, vI l3] [] (mw f a g) else rn xs L 85 18 [vR 0, vI l1, vI l2, vI l3] [] (mw f a g) :=
  (r_eq0 (pg_of mt_85 dX5_hangsBehind_15 rfl))
theorem b85_18 (l1 : Int32) (l2 : Int32) (l3 : Int32) : rn xs L 85 18 [vR 0, vI l1, vI l2, vI l3] [] (mw f a g) = (ev xs L 42 2 [vR 9] (mw f a g)).bind (fun b => rn xs L 85 25 [vR 0, vI l1, vI l2, vI l3] (b.1.toList ++ []) b.2) :=
  (r_ald (pg_of mt_85 dX5_hangsBehind_18 rfl) rfl).trans <|
  (r_gtr (a := 9) (pg_of mt_85 dX5_hangsBehind_19 rfl) rfl rfl).trans <|
  (r_call (t := tt_85) (t2 := tt_42) (pg_of mt_85 dX5_hangsBehind_22 rfl) mt_85 mt_42 rfl rfl (rcv1 rfl) rfl rfl)
theorem b85_25 (l1 : Int32) (l2 : Int32) (l3 : Int32) (s0 : Int32) : rn xs L 85 25 [vR 0, vI l1, vI l2, vI l3] [vI s0] (mw f a g) = rn xs L 85 2 [vR 0, vI l1, vI l2, vI (l3 + (1 : Int32))] [] (mw f a g) :=
  (r_pop (pg_of mt_85 dX5_hangsBehind_25 rfl) rfl).trans <|
  (r_inc (pg_of mt_85 dX5_hangsBehind_26 rfl) (y := (1 : Int32)) (by decide) rfl rfl).trans <|
  (r_gto (pg_of mt_85 dX5_hangsBehind_29 rfl))
theorem b85_32 (l1 : Int32) (l2 : Int32) (l3 : Int32) : rn xs L 85 32 [vR 0, vI l1, vI l2, vI l3] [] (mw f a g) = (ev xs L 35 2 [vR 9, vI l1] (mw f a g)).bind (fun b => rn xs L 85 40 [vR 0, vI l1, vI l2, vI l3] (b.1.toList ++ []) b.2) :=
  (r_ald (pg_of mt_85 dX5_hangsBehind_32 rfl) rfl).trans <|
  (r_gtr (a := 9) (pg_of mt_85 dX5_hangsBehind_33 rfl) rfl rfl).trans <|
  (r_ild (pg_of mt_85 dX5_hangsBehind_36 rfl) rfl).trans <|
  (r_call (t := tt_85) (t2 := tt_35) (pg_of mt_85 dX5_hangsBehind_37 rfl) mt_85 mt_35 rfl rfl (rcv1 rfl) rfl rfl)
theorem b85_40 (l1 : Int32) (l2 : Int32) (l3 : Int32) (s0 : Int32) (h1 : s0 = 0 ∨ s0 = 1) : rn xs L 85 40 [vR 0, vI l1, vI l2, vI l3] [vI s0] (mw f a g) = some (some (vI s0), (mw f a g)) :=
  (r_rz (pg_of mt_85 dX5_hangsBehind_40 rfl) mt_85 rfl h1)
-- 86 LeafFalls.tiedFor(II)I
theorem b86_0 (l1 : Int32) (l2 : Int32) (l3 : ma_V) (l4 : ma_V) (l5 : ma_V) (l6 : ma_V) : rn xs L 86 0 [vR 0, vI l1, vI l2, l3, l4, l5, l6] [] (mw f a g) = (ev xs L 34 2 [vR 1, vI l1] (mw f a g)).bind (fun b => rn xs L 86 8 [vR 0, vI l1, vI l2, l3, l4, l5, l6] (b.1.toList ++ []) b.2) :=
  (r_ald (pg_of mt_86 dX5_tiedFor_0 rfl) rfl).trans <|
  (r_gtr (a := 1) (pg_of mt_86 dX5_tiedFor_1 rfl) rfl rfl).trans <|
  (r_ild (pg_of mt_86 dX5_tiedFor_4 rfl) rfl).trans <|
  (r_call (t := tt_86) (t2 := tt_34) (pg_of mt_86 dX5_tiedFor_5 rfl) mt_86 mt_34 rfl rfl (rcv1 rfl) rfl rfl)
theorem b86_8 (l1 : Int32) (l2 : Int32) (l3 : ma_V) (l4 : ma_V) (l5 : ma_V) (l6 : ma_V) (s0 : Int32) : rn xs L 86 8 [vR 0, vI l1, vI l2, l3, l4, l5, l6] [vI s0] (mw f a g) = if s0 = 0 then rn xs L 86 21 [vR 0, vI l1, vI l2, l3, l4, l5, l6] [] (mw f a g) else rn xs L 86 11 [vR 0, vI l1, vI l2, l3, l4, l5, l6] [] (mw f a g) :=
  (r_eq0 (pg_of mt_86 dX5_tiedFor_8 rfl))
theorem b86_11 (l1 : Int32) (l2 : Int32) (l3 : ma_V) (l4 : ma_V) (l5 : ma_V) (l6 : ma_V) : rn xs L 86 11 [vR 0, vI l1, vI l2, l3, l4, l5, l6] [] (mw f a g) = (ev xs L 56 3 [vI l2, vI (1 : Int32), vI (20 : Int32)] (mw f a g)).bind (fun b => rn xs L 86 18 [vR 0, vI l1, vI l2, l3, l4, l5, l6] (b.1.toList ++ []) b.2) :=
  (r_ild (pg_of mt_86 dX5_tiedFor_11 rfl) rfl).trans <|
  (r_con (pg_of mt_86 dX5_tiedFor_12 rfl) (v2 := (1 : Int32)) (by decide)).trans <|
  (r_con (pg_of mt_86 dX5_tiedFor_13 rfl) (v2 := (20 : Int32)) (by decide)).trans <|
  (r_call (t := tt_86) (t2 := tt_56) (pg_of mt_86 dX5_tiedFor_15 rfl) mt_86 mt_56 rfl rfl rfl rfl rfl)
theorem b86_18 (l1 : Int32) (l2 : Int32) (l3 : ma_V) (l4 : ma_V) (l5 : ma_V) (l6 : ma_V) (s0 : Int32) : rn xs L 86 18 [vR 0, vI l1, vI l2, l3, l4, l5, l6] [vI s0] (mw f a g) = if s0 = 0 then rn xs L 86 21 [vR 0, vI l1, vI l2, l3, l4, l5, l6] [] (mw f a g) else rn xs L 86 23 [vR 0, vI l1, vI l2, l3, l4, l5, l6] [] (mw f a g) :=
  (r_ne0 (pg_of mt_86 dX5_tiedFor_18 rfl))
theorem b86_21 (l1 : Int32) (l2 : Int32) (l3 : ma_V) (l4 : ma_V) (l5 : ma_V) (l6 : ma_V) : rn xs L 86 21 [vR 0, vI l1, vI l2, l3, l4, l5, l6] [] (mw f a g) = some (some (vI (-1 : Int32)), (mw f a g)) :=
  (r_con (pg_of mt_86 dX5_tiedFor_21 rfl) (v2 := (-1 : Int32)) (by decide)).trans <|
  (r_ri (pg_of mt_86 dX5_tiedFor_22 rfl) mt_86 rfl)
theorem b86_23 (l1 : Int32) (l2 : Int32) (l3 : ma_V) (l4 : ma_V) (l5 : ma_V) (l6 : ma_V) : rn xs L 86 23 [vR 0, vI l1, vI l2, l3, l4, l5, l6] [] (mw f a g) = (ev xs L 35 2 [vR 1, vI l1] (mw f a g)).bind (fun b => rn xs L 86 31 [vR 0, vI l1, vI l2, l3, l4, l5, l6] (b.1.toList ++ []) b.2) :=
  (r_ald (pg_of mt_86 dX5_tiedFor_23 rfl) rfl).trans <|
  (r_gtr (a := 1) (pg_of mt_86 dX5_tiedFor_24 rfl) rfl rfl).trans <|
  (r_ild (pg_of mt_86 dX5_tiedFor_27 rfl) rfl).trans <|
  (r_call (t := tt_86) (t2 := tt_35) (pg_of mt_86 dX5_tiedFor_28 rfl) mt_86 mt_35 rfl rfl (rcv1 rfl) rfl rfl)
theorem b86_31 (l1 : Int32) (l2 : Int32) (l3 : ma_V) (l4 : ma_V) (l5 : ma_V) (l6 : ma_V) (s0 : Int32) : rn xs L 86 31 [vR 0, vI l1, vI l2, l3, l4, l5, l6] [vI s0] (mw f a g) = if s0 = 0 then rn xs L 86 34 [vR 0, vI l1, vI l2, l3, l4, l5, l6] [] (mw f a g) else rn xs L 86 37 [vR 0, vI l1, vI l2, l3, l4, l5, l6] [] (mw f a g) :=
  (r_ne0 (pg_of mt_86 dX5_tiedFor_31 rfl))
theorem b86_34 (l1 : Int32) (l2 : Int32) (l3 : ma_V) (l4 : ma_V) (l5 : ma_V) (l6 : ma_V) : rn xs L 86 34 [vR 0, vI l1, vI l2, l3, l4, l5, l6] [] (mw f a g) = some (some (vI (-3 : Int32)), (mw f a g)) :=
  (r_con (pg_of mt_86 dX5_tiedFor_34 rfl) (v2 := (-3 : Int32)) (by decide)).trans <|
  (r_ri (pg_of mt_86 dX5_tiedFor_36 rfl) mt_86 rfl)
theorem b86_37 (l1 : Int32) (l2 : Int32) (l3 : ma_V) (l4 : ma_V) (l5 : ma_V) (l6 : ma_V) : rn xs L 86 37 [vR 0, vI l1, vI l2, l3, l4, l5, l6] [] (mw f a g) = (ev xs L 48 3 [vR 1] (mw f a g)).bind (fun b => rn xs L 86 44 [vR 0, vI l1, vI l2, l3, l4, l5, l6] (b.1.toList ++ []) b.2) :=
  (r_ald (pg_of mt_86 dX5_tiedFor_37 rfl) rfl).trans <|
  (r_gtr (a := 1) (pg_of mt_86 dX5_tiedFor_38 rfl) rfl rfl).trans <|
  (r_call (t := tt_86) (t2 := tt_48) (pg_of mt_86 dX5_tiedFor_41 rfl) mt_86 mt_48 rfl rfl (rcv1 rfl) rfl rfl)
theorem b86_44 (l1 : Int32) (l2 : Int32) (l3 : ma_V) (l4 : ma_V) (l5 : ma_V) (l6 : ma_V) (s0 : Int32) : rn xs L 86 44 [vR 0, vI l1, vI l2, l3, l4, l5, l6] [vI s0] (mw f a g) = rn xs L 86 62 [vR 0, vI l1, vI l2, vI (s0 &&& (((1 : Int32) <<< (l1 &&& 31)) ^^^ (-1 : Int32))), vI (-3 : Int32), vI (9 : Int32), vI (0 : Int32)] [] (mw f a g) :=
  (r_con (pg_of mt_86 dX5_tiedFor_44 rfl) (v2 := (1 : Int32)) (by decide)).trans <|
  (r_ild (pg_of mt_86 dX5_tiedFor_45 rfl) rfl).trans <|
  (r_bin (pg_of mt_86 dX5_tiedFor_46 rfl)).trans <|
  (r_con (pg_of mt_86 dX5_tiedFor_47 rfl) (v2 := (-1 : Int32)) (by decide)).trans <|
  (r_bin (pg_of mt_86 dX5_tiedFor_48 rfl)).trans <|
  (r_bin (pg_of mt_86 dX5_tiedFor_49 rfl)).trans <|
  (r_ist (pg_of mt_86 dX5_tiedFor_50 rfl) (Nat.le_of_ble_eq_true rfl) rfl).trans <|
  (r_con (pg_of mt_86 dX5_tiedFor_51 rfl) (v2 := (-3 : Int32)) (by decide)).trans <|
  (r_ist (pg_of mt_86 dX5_tiedFor_53 rfl) (Nat.le_of_ble_eq_true rfl) rfl).trans <|
  (r_con (pg_of mt_86 dX5_tiedFor_55 rfl) (v2 := (9 : Int32)) (by decide)).trans <|
  (r_ist (pg_of mt_86 dX5_tiedFor_57 rfl) (Nat.le_of_ble_eq_true rfl) rfl).trans <|
  (r_con (pg_of mt_86 dX5_tiedFor_59 rfl) (v2 := (0 : Int32)) (by decide)).trans <|
  (r_ist (pg_of mt_86 dX5_tiedFor_60 rfl) (Nat.le_of_ble_eq_true rfl) rfl)
theorem b86_62 (l1 : Int32) (l2 : Int32) (l3 : Int32) (l4 : Int32) (l5 : Int32) (l6 : Int32) : rn xs L 86 62 [vR 0, vI l1, vI l2, vI l3, vI l4, vI l5, vI l6] [] (mw f a g) = if l6 < (256 : Int32) then rn xs L 86 70 [vR 0, vI l1, vI l2, vI l3, vI l4, vI l5, vI l6] [] (mw f a g) else rn xs L 86 135 [vR 0, vI l1, vI l2, vI l3, vI l4, vI l5, vI l6] [] (mw f a g) :=
  (r_ild (pg_of mt_86 dX5_tiedFor_62 rfl) rfl).trans <|
  (r_con (pg_of mt_86 dX5_tiedFor_64 rfl) (v2 := (256 : Int32)) (by decide)).trans <|
  (r_ge (pg_of mt_86 dX5_tiedFor_67 rfl))
theorem b86_70 (l1 : Int32) (l2 : Int32) (l3 : Int32) (l4 : Int32) (l5 : Int32) (l6 : Int32) : rn xs L 86 70 [vR 0, vI l1, vI l2, vI l3, vI l4, vI l5, vI l6] [] (mw f a g) = if (l6 &&& (l3 ^^^ (-1 : Int32))) = 0 then rn xs L 86 79 [vR 0, vI l1, vI l2, vI l3, vI l4, vI l5, vI l6] [] (mw f a g) else rn xs L 86 129 [vR 0, vI l1, vI l2, vI l3, vI l4, vI l5, vI l6] [] (mw f a g) :=
  (r_ild (pg_of mt_86 dX5_tiedFor_70 rfl) rfl).trans <|
  (r_ild (pg_of mt_86 dX5_tiedFor_72 rfl) rfl).trans <|
  (r_con (pg_of mt_86 dX5_tiedFor_73 rfl) (v2 := (-1 : Int32)) (by decide)).trans <|
  (r_bin (pg_of mt_86 dX5_tiedFor_74 rfl)).trans <|
  (r_bin (pg_of mt_86 dX5_tiedFor_75 rfl)).trans <|
  (r_ne0 (pg_of mt_86 dX5_tiedFor_76 rfl))
theorem b86_79 (l1 : Int32) (l2 : Int32) (l3 : Int32) (l4 : Int32) (l5 : Int32) (l6 : Int32) : rn xs L 86 79 [vR 0, vI l1, vI l2, vI l3, vI l4, vI l5, vI l6] [] (mw f a g) = (ev xs L 232 1 [vI l6] (mw f a g)).bind (fun b => rn xs L 86 84 [vR 0, vI l1, vI l2, vI l3, vI l4, vI l5, vI l6] (b.1.toList ++ []) b.2) :=
  (r_ild (pg_of mt_86 dX5_tiedFor_79 rfl) rfl).trans <|
  (r_call (t := tt_86) (t2 := tt_232) (pg_of mt_86 dX5_tiedFor_81 rfl) mt_86 mt_232 rfl rfl rfl rfl rfl)
theorem b86_84 (l1 : Int32) (l2 : Int32) (l3 : Int32) (l4 : Int32) (l5 : Int32) (l6 : Int32) (s0 : Int32) : rn xs L 86 84 [vR 0, vI l1, vI l2, vI l3, vI l4, vI l5, vI l6] [vI s0] (mw f a g) = if s0 < l5 then rn xs L 86 89 [vR 0, vI l1, vI l2, vI l3, vI l4, vI l5, vI l6] [] (mw f a g) else rn xs L 86 129 [vR 0, vI l1, vI l2, vI l3, vI l4, vI l5, vI l6] [] (mw f a g) :=
  (r_ild (pg_of mt_86 dX5_tiedFor_84 rfl) rfl).trans <|
  (r_ge (pg_of mt_86 dX5_tiedFor_86 rfl))
theorem b86_89 (l1 : Int32) (l2 : Int32) (l3 : Int32) (l4 : Int32) (l5 : Int32) (l6 : Int32) : rn xs L 86 89 [vR 0, vI l1, vI l2, vI l3, vI l4, vI l5, vI l6] [] (mw f a g) = (ev xs L 33 2 [vR 9, vR 1] (mw f a g)).bind (fun b => rn xs L 86 100 [vR 0, vI l1, vI l2, vI l3, vI l4, vI l5, vI l6] (b.1.toList ++ []) b.2) :=
  (r_ald (pg_of mt_86 dX5_tiedFor_89 rfl) rfl).trans <|
  (r_gtr (a := 9) (pg_of mt_86 dX5_tiedFor_90 rfl) rfl rfl).trans <|
  (r_ald (pg_of mt_86 dX5_tiedFor_93 rfl) rfl).trans <|
  (r_gtr (a := 1) (pg_of mt_86 dX5_tiedFor_94 rfl) rfl rfl).trans <|
  (r_call (t := tt_86) (t2 := tt_33) (pg_of mt_86 dX5_tiedFor_97 rfl) mt_86 mt_33 rfl rfl (rcv1 rfl) rfl rfl)
theorem b86_100 (l1 : Int32) (l2 : Int32) (l3 : Int32) (l4 : Int32) (l5 : Int32) (l6 : Int32) : rn xs L 86 100 [vR 0, vI l1, vI l2, vI l3, vI l4, vI l5, vI l6] [] (mw f a g) = (ev xs L 85 4 [vR 0, vI l1, vI l2] (mw ((ma_u2 f 9 11 l6)) a g)).bind (fun b => rn xs L 86 115 [vR 0, vI l1, vI l2, vI l3, vI l4, vI l5, vI l6] (b.1.toList ++ []) b.2) :=
  (r_ald (pg_of mt_86 dX5_tiedFor_100 rfl) rfl).trans <|
  (r_gtr (a := 9) (pg_of mt_86 dX5_tiedFor_101 rfl) rfl rfl).trans <|
  (r_ild (pg_of mt_86 dX5_tiedFor_104 rfl) rfl).trans <|
  (r_pti (pg_of mt_86 dX5_tiedFor_106 rfl) rfl rfl).trans <|
  (r_ald (pg_of mt_86 dX5_tiedFor_109 rfl) rfl).trans <|
  (r_ild (pg_of mt_86 dX5_tiedFor_110 rfl) rfl).trans <|
  (r_ild (pg_of mt_86 dX5_tiedFor_111 rfl) rfl).trans <|
  (r_call (t := tt_86) (t2 := tt_85) (pg_of mt_86 dX5_tiedFor_112 rfl) mt_86 mt_85 rfl rfl (rcv1 rfl) rfl rfl)
theorem b86_115 (l1 : Int32) (l2 : Int32) (l3 : Int32) (l4 : Int32) (l5 : Int32) (l6 : Int32) (s0 : Int32) : rn xs L 86 115 [vR 0, vI l1, vI l2, vI l3, vI l4, vI l5, vI l6] [vI s0] (mw f a g) = if s0 = 0 then rn xs L 86 129 [vR 0, vI l1, vI l2, vI l3, vI l4, vI l5, vI l6] [] (mw f a g) else rn xs L 86 118 [vR 0, vI l1, vI l2, vI l3, vI l4, vI l5, vI l6] [] (mw f a g) :=
  (r_eq0 (pg_of mt_86 dX5_tiedFor_115 rfl))
theorem b86_118 (l1 : Int32) (l2 : Int32) (l3 : Int32) (l4 : Int32) (l5 : Int32) (l6 : Int32) : rn xs L 86 118 [vR 0, vI l1, vI l2, vI l3, vI l4, vI l5, vI l6] [] (mw f a g) = (ev xs L 232 1 [vI l6] (mw f a g)).bind (fun b => rn xs L 86 127 [vR 0, vI l1, vI l2, vI l3, vI l6, vI l5, vI l6] (b.1.toList ++ []) b.2) :=
  (r_ild (pg_of mt_86 dX5_tiedFor_118 rfl) rfl).trans <|
  (r_ist (pg_of mt_86 dX5_tiedFor_120 rfl) (Nat.le_of_ble_eq_true rfl) rfl).trans <|
  (r_ild (pg_of mt_86 dX5_tiedFor_122 rfl) rfl).trans <|
  (r_call (t := tt_86) (t2 := tt_232) (pg_of mt_86 dX5_tiedFor_124 rfl) mt_86 mt_232 rfl rfl rfl rfl rfl)
theorem b86_127 (l1 : Int32) (l2 : Int32) (l3 : Int32) (l4 : Int32) (l5 : Int32) (l6 : Int32) (s0 : Int32) : rn xs L 86 127 [vR 0, vI l1, vI l2, vI l3, vI l4, vI l5, vI l6] [vI s0] (mw f a g) = rn xs L 86 62 [vR 0, vI l1, vI l2, vI l3, vI l4, vI s0, vI (l6 + (1 : Int32))] [] (mw f a g) :=
  (r_ist (pg_of mt_86 dX5_tiedFor_127 rfl) (Nat.le_of_ble_eq_true rfl) rfl).trans <|
  (r_inc (pg_of mt_86 dX5_tiedFor_129 rfl) (y := (1 : Int32)) (by decide) rfl rfl).trans <|
  (r_gto (pg_of mt_86 dX5_tiedFor_132 rfl))
theorem b86_129 (l1 : Int32) (l2 : Int32) (l3 : Int32) (l4 : Int32) (l5 : Int32) (l6 : Int32) : rn xs L 86 129 [vR 0, vI l1, vI l2, vI l3, vI l4, vI l5, vI l6] [] (mw f a g) = rn xs L 86 62 [vR 0, vI l1, vI l2, vI l3, vI l4, vI l5, vI (l6 + (1 : Int32))] [] (mw f a g) :=
  (r_inc (pg_of mt_86 dX5_tiedFor_129 rfl) (y := (1 : Int32)) (by decide) rfl rfl).trans <|
  (r_gto (pg_of mt_86 dX5_tiedFor_132 rfl))
theorem b86_135 (l1 : Int32) (l2 : Int32) (l3 : Int32) (l4 : Int32) (l5 : Int32) (l6 : Int32) : rn xs L 86 135 [vR 0, vI l1, vI l2, vI l3, vI l4, vI l5, vI l6] [] (mw f a g) = some (some (vI l4), (mw f a g)) :=
  (r_ild (pg_of mt_86 dX5_tiedFor_135 rfl) rfl).trans <|
  (r_ri (pg_of mt_86 dX5_tiedFor_137 rfl) mt_86 rfl)
-- 87 LeafFalls.fits(III)I
theorem b87_0 (l1 : Int32) (l2 : Int32) (l3 : Int32) (l4 : ma_V) (l5 : ma_V) (l6 : ma_V) : rn xs L 87 0 [vR 0, vI l1, vI l2, vI l3, l4, l5, l6] [] (mw f a g) = (ev xs L 56 3 [vI l1, vI (0 : Int32), vI (3 : Int32)] (mw f a g)).bind (fun b => rn xs L 87 6 [vR 0, vI l1, vI l2, vI l3, l4, l5, l6] (b.1.toList ++ []) b.2) :=
  (r_ild (pg_of mt_87 dX5_fits_0 rfl) rfl).trans <|
  (r_con (pg_of mt_87 dX5_fits_1 rfl) (v2 := (0 : Int32)) (by decide)).trans <|
  (r_con (pg_of mt_87 dX5_fits_2 rfl) (v2 := (3 : Int32)) (by decide)).trans <|
  (r_call (t := tt_87) (t2 := tt_56) (pg_of mt_87 dX5_fits_3 rfl) mt_87 mt_56 rfl rfl rfl rfl rfl)
theorem b87_6 (l1 : Int32) (l2 : Int32) (l3 : Int32) (l4 : ma_V) (l5 : ma_V) (l6 : ma_V) (s0 : Int32) : rn xs L 87 6 [vR 0, vI l1, vI l2, vI l3, l4, l5, l6] [vI s0] (mw f a g) = if s0 = 0 then rn xs L 87 29 [vR 0, vI l1, vI l2, vI l3, l4, l5, l6] [] (mw f a g) else rn xs L 87 9 [vR 0, vI l1, vI l2, vI l3, l4, l5, l6] [] (mw f a g) :=
  (r_eq0 (pg_of mt_87 dX5_fits_6 rfl))
theorem b87_9 (l1 : Int32) (l2 : Int32) (l3 : Int32) (l4 : ma_V) (l5 : ma_V) (l6 : ma_V) : rn xs L 87 9 [vR 0, vI l1, vI l2, vI l3, l4, l5, l6] [] (mw f a g) = (ev xs L 34 2 [vR 1, vI l2] (mw f a g)).bind (fun b => rn xs L 87 17 [vR 0, vI l1, vI l2, vI l3, l4, l5, l6] (b.1.toList ++ []) b.2) :=
  (r_ald (pg_of mt_87 dX5_fits_9 rfl) rfl).trans <|
  (r_gtr (a := 1) (pg_of mt_87 dX5_fits_10 rfl) rfl rfl).trans <|
  (r_ild (pg_of mt_87 dX5_fits_13 rfl) rfl).trans <|
  (r_call (t := tt_87) (t2 := tt_34) (pg_of mt_87 dX5_fits_14 rfl) mt_87 mt_34 rfl rfl (rcv1 rfl) rfl rfl)
theorem b87_17 (l1 : Int32) (l2 : Int32) (l3 : Int32) (l4 : ma_V) (l5 : ma_V) (l6 : ma_V) (s0 : Int32) : rn xs L 87 17 [vR 0, vI l1, vI l2, vI l3, l4, l5, l6] [vI s0] (mw f a g) = if s0 = 0 then rn xs L 87 29 [vR 0, vI l1, vI l2, vI l3, l4, l5, l6] [] (mw f a g) else rn xs L 87 20 [vR 0, vI l1, vI l2, vI l3, l4, l5, l6] [] (mw f a g) :=
  (r_eq0 (pg_of mt_87 dX5_fits_17 rfl))
theorem b87_20 (l1 : Int32) (l2 : Int32) (l3 : Int32) (l4 : ma_V) (l5 : ma_V) (l6 : ma_V) : rn xs L 87 20 [vR 0, vI l1, vI l2, vI l3, l4, l5, l6] [] (mw f a g) = (ev xs L 56 3 [vI l3, vI (0 : Int32), vI (1 : Int32)] (mw f a g)).bind (fun b => rn xs L 87 26 [vR 0, vI l1, vI l2, vI l3, l4, l5, l6] (b.1.toList ++ []) b.2) :=
  (r_ild (pg_of mt_87 dX5_fits_20 rfl) rfl).trans <|
  (r_con (pg_of mt_87 dX5_fits_21 rfl) (v2 := (0 : Int32)) (by decide)).trans <|
  (r_con (pg_of mt_87 dX5_fits_22 rfl) (v2 := (1 : Int32)) (by decide)).trans <|
  (r_call (t := tt_87) (t2 := tt_56) (pg_of mt_87 dX5_fits_23 rfl) mt_87 mt_56 rfl rfl rfl rfl rfl)
theorem b87_26 (l1 : Int32) (l2 : Int32) (l3 : Int32) (l4 : ma_V) (l5 : ma_V) (l6 : ma_V) (s0 : Int32) : rn xs L 87 26 [vR 0, vI l1, vI l2, vI l3, l4, l5, l6] [vI s0] (mw f a g) = if s0 = 0 then rn xs L 87 29 [vR 0, vI l1, vI l2, vI l3, l4, l5, l6] [] (mw f a g) else rn xs L 87 31 [vR 0, vI l1, vI l2, vI l3, l4, l5, l6] [] (mw f a g) :=
  (r_ne0 (pg_of mt_87 dX5_fits_26 rfl))
theorem b87_29 (l1 : Int32) (l2 : Int32) (l3 : Int32) (l4 : ma_V) (l5 : ma_V) (l6 : ma_V) : rn xs L 87 29 [vR 0, vI l1, vI l2, vI l3, l4, l5, l6] [] (mw f a g) = some (some (vI (-1 : Int32)), (mw f a g)) :=
  (r_con (pg_of mt_87 dX5_fits_29 rfl) (v2 := (-1 : Int32)) (by decide)).trans <|
  (r_ri (pg_of mt_87 dX5_fits_30 rfl) mt_87 rfl)
theorem b87_31 (l1 : Int32) (l2 : Int32) (l3 : Int32) (l4 : ma_V) (l5 : ma_V) (l6 : ma_V) (h1 : ma_in l1 4 = true) : rn xs L 87 31 [vR 0, vI l1, vI l2, vI l3, l4, l5, l6] [] (mw f a g) = (ev xs L 8 1 [vR (32 + 2 * l1.toNatClampNeg)] (mw f a g)).bind (fun b => rn xs L 87 44 [vR 0, vI l1, vI l2, vI l3, vR (32 + 2 * l1.toNatClampNeg), l5, l6] (b.1.toList ++ []) b.2) :=
  (r_ald (pg_of mt_87 dX5_fits_31 rfl) rfl).trans <|
  (r_gtr (a := 28) (pg_of mt_87 dX5_fits_32 rfl) rfl rfl).trans <|
  (r_ild (pg_of mt_87 dX5_fits_35 rfl) rfl).trans <|
  (r_aald (pg_of mt_87 dX5_fits_36 rfl) (Or.inl rfl) rfl h1 (mw_a28 h1)).trans <|
  (r_ast (pg_of mt_87 dX5_fits_37 rfl) (Nat.le_of_ble_eq_true rfl) rfl).trans <|
  (r_ald (pg_of mt_87 dX5_fits_39 rfl) rfl).trans <|
  (r_call (t := tt_87) (t2 := tt_8) (pg_of mt_87 dX5_fits_41 rfl) mt_87 mt_8 rfl rfl (rcv1 (mw_sh (sh_of h1))) rfl rfl)
theorem b87_44 (l1 : Int32) (l2 : Int32) (l3 : Int32) (l4 : Nat) (l5 : ma_V) (l6 : ma_V) (s0 : Int32) (hl4 : is_sh l4) : rn xs L 87 44 [vR 0, vI l1, vI l2, vI l3, vR l4, l5, l6] [vI s0] (mw f a g) = if s0 = 0 then rn xs L 87 50 [vR 0, vI l1, vI l2, vI l3, vR l4, l5, l6] [] (mw f a g) else rn xs L 87 47 [vR 0, vI l1, vI l2, vI l3, vR l4, l5, l6] [] (mw f a g) :=
  (r_eq0 (pg_of mt_87 dX5_fits_44 rfl))
theorem b87_47 (l1 : Int32) (l2 : Int32) (l3 : Int32) (l4 : Nat) (l5 : ma_V) (l6 : ma_V) (hl4 : is_sh l4) : rn xs L 87 47 [vR 0, vI l1, vI l2, vI l3, vR l4, l5, l6] [] (mw f a g) = some (some (vI (-11 : Int32)), (mw f a g)) :=
  (r_con (pg_of mt_87 dX5_fits_47 rfl) (v2 := (-11 : Int32)) (by decide)).trans <|
  (r_ri (pg_of mt_87 dX5_fits_49 rfl) mt_87 rfl)
theorem b87_50 (l1 : Int32) (l2 : Int32) (l3 : Int32) (l4 : Nat) (l5 : ma_V) (l6 : ma_V) (hl4 : is_sh l4) : rn xs L 87 50 [vR 0, vI l1, vI l2, vI l3, vR l4, l5, l6] [] (mw f a g) = rn xs L 87 56 [vR 0, vI l1, vI l2, vI l3, vR l4, vI (0 : Int32), vI (0 : Int32)] [] (mw f a g) :=
  (r_con (pg_of mt_87 dX5_fits_50 rfl) (v2 := (0 : Int32)) (by decide)).trans <|
  (r_ist (pg_of mt_87 dX5_fits_51 rfl) (Nat.le_of_ble_eq_true rfl) rfl).trans <|
  (r_con (pg_of mt_87 dX5_fits_53 rfl) (v2 := (0 : Int32)) (by decide)).trans <|
  (r_ist (pg_of mt_87 dX5_fits_54 rfl) (Nat.le_of_ble_eq_true rfl) rfl)
theorem b87_56 (l1 : Int32) (l2 : Int32) (l3 : Int32) (l4 : Nat) (l5 : Int32) (l6 : Int32) (hl4 : is_sh l4) : rn xs L 87 56 [vR 0, vI l1, vI l2, vI l3, vR l4, vI l5, vI l6] [] (mw f a g) = if (99 : Int32) < l6 then rn xs L 87 92 [vR 0, vI l1, vI l2, vI l3, vR l4, vI l5, vI l6] [] (mw f a g) else rn xs L 87 63 [vR 0, vI l1, vI l2, vI l3, vR l4, vI l5, vI l6] [] (mw f a g) :=
  (r_ild (pg_of mt_87 dX5_fits_56 rfl) rfl).trans <|
  (r_con (pg_of mt_87 dX5_fits_58 rfl) (v2 := (99 : Int32)) (by decide)).trans <|
  (r_gt (pg_of mt_87 dX5_fits_60 rfl))
theorem b87_63 (l1 : Int32) (l2 : Int32) (l3 : Int32) (l4 : Nat) (l5 : Int32) (l6 : Int32) (hl4 : is_sh l4) : rn xs L 87 63 [vR 0, vI l1, vI l2, vI l3, vR l4, vI l5, vI l6] [] (mw f a g) = (ev xs L 88 7 [vR 0, vR l4, vI l2, vI l6] (mw f a g)).bind (fun b => rn xs L 87 72 [vR 0, vI l1, vI l2, vI l3, vR l4, vI l5, vI l6] (b.1.toList ++ []) b.2) :=
  (r_ald (pg_of mt_87 dX5_fits_63 rfl) rfl).trans <|
  (r_ald (pg_of mt_87 dX5_fits_64 rfl) rfl).trans <|
  (r_ild (pg_of mt_87 dX5_fits_66 rfl) rfl).trans <|
  (r_ild (pg_of mt_87 dX5_fits_67 rfl) rfl).trans <|
  (r_call (t := tt_87) (t2 := tt_88) (pg_of mt_87 dX5_fits_69 rfl) mt_87 mt_88 rfl rfl (rcv1 rfl) rfl rfl)
theorem b87_72 (l1 : Int32) (l2 : Int32) (l3 : Int32) (l4 : Nat) (l5 : Int32) (l6 : Int32) (s0 : Int32) (hl4 : is_sh l4) : rn xs L 87 72 [vR 0, vI l1, vI l2, vI l3, vR l4, vI l5, vI l6] [vI s0] (mw f a g) = if s0 = 0 then rn xs L 87 86 [vR 0, vI l1, vI l2, vI l3, vR l4, vI l5, vI l6] [] (mw f a g) else rn xs L 87 75 [vR 0, vI l1, vI l2, vI l3, vR l4, vI l5, vI l6] [] (mw f a g) :=
  (r_eq0 (pg_of mt_87 dX5_fits_72 rfl))
theorem b87_75 (l1 : Int32) (l2 : Int32) (l3 : Int32) (l4 : Nat) (l5 : Int32) (l6 : Int32) (hl4 : is_sh l4) : rn xs L 87 75 [vR 0, vI l1, vI l2, vI l3, vR l4, vI l5, vI l6] [] (mw f a g) = if l3 = (1 : Int32) then rn xs L 87 80 [vR 0, vI l1, vI l2, vI l3, vR l4, vI l5, vI l6] [] (mw f a g) else rn xs L 87 83 [vR 0, vI l1, vI l2, vI l3, vR l4, vI l5, vI l6] [] (mw f a g) :=
  (r_ild (pg_of mt_87 dX5_fits_75 rfl) rfl).trans <|
  (r_con (pg_of mt_87 dX5_fits_76 rfl) (v2 := (1 : Int32)) (by decide)).trans <|
  (r_ne (pg_of mt_87 dX5_fits_77 rfl))
theorem b87_80 (l1 : Int32) (l2 : Int32) (l3 : Int32) (l4 : Nat) (l5 : Int32) (l6 : Int32) (hl4 : is_sh l4) : rn xs L 87 80 [vR 0, vI l1, vI l2, vI l3, vR l4, vI l5, vI l6] [] (mw f a g) = some (some (vI l6), (mw f a g)) :=
  (r_ild (pg_of mt_87 dX5_fits_80 rfl) rfl).trans <|
  (r_ri (pg_of mt_87 dX5_fits_82 rfl) mt_87 rfl)
theorem b87_83 (l1 : Int32) (l2 : Int32) (l3 : Int32) (l4 : Nat) (l5 : Int32) (l6 : Int32) (hl4 : is_sh l4) : rn xs L 87 83 [vR 0, vI l1, vI l2, vI l3, vR l4, vI l5, vI l6] [] (mw f a g) = rn xs L 87 56 [vR 0, vI l1, vI l2, vI l3, vR l4, vI (l5 + (1 : Int32)), vI (l6 + (1 : Int32))] [] (mw f a g) :=
  (r_inc (pg_of mt_87 dX5_fits_83 rfl) (y := (1 : Int32)) (by decide) rfl rfl).trans <|
  (r_inc (pg_of mt_87 dX5_fits_86 rfl) (y := (1 : Int32)) (by decide) rfl rfl).trans <|
  (r_gto (pg_of mt_87 dX5_fits_89 rfl))
theorem b87_86 (l1 : Int32) (l2 : Int32) (l3 : Int32) (l4 : Nat) (l5 : Int32) (l6 : Int32) (hl4 : is_sh l4) : rn xs L 87 86 [vR 0, vI l1, vI l2, vI l3, vR l4, vI l5, vI l6] [] (mw f a g) = rn xs L 87 56 [vR 0, vI l1, vI l2, vI l3, vR l4, vI l5, vI (l6 + (1 : Int32))] [] (mw f a g) :=
  (r_inc (pg_of mt_87 dX5_fits_86 rfl) (y := (1 : Int32)) (by decide) rfl rfl).trans <|
  (r_gto (pg_of mt_87 dX5_fits_89 rfl))
theorem b87_92 (l1 : Int32) (l2 : Int32) (l3 : Int32) (l4 : Nat) (l5 : Int32) (l6 : Int32) (hl4 : is_sh l4) : rn xs L 87 92 [vR 0, vI l1, vI l2, vI l3, vR l4, vI l5, vI l6] [] (mw f a g) = if l3 = (1 : Int32) then rn xs L 87 97 [vR 0, vI l1, vI l2, vI l3, vR l4, vI l5, vI l6] [] (mw f a g) else rn xs L 87 102 [vR 0, vI l1, vI l2, vI l3, vR l4, vI l5, vI l6] [] (mw f a g) :=
  (r_ild (pg_of mt_87 dX5_fits_92 rfl) rfl).trans <|
  (r_con (pg_of mt_87 dX5_fits_93 rfl) (v2 := (1 : Int32)) (by decide)).trans <|
  (r_ne (pg_of mt_87 dX5_fits_94 rfl))
theorem b87_97 (l1 : Int32) (l2 : Int32) (l3 : Int32) (l4 : Nat) (l5 : Int32) (l6 : Int32) (hl4 : is_sh l4) : rn xs L 87 97 [vR 0, vI l1, vI l2, vI l3, vR l4, vI l5, vI l6] [] (mw f a g) = some (some (vI (-3 : Int32)), (mw f a g)) :=
  (r_con (pg_of mt_87 dX5_fits_97 rfl) (v2 := (-3 : Int32)) (by decide)).trans <|
  (r_gto (pg_of mt_87 dX5_fits_99 rfl)).trans <|
  (r_ri (pg_of mt_87 dX5_fits_104 rfl) mt_87 rfl)
theorem b87_102 (l1 : Int32) (l2 : Int32) (l3 : Int32) (l4 : Nat) (l5 : Int32) (l6 : Int32) (hl4 : is_sh l4) : rn xs L 87 102 [vR 0, vI l1, vI l2, vI l3, vR l4, vI l5, vI l6] [] (mw f a g) = some (some (vI l5), (mw f a g)) :=
  (r_ild (pg_of mt_87 dX5_fits_102 rfl) rfl).trans <|
  (r_ri (pg_of mt_87 dX5_fits_104 rfl) mt_87 rfl)
-- 88 LeafFalls.fitsWithHold(LLeafFalls$Sheet;II)Z
theorem b88_0 (l1 : Nat) (l2 : Int32) (l3 : Int32) (l4 : ma_V) (l5 : ma_V) (l6 : ma_V) (hl1 : is_sh l1) : rn xs L 88 0 [vR 0, vR l1, vI l2, vI l3, l4, l5, l6] [] (mw f a g) = (ev xs L 33 2 [vR 9, vR 1] (mw f a g)).bind (fun b => rn xs L 88 11 [vR 0, vR l1, vI l2, vI l3, l4, l5, l6] (b.1.toList ++ []) b.2) :=
  (r_ald (pg_of mt_88 dX5_fitsWithHold_0 rfl) rfl).trans <|
  (r_gtr (a := 9) (pg_of mt_88 dX5_fitsWithHold_1 rfl) rfl rfl).trans <|
  (r_ald (pg_of mt_88 dX5_fitsWithHold_4 rfl) rfl).trans <|
  (r_gtr (a := 1) (pg_of mt_88 dX5_fitsWithHold_5 rfl) rfl rfl).trans <|
  (r_call (t := tt_88) (t2 := tt_33) (pg_of mt_88 dX5_fitsWithHold_8 rfl) mt_88 mt_33 rfl rfl (rcv1 rfl) rfl rfl)
theorem b88_11 (l1 : Nat) (l2 : Int32) (l3 : Int32) (l4 : ma_V) (l5 : ma_V) (l6 : ma_V) (hl1 : is_sh l1) (h1 : ma_in l2 8 = true) : rn xs L 88 11 [vR 0, vR l1, vI l2, vI l3, l4, l5, l6] [] (mw f a g) = rn xs L 88 24 [vR 0, vR l1, vI l2, vI l3, vI (0 : Int32), l5, l6] [] (mw f ((ma_u2 a 14 l2.toNatClampNeg l3)) g) :=
  (r_ald (pg_of mt_88 dX5_fitsWithHold_11 rfl) rfl).trans <|
  (r_gtr (a := 9) (pg_of mt_88 dX5_fitsWithHold_12 rfl) rfl rfl).trans <|
  (r_gtr (a := 14) (pg_of mt_88 dX5_fitsWithHold_15 rfl) rfl rfl).trans <|
  (r_ild (pg_of mt_88 dX5_fitsWithHold_18 rfl) rfl).trans <|
  (r_ild (pg_of mt_88 dX5_fitsWithHold_19 rfl) rfl).trans <|
  (r_iast (pg_of mt_88 dX5_fitsWithHold_20 rfl) rfl h1).trans <|
  (r_con (pg_of mt_88 dX5_fitsWithHold_21 rfl) (v2 := (0 : Int32)) (by decide)).trans <|
  (r_ist (pg_of mt_88 dX5_fitsWithHold_22 rfl) (Nat.le_of_ble_eq_true rfl) rfl)
theorem b88_24 (l1 : Nat) (l2 : Int32) (l3 : Int32) (l4 : Int32) (l5 : ma_V) (l6 : ma_V) (hl1 : is_sh l1) : rn xs L 88 24 [vR 0, vR l1, vI l2, vI l3, vI l4, l5, l6] [] (mw f a g) = if l4 < (f l1 2) then rn xs L 88 33 [vR 0, vR l1, vI l2, vI l3, vI l4, l5, l6] [] (mw f a g) else rn xs L 88 100 [vR 0, vR l1, vI l2, vI l3, vI l4, l5, l6] [] (mw f a g) :=
  (r_ild (pg_of mt_88 dX5_fitsWithHold_24 rfl) rfl).trans <|
  (r_ald (pg_of mt_88 dX5_fitsWithHold_26 rfl) rfl).trans <|
  (r_gti (pg_of mt_88 dX5_fitsWithHold_27 rfl) (mw_sh hl1)).trans <|
  (r_ge (pg_of mt_88 dX5_fitsWithHold_30 rfl))
theorem b88_33 (l1 : Nat) (l2 : Int32) (l3 : Int32) (l4 : Int32) (l5 : ma_V) (l6 : ma_V) (hl1 : is_sh l1) : rn xs L 88 33 [vR 0, vR l1, vI l2, vI l3, vI l4, l5, l6] [] (mw f a g) = (ev xs L 42 2 [vR 9] (mw f a g)).bind (fun b => rn xs L 88 40 [vR 0, vR l1, vI l2, vI l3, vI l4, l5, l6] (b.1.toList ++ []) b.2) :=
  (r_ald (pg_of mt_88 dX5_fitsWithHold_33 rfl) rfl).trans <|
  (r_gtr (a := 9) (pg_of mt_88 dX5_fitsWithHold_34 rfl) rfl rfl).trans <|
  (r_call (t := tt_88) (t2 := tt_42) (pg_of mt_88 dX5_fitsWithHold_37 rfl) mt_88 mt_42 rfl rfl (rcv1 rfl) rfl rfl)
theorem b88_40 (l1 : Nat) (l2 : Int32) (l3 : Int32) (l4 : Int32) (l5 : ma_V) (l6 : ma_V) (s0 : Int32) (hl1 : is_sh l1) : rn xs L 88 40 [vR 0, vR l1, vI l2, vI l3, vI l4, l5, l6] [vI s0] (mw f a g) = if s0 < 0 then rn xs L 88 47 [vR 0, vR l1, vI l2, vI l3, vI l4, vI s0, l6] [] (mw f a g) else rn xs L 88 52 [vR 0, vR l1, vI l2, vI l3, vI l4, vI s0, l6] [] (mw f a g) :=
  (r_ist (pg_of mt_88 dX5_fitsWithHold_40 rfl) (Nat.le_of_ble_eq_true rfl) rfl).trans <|
  (r_ild (pg_of mt_88 dX5_fitsWithHold_42 rfl) rfl).trans <|
  (r_ge0 (pg_of mt_88 dX5_fitsWithHold_44 rfl))
theorem b88_47 (l1 : Nat) (l2 : Int32) (l3 : Int32) (l4 : Int32) (l5 : Int32) (l6 : ma_V) (hl1 : is_sh l1) (h1 : ma_in l4 40 = true) : rn xs L 88 47 [vR 0, vR l1, vI l2, vI l3, vI l4, vI l5, l6] [] (mw f a g) = if (lg_cmp (g ((l1 + 1)) l4.toNatClampNeg) (-1 : Int64)) = 0 then rn xs L 88 94 [vR 0, vR l1, vI l2, vI l3, vI l4, vI l5, vI (10 : Int32)] [] (mw f a g) else rn xs L 88 78 [vR 0, vR l1, vI l2, vI l3, vI l4, vI l5, vI (10 : Int32)] [] (mw f a g) :=
  (r_con (pg_of mt_88 dX5_fitsWithHold_47 rfl) (v2 := (10 : Int32)) (by decide)).trans <|
  (r_gto (pg_of mt_88 dX5_fitsWithHold_49 rfl)).trans <|
  (r_ist (pg_of mt_88 dX5_fitsWithHold_62 rfl) (Nat.le_of_ble_eq_true rfl) rfl).trans <|
  (r_ald (pg_of mt_88 dX5_fitsWithHold_64 rfl) rfl).trans <|
  (r_gtr (a := (l1 + 1)) (pg_of mt_88 dX5_fitsWithHold_65 rfl) (mw_sh hl1) (mw_shf hl1)).trans <|
  (r_ild (pg_of mt_88 dX5_fitsWithHold_68 rfl) rfl).trans <|
  (r_lald (pg_of mt_88 dX5_fitsWithHold_70 rfl) (mw_sh0 hl1) h1).trans <|
  (r_lcn (pg_of mt_88 dX5_fitsWithHold_71 rfl) (v2 := (-1 : Int64)) rfl).trans <|
  (r_lcp (pg_of mt_88 dX5_fitsWithHold_74 rfl)).trans <|
  (r_eq0 (pg_of mt_88 dX5_fitsWithHold_75 rfl))
theorem b88_52 (l1 : Nat) (l2 : Int32) (l3 : Int32) (l4 : Int32) (l5 : Int32) (l6 : ma_V) (hl1 : is_sh l1) (h1 : ma_in l5 8 = true) (h2 : ma_in l4 40 = true) : rn xs L 88 52 [vR 0, vR l1, vI l2, vI l3, vI l4, vI l5, l6] [] (mw f a g) = if (lg_cmp (g ((l1 + 1)) l4.toNatClampNeg) (-1 : Int64)) = 0 then rn xs L 88 94 [vR 0, vR l1, vI l2, vI l3, vI l4, vI l5, vI (a 15 l5.toNatClampNeg)] [] (mw f a g) else rn xs L 88 78 [vR 0, vR l1, vI l2, vI l3, vI l4, vI l5, vI (a 15 l5.toNatClampNeg)] [] (mw f a g) :=
  (r_ald (pg_of mt_88 dX5_fitsWithHold_52 rfl) rfl).trans <|
  (r_gtr (a := 9) (pg_of mt_88 dX5_fitsWithHold_53 rfl) rfl rfl).trans <|
  (r_gtr (a := 15) (pg_of mt_88 dX5_fitsWithHold_56 rfl) rfl rfl).trans <|
  (r_ild (pg_of mt_88 dX5_fitsWithHold_59 rfl) rfl).trans <|
  (r_iald (pg_of mt_88 dX5_fitsWithHold_61 rfl) rfl h1).trans <|
  (r_ist (pg_of mt_88 dX5_fitsWithHold_62 rfl) (Nat.le_of_ble_eq_true rfl) rfl).trans <|
  (r_ald (pg_of mt_88 dX5_fitsWithHold_64 rfl) rfl).trans <|
  (r_gtr (a := (l1 + 1)) (pg_of mt_88 dX5_fitsWithHold_65 rfl) (mw_sh hl1) (mw_shf hl1)).trans <|
  (r_ild (pg_of mt_88 dX5_fitsWithHold_68 rfl) rfl).trans <|
  (r_lald (pg_of mt_88 dX5_fitsWithHold_70 rfl) (mw_sh0 hl1) h2).trans <|
  (r_lcn (pg_of mt_88 dX5_fitsWithHold_71 rfl) (v2 := (-1 : Int64)) rfl).trans <|
  (r_lcp (pg_of mt_88 dX5_fitsWithHold_74 rfl)).trans <|
  (r_eq0 (pg_of mt_88 dX5_fitsWithHold_75 rfl))
theorem b88_78 (l1 : Nat) (l2 : Int32) (l3 : Int32) (l4 : Int32) (l5 : Int32) (l6 : Int32) (hl1 : is_sh l1) (h1 : ma_in l4 40 = true) : rn xs L 88 78 [vR 0, vR l1, vI l2, vI l3, vI l4, vI l5, vI l6] [] (mw f a g) = if (lg_cmp (g ((l1 + 1)) l4.toNatClampNeg) (l6).toInt64) = 0 then rn xs L 88 94 [vR 0, vR l1, vI l2, vI l3, vI l4, vI l5, vI l6] [] (mw f a g) else rn xs L 88 92 [vR 0, vR l1, vI l2, vI l3, vI l4, vI l5, vI l6] [] (mw f a g) :=
  (r_ald (pg_of mt_88 dX5_fitsWithHold_78 rfl) rfl).trans <|
  (r_gtr (a := (l1 + 1)) (pg_of mt_88 dX5_fitsWithHold_79 rfl) (mw_sh hl1) (mw_shf hl1)).trans <|
  (r_ild (pg_of mt_88 dX5_fitsWithHold_82 rfl) rfl).trans <|
  (r_lald (pg_of mt_88 dX5_fitsWithHold_84 rfl) (mw_sh0 hl1) h1).trans <|
  (r_ild (pg_of mt_88 dX5_fitsWithHold_85 rfl) rfl).trans <|
  (r_i2l (pg_of mt_88 dX5_fitsWithHold_87 rfl)).trans <|
  (r_lcp (pg_of mt_88 dX5_fitsWithHold_88 rfl)).trans <|
  (r_eq0 (pg_of mt_88 dX5_fitsWithHold_89 rfl))
theorem b88_92 (l1 : Nat) (l2 : Int32) (l3 : Int32) (l4 : Int32) (l5 : Int32) (l6 : Int32) (hl1 : is_sh l1) : rn xs L 88 92 [vR 0, vR l1, vI l2, vI l3, vI l4, vI l5, vI l6] [] (mw f a g) = some (some (vI (0 : Int32)), (mw f a g)) :=
  (r_con (pg_of mt_88 dX5_fitsWithHold_92 rfl) (v2 := (0 : Int32)) (by decide)).trans <|
  (r_rz (pg_of mt_88 dX5_fitsWithHold_93 rfl) mt_88 rfl (Or.inl rfl))
theorem b88_94 (l1 : Nat) (l2 : Int32) (l3 : Int32) (l4 : Int32) (l5 : Int32) (l6 : Int32) (hl1 : is_sh l1) : rn xs L 88 94 [vR 0, vR l1, vI l2, vI l3, vI l4, vI l5, vI l6] [] (mw f a g) = rn xs L 88 24 [vR 0, vR l1, vI l2, vI l3, vI (l4 + (1 : Int32)), vI l5, vI l6] [] (mw f a g) :=
  (r_inc (pg_of mt_88 dX5_fitsWithHold_94 rfl) (y := (1 : Int32)) (by decide) rfl rfl).trans <|
  (r_gto (pg_of mt_88 dX5_fitsWithHold_97 rfl))
theorem b88_100 (l1 : Nat) (l2 : Int32) (l3 : Int32) (l4 : Int32) (l5 : ma_V) (l6 : ma_V) (hl1 : is_sh l1) : rn xs L 88 100 [vR 0, vR l1, vI l2, vI l3, vI l4, l5, l6] [] (mw f a g) = some (some (vI (1 : Int32)), (mw f a g)) :=
  (r_con (pg_of mt_88 dX5_fitsWithHold_100 rfl) (v2 := (1 : Int32)) (by decide)).trans <|
  (r_rz (pg_of mt_88 dX5_fitsWithHold_101 rfl) mt_88 rfl (Or.inr rfl))
-- 89 LeafFalls.odds(III)J
theorem b89_0 (l1 : Int32) (l2 : Int32) (l3 : Int32) (l4 : ma_V) (l5 : ma_V) (l6 : ma_V) (l7 : ma_V) (l8 : ma_V) (l9 : ma_V) (l10 : ma_V) : rn xs L 89 0 [vR 0, vI l1, vI l2, vI l3, l4, l5, l6, l7, l8, l9, l10] [] (mw f a g) = (ev xs L 56 3 [vI l1, vI (0 : Int32), vI (8 : Int32)] (mw f a g)).bind (fun b => rn xs L 89 7 [vR 0, vI l1, vI l2, vI l3, l4, l5, l6, l7, l8, l9, l10] (b.1.toList ++ []) b.2) :=
  (r_ild (pg_of mt_89 dX5_odds_0 rfl) rfl).trans <|
  (r_con (pg_of mt_89 dX5_odds_1 rfl) (v2 := (0 : Int32)) (by decide)).trans <|
  (r_con (pg_of mt_89 dX5_odds_2 rfl) (v2 := (8 : Int32)) (by decide)).trans <|
  (r_call (t := tt_89) (t2 := tt_56) (pg_of mt_89 dX5_odds_4 rfl) mt_89 mt_56 rfl rfl rfl rfl rfl)
theorem b89_7 (l1 : Int32) (l2 : Int32) (l3 : Int32) (l4 : ma_V) (l5 : ma_V) (l6 : ma_V) (l7 : ma_V) (l8 : ma_V) (l9 : ma_V) (l10 : ma_V) (s0 : Int32) : rn xs L 89 7 [vR 0, vI l1, vI l2, vI l3, l4, l5, l6, l7, l8, l9, l10] [vI s0] (mw f a g) = if s0 = 0 then rn xs L 89 28 [vR 0, vI l1, vI l2, vI l3, l4, l5, l6, l7, l8, l9, l10] [] (mw f a g) else rn xs L 89 10 [vR 0, vI l1, vI l2, vI l3, l4, l5, l6, l7, l8, l9, l10] [] (mw f a g) :=
  (r_eq0 (pg_of mt_89 dX5_odds_7 rfl))
theorem b89_10 (l1 : Int32) (l2 : Int32) (l3 : Int32) (l4 : ma_V) (l5 : ma_V) (l6 : ma_V) (l7 : ma_V) (l8 : ma_V) (l9 : ma_V) (l10 : ma_V) : rn xs L 89 10 [vR 0, vI l1, vI l2, vI l3, l4, l5, l6, l7, l8, l9, l10] [] (mw f a g) = (ev xs L 56 3 [vI l2, vI (0 : Int32), vI l1] (mw f a g)).bind (fun b => rn xs L 89 16 [vR 0, vI l1, vI l2, vI l3, l4, l5, l6, l7, l8, l9, l10] (b.1.toList ++ []) b.2) :=
  (r_ild (pg_of mt_89 dX5_odds_10 rfl) rfl).trans <|
  (r_con (pg_of mt_89 dX5_odds_11 rfl) (v2 := (0 : Int32)) (by decide)).trans <|
  (r_ild (pg_of mt_89 dX5_odds_12 rfl) rfl).trans <|
  (r_call (t := tt_89) (t2 := tt_56) (pg_of mt_89 dX5_odds_13 rfl) mt_89 mt_56 rfl rfl rfl rfl rfl)
theorem b89_16 (l1 : Int32) (l2 : Int32) (l3 : Int32) (l4 : ma_V) (l5 : ma_V) (l6 : ma_V) (l7 : ma_V) (l8 : ma_V) (l9 : ma_V) (l10 : ma_V) (s0 : Int32) : rn xs L 89 16 [vR 0, vI l1, vI l2, vI l3, l4, l5, l6, l7, l8, l9, l10] [vI s0] (mw f a g) = if s0 = 0 then rn xs L 89 28 [vR 0, vI l1, vI l2, vI l3, l4, l5, l6, l7, l8, l9, l10] [] (mw f a g) else rn xs L 89 19 [vR 0, vI l1, vI l2, vI l3, l4, l5, l6, l7, l8, l9, l10] [] (mw f a g) :=
  (r_eq0 (pg_of mt_89 dX5_odds_16 rfl))
theorem b89_19 (l1 : Int32) (l2 : Int32) (l3 : Int32) (l4 : ma_V) (l5 : ma_V) (l6 : ma_V) (l7 : ma_V) (l8 : ma_V) (l9 : ma_V) (l10 : ma_V) : rn xs L 89 19 [vR 0, vI l1, vI l2, vI l3, l4, l5, l6, l7, l8, l9, l10] [] (mw f a g) = (ev xs L 56 3 [vI l3, vI (0 : Int32), vI (1 : Int32)] (mw f a g)).bind (fun b => rn xs L 89 25 [vR 0, vI l1, vI l2, vI l3, l4, l5, l6, l7, l8, l9, l10] (b.1.toList ++ []) b.2) :=
  (r_ild (pg_of mt_89 dX5_odds_19 rfl) rfl).trans <|
  (r_con (pg_of mt_89 dX5_odds_20 rfl) (v2 := (0 : Int32)) (by decide)).trans <|
  (r_con (pg_of mt_89 dX5_odds_21 rfl) (v2 := (1 : Int32)) (by decide)).trans <|
  (r_call (t := tt_89) (t2 := tt_56) (pg_of mt_89 dX5_odds_22 rfl) mt_89 mt_56 rfl rfl rfl rfl rfl)
theorem b89_25 (l1 : Int32) (l2 : Int32) (l3 : Int32) (l4 : ma_V) (l5 : ma_V) (l6 : ma_V) (l7 : ma_V) (l8 : ma_V) (l9 : ma_V) (l10 : ma_V) (s0 : Int32) : rn xs L 89 25 [vR 0, vI l1, vI l2, vI l3, l4, l5, l6, l7, l8, l9, l10] [vI s0] (mw f a g) = if s0 = 0 then rn xs L 89 28 [vR 0, vI l1, vI l2, vI l3, l4, l5, l6, l7, l8, l9, l10] [] (mw f a g) else rn xs L 89 32 [vR 0, vI l1, vI l2, vI l3, l4, l5, l6, l7, l8, l9, l10] [] (mw f a g) :=
  (r_ne0 (pg_of mt_89 dX5_odds_25 rfl))
theorem b89_28 (l1 : Int32) (l2 : Int32) (l3 : Int32) (l4 : ma_V) (l5 : ma_V) (l6 : ma_V) (l7 : ma_V) (l8 : ma_V) (l9 : ma_V) (l10 : ma_V) : rn xs L 89 28 [vR 0, vI l1, vI l2, vI l3, l4, l5, l6, l7, l8, l9, l10] [] (mw f a g) = some (some (vL (-1 : Int64)), (mw f a g)) :=
  (r_lcn (pg_of mt_89 dX5_odds_28 rfl) (v2 := (-1 : Int64)) rfl).trans <|
  (r_rl (pg_of mt_89 dX5_odds_31 rfl) mt_89 rfl)
theorem b89_32 (l1 : Int32) (l2 : Int32) (l3 : Int32) (l4 : ma_V) (l5 : ma_V) (l6 : ma_V) (l7 : ma_V) (l8 : ma_V) (l9 : ma_V) (l10 : ma_V) : rn xs L 89 32 [vR 0, vI l1, vI l2, vI l3, l4, l5, l6, l7, l8, l9, l10] [] (mw f a g) = (ev xs L 90 5 [vI l1, vI l2] (mw f a g)).bind (fun b => rn xs L 89 49 [vR 0, vI l1, vI l2, vI l3, vL ((a 2 3)).toInt64, (vS 0), l6, l7, l8, l9, l10] (b.1.toList ++ []) b.2) :=
  (r_ald (pg_of mt_89 dX5_odds_32 rfl) rfl).trans <|
  (r_gtr (a := 1) (pg_of mt_89 dX5_odds_33 rfl) rfl rfl).trans <|
  (r_gtr (a := 2) (pg_of mt_89 dX5_odds_36 rfl) rfl rfl).trans <|
  (r_con (pg_of mt_89 dX5_odds_39 rfl) (v2 := (3 : Int32)) (by decide)).trans <|
  (r_ialc (j := 3) (pg_of mt_89 dX5_odds_40 rfl) rfl (by decide) (by decide)).trans <|
  (r_i2l (pg_of mt_89 dX5_odds_41 rfl)).trans <|
  (r_lst (pg_of mt_89 dX5_odds_42 rfl) (Nat.le_of_ble_eq_true rfl) rfl).trans <|
  (r_ild (pg_of mt_89 dX5_odds_44 rfl) rfl).trans <|
  (r_ild (pg_of mt_89 dX5_odds_45 rfl) rfl).trans <|
  (r_call (t := tt_89) (t2 := tt_90) (pg_of mt_89 dX5_odds_46 rfl) mt_89 mt_90 rfl rfl rfl rfl rfl)
theorem b89_49 (l1 : Int32) (l2 : Int32) (l3 : Int32) (l4 : Int64) (l6 : ma_V) (l7 : ma_V) (l8 : ma_V) (l9 : ma_V) (l10 : ma_V) (s0 : Int64) : rn xs L 89 49 [vR 0, vI l1, vI l2, vI l3, vL l4, (vS 0), l6, l7, l8, l9, l10] [vL s0] (mw f a g) = rn xs L 89 57 [vR 0, vI l1, vI l2, vI l3, vL l4, (vS 0), vL s0, (vS 0), vL (1 : Int64), (vS 0), vI (0 : Int32)] [] (mw f a g) :=
  (r_lst (pg_of mt_89 dX5_odds_49 rfl) (Nat.le_of_ble_eq_true rfl) rfl).trans <|
  (r_lcn (pg_of mt_89 dX5_odds_51 rfl) (v2 := (1 : Int64)) (by decide)).trans <|
  (r_lst (pg_of mt_89 dX5_odds_52 rfl) (Nat.le_of_ble_eq_true rfl) rfl).trans <|
  (r_con (pg_of mt_89 dX5_odds_54 rfl) (v2 := (0 : Int32)) (by decide)).trans <|
  (r_ist (pg_of mt_89 dX5_odds_55 rfl) (Nat.le_of_ble_eq_true rfl) rfl)
theorem b89_57 (l1 : Int32) (l2 : Int32) (l3 : Int32) (l4 : Int64) (l6 : Int64) (l8 : Int64) (l10 : Int32) : rn xs L 89 57 [vR 0, vI l1, vI l2, vI l3, vL l4, (vS 0), vL l6, (vS 0), vL l8, (vS 0), vI l10] [] (mw f a g) = if l10 < l1 then rn xs L 89 63 [vR 0, vI l1, vI l2, vI l3, vL l4, (vS 0), vL l6, (vS 0), vL l8, (vS 0), vI l10] [] (mw f a g) else rn xs L 89 99 [vR 0, vI l1, vI l2, vI l3, vL l4, (vS 0), vL l6, (vS 0), vL l8, (vS 0), vI l10] [] (mw f a g) :=
  (r_ild (pg_of mt_89 dX5_odds_57 rfl) rfl).trans <|
  (r_ild (pg_of mt_89 dX5_odds_59 rfl) rfl).trans <|
  (r_ge (pg_of mt_89 dX5_odds_60 rfl))
theorem b89_63 (l1 : Int32) (l2 : Int32) (l3 : Int32) (l4 : Int64) (l6 : Int64) (l8 : Int64) (l10 : Int32) : rn xs L 89 63 [vR 0, vI l1, vI l2, vI l3, vL l4, (vS 0), vL l6, (vS 0), vL l8, (vS 0), vI l10] [] (mw f a g) = if l10 < l2 then rn xs L 89 71 [vR 0, vI l1, vI l2, vI l3, vL l4, (vS 0), vL l6, (vS 0), vL l8, (vS 0), vI l10] [vL l6] (mw f a g) else rn xs L 89 76 [vR 0, vI l1, vI l2, vI l3, vL l4, (vS 0), vL l6, (vS 0), vL l8, (vS 0), vI l10] [vL l6] (mw f a g) :=
  (r_lld (pg_of mt_89 dX5_odds_63 rfl) rfl).trans <|
  (r_ild (pg_of mt_89 dX5_odds_65 rfl) rfl).trans <|
  (r_ild (pg_of mt_89 dX5_odds_67 rfl) rfl).trans <|
  (r_ge (pg_of mt_89 dX5_odds_68 rfl))
theorem b89_71 (l1 : Int32) (l2 : Int32) (l3 : Int32) (l4 : Int64) (l6 : Int64) (l8 : Int64) (l10 : Int32) (s0 : Int64) : rn xs L 89 71 [vR 0, vI l1, vI l2, vI l3, vL l4, (vS 0), vL l6, (vS 0), vL l8, (vS 0), vI l10] [vL s0] (mw f a g) = rn xs L 89 57 [vR 0, vI l1, vI l2, vI l3, vL l4, (vS 0), vL (s0 * l4), (vS 0), vL (l8 * (100 : Int64)), (vS 0), vI (l10 + (1 : Int32))] [] (mw f a g) :=
  (r_lld (pg_of mt_89 dX5_odds_71 rfl) rfl).trans <|
  (r_gto (pg_of mt_89 dX5_odds_73 rfl)).trans <|
  (r_lbn (pg_of mt_89 dX5_odds_82 rfl)).trans <|
  (r_lst (pg_of mt_89 dX5_odds_83 rfl) (Nat.le_of_ble_eq_true rfl) rfl).trans <|
  (r_lld (pg_of mt_89 dX5_odds_85 rfl) rfl).trans <|
  (r_lcn (pg_of mt_89 dX5_odds_87 rfl) (v2 := (100 : Int64)) rfl).trans <|
  (r_lbn (pg_of mt_89 dX5_odds_90 rfl)).trans <|
  (r_lst (pg_of mt_89 dX5_odds_91 rfl) (Nat.le_of_ble_eq_true rfl) rfl).trans <|
  (r_inc (pg_of mt_89 dX5_odds_93 rfl) (y := (1 : Int32)) (by decide) rfl rfl).trans <|
  (r_gto (pg_of mt_89 dX5_odds_96 rfl))
theorem b89_76 (l1 : Int32) (l2 : Int32) (l3 : Int32) (l4 : Int64) (l6 : Int64) (l8 : Int64) (l10 : Int32) (s0 : Int64) : rn xs L 89 76 [vR 0, vI l1, vI l2, vI l3, vL l4, (vS 0), vL l6, (vS 0), vL l8, (vS 0), vI l10] [vL s0] (mw f a g) = rn xs L 89 57 [vR 0, vI l1, vI l2, vI l3, vL l4, (vS 0), vL (s0 * ((100 : Int64) - l4)), (vS 0), vL (l8 * (100 : Int64)), (vS 0), vI (l10 + (1 : Int32))] [] (mw f a g) :=
  (r_lcn (pg_of mt_89 dX5_odds_76 rfl) (v2 := (100 : Int64)) rfl).trans <|
  (r_lld (pg_of mt_89 dX5_odds_79 rfl) rfl).trans <|
  (r_lbn (pg_of mt_89 dX5_odds_81 rfl)).trans <|
  (r_lbn (pg_of mt_89 dX5_odds_82 rfl)).trans <|
  (r_lst (pg_of mt_89 dX5_odds_83 rfl) (Nat.le_of_ble_eq_true rfl) rfl).trans <|
  (r_lld (pg_of mt_89 dX5_odds_85 rfl) rfl).trans <|
  (r_lcn (pg_of mt_89 dX5_odds_87 rfl) (v2 := (100 : Int64)) rfl).trans <|
  (r_lbn (pg_of mt_89 dX5_odds_90 rfl)).trans <|
  (r_lst (pg_of mt_89 dX5_odds_91 rfl) (Nat.le_of_ble_eq_true rfl) rfl).trans <|
  (r_inc (pg_of mt_89 dX5_odds_93 rfl) (y := (1 : Int32)) (by decide) rfl rfl).trans <|
  (r_gto (pg_of mt_89 dX5_odds_96 rfl))
theorem b89_99 (l1 : Int32) (l2 : Int32) (l3 : Int32) (l4 : Int64) (l6 : Int64) (l8 : Int64) (l10 : Int32) : rn xs L 89 99 [vR 0, vI l1, vI l2, vI l3, vL l4, (vS 0), vL l6, (vS 0), vL l8, (vS 0), vI l10] [] (mw f a g) = (ev xs L 91 12 [vL l6, vL l8, vI l3] (mw f a g)).bind (fun b => rn xs L 89 107 [vR 0, vI l1, vI l2, vI l3, vL l4, (vS 0), vL l6, (vS 0), vL l8, (vS 0), vI l10] (b.1.toList ++ []) b.2) :=
  (r_lld (pg_of mt_89 dX5_odds_99 rfl) rfl).trans <|
  (r_lld (pg_of mt_89 dX5_odds_101 rfl) rfl).trans <|
  (r_ild (pg_of mt_89 dX5_odds_103 rfl) rfl).trans <|
  (r_call (t := tt_89) (t2 := tt_91) (pg_of mt_89 dX5_odds_104 rfl) mt_89 mt_91 rfl rfl rfl rfl rfl)
theorem b89_107 (l1 : Int32) (l2 : Int32) (l3 : Int32) (l4 : Int64) (l6 : Int64) (l8 : Int64) (l10 : Int32) (s0 : Int64) : rn xs L 89 107 [vR 0, vI l1, vI l2, vI l3, vL l4, (vS 0), vL l6, (vS 0), vL l8, (vS 0), vI l10] [vL s0] (mw f a g) = some (some (vL s0), (mw f a g)) :=
  (r_rl (pg_of mt_89 dX5_odds_107 rfl) mt_89 rfl)
-- 90 LeafFalls.ways(II)J
theorem b90_0 (l0 : Int32) (l1 : Int32) (l2 : ma_V) (l3 : ma_V) (l4 : ma_V) : rn xs L 90 0 [vI l0, vI l1, l2, l3, l4] [] (mw f a g) = rn xs L 90 5 [vI l0, vI l1, vL (1 : Int64), (vS 0), vI (1 : Int32)] [] (mw f a g) :=
  (r_lcn (pg_of mt_90 dX5_ways_0 rfl) (v2 := (1 : Int64)) (by decide)).trans <|
  (r_lst (pg_of mt_90 dX5_ways_1 rfl) (Nat.le_of_ble_eq_true rfl) rfl).trans <|
  (r_con (pg_of mt_90 dX5_ways_2 rfl) (v2 := (1 : Int32)) (by decide)).trans <|
  (r_ist (pg_of mt_90 dX5_ways_3 rfl) (Nat.le_of_ble_eq_true rfl) rfl)
theorem b90_5 (l0 : Int32) (l1 : Int32) (l2 : Int64) (l4 : Int32) : rn xs L 90 5 [vI l0, vI l1, vL l2, (vS 0), vI l4] [] (mw f a g) = if l1 < l4 then rn xs L 90 31 [vI l0, vI l1, vL l2, (vS 0), vI l4] [] (mw f a g) else rn xs L 90 11 [vI l0, vI l1, vL l2, (vS 0), vI l4] [] (mw f a g) :=
  (r_ild (pg_of mt_90 dX5_ways_5 rfl) rfl).trans <|
  (r_ild (pg_of mt_90 dX5_ways_7 rfl) rfl).trans <|
  (r_gt (pg_of mt_90 dX5_ways_8 rfl))
theorem b90_11 (l0 : Int32) (l1 : Int32) (l2 : Int64) (l4 : Int32) (h1 : ¬ (l4).toInt64 = 0) : rn xs L 90 11 [vI l0, vI l1, vL l2, (vS 0), vI l4] [] (mw f a g) = rn xs L 90 5 [vI l0, vI l1, vL ((l2 * (((l0 - l1) + l4)).toInt64) / (l4).toInt64), (vS 0), vI (l4 + (1 : Int32))] [] (mw f a g) :=
  (r_lld (pg_of mt_90 dX5_ways_11 rfl) rfl).trans <|
  (r_ild (pg_of mt_90 dX5_ways_12 rfl) rfl).trans <|
  (r_ild (pg_of mt_90 dX5_ways_13 rfl) rfl).trans <|
  (r_bin (pg_of mt_90 dX5_ways_14 rfl)).trans <|
  (r_ild (pg_of mt_90 dX5_ways_15 rfl) rfl).trans <|
  (r_bin (pg_of mt_90 dX5_ways_17 rfl)).trans <|
  (r_i2l (pg_of mt_90 dX5_ways_18 rfl)).trans <|
  (r_lbn (pg_of mt_90 dX5_ways_19 rfl)).trans <|
  (r_ild (pg_of mt_90 dX5_ways_20 rfl) rfl).trans <|
  (r_i2l (pg_of mt_90 dX5_ways_22 rfl)).trans <|
  (r_ldv (pg_of mt_90 dX5_ways_23 rfl) h1).trans <|
  (r_lst (pg_of mt_90 dX5_ways_24 rfl) (Nat.le_of_ble_eq_true rfl) rfl).trans <|
  (r_inc (pg_of mt_90 dX5_ways_25 rfl) (y := (1 : Int32)) (by decide) rfl rfl).trans <|
  (r_gto (pg_of mt_90 dX5_ways_28 rfl))
theorem b90_31 (l0 : Int32) (l1 : Int32) (l2 : Int64) (l4 : Int32) : rn xs L 90 31 [vI l0, vI l1, vL l2, (vS 0), vI l4] [] (mw f a g) = some (some (vL l2), (mw f a g)) :=
  (r_lld (pg_of mt_90 dX5_ways_31 rfl) rfl).trans <|
  (r_rl (pg_of mt_90 dX5_ways_32 rfl) mt_90 rfl)
-- 91 LeafFalls.partOf(JJI)J
theorem b91_0 (l0 : Int64) (l2 : Int64) (l4 : Int32) (l5 : ma_V) (l6 : ma_V) (l7 : ma_V) (l8 : ma_V) (l9 : ma_V) (l10 : ma_V) (l11 : ma_V) : rn xs L 91 0 [vL l0, (vS 0), vL l2, (vS 0), vI l4, l5, l6, l7, l8, l9, l10, l11] [] (mw f a g) = rn xs L 91 9 [vL l0, (vS 0), vL l2, (vS 0), vI l4, vL l2, (vS 0), vL l0, (vS 0), vI (0 : Int32), l10, l11] [] (mw f a g) :=
  (r_lld (pg_of mt_91 dX5_partOf_0 rfl) rfl).trans <|
  (r_lst (pg_of mt_91 dX5_partOf_1 rfl) (Nat.le_of_ble_eq_true rfl) rfl).trans <|
  (r_lld (pg_of mt_91 dX5_partOf_3 rfl) rfl).trans <|
  (r_lst (pg_of mt_91 dX5_partOf_4 rfl) (Nat.le_of_ble_eq_true rfl) rfl).trans <|
  (r_con (pg_of mt_91 dX5_partOf_6 rfl) (v2 := (0 : Int32)) (by decide)).trans <|
  (r_ist (pg_of mt_91 dX5_partOf_7 rfl) (Nat.le_of_ble_eq_true rfl) rfl)
theorem b91_9 (l0 : Int64) (l2 : Int64) (l4 : Int32) (l5 : Int64) (l7 : Int64) (l9 : Int32) (l10 : ma_V) (l11 : ma_V) : rn xs L 91 9 [vL l0, (vS 0), vL l2, (vS 0), vI l4, vL l5, (vS 0), vL l7, (vS 0), vI l9, l10, l11] [] (mw f a g) = if l9 < (100 : Int32) then rn xs L 91 16 [vL l0, (vS 0), vL l2, (vS 0), vI l4, vL l5, (vS 0), vL l7, (vS 0), vI l9, l10, l11] [] (mw f a g) else rn xs L 91 44 [vL l0, (vS 0), vL l2, (vS 0), vI l4, vL l5, (vS 0), vL l7, (vS 0), vI l9, l10, l11] [] (mw f a g) :=
  (r_ild (pg_of mt_91 dX5_partOf_9 rfl) rfl).trans <|
  (r_con (pg_of mt_91 dX5_partOf_11 rfl) (v2 := (100 : Int32)) (by decide)).trans <|
  (r_ge (pg_of mt_91 dX5_partOf_13 rfl))
theorem b91_16 (l0 : Int64) (l2 : Int64) (l4 : Int32) (l5 : Int64) (l7 : Int64) (l9 : Int32) (l10 : ma_V) (l11 : ma_V) : rn xs L 91 16 [vL l0, (vS 0), vL l2, (vS 0), vI l4, vL l5, (vS 0), vL l7, (vS 0), vI l9, l10, l11] [] (mw f a g) = if (lg_cmp l7 (0 : Int64)) = 0 then rn xs L 91 44 [vL l0, (vS 0), vL l2, (vS 0), vI l4, vL l5, (vS 0), vL l7, (vS 0), vI l9, l10, l11] [] (mw f a g) else rn xs L 91 23 [vL l0, (vS 0), vL l2, (vS 0), vI l4, vL l5, (vS 0), vL l7, (vS 0), vI l9, l10, l11] [] (mw f a g) :=
  (r_lld (pg_of mt_91 dX5_partOf_16 rfl) rfl).trans <|
  (r_lcn (pg_of mt_91 dX5_partOf_18 rfl) (v2 := (0 : Int64)) (by decide)).trans <|
  (r_lcp (pg_of mt_91 dX5_partOf_19 rfl)).trans <|
  (r_eq0 (pg_of mt_91 dX5_partOf_20 rfl))
theorem b91_23 (l0 : Int64) (l2 : Int64) (l4 : Int32) (l5 : Int64) (l7 : Int64) (l9 : Int32) (l10 : ma_V) (l11 : ma_V) (h1 : ¬ l7 = 0) : rn xs L 91 23 [vL l0, (vS 0), vL l2, (vS 0), vI l4, vL l5, (vS 0), vL l7, (vS 0), vI l9, l10, l11] [] (mw f a g) = rn xs L 91 9 [vL l0, (vS 0), vL l2, (vS 0), vI l4, vL l7, (vS 0), vL (l5 - l5 / l7 * l7), (vS 0), vI (l9 + (1 : Int32)), vL (l5 - l5 / l7 * l7), (vS 0)] [] (mw f a g) :=
  (r_lld (pg_of mt_91 dX5_partOf_23 rfl) rfl).trans <|
  (r_lld (pg_of mt_91 dX5_partOf_25 rfl) rfl).trans <|
  (r_ldv (pg_of mt_91 dX5_partOf_27 rfl) h1).trans <|
  (r_lst (pg_of mt_91 dX5_partOf_28 rfl) (Nat.le_of_ble_eq_true rfl) rfl).trans <|
  (r_lld (pg_of mt_91 dX5_partOf_30 rfl) rfl).trans <|
  (r_lst (pg_of mt_91 dX5_partOf_32 rfl) (Nat.le_of_ble_eq_true rfl) rfl).trans <|
  (r_lld (pg_of mt_91 dX5_partOf_34 rfl) rfl).trans <|
  (r_lst (pg_of mt_91 dX5_partOf_36 rfl) (Nat.le_of_ble_eq_true rfl) rfl).trans <|
  (r_inc (pg_of mt_91 dX5_partOf_38 rfl) (y := (1 : Int32)) (by decide) rfl rfl).trans <|
  (r_gto (pg_of mt_91 dX5_partOf_41 rfl))
theorem b91_44 (l0 : Int64) (l2 : Int64) (l4 : Int32) (l5 : Int64) (l7 : Int64) (l9 : Int32) (l10 : ma_V) (l11 : ma_V) : rn xs L 91 44 [vL l0, (vS 0), vL l2, (vS 0), vI l4, vL l5, (vS 0), vL l7, (vS 0), vI l9, l10, l11] [] (mw f a g) = if 0 < (lg_cmp l5 (0 : Int64)) then rn xs L 91 55 [vL l0, (vS 0), vL l2, (vS 0), vI l4, vL l5, (vS 0), vL l7, (vS 0), vI l9, l10, l11] [] (mw f a g) else rn xs L 91 51 [vL l0, (vS 0), vL l2, (vS 0), vI l4, vL l5, (vS 0), vL l7, (vS 0), vI l9, l10, l11] [] (mw f a g) :=
  (r_lld (pg_of mt_91 dX5_partOf_44 rfl) rfl).trans <|
  (r_lcn (pg_of mt_91 dX5_partOf_46 rfl) (v2 := (0 : Int64)) (by decide)).trans <|
  (r_lcp (pg_of mt_91 dX5_partOf_47 rfl)).trans <|
  (r_gt0 (pg_of mt_91 dX5_partOf_48 rfl))
theorem b91_51 (l0 : Int64) (l2 : Int64) (l4 : Int32) (l5 : Int64) (l7 : Int64) (l9 : Int32) (l10 : ma_V) (l11 : ma_V) : rn xs L 91 51 [vL l0, (vS 0), vL l2, (vS 0), vI l4, vL l5, (vS 0), vL l7, (vS 0), vI l9, l10, l11] [] (mw f a g) = some (some (vL (-1 : Int64)), (mw f a g)) :=
  (r_lcn (pg_of mt_91 dX5_partOf_51 rfl) (v2 := (-1 : Int64)) rfl).trans <|
  (r_rl (pg_of mt_91 dX5_partOf_54 rfl) mt_91 rfl)
theorem b91_55 (l0 : Int64) (l2 : Int64) (l4 : Int32) (l5 : Int64) (l7 : Int64) (l9 : Int32) (l10 : ma_V) (l11 : ma_V) : rn xs L 91 55 [vL l0, (vS 0), vL l2, (vS 0), vI l4, vL l5, (vS 0), vL l7, (vS 0), vI l9, l10, l11] [] (mw f a g) = if l4 = 0 then rn xs L 91 60 [vL l0, (vS 0), vL l2, (vS 0), vI l4, vL l5, (vS 0), vL l7, (vS 0), vI l9, l10, l11] [] (mw f a g) else rn xs L 91 67 [vL l0, (vS 0), vL l2, (vS 0), vI l4, vL l5, (vS 0), vL l7, (vS 0), vI l9, l10, l11] [] (mw f a g) :=
  (r_ild (pg_of mt_91 dX5_partOf_55 rfl) rfl).trans <|
  (r_ne0 (pg_of mt_91 dX5_partOf_57 rfl))
theorem b91_60 (l0 : Int64) (l2 : Int64) (l4 : Int32) (l5 : Int64) (l7 : Int64) (l9 : Int32) (l10 : ma_V) (l11 : ma_V) (h1 : ¬ l5 = 0) : rn xs L 91 60 [vL l0, (vS 0), vL l2, (vS 0), vI l4, vL l5, (vS 0), vL l7, (vS 0), vI l9, l10, l11] [] (mw f a g) = some (some (vL (l0 / l5)), (mw f a g)) :=
  (r_lld (pg_of mt_91 dX5_partOf_60 rfl) rfl).trans <|
  (r_lld (pg_of mt_91 dX5_partOf_61 rfl) rfl).trans <|
  (r_ldv (pg_of mt_91 dX5_partOf_63 rfl) h1).trans <|
  (r_gto (pg_of mt_91 dX5_partOf_64 rfl)).trans <|
  (r_rl (pg_of mt_91 dX5_partOf_71 rfl) mt_91 rfl)
theorem b91_67 (l0 : Int64) (l2 : Int64) (l4 : Int32) (l5 : Int64) (l7 : Int64) (l9 : Int32) (l10 : ma_V) (l11 : ma_V) (h1 : ¬ l5 = 0) : rn xs L 91 67 [vL l0, (vS 0), vL l2, (vS 0), vI l4, vL l5, (vS 0), vL l7, (vS 0), vI l9, l10, l11] [] (mw f a g) = some (some (vL (l2 / l5)), (mw f a g)) :=
  (r_lld (pg_of mt_91 dX5_partOf_67 rfl) rfl).trans <|
  (r_lld (pg_of mt_91 dX5_partOf_68 rfl) rfl).trans <|
  (r_ldv (pg_of mt_91 dX5_partOf_70 rfl) h1).trans <|
  (r_rl (pg_of mt_91 dX5_partOf_71 rfl) mt_91 rfl)
-- 92 LeafFalls.hope(II)J
theorem b92_0 (l1 : Int32) (l2 : Int32) : rn xs L 92 0 [vR 0, vI l1, vI l2] [] (mw f a g) = (ev xs L 56 3 [vI l1, vI (0 : Int32), vI (99 : Int32)] (mw f a g)).bind (fun b => rn xs L 92 7 [vR 0, vI l1, vI l2] (b.1.toList ++ []) b.2) :=
  (r_ild (pg_of mt_92 dX5_hope_0 rfl) rfl).trans <|
  (r_con (pg_of mt_92 dX5_hope_1 rfl) (v2 := (0 : Int32)) (by decide)).trans <|
  (r_con (pg_of mt_92 dX5_hope_2 rfl) (v2 := (99 : Int32)) (by decide)).trans <|
  (r_call (t := tt_92) (t2 := tt_56) (pg_of mt_92 dX5_hope_4 rfl) mt_92 mt_56 rfl rfl rfl rfl rfl)
theorem b92_7 (l1 : Int32) (l2 : Int32) (s0 : Int32) : rn xs L 92 7 [vR 0, vI l1, vI l2] [vI s0] (mw f a g) = if s0 = 0 then rn xs L 92 19 [vR 0, vI l1, vI l2] [] (mw f a g) else rn xs L 92 10 [vR 0, vI l1, vI l2] [] (mw f a g) :=
  (r_eq0 (pg_of mt_92 dX5_hope_7 rfl))
theorem b92_10 (l1 : Int32) (l2 : Int32) : rn xs L 92 10 [vR 0, vI l1, vI l2] [] (mw f a g) = (ev xs L 56 3 [vI l2, vI (0 : Int32), vI (1 : Int32)] (mw f a g)).bind (fun b => rn xs L 92 16 [vR 0, vI l1, vI l2] (b.1.toList ++ []) b.2) :=
  (r_ild (pg_of mt_92 dX5_hope_10 rfl) rfl).trans <|
  (r_con (pg_of mt_92 dX5_hope_11 rfl) (v2 := (0 : Int32)) (by decide)).trans <|
  (r_con (pg_of mt_92 dX5_hope_12 rfl) (v2 := (1 : Int32)) (by decide)).trans <|
  (r_call (t := tt_92) (t2 := tt_56) (pg_of mt_92 dX5_hope_13 rfl) mt_92 mt_56 rfl rfl rfl rfl rfl)
theorem b92_16 (l1 : Int32) (l2 : Int32) (s0 : Int32) : rn xs L 92 16 [vR 0, vI l1, vI l2] [vI s0] (mw f a g) = if s0 = 0 then rn xs L 92 19 [vR 0, vI l1, vI l2] [] (mw f a g) else rn xs L 92 23 [vR 0, vI l1, vI l2] [] (mw f a g) :=
  (r_ne0 (pg_of mt_92 dX5_hope_16 rfl))
theorem b92_19 (l1 : Int32) (l2 : Int32) : rn xs L 92 19 [vR 0, vI l1, vI l2] [] (mw f a g) = some (some (vL (-1 : Int64)), (mw f a g)) :=
  (r_lcn (pg_of mt_92 dX5_hope_19 rfl) (v2 := (-1 : Int64)) rfl).trans <|
  (r_rl (pg_of mt_92 dX5_hope_22 rfl) mt_92 rfl)
theorem b92_23 (l1 : Int32) (l2 : Int32) : rn xs L 92 23 [vR 0, vI l1, vI l2] [] (mw f a g) = (ev xs L 91 12 [vL ((l1).toInt64 * ((a 2 3)).toInt64), vL (100 : Int64), vI l2] (mw f a g)).bind (fun b => rn xs L 92 43 [vR 0, vI l1, vI l2] (b.1.toList ++ []) b.2) :=
  (r_ild (pg_of mt_92 dX5_hope_23 rfl) rfl).trans <|
  (r_i2l (pg_of mt_92 dX5_hope_24 rfl)).trans <|
  (r_ald (pg_of mt_92 dX5_hope_25 rfl) rfl).trans <|
  (r_gtr (a := 1) (pg_of mt_92 dX5_hope_26 rfl) rfl rfl).trans <|
  (r_gtr (a := 2) (pg_of mt_92 dX5_hope_29 rfl) rfl rfl).trans <|
  (r_con (pg_of mt_92 dX5_hope_32 rfl) (v2 := (3 : Int32)) (by decide)).trans <|
  (r_ialc (j := 3) (pg_of mt_92 dX5_hope_33 rfl) rfl (by decide) (by decide)).trans <|
  (r_i2l (pg_of mt_92 dX5_hope_34 rfl)).trans <|
  (r_lbn (pg_of mt_92 dX5_hope_35 rfl)).trans <|
  (r_lcn (pg_of mt_92 dX5_hope_36 rfl) (v2 := (100 : Int64)) rfl).trans <|
  (r_ild (pg_of mt_92 dX5_hope_39 rfl) rfl).trans <|
  (r_call (t := tt_92) (t2 := tt_91) (pg_of mt_92 dX5_hope_40 rfl) mt_92 mt_91 rfl rfl rfl rfl rfl)
theorem b92_43 (l1 : Int32) (l2 : Int32) (s0 : Int64) : rn xs L 92 43 [vR 0, vI l1, vI l2] [vL s0] (mw f a g) = some (some (vL s0), (mw f a g)) :=
  (r_rl (pg_of mt_92 dX5_hope_43 rfl) mt_92 rfl)
-- 93 LeafFalls.prove(II)I
theorem b93_0 (l1 : Int32) (l2 : Int32) (l3 : ma_V) (l4 : ma_V) : rn xs L 93 0 [vR 0, vI l1, vI l2, l3, l4] [] (mw f a g) = (ev xs L 34 2 [vR 1, vI l1] (mw f a g)).bind (fun b => rn xs L 93 8 [vR 0, vI l1, vI l2, l3, l4] (b.1.toList ++ []) b.2) :=
  (r_ald (pg_of mt_93 dX5_prove_0 rfl) rfl).trans <|
  (r_gtr (a := 1) (pg_of mt_93 dX5_prove_1 rfl) rfl rfl).trans <|
  (r_ild (pg_of mt_93 dX5_prove_4 rfl) rfl).trans <|
  (r_call (t := tt_93) (t2 := tt_34) (pg_of mt_93 dX5_prove_5 rfl) mt_93 mt_34 rfl rfl (rcv1 rfl) rfl rfl)
theorem b93_8 (l1 : Int32) (l2 : Int32) (l3 : ma_V) (l4 : ma_V) (s0 : Int32) : rn xs L 93 8 [vR 0, vI l1, vI l2, l3, l4] [vI s0] (mw f a g) = if s0 = 0 then rn xs L 93 21 [vR 0, vI l1, vI l2, l3, l4] [] (mw f a g) else rn xs L 93 11 [vR 0, vI l1, vI l2, l3, l4] [] (mw f a g) :=
  (r_eq0 (pg_of mt_93 dX5_prove_8 rfl))
theorem b93_11 (l1 : Int32) (l2 : Int32) (l3 : ma_V) (l4 : ma_V) : rn xs L 93 11 [vR 0, vI l1, vI l2, l3, l4] [] (mw f a g) = (ev xs L 56 3 [vI l2, vI (1 : Int32), vI (10 : Int32)] (mw f a g)).bind (fun b => rn xs L 93 18 [vR 0, vI l1, vI l2, l3, l4] (b.1.toList ++ []) b.2) :=
  (r_ild (pg_of mt_93 dX5_prove_11 rfl) rfl).trans <|
  (r_con (pg_of mt_93 dX5_prove_12 rfl) (v2 := (1 : Int32)) (by decide)).trans <|
  (r_con (pg_of mt_93 dX5_prove_13 rfl) (v2 := (10 : Int32)) (by decide)).trans <|
  (r_call (t := tt_93) (t2 := tt_56) (pg_of mt_93 dX5_prove_15 rfl) mt_93 mt_56 rfl rfl rfl rfl rfl)
theorem b93_18 (l1 : Int32) (l2 : Int32) (l3 : ma_V) (l4 : ma_V) (s0 : Int32) : rn xs L 93 18 [vR 0, vI l1, vI l2, l3, l4] [vI s0] (mw f a g) = if s0 = 0 then rn xs L 93 21 [vR 0, vI l1, vI l2, l3, l4] [] (mw f a g) else rn xs L 93 23 [vR 0, vI l1, vI l2, l3, l4] [] (mw f a g) :=
  (r_ne0 (pg_of mt_93 dX5_prove_18 rfl))
theorem b93_21 (l1 : Int32) (l2 : Int32) (l3 : ma_V) (l4 : ma_V) : rn xs L 93 21 [vR 0, vI l1, vI l2, l3, l4] [] (mw f a g) = some (some (vI (-1 : Int32)), (mw f a g)) :=
  (r_con (pg_of mt_93 dX5_prove_21 rfl) (v2 := (-1 : Int32)) (by decide)).trans <|
  (r_ri (pg_of mt_93 dX5_prove_22 rfl) mt_93 rfl)
theorem b93_23 (l1 : Int32) (l2 : Int32) (l3 : ma_V) (l4 : ma_V) : rn xs L 93 23 [vR 0, vI l1, vI l2, l3, l4] [] (mw f a g) = (ev xs L 33 2 [vR 9, vR 1] (mw f a g)).bind (fun b => rn xs L 93 34 [vR 0, vI l1, vI l2, l3, l4] (b.1.toList ++ []) b.2) :=
  (r_ald (pg_of mt_93 dX5_prove_23 rfl) rfl).trans <|
  (r_gtr (a := 9) (pg_of mt_93 dX5_prove_24 rfl) rfl rfl).trans <|
  (r_ald (pg_of mt_93 dX5_prove_27 rfl) rfl).trans <|
  (r_gtr (a := 1) (pg_of mt_93 dX5_prove_28 rfl) rfl rfl).trans <|
  (r_call (t := tt_93) (t2 := tt_33) (pg_of mt_93 dX5_prove_31 rfl) mt_93 mt_33 rfl rfl (rcv1 rfl) rfl rfl)
theorem b93_34 (l1 : Int32) (l2 : Int32) (l3 : ma_V) (l4 : ma_V) : rn xs L 93 34 [vR 0, vI l1, vI l2, l3, l4] [] (mw f a g) = rn xs L 93 36 [vR 0, vI l1, vI l2, vI (0 : Int32), l4] [] (mw f a g) :=
  (r_con (pg_of mt_93 dX5_prove_34 rfl) (v2 := (0 : Int32)) (by decide)).trans <|
  (r_ist (pg_of mt_93 dX5_prove_35 rfl) (Nat.le_of_ble_eq_true rfl) rfl)
theorem b93_36 (l1 : Int32) (l2 : Int32) (l3 : Int32) (l4 : ma_V) : rn xs L 93 36 [vR 0, vI l1, vI l2, vI l3, l4] [] (mw f a g) = if l3 < l2 then rn xs L 93 41 [vR 0, vI l1, vI l2, vI l3, l4] [] (mw f a g) else rn xs L 93 88 [vR 0, vI l1, vI l2, vI l3, l4] [] (mw f a g) :=
  (r_ild (pg_of mt_93 dX5_prove_36 rfl) rfl).trans <|
  (r_ild (pg_of mt_93 dX5_prove_37 rfl) rfl).trans <|
  (r_ge (pg_of mt_93 dX5_prove_38 rfl))
theorem b93_41 (l1 : Int32) (l2 : Int32) (l3 : Int32) (l4 : ma_V) : rn xs L 93 41 [vR 0, vI l1, vI l2, vI l3, l4] [] (mw f a g) = (ev xs L 42 2 [vR 9] (mw f a g)).bind (fun b => rn xs L 93 48 [vR 0, vI l1, vI l2, vI l3, l4] (b.1.toList ++ []) b.2) :=
  (r_ald (pg_of mt_93 dX5_prove_41 rfl) rfl).trans <|
  (r_gtr (a := 9) (pg_of mt_93 dX5_prove_42 rfl) rfl rfl).trans <|
  (r_call (t := tt_93) (t2 := tt_42) (pg_of mt_93 dX5_prove_45 rfl) mt_93 mt_42 rfl rfl (rcv1 rfl) rfl rfl)
theorem b93_48 (l1 : Int32) (l2 : Int32) (l3 : Int32) (l4 : ma_V) (s0 : Int32) : rn xs L 93 48 [vR 0, vI l1, vI l2, vI l3, l4] [vI s0] (mw f a g) = rn xs L 93 52 [vR 0, vI l1, vI l2, vI l3, vI (0 : Int32)] [] (mw f a g) :=
  (r_pop (pg_of mt_93 dX5_prove_48 rfl) rfl).trans <|
  (r_con (pg_of mt_93 dX5_prove_49 rfl) (v2 := (0 : Int32)) (by decide)).trans <|
  (r_ist (pg_of mt_93 dX5_prove_50 rfl) (Nat.le_of_ble_eq_true rfl) rfl)
theorem b93_52 (l1 : Int32) (l2 : Int32) (l3 : Int32) (l4 : Int32) : rn xs L 93 52 [vR 0, vI l1, vI l2, vI l3, vI l4] [] (mw f a g) = if l4 < (3 : Int32) then rn xs L 93 58 [vR 0, vI l1, vI l2, vI l3, vI l4] [] (mw f a g) else rn xs L 93 82 [vR 0, vI l1, vI l2, vI l3, vI l4] [] (mw f a g) :=
  (r_ild (pg_of mt_93 dX5_prove_52 rfl) rfl).trans <|
  (r_con (pg_of mt_93 dX5_prove_54 rfl) (v2 := (3 : Int32)) (by decide)).trans <|
  (r_ge (pg_of mt_93 dX5_prove_55 rfl))
theorem b93_58 (l1 : Int32) (l2 : Int32) (l3 : Int32) (l4 : Int32) : rn xs L 93 58 [vR 0, vI l1, vI l2, vI l3, vI l4] [] (mw f a g) = (ev xs L 94 3 [vR 0, vI l1, vI l4] (mw f a g)).bind (fun b => rn xs L 93 75 [vR 0, vI l1, vI l2, vI l3, vI l4] (b.1.toList ++ [vI ((l3 * (3 : Int32)) + l4), vR 27]) b.2) :=
  (r_ald (pg_of mt_93 dX5_prove_58 rfl) rfl).trans <|
  (r_gtr (a := 27) (pg_of mt_93 dX5_prove_59 rfl) rfl rfl).trans <|
  (r_ild (pg_of mt_93 dX5_prove_62 rfl) rfl).trans <|
  (r_con (pg_of mt_93 dX5_prove_63 rfl) (v2 := (3 : Int32)) (by decide)).trans <|
  (r_bin (pg_of mt_93 dX5_prove_64 rfl)).trans <|
  (r_ild (pg_of mt_93 dX5_prove_65 rfl) rfl).trans <|
  (r_bin (pg_of mt_93 dX5_prove_67 rfl)).trans <|
  (r_ald (pg_of mt_93 dX5_prove_68 rfl) rfl).trans <|
  (r_ild (pg_of mt_93 dX5_prove_69 rfl) rfl).trans <|
  (r_ild (pg_of mt_93 dX5_prove_70 rfl) rfl).trans <|
  (r_call (t := tt_93) (t2 := tt_94) (pg_of mt_93 dX5_prove_72 rfl) mt_93 mt_94 rfl rfl (rcv1 rfl) rfl rfl)
theorem b93_75 (l1 : Int32) (l2 : Int32) (l3 : Int32) (l4 : Int32) (s0 : Int32) (s1 : Int32) (h1 : ma_in s1 30 = true) : rn xs L 93 75 [vR 0, vI l1, vI l2, vI l3, vI l4] [vI s0, vI s1, vR 27] (mw f a g) = rn xs L 93 52 [vR 0, vI l1, vI l2, vI l3, vI (l4 + (1 : Int32))] [] (mw f ((ma_u2 a 27 s1.toNatClampNeg s0)) g) :=
  (r_iast (pg_of mt_93 dX5_prove_75 rfl) rfl h1).trans <|
  (r_inc (pg_of mt_93 dX5_prove_76 rfl) (y := (1 : Int32)) (by decide) rfl rfl).trans <|
  (r_gto (pg_of mt_93 dX5_prove_79 rfl))
theorem b93_82 (l1 : Int32) (l2 : Int32) (l3 : Int32) (l4 : Int32) : rn xs L 93 82 [vR 0, vI l1, vI l2, vI l3, vI l4] [] (mw f a g) = rn xs L 93 36 [vR 0, vI l1, vI l2, vI (l3 + (1 : Int32)), vI l4] [] (mw f a g) :=
  (r_inc (pg_of mt_93 dX5_prove_82 rfl) (y := (1 : Int32)) (by decide) rfl rfl).trans <|
  (r_gto (pg_of mt_93 dX5_prove_85 rfl))
theorem b93_88 (l1 : Int32) (l2 : Int32) (l3 : Int32) (l4 : ma_V) : rn xs L 93 88 [vR 0, vI l1, vI l2, vI l3, l4] [] (mw f a g) = some (some (vI l2), (mw ((ma_u2 f 0 6 l2)) a g)) :=
  (r_ald (pg_of mt_93 dX5_prove_88 rfl) rfl).trans <|
  (r_ild (pg_of mt_93 dX5_prove_89 rfl) rfl).trans <|
  (r_pti (pg_of mt_93 dX5_prove_90 rfl) rfl rfl).trans <|
  (r_ild (pg_of mt_93 dX5_prove_93 rfl) rfl).trans <|
  (r_ri (pg_of mt_93 dX5_prove_94 rfl) mt_93 rfl)
-- 94 LeafFalls.rowPartTried(II)I
theorem sw94_1 {ls st : List ma_V} {w : ma_W} {x : Int32} : rn xs L 94 1 ls (vI x :: st) w = if x = 0 then rn xs L 94 28 ls st w else if x = 1 then rn xs L 94 38 ls st w else rn xs L 94 55 ls st w := by
  by_cases h0 : x = 0
  · rw [if_pos h0, h0]; exact r_swi (t := 28) (pg_of mt_94 dX5_rowPartTried_1 rfl) (by decide)
  rw [if_neg h0]
  by_cases h1 : x = 1
  · rw [if_pos h1, h1]; exact r_swi (t := 38) (pg_of mt_94 dX5_rowPartTried_1 rfl) (by decide)
  rw [if_neg h1]
  have e0 := i_nei (k := 0) (0 : Int32) (by decide) h0
  have e1 := i_nei (k := 1) (1 : Int32) (by decide) h1
  exact r_swi (t := 55) (pg_of mt_94 dX5_rowPartTried_1 rfl) (lsw_out2 (by decide) (by decide) e0 e1)
theorem b94_0 (l1 : Int32) (l2 : Int32) : rn xs L 94 0 [vR 0, vI l1, vI l2] [] (mw f a g) = if l2 = 0 then rn xs L 94 28 [vR 0, vI l1, vI l2] [] (mw f a g) else if l2 = 1 then rn xs L 94 38 [vR 0, vI l1, vI l2] [] (mw f a g) else rn xs L 94 55 [vR 0, vI l1, vI l2] [] (mw f a g) :=
  (r_ild (pg_of mt_94 dX5_rowPartTried_0 rfl) rfl).trans <|
  (sw94_1)
theorem b94_28 (l1 : Int32) (l2 : Int32) (h1 : ma_in l1 8 = true) : rn xs L 94 28 [vR 0, vI l1, vI l2] [] (mw f a g) = some (some (vI (a 14 l1.toNatClampNeg)), (mw f a g)) :=
  (r_ald (pg_of mt_94 dX5_rowPartTried_28 rfl) rfl).trans <|
  (r_gtr (a := 9) (pg_of mt_94 dX5_rowPartTried_29 rfl) rfl rfl).trans <|
  (r_gtr (a := 14) (pg_of mt_94 dX5_rowPartTried_32 rfl) rfl rfl).trans <|
  (r_ild (pg_of mt_94 dX5_rowPartTried_35 rfl) rfl).trans <|
  (r_iald (pg_of mt_94 dX5_rowPartTried_36 rfl) rfl h1).trans <|
  (r_ri (pg_of mt_94 dX5_rowPartTried_37 rfl) mt_94 rfl)
theorem b94_38 (l1 : Int32) (l2 : Int32) : rn xs L 94 38 [vR 0, vI l1, vI l2] [] (mw f a g) = (ev xs L 35 2 [vR 9, vI l1] (mw f a g)).bind (fun b => rn xs L 94 46 [vR 0, vI l1, vI l2] (b.1.toList ++ []) b.2) :=
  (r_ald (pg_of mt_94 dX5_rowPartTried_38 rfl) rfl).trans <|
  (r_gtr (a := 9) (pg_of mt_94 dX5_rowPartTried_39 rfl) rfl rfl).trans <|
  (r_ild (pg_of mt_94 dX5_rowPartTried_42 rfl) rfl).trans <|
  (r_call (t := tt_94) (t2 := tt_35) (pg_of mt_94 dX5_rowPartTried_43 rfl) mt_94 mt_35 rfl rfl (rcv1 rfl) rfl rfl)
theorem b94_46 (l1 : Int32) (l2 : Int32) (s0 : Int32) : rn xs L 94 46 [vR 0, vI l1, vI l2] [vI s0] (mw f a g) = if s0 = 0 then rn xs L 94 53 [vR 0, vI l1, vI l2] [] (mw f a g) else rn xs L 94 49 [vR 0, vI l1, vI l2] [] (mw f a g) :=
  (r_eq0 (pg_of mt_94 dX5_rowPartTried_46 rfl))
theorem b94_49 (l1 : Int32) (l2 : Int32) : rn xs L 94 49 [vR 0, vI l1, vI l2] [] (mw f a g) = some (some (vI (1 : Int32)), (mw f a g)) :=
  (r_con (pg_of mt_94 dX5_rowPartTried_49 rfl) (v2 := (1 : Int32)) (by decide)).trans <|
  (r_gto (pg_of mt_94 dX5_rowPartTried_50 rfl)).trans <|
  (r_ri (pg_of mt_94 dX5_rowPartTried_54 rfl) mt_94 rfl)
theorem b94_53 (l1 : Int32) (l2 : Int32) : rn xs L 94 53 [vR 0, vI l1, vI l2] [] (mw f a g) = some (some (vI (0 : Int32)), (mw f a g)) :=
  (r_con (pg_of mt_94 dX5_rowPartTried_53 rfl) (v2 := (0 : Int32)) (by decide)).trans <|
  (r_ri (pg_of mt_94 dX5_rowPartTried_54 rfl) mt_94 rfl)
theorem b94_55 (l1 : Int32) (l2 : Int32) : rn xs L 94 55 [vR 0, vI l1, vI l2] [] (mw f a g) = some (some (vI (f 9 8)), (mw f a g)) :=
  (r_ald (pg_of mt_94 dX5_rowPartTried_55 rfl) rfl).trans <|
  (r_gtr (a := 9) (pg_of mt_94 dX5_rowPartTried_56 rfl) rfl rfl).trans <|
  (r_gti (pg_of mt_94 dX5_rowPartTried_59 rfl) rfl).trans <|
  (r_ri (pg_of mt_94 dX5_rowPartTried_62 rfl) mt_94 rfl)
-- 95 LeafFalls.row(II)I
theorem b95_0 (l1 : Int32) (l2 : Int32) : rn xs L 95 0 [vR 0, vI l1, vI l2] [] (mw f a g) = (ev xs L 96 3 [vR 0, vI l1, vI l2] (mw f a g)).bind (fun b => rn xs L 95 6 [vR 0, vI l1, vI l2] (b.1.toList ++ []) b.2) :=
  (r_ald (pg_of mt_95 dX5_row_0 rfl) rfl).trans <|
  (r_ild (pg_of mt_95 dX5_row_1 rfl) rfl).trans <|
  (r_ild (pg_of mt_95 dX5_row_2 rfl) rfl).trans <|
  (r_call (t := tt_95) (t2 := tt_96) (pg_of mt_95 dX5_row_3 rfl) mt_95 mt_96 rfl rfl (rcv1 rfl) rfl rfl)
theorem b95_6 (l1 : Int32) (l2 : Int32) (s0 : Int32) : rn xs L 95 6 [vR 0, vI l1, vI l2] [vI s0] (mw f a g) = if s0 = 0 then rn xs L 95 22 [vR 0, vI l1, vI l2] [] (mw f a g) else rn xs L 95 9 [vR 0, vI l1, vI l2] [] (mw f a g) :=
  (r_eq0 (pg_of mt_95 dX5_row_6 rfl))
theorem b95_9 (l1 : Int32) (l2 : Int32) (h1 : ma_in (((l1 * (3 : Int32)) + l2)) 30 = true) : rn xs L 95 9 [vR 0, vI l1, vI l2] [] (mw f a g) = some (some (vI (a 27 (((l1 * (3 : Int32)) + l2)).toNatClampNeg)), (mw f a g)) :=
  (r_ald (pg_of mt_95 dX5_row_9 rfl) rfl).trans <|
  (r_gtr (a := 27) (pg_of mt_95 dX5_row_10 rfl) rfl rfl).trans <|
  (r_ild (pg_of mt_95 dX5_row_13 rfl) rfl).trans <|
  (r_con (pg_of mt_95 dX5_row_14 rfl) (v2 := (3 : Int32)) (by decide)).trans <|
  (r_bin (pg_of mt_95 dX5_row_15 rfl)).trans <|
  (r_ild (pg_of mt_95 dX5_row_16 rfl) rfl).trans <|
  (r_bin (pg_of mt_95 dX5_row_17 rfl)).trans <|
  (r_iald (pg_of mt_95 dX5_row_18 rfl) rfl h1).trans <|
  (r_gto (pg_of mt_95 dX5_row_19 rfl)).trans <|
  (r_ri (pg_of mt_95 dX5_row_24 rfl) mt_95 rfl)
theorem b95_22 (l1 : Int32) (l2 : Int32) : rn xs L 95 22 [vR 0, vI l1, vI l2] [] (mw f a g) = some (some (vI (-9 : Int32)), (mw f a g)) :=
  (r_con (pg_of mt_95 dX5_row_22 rfl) (v2 := (-9 : Int32)) (by decide)).trans <|
  (r_ri (pg_of mt_95 dX5_row_24 rfl) mt_95 rfl)
-- 96 LeafFalls.isRowPart(II)Z
theorem b96_0 (l1 : Int32) (l2 : Int32) : rn xs L 96 0 [vR 0, vI l1, vI l2] [] (mw f a g) = (ev xs L 56 3 [vI l1, vI (0 : Int32), vI ((f 0 6) - (1 : Int32))] (mw f a g)).bind (fun b => rn xs L 96 11 [vR 0, vI l1, vI l2] (b.1.toList ++ []) b.2) :=
  (r_ild (pg_of mt_96 dX5_isRowPart_0 rfl) rfl).trans <|
  (r_con (pg_of mt_96 dX5_isRowPart_1 rfl) (v2 := (0 : Int32)) (by decide)).trans <|
  (r_ald (pg_of mt_96 dX5_isRowPart_2 rfl) rfl).trans <|
  (r_gti (pg_of mt_96 dX5_isRowPart_3 rfl) rfl).trans <|
  (r_con (pg_of mt_96 dX5_isRowPart_6 rfl) (v2 := (1 : Int32)) (by decide)).trans <|
  (r_bin (pg_of mt_96 dX5_isRowPart_7 rfl)).trans <|
  (r_call (t := tt_96) (t2 := tt_56) (pg_of mt_96 dX5_isRowPart_8 rfl) mt_96 mt_56 rfl rfl rfl rfl rfl)
theorem b96_11 (l1 : Int32) (l2 : Int32) (s0 : Int32) : rn xs L 96 11 [vR 0, vI l1, vI l2] [vI s0] (mw f a g) = if s0 = 0 then rn xs L 96 27 [vR 0, vI l1, vI l2] [] (mw f a g) else rn xs L 96 14 [vR 0, vI l1, vI l2] [] (mw f a g) :=
  (r_eq0 (pg_of mt_96 dX5_isRowPart_11 rfl))
theorem b96_14 (l1 : Int32) (l2 : Int32) : rn xs L 96 14 [vR 0, vI l1, vI l2] [] (mw f a g) = (ev xs L 56 3 [vI l2, vI (0 : Int32), vI (2 : Int32)] (mw f a g)).bind (fun b => rn xs L 96 20 [vR 0, vI l1, vI l2] (b.1.toList ++ []) b.2) :=
  (r_ild (pg_of mt_96 dX5_isRowPart_14 rfl) rfl).trans <|
  (r_con (pg_of mt_96 dX5_isRowPart_15 rfl) (v2 := (0 : Int32)) (by decide)).trans <|
  (r_con (pg_of mt_96 dX5_isRowPart_16 rfl) (v2 := (2 : Int32)) (by decide)).trans <|
  (r_call (t := tt_96) (t2 := tt_56) (pg_of mt_96 dX5_isRowPart_17 rfl) mt_96 mt_56 rfl rfl rfl rfl rfl)
theorem b96_20 (l1 : Int32) (l2 : Int32) (s0 : Int32) : rn xs L 96 20 [vR 0, vI l1, vI l2] [vI s0] (mw f a g) = if s0 = 0 then rn xs L 96 27 [vR 0, vI l1, vI l2] [] (mw f a g) else rn xs L 96 23 [vR 0, vI l1, vI l2] [] (mw f a g) :=
  (r_eq0 (pg_of mt_96 dX5_isRowPart_20 rfl))
theorem b96_23 (l1 : Int32) (l2 : Int32) : rn xs L 96 23 [vR 0, vI l1, vI l2] [] (mw f a g) = some (some (vI (1 : Int32)), (mw f a g)) :=
  (r_con (pg_of mt_96 dX5_isRowPart_23 rfl) (v2 := (1 : Int32)) (by decide)).trans <|
  (r_gto (pg_of mt_96 dX5_isRowPart_24 rfl)).trans <|
  (r_rz (pg_of mt_96 dX5_isRowPart_28 rfl) mt_96 rfl (Or.inr rfl))
theorem b96_27 (l1 : Int32) (l2 : Int32) : rn xs L 96 27 [vR 0, vI l1, vI l2] [] (mw f a g) = some (some (vI (0 : Int32)), (mw f a g)) :=
  (r_con (pg_of mt_96 dX5_isRowPart_27 rfl) (v2 := (0 : Int32)) (by decide)).trans <|
  (r_rz (pg_of mt_96 dX5_isRowPart_28 rfl) mt_96 rfl (Or.inl rfl))
-- 97 LeafFalls.alterRow(III)I
theorem b97_0 (l1 : Int32) (l2 : Int32) (l3 : Int32) (l4 : ma_V) : rn xs L 97 0 [vR 0, vI l1, vI l2, vI l3, l4] [] (mw f a g) = (ev xs L 96 3 [vR 0, vI l1, vI l2] (mw f a g)).bind (fun b => rn xs L 97 6 [vR 0, vI l1, vI l2, vI l3, l4] (b.1.toList ++ []) b.2) :=
  (r_ald (pg_of mt_97 dX5_alterRow_0 rfl) rfl).trans <|
  (r_ild (pg_of mt_97 dX5_alterRow_1 rfl) rfl).trans <|
  (r_ild (pg_of mt_97 dX5_alterRow_2 rfl) rfl).trans <|
  (r_call (t := tt_97) (t2 := tt_96) (pg_of mt_97 dX5_alterRow_3 rfl) mt_97 mt_96 rfl rfl (rcv1 rfl) rfl rfl)
theorem b97_6 (l1 : Int32) (l2 : Int32) (l3 : Int32) (l4 : ma_V) (s0 : Int32) : rn xs L 97 6 [vR 0, vI l1, vI l2, vI l3, l4] [vI s0] (mw f a g) = if s0 = 0 then rn xs L 97 9 [vR 0, vI l1, vI l2, vI l3, l4] [] (mw f a g) else rn xs L 97 12 [vR 0, vI l1, vI l2, vI l3, l4] [] (mw f a g) :=
  (r_ne0 (pg_of mt_97 dX5_alterRow_6 rfl))
theorem b97_9 (l1 : Int32) (l2 : Int32) (l3 : Int32) (l4 : ma_V) : rn xs L 97 9 [vR 0, vI l1, vI l2, vI l3, l4] [] (mw f a g) = some (some (vI (-9 : Int32)), (mw f a g)) :=
  (r_con (pg_of mt_97 dX5_alterRow_9 rfl) (v2 := (-9 : Int32)) (by decide)).trans <|
  (r_ri (pg_of mt_97 dX5_alterRow_11 rfl) mt_97 rfl)
theorem b97_12 (l1 : Int32) (l2 : Int32) (l3 : Int32) (l4 : ma_V) (h1 : ma_in (((l1 * (3 : Int32)) + l2)) 30 = true) (h2 : ma_in (((l1 * (3 : Int32)) + l2)) 30 = true) : rn xs L 97 12 [vR 0, vI l1, vI l2, vI l3, l4] [] (mw f a g) = some (some (vI (a 27 (((l1 * (3 : Int32)) + l2)).toNatClampNeg)), (mw f ((ma_u2 a 27 (((l1 * (3 : Int32)) + l2)).toNatClampNeg l3)) g)) :=
  (r_ald (pg_of mt_97 dX5_alterRow_12 rfl) rfl).trans <|
  (r_gtr (a := 27) (pg_of mt_97 dX5_alterRow_13 rfl) rfl rfl).trans <|
  (r_ild (pg_of mt_97 dX5_alterRow_16 rfl) rfl).trans <|
  (r_con (pg_of mt_97 dX5_alterRow_17 rfl) (v2 := (3 : Int32)) (by decide)).trans <|
  (r_bin (pg_of mt_97 dX5_alterRow_18 rfl)).trans <|
  (r_ild (pg_of mt_97 dX5_alterRow_19 rfl) rfl).trans <|
  (r_bin (pg_of mt_97 dX5_alterRow_20 rfl)).trans <|
  (r_iald (pg_of mt_97 dX5_alterRow_21 rfl) rfl h1).trans <|
  (r_ist (pg_of mt_97 dX5_alterRow_22 rfl) (Nat.le_of_ble_eq_true rfl) rfl).trans <|
  (r_ald (pg_of mt_97 dX5_alterRow_24 rfl) rfl).trans <|
  (r_gtr (a := 27) (pg_of mt_97 dX5_alterRow_25 rfl) rfl rfl).trans <|
  (r_ild (pg_of mt_97 dX5_alterRow_28 rfl) rfl).trans <|
  (r_con (pg_of mt_97 dX5_alterRow_29 rfl) (v2 := (3 : Int32)) (by decide)).trans <|
  (r_bin (pg_of mt_97 dX5_alterRow_30 rfl)).trans <|
  (r_ild (pg_of mt_97 dX5_alterRow_31 rfl) rfl).trans <|
  (r_bin (pg_of mt_97 dX5_alterRow_32 rfl)).trans <|
  (r_ild (pg_of mt_97 dX5_alterRow_33 rfl) rfl).trans <|
  (r_iast (pg_of mt_97 dX5_alterRow_34 rfl) rfl h2).trans <|
  (r_ild (pg_of mt_97 dX5_alterRow_35 rfl) rfl).trans <|
  (r_ri (pg_of mt_97 dX5_alterRow_37 rfl) mt_97 rfl)
-- 98 LeafFalls.judge(I)I
theorem b98_0 (l1 : Int32) (l2 : ma_V) (l3 : ma_V) : rn xs L 98 0 [vR 0, vI l1, l2, l3] [] (mw f a g) = (ev xs L 34 2 [vR 1, vI l1] (mw f a g)).bind (fun b => rn xs L 98 8 [vR 0, vI l1, l2, l3] (b.1.toList ++ []) b.2) :=
  (r_ald (pg_of mt_98 dX5_judge_0 rfl) rfl).trans <|
  (r_gtr (a := 1) (pg_of mt_98 dX5_judge_1 rfl) rfl rfl).trans <|
  (r_ild (pg_of mt_98 dX5_judge_4 rfl) rfl).trans <|
  (r_call (t := tt_98) (t2 := tt_34) (pg_of mt_98 dX5_judge_5 rfl) mt_98 mt_34 rfl rfl (rcv1 rfl) rfl rfl)
theorem b98_8 (l1 : Int32) (l2 : ma_V) (l3 : ma_V) (s0 : Int32) : rn xs L 98 8 [vR 0, vI l1, l2, l3] [vI s0] (mw f a g) = if s0 = 0 then rn xs L 98 11 [vR 0, vI l1, l2, l3] [] (mw f a g) else rn xs L 98 13 [vR 0, vI l1, l2, l3] [] (mw f a g) :=
  (r_ne0 (pg_of mt_98 dX5_judge_8 rfl))
theorem b98_11 (l1 : Int32) (l2 : ma_V) (l3 : ma_V) : rn xs L 98 11 [vR 0, vI l1, l2, l3] [] (mw f a g) = some (some (vI (-1 : Int32)), (mw f a g)) :=
  (r_con (pg_of mt_98 dX5_judge_11 rfl) (v2 := (-1 : Int32)) (by decide)).trans <|
  (r_ri (pg_of mt_98 dX5_judge_12 rfl) mt_98 rfl)
theorem b98_13 (l1 : Int32) (l2 : ma_V) (l3 : ma_V) : rn xs L 98 13 [vR 0, vI l1, l2, l3] [] (mw f a g) = (ev xs L 33 2 [vR 9, vR 1] (mw f a g)).bind (fun b => rn xs L 98 24 [vR 0, vI l1, l2, l3] (b.1.toList ++ []) b.2) :=
  (r_ald (pg_of mt_98 dX5_judge_13 rfl) rfl).trans <|
  (r_gtr (a := 9) (pg_of mt_98 dX5_judge_14 rfl) rfl rfl).trans <|
  (r_ald (pg_of mt_98 dX5_judge_17 rfl) rfl).trans <|
  (r_gtr (a := 1) (pg_of mt_98 dX5_judge_18 rfl) rfl rfl).trans <|
  (r_call (t := tt_98) (t2 := tt_33) (pg_of mt_98 dX5_judge_21 rfl) mt_98 mt_33 rfl rfl (rcv1 rfl) rfl rfl)
theorem b98_24 (l1 : Int32) (l2 : ma_V) (l3 : ma_V) : rn xs L 98 24 [vR 0, vI l1, l2, l3] [] (mw f a g) = rn xs L 98 26 [vR 0, vI l1, vI (0 : Int32), l3] [] (mw f a g) :=
  (r_con (pg_of mt_98 dX5_judge_24 rfl) (v2 := (0 : Int32)) (by decide)).trans <|
  (r_ist (pg_of mt_98 dX5_judge_25 rfl) (Nat.le_of_ble_eq_true rfl) rfl)
theorem b98_26 (l1 : Int32) (l2 : Int32) (l3 : ma_V) : rn xs L 98 26 [vR 0, vI l1, vI l2, l3] [] (mw f a g) = if l2 < (f 0 6) then rn xs L 98 34 [vR 0, vI l1, vI l2, l3] [] (mw f a g) else rn xs L 98 84 [vR 0, vI l1, vI l2, l3] [] (mw f a g) :=
  (r_ild (pg_of mt_98 dX5_judge_26 rfl) rfl).trans <|
  (r_ald (pg_of mt_98 dX5_judge_27 rfl) rfl).trans <|
  (r_gti (pg_of mt_98 dX5_judge_28 rfl) rfl).trans <|
  (r_ge (pg_of mt_98 dX5_judge_31 rfl))
theorem b98_34 (l1 : Int32) (l2 : Int32) (l3 : ma_V) : rn xs L 98 34 [vR 0, vI l1, vI l2, l3] [] (mw f a g) = (ev xs L 42 2 [vR 9] (mw f a g)).bind (fun b => rn xs L 98 41 [vR 0, vI l1, vI l2, l3] (b.1.toList ++ []) b.2) :=
  (r_ald (pg_of mt_98 dX5_judge_34 rfl) rfl).trans <|
  (r_gtr (a := 9) (pg_of mt_98 dX5_judge_35 rfl) rfl rfl).trans <|
  (r_call (t := tt_98) (t2 := tt_42) (pg_of mt_98 dX5_judge_38 rfl) mt_98 mt_42 rfl rfl (rcv1 rfl) rfl rfl)
theorem b98_41 (l1 : Int32) (l2 : Int32) (l3 : ma_V) (s0 : Int32) : rn xs L 98 41 [vR 0, vI l1, vI l2, l3] [vI s0] (mw f a g) = rn xs L 98 44 [vR 0, vI l1, vI l2, vI (0 : Int32)] [] (mw f a g) :=
  (r_pop (pg_of mt_98 dX5_judge_41 rfl) rfl).trans <|
  (r_con (pg_of mt_98 dX5_judge_42 rfl) (v2 := (0 : Int32)) (by decide)).trans <|
  (r_ist (pg_of mt_98 dX5_judge_43 rfl) (Nat.le_of_ble_eq_true rfl) rfl)
theorem b98_44 (l1 : Int32) (l2 : Int32) (l3 : Int32) : rn xs L 98 44 [vR 0, vI l1, vI l2, vI l3] [] (mw f a g) = if l3 < (3 : Int32) then rn xs L 98 49 [vR 0, vI l1, vI l2, vI l3] [] (mw f a g) else rn xs L 98 78 [vR 0, vI l1, vI l2, vI l3] [] (mw f a g) :=
  (r_ild (pg_of mt_98 dX5_judge_44 rfl) rfl).trans <|
  (r_con (pg_of mt_98 dX5_judge_45 rfl) (v2 := (3 : Int32)) (by decide)).trans <|
  (r_ge (pg_of mt_98 dX5_judge_46 rfl))
theorem b98_49 (l1 : Int32) (l2 : Int32) (l3 : Int32) (h1 : ma_in (((l2 * (3 : Int32)) + l3)) 30 = true) : rn xs L 98 49 [vR 0, vI l1, vI l2, vI l3] [] (mw f a g) = (ev xs L 94 3 [vR 0, vI l1, vI l3] (mw f a g)).bind (fun b => rn xs L 98 65 [vR 0, vI l1, vI l2, vI l3] (b.1.toList ++ [vI (a 27 (((l2 * (3 : Int32)) + l3)).toNatClampNeg)]) b.2) :=
  (r_ald (pg_of mt_98 dX5_judge_49 rfl) rfl).trans <|
  (r_gtr (a := 27) (pg_of mt_98 dX5_judge_50 rfl) rfl rfl).trans <|
  (r_ild (pg_of mt_98 dX5_judge_53 rfl) rfl).trans <|
  (r_con (pg_of mt_98 dX5_judge_54 rfl) (v2 := (3 : Int32)) (by decide)).trans <|
  (r_bin (pg_of mt_98 dX5_judge_55 rfl)).trans <|
  (r_ild (pg_of mt_98 dX5_judge_56 rfl) rfl).trans <|
  (r_bin (pg_of mt_98 dX5_judge_57 rfl)).trans <|
  (r_iald (pg_of mt_98 dX5_judge_58 rfl) rfl h1).trans <|
  (r_ald (pg_of mt_98 dX5_judge_59 rfl) rfl).trans <|
  (r_ild (pg_of mt_98 dX5_judge_60 rfl) rfl).trans <|
  (r_ild (pg_of mt_98 dX5_judge_61 rfl) rfl).trans <|
  (r_call (t := tt_98) (t2 := tt_94) (pg_of mt_98 dX5_judge_62 rfl) mt_98 mt_94 rfl rfl (rcv1 rfl) rfl rfl)
theorem b98_65 (l1 : Int32) (l2 : Int32) (l3 : Int32) (s0 : Int32) (s1 : Int32) : rn xs L 98 65 [vR 0, vI l1, vI l2, vI l3] [vI s0, vI s1] (mw f a g) = if s1 = s0 then rn xs L 98 72 [vR 0, vI l1, vI l2, vI l3] [] (mw f a g) else rn xs L 98 68 [vR 0, vI l1, vI l2, vI l3] [] (mw f a g) :=
  (r_eq (pg_of mt_98 dX5_judge_65 rfl))
theorem b98_68 (l1 : Int32) (l2 : Int32) (l3 : Int32) : rn xs L 98 68 [vR 0, vI l1, vI l2, vI l3] [] (mw f a g) = some (some (vI (l2 + (1 : Int32))), (mw f a g)) :=
  (r_ild (pg_of mt_98 dX5_judge_68 rfl) rfl).trans <|
  (r_con (pg_of mt_98 dX5_judge_69 rfl) (v2 := (1 : Int32)) (by decide)).trans <|
  (r_bin (pg_of mt_98 dX5_judge_70 rfl)).trans <|
  (r_ri (pg_of mt_98 dX5_judge_71 rfl) mt_98 rfl)
theorem b98_72 (l1 : Int32) (l2 : Int32) (l3 : Int32) : rn xs L 98 72 [vR 0, vI l1, vI l2, vI l3] [] (mw f a g) = rn xs L 98 44 [vR 0, vI l1, vI l2, vI (l3 + (1 : Int32))] [] (mw f a g) :=
  (r_inc (pg_of mt_98 dX5_judge_72 rfl) (y := (1 : Int32)) (by decide) rfl rfl).trans <|
  (r_gto (pg_of mt_98 dX5_judge_75 rfl))
theorem b98_78 (l1 : Int32) (l2 : Int32) (l3 : Int32) : rn xs L 98 78 [vR 0, vI l1, vI l2, vI l3] [] (mw f a g) = rn xs L 98 26 [vR 0, vI l1, vI (l2 + (1 : Int32)), vI l3] [] (mw f a g) :=
  (r_inc (pg_of mt_98 dX5_judge_78 rfl) (y := (1 : Int32)) (by decide) rfl rfl).trans <|
  (r_gto (pg_of mt_98 dX5_judge_81 rfl))
theorem b98_84 (l1 : Int32) (l2 : Int32) (l3 : ma_V) : rn xs L 98 84 [vR 0, vI l1, vI l2, l3] [] (mw f a g) = some (some (vI (0 : Int32)), (mw f a g)) :=
  (r_con (pg_of mt_98 dX5_judge_84 rfl) (v2 := (0 : Int32)) (by decide)).trans <|
  (r_ri (pg_of mt_98 dX5_judge_85 rfl) mt_98 rfl)
-- 99 LeafFalls.minds(IIII)I
theorem b99_0 (l1 : Int32) (l2 : Int32) (l3 : Int32) (l4 : Int32) (l5 : ma_V) (l6 : ma_V) : rn xs L 99 0 [vR 0, vI l1, vI l2, vI l3, vI l4, l5, l6] [] (mw f a g) = (ev xs L 56 3 [vI l1, vI (0 : Int32), vI (3 : Int32)] (mw f a g)).bind (fun b => rn xs L 99 6 [vR 0, vI l1, vI l2, vI l3, vI l4, l5, l6] (b.1.toList ++ []) b.2) :=
  (r_ild (pg_of mt_99 dX5_minds_0 rfl) rfl).trans <|
  (r_con (pg_of mt_99 dX5_minds_1 rfl) (v2 := (0 : Int32)) (by decide)).trans <|
  (r_con (pg_of mt_99 dX5_minds_2 rfl) (v2 := (3 : Int32)) (by decide)).trans <|
  (r_call (t := tt_99) (t2 := tt_56) (pg_of mt_99 dX5_minds_3 rfl) mt_99 mt_56 rfl rfl rfl rfl rfl)
theorem b99_6 (l1 : Int32) (l2 : Int32) (l3 : Int32) (l4 : Int32) (l5 : ma_V) (l6 : ma_V) (s0 : Int32) : rn xs L 99 6 [vR 0, vI l1, vI l2, vI l3, vI l4, l5, l6] [vI s0] (mw f a g) = if s0 = 0 then rn xs L 99 45 [vR 0, vI l1, vI l2, vI l3, vI l4, l5, l6] [] (mw f a g) else rn xs L 99 9 [vR 0, vI l1, vI l2, vI l3, vI l4, l5, l6] [] (mw f a g) :=
  (r_eq0 (pg_of mt_99 dX5_minds_6 rfl))
theorem b99_9 (l1 : Int32) (l2 : Int32) (l3 : Int32) (l4 : Int32) (l5 : ma_V) (l6 : ma_V) : rn xs L 99 9 [vR 0, vI l1, vI l2, vI l3, vI l4, l5, l6] [] (mw f a g) = (ev xs L 34 2 [vR 1, vI l3] (mw f a g)).bind (fun b => rn xs L 99 17 [vR 0, vI l1, vI l2, vI l3, vI l4, l5, l6] (b.1.toList ++ []) b.2) :=
  (r_ald (pg_of mt_99 dX5_minds_9 rfl) rfl).trans <|
  (r_gtr (a := 1) (pg_of mt_99 dX5_minds_10 rfl) rfl rfl).trans <|
  (r_ild (pg_of mt_99 dX5_minds_13 rfl) rfl).trans <|
  (r_call (t := tt_99) (t2 := tt_34) (pg_of mt_99 dX5_minds_14 rfl) mt_99 mt_34 rfl rfl (rcv1 rfl) rfl rfl)
theorem b99_17 (l1 : Int32) (l2 : Int32) (l3 : Int32) (l4 : Int32) (l5 : ma_V) (l6 : ma_V) (s0 : Int32) : rn xs L 99 17 [vR 0, vI l1, vI l2, vI l3, vI l4, l5, l6] [vI s0] (mw f a g) = if s0 = 0 then rn xs L 99 45 [vR 0, vI l1, vI l2, vI l3, vI l4, l5, l6] [] (mw f a g) else rn xs L 99 20 [vR 0, vI l1, vI l2, vI l3, vI l4, l5, l6] [] (mw f a g) :=
  (r_eq0 (pg_of mt_99 dX5_minds_17 rfl))
theorem b99_20 (l1 : Int32) (l2 : Int32) (l3 : Int32) (l4 : Int32) (l5 : ma_V) (l6 : ma_V) : rn xs L 99 20 [vR 0, vI l1, vI l2, vI l3, vI l4, l5, l6] [] (mw f a g) = (ev xs L 56 3 [vI l4, vI (0 : Int32), vI (8 : Int32)] (mw f a g)).bind (fun b => rn xs L 99 28 [vR 0, vI l1, vI l2, vI l3, vI l4, l5, l6] (b.1.toList ++ []) b.2) :=
  (r_ild (pg_of mt_99 dX5_minds_20 rfl) rfl).trans <|
  (r_con (pg_of mt_99 dX5_minds_22 rfl) (v2 := (0 : Int32)) (by decide)).trans <|
  (r_con (pg_of mt_99 dX5_minds_23 rfl) (v2 := (8 : Int32)) (by decide)).trans <|
  (r_call (t := tt_99) (t2 := tt_56) (pg_of mt_99 dX5_minds_25 rfl) mt_99 mt_56 rfl rfl rfl rfl rfl)
theorem b99_28 (l1 : Int32) (l2 : Int32) (l3 : Int32) (l4 : Int32) (l5 : ma_V) (l6 : ma_V) (s0 : Int32) : rn xs L 99 28 [vR 0, vI l1, vI l2, vI l3, vI l4, l5, l6] [vI s0] (mw f a g) = if s0 = 0 then rn xs L 99 45 [vR 0, vI l1, vI l2, vI l3, vI l4, l5, l6] [] (mw f a g) else rn xs L 99 31 [vR 0, vI l1, vI l2, vI l3, vI l4, l5, l6] [] (mw f a g) :=
  (r_eq0 (pg_of mt_99 dX5_minds_28 rfl))
theorem b99_31 (l1 : Int32) (l2 : Int32) (l3 : Int32) (l4 : Int32) (l5 : ma_V) (l6 : ma_V) : rn xs L 99 31 [vR 0, vI l1, vI l2, vI l3, vI l4, l5, l6] [] (mw f a g) = if (f 1 7) < (l3 + l4) then rn xs L 99 45 [vR 0, vI l1, vI l2, vI l3, vI l4, l5, l6] [] (mw f a g) else rn xs L 99 47 [vR 0, vI l1, vI l2, vI l3, vI l4, l5, l6] [] (mw f a g) :=
  (r_ild (pg_of mt_99 dX5_minds_31 rfl) rfl).trans <|
  (r_ild (pg_of mt_99 dX5_minds_32 rfl) rfl).trans <|
  (r_bin (pg_of mt_99 dX5_minds_34 rfl)).trans <|
  (r_ald (pg_of mt_99 dX5_minds_35 rfl) rfl).trans <|
  (r_gtr (a := 1) (pg_of mt_99 dX5_minds_36 rfl) rfl rfl).trans <|
  (r_gti (pg_of mt_99 dX5_minds_39 rfl) rfl).trans <|
  (r_le (pg_of mt_99 dX5_minds_42 rfl))
theorem b99_45 (l1 : Int32) (l2 : Int32) (l3 : Int32) (l4 : Int32) (l5 : ma_V) (l6 : ma_V) : rn xs L 99 45 [vR 0, vI l1, vI l2, vI l3, vI l4, l5, l6] [] (mw f a g) = some (some (vI (-1 : Int32)), (mw f a g)) :=
  (r_con (pg_of mt_99 dX5_minds_45 rfl) (v2 := (-1 : Int32)) (by decide)).trans <|
  (r_ri (pg_of mt_99 dX5_minds_46 rfl) mt_99 rfl)
theorem b99_47 (l1 : Int32) (l2 : Int32) (l3 : Int32) (l4 : Int32) (l5 : ma_V) (l6 : ma_V) (h1 : ma_in l1 4 = true) : rn xs L 99 47 [vR 0, vI l1, vI l2, vI l3, vI l4, l5, l6] [] (mw f a g) = (ev xs L 8 1 [vR (32 + 2 * l1.toNatClampNeg)] (mw f a g)).bind (fun b => rn xs L 99 60 [vR 0, vI l1, vI l2, vI l3, vI l4, vR (32 + 2 * l1.toNatClampNeg), l6] (b.1.toList ++ []) b.2) :=
  (r_ald (pg_of mt_99 dX5_minds_47 rfl) rfl).trans <|
  (r_gtr (a := 28) (pg_of mt_99 dX5_minds_48 rfl) rfl rfl).trans <|
  (r_ild (pg_of mt_99 dX5_minds_51 rfl) rfl).trans <|
  (r_aald (pg_of mt_99 dX5_minds_52 rfl) (Or.inl rfl) rfl h1 (mw_a28 h1)).trans <|
  (r_ast (pg_of mt_99 dX5_minds_53 rfl) (Nat.le_of_ble_eq_true rfl) rfl).trans <|
  (r_ald (pg_of mt_99 dX5_minds_55 rfl) rfl).trans <|
  (r_call (t := tt_99) (t2 := tt_8) (pg_of mt_99 dX5_minds_57 rfl) mt_99 mt_8 rfl rfl (rcv1 (mw_sh (sh_of h1))) rfl rfl)
theorem b99_60 (l1 : Int32) (l2 : Int32) (l3 : Int32) (l4 : Int32) (l5 : Nat) (l6 : ma_V) (s0 : Int32) (hl5 : is_sh l5) : rn xs L 99 60 [vR 0, vI l1, vI l2, vI l3, vI l4, vR l5, l6] [vI s0] (mw f a g) = if s0 = 0 then rn xs L 99 66 [vR 0, vI l1, vI l2, vI l3, vI l4, vR l5, l6] [] (mw f a g) else rn xs L 99 63 [vR 0, vI l1, vI l2, vI l3, vI l4, vR l5, l6] [] (mw f a g) :=
  (r_eq0 (pg_of mt_99 dX5_minds_60 rfl))
theorem b99_63 (l1 : Int32) (l2 : Int32) (l3 : Int32) (l4 : Int32) (l5 : Nat) (l6 : ma_V) (hl5 : is_sh l5) : rn xs L 99 63 [vR 0, vI l1, vI l2, vI l3, vI l4, vR l5, l6] [] (mw f a g) = some (some (vI (-11 : Int32)), (mw f a g)) :=
  (r_con (pg_of mt_99 dX5_minds_63 rfl) (v2 := (-11 : Int32)) (by decide)).trans <|
  (r_ri (pg_of mt_99 dX5_minds_65 rfl) mt_99 rfl)
theorem b99_66 (l1 : Int32) (l2 : Int32) (l3 : Int32) (l4 : Int32) (l5 : Nat) (l6 : ma_V) (hl5 : is_sh l5) : rn xs L 99 66 [vR 0, vI l1, vI l2, vI l3, vI l4, vR l5, l6] [] (mw f a g) = if (f l5 1) = 0 then rn xs L 99 77 [vR 0, vI l1, vI l2, vI l3, vI l4, vR l5, l6] [] (mw f a g) else rn xs L 99 74 [vR 0, vI l1, vI l2, vI l3, vI l4, vR l5, l6] [] (mw f a g) :=
  (r_ald (pg_of mt_99 dX5_minds_66 rfl) rfl).trans <|
  (r_gti (pg_of mt_99 dX5_minds_68 rfl) (mw_sh hl5)).trans <|
  (r_eq0 (pg_of mt_99 dX5_minds_71 rfl))
theorem b99_74 (l1 : Int32) (l2 : Int32) (l3 : Int32) (l4 : Int32) (l5 : Nat) (l6 : ma_V) (hl5 : is_sh l5) : rn xs L 99 74 [vR 0, vI l1, vI l2, vI l3, vI l4, vR l5, l6] [] (mw f a g) = some (some (vI (-13 : Int32)), (mw f a g)) :=
  (r_con (pg_of mt_99 dX5_minds_74 rfl) (v2 := (-13 : Int32)) (by decide)).trans <|
  (r_ri (pg_of mt_99 dX5_minds_76 rfl) mt_99 rfl)
theorem b99_77 (l1 : Int32) (l2 : Int32) (l3 : Int32) (l4 : Int32) (l5 : Nat) (l6 : ma_V) (hl5 : is_sh l5) : rn xs L 99 77 [vR 0, vI l1, vI l2, vI l3, vI l4, vR l5, l6] [] (mw f a g) = (ev xs L 56 3 [vI l2, vI (0 : Int32), vI (f l5 2)] (mw f a g)).bind (fun b => rn xs L 99 87 [vR 0, vI l1, vI l2, vI l3, vI l4, vR l5, l6] (b.1.toList ++ []) b.2) :=
  (r_ild (pg_of mt_99 dX5_minds_77 rfl) rfl).trans <|
  (r_con (pg_of mt_99 dX5_minds_78 rfl) (v2 := (0 : Int32)) (by decide)).trans <|
  (r_ald (pg_of mt_99 dX5_minds_79 rfl) rfl).trans <|
  (r_gti (pg_of mt_99 dX5_minds_81 rfl) (mw_sh hl5)).trans <|
  (r_call (t := tt_99) (t2 := tt_56) (pg_of mt_99 dX5_minds_84 rfl) mt_99 mt_56 rfl rfl rfl rfl rfl)
theorem b99_87 (l1 : Int32) (l2 : Int32) (l3 : Int32) (l4 : Int32) (l5 : Nat) (l6 : ma_V) (s0 : Int32) (hl5 : is_sh l5) : rn xs L 99 87 [vR 0, vI l1, vI l2, vI l3, vI l4, vR l5, l6] [vI s0] (mw f a g) = if s0 = 0 then rn xs L 99 102 [vR 0, vI l1, vI l2, vI l3, vI l4, vR l5, l6] [] (mw f a g) else rn xs L 99 90 [vR 0, vI l1, vI l2, vI l3, vI l4, vR l5, l6] [] (mw f a g) :=
  (r_eq0 (pg_of mt_99 dX5_minds_87 rfl))
theorem b99_90 (l1 : Int32) (l2 : Int32) (l3 : Int32) (l4 : Int32) (l5 : Nat) (l6 : ma_V) (hl5 : is_sh l5) : rn xs L 99 90 [vR 0, vI l1, vI l2, vI l3, vI l4, vR l5, l6] [] (mw f a g) = if ((f l5 2) - l2) < l4 then rn xs L 99 102 [vR 0, vI l1, vI l2, vI l3, vI l4, vR l5, l6] [] (mw f a g) else rn xs L 99 105 [vR 0, vI l1, vI l2, vI l3, vI l4, vR l5, l6] [] (mw f a g) :=
  (r_ild (pg_of mt_99 dX5_minds_90 rfl) rfl).trans <|
  (r_ald (pg_of mt_99 dX5_minds_92 rfl) rfl).trans <|
  (r_gti (pg_of mt_99 dX5_minds_94 rfl) (mw_sh hl5)).trans <|
  (r_ild (pg_of mt_99 dX5_minds_97 rfl) rfl).trans <|
  (r_bin (pg_of mt_99 dX5_minds_98 rfl)).trans <|
  (r_le (pg_of mt_99 dX5_minds_99 rfl))
theorem b99_102 (l1 : Int32) (l2 : Int32) (l3 : Int32) (l4 : Int32) (l5 : Nat) (l6 : ma_V) (hl5 : is_sh l5) : rn xs L 99 102 [vR 0, vI l1, vI l2, vI l3, vI l4, vR l5, l6] [] (mw f a g) = some (some (vI (-12 : Int32)), (mw f a g)) :=
  (r_con (pg_of mt_99 dX5_minds_102 rfl) (v2 := (-12 : Int32)) (by decide)).trans <|
  (r_ri (pg_of mt_99 dX5_minds_104 rfl) mt_99 rfl)
theorem b99_105 (l1 : Int32) (l2 : Int32) (l3 : Int32) (l4 : Int32) (l5 : Nat) (l6 : ma_V) (hl5 : is_sh l5) : rn xs L 99 105 [vR 0, vI l1, vI l2, vI l3, vI l4, vR l5, l6] [] (mw f a g) = rn xs L 99 108 [vR 0, vI l1, vI l2, vI l3, vI l4, vR l5, vI (0 : Int32)] [] (mw f a g) :=
  (r_con (pg_of mt_99 dX5_minds_105 rfl) (v2 := (0 : Int32)) (by decide)).trans <|
  (r_ist (pg_of mt_99 dX5_minds_106 rfl) (Nat.le_of_ble_eq_true rfl) rfl)
theorem b99_108 (l1 : Int32) (l2 : Int32) (l3 : Int32) (l4 : Int32) (l5 : Nat) (l6 : Int32) (hl5 : is_sh l5) : rn xs L 99 108 [vR 0, vI l1, vI l2, vI l3, vI l4, vR l5, vI l6] [] (mw f a g) = if l6 < l4 then rn xs L 99 115 [vR 0, vI l1, vI l2, vI l3, vI l4, vR l5, vI l6] [] (mw f a g) else rn xs L 99 147 [vR 0, vI l1, vI l2, vI l3, vI l4, vR l5, vI l6] [] (mw f a g) :=
  (r_ild (pg_of mt_99 dX5_minds_108 rfl) rfl).trans <|
  (r_ild (pg_of mt_99 dX5_minds_110 rfl) rfl).trans <|
  (r_ge (pg_of mt_99 dX5_minds_112 rfl))
theorem b99_115 (l1 : Int32) (l2 : Int32) (l3 : Int32) (l4 : Int32) (l5 : Nat) (l6 : Int32) (hl5 : is_sh l5) (h1 : ma_in ((l2 + l6)) 40 = true) : rn xs L 99 115 [vR 0, vI l1, vI l2, vI l3, vI l4, vR l5, vI l6] [] (mw f a g) = (ev xs L 71 1 [vI ((g ((l5 + 1)) ((l2 + l6)).toNatClampNeg)).toInt32] (mw f a g)).bind (fun b => rn xs L 99 140 [vR 0, vI l1, vI l2, vI l3, vI l4, vR l5, vI l6] (b.1.toList ++ [vI (l3 + l6), vR 6]) b.2) :=
  (r_ald (pg_of mt_99 dX5_minds_115 rfl) rfl).trans <|
  (r_gtr (a := 1) (pg_of mt_99 dX5_minds_116 rfl) rfl rfl).trans <|
  (r_gtr (a := 6) (pg_of mt_99 dX5_minds_119 rfl) rfl rfl).trans <|
  (r_ild (pg_of mt_99 dX5_minds_122 rfl) rfl).trans <|
  (r_ild (pg_of mt_99 dX5_minds_123 rfl) rfl).trans <|
  (r_bin (pg_of mt_99 dX5_minds_125 rfl)).trans <|
  (r_ald (pg_of mt_99 dX5_minds_126 rfl) rfl).trans <|
  (r_gtr (a := (l5 + 1)) (pg_of mt_99 dX5_minds_128 rfl) (mw_sh hl5) (mw_shf hl5)).trans <|
  (r_ild (pg_of mt_99 dX5_minds_131 rfl) rfl).trans <|
  (r_ild (pg_of mt_99 dX5_minds_132 rfl) rfl).trans <|
  (r_bin (pg_of mt_99 dX5_minds_134 rfl)).trans <|
  (r_lald (pg_of mt_99 dX5_minds_135 rfl) (mw_sh0 hl5) h1).trans <|
  (r_l2i (pg_of mt_99 dX5_minds_136 rfl)).trans <|
  (r_call (t := tt_99) (t2 := tt_71) (pg_of mt_99 dX5_minds_137 rfl) mt_99 mt_71 rfl rfl rfl rfl rfl)
theorem b99_140 (l1 : Int32) (l2 : Int32) (l3 : Int32) (l4 : Int32) (l5 : Nat) (l6 : Int32) (s0 : Int32) (s1 : Int32) (hl5 : is_sh l5) (h1 : ma_in s1 8 = true) : rn xs L 99 140 [vR 0, vI l1, vI l2, vI l3, vI l4, vR l5, vI l6] [vI s0, vI s1, vR 6] (mw f a g) = rn xs L 99 108 [vR 0, vI l1, vI l2, vI l3, vI l4, vR l5, vI (l6 + (1 : Int32))] [] (mw f ((ma_u2 a 6 s1.toNatClampNeg s0)) g) :=
  (r_iast (pg_of mt_99 dX5_minds_140 rfl) rfl h1).trans <|
  (r_inc (pg_of mt_99 dX5_minds_141 rfl) (y := (1 : Int32)) (by decide) rfl rfl).trans <|
  (r_gto (pg_of mt_99 dX5_minds_144 rfl))
theorem b99_147 (l1 : Int32) (l2 : Int32) (l3 : Int32) (l4 : Int32) (l5 : Nat) (l6 : Int32) (hl5 : is_sh l5) : rn xs L 99 147 [vR 0, vI l1, vI l2, vI l3, vI l4, vR l5, vI l6] [] (mw f a g) = some (some (vI l4), (mw f a g)) :=
  (r_ild (pg_of mt_99 dX5_minds_147 rfl) rfl).trans <|
  (r_ri (pg_of mt_99 dX5_minds_149 rfl) mt_99 rfl)
-- 100 LeafFalls.sheet(III)I
theorem b100_0 (l1 : Int32) (l2 : Int32) (l3 : Int32) : rn xs L 100 0 [vR 0, vI l1, vI l2, vI l3] [] (mw f a g) = (ev xs L 56 3 [vI l1, vI (0 : Int32), vI (3 : Int32)] (mw f a g)).bind (fun b => rn xs L 100 6 [vR 0, vI l1, vI l2, vI l3] (b.1.toList ++ []) b.2) :=
  (r_ild (pg_of mt_100 dX5_sheet_0 rfl) rfl).trans <|
  (r_con (pg_of mt_100 dX5_sheet_1 rfl) (v2 := (0 : Int32)) (by decide)).trans <|
  (r_con (pg_of mt_100 dX5_sheet_2 rfl) (v2 := (3 : Int32)) (by decide)).trans <|
  (r_call (t := tt_100) (t2 := tt_56) (pg_of mt_100 dX5_sheet_3 rfl) mt_100 mt_56 rfl rfl rfl rfl rfl)
theorem b100_6 (l1 : Int32) (l2 : Int32) (l3 : Int32) (s0 : Int32) : rn xs L 100 6 [vR 0, vI l1, vI l2, vI l3] [vI s0] (mw f a g) = if s0 = 0 then rn xs L 100 18 [vR 0, vI l1, vI l2, vI l3] [] (mw f a g) else rn xs L 100 9 [vR 0, vI l1, vI l2, vI l3] [] (mw f a g) :=
  (r_eq0 (pg_of mt_100 dX5_sheet_6 rfl))
theorem b100_9 (l1 : Int32) (l2 : Int32) (l3 : Int32) : rn xs L 100 9 [vR 0, vI l1, vI l2, vI l3] [] (mw f a g) = (ev xs L 56 3 [vI l2, vI (-1 : Int32), vI (3 : Int32)] (mw f a g)).bind (fun b => rn xs L 100 15 [vR 0, vI l1, vI l2, vI l3] (b.1.toList ++ []) b.2) :=
  (r_ild (pg_of mt_100 dX5_sheet_9 rfl) rfl).trans <|
  (r_con (pg_of mt_100 dX5_sheet_10 rfl) (v2 := (-1 : Int32)) (by decide)).trans <|
  (r_con (pg_of mt_100 dX5_sheet_11 rfl) (v2 := (3 : Int32)) (by decide)).trans <|
  (r_call (t := tt_100) (t2 := tt_56) (pg_of mt_100 dX5_sheet_12 rfl) mt_100 mt_56 rfl rfl rfl rfl rfl)
theorem b100_15 (l1 : Int32) (l2 : Int32) (l3 : Int32) (s0 : Int32) : rn xs L 100 15 [vR 0, vI l1, vI l2, vI l3] [vI s0] (mw f a g) = if s0 = 0 then rn xs L 100 18 [vR 0, vI l1, vI l2, vI l3] [] (mw f a g) else rn xs L 100 20 [vR 0, vI l1, vI l2, vI l3] [] (mw f a g) :=
  (r_ne0 (pg_of mt_100 dX5_sheet_15 rfl))
theorem b100_18 (l1 : Int32) (l2 : Int32) (l3 : Int32) : rn xs L 100 18 [vR 0, vI l1, vI l2, vI l3] [] (mw f a g) = some (some (vI (-1 : Int32)), (mw f a g)) :=
  (r_con (pg_of mt_100 dX5_sheet_18 rfl) (v2 := (-1 : Int32)) (by decide)).trans <|
  (r_ri (pg_of mt_100 dX5_sheet_19 rfl) mt_100 rfl)
theorem b100_20 (l1 : Int32) (l2 : Int32) (l3 : Int32) : rn xs L 100 20 [vR 0, vI l1, vI l2, vI l3] [] (mw f a g) = if l2 = (-1 : Int32) then rn xs L 100 25 [vR 0, vI l1, vI l2, vI l3] [] (mw f a g) else rn xs L 100 37 [vR 0, vI l1, vI l2, vI l3] [] (mw f a g) :=
  (r_ild (pg_of mt_100 dX5_sheet_20 rfl) rfl).trans <|
  (r_con (pg_of mt_100 dX5_sheet_21 rfl) (v2 := (-1 : Int32)) (by decide)).trans <|
  (r_ne (pg_of mt_100 dX5_sheet_22 rfl))
theorem b100_25 (l1 : Int32) (l2 : Int32) (l3 : Int32) (h1 : ma_in l1 4 = true) : rn xs L 100 25 [vR 0, vI l1, vI l2, vI l3] [] (mw f a g) = some (some (vI (1 : Int32)), (mw ((ma_u2 f ((32 + 2 * l1.toNatClampNeg)) 1 ((-1 : Int32)))) a g)) :=
  (r_ald (pg_of mt_100 dX5_sheet_25 rfl) rfl).trans <|
  (r_gtr (a := 28) (pg_of mt_100 dX5_sheet_26 rfl) rfl rfl).trans <|
  (r_ild (pg_of mt_100 dX5_sheet_29 rfl) rfl).trans <|
  (r_aald (pg_of mt_100 dX5_sheet_30 rfl) (Or.inl rfl) rfl h1 (mw_a28 h1)).trans <|
  (r_con (pg_of mt_100 dX5_sheet_31 rfl) (v2 := (-1 : Int32)) (by decide)).trans <|
  (r_pti (pg_of mt_100 dX5_sheet_32 rfl) (mw_sh (sh_of h1)) rfl).trans <|
  (r_con (pg_of mt_100 dX5_sheet_35 rfl) (v2 := (1 : Int32)) (by decide)).trans <|
  (r_ri (pg_of mt_100 dX5_sheet_36 rfl) mt_100 rfl)
theorem b100_37 (l1 : Int32) (l2 : Int32) (l3 : Int32) : rn xs L 100 37 [vR 0, vI l1, vI l2, vI l3] [] (mw f a g) = if (40 : Int32) < l3 then rn xs L 100 43 [vR 0, vI l1, vI l2, vI l3] [] (mw f a g) else rn xs L 100 45 [vR 0, vI l1, vI l2, vI l3] [] (mw f a g) :=
  (r_ild (pg_of mt_100 dX5_sheet_37 rfl) rfl).trans <|
  (r_con (pg_of mt_100 dX5_sheet_38 rfl) (v2 := (40 : Int32)) (by decide)).trans <|
  (r_le (pg_of mt_100 dX5_sheet_40 rfl))
theorem b100_43 (l1 : Int32) (l2 : Int32) (l3 : Int32) : rn xs L 100 43 [vR 0, vI l1, vI l2, vI l3] [] (mw f a g) = some (some (vI (-1 : Int32)), (mw f a g)) :=
  (r_con (pg_of mt_100 dX5_sheet_43 rfl) (v2 := (-1 : Int32)) (by decide)).trans <|
  (r_ri (pg_of mt_100 dX5_sheet_44 rfl) mt_100 rfl)
theorem b100_45 (l1 : Int32) (l2 : Int32) (l3 : Int32) : rn xs L 100 45 [vR 0, vI l1, vI l2, vI l3] [] (mw f a g) = if l3 < 0 then rn xs L 100 49 [vR 0, vI l1, vI l2, vI l3] [] (mw f a g) else rn xs L 100 52 [vR 0, vI l1, vI l2, vI l3] [] (mw f a g) :=
  (r_ild (pg_of mt_100 dX5_sheet_45 rfl) rfl).trans <|
  (r_ge0 (pg_of mt_100 dX5_sheet_46 rfl))
theorem b100_49 (l1 : Int32) (l2 : Int32) (l3 : Int32) : rn xs L 100 49 [vR 0, vI l1, vI l2, vI l3] [] (mw f a g) = some (some (vI (-14 : Int32)), (mw f a g)) :=
  (r_con (pg_of mt_100 dX5_sheet_49 rfl) (v2 := (-14 : Int32)) (by decide)).trans <|
  (r_ri (pg_of mt_100 dX5_sheet_51 rfl) mt_100 rfl)
theorem b100_52 (l1 : Int32) (l2 : Int32) (l3 : Int32) (h1 : ma_in l1 4 = true) : rn xs L 100 52 [vR 0, vI l1, vI l2, vI l3] [] (mw f a g) = (ev xs L 9 4 [vR (32 + 2 * l1.toNatClampNeg), vI l2, vI l3] (mw f a g)).bind (fun b => rn xs L 100 63 [vR 0, vI l1, vI l2, vI l3] (b.1.toList ++ []) b.2) :=
  (r_ald (pg_of mt_100 dX5_sheet_52 rfl) rfl).trans <|
  (r_gtr (a := 28) (pg_of mt_100 dX5_sheet_53 rfl) rfl rfl).trans <|
  (r_ild (pg_of mt_100 dX5_sheet_56 rfl) rfl).trans <|
  (r_aald (pg_of mt_100 dX5_sheet_57 rfl) (Or.inl rfl) rfl h1 (mw_a28 h1)).trans <|
  (r_ild (pg_of mt_100 dX5_sheet_58 rfl) rfl).trans <|
  (r_ild (pg_of mt_100 dX5_sheet_59 rfl) rfl).trans <|
  (r_call (t := tt_100) (t2 := tt_9) (pg_of mt_100 dX5_sheet_60 rfl) mt_100 mt_9 rfl rfl (rcv1 (mw_sh (sh_of h1))) rfl rfl)
theorem b100_63 (l1 : Int32) (l2 : Int32) (l3 : Int32) : rn xs L 100 63 [vR 0, vI l1, vI l2, vI l3] [] (mw f a g) = some (some (vI (1 : Int32)), (mw f a g)) :=
  (r_con (pg_of mt_100 dX5_sheet_63 rfl) (v2 := (1 : Int32)) (by decide)).trans <|
  (r_ri (pg_of mt_100 dX5_sheet_64 rfl) mt_100 rfl)
-- 101 LeafFalls.put(III)I
theorem b101_0 (l1 : Int32) (l2 : Int32) (l3 : Int32) (l4 : ma_V) : rn xs L 101 0 [vR 0, vI l1, vI l2, vI l3, l4] [] (mw f a g) = (ev xs L 56 3 [vI l1, vI (0 : Int32), vI (3 : Int32)] (mw f a g)).bind (fun b => rn xs L 101 6 [vR 0, vI l1, vI l2, vI l3, l4] (b.1.toList ++ []) b.2) :=
  (r_ild (pg_of mt_101 dX5_put_0 rfl) rfl).trans <|
  (r_con (pg_of mt_101 dX5_put_1 rfl) (v2 := (0 : Int32)) (by decide)).trans <|
  (r_con (pg_of mt_101 dX5_put_2 rfl) (v2 := (3 : Int32)) (by decide)).trans <|
  (r_call (t := tt_101) (t2 := tt_56) (pg_of mt_101 dX5_put_3 rfl) mt_101 mt_56 rfl rfl rfl rfl rfl)
theorem b101_6 (l1 : Int32) (l2 : Int32) (l3 : Int32) (l4 : ma_V) (s0 : Int32) : rn xs L 101 6 [vR 0, vI l1, vI l2, vI l3, l4] [vI s0] (mw f a g) = if s0 = 0 then rn xs L 101 9 [vR 0, vI l1, vI l2, vI l3, l4] [] (mw f a g) else rn xs L 101 11 [vR 0, vI l1, vI l2, vI l3, l4] [] (mw f a g) :=
  (r_ne0 (pg_of mt_101 dX5_put_6 rfl))
theorem b101_9 (l1 : Int32) (l2 : Int32) (l3 : Int32) (l4 : ma_V) : rn xs L 101 9 [vR 0, vI l1, vI l2, vI l3, l4] [] (mw f a g) = some (some (vI (-1 : Int32)), (mw f a g)) :=
  (r_con (pg_of mt_101 dX5_put_9 rfl) (v2 := (-1 : Int32)) (by decide)).trans <|
  (r_ri (pg_of mt_101 dX5_put_10 rfl) mt_101 rfl)
theorem b101_11 (l1 : Int32) (l2 : Int32) (l3 : Int32) (l4 : ma_V) (h1 : ma_in l1 4 = true) : rn xs L 101 11 [vR 0, vI l1, vI l2, vI l3, l4] [] (mw f a g) = (ev xs L 8 1 [vR (32 + 2 * l1.toNatClampNeg)] (mw f a g)).bind (fun b => rn xs L 101 24 [vR 0, vI l1, vI l2, vI l3, vR (32 + 2 * l1.toNatClampNeg)] (b.1.toList ++ []) b.2) :=
  (r_ald (pg_of mt_101 dX5_put_11 rfl) rfl).trans <|
  (r_gtr (a := 28) (pg_of mt_101 dX5_put_12 rfl) rfl rfl).trans <|
  (r_ild (pg_of mt_101 dX5_put_15 rfl) rfl).trans <|
  (r_aald (pg_of mt_101 dX5_put_16 rfl) (Or.inl rfl) rfl h1 (mw_a28 h1)).trans <|
  (r_ast (pg_of mt_101 dX5_put_17 rfl) (Nat.le_of_ble_eq_true rfl) rfl).trans <|
  (r_ald (pg_of mt_101 dX5_put_19 rfl) rfl).trans <|
  (r_call (t := tt_101) (t2 := tt_8) (pg_of mt_101 dX5_put_21 rfl) mt_101 mt_8 rfl rfl (rcv1 (mw_sh (sh_of h1))) rfl rfl)
theorem b101_24 (l1 : Int32) (l2 : Int32) (l3 : Int32) (l4 : Nat) (s0 : Int32) (hl4 : is_sh l4) : rn xs L 101 24 [vR 0, vI l1, vI l2, vI l3, vR l4] [vI s0] (mw f a g) = if s0 = 0 then rn xs L 101 30 [vR 0, vI l1, vI l2, vI l3, vR l4] [] (mw f a g) else rn xs L 101 27 [vR 0, vI l1, vI l2, vI l3, vR l4] [] (mw f a g) :=
  (r_eq0 (pg_of mt_101 dX5_put_24 rfl))
theorem b101_27 (l1 : Int32) (l2 : Int32) (l3 : Int32) (l4 : Nat) (hl4 : is_sh l4) : rn xs L 101 27 [vR 0, vI l1, vI l2, vI l3, vR l4] [] (mw f a g) = some (some (vI (-11 : Int32)), (mw f a g)) :=
  (r_con (pg_of mt_101 dX5_put_27 rfl) (v2 := (-11 : Int32)) (by decide)).trans <|
  (r_ri (pg_of mt_101 dX5_put_29 rfl) mt_101 rfl)
theorem b101_30 (l1 : Int32) (l2 : Int32) (l3 : Int32) (l4 : Nat) (hl4 : is_sh l4) : rn xs L 101 30 [vR 0, vI l1, vI l2, vI l3, vR l4] [] (mw f a g) = (ev xs L 56 3 [vI l2, vI (0 : Int32), vI ((f l4 2) - (1 : Int32))] (mw f a g)).bind (fun b => rn xs L 101 42 [vR 0, vI l1, vI l2, vI l3, vR l4] (b.1.toList ++ []) b.2) :=
  (r_ild (pg_of mt_101 dX5_put_30 rfl) rfl).trans <|
  (r_con (pg_of mt_101 dX5_put_31 rfl) (v2 := (0 : Int32)) (by decide)).trans <|
  (r_ald (pg_of mt_101 dX5_put_32 rfl) rfl).trans <|
  (r_gti (pg_of mt_101 dX5_put_34 rfl) (mw_sh hl4)).trans <|
  (r_con (pg_of mt_101 dX5_put_37 rfl) (v2 := (1 : Int32)) (by decide)).trans <|
  (r_bin (pg_of mt_101 dX5_put_38 rfl)).trans <|
  (r_call (t := tt_101) (t2 := tt_56) (pg_of mt_101 dX5_put_39 rfl) mt_101 mt_56 rfl rfl rfl rfl rfl)
theorem b101_42 (l1 : Int32) (l2 : Int32) (l3 : Int32) (l4 : Nat) (s0 : Int32) (hl4 : is_sh l4) : rn xs L 101 42 [vR 0, vI l1, vI l2, vI l3, vR l4] [vI s0] (mw f a g) = if s0 = 0 then rn xs L 101 45 [vR 0, vI l1, vI l2, vI l3, vR l4] [] (mw f a g) else rn xs L 101 48 [vR 0, vI l1, vI l2, vI l3, vR l4] [] (mw f a g) :=
  (r_ne0 (pg_of mt_101 dX5_put_42 rfl))
theorem b101_45 (l1 : Int32) (l2 : Int32) (l3 : Int32) (l4 : Nat) (hl4 : is_sh l4) : rn xs L 101 45 [vR 0, vI l1, vI l2, vI l3, vR l4] [] (mw f a g) = some (some (vI (-12 : Int32)), (mw f a g)) :=
  (r_con (pg_of mt_101 dX5_put_45 rfl) (v2 := (-12 : Int32)) (by decide)).trans <|
  (r_ri (pg_of mt_101 dX5_put_47 rfl) mt_101 rfl)
theorem b101_48 (l1 : Int32) (l2 : Int32) (l3 : Int32) (l4 : Nat) (hl4 : is_sh l4) : rn xs L 101 48 [vR 0, vI l1, vI l2, vI l3, vR l4] [] (mw f a g) = (ev xs L 10 2 [vR l4, vI l3] (mw f a g)).bind (fun b => rn xs L 101 60 [vR 0, vI l1, vI l2, vI l3, vR l4] (b.1.toList ++ [vI l2, vR (l4 + 1)]) b.2) :=
  (r_ald (pg_of mt_101 dX5_put_48 rfl) rfl).trans <|
  (r_gtr (a := (l4 + 1)) (pg_of mt_101 dX5_put_50 rfl) (mw_sh hl4) (mw_shf hl4)).trans <|
  (r_ild (pg_of mt_101 dX5_put_53 rfl) rfl).trans <|
  (r_ald (pg_of mt_101 dX5_put_54 rfl) rfl).trans <|
  (r_ild (pg_of mt_101 dX5_put_56 rfl) rfl).trans <|
  (r_call (t := tt_101) (t2 := tt_10) (pg_of mt_101 dX5_put_57 rfl) mt_101 mt_10 rfl rfl (rcv1 (mw_sh hl4)) rfl rfl)
theorem b101_60 (l1 : Int32) (l2 : Int32) (l3 : Int32) (l4 : Nat) (s0 : Int64) (s1 : Int32) (s2 : Nat) (hl4 : is_sh l4) (hs2 : is_si s2) (h1 : ma_in s1 40 = true) : rn xs L 101 60 [vR 0, vI l1, vI l2, vI l3, vR l4] [vL s0, vI s1, vR s2] (mw f a g) = some (some (vI (1 : Int32)), (mw f a ((ma_u2 g s2 s1.toNatClampNeg s0)))) :=
  (r_last (pg_of mt_101 dX5_put_60 rfl) (mw_si hs2) h1).trans <|
  (r_con (pg_of mt_101 dX5_put_61 rfl) (v2 := (1 : Int32)) (by decide)).trans <|
  (r_ri (pg_of mt_101 dX5_put_62 rfl) mt_101 rfl)
-- 102 LeafFalls.item(III)I
theorem b102_0 (l1 : Int32) (l2 : Int32) (l3 : Int32) (l4 : ma_V) : rn xs L 102 0 [vR 0, vI l1, vI l2, vI l3, l4] [] (mw f a g) = (ev xs L 56 3 [vI l1, vI (0 : Int32), vI (3 : Int32)] (mw f a g)).bind (fun b => rn xs L 102 6 [vR 0, vI l1, vI l2, vI l3, l4] (b.1.toList ++ []) b.2) :=
  (r_ild (pg_of mt_102 dX5_item_0 rfl) rfl).trans <|
  (r_con (pg_of mt_102 dX5_item_1 rfl) (v2 := (0 : Int32)) (by decide)).trans <|
  (r_con (pg_of mt_102 dX5_item_2 rfl) (v2 := (3 : Int32)) (by decide)).trans <|
  (r_call (t := tt_102) (t2 := tt_56) (pg_of mt_102 dX5_item_3 rfl) mt_102 mt_56 rfl rfl rfl rfl rfl)
theorem b102_6 (l1 : Int32) (l2 : Int32) (l3 : Int32) (l4 : ma_V) (s0 : Int32) : rn xs L 102 6 [vR 0, vI l1, vI l2, vI l3, l4] [vI s0] (mw f a g) = if s0 = 0 then rn xs L 102 18 [vR 0, vI l1, vI l2, vI l3, l4] [] (mw f a g) else rn xs L 102 9 [vR 0, vI l1, vI l2, vI l3, l4] [] (mw f a g) :=
  (r_eq0 (pg_of mt_102 dX5_item_6 rfl))
theorem b102_9 (l1 : Int32) (l2 : Int32) (l3 : Int32) (l4 : ma_V) : rn xs L 102 9 [vR 0, vI l1, vI l2, vI l3, l4] [] (mw f a g) = (ev xs L 56 3 [vI l2, vI (0 : Int32), vI (3 : Int32)] (mw f a g)).bind (fun b => rn xs L 102 15 [vR 0, vI l1, vI l2, vI l3, l4] (b.1.toList ++ []) b.2) :=
  (r_ild (pg_of mt_102 dX5_item_9 rfl) rfl).trans <|
  (r_con (pg_of mt_102 dX5_item_10 rfl) (v2 := (0 : Int32)) (by decide)).trans <|
  (r_con (pg_of mt_102 dX5_item_11 rfl) (v2 := (3 : Int32)) (by decide)).trans <|
  (r_call (t := tt_102) (t2 := tt_56) (pg_of mt_102 dX5_item_12 rfl) mt_102 mt_56 rfl rfl rfl rfl rfl)
theorem b102_15 (l1 : Int32) (l2 : Int32) (l3 : Int32) (l4 : ma_V) (s0 : Int32) : rn xs L 102 15 [vR 0, vI l1, vI l2, vI l3, l4] [vI s0] (mw f a g) = if s0 = 0 then rn xs L 102 18 [vR 0, vI l1, vI l2, vI l3, l4] [] (mw f a g) else rn xs L 102 20 [vR 0, vI l1, vI l2, vI l3, l4] [] (mw f a g) :=
  (r_ne0 (pg_of mt_102 dX5_item_15 rfl))
theorem b102_18 (l1 : Int32) (l2 : Int32) (l3 : Int32) (l4 : ma_V) : rn xs L 102 18 [vR 0, vI l1, vI l2, vI l3, l4] [] (mw f a g) = some (some (vI (-1 : Int32)), (mw f a g)) :=
  (r_con (pg_of mt_102 dX5_item_18 rfl) (v2 := (-1 : Int32)) (by decide)).trans <|
  (r_ri (pg_of mt_102 dX5_item_19 rfl) mt_102 rfl)
theorem b102_20 (l1 : Int32) (l2 : Int32) (l3 : Int32) (l4 : ma_V) (h1 : ma_in l1 4 = true) : rn xs L 102 20 [vR 0, vI l1, vI l2, vI l3, l4] [] (mw f a g) = (ev xs L 8 1 [vR (32 + 2 * l1.toNatClampNeg)] (mw f a g)).bind (fun b => rn xs L 102 33 [vR 0, vI l1, vI l2, vI l3, vR (32 + 2 * l1.toNatClampNeg)] (b.1.toList ++ []) b.2) :=
  (r_ald (pg_of mt_102 dX5_item_20 rfl) rfl).trans <|
  (r_gtr (a := 28) (pg_of mt_102 dX5_item_21 rfl) rfl rfl).trans <|
  (r_ild (pg_of mt_102 dX5_item_24 rfl) rfl).trans <|
  (r_aald (pg_of mt_102 dX5_item_25 rfl) (Or.inl rfl) rfl h1 (mw_a28 h1)).trans <|
  (r_ast (pg_of mt_102 dX5_item_26 rfl) (Nat.le_of_ble_eq_true rfl) rfl).trans <|
  (r_ald (pg_of mt_102 dX5_item_28 rfl) rfl).trans <|
  (r_call (t := tt_102) (t2 := tt_8) (pg_of mt_102 dX5_item_30 rfl) mt_102 mt_8 rfl rfl (rcv1 (mw_sh (sh_of h1))) rfl rfl)
theorem b102_33 (l1 : Int32) (l2 : Int32) (l3 : Int32) (l4 : Nat) (s0 : Int32) (hl4 : is_sh l4) : rn xs L 102 33 [vR 0, vI l1, vI l2, vI l3, vR l4] [vI s0] (mw f a g) = if s0 = 0 then rn xs L 102 39 [vR 0, vI l1, vI l2, vI l3, vR l4] [] (mw f a g) else rn xs L 102 36 [vR 0, vI l1, vI l2, vI l3, vR l4] [] (mw f a g) :=
  (r_eq0 (pg_of mt_102 dX5_item_33 rfl))
theorem b102_36 (l1 : Int32) (l2 : Int32) (l3 : Int32) (l4 : Nat) (hl4 : is_sh l4) : rn xs L 102 36 [vR 0, vI l1, vI l2, vI l3, vR l4] [] (mw f a g) = some (some (vI (-11 : Int32)), (mw f a g)) :=
  (r_con (pg_of mt_102 dX5_item_36 rfl) (v2 := (-11 : Int32)) (by decide)).trans <|
  (r_ri (pg_of mt_102 dX5_item_38 rfl) mt_102 rfl)
theorem b102_39 (l1 : Int32) (l2 : Int32) (l3 : Int32) (l4 : Nat) (hl4 : is_sh l4) : rn xs L 102 39 [vR 0, vI l1, vI l2, vI l3, vR l4] [] (mw f a g) = if (f l4 1) = l2 then rn xs L 102 51 [vR 0, vI l1, vI l2, vI l3, vR l4] [] (mw f a g) else rn xs L 102 48 [vR 0, vI l1, vI l2, vI l3, vR l4] [] (mw f a g) :=
  (r_ald (pg_of mt_102 dX5_item_39 rfl) rfl).trans <|
  (r_gti (pg_of mt_102 dX5_item_41 rfl) (mw_sh hl4)).trans <|
  (r_ild (pg_of mt_102 dX5_item_44 rfl) rfl).trans <|
  (r_eq (pg_of mt_102 dX5_item_45 rfl))
theorem b102_48 (l1 : Int32) (l2 : Int32) (l3 : Int32) (l4 : Nat) (hl4 : is_sh l4) : rn xs L 102 48 [vR 0, vI l1, vI l2, vI l3, vR l4] [] (mw f a g) = some (some (vI (-13 : Int32)), (mw f a g)) :=
  (r_con (pg_of mt_102 dX5_item_48 rfl) (v2 := (-13 : Int32)) (by decide)).trans <|
  (r_ri (pg_of mt_102 dX5_item_50 rfl) mt_102 rfl)
theorem b102_51 (l1 : Int32) (l2 : Int32) (l3 : Int32) (l4 : Nat) (hl4 : is_sh l4) : rn xs L 102 51 [vR 0, vI l1, vI l2, vI l3, vR l4] [] (mw f a g) = (ev xs L 56 3 [vI l3, vI (0 : Int32), vI ((f l4 2) - (1 : Int32))] (mw f a g)).bind (fun b => rn xs L 102 63 [vR 0, vI l1, vI l2, vI l3, vR l4] (b.1.toList ++ []) b.2) :=
  (r_ild (pg_of mt_102 dX5_item_51 rfl) rfl).trans <|
  (r_con (pg_of mt_102 dX5_item_52 rfl) (v2 := (0 : Int32)) (by decide)).trans <|
  (r_ald (pg_of mt_102 dX5_item_53 rfl) rfl).trans <|
  (r_gti (pg_of mt_102 dX5_item_55 rfl) (mw_sh hl4)).trans <|
  (r_con (pg_of mt_102 dX5_item_58 rfl) (v2 := (1 : Int32)) (by decide)).trans <|
  (r_bin (pg_of mt_102 dX5_item_59 rfl)).trans <|
  (r_call (t := tt_102) (t2 := tt_56) (pg_of mt_102 dX5_item_60 rfl) mt_102 mt_56 rfl rfl rfl rfl rfl)
theorem b102_63 (l1 : Int32) (l2 : Int32) (l3 : Int32) (l4 : Nat) (s0 : Int32) (hl4 : is_sh l4) : rn xs L 102 63 [vR 0, vI l1, vI l2, vI l3, vR l4] [vI s0] (mw f a g) = if s0 = 0 then rn xs L 102 66 [vR 0, vI l1, vI l2, vI l3, vR l4] [] (mw f a g) else rn xs L 102 69 [vR 0, vI l1, vI l2, vI l3, vR l4] [] (mw f a g) :=
  (r_ne0 (pg_of mt_102 dX5_item_63 rfl))
theorem b102_66 (l1 : Int32) (l2 : Int32) (l3 : Int32) (l4 : Nat) (hl4 : is_sh l4) : rn xs L 102 66 [vR 0, vI l1, vI l2, vI l3, vR l4] [] (mw f a g) = some (some (vI (-12 : Int32)), (mw f a g)) :=
  (r_con (pg_of mt_102 dX5_item_66 rfl) (v2 := (-12 : Int32)) (by decide)).trans <|
  (r_ri (pg_of mt_102 dX5_item_68 rfl) mt_102 rfl)
theorem b102_69 (l1 : Int32) (l2 : Int32) (l3 : Int32) (l4 : Nat) (hl4 : is_sh l4) (h1 : ma_in l3 40 = true) : rn xs L 102 69 [vR 0, vI l1, vI l2, vI l3, vR l4] [] (mw f a g) = some (some (vI ((g ((l4 + 1)) l3.toNatClampNeg)).toInt32), (mw f a g)) :=
  (r_ald (pg_of mt_102 dX5_item_69 rfl) rfl).trans <|
  (r_gtr (a := (l4 + 1)) (pg_of mt_102 dX5_item_71 rfl) (mw_sh hl4) (mw_shf hl4)).trans <|
  (r_ild (pg_of mt_102 dX5_item_74 rfl) rfl).trans <|
  (r_lald (pg_of mt_102 dX5_item_75 rfl) (mw_sh0 hl4) h1).trans <|
  (r_l2i (pg_of mt_102 dX5_item_76 rfl)).trans <|
  (r_ri (pg_of mt_102 dX5_item_77 rfl) mt_102 rfl)
-- 103 LeafFalls.shelf(III)I
theorem b103_0 (l1 : Int32) (l2 : Int32) (l3 : Int32) (l4 : ma_V) : rn xs L 103 0 [vR 0, vI l1, vI l2, vI l3, l4] [] (mw f a g) = (ev xs L 56 3 [vI l1, vI (0 : Int32), vI (3 : Int32)] (mw f a g)).bind (fun b => rn xs L 103 6 [vR 0, vI l1, vI l2, vI l3, l4] (b.1.toList ++ []) b.2) :=
  (r_ild (pg_of mt_103 dX5_shelf_0 rfl) rfl).trans <|
  (r_con (pg_of mt_103 dX5_shelf_1 rfl) (v2 := (0 : Int32)) (by decide)).trans <|
  (r_con (pg_of mt_103 dX5_shelf_2 rfl) (v2 := (3 : Int32)) (by decide)).trans <|
  (r_call (t := tt_103) (t2 := tt_56) (pg_of mt_103 dX5_shelf_3 rfl) mt_103 mt_56 rfl rfl rfl rfl rfl)
theorem b103_6 (l1 : Int32) (l2 : Int32) (l3 : Int32) (l4 : ma_V) (s0 : Int32) : rn xs L 103 6 [vR 0, vI l1, vI l2, vI l3, l4] [vI s0] (mw f a g) = if s0 = 0 then rn xs L 103 9 [vR 0, vI l1, vI l2, vI l3, l4] [] (mw f a g) else rn xs L 103 11 [vR 0, vI l1, vI l2, vI l3, l4] [] (mw f a g) :=
  (r_ne0 (pg_of mt_103 dX5_shelf_6 rfl))
theorem b103_9 (l1 : Int32) (l2 : Int32) (l3 : Int32) (l4 : ma_V) : rn xs L 103 9 [vR 0, vI l1, vI l2, vI l3, l4] [] (mw f a g) = some (some (vI (-1 : Int32)), (mw f a g)) :=
  (r_con (pg_of mt_103 dX5_shelf_9 rfl) (v2 := (-1 : Int32)) (by decide)).trans <|
  (r_ri (pg_of mt_103 dX5_shelf_10 rfl) mt_103 rfl)
theorem b103_11 (l1 : Int32) (l2 : Int32) (l3 : Int32) (l4 : ma_V) (h1 : ma_in l1 4 = true) : rn xs L 103 11 [vR 0, vI l1, vI l2, vI l3, l4] [] (mw f a g) = if l2 = 0 then rn xs L 103 23 [vR 0, vI l1, vI l2, vI l3, vR (40 + l1.toNatClampNeg)] [] (mw f a g) else rn xs L 103 43 [vR 0, vI l1, vI l2, vI l3, vR (40 + l1.toNatClampNeg)] [] (mw f a g) :=
  (r_ald (pg_of mt_103 dX5_shelf_11 rfl) rfl).trans <|
  (r_gtr (a := 29) (pg_of mt_103 dX5_shelf_12 rfl) rfl rfl).trans <|
  (r_ild (pg_of mt_103 dX5_shelf_15 rfl) rfl).trans <|
  (r_aald (pg_of mt_103 dX5_shelf_16 rfl) (Or.inr rfl) rfl h1 (mw_a29 h1)).trans <|
  (r_ast (pg_of mt_103 dX5_shelf_17 rfl) (Nat.le_of_ble_eq_true rfl) rfl).trans <|
  (r_ild (pg_of mt_103 dX5_shelf_19 rfl) rfl).trans <|
  (r_ne0 (pg_of mt_103 dX5_shelf_20 rfl))
theorem b103_23 (l1 : Int32) (l2 : Int32) (l3 : Int32) (l4 : Nat) (hl4 : is_sf l4) : rn xs L 103 23 [vR 0, vI l1, vI l2, vI l3, vR l4] [] (mw f a g) = (ev xs L 34 2 [vR 1, vI l3] (mw f a g)).bind (fun b => rn xs L 103 31 [vR 0, vI l1, vI l2, vI l3, vR l4] (b.1.toList ++ []) b.2) :=
  (r_ald (pg_of mt_103 dX5_shelf_23 rfl) rfl).trans <|
  (r_gtr (a := 1) (pg_of mt_103 dX5_shelf_24 rfl) rfl rfl).trans <|
  (r_ild (pg_of mt_103 dX5_shelf_27 rfl) rfl).trans <|
  (r_call (t := tt_103) (t2 := tt_34) (pg_of mt_103 dX5_shelf_28 rfl) mt_103 mt_34 rfl rfl (rcv1 rfl) rfl rfl)
theorem b103_31 (l1 : Int32) (l2 : Int32) (l3 : Int32) (l4 : Nat) (s0 : Int32) (hl4 : is_sf l4) : rn xs L 103 31 [vR 0, vI l1, vI l2, vI l3, vR l4] [vI s0] (mw f a g) = if s0 = 0 then rn xs L 103 43 [vR 0, vI l1, vI l2, vI l3, vR l4] [] (mw f a g) else rn xs L 103 34 [vR 0, vI l1, vI l2, vI l3, vR l4] [] (mw f a g) :=
  (r_eq0 (pg_of mt_103 dX5_shelf_31 rfl))
theorem b103_34 (l1 : Int32) (l2 : Int32) (l3 : Int32) (l4 : Nat) (hl4 : is_sf l4) : rn xs L 103 34 [vR 0, vI l1, vI l2, vI l3, vR l4] [] (mw f a g) = (ev xs L 12 2 [vR l4, vI l3] (mw f a g)).bind (fun b => rn xs L 103 40 [vR 0, vI l1, vI l2, vI l3, vR l4] (b.1.toList ++ []) b.2) :=
  (r_ald (pg_of mt_103 dX5_shelf_34 rfl) rfl).trans <|
  (r_ild (pg_of mt_103 dX5_shelf_36 rfl) rfl).trans <|
  (r_call (t := tt_103) (t2 := tt_12) (pg_of mt_103 dX5_shelf_37 rfl) mt_103 mt_12 rfl rfl (rcv1 (mw_sf hl4)) rfl rfl)
theorem b103_40 (l1 : Int32) (l2 : Int32) (l3 : Int32) (l4 : Nat) (hl4 : is_sf l4) : rn xs L 103 40 [vR 0, vI l1, vI l2, vI l3, vR l4] [] (mw f a g) = some (some (vI (1 : Int32)), (mw f a g)) :=
  (r_gto (pg_of mt_103 dX5_shelf_40 rfl)).trans <|
  (r_con (pg_of mt_103 dX5_shelf_87 rfl) (v2 := (1 : Int32)) (by decide)).trans <|
  (r_ri (pg_of mt_103 dX5_shelf_88 rfl) mt_103 rfl)
theorem b103_43 (l1 : Int32) (l2 : Int32) (l3 : Int32) (l4 : Nat) (hl4 : is_sf l4) : rn xs L 103 43 [vR 0, vI l1, vI l2, vI l3, vR l4] [] (mw f a g) = if l2 = (1 : Int32) then rn xs L 103 48 [vR 0, vI l1, vI l2, vI l3, vR l4] [] (mw f a g) else rn xs L 103 71 [vR 0, vI l1, vI l2, vI l3, vR l4] [] (mw f a g) :=
  (r_ild (pg_of mt_103 dX5_shelf_43 rfl) rfl).trans <|
  (r_con (pg_of mt_103 dX5_shelf_44 rfl) (v2 := (1 : Int32)) (by decide)).trans <|
  (r_ne (pg_of mt_103 dX5_shelf_45 rfl))
theorem b103_48 (l1 : Int32) (l2 : Int32) (l3 : Int32) (l4 : Nat) (hl4 : is_sf l4) : rn xs L 103 48 [vR 0, vI l1, vI l2, vI l3, vR l4] [] (mw f a g) = (ev xs L 56 3 [vI l3, vI (0 : Int32), vI (3 : Int32)] (mw f a g)).bind (fun b => rn xs L 103 54 [vR 0, vI l1, vI l2, vI l3, vR l4] (b.1.toList ++ []) b.2) :=
  (r_ild (pg_of mt_103 dX5_shelf_48 rfl) rfl).trans <|
  (r_con (pg_of mt_103 dX5_shelf_49 rfl) (v2 := (0 : Int32)) (by decide)).trans <|
  (r_con (pg_of mt_103 dX5_shelf_50 rfl) (v2 := (3 : Int32)) (by decide)).trans <|
  (r_call (t := tt_103) (t2 := tt_56) (pg_of mt_103 dX5_shelf_51 rfl) mt_103 mt_56 rfl rfl rfl rfl rfl)
theorem b103_54 (l1 : Int32) (l2 : Int32) (l3 : Int32) (l4 : Nat) (s0 : Int32) (hl4 : is_sf l4) : rn xs L 103 54 [vR 0, vI l1, vI l2, vI l3, vR l4] [vI s0] (mw f a g) = if s0 = 0 then rn xs L 103 71 [vR 0, vI l1, vI l2, vI l3, vR l4] [] (mw f a g) else rn xs L 103 57 [vR 0, vI l1, vI l2, vI l3, vR l4] [] (mw f a g) :=
  (r_eq0 (pg_of mt_103 dX5_shelf_54 rfl))
theorem b103_57 (l1 : Int32) (l2 : Int32) (l3 : Int32) (l4 : Nat) (hl4 : is_sf l4) (h1 : ma_in l3 4 = true) : rn xs L 103 57 [vR 0, vI l1, vI l2, vI l3, vR l4] [] (mw f a g) = (ev xs L 13 2 [vR l4, vR (32 + 2 * l3.toNatClampNeg)] (mw f a g)).bind (fun b => rn xs L 103 68 [vR 0, vI l1, vI l2, vI l3, vR l4] (b.1.toList ++ []) b.2) :=
  (r_ald (pg_of mt_103 dX5_shelf_57 rfl) rfl).trans <|
  (r_ald (pg_of mt_103 dX5_shelf_59 rfl) rfl).trans <|
  (r_gtr (a := 28) (pg_of mt_103 dX5_shelf_60 rfl) rfl rfl).trans <|
  (r_ild (pg_of mt_103 dX5_shelf_63 rfl) rfl).trans <|
  (r_aald (pg_of mt_103 dX5_shelf_64 rfl) (Or.inl rfl) rfl h1 (mw_a28 h1)).trans <|
  (r_call (t := tt_103) (t2 := tt_13) (pg_of mt_103 dX5_shelf_65 rfl) mt_103 mt_13 rfl rfl (rcv1 (mw_sf hl4)) rfl rfl)
theorem b103_68 (l1 : Int32) (l2 : Int32) (l3 : Int32) (l4 : Nat) (hl4 : is_sf l4) : rn xs L 103 68 [vR 0, vI l1, vI l2, vI l3, vR l4] [] (mw f a g) = some (some (vI (1 : Int32)), (mw f a g)) :=
  (r_gto (pg_of mt_103 dX5_shelf_68 rfl)).trans <|
  (r_con (pg_of mt_103 dX5_shelf_87 rfl) (v2 := (1 : Int32)) (by decide)).trans <|
  (r_ri (pg_of mt_103 dX5_shelf_88 rfl) mt_103 rfl)
theorem b103_71 (l1 : Int32) (l2 : Int32) (l3 : Int32) (l4 : Nat) (hl4 : is_sf l4) : rn xs L 103 71 [vR 0, vI l1, vI l2, vI l3, vR l4] [] (mw f a g) = if l2 = (2 : Int32) then rn xs L 103 76 [vR 0, vI l1, vI l2, vI l3, vR l4] [] (mw f a g) else rn xs L 103 85 [vR 0, vI l1, vI l2, vI l3, vR l4] [] (mw f a g) :=
  (r_ild (pg_of mt_103 dX5_shelf_71 rfl) rfl).trans <|
  (r_con (pg_of mt_103 dX5_shelf_72 rfl) (v2 := (2 : Int32)) (by decide)).trans <|
  (r_ne (pg_of mt_103 dX5_shelf_73 rfl))
theorem b103_76 (l1 : Int32) (l2 : Int32) (l3 : Int32) (l4 : Nat) (hl4 : is_sf l4) : rn xs L 103 76 [vR 0, vI l1, vI l2, vI l3, vR l4] [] (mw f a g) = some (some (vI (1 : Int32)), (mw ((ma_u2 f l4 0 ((2 : Int32)))) a g)) :=
  (r_ald (pg_of mt_103 dX5_shelf_76 rfl) rfl).trans <|
  (r_con (pg_of mt_103 dX5_shelf_78 rfl) (v2 := (2 : Int32)) (by decide)).trans <|
  (r_pti (pg_of mt_103 dX5_shelf_79 rfl) (mw_sf hl4) rfl).trans <|
  (r_gto (pg_of mt_103 dX5_shelf_82 rfl)).trans <|
  (r_con (pg_of mt_103 dX5_shelf_87 rfl) (v2 := (1 : Int32)) (by decide)).trans <|
  (r_ri (pg_of mt_103 dX5_shelf_88 rfl) mt_103 rfl)
theorem b103_85 (l1 : Int32) (l2 : Int32) (l3 : Int32) (l4 : Nat) (hl4 : is_sf l4) : rn xs L 103 85 [vR 0, vI l1, vI l2, vI l3, vR l4] [] (mw f a g) = some (some (vI (-1 : Int32)), (mw f a g)) :=
  (r_con (pg_of mt_103 dX5_shelf_85 rfl) (v2 := (-1 : Int32)) (by decide)).trans <|
  (r_ri (pg_of mt_103 dX5_shelf_86 rfl) mt_103 rfl)
-- 104 LeafFalls.taken(II)I
theorem b104_0 (l1 : Int32) (l2 : Int32) (l3 : ma_V) (l4 : ma_V) : rn xs L 104 0 [vR 0, vI l1, vI l2, l3, l4] [] (mw f a g) = (ev xs L 56 3 [vI l2, vI (10 : Int32), vI (13 : Int32)] (mw f a g)).bind (fun b => rn xs L 104 8 [vR 0, vI l1, vI l2, l3, l4] (b.1.toList ++ []) b.2) :=
  (r_ild (pg_of mt_104 dX5_taken_0 rfl) rfl).trans <|
  (r_con (pg_of mt_104 dX5_taken_1 rfl) (v2 := (10 : Int32)) (by decide)).trans <|
  (r_con (pg_of mt_104 dX5_taken_3 rfl) (v2 := (13 : Int32)) (by decide)).trans <|
  (r_call (t := tt_104) (t2 := tt_56) (pg_of mt_104 dX5_taken_5 rfl) mt_104 mt_56 rfl rfl rfl rfl rfl)
theorem b104_8 (l1 : Int32) (l2 : Int32) (l3 : ma_V) (l4 : ma_V) (s0 : Int32) : rn xs L 104 8 [vR 0, vI l1, vI l2, l3, l4] [vI s0] (mw f a g) = (ev xs L 56 3 [vI l1, vI (0 : Int32), vI (3 : Int32)] (mw f a g)).bind (fun b => rn xs L 104 15 [vR 0, vI l1, vI l2, vI s0, l4] (b.1.toList ++ []) b.2) :=
  (r_ist (pg_of mt_104 dX5_taken_8 rfl) (Nat.le_of_ble_eq_true rfl) rfl).trans <|
  (r_ild (pg_of mt_104 dX5_taken_9 rfl) rfl).trans <|
  (r_con (pg_of mt_104 dX5_taken_10 rfl) (v2 := (0 : Int32)) (by decide)).trans <|
  (r_con (pg_of mt_104 dX5_taken_11 rfl) (v2 := (3 : Int32)) (by decide)).trans <|
  (r_call (t := tt_104) (t2 := tt_56) (pg_of mt_104 dX5_taken_12 rfl) mt_104 mt_56 rfl rfl rfl rfl rfl)
theorem b104_15 (l1 : Int32) (l2 : Int32) (l3 : Int32) (l4 : ma_V) (s0 : Int32) : rn xs L 104 15 [vR 0, vI l1, vI l2, vI l3, l4] [vI s0] (mw f a g) = if s0 = 0 then rn xs L 104 31 [vR 0, vI l1, vI l2, vI l3, l4] [] (mw f a g) else rn xs L 104 18 [vR 0, vI l1, vI l2, vI l3, l4] [] (mw f a g) :=
  (r_eq0 (pg_of mt_104 dX5_taken_15 rfl))
theorem b104_18 (l1 : Int32) (l2 : Int32) (l3 : Int32) (l4 : ma_V) : rn xs L 104 18 [vR 0, vI l1, vI l2, vI l3, l4] [] (mw f a g) = if l3 = 0 then rn xs L 104 22 [vR 0, vI l1, vI l2, vI l3, l4] [] (mw f a g) else rn xs L 104 33 [vR 0, vI l1, vI l2, vI l3, l4] [] (mw f a g) :=
  (r_ild (pg_of mt_104 dX5_taken_18 rfl) rfl).trans <|
  (r_ne0 (pg_of mt_104 dX5_taken_19 rfl))
theorem b104_22 (l1 : Int32) (l2 : Int32) (l3 : Int32) (l4 : ma_V) : rn xs L 104 22 [vR 0, vI l1, vI l2, vI l3, l4] [] (mw f a g) = (ev xs L 56 3 [vI l2, vI (0 : Int32), vI (5 : Int32)] (mw f a g)).bind (fun b => rn xs L 104 28 [vR 0, vI l1, vI l2, vI l3, l4] (b.1.toList ++ []) b.2) :=
  (r_ild (pg_of mt_104 dX5_taken_22 rfl) rfl).trans <|
  (r_con (pg_of mt_104 dX5_taken_23 rfl) (v2 := (0 : Int32)) (by decide)).trans <|
  (r_con (pg_of mt_104 dX5_taken_24 rfl) (v2 := (5 : Int32)) (by decide)).trans <|
  (r_call (t := tt_104) (t2 := tt_56) (pg_of mt_104 dX5_taken_25 rfl) mt_104 mt_56 rfl rfl rfl rfl rfl)
theorem b104_28 (l1 : Int32) (l2 : Int32) (l3 : Int32) (l4 : ma_V) (s0 : Int32) : rn xs L 104 28 [vR 0, vI l1, vI l2, vI l3, l4] [vI s0] (mw f a g) = if s0 = 0 then rn xs L 104 31 [vR 0, vI l1, vI l2, vI l3, l4] [] (mw f a g) else rn xs L 104 33 [vR 0, vI l1, vI l2, vI l3, l4] [] (mw f a g) :=
  (r_ne0 (pg_of mt_104 dX5_taken_28 rfl))
theorem b104_31 (l1 : Int32) (l2 : Int32) (l3 : Int32) (l4 : ma_V) : rn xs L 104 31 [vR 0, vI l1, vI l2, vI l3, l4] [] (mw f a g) = some (some (vI (-1 : Int32)), (mw f a g)) :=
  (r_con (pg_of mt_104 dX5_taken_31 rfl) (v2 := (-1 : Int32)) (by decide)).trans <|
  (r_ri (pg_of mt_104 dX5_taken_32 rfl) mt_104 rfl)
theorem b104_33 (l1 : Int32) (l2 : Int32) (l3 : Int32) (l4 : ma_V) (h1 : ma_in l1 4 = true) : rn xs L 104 33 [vR 0, vI l1, vI l2, vI l3, l4] [] (mw f a g) = (ev xs L 105 2 [vR 0, vR (40 + l1.toNatClampNeg)] (mw f a g)).bind (fun b => rn xs L 104 47 [vR 0, vI l1, vI l2, vI l3, vR (40 + l1.toNatClampNeg)] (b.1.toList ++ []) b.2) :=
  (r_ald (pg_of mt_104 dX5_taken_33 rfl) rfl).trans <|
  (r_gtr (a := 29) (pg_of mt_104 dX5_taken_34 rfl) rfl rfl).trans <|
  (r_ild (pg_of mt_104 dX5_taken_37 rfl) rfl).trans <|
  (r_aald (pg_of mt_104 dX5_taken_38 rfl) (Or.inr rfl) rfl h1 (mw_a29 h1)).trans <|
  (r_ast (pg_of mt_104 dX5_taken_39 rfl) (Nat.le_of_ble_eq_true rfl) rfl).trans <|
  (r_ald (pg_of mt_104 dX5_taken_41 rfl) rfl).trans <|
  (r_ald (pg_of mt_104 dX5_taken_42 rfl) rfl).trans <|
  (r_call (t := tt_104) (t2 := tt_105) (pg_of mt_104 dX5_taken_44 rfl) mt_104 mt_105 rfl rfl (rcv1 rfl) rfl rfl)
theorem b104_47 (l1 : Int32) (l2 : Int32) (l3 : Int32) (l4 : Nat) (s0 : Int32) (hl4 : is_sf l4) : rn xs L 104 47 [vR 0, vI l1, vI l2, vI l3, vR l4] [vI s0] (mw f a g) = if s0 = 0 then rn xs L 104 53 [vR 0, vI l1, vI l2, vI l3, vR l4] [] (mw f a g) else rn xs L 104 50 [vR 0, vI l1, vI l2, vI l3, vR l4] [] (mw f a g) :=
  (r_eq0 (pg_of mt_104 dX5_taken_47 rfl))
theorem b104_50 (l1 : Int32) (l2 : Int32) (l3 : Int32) (l4 : Nat) (hl4 : is_sf l4) : rn xs L 104 50 [vR 0, vI l1, vI l2, vI l3, vR l4] [] (mw f a g) = some (some (vI (-11 : Int32)), (mw f a g)) :=
  (r_con (pg_of mt_104 dX5_taken_50 rfl) (v2 := (-11 : Int32)) (by decide)).trans <|
  (r_ri (pg_of mt_104 dX5_taken_52 rfl) mt_104 rfl)
theorem b104_53 (l1 : Int32) (l2 : Int32) (l3 : Int32) (l4 : Nat) (hl4 : is_sf l4) : rn xs L 104 53 [vR 0, vI l1, vI l2, vI l3, vR l4] [] (mw f a g) = if (f l4 0) = (1 : Int32) then rn xs L 104 62 [vR 0, vI l1, vI l2, vI l3, vR l4] [] (mw f a g) else rn xs L 104 85 [vR 0, vI l1, vI l2, vI l3, vR l4] [] (mw f a g) :=
  (r_ald (pg_of mt_104 dX5_taken_53 rfl) rfl).trans <|
  (r_gti (pg_of mt_104 dX5_taken_55 rfl) (mw_sf hl4)).trans <|
  (r_con (pg_of mt_104 dX5_taken_58 rfl) (v2 := (1 : Int32)) (by decide)).trans <|
  (r_ne (pg_of mt_104 dX5_taken_59 rfl))
theorem b104_62 (l1 : Int32) (l2 : Int32) (l3 : Int32) (l4 : Nat) (hl4 : is_sf l4) : rn xs L 104 62 [vR 0, vI l1, vI l2, vI l3, vR l4] [] (mw f a g) = if (f l4 2) = (l2 - (10 : Int32)) then rn xs L 104 74 [vR 0, vI l1, vI l2, vI l3, vR l4] [] (mw f a g) else rn xs L 104 82 [vR 0, vI l1, vI l2, vI l3, vR l4] [] (mw f a g) :=
  (r_ald (pg_of mt_104 dX5_taken_62 rfl) rfl).trans <|
  (r_gti (pg_of mt_104 dX5_taken_64 rfl) (mw_sf hl4)).trans <|
  (r_ild (pg_of mt_104 dX5_taken_67 rfl) rfl).trans <|
  (r_con (pg_of mt_104 dX5_taken_68 rfl) (v2 := (10 : Int32)) (by decide)).trans <|
  (r_bin (pg_of mt_104 dX5_taken_70 rfl)).trans <|
  (r_ne (pg_of mt_104 dX5_taken_71 rfl))
theorem b104_74 (l1 : Int32) (l2 : Int32) (l3 : Int32) (l4 : Nat) (hl4 : is_sf l4) : rn xs L 104 74 [vR 0, vI l1, vI l2, vI l3, vR l4] [] (mw f a g) = some (some (vI (f l4 1)), (mw f a g)) :=
  (r_ald (pg_of mt_104 dX5_taken_74 rfl) rfl).trans <|
  (r_gti (pg_of mt_104 dX5_taken_76 rfl) (mw_sf hl4)).trans <|
  (r_gto (pg_of mt_104 dX5_taken_79 rfl)).trans <|
  (r_ri (pg_of mt_104 dX5_taken_84 rfl) mt_104 rfl)
theorem b104_82 (l1 : Int32) (l2 : Int32) (l3 : Int32) (l4 : Nat) (hl4 : is_sf l4) : rn xs L 104 82 [vR 0, vI l1, vI l2, vI l3, vR l4] [] (mw f a g) = some (some (vI (-13 : Int32)), (mw f a g)) :=
  (r_con (pg_of mt_104 dX5_taken_82 rfl) (v2 := (-13 : Int32)) (by decide)).trans <|
  (r_ri (pg_of mt_104 dX5_taken_84 rfl) mt_104 rfl)
theorem b104_85 (l1 : Int32) (l2 : Int32) (l3 : Int32) (l4 : Nat) (hl4 : is_sf l4) (h1 : ma_in ((f l4 1)) 8 = true) : rn xs L 104 85 [vR 0, vI l1, vI l2, vI l3, vR l4] [] (mw f a g) = (ev xs L 106 2 [vI (a 4 ((f l4 1)).toNatClampNeg), vI l2] (mw f a g)).bind (fun b => rn xs L 104 102 [vR 0, vI l1, vI l2, vI l3, vR l4] (b.1.toList ++ []) b.2) :=
  (r_ald (pg_of mt_104 dX5_taken_85 rfl) rfl).trans <|
  (r_gtr (a := 1) (pg_of mt_104 dX5_taken_86 rfl) rfl rfl).trans <|
  (r_gtr (a := 4) (pg_of mt_104 dX5_taken_89 rfl) rfl rfl).trans <|
  (r_ald (pg_of mt_104 dX5_taken_92 rfl) rfl).trans <|
  (r_gti (pg_of mt_104 dX5_taken_94 rfl) (mw_sf hl4)).trans <|
  (r_iald (pg_of mt_104 dX5_taken_97 rfl) rfl h1).trans <|
  (r_ild (pg_of mt_104 dX5_taken_98 rfl) rfl).trans <|
  (r_call (t := tt_104) (t2 := tt_106) (pg_of mt_104 dX5_taken_99 rfl) mt_104 mt_106 rfl rfl rfl rfl rfl)
theorem b104_102 (l1 : Int32) (l2 : Int32) (l3 : Int32) (l4 : Nat) (s0 : Int32) (hl4 : is_sf l4) : rn xs L 104 102 [vR 0, vI l1, vI l2, vI l3, vR l4] [vI s0] (mw f a g) = if s0 = 0 then rn xs L 104 113 [vR 0, vI l1, vI l2, vI l3, vR l4] [] (mw f a g) else rn xs L 104 105 [vR 0, vI l1, vI l2, vI l3, vR l4] [] (mw f a g) :=
  (r_eq0 (pg_of mt_104 dX5_taken_102 rfl))
theorem b104_105 (l1 : Int32) (l2 : Int32) (l3 : Int32) (l4 : Nat) (hl4 : is_sf l4) : rn xs L 104 105 [vR 0, vI l1, vI l2, vI l3, vR l4] [] (mw f a g) = some (some (vI (f l4 1)), (mw f a g)) :=
  (r_ald (pg_of mt_104 dX5_taken_105 rfl) rfl).trans <|
  (r_gti (pg_of mt_104 dX5_taken_107 rfl) (mw_sf hl4)).trans <|
  (r_gto (pg_of mt_104 dX5_taken_110 rfl)).trans <|
  (r_ri (pg_of mt_104 dX5_taken_115 rfl) mt_104 rfl)
theorem b104_113 (l1 : Int32) (l2 : Int32) (l3 : Int32) (l4 : Nat) (hl4 : is_sf l4) : rn xs L 104 113 [vR 0, vI l1, vI l2, vI l3, vR l4] [] (mw f a g) = some (some (vI (-13 : Int32)), (mw f a g)) :=
  (r_con (pg_of mt_104 dX5_taken_113 rfl) (v2 := (-13 : Int32)) (by decide)).trans <|
  (r_ri (pg_of mt_104 dX5_taken_115 rfl) mt_104 rfl)
-- 105 LeafFalls.isNothing(LLeafFalls$Shelf;)Z
theorem b105_0 (l1 : Nat) (hl1 : is_sf l1) : rn xs L 105 0 [vR 0, vR l1] [] (mw f a g) = if (f l1 0) = (2 : Int32) then rn xs L 105 29 [vR 0, vR l1] [] (mw f a g) else rn xs L 105 8 [vR 0, vR l1] [] (mw f a g) :=
  (r_ald (pg_of mt_105 dX5_isNothing_0 rfl) rfl).trans <|
  (r_gti (pg_of mt_105 dX5_isNothing_1 rfl) (mw_sf hl1)).trans <|
  (r_con (pg_of mt_105 dX5_isNothing_4 rfl) (v2 := (2 : Int32)) (by decide)).trans <|
  (r_eq (pg_of mt_105 dX5_isNothing_5 rfl))
theorem b105_8 (l1 : Nat) (hl1 : is_sf l1) : rn xs L 105 8 [vR 0, vR l1] [] (mw f a g) = if (f l1 0) = 0 then rn xs L 105 15 [vR 0, vR l1] [] (mw f a g) else rn xs L 105 33 [vR 0, vR l1] [] (mw f a g) :=
  (r_ald (pg_of mt_105 dX5_isNothing_8 rfl) rfl).trans <|
  (r_gti (pg_of mt_105 dX5_isNothing_9 rfl) (mw_sf hl1)).trans <|
  (r_ne0 (pg_of mt_105 dX5_isNothing_12 rfl))
theorem b105_15 (l1 : Nat) (hl1 : is_sf l1) : rn xs L 105 15 [vR 0, vR l1] [] (mw f a g) = (ev xs L 34 2 [vR 1, vI (f l1 1)] (mw f a g)).bind (fun b => rn xs L 105 26 [vR 0, vR l1] (b.1.toList ++ []) b.2) :=
  (r_ald (pg_of mt_105 dX5_isNothing_15 rfl) rfl).trans <|
  (r_gtr (a := 1) (pg_of mt_105 dX5_isNothing_16 rfl) rfl rfl).trans <|
  (r_ald (pg_of mt_105 dX5_isNothing_19 rfl) rfl).trans <|
  (r_gti (pg_of mt_105 dX5_isNothing_20 rfl) (mw_sf hl1)).trans <|
  (r_call (t := tt_105) (t2 := tt_34) (pg_of mt_105 dX5_isNothing_23 rfl) mt_105 mt_34 rfl rfl (rcv1 rfl) rfl rfl)
theorem b105_26 (l1 : Nat) (s0 : Int32) (hl1 : is_sf l1) : rn xs L 105 26 [vR 0, vR l1] [vI s0] (mw f a g) = if s0 = 0 then rn xs L 105 29 [vR 0, vR l1] [] (mw f a g) else rn xs L 105 33 [vR 0, vR l1] [] (mw f a g) :=
  (r_ne0 (pg_of mt_105 dX5_isNothing_26 rfl))
theorem b105_29 (l1 : Nat) (hl1 : is_sf l1) : rn xs L 105 29 [vR 0, vR l1] [] (mw f a g) = some (some (vI (1 : Int32)), (mw f a g)) :=
  (r_con (pg_of mt_105 dX5_isNothing_29 rfl) (v2 := (1 : Int32)) (by decide)).trans <|
  (r_gto (pg_of mt_105 dX5_isNothing_30 rfl)).trans <|
  (r_rz (pg_of mt_105 dX5_isNothing_34 rfl) mt_105 rfl (Or.inr rfl))
theorem b105_33 (l1 : Nat) (hl1 : is_sf l1) : rn xs L 105 33 [vR 0, vR l1] [] (mw f a g) = some (some (vI (0 : Int32)), (mw f a g)) :=
  (r_con (pg_of mt_105 dX5_isNothing_33 rfl) (v2 := (0 : Int32)) (by decide)).trans <|
  (r_rz (pg_of mt_105 dX5_isNothing_34 rfl) mt_105 rfl (Or.inl rfl))
-- 106 LeafFalls.isUnder(II)Z
theorem b106_0 (l0 : Int32) (l1 : Int32) : rn xs L 106 0 [vI l0, vI l1] [] (mw f a g) = if l0 = l1 then rn xs L 106 29 [vI l0, vI l1] [] (mw f a g) else rn xs L 106 5 [vI l0, vI l1] [] (mw f a g) :=
  (r_ild (pg_of mt_106 dX5_isUnder_0 rfl) rfl).trans <|
  (r_ild (pg_of mt_106 dX5_isUnder_1 rfl) rfl).trans <|
  (r_eq (pg_of mt_106 dX5_isUnder_2 rfl))
theorem b106_5 (l0 : Int32) (l1 : Int32) : rn xs L 106 5 [vI l0, vI l1] [] (mw f a g) = if l1 = 0 then rn xs L 106 29 [vI l0, vI l1] [] (mw f a g) else rn xs L 106 9 [vI l0, vI l1] [] (mw f a g) :=
  (r_ild (pg_of mt_106 dX5_isUnder_5 rfl) rfl).trans <|
  (r_eq0 (pg_of mt_106 dX5_isUnder_6 rfl))
theorem b106_9 (l0 : Int32) (l1 : Int32) : rn xs L 106 9 [vI l0, vI l1] [] (mw f a g) = if l0 = (3 : Int32) then rn xs L 106 14 [vI l0, vI l1] [] (mw f a g) else rn xs L 106 19 [vI l0, vI l1] [] (mw f a g) :=
  (r_ild (pg_of mt_106 dX5_isUnder_9 rfl) rfl).trans <|
  (r_con (pg_of mt_106 dX5_isUnder_10 rfl) (v2 := (3 : Int32)) (by decide)).trans <|
  (r_ne (pg_of mt_106 dX5_isUnder_11 rfl))
theorem b106_14 (l0 : Int32) (l1 : Int32) : rn xs L 106 14 [vI l0, vI l1] [] (mw f a g) = if l1 = (1 : Int32) then rn xs L 106 29 [vI l0, vI l1] [] (mw f a g) else rn xs L 106 19 [vI l0, vI l1] [] (mw f a g) :=
  (r_ild (pg_of mt_106 dX5_isUnder_14 rfl) rfl).trans <|
  (r_con (pg_of mt_106 dX5_isUnder_15 rfl) (v2 := (1 : Int32)) (by decide)).trans <|
  (r_eq (pg_of mt_106 dX5_isUnder_16 rfl))
theorem b106_19 (l0 : Int32) (l1 : Int32) : rn xs L 106 19 [vI l0, vI l1] [] (mw f a g) = if l0 = (4 : Int32) then rn xs L 106 24 [vI l0, vI l1] [] (mw f a g) else rn xs L 106 33 [vI l0, vI l1] [] (mw f a g) :=
  (r_ild (pg_of mt_106 dX5_isUnder_19 rfl) rfl).trans <|
  (r_con (pg_of mt_106 dX5_isUnder_20 rfl) (v2 := (4 : Int32)) (by decide)).trans <|
  (r_ne (pg_of mt_106 dX5_isUnder_21 rfl))
theorem b106_24 (l0 : Int32) (l1 : Int32) : rn xs L 106 24 [vI l0, vI l1] [] (mw f a g) = if l1 = (2 : Int32) then rn xs L 106 29 [vI l0, vI l1] [] (mw f a g) else rn xs L 106 33 [vI l0, vI l1] [] (mw f a g) :=
  (r_ild (pg_of mt_106 dX5_isUnder_24 rfl) rfl).trans <|
  (r_con (pg_of mt_106 dX5_isUnder_25 rfl) (v2 := (2 : Int32)) (by decide)).trans <|
  (r_ne (pg_of mt_106 dX5_isUnder_26 rfl))
theorem b106_29 (l0 : Int32) (l1 : Int32) : rn xs L 106 29 [vI l0, vI l1] [] (mw f a g) = some (some (vI (1 : Int32)), (mw f a g)) :=
  (r_con (pg_of mt_106 dX5_isUnder_29 rfl) (v2 := (1 : Int32)) (by decide)).trans <|
  (r_gto (pg_of mt_106 dX5_isUnder_30 rfl)).trans <|
  (r_rz (pg_of mt_106 dX5_isUnder_34 rfl) mt_106 rfl (Or.inr rfl))
theorem b106_33 (l0 : Int32) (l1 : Int32) : rn xs L 106 33 [vI l0, vI l1] [] (mw f a g) = some (some (vI (0 : Int32)), (mw f a g)) :=
  (r_con (pg_of mt_106 dX5_isUnder_33 rfl) (v2 := (0 : Int32)) (by decide)).trans <|
  (r_rz (pg_of mt_106 dX5_isUnder_34 rfl) mt_106 rfl (Or.inl rfl))
-- 107 LeafFalls.act(III)I
theorem b107_0 (l1 : Int32) (l2 : Int32) (l3 : Int32) (l4 : ma_V) : rn xs L 107 0 [vR 0, vI l1, vI l2, vI l3, l4] [] (mw f a g) = (ev xs L 56 3 [vI l1, vI (0 : Int32), vI (3 : Int32)] (mw ((ma_u2 f 30 4 ((0 : Int32)))) a g)).bind (fun b => rn xs L 107 14 [vR 0, vI l1, vI l2, vI l3, l4] (b.1.toList ++ []) b.2) :=
  (r_ald (pg_of mt_107 dX5_act_0 rfl) rfl).trans <|
  (r_gtr (a := 30) (pg_of mt_107 dX5_act_1 rfl) rfl rfl).trans <|
  (r_con (pg_of mt_107 dX5_act_4 rfl) (v2 := (0 : Int32)) (by decide)).trans <|
  (r_pti (pg_of mt_107 dX5_act_5 rfl) rfl rfl).trans <|
  (r_ild (pg_of mt_107 dX5_act_8 rfl) rfl).trans <|
  (r_con (pg_of mt_107 dX5_act_9 rfl) (v2 := (0 : Int32)) (by decide)).trans <|
  (r_con (pg_of mt_107 dX5_act_10 rfl) (v2 := (3 : Int32)) (by decide)).trans <|
  (r_call (t := tt_107) (t2 := tt_56) (pg_of mt_107 dX5_act_11 rfl) mt_107 mt_56 rfl rfl rfl rfl rfl)
theorem b107_14 (l1 : Int32) (l2 : Int32) (l3 : Int32) (l4 : ma_V) (s0 : Int32) : rn xs L 107 14 [vR 0, vI l1, vI l2, vI l3, l4] [vI s0] (mw f a g) = if s0 = 0 then rn xs L 107 26 [vR 0, vI l1, vI l2, vI l3, l4] [] (mw f a g) else rn xs L 107 17 [vR 0, vI l1, vI l2, vI l3, l4] [] (mw f a g) :=
  (r_eq0 (pg_of mt_107 dX5_act_14 rfl))
theorem b107_17 (l1 : Int32) (l2 : Int32) (l3 : Int32) (l4 : ma_V) : rn xs L 107 17 [vR 0, vI l1, vI l2, vI l3, l4] [] (mw f a g) = (ev xs L 56 3 [vI l2, vI (0 : Int32), vI (3 : Int32)] (mw f a g)).bind (fun b => rn xs L 107 23 [vR 0, vI l1, vI l2, vI l3, l4] (b.1.toList ++ []) b.2) :=
  (r_ild (pg_of mt_107 dX5_act_17 rfl) rfl).trans <|
  (r_con (pg_of mt_107 dX5_act_18 rfl) (v2 := (0 : Int32)) (by decide)).trans <|
  (r_con (pg_of mt_107 dX5_act_19 rfl) (v2 := (3 : Int32)) (by decide)).trans <|
  (r_call (t := tt_107) (t2 := tt_56) (pg_of mt_107 dX5_act_20 rfl) mt_107 mt_56 rfl rfl rfl rfl rfl)
theorem b107_23 (l1 : Int32) (l2 : Int32) (l3 : Int32) (l4 : ma_V) (s0 : Int32) : rn xs L 107 23 [vR 0, vI l1, vI l2, vI l3, l4] [vI s0] (mw f a g) = if s0 = 0 then rn xs L 107 26 [vR 0, vI l1, vI l2, vI l3, l4] [] (mw f a g) else rn xs L 107 28 [vR 0, vI l1, vI l2, vI l3, l4] [] (mw f a g) :=
  (r_ne0 (pg_of mt_107 dX5_act_23 rfl))
theorem b107_26 (l1 : Int32) (l2 : Int32) (l3 : Int32) (l4 : ma_V) : rn xs L 107 26 [vR 0, vI l1, vI l2, vI l3, l4] [] (mw f a g) = some (some (vI (0 : Int32)), (mw f a g)) :=
  (r_con (pg_of mt_107 dX5_act_26 rfl) (v2 := (0 : Int32)) (by decide)).trans <|
  (r_ri (pg_of mt_107 dX5_act_27 rfl) mt_107 rfl)
theorem b107_28 (l1 : Int32) (l2 : Int32) (l3 : Int32) (l4 : ma_V) (h1 : ma_in l1 4 = true) : rn xs L 107 28 [vR 0, vI l1, vI l2, vI l3, l4] [] (mw f a g) = (ev xs L 105 2 [vR 0, vR (40 + l1.toNatClampNeg)] (mw f a g)).bind (fun b => rn xs L 107 42 [vR 0, vI l1, vI l2, vI l3, vR (40 + l1.toNatClampNeg)] (b.1.toList ++ []) b.2) :=
  (r_ald (pg_of mt_107 dX5_act_28 rfl) rfl).trans <|
  (r_gtr (a := 29) (pg_of mt_107 dX5_act_29 rfl) rfl rfl).trans <|
  (r_ild (pg_of mt_107 dX5_act_32 rfl) rfl).trans <|
  (r_aald (pg_of mt_107 dX5_act_33 rfl) (Or.inr rfl) rfl h1 (mw_a29 h1)).trans <|
  (r_ast (pg_of mt_107 dX5_act_34 rfl) (Nat.le_of_ble_eq_true rfl) rfl).trans <|
  (r_ald (pg_of mt_107 dX5_act_36 rfl) rfl).trans <|
  (r_ald (pg_of mt_107 dX5_act_37 rfl) rfl).trans <|
  (r_call (t := tt_107) (t2 := tt_105) (pg_of mt_107 dX5_act_39 rfl) mt_107 mt_105 rfl rfl (rcv1 rfl) rfl rfl)
theorem b107_42 (l1 : Int32) (l2 : Int32) (l3 : Int32) (l4 : Nat) (s0 : Int32) (hl4 : is_sf l4) : rn xs L 107 42 [vR 0, vI l1, vI l2, vI l3, vR l4] [vI s0] (mw f a g) = if s0 = 0 then rn xs L 107 45 [vR 0, vI l1, vI l2, vI l3, vR l4] [] (mw f a g) else rn xs L 107 53 [vR 0, vI l1, vI l2, vI l3, vR l4] [] (mw f a g) :=
  (r_ne0 (pg_of mt_107 dX5_act_42 rfl))
theorem b107_45 (l1 : Int32) (l2 : Int32) (l3 : Int32) (l4 : Nat) (hl4 : is_sf l4) : rn xs L 107 45 [vR 0, vI l1, vI l2, vI l3, vR l4] [] (mw f a g) = if (f l4 0) = 0 then rn xs L 107 55 [vR 0, vI l1, vI l2, vI l3, vR l4] [] (mw f a g) else rn xs L 107 53 [vR 0, vI l1, vI l2, vI l3, vR l4] [] (mw f a g) :=
  (r_ald (pg_of mt_107 dX5_act_45 rfl) rfl).trans <|
  (r_gti (pg_of mt_107 dX5_act_47 rfl) (mw_sf hl4)).trans <|
  (r_eq0 (pg_of mt_107 dX5_act_50 rfl))
theorem b107_53 (l1 : Int32) (l2 : Int32) (l3 : Int32) (l4 : Nat) (hl4 : is_sf l4) : rn xs L 107 53 [vR 0, vI l1, vI l2, vI l3, vR l4] [] (mw f a g) = some (some (vI (0 : Int32)), (mw f a g)) :=
  (r_con (pg_of mt_107 dX5_act_53 rfl) (v2 := (0 : Int32)) (by decide)).trans <|
  (r_ri (pg_of mt_107 dX5_act_54 rfl) mt_107 rfl)
theorem b107_55 (l1 : Int32) (l2 : Int32) (l3 : Int32) (l4 : Nat) (hl4 : is_sf l4) (h1 : ma_in ((f l4 1)) 8 = true) (h2 : ma_in ((((ma_u2 ((ma_u2 f 30 0 ((a 4 ((f l4 1)).toNatClampNeg)))) 30 1 ((((ma_u2 f 30 0 ((a 4 ((f l4 1)).toNatClampNeg)))) l4 1)))) l4 1)) 8 = true) : rn xs L 107 55 [vR 0, vI l1, vI l2, vI l3, vR l4] [] (mw f a g) = (ev xs L 1 4 [vR 30, vI l2, vI l3] (mw ((ma_u2 ((ma_u2 ((ma_u2 f 30 0 ((a 4 ((f l4 1)).toNatClampNeg)))) 30 1 ((((ma_u2 f 30 0 ((a 4 ((f l4 1)).toNatClampNeg)))) l4 1)))) 30 2 ((a 7 ((((ma_u2 ((ma_u2 f 30 0 ((a 4 ((f l4 1)).toNatClampNeg)))) 30 1 ((((ma_u2 f 30 0 ((a 4 ((f l4 1)).toNatClampNeg)))) l4 1)))) l4 1)).toNatClampNeg)))) a g)).bind (fun b => rn xs L 107 116 [vR 0, vI l1, vI l2, vI l3, vR l4] (b.1.toList ++ []) b.2) :=
  (r_ald (pg_of mt_107 dX5_act_55 rfl) rfl).trans <|
  (r_gtr (a := 30) (pg_of mt_107 dX5_act_56 rfl) rfl rfl).trans <|
  (r_ald (pg_of mt_107 dX5_act_59 rfl) rfl).trans <|
  (r_gtr (a := 1) (pg_of mt_107 dX5_act_60 rfl) rfl rfl).trans <|
  (r_gtr (a := 4) (pg_of mt_107 dX5_act_63 rfl) rfl rfl).trans <|
  (r_ald (pg_of mt_107 dX5_act_66 rfl) rfl).trans <|
  (r_gti (pg_of mt_107 dX5_act_68 rfl) (mw_sf hl4)).trans <|
  (r_iald (pg_of mt_107 dX5_act_71 rfl) rfl h1).trans <|
  (r_pti (pg_of mt_107 dX5_act_72 rfl) rfl rfl).trans <|
  (r_ald (pg_of mt_107 dX5_act_75 rfl) rfl).trans <|
  (r_gtr (a := 30) (pg_of mt_107 dX5_act_76 rfl) rfl rfl).trans <|
  (r_ald (pg_of mt_107 dX5_act_79 rfl) rfl).trans <|
  (r_gti (pg_of mt_107 dX5_act_81 rfl) (mw_sf hl4)).trans <|
  (r_pti (pg_of mt_107 dX5_act_84 rfl) rfl rfl).trans <|
  (r_ald (pg_of mt_107 dX5_act_87 rfl) rfl).trans <|
  (r_gtr (a := 30) (pg_of mt_107 dX5_act_88 rfl) rfl rfl).trans <|
  (r_ald (pg_of mt_107 dX5_act_91 rfl) rfl).trans <|
  (r_gtr (a := 1) (pg_of mt_107 dX5_act_92 rfl) rfl rfl).trans <|
  (r_gtr (a := 7) (pg_of mt_107 dX5_act_95 rfl) rfl rfl).trans <|
  (r_ald (pg_of mt_107 dX5_act_98 rfl) rfl).trans <|
  (r_gti (pg_of mt_107 dX5_act_100 rfl) (mw_sf hl4)).trans <|
  (r_iald (pg_of mt_107 dX5_act_103 rfl) rfl h2).trans <|
  (r_pti (pg_of mt_107 dX5_act_104 rfl) rfl rfl).trans <|
  (r_ald (pg_of mt_107 dX5_act_107 rfl) rfl).trans <|
  (r_gtr (a := 30) (pg_of mt_107 dX5_act_108 rfl) rfl rfl).trans <|
  (r_ild (pg_of mt_107 dX5_act_111 rfl) rfl).trans <|
  (r_ild (pg_of mt_107 dX5_act_112 rfl) rfl).trans <|
  (r_call (t := tt_107) (t2 := tt_1) (pg_of mt_107 dX5_act_113 rfl) mt_107 mt_1 rfl rfl (rcv1 rfl) rfl rfl)
theorem b107_116 (l1 : Int32) (l2 : Int32) (l3 : Int32) (l4 : Nat) (s0 : Int32) (hl4 : is_sf l4) : rn xs L 107 116 [vR 0, vI l1, vI l2, vI l3, vR l4] [vI s0] (mw f a g) = some (some (vI s0), (mw f a g)) :=
  (r_ri (pg_of mt_107 dX5_act_116 rfl) mt_107 rfl)
-- 108 LeafFalls.trace(I)I
theorem b108_0 (l1 : Int32) : rn xs L 108 0 [vR 0, vI l1] [] (mw f a g) = (ev xs L 56 3 [vI l1, vI (0 : Int32), vI ((f 30 4) - (1 : Int32))] (mw f a g)).bind (fun b => rn xs L 108 14 [vR 0, vI l1] (b.1.toList ++ []) b.2) :=
  (r_ild (pg_of mt_108 dX5_trace_0 rfl) rfl).trans <|
  (r_con (pg_of mt_108 dX5_trace_1 rfl) (v2 := (0 : Int32)) (by decide)).trans <|
  (r_ald (pg_of mt_108 dX5_trace_2 rfl) rfl).trans <|
  (r_gtr (a := 30) (pg_of mt_108 dX5_trace_3 rfl) rfl rfl).trans <|
  (r_gti (pg_of mt_108 dX5_trace_6 rfl) rfl).trans <|
  (r_con (pg_of mt_108 dX5_trace_9 rfl) (v2 := (1 : Int32)) (by decide)).trans <|
  (r_bin (pg_of mt_108 dX5_trace_10 rfl)).trans <|
  (r_call (t := tt_108) (t2 := tt_56) (pg_of mt_108 dX5_trace_11 rfl) mt_108 mt_56 rfl rfl rfl rfl rfl)
theorem b108_14 (l1 : Int32) (s0 : Int32) : rn xs L 108 14 [vR 0, vI l1] [vI s0] (mw f a g) = if s0 = 0 then rn xs L 108 29 [vR 0, vI l1] [] (mw f a g) else rn xs L 108 17 [vR 0, vI l1] [] (mw f a g) :=
  (r_eq0 (pg_of mt_108 dX5_trace_14 rfl))
theorem b108_17 (l1 : Int32) (h1 : ma_in l1 30 = true) : rn xs L 108 17 [vR 0, vI l1] [] (mw f a g) = some (some (vI (a 31 l1.toNatClampNeg)), (mw f a g)) :=
  (r_ald (pg_of mt_108 dX5_trace_17 rfl) rfl).trans <|
  (r_gtr (a := 30) (pg_of mt_108 dX5_trace_18 rfl) rfl rfl).trans <|
  (r_gtr (a := 31) (pg_of mt_108 dX5_trace_21 rfl) rfl rfl).trans <|
  (r_ild (pg_of mt_108 dX5_trace_24 rfl) rfl).trans <|
  (r_iald (pg_of mt_108 dX5_trace_25 rfl) rfl h1).trans <|
  (r_gto (pg_of mt_108 dX5_trace_26 rfl)).trans <|
  (r_ri (pg_of mt_108 dX5_trace_31 rfl) mt_108 rfl)
theorem b108_29 (l1 : Int32) : rn xs L 108 29 [vR 0, vI l1] [] (mw f a g) = some (some (vI (-3 : Int32)), (mw f a g)) :=
  (r_con (pg_of mt_108 dX5_trace_29 rfl) (v2 := (-3 : Int32)) (by decide)).trans <|
  (r_ri (pg_of mt_108 dX5_trace_31 rfl) mt_108 rfl)
-- 109 LeafFalls.many(I)I
theorem sw109_1 {ls st : List ma_V} {w : ma_W} {x : Int32} : rn xs L 109 1 ls (vI x :: st) w = if x = 0 then rn xs L 109 44 ls st w else if x = 1 then rn xs L 109 52 ls st w else if x = 2 then rn xs L 109 60 ls st w else if x = 3 then rn xs L 109 68 ls st w else if x = 4 then rn xs L 109 76 ls st w else if x = 5 then rn xs L 109 81 ls st w else if x = 6 then rn xs L 109 89 ls st w else rn xs L 109 97 ls st w := by
  by_cases h0 : x = 0
  · rw [if_pos h0, h0]; exact r_swi (t := 44) (pg_of mt_109 dX5_many_1 rfl) (by decide)
  rw [if_neg h0]
  by_cases h1 : x = 1
  · rw [if_pos h1, h1]; exact r_swi (t := 52) (pg_of mt_109 dX5_many_1 rfl) (by decide)
  rw [if_neg h1]
  by_cases h2 : x = 2
  · rw [if_pos h2, h2]; exact r_swi (t := 60) (pg_of mt_109 dX5_many_1 rfl) (by decide)
  rw [if_neg h2]
  by_cases h3 : x = 3
  · rw [if_pos h3, h3]; exact r_swi (t := 68) (pg_of mt_109 dX5_many_1 rfl) (by decide)
  rw [if_neg h3]
  by_cases h4 : x = 4
  · rw [if_pos h4, h4]; exact r_swi (t := 76) (pg_of mt_109 dX5_many_1 rfl) (by decide)
  rw [if_neg h4]
  by_cases h5 : x = 5
  · rw [if_pos h5, h5]; exact r_swi (t := 81) (pg_of mt_109 dX5_many_1 rfl) (by decide)
  rw [if_neg h5]
  by_cases h6 : x = 6
  · rw [if_pos h6, h6]; exact r_swi (t := 89) (pg_of mt_109 dX5_many_1 rfl) (by decide)
  rw [if_neg h6]
  have e0 := i_nei (k := 0) (0 : Int32) (by decide) h0
  have e1 := i_nei (k := 1) (1 : Int32) (by decide) h1
  have e2 := i_nei (k := 2) (2 : Int32) (by decide) h2
  have e3 := i_nei (k := 3) (3 : Int32) (by decide) h3
  have e4 := i_nei (k := 4) (4 : Int32) (by decide) h4
  have e5 := i_nei (k := 5) (5 : Int32) (by decide) h5
  have e6 := i_nei (k := 6) (6 : Int32) (by decide) h6
  exact r_swi (t := 97) (pg_of mt_109 dX5_many_1 rfl) (tsw_out (by omega) (by decide) (by decide))
theorem b109_0 (l1 : Int32) : rn xs L 109 0 [vR 0, vI l1] [] (mw f a g) = if l1 = 0 then rn xs L 109 44 [vR 0, vI l1] [] (mw f a g) else if l1 = 1 then rn xs L 109 52 [vR 0, vI l1] [] (mw f a g) else if l1 = 2 then rn xs L 109 60 [vR 0, vI l1] [] (mw f a g) else if l1 = 3 then rn xs L 109 68 [vR 0, vI l1] [] (mw f a g) else if l1 = 4 then rn xs L 109 76 [vR 0, vI l1] [] (mw f a g) else if l1 = 5 then rn xs L 109 81 [vR 0, vI l1] [] (mw f a g) else if l1 = 6 then rn xs L 109 89 [vR 0, vI l1] [] (mw f a g) else rn xs L 109 97 [vR 0, vI l1] [] (mw f a g) :=
  (r_ild (pg_of mt_109 dX5_many_0 rfl) rfl).trans <|
  (sw109_1)
theorem b109_44 (l1 : Int32) : rn xs L 109 44 [vR 0, vI l1] [] (mw f a g) = some (some (vI (f 1 7)), (mw f a g)) :=
  (r_ald (pg_of mt_109 dX5_many_44 rfl) rfl).trans <|
  (r_gtr (a := 1) (pg_of mt_109 dX5_many_45 rfl) rfl rfl).trans <|
  (r_gti (pg_of mt_109 dX5_many_48 rfl) rfl).trans <|
  (r_ri (pg_of mt_109 dX5_many_51 rfl) mt_109 rfl)
theorem b109_52 (l1 : Int32) : rn xs L 109 52 [vR 0, vI l1] [] (mw f a g) = (ev xs L 41 1 [vR 1] (mw f a g)).bind (fun b => rn xs L 109 59 [vR 0, vI l1] (b.1.toList ++ []) b.2) :=
  (r_ald (pg_of mt_109 dX5_many_52 rfl) rfl).trans <|
  (r_gtr (a := 1) (pg_of mt_109 dX5_many_53 rfl) rfl rfl).trans <|
  (r_call (t := tt_109) (t2 := tt_41) (pg_of mt_109 dX5_many_56 rfl) mt_109 mt_41 rfl rfl (rcv1 rfl) rfl rfl)
theorem b109_59 (l1 : Int32) (s0 : Int32) : rn xs L 109 59 [vR 0, vI l1] [vI s0] (mw f a g) = some (some (vI s0), (mw f a g)) :=
  (r_ri (pg_of mt_109 dX5_many_59 rfl) mt_109 rfl)
theorem b109_60 (l1 : Int32) : rn xs L 109 60 [vR 0, vI l1] [] (mw f a g) = some (some (vI (f 1 8)), (mw f a g)) :=
  (r_ald (pg_of mt_109 dX5_many_60 rfl) rfl).trans <|
  (r_gtr (a := 1) (pg_of mt_109 dX5_many_61 rfl) rfl rfl).trans <|
  (r_gti (pg_of mt_109 dX5_many_64 rfl) rfl).trans <|
  (r_ri (pg_of mt_109 dX5_many_67 rfl) mt_109 rfl)
theorem b109_68 (l1 : Int32) : rn xs L 109 68 [vR 0, vI l1] [] (mw f a g) = (ev xs L 53 3 [vR 1] (mw f a g)).bind (fun b => rn xs L 109 75 [vR 0, vI l1] (b.1.toList ++ []) b.2) :=
  (r_ald (pg_of mt_109 dX5_many_68 rfl) rfl).trans <|
  (r_gtr (a := 1) (pg_of mt_109 dX5_many_69 rfl) rfl rfl).trans <|
  (r_call (t := tt_109) (t2 := tt_53) (pg_of mt_109 dX5_many_72 rfl) mt_109 mt_53 rfl rfl (rcv1 rfl) rfl rfl)
theorem b109_75 (l1 : Int32) (s0 : Int32) : rn xs L 109 75 [vR 0, vI l1] [vI s0] (mw f a g) = some (some (vI s0), (mw f a g)) :=
  (r_ri (pg_of mt_109 dX5_many_75 rfl) mt_109 rfl)
theorem b109_76 (l1 : Int32) : rn xs L 109 76 [vR 0, vI l1] [] (mw f a g) = some (some (vI (f 0 6)), (mw f a g)) :=
  (r_ald (pg_of mt_109 dX5_many_76 rfl) rfl).trans <|
  (r_gti (pg_of mt_109 dX5_many_77 rfl) rfl).trans <|
  (r_ri (pg_of mt_109 dX5_many_80 rfl) mt_109 rfl)
theorem b109_81 (l1 : Int32) : rn xs L 109 81 [vR 0, vI l1] [] (mw f a g) = some (some (vI (f 25 1)), (mw f a g)) :=
  (r_ald (pg_of mt_109 dX5_many_81 rfl) rfl).trans <|
  (r_gtr (a := 25) (pg_of mt_109 dX5_many_82 rfl) rfl rfl).trans <|
  (r_gti (pg_of mt_109 dX5_many_85 rfl) rfl).trans <|
  (r_ri (pg_of mt_109 dX5_many_88 rfl) mt_109 rfl)
theorem b109_89 (l1 : Int32) : rn xs L 109 89 [vR 0, vI l1] [] (mw f a g) = some (some (vI (f 30 4)), (mw f a g)) :=
  (r_ald (pg_of mt_109 dX5_many_89 rfl) rfl).trans <|
  (r_gtr (a := 30) (pg_of mt_109 dX5_many_90 rfl) rfl rfl).trans <|
  (r_gti (pg_of mt_109 dX5_many_93 rfl) rfl).trans <|
  (r_ri (pg_of mt_109 dX5_many_96 rfl) mt_109 rfl)
theorem b109_97 (l1 : Int32) : rn xs L 109 97 [vR 0, vI l1] [] (mw f a g) = some (some (vI (-1 : Int32)), (mw f a g)) :=
  (r_con (pg_of mt_109 dX5_many_97 rfl) (v2 := (-1 : Int32)) (by decide)).trans <|
  (r_ri (pg_of mt_109 dX5_many_98 rfl) mt_109 rfl)
-- 110 LeafFalls.keep()I
theorem b110_0  : rn xs L 110 0 [vR 0] [] (mw f a g) = (ev xs L 33 2 [vR 17, vR 1] (mw f a g)).bind (fun b => rn xs L 110 11 [vR 0] (b.1.toList ++ []) b.2) :=
  (r_ald (pg_of mt_110 dX5_keep_0 rfl) rfl).trans <|
  (r_gtr (a := 17) (pg_of mt_110 dX5_keep_1 rfl) rfl rfl).trans <|
  (r_ald (pg_of mt_110 dX5_keep_4 rfl) rfl).trans <|
  (r_gtr (a := 1) (pg_of mt_110 dX5_keep_5 rfl) rfl rfl).trans <|
  (r_call (t := tt_110) (t2 := tt_33) (pg_of mt_110 dX5_keep_8 rfl) mt_110 mt_33 rfl rfl (rcv1 rfl) rfl rfl)
theorem b110_11  : rn xs L 110 11 [vR 0] [] (mw f a g) = some (some (vI (1 : Int32)), (mw ((ma_u2 f 0 3 ((1 : Int32)))) a g)) :=
  (r_ald (pg_of mt_110 dX5_keep_11 rfl) rfl).trans <|
  (r_con (pg_of mt_110 dX5_keep_12 rfl) (v2 := (1 : Int32)) (by decide)).trans <|
  (r_pti (pg_of mt_110 dX5_keep_13 rfl) rfl (by decide)).trans <|
  (r_con (pg_of mt_110 dX5_keep_16 rfl) (v2 := (1 : Int32)) (by decide)).trans <|
  (r_ri (pg_of mt_110 dX5_keep_17 rfl) mt_110 rfl)
-- 111 LeafFalls.again()I
theorem b111_0  : rn xs L 111 0 [vR 0] [] (mw f a g) = if (f 0 3) = 0 then rn xs L 111 7 [vR 0] [] (mw f a g) else rn xs L 111 10 [vR 0] [] (mw f a g) :=
  (r_ald (pg_of mt_111 dX5_again_0 rfl) rfl).trans <|
  (r_gti (pg_of mt_111 dX5_again_1 rfl) rfl).trans <|
  (r_ne0 (pg_of mt_111 dX5_again_4 rfl))
theorem b111_7  : rn xs L 111 7 [vR 0] [] (mw f a g) = some (some (vI (-3 : Int32)), (mw f a g)) :=
  (r_con (pg_of mt_111 dX5_again_7 rfl) (v2 := (-3 : Int32)) (by decide)).trans <|
  (r_ri (pg_of mt_111 dX5_again_9 rfl) mt_111 rfl)
theorem b111_10  : rn xs L 111 10 [vR 0] [] (mw f a g) = (ev xs L 33 2 [vR 1, vR 17] (mw f a g)).bind (fun b => rn xs L 111 21 [vR 0] (b.1.toList ++ []) b.2) :=
  (r_ald (pg_of mt_111 dX5_again_10 rfl) rfl).trans <|
  (r_gtr (a := 1) (pg_of mt_111 dX5_again_11 rfl) rfl rfl).trans <|
  (r_ald (pg_of mt_111 dX5_again_14 rfl) rfl).trans <|
  (r_gtr (a := 17) (pg_of mt_111 dX5_again_15 rfl) rfl rfl).trans <|
  (r_call (t := tt_111) (t2 := tt_33) (pg_of mt_111 dX5_again_18 rfl) mt_111 mt_33 rfl rfl (rcv1 rfl) rfl rfl)
theorem b111_21  : rn xs L 111 21 [vR 0] [] (mw f a g) = some (some (vI (f 1 7)), (mw f a g)) :=
  (r_ald (pg_of mt_111 dX5_again_21 rfl) rfl).trans <|
  (r_gtr (a := 1) (pg_of mt_111 dX5_again_22 rfl) rfl rfl).trans <|
  (r_gti (pg_of mt_111 dX5_again_25 rfl) rfl).trans <|
  (r_ri (pg_of mt_111 dX5_again_28 rfl) mt_111 rfl)
end
