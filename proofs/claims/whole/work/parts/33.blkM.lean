/-! ===== blocks (laid by a program: wip/whole/layblk.py) ===== -/
section
variable {xs : Nat → Int32} {L : Nat} {f a : Nat → Nat → Int32} {g : Nat → Nat → Int64}
-- 113 LeafFallsModel.begins()V
theorem b113_0 (l1 : ma_V) (l2 : ma_V) : rn xs L 113 0 [vR 44, l1, l2] [] (mw f a g) = rn xs L 113 9 [vR 44, vI (a 45 2), vI (0 : Int32)] [] (mw f a g) :=
  (r_ald (pg_of mt_113 dX6_begins_0 rfl) rfl).trans <|
  (r_gtr (a := 45) (pg_of mt_113 dX6_begins_1 rfl) rfl rfl).trans <|
  (r_con (pg_of mt_113 dX6_begins_4 rfl) (v2 := (2 : Int32)) (by decide)).trans <|
  (r_ialc (j := 2) (pg_of mt_113 dX6_begins_5 rfl) rfl (by decide) (by decide)).trans <|
  (r_ist (pg_of mt_113 dX6_begins_6 rfl) (Nat.le_of_ble_eq_true rfl) rfl).trans <|
  (r_con (pg_of mt_113 dX6_begins_7 rfl) (v2 := (0 : Int32)) (by decide)).trans <|
  (r_ist (pg_of mt_113 dX6_begins_8 rfl) (Nat.le_of_ble_eq_true rfl) rfl)
theorem b113_9 (l1 : Int32) (l2 : Int32) : rn xs L 113 9 [vR 44, vI l1, vI l2] [] (mw f a g) = if l2 < (62 : Int32) then rn xs L 113 15 [vR 44, vI l1, vI l2] [] (mw f a g) else rn xs L 113 28 [vR 44, vI l1, vI l2] [] (mw f a g) :=
  (r_ild (pg_of mt_113 dX6_begins_9 rfl) rfl).trans <|
  (r_con (pg_of mt_113 dX6_begins_10 rfl) (v2 := (62 : Int32)) (by decide)).trans <|
  (r_ge (pg_of mt_113 dX6_begins_12 rfl))
theorem b113_15 (l1 : Int32) (l2 : Int32) (h1 : ma_in l2 62 = true) : rn xs L 113 15 [vR 44, vI l1, vI l2] [] (mw f a g) = rn xs L 113 9 [vR 44, vI l1, vI (l2 + (1 : Int32))] [] (mw f ((ma_u2 a 45 l2.toNatClampNeg ((0 : Int32)))) g) :=
  (r_ald (pg_of mt_113 dX6_begins_15 rfl) rfl).trans <|
  (r_gtr (a := 45) (pg_of mt_113 dX6_begins_16 rfl) rfl rfl).trans <|
  (r_ild (pg_of mt_113 dX6_begins_19 rfl) rfl).trans <|
  (r_con (pg_of mt_113 dX6_begins_20 rfl) (v2 := (0 : Int32)) (by decide)).trans <|
  (r_iast (pg_of mt_113 dX6_begins_21 rfl) rfl h1).trans <|
  (r_inc (pg_of mt_113 dX6_begins_22 rfl) (y := (1 : Int32)) (by decide) rfl rfl).trans <|
  (r_gto (pg_of mt_113 dX6_begins_25 rfl))
theorem b113_28 (l1 : Int32) (l2 : Int32) : rn xs L 113 28 [vR 44, vI l1, vI l2] [] (mw f a g) = rn xs L 113 68 [vR 44, vI l1, vI (0 : Int32)] [] (mw f ((ma_u2 ((ma_u2 ((ma_u2 ((ma_u2 ((ma_u2 a 45 2 l1)) 45 4 ((2 : Int32)))) 45 5 ((1 : Int32)))) 45 6 ((1 : Int32)))) 45 7 ((20 : Int32)))) g) :=
  (r_ald (pg_of mt_113 dX6_begins_28 rfl) rfl).trans <|
  (r_gtr (a := 45) (pg_of mt_113 dX6_begins_29 rfl) rfl rfl).trans <|
  (r_con (pg_of mt_113 dX6_begins_32 rfl) (v2 := (2 : Int32)) (by decide)).trans <|
  (r_ild (pg_of mt_113 dX6_begins_33 rfl) rfl).trans <|
  (r_iasc (j := 2) (pg_of mt_113 dX6_begins_34 rfl) rfl (by decide) (by decide)).trans <|
  (r_ald (pg_of mt_113 dX6_begins_35 rfl) rfl).trans <|
  (r_gtr (a := 45) (pg_of mt_113 dX6_begins_36 rfl) rfl rfl).trans <|
  (r_con (pg_of mt_113 dX6_begins_39 rfl) (v2 := (4 : Int32)) (by decide)).trans <|
  (r_con (pg_of mt_113 dX6_begins_40 rfl) (v2 := (2 : Int32)) (by decide)).trans <|
  (r_iasc (j := 4) (pg_of mt_113 dX6_begins_41 rfl) rfl (by decide) (by decide)).trans <|
  (r_ald (pg_of mt_113 dX6_begins_42 rfl) rfl).trans <|
  (r_gtr (a := 45) (pg_of mt_113 dX6_begins_43 rfl) rfl rfl).trans <|
  (r_con (pg_of mt_113 dX6_begins_46 rfl) (v2 := (5 : Int32)) (by decide)).trans <|
  (r_con (pg_of mt_113 dX6_begins_47 rfl) (v2 := (1 : Int32)) (by decide)).trans <|
  (r_iasc (j := 5) (pg_of mt_113 dX6_begins_48 rfl) rfl (by decide) (by decide)).trans <|
  (r_ald (pg_of mt_113 dX6_begins_49 rfl) rfl).trans <|
  (r_gtr (a := 45) (pg_of mt_113 dX6_begins_50 rfl) rfl rfl).trans <|
  (r_con (pg_of mt_113 dX6_begins_53 rfl) (v2 := (6 : Int32)) (by decide)).trans <|
  (r_con (pg_of mt_113 dX6_begins_55 rfl) (v2 := (1 : Int32)) (by decide)).trans <|
  (r_iasc (j := 6) (pg_of mt_113 dX6_begins_56 rfl) rfl (by decide) (by decide)).trans <|
  (r_ald (pg_of mt_113 dX6_begins_57 rfl) rfl).trans <|
  (r_gtr (a := 45) (pg_of mt_113 dX6_begins_58 rfl) rfl rfl).trans <|
  (r_con (pg_of mt_113 dX6_begins_61 rfl) (v2 := (7 : Int32)) (by decide)).trans <|
  (r_con (pg_of mt_113 dX6_begins_63 rfl) (v2 := (20 : Int32)) (by decide)).trans <|
  (r_iasc (j := 7) (pg_of mt_113 dX6_begins_65 rfl) rfl (by decide) (by decide)).trans <|
  (r_con (pg_of mt_113 dX6_begins_66 rfl) (v2 := (0 : Int32)) (by decide)).trans <|
  (r_ist (pg_of mt_113 dX6_begins_67 rfl) (Nat.le_of_ble_eq_true rfl) rfl)
theorem b113_68 (l1 : Int32) (l2 : Int32) : rn xs L 113 68 [vR 44, vI l1, vI l2] [] (mw f a g) = if l2 < (6 : Int32) then rn xs L 113 74 [vR 44, vI l1, vI l2] [] (mw f a g) else rn xs L 113 90 [vR 44, vI l1, vI l2] [] (mw f a g) :=
  (r_ild (pg_of mt_113 dX6_begins_68 rfl) rfl).trans <|
  (r_con (pg_of mt_113 dX6_begins_69 rfl) (v2 := (6 : Int32)) (by decide)).trans <|
  (r_ge (pg_of mt_113 dX6_begins_71 rfl))
theorem b113_74 (l1 : Int32) (l2 : Int32) (h1 : ma_in (((8 : Int32) + l2)) 62 = true) : rn xs L 113 74 [vR 44, vI l1, vI l2] [] (mw f a g) = rn xs L 113 68 [vR 44, vI l1, vI (l2 + (1 : Int32))] [] (mw f ((ma_u2 a 45 (((8 : Int32) + l2)).toNatClampNeg ((1 : Int32)))) g) :=
  (r_ald (pg_of mt_113 dX6_begins_74 rfl) rfl).trans <|
  (r_gtr (a := 45) (pg_of mt_113 dX6_begins_75 rfl) rfl rfl).trans <|
  (r_con (pg_of mt_113 dX6_begins_78 rfl) (v2 := (8 : Int32)) (by decide)).trans <|
  (r_ild (pg_of mt_113 dX6_begins_80 rfl) rfl).trans <|
  (r_bin (pg_of mt_113 dX6_begins_81 rfl)).trans <|
  (r_con (pg_of mt_113 dX6_begins_82 rfl) (v2 := (1 : Int32)) (by decide)).trans <|
  (r_iast (pg_of mt_113 dX6_begins_83 rfl) rfl h1).trans <|
  (r_inc (pg_of mt_113 dX6_begins_84 rfl) (y := (1 : Int32)) (by decide) rfl rfl).trans <|
  (r_gto (pg_of mt_113 dX6_begins_87 rfl))
theorem b113_90 (l1 : Int32) (l2 : Int32) : rn xs L 113 90 [vR 44, vI l1, vI l2] [] (mw f a g) = some (none, (mw f a g)) :=
  (r_rv (pg_of mt_113 dX6_begins_90 rfl) mt_113 rfl)
-- 114 LeafFallsModel.feed(JI)I
theorem b114_0 (l1 : Int64) (l3 : Int32) (l4 : ma_V) : rn xs L 114 0 [vR 44, vL l1, (vS 0), vI l3, l4] [] (mw f a g) = (ev xs L 115 6 [vL (l3).toInt64, vL (1 : Int64), vL (8 : Int64)] (mw f a g)).bind (fun b => rn xs L 114 9 [vR 44, vL l1, (vS 0), vI l3, l4] (b.1.toList ++ []) b.2) :=
  (r_ild (pg_of mt_114 dX6_feed_0 rfl) rfl).trans <|
  (r_i2l (pg_of mt_114 dX6_feed_1 rfl)).trans <|
  (r_lcn (pg_of mt_114 dX6_feed_2 rfl) (v2 := (1 : Int64)) (by decide)).trans <|
  (r_lcn (pg_of mt_114 dX6_feed_3 rfl) (v2 := (8 : Int64)) rfl).trans <|
  (r_call (t := tt_114) (t2 := tt_115) (pg_of mt_114 dX6_feed_6 rfl) mt_114 mt_115 rfl rfl rfl rfl rfl)
theorem b114_9 (l1 : Int64) (l3 : Int32) (l4 : ma_V) (s0 : Int32) : rn xs L 114 9 [vR 44, vL l1, (vS 0), vI l3, l4] [vI s0] (mw f a g) = if s0 = 0 then rn xs L 114 12 [vR 44, vL l1, (vS 0), vI l3, l4] [] (mw f a g) else rn xs L 114 14 [vR 44, vL l1, (vS 0), vI l3, l4] [] (mw f a g) :=
  (r_ne0 (pg_of mt_114 dX6_feed_9 rfl))
theorem b114_12 (l1 : Int64) (l3 : Int32) (l4 : ma_V) : rn xs L 114 12 [vR 44, vL l1, (vS 0), vI l3, l4] [] (mw f a g) = some (some (vI (-1 : Int32)), (mw f a g)) :=
  (r_con (pg_of mt_114 dX6_feed_12 rfl) (v2 := (-1 : Int32)) (by decide)).trans <|
  (r_ri (pg_of mt_114 dX6_feed_13 rfl) mt_114 rfl)
theorem b114_14 (l1 : Int64) (l3 : Int32) (l4 : ma_V) : rn xs L 114 14 [vR 44, vL l1, (vS 0), vI l3, l4] [] (mw f a g) = if (200 : Int32) < ((f 44 6) + l3) then rn xs L 114 26 [vR 44, vL l1, (vS 0), vI l3, l4] [] (mw f a g) else rn xs L 114 29 [vR 44, vL l1, (vS 0), vI l3, l4] [] (mw f a g) :=
  (r_ald (pg_of mt_114 dX6_feed_14 rfl) rfl).trans <|
  (r_gti (pg_of mt_114 dX6_feed_15 rfl) rfl).trans <|
  (r_ild (pg_of mt_114 dX6_feed_18 rfl) rfl).trans <|
  (r_bin (pg_of mt_114 dX6_feed_19 rfl)).trans <|
  (r_con (pg_of mt_114 dX6_feed_20 rfl) (v2 := (200 : Int32)) (by decide)).trans <|
  (r_le (pg_of mt_114 dX6_feed_23 rfl))
theorem b114_26 (l1 : Int64) (l3 : Int32) (l4 : ma_V) : rn xs L 114 26 [vR 44, vL l1, (vS 0), vI l3, l4] [] (mw f a g) = some (some (vI (-2 : Int32)), (mw f a g)) :=
  (r_con (pg_of mt_114 dX6_feed_26 rfl) (v2 := (-2 : Int32)) (by decide)).trans <|
  (r_ri (pg_of mt_114 dX6_feed_28 rfl) mt_114 rfl)
theorem b114_29 (l1 : Int64) (l3 : Int32) (l4 : ma_V) : rn xs L 114 29 [vR 44, vL l1, (vS 0), vI l3, l4] [] (mw f a g) = rn xs L 114 32 [vR 44, vL l1, (vS 0), vI l3, vI (0 : Int32)] [] (mw f a g) :=
  (r_con (pg_of mt_114 dX6_feed_29 rfl) (v2 := (0 : Int32)) (by decide)).trans <|
  (r_ist (pg_of mt_114 dX6_feed_30 rfl) (Nat.le_of_ble_eq_true rfl) rfl)
theorem b114_32 (l1 : Int64) (l3 : Int32) (l4 : Int32) : rn xs L 114 32 [vR 44, vL l1, (vS 0), vI l3, vI l4] [] (mw f a g) = if l4 < l3 then rn xs L 114 38 [vR 44, vL l1, (vS 0), vI l3, vI l4] [] (mw f a g) else rn xs L 114 75 [vR 44, vL l1, (vS 0), vI l3, vI l4] [] (mw f a g) :=
  (r_ild (pg_of mt_114 dX6_feed_32 rfl) rfl).trans <|
  (r_ild (pg_of mt_114 dX6_feed_34 rfl) rfl).trans <|
  (r_ge (pg_of mt_114 dX6_feed_35 rfl))
theorem b114_38 (l1 : Int64) (l3 : Int32) (l4 : Int32) (h1 : ma_in ((f 44 6)) 200 = true) : rn xs L 114 38 [vR 44, vL l1, (vS 0), vI l3, vI l4] [] (mw f a g) = rn xs L 114 32 [vR 44, vL l1, (vS 0), vI l3, vI (l4 + (1 : Int32))] [] (mw ((ma_u2 f 44 6 (((f 44 6) + (1 : Int32))))) ((ma_u2 a 49 ((f 44 6)).toNatClampNeg ((((l1 >>> ((((8 : Int32) * l4)).toInt64 &&& 63)) &&& (255 : Int64))).toInt32))) g) :=
  (r_ald (pg_of mt_114 dX6_feed_38 rfl) rfl).trans <|
  (r_gtr (a := 49) (pg_of mt_114 dX6_feed_39 rfl) rfl rfl).trans <|
  (r_ald (pg_of mt_114 dX6_feed_42 rfl) rfl).trans <|
  (r_gti (pg_of mt_114 dX6_feed_43 rfl) rfl).trans <|
  (r_lld (pg_of mt_114 dX6_feed_46 rfl) rfl).trans <|
  (r_con (pg_of mt_114 dX6_feed_47 rfl) (v2 := (8 : Int32)) (by decide)).trans <|
  (r_ild (pg_of mt_114 dX6_feed_49 rfl) rfl).trans <|
  (r_bin (pg_of mt_114 dX6_feed_51 rfl)).trans <|
  (r_lsh (pg_of mt_114 dX6_feed_52 rfl)).trans <|
  (r_lcn (pg_of mt_114 dX6_feed_53 rfl) (v2 := (255 : Int64)) rfl).trans <|
  (r_lbn (pg_of mt_114 dX6_feed_56 rfl)).trans <|
  (r_l2i (pg_of mt_114 dX6_feed_57 rfl)).trans <|
  (r_iast (pg_of mt_114 dX6_feed_58 rfl) rfl h1).trans <|
  (r_ald (pg_of mt_114 dX6_feed_59 rfl) rfl).trans <|
  (r_dup (pg_of mt_114 dX6_feed_60 rfl) rfl).trans <|
  (r_gti (pg_of mt_114 dX6_feed_61 rfl) rfl).trans <|
  (r_con (pg_of mt_114 dX6_feed_64 rfl) (v2 := (1 : Int32)) (by decide)).trans <|
  (r_bin (pg_of mt_114 dX6_feed_65 rfl)).trans <|
  (r_pti (pg_of mt_114 dX6_feed_66 rfl) rfl rfl).trans <|
  (r_inc (pg_of mt_114 dX6_feed_69 rfl) (y := (1 : Int32)) (by decide) rfl rfl).trans <|
  (r_gto (pg_of mt_114 dX6_feed_72 rfl))
theorem b114_75 (l1 : Int64) (l3 : Int32) (l4 : Int32) : rn xs L 114 75 [vR 44, vL l1, (vS 0), vI l3, vI l4] [] (mw f a g) = some (some (vI (f 44 6)), (mw f a g)) :=
  (r_ald (pg_of mt_114 dX6_feed_75 rfl) rfl).trans <|
  (r_gti (pg_of mt_114 dX6_feed_76 rfl) rfl).trans <|
  (r_ri (pg_of mt_114 dX6_feed_79 rfl) mt_114 rfl)
-- 115 LeafFallsModel.isIn(JJJ)Z
theorem b115_0 (l0 : Int64) (l2 : Int64) (l4 : Int64) : rn xs L 115 0 [vL l0, (vS 0), vL l2, (vS 0), vL l4, (vS 0)] [] (mw f a g) = if (lg_cmp l0 l2) < 0 then rn xs L 115 17 [vL l0, (vS 0), vL l2, (vS 0), vL l4, (vS 0)] [] (mw f a g) else rn xs L 115 6 [vL l0, (vS 0), vL l2, (vS 0), vL l4, (vS 0)] [] (mw f a g) :=
  (r_lld (pg_of mt_115 dX6_isIn_0 rfl) rfl).trans <|
  (r_lld (pg_of mt_115 dX6_isIn_1 rfl) rfl).trans <|
  (r_lcp (pg_of mt_115 dX6_isIn_2 rfl)).trans <|
  (r_lt0 (pg_of mt_115 dX6_isIn_3 rfl))
theorem b115_6 (l0 : Int64) (l2 : Int64) (l4 : Int64) : rn xs L 115 6 [vL l0, (vS 0), vL l2, (vS 0), vL l4, (vS 0)] [] (mw f a g) = if 0 < (lg_cmp l0 l4) then rn xs L 115 17 [vL l0, (vS 0), vL l2, (vS 0), vL l4, (vS 0)] [] (mw f a g) else rn xs L 115 13 [vL l0, (vS 0), vL l2, (vS 0), vL l4, (vS 0)] [] (mw f a g) :=
  (r_lld (pg_of mt_115 dX6_isIn_6 rfl) rfl).trans <|
  (r_lld (pg_of mt_115 dX6_isIn_7 rfl) rfl).trans <|
  (r_lcp (pg_of mt_115 dX6_isIn_9 rfl)).trans <|
  (r_gt0 (pg_of mt_115 dX6_isIn_10 rfl))
theorem b115_13 (l0 : Int64) (l2 : Int64) (l4 : Int64) : rn xs L 115 13 [vL l0, (vS 0), vL l2, (vS 0), vL l4, (vS 0)] [] (mw f a g) = some (some (vI (1 : Int32)), (mw f a g)) :=
  (r_con (pg_of mt_115 dX6_isIn_13 rfl) (v2 := (1 : Int32)) (by decide)).trans <|
  (r_gto (pg_of mt_115 dX6_isIn_14 rfl)).trans <|
  (r_rz (pg_of mt_115 dX6_isIn_18 rfl) mt_115 rfl (Or.inr rfl))
theorem b115_17 (l0 : Int64) (l2 : Int64) (l4 : Int64) : rn xs L 115 17 [vL l0, (vS 0), vL l2, (vS 0), vL l4, (vS 0)] [] (mw f a g) = some (some (vI (0 : Int32)), (mw f a g)) :=
  (r_con (pg_of mt_115 dX6_isIn_17 rfl) (v2 := (0 : Int32)) (by decide)).trans <|
  (r_rz (pg_of mt_115 dX6_isIn_18 rfl) mt_115 rfl (Or.inl rfl))
-- 116 LeafFallsModel.autumn()I
theorem b116_0  : rn xs L 116 0 [vR 44] [] (mw f a g) = (ev xs L 117 3 [vR 45, vR 48] (mw f a g)).bind (fun b => rn xs L 116 11 [vR 44] (b.1.toList ++ []) b.2) :=
  (r_ald (pg_of mt_116 dX6_autumn_0 rfl) rfl).trans <|
  (r_gtr (a := 45) (pg_of mt_116 dX6_autumn_1 rfl) rfl rfl).trans <|
  (r_ald (pg_of mt_116 dX6_autumn_4 rfl) rfl).trans <|
  (r_gtr (a := 48) (pg_of mt_116 dX6_autumn_5 rfl) rfl rfl).trans <|
  (r_call (t := tt_116) (t2 := tt_117) (pg_of mt_116 dX6_autumn_8 rfl) mt_116 mt_117 rfl rfl rfl rfl rfl)
theorem b116_11  : rn xs L 116 11 [vR 44] [] (mw f a g) = (ev xs L 113 3 [vR 44] (mw f a g)).bind (fun b => rn xs L 116 15 [vR 44] (b.1.toList ++ []) b.2) :=
  (r_ald (pg_of mt_116 dX6_autumn_11 rfl) rfl).trans <|
  (r_call (t := tt_116) (t2 := tt_113) (pg_of mt_116 dX6_autumn_12 rfl) mt_116 mt_113 rfl rfl (rcv1 rfl) rfl rfl)
theorem b116_15  : rn xs L 116 15 [vR 44] [] (mw f a g) = (ev xs L 118 2 [vR 44] (mw ((ma_u2 ((ma_u2 f 44 9 ((0 : Int32)))) 44 11 ((0 : Int32)))) a g)).bind (fun b => rn xs L 116 29 [vR 44] (b.1.toList ++ []) b.2) :=
  (r_ald (pg_of mt_116 dX6_autumn_15 rfl) rfl).trans <|
  (r_con (pg_of mt_116 dX6_autumn_16 rfl) (v2 := (0 : Int32)) (by decide)).trans <|
  (r_pti (pg_of mt_116 dX6_autumn_17 rfl) rfl rfl).trans <|
  (r_ald (pg_of mt_116 dX6_autumn_20 rfl) rfl).trans <|
  (r_con (pg_of mt_116 dX6_autumn_21 rfl) (v2 := (0 : Int32)) (by decide)).trans <|
  (r_pti (pg_of mt_116 dX6_autumn_22 rfl) rfl (by decide)).trans <|
  (r_ald (pg_of mt_116 dX6_autumn_25 rfl) rfl).trans <|
  (r_call (t := tt_116) (t2 := tt_118) (pg_of mt_116 dX6_autumn_26 rfl) mt_116 mt_118 rfl rfl (rcv1 rfl) rfl rfl)
theorem b116_29  : rn xs L 116 29 [vR 44] [] (mw f a g) = if (f 44 11) = 0 then rn xs L 116 36 [vR 44] [] (mw f a g) else rn xs L 116 50 [vR 44] [] (mw f a g) :=
  (r_ald (pg_of mt_116 dX6_autumn_29 rfl) rfl).trans <|
  (r_gti (pg_of mt_116 dX6_autumn_30 rfl) rfl).trans <|
  (r_ne0 (pg_of mt_116 dX6_autumn_33 rfl))
theorem b116_36  : rn xs L 116 36 [vR 44] [] (mw f a g) = if (f 44 7) = 0 then rn xs L 116 50 [vR 44] [] (mw f a g) else rn xs L 116 43 [vR 44] [] (mw f a g) :=
  (r_ald (pg_of mt_116 dX6_autumn_36 rfl) rfl).trans <|
  (r_gti (pg_of mt_116 dX6_autumn_37 rfl) rfl).trans <|
  (r_eq0 (pg_of mt_116 dX6_autumn_40 rfl))
theorem b116_43  : rn xs L 116 43 [vR 44] [] (mw f a g) = (ev xs L 122 3 [vR 44] (mw f a g)).bind (fun b => rn xs L 116 47 [vR 44] (b.1.toList ++ []) b.2) :=
  (r_ald (pg_of mt_116 dX6_autumn_43 rfl) rfl).trans <|
  (r_call (t := tt_116) (t2 := tt_122) (pg_of mt_116 dX6_autumn_44 rfl) mt_116 mt_122 rfl rfl (rcv1 rfl) rfl rfl)
theorem b116_47  : rn xs L 116 47 [vR 44] [] (mw f a g) = rn xs L 116 29 [vR 44] [] (mw f a g) :=
  (r_gto (pg_of mt_116 dX6_autumn_47 rfl))
theorem b116_50  : rn xs L 116 50 [vR 44] [] (mw f a g) = if (((ma_u2 f 44 6 ((0 : Int32)))) 44 11) = 0 then rn xs L 116 81 [vR 44] [] (mw ((ma_u2 f 44 6 ((0 : Int32)))) a g) else rn xs L 116 62 [vR 44] [] (mw ((ma_u2 f 44 6 ((0 : Int32)))) a g) :=
  (r_ald (pg_of mt_116 dX6_autumn_50 rfl) rfl).trans <|
  (r_con (pg_of mt_116 dX6_autumn_51 rfl) (v2 := (0 : Int32)) (by decide)).trans <|
  (r_pti (pg_of mt_116 dX6_autumn_52 rfl) rfl rfl).trans <|
  (r_ald (pg_of mt_116 dX6_autumn_55 rfl) rfl).trans <|
  (r_gti (pg_of mt_116 dX6_autumn_56 rfl) rfl).trans <|
  (r_eq0 (pg_of mt_116 dX6_autumn_59 rfl))
theorem b116_62  : rn xs L 116 62 [vR 44] [] (mw f a g) = (ev xs L 117 3 [vR 48, vR 45] (mw f a g)).bind (fun b => rn xs L 116 73 [vR 44] (b.1.toList ++ []) b.2) :=
  (r_ald (pg_of mt_116 dX6_autumn_62 rfl) rfl).trans <|
  (r_gtr (a := 48) (pg_of mt_116 dX6_autumn_63 rfl) rfl rfl).trans <|
  (r_ald (pg_of mt_116 dX6_autumn_66 rfl) rfl).trans <|
  (r_gtr (a := 45) (pg_of mt_116 dX6_autumn_67 rfl) rfl rfl).trans <|
  (r_call (t := tt_116) (t2 := tt_117) (pg_of mt_116 dX6_autumn_70 rfl) mt_116 mt_117 rfl rfl rfl rfl rfl)
theorem b116_73  : rn xs L 116 73 [vR 44] [] (mw f a g) = some (some (vI ((-100 : Int32) - (f 44 8))), (mw f a g)) :=
  (r_con (pg_of mt_116 dX6_autumn_73 rfl) (v2 := (-100 : Int32)) (by decide)).trans <|
  (r_ald (pg_of mt_116 dX6_autumn_75 rfl) rfl).trans <|
  (r_gti (pg_of mt_116 dX6_autumn_76 rfl) rfl).trans <|
  (r_bin (pg_of mt_116 dX6_autumn_79 rfl)).trans <|
  (r_ri (pg_of mt_116 dX6_autumn_80 rfl) mt_116 rfl)
theorem b116_81  : rn xs L 116 81 [vR 44] [] (mw f a g) = some (some (vI (a 45 0)), (mw ((ma_u2 f 44 14 ((0 : Int32)))) a g)) :=
  (r_ald (pg_of mt_116 dX6_autumn_81 rfl) rfl).trans <|
  (r_con (pg_of mt_116 dX6_autumn_82 rfl) (v2 := (0 : Int32)) (by decide)).trans <|
  (r_pti (pg_of mt_116 dX6_autumn_83 rfl) rfl rfl).trans <|
  (r_ald (pg_of mt_116 dX6_autumn_86 rfl) rfl).trans <|
  (r_gtr (a := 45) (pg_of mt_116 dX6_autumn_87 rfl) rfl rfl).trans <|
  (r_con (pg_of mt_116 dX6_autumn_90 rfl) (v2 := (0 : Int32)) (by decide)).trans <|
  (r_ialc (j := 0) (pg_of mt_116 dX6_autumn_91 rfl) rfl (by decide) (by decide)).trans <|
  (r_ri (pg_of mt_116 dX6_autumn_92 rfl) mt_116 rfl)
-- 117 LeafFallsModel.copyRow([I[I)V
theorem b117_0 (l0 : Nat) (l1 : Nat) (l2 : ma_V) (hl0 : is_rw l0) (hl1 : is_rw l1) : rn xs L 117 0 [vR l0, vR l1, l2] [] (mw f a g) = rn xs L 117 2 [vR l0, vR l1, vI (0 : Int32)] [] (mw f a g) :=
  (r_con (pg_of mt_117 dX6_copyRow_0 rfl) (v2 := (0 : Int32)) (by decide)).trans <|
  (r_ist (pg_of mt_117 dX6_copyRow_1 rfl) (Nat.le_of_ble_eq_true rfl) rfl)
theorem b117_2 (l0 : Nat) (l1 : Nat) (l2 : Int32) (hl0 : is_rw l0) (hl1 : is_rw l1) : rn xs L 117 2 [vR l0, vR l1, vI l2] [] (mw f a g) = if l2 < (62 : Int32) then rn xs L 117 8 [vR l0, vR l1, vI l2] [] (mw f a g) else rn xs L 117 20 [vR l0, vR l1, vI l2] [] (mw f a g) :=
  (r_ild (pg_of mt_117 dX6_copyRow_2 rfl) rfl).trans <|
  (r_con (pg_of mt_117 dX6_copyRow_3 rfl) (v2 := (62 : Int32)) (by decide)).trans <|
  (r_ge (pg_of mt_117 dX6_copyRow_5 rfl))
theorem b117_8 (l0 : Nat) (l1 : Nat) (l2 : Int32) (hl0 : is_rw l0) (hl1 : is_rw l1) (h1 : ma_in l2 62 = true) (h2 : ma_in l2 62 = true) : rn xs L 117 8 [vR l0, vR l1, vI l2] [] (mw f a g) = rn xs L 117 2 [vR l0, vR l1, vI (l2 + (1 : Int32))] [] (mw f ((ma_u2 a l1 l2.toNatClampNeg ((a l0 l2.toNatClampNeg)))) g) :=
  (r_ald (pg_of mt_117 dX6_copyRow_8 rfl) rfl).trans <|
  (r_ild (pg_of mt_117 dX6_copyRow_9 rfl) rfl).trans <|
  (r_ald (pg_of mt_117 dX6_copyRow_10 rfl) rfl).trans <|
  (r_ild (pg_of mt_117 dX6_copyRow_11 rfl) rfl).trans <|
  (r_iald (pg_of mt_117 dX6_copyRow_12 rfl) (mw_rw hl0) h1).trans <|
  (r_iast (pg_of mt_117 dX6_copyRow_13 rfl) (mw_rw hl1) h2).trans <|
  (r_inc (pg_of mt_117 dX6_copyRow_14 rfl) (y := (1 : Int32)) (by decide) rfl rfl).trans <|
  (r_gto (pg_of mt_117 dX6_copyRow_17 rfl))
theorem b117_20 (l0 : Nat) (l1 : Nat) (l2 : Int32) (hl0 : is_rw l0) (hl1 : is_rw l1) : rn xs L 117 20 [vR l0, vR l1, vI l2] [] (mw f a g) = some (none, (mw f a g)) :=
  (r_rv (pg_of mt_117 dX6_copyRow_20 rfl) mt_117 rfl)
-- 118 LeafFallsModel.nextToken()V
theorem b118_0 (l1 : ma_V) : rn xs L 118 0 [vR 44, l1] [] (mw f a g) = rn xs L 118 8 [vR 44, l1] [] (mw ((ma_u2 f 44 8 ((f 44 9)))) a g) :=
  (r_ald (pg_of mt_118 dX6_nextToken_0 rfl) rfl).trans <|
  (r_ald (pg_of mt_118 dX6_nextToken_1 rfl) rfl).trans <|
  (r_gti (pg_of mt_118 dX6_nextToken_2 rfl) rfl).trans <|
  (r_pti (pg_of mt_118 dX6_nextToken_5 rfl) rfl rfl)
theorem b118_8 (l1 : ma_V) : rn xs L 118 8 [vR 44, l1] [] (mw f a g) = (ev xs L 119 2 [vR 44, vI (f 44 8)] (mw f a g)).bind (fun b => rn xs L 118 16 [vR 44, l1] (b.1.toList ++ []) b.2) :=
  (r_ald (pg_of mt_118 dX6_nextToken_8 rfl) rfl).trans <|
  (r_ald (pg_of mt_118 dX6_nextToken_9 rfl) rfl).trans <|
  (r_gti (pg_of mt_118 dX6_nextToken_10 rfl) rfl).trans <|
  (r_call (t := tt_118) (t2 := tt_119) (pg_of mt_118 dX6_nextToken_13 rfl) mt_118 mt_119 rfl rfl (rcv1 rfl) rfl rfl)
theorem b118_16 (l1 : ma_V) (s0 : Int32) : rn xs L 118 16 [vR 44, l1] [vI s0] (mw f a g) = if s0 = (32 : Int32) then rn xs L 118 21 [vR 44, l1] [] (mw f a g) else rn xs L 118 34 [vR 44, l1] [] (mw f a g) :=
  (r_con (pg_of mt_118 dX6_nextToken_16 rfl) (v2 := (32 : Int32)) (by decide)).trans <|
  (r_ne (pg_of mt_118 dX6_nextToken_18 rfl))
theorem b118_21 (l1 : ma_V) : rn xs L 118 21 [vR 44, l1] [] (mw f a g) = rn xs L 118 8 [vR 44, l1] [] (mw ((ma_u2 f 44 8 (((f 44 8) + (1 : Int32))))) a g) :=
  (r_ald (pg_of mt_118 dX6_nextToken_21 rfl) rfl).trans <|
  (r_dup (pg_of mt_118 dX6_nextToken_22 rfl) rfl).trans <|
  (r_gti (pg_of mt_118 dX6_nextToken_23 rfl) rfl).trans <|
  (r_con (pg_of mt_118 dX6_nextToken_26 rfl) (v2 := (1 : Int32)) (by decide)).trans <|
  (r_bin (pg_of mt_118 dX6_nextToken_27 rfl)).trans <|
  (r_pti (pg_of mt_118 dX6_nextToken_28 rfl) rfl rfl).trans <|
  (r_gto (pg_of mt_118 dX6_nextToken_31 rfl))
theorem b118_34 (l1 : ma_V) : rn xs L 118 34 [vR 44, l1] [] (mw f a g) = (ev xs L 119 2 [vR 44, vI (((ma_u2 f 44 9 ((f 44 8)))) 44 8)] (mw ((ma_u2 f 44 9 ((f 44 8)))) a g)).bind (fun b => rn xs L 118 50 [vR 44, l1] (b.1.toList ++ []) b.2) :=
  (r_ald (pg_of mt_118 dX6_nextToken_34 rfl) rfl).trans <|
  (r_ald (pg_of mt_118 dX6_nextToken_35 rfl) rfl).trans <|
  (r_gti (pg_of mt_118 dX6_nextToken_36 rfl) rfl).trans <|
  (r_pti (pg_of mt_118 dX6_nextToken_39 rfl) rfl rfl).trans <|
  (r_ald (pg_of mt_118 dX6_nextToken_42 rfl) rfl).trans <|
  (r_ald (pg_of mt_118 dX6_nextToken_43 rfl) rfl).trans <|
  (r_gti (pg_of mt_118 dX6_nextToken_44 rfl) rfl).trans <|
  (r_call (t := tt_118) (t2 := tt_119) (pg_of mt_118 dX6_nextToken_47 rfl) mt_118 mt_119 rfl rfl (rcv1 rfl) rfl rfl)
theorem b118_50 (l1 : ma_V) (s0 : Int32) : rn xs L 118 50 [vR 44, l1] [vI s0] (mw f a g) = if s0 < 0 then rn xs L 118 56 [vR 44, vI s0] [vR 44] (mw f a g) else rn xs L 118 60 [vR 44, vI s0] [vR 44] (mw f a g) :=
  (r_ist (pg_of mt_118 dX6_nextToken_50 rfl) (Nat.le_of_ble_eq_true rfl) rfl).trans <|
  (r_ald (pg_of mt_118 dX6_nextToken_51 rfl) rfl).trans <|
  (r_ild (pg_of mt_118 dX6_nextToken_52 rfl) rfl).trans <|
  (r_ge0 (pg_of mt_118 dX6_nextToken_53 rfl))
theorem b118_56 (l1 : Int32) : rn xs L 118 56 [vR 44, vI l1] [vR 44] (mw f a g) = rn xs L 118 91 [vR 44, vI l1] [] (mw ((ma_u2 ((ma_u2 f 44 7 ((0 : Int32)))) 44 10 ((0 : Int32)))) a g) :=
  (r_con (pg_of mt_118 dX6_nextToken_56 rfl) (v2 := (0 : Int32)) (by decide)).trans <|
  (r_gto (pg_of mt_118 dX6_nextToken_57 rfl)).trans <|
  (r_pti (pg_of mt_118 dX6_nextToken_83 rfl) rfl rfl).trans <|
  (r_ald (pg_of mt_118 dX6_nextToken_86 rfl) rfl).trans <|
  (r_con (pg_of mt_118 dX6_nextToken_87 rfl) (v2 := (0 : Int32)) (by decide)).trans <|
  (r_pti (pg_of mt_118 dX6_nextToken_88 rfl) rfl rfl)
theorem b118_60 (l1 : Int32) : rn xs L 118 60 [vR 44, vI l1] [vR 44] (mw f a g) = (ev xs L 120 1 [vI l1] (mw f a g)).bind (fun b => rn xs L 118 64 [vR 44, vI l1] (b.1.toList ++ [vR 44]) b.2) :=
  (r_ild (pg_of mt_118 dX6_nextToken_60 rfl) rfl).trans <|
  (r_call (t := tt_118) (t2 := tt_120) (pg_of mt_118 dX6_nextToken_61 rfl) mt_118 mt_120 rfl rfl rfl rfl rfl)
theorem b118_64 (l1 : Int32) (s0 : Int32) : rn xs L 118 64 [vR 44, vI l1] [vI s0, vR 44] (mw f a g) = if s0 = 0 then rn xs L 118 71 [vR 44, vI l1] [vR 44] (mw f a g) else rn xs L 118 67 [vR 44, vI l1] [vR 44] (mw f a g) :=
  (r_eq0 (pg_of mt_118 dX6_nextToken_64 rfl))
theorem b118_67 (l1 : Int32) : rn xs L 118 67 [vR 44, vI l1] [vR 44] (mw f a g) = rn xs L 118 91 [vR 44, vI l1] [] (mw ((ma_u2 ((ma_u2 f 44 7 ((1 : Int32)))) 44 10 ((0 : Int32)))) a g) :=
  (r_con (pg_of mt_118 dX6_nextToken_67 rfl) (v2 := (1 : Int32)) (by decide)).trans <|
  (r_gto (pg_of mt_118 dX6_nextToken_68 rfl)).trans <|
  (r_pti (pg_of mt_118 dX6_nextToken_83 rfl) rfl rfl).trans <|
  (r_ald (pg_of mt_118 dX6_nextToken_86 rfl) rfl).trans <|
  (r_con (pg_of mt_118 dX6_nextToken_87 rfl) (v2 := (0 : Int32)) (by decide)).trans <|
  (r_pti (pg_of mt_118 dX6_nextToken_88 rfl) rfl rfl)
theorem b118_71 (l1 : Int32) : rn xs L 118 71 [vR 44, vI l1] [vR 44] (mw f a g) = (ev xs L 121 1 [vI l1] (mw f a g)).bind (fun b => rn xs L 118 75 [vR 44, vI l1] (b.1.toList ++ [vR 44]) b.2) :=
  (r_ild (pg_of mt_118 dX6_nextToken_71 rfl) rfl).trans <|
  (r_call (t := tt_118) (t2 := tt_121) (pg_of mt_118 dX6_nextToken_72 rfl) mt_118 mt_121 rfl rfl rfl rfl rfl)
theorem b118_75 (l1 : Int32) (s0 : Int32) : rn xs L 118 75 [vR 44, vI l1] [vI s0, vR 44] (mw f a g) = if s0 = 0 then rn xs L 118 82 [vR 44, vI l1] [vR 44] (mw f a g) else rn xs L 118 78 [vR 44, vI l1] [vR 44] (mw f a g) :=
  (r_eq0 (pg_of mt_118 dX6_nextToken_75 rfl))
theorem b118_78 (l1 : Int32) : rn xs L 118 78 [vR 44, vI l1] [vR 44] (mw f a g) = rn xs L 118 91 [vR 44, vI l1] [] (mw ((ma_u2 ((ma_u2 f 44 7 ((2 : Int32)))) 44 10 ((0 : Int32)))) a g) :=
  (r_con (pg_of mt_118 dX6_nextToken_78 rfl) (v2 := (2 : Int32)) (by decide)).trans <|
  (r_gto (pg_of mt_118 dX6_nextToken_79 rfl)).trans <|
  (r_pti (pg_of mt_118 dX6_nextToken_83 rfl) rfl rfl).trans <|
  (r_ald (pg_of mt_118 dX6_nextToken_86 rfl) rfl).trans <|
  (r_con (pg_of mt_118 dX6_nextToken_87 rfl) (v2 := (0 : Int32)) (by decide)).trans <|
  (r_pti (pg_of mt_118 dX6_nextToken_88 rfl) rfl rfl)
theorem b118_82 (l1 : Int32) : rn xs L 118 82 [vR 44, vI l1] [vR 44] (mw f a g) = rn xs L 118 91 [vR 44, vI l1] [] (mw ((ma_u2 ((ma_u2 f 44 7 ((3 : Int32)))) 44 10 ((0 : Int32)))) a g) :=
  (r_con (pg_of mt_118 dX6_nextToken_82 rfl) (v2 := (3 : Int32)) (by decide)).trans <|
  (r_pti (pg_of mt_118 dX6_nextToken_83 rfl) rfl rfl).trans <|
  (r_ald (pg_of mt_118 dX6_nextToken_86 rfl) rfl).trans <|
  (r_con (pg_of mt_118 dX6_nextToken_87 rfl) (v2 := (0 : Int32)) (by decide)).trans <|
  (r_pti (pg_of mt_118 dX6_nextToken_88 rfl) rfl rfl)
theorem b118_91 (l1 : Int32) : rn xs L 118 91 [vR 44, vI l1] [] (mw f a g) = if (f 44 7) = (1 : Int32) then rn xs L 118 99 [vR 44, vI l1] [] (mw f a g) else rn xs L 118 126 [vR 44, vI l1] [] (mw f a g) :=
  (r_ald (pg_of mt_118 dX6_nextToken_91 rfl) rfl).trans <|
  (r_gti (pg_of mt_118 dX6_nextToken_92 rfl) rfl).trans <|
  (r_con (pg_of mt_118 dX6_nextToken_95 rfl) (v2 := (1 : Int32)) (by decide)).trans <|
  (r_ne (pg_of mt_118 dX6_nextToken_96 rfl))
theorem b118_99 (l1 : Int32) : rn xs L 118 99 [vR 44, vI l1] [] (mw f a g) = (ev xs L 119 2 [vR 44, vI (f 44 9)] (mw f a g)).bind (fun b => rn xs L 118 107 [vR 44, vI l1] (b.1.toList ++ []) b.2) :=
  (r_ald (pg_of mt_118 dX6_nextToken_99 rfl) rfl).trans <|
  (r_ald (pg_of mt_118 dX6_nextToken_100 rfl) rfl).trans <|
  (r_gti (pg_of mt_118 dX6_nextToken_101 rfl) rfl).trans <|
  (r_call (t := tt_118) (t2 := tt_119) (pg_of mt_118 dX6_nextToken_104 rfl) mt_118 mt_119 rfl rfl (rcv1 rfl) rfl rfl)
theorem b118_107 (l1 : Int32) (s0 : Int32) : rn xs L 118 107 [vR 44, vI l1] [vI s0] (mw f a g) = (ev xs L 120 1 [vI s0] (mw f a g)).bind (fun b => rn xs L 118 110 [vR 44, vI l1] (b.1.toList ++ []) b.2) :=
  (r_call (t := tt_118) (t2 := tt_120) (pg_of mt_118 dX6_nextToken_107 rfl) mt_118 mt_120 rfl rfl rfl rfl rfl)
theorem b118_110 (l1 : Int32) (s0 : Int32) : rn xs L 118 110 [vR 44, vI l1] [vI s0] (mw f a g) = if s0 = 0 then rn xs L 118 126 [vR 44, vI l1] [] (mw f a g) else rn xs L 118 113 [vR 44, vI l1] [] (mw f a g) :=
  (r_eq0 (pg_of mt_118 dX6_nextToken_110 rfl))
theorem b118_113 (l1 : Int32) : rn xs L 118 113 [vR 44, vI l1] [] (mw f a g) = rn xs L 118 91 [vR 44, vI l1] [] (mw ((ma_u2 f 44 9 (((f 44 9) + (1 : Int32))))) a g) :=
  (r_ald (pg_of mt_118 dX6_nextToken_113 rfl) rfl).trans <|
  (r_dup (pg_of mt_118 dX6_nextToken_114 rfl) rfl).trans <|
  (r_gti (pg_of mt_118 dX6_nextToken_115 rfl) rfl).trans <|
  (r_con (pg_of mt_118 dX6_nextToken_118 rfl) (v2 := (1 : Int32)) (by decide)).trans <|
  (r_bin (pg_of mt_118 dX6_nextToken_119 rfl)).trans <|
  (r_pti (pg_of mt_118 dX6_nextToken_120 rfl) rfl rfl).trans <|
  (r_gto (pg_of mt_118 dX6_nextToken_123 rfl))
theorem b118_126 (l1 : Int32) : rn xs L 118 126 [vR 44, vI l1] [] (mw f a g) = if (f 44 7) = (2 : Int32) then rn xs L 118 134 [vR 44, vI l1] [] (mw f a g) else rn xs L 118 201 [vR 44, vI l1] [] (mw f a g) :=
  (r_ald (pg_of mt_118 dX6_nextToken_126 rfl) rfl).trans <|
  (r_gti (pg_of mt_118 dX6_nextToken_127 rfl) rfl).trans <|
  (r_con (pg_of mt_118 dX6_nextToken_130 rfl) (v2 := (2 : Int32)) (by decide)).trans <|
  (r_ne (pg_of mt_118 dX6_nextToken_131 rfl))
theorem b118_134 (l1 : Int32) : rn xs L 118 134 [vR 44, vI l1] [] (mw f a g) = (ev xs L 119 2 [vR 44, vI (f 44 9)] (mw f a g)).bind (fun b => rn xs L 118 142 [vR 44, vI l1] (b.1.toList ++ []) b.2) :=
  (r_ald (pg_of mt_118 dX6_nextToken_134 rfl) rfl).trans <|
  (r_ald (pg_of mt_118 dX6_nextToken_135 rfl) rfl).trans <|
  (r_gti (pg_of mt_118 dX6_nextToken_136 rfl) rfl).trans <|
  (r_call (t := tt_118) (t2 := tt_119) (pg_of mt_118 dX6_nextToken_139 rfl) mt_118 mt_119 rfl rfl (rcv1 rfl) rfl rfl)
theorem b118_142 (l1 : Int32) (s0 : Int32) : rn xs L 118 142 [vR 44, vI l1] [vI s0] (mw f a g) = (ev xs L 121 1 [vI s0] (mw f a g)).bind (fun b => rn xs L 118 145 [vR 44, vI l1] (b.1.toList ++ []) b.2) :=
  (r_call (t := tt_118) (t2 := tt_121) (pg_of mt_118 dX6_nextToken_142 rfl) mt_118 mt_121 rfl rfl rfl rfl rfl)
theorem b118_145 (l1 : Int32) (s0 : Int32) : rn xs L 118 145 [vR 44, vI l1] [vI s0] (mw f a g) = if s0 = 0 then rn xs L 118 201 [vR 44, vI l1] [] (mw f a g) else rn xs L 118 148 [vR 44, vI l1] [] (mw f a g) :=
  (r_eq0 (pg_of mt_118 dX6_nextToken_145 rfl))
theorem b118_148 (l1 : Int32) : rn xs L 118 148 [vR 44, vI l1] [] (mw f a g) = if (999 : Int32) < (f 44 10) then rn xs L 118 159 [vR 44, vI l1] [vR 44] (mw f a g) else rn xs L 118 166 [vR 44, vI l1] [vR 44] (mw f a g) :=
  (r_ald (pg_of mt_118 dX6_nextToken_148 rfl) rfl).trans <|
  (r_ald (pg_of mt_118 dX6_nextToken_149 rfl) rfl).trans <|
  (r_gti (pg_of mt_118 dX6_nextToken_150 rfl) rfl).trans <|
  (r_con (pg_of mt_118 dX6_nextToken_153 rfl) (v2 := (999 : Int32)) (by decide)).trans <|
  (r_le (pg_of mt_118 dX6_nextToken_156 rfl))
theorem b118_159 (l1 : Int32) : rn xs L 118 159 [vR 44, vI l1] [vR 44] (mw f a g) = rn xs L 118 126 [vR 44, vI l1] [] (mw ((ma_u2 ((ma_u2 f 44 10 ((f 44 10)))) 44 9 (((((ma_u2 f 44 10 ((f 44 10)))) 44 9) + (1 : Int32))))) a g) :=
  (r_ald (pg_of mt_118 dX6_nextToken_159 rfl) rfl).trans <|
  (r_gti (pg_of mt_118 dX6_nextToken_160 rfl) rfl).trans <|
  (r_gto (pg_of mt_118 dX6_nextToken_163 rfl)).trans <|
  (r_pti (pg_of mt_118 dX6_nextToken_185 rfl) rfl rfl).trans <|
  (r_ald (pg_of mt_118 dX6_nextToken_188 rfl) rfl).trans <|
  (r_dup (pg_of mt_118 dX6_nextToken_189 rfl) rfl).trans <|
  (r_gti (pg_of mt_118 dX6_nextToken_190 rfl) rfl).trans <|
  (r_con (pg_of mt_118 dX6_nextToken_193 rfl) (v2 := (1 : Int32)) (by decide)).trans <|
  (r_bin (pg_of mt_118 dX6_nextToken_194 rfl)).trans <|
  (r_pti (pg_of mt_118 dX6_nextToken_195 rfl) rfl rfl).trans <|
  (r_gto (pg_of mt_118 dX6_nextToken_198 rfl))
theorem b118_166 (l1 : Int32) : rn xs L 118 166 [vR 44, vI l1] [vR 44] (mw f a g) = (ev xs L 119 2 [vR 44, vI (f 44 9)] (mw f a g)).bind (fun b => rn xs L 118 181 [vR 44, vI l1] (b.1.toList ++ [vI ((10 : Int32) * (f 44 10)), vR 44]) b.2) :=
  (r_con (pg_of mt_118 dX6_nextToken_166 rfl) (v2 := (10 : Int32)) (by decide)).trans <|
  (r_ald (pg_of mt_118 dX6_nextToken_168 rfl) rfl).trans <|
  (r_gti (pg_of mt_118 dX6_nextToken_169 rfl) rfl).trans <|
  (r_bin (pg_of mt_118 dX6_nextToken_172 rfl)).trans <|
  (r_ald (pg_of mt_118 dX6_nextToken_173 rfl) rfl).trans <|
  (r_ald (pg_of mt_118 dX6_nextToken_174 rfl) rfl).trans <|
  (r_gti (pg_of mt_118 dX6_nextToken_175 rfl) rfl).trans <|
  (r_call (t := tt_118) (t2 := tt_119) (pg_of mt_118 dX6_nextToken_178 rfl) mt_118 mt_119 rfl rfl (rcv1 rfl) rfl rfl)
theorem b118_181 (l1 : Int32) (s0 : Int32) (s1 : Int32) : rn xs L 118 181 [vR 44, vI l1] [vI s0, vI s1, vR 44] (mw f a g) = rn xs L 118 126 [vR 44, vI l1] [] (mw ((ma_u2 ((ma_u2 f 44 10 (((s1 + s0) - (48 : Int32))))) 44 9 (((((ma_u2 f 44 10 (((s1 + s0) - (48 : Int32))))) 44 9) + (1 : Int32))))) a g) :=
  (r_bin (pg_of mt_118 dX6_nextToken_181 rfl)).trans <|
  (r_con (pg_of mt_118 dX6_nextToken_182 rfl) (v2 := (48 : Int32)) (by decide)).trans <|
  (r_bin (pg_of mt_118 dX6_nextToken_184 rfl)).trans <|
  (r_pti (pg_of mt_118 dX6_nextToken_185 rfl) rfl rfl).trans <|
  (r_ald (pg_of mt_118 dX6_nextToken_188 rfl) rfl).trans <|
  (r_dup (pg_of mt_118 dX6_nextToken_189 rfl) rfl).trans <|
  (r_gti (pg_of mt_118 dX6_nextToken_190 rfl) rfl).trans <|
  (r_con (pg_of mt_118 dX6_nextToken_193 rfl) (v2 := (1 : Int32)) (by decide)).trans <|
  (r_bin (pg_of mt_118 dX6_nextToken_194 rfl)).trans <|
  (r_pti (pg_of mt_118 dX6_nextToken_195 rfl) rfl rfl).trans <|
  (r_gto (pg_of mt_118 dX6_nextToken_198 rfl))
theorem b118_201 (l1 : Int32) : rn xs L 118 201 [vR 44, vI l1] [] (mw f a g) = if (2 : Int32) < (f 44 7) then rn xs L 118 214 [vR 44, vI l1] [vI (f 44 9), vR 44] (mw f a g) else rn xs L 118 218 [vR 44, vI l1] [vI (f 44 9), vR 44] (mw f a g) :=
  (r_ald (pg_of mt_118 dX6_nextToken_201 rfl) rfl).trans <|
  (r_dup (pg_of mt_118 dX6_nextToken_202 rfl) rfl).trans <|
  (r_gti (pg_of mt_118 dX6_nextToken_203 rfl) rfl).trans <|
  (r_ald (pg_of mt_118 dX6_nextToken_206 rfl) rfl).trans <|
  (r_gti (pg_of mt_118 dX6_nextToken_207 rfl) rfl).trans <|
  (r_con (pg_of mt_118 dX6_nextToken_210 rfl) (v2 := (2 : Int32)) (by decide)).trans <|
  (r_le (pg_of mt_118 dX6_nextToken_211 rfl))
theorem b118_214 (l1 : Int32) (s0 : Int32) : rn xs L 118 214 [vR 44, vI l1] [vI s0, vR 44] (mw f a g) = some (none, (mw ((ma_u2 f 44 9 ((s0 + (1 : Int32))))) a g)) :=
  (r_con (pg_of mt_118 dX6_nextToken_214 rfl) (v2 := (1 : Int32)) (by decide)).trans <|
  (r_gto (pg_of mt_118 dX6_nextToken_215 rfl)).trans <|
  (r_bin (pg_of mt_118 dX6_nextToken_219 rfl)).trans <|
  (r_pti (pg_of mt_118 dX6_nextToken_220 rfl) rfl rfl).trans <|
  (r_rv (pg_of mt_118 dX6_nextToken_223 rfl) mt_118 rfl)
theorem b118_218 (l1 : Int32) (s0 : Int32) : rn xs L 118 218 [vR 44, vI l1] [vI s0, vR 44] (mw f a g) = some (none, (mw ((ma_u2 f 44 9 ((s0 + (0 : Int32))))) a g)) :=
  (r_con (pg_of mt_118 dX6_nextToken_218 rfl) (v2 := (0 : Int32)) (by decide)).trans <|
  (r_bin (pg_of mt_118 dX6_nextToken_219 rfl)).trans <|
  (r_pti (pg_of mt_118 dX6_nextToken_220 rfl) rfl rfl).trans <|
  (r_rv (pg_of mt_118 dX6_nextToken_223 rfl) mt_118 rfl)
-- 119 LeafFallsModel.byteAt(I)I
theorem b119_0 (l1 : Int32) : rn xs L 119 0 [vR 44, vI l1] [] (mw f a g) = if l1 < (f 44 6) then rn xs L 119 8 [vR 44, vI l1] [] (mw f a g) else rn xs L 119 17 [vR 44, vI l1] [] (mw f a g) :=
  (r_ild (pg_of mt_119 dX6_byteAt_0 rfl) rfl).trans <|
  (r_ald (pg_of mt_119 dX6_byteAt_1 rfl) rfl).trans <|
  (r_gti (pg_of mt_119 dX6_byteAt_2 rfl) rfl).trans <|
  (r_ge (pg_of mt_119 dX6_byteAt_5 rfl))
theorem b119_8 (l1 : Int32) (h1 : ma_in l1 200 = true) : rn xs L 119 8 [vR 44, vI l1] [] (mw f a g) = some (some (vI (a 49 l1.toNatClampNeg)), (mw f a g)) :=
  (r_ald (pg_of mt_119 dX6_byteAt_8 rfl) rfl).trans <|
  (r_gtr (a := 49) (pg_of mt_119 dX6_byteAt_9 rfl) rfl rfl).trans <|
  (r_ild (pg_of mt_119 dX6_byteAt_12 rfl) rfl).trans <|
  (r_iald (pg_of mt_119 dX6_byteAt_13 rfl) rfl h1).trans <|
  (r_gto (pg_of mt_119 dX6_byteAt_14 rfl)).trans <|
  (r_ri (pg_of mt_119 dX6_byteAt_18 rfl) mt_119 rfl)
theorem b119_17 (l1 : Int32) : rn xs L 119 17 [vR 44, vI l1] [] (mw f a g) = some (some (vI (-1 : Int32)), (mw f a g)) :=
  (r_con (pg_of mt_119 dX6_byteAt_17 rfl) (v2 := (-1 : Int32)) (by decide)).trans <|
  (r_ri (pg_of mt_119 dX6_byteAt_18 rfl) mt_119 rfl)
-- 120 LeafFallsModel.isAlpha(I)Z
theorem b120_0 (l0 : Int32) : rn xs L 120 0 [vI l0] [] (mw f a g) = if l0 < (97 : Int32) then rn xs L 120 16 [vI l0] [] (mw f a g) else rn xs L 120 6 [vI l0] [] (mw f a g) :=
  (r_ild (pg_of mt_120 dX6_isAlpha_0 rfl) rfl).trans <|
  (r_con (pg_of mt_120 dX6_isAlpha_1 rfl) (v2 := (97 : Int32)) (by decide)).trans <|
  (r_lt (pg_of mt_120 dX6_isAlpha_3 rfl))
theorem b120_6 (l0 : Int32) : rn xs L 120 6 [vI l0] [] (mw f a g) = if (122 : Int32) < l0 then rn xs L 120 16 [vI l0] [] (mw f a g) else rn xs L 120 12 [vI l0] [] (mw f a g) :=
  (r_ild (pg_of mt_120 dX6_isAlpha_6 rfl) rfl).trans <|
  (r_con (pg_of mt_120 dX6_isAlpha_7 rfl) (v2 := (122 : Int32)) (by decide)).trans <|
  (r_gt (pg_of mt_120 dX6_isAlpha_9 rfl))
theorem b120_12 (l0 : Int32) : rn xs L 120 12 [vI l0] [] (mw f a g) = some (some (vI (1 : Int32)), (mw f a g)) :=
  (r_con (pg_of mt_120 dX6_isAlpha_12 rfl) (v2 := (1 : Int32)) (by decide)).trans <|
  (r_gto (pg_of mt_120 dX6_isAlpha_13 rfl)).trans <|
  (r_rz (pg_of mt_120 dX6_isAlpha_17 rfl) mt_120 rfl (Or.inr rfl))
theorem b120_16 (l0 : Int32) : rn xs L 120 16 [vI l0] [] (mw f a g) = some (some (vI (0 : Int32)), (mw f a g)) :=
  (r_con (pg_of mt_120 dX6_isAlpha_16 rfl) (v2 := (0 : Int32)) (by decide)).trans <|
  (r_rz (pg_of mt_120 dX6_isAlpha_17 rfl) mt_120 rfl (Or.inl rfl))
-- 121 LeafFallsModel.isDigit(I)Z
theorem b121_0 (l0 : Int32) : rn xs L 121 0 [vI l0] [] (mw f a g) = if l0 < (48 : Int32) then rn xs L 121 16 [vI l0] [] (mw f a g) else rn xs L 121 6 [vI l0] [] (mw f a g) :=
  (r_ild (pg_of mt_121 dX6_isDigit_0 rfl) rfl).trans <|
  (r_con (pg_of mt_121 dX6_isDigit_1 rfl) (v2 := (48 : Int32)) (by decide)).trans <|
  (r_lt (pg_of mt_121 dX6_isDigit_3 rfl))
theorem b121_6 (l0 : Int32) : rn xs L 121 6 [vI l0] [] (mw f a g) = if (57 : Int32) < l0 then rn xs L 121 16 [vI l0] [] (mw f a g) else rn xs L 121 12 [vI l0] [] (mw f a g) :=
  (r_ild (pg_of mt_121 dX6_isDigit_6 rfl) rfl).trans <|
  (r_con (pg_of mt_121 dX6_isDigit_7 rfl) (v2 := (57 : Int32)) (by decide)).trans <|
  (r_gt (pg_of mt_121 dX6_isDigit_9 rfl))
theorem b121_12 (l0 : Int32) : rn xs L 121 12 [vI l0] [] (mw f a g) = some (some (vI (1 : Int32)), (mw f a g)) :=
  (r_con (pg_of mt_121 dX6_isDigit_12 rfl) (v2 := (1 : Int32)) (by decide)).trans <|
  (r_gto (pg_of mt_121 dX6_isDigit_13 rfl)).trans <|
  (r_rz (pg_of mt_121 dX6_isDigit_17 rfl) mt_121 rfl (Or.inr rfl))
theorem b121_16 (l0 : Int32) : rn xs L 121 16 [vI l0] [] (mw f a g) = some (some (vI (0 : Int32)), (mw f a g)) :=
  (r_con (pg_of mt_121 dX6_isDigit_16 rfl) (v2 := (0 : Int32)) (by decide)).trans <|
  (r_rz (pg_of mt_121 dX6_isDigit_17 rfl) mt_121 rfl (Or.inl rfl))
-- 122 LeafFallsModel.itemHere()V
theorem b122_0 (l1 : ma_V) (l2 : ma_V) : rn xs L 122 0 [vR 44, l1, l2] [] (mw f a g) = (ev xs L 123 1 [vR 44] (mw f a g)).bind (fun b => rn xs L 122 4 [vR 44, l1, l2] (b.1.toList ++ []) b.2) :=
  (r_ald (pg_of mt_122 dX6_itemHere_0 rfl) rfl).trans <|
  (r_call (t := tt_122) (t2 := tt_123) (pg_of mt_122 dX6_itemHere_1 rfl) mt_122 mt_123 rfl rfl (rcv1 rfl) rfl rfl)
theorem b122_4 (l1 : ma_V) (l2 : ma_V) (s0 : Int32) : rn xs L 122 4 [vR 44, l1, l2] [vI s0] (mw f a g) = (ev xs L 127 1 [vR 44] (mw f a g)).bind (fun b => rn xs L 122 9 [vR 44, vI s0, l2] (b.1.toList ++ []) b.2) :=
  (r_ist (pg_of mt_122 dX6_itemHere_4 rfl) (Nat.le_of_ble_eq_true rfl) rfl).trans <|
  (r_ald (pg_of mt_122 dX6_itemHere_5 rfl) rfl).trans <|
  (r_call (t := tt_122) (t2 := tt_127) (pg_of mt_122 dX6_itemHere_6 rfl) mt_122 mt_127 rfl rfl (rcv1 rfl) rfl rfl)
theorem b122_9 (l1 : Int32) (l2 : ma_V) (s0 : Int32) : rn xs L 122 9 [vR 44, vI l1, l2] [vI s0] (mw f a g) = if l1 < 0 then rn xs L 122 22 [vR 44, vI l1, vI s0] [] (mw f a g) else rn xs L 122 14 [vR 44, vI l1, vI s0] [] (mw f a g) :=
  (r_ist (pg_of mt_122 dX6_itemHere_9 rfl) (Nat.le_of_ble_eq_true rfl) rfl).trans <|
  (r_ild (pg_of mt_122 dX6_itemHere_10 rfl) rfl).trans <|
  (r_lt0 (pg_of mt_122 dX6_itemHere_11 rfl))
theorem b122_14 (l1 : Int32) (l2 : Int32) : rn xs L 122 14 [vR 44, vI l1, vI l2] [] (mw f a g) = (ev xs L 128 3 [vR 44, vI l1] (mw f a g)).bind (fun b => rn xs L 122 19 [vR 44, vI l1, vI l2] (b.1.toList ++ []) b.2) :=
  (r_ald (pg_of mt_122 dX6_itemHere_14 rfl) rfl).trans <|
  (r_ild (pg_of mt_122 dX6_itemHere_15 rfl) rfl).trans <|
  (r_call (t := tt_122) (t2 := tt_128) (pg_of mt_122 dX6_itemHere_16 rfl) mt_122 mt_128 rfl rfl (rcv1 rfl) rfl rfl)
theorem b122_19 (l1 : Int32) (l2 : Int32) : rn xs L 122 19 [vR 44, vI l1, vI l2] [] (mw f a g) = if (f 44 7) = (3 : Int32) then rn xs L 122 87 [vR 44, vI l1, vI l2] [vR 44] (mw f a g) else rn xs L 122 104 [vR 44, vI l1, vI l2] [vR 44] (mw f a g) :=
  (r_gto (pg_of mt_122 dX6_itemHere_19 rfl)).trans <|
  (r_ald (pg_of mt_122 dX6_itemHere_78 rfl) rfl).trans <|
  (r_ald (pg_of mt_122 dX6_itemHere_79 rfl) rfl).trans <|
  (r_gti (pg_of mt_122 dX6_itemHere_80 rfl) rfl).trans <|
  (r_con (pg_of mt_122 dX6_itemHere_83 rfl) (v2 := (3 : Int32)) (by decide)).trans <|
  (r_ne (pg_of mt_122 dX6_itemHere_84 rfl))
theorem b122_22 (l1 : Int32) (l2 : Int32) : rn xs L 122 22 [vR 44, vI l1, vI l2] [] (mw f a g) = if l2 < 0 then rn xs L 122 51 [vR 44, vI l1, vI l2] [] (mw f a g) else rn xs L 122 26 [vR 44, vI l1, vI l2] [] (mw f a g) :=
  (r_ild (pg_of mt_122 dX6_itemHere_22 rfl) rfl).trans <|
  (r_lt0 (pg_of mt_122 dX6_itemHere_23 rfl))
theorem b122_26 (l1 : Int32) (l2 : Int32) : rn xs L 122 26 [vR 44, vI l1, vI l2] [] (mw f a g) = (ev xs L 118 2 [vR 44] (mw f a g)).bind (fun b => rn xs L 122 30 [vR 44, vI l1, vI l2] (b.1.toList ++ []) b.2) :=
  (r_ald (pg_of mt_122 dX6_itemHere_26 rfl) rfl).trans <|
  (r_call (t := tt_122) (t2 := tt_118) (pg_of mt_122 dX6_itemHere_27 rfl) mt_122 mt_118 rfl rfl (rcv1 rfl) rfl rfl)
theorem b122_30 (l1 : Int32) (l2 : Int32) : rn xs L 122 30 [vR 44, vI l1, vI l2] [] (mw f a g) = if l2 = (7 : Int32) then rn xs L 122 38 [vR 44, vI l1, vI l2] [vI l2, vR 44] (mw f a g) else rn xs L 122 43 [vR 44, vI l1, vI l2] [vI l2, vR 44] (mw f a g) :=
  (r_ald (pg_of mt_122 dX6_itemHere_30 rfl) rfl).trans <|
  (r_ild (pg_of mt_122 dX6_itemHere_31 rfl) rfl).trans <|
  (r_ild (pg_of mt_122 dX6_itemHere_32 rfl) rfl).trans <|
  (r_con (pg_of mt_122 dX6_itemHere_33 rfl) (v2 := (7 : Int32)) (by decide)).trans <|
  (r_ne (pg_of mt_122 dX6_itemHere_35 rfl))
theorem b122_38 (l1 : Int32) (l2 : Int32) (s0 : Int32) : rn xs L 122 38 [vR 44, vI l1, vI l2] [vI s0, vR 44] (mw f a g) = (ev xs L 131 4 [vR 44, vI s0, vI (99 : Int32)] (mw f a g)).bind (fun b => rn xs L 122 48 [vR 44, vI l1, vI l2] (b.1.toList ++ []) b.2) :=
  (r_con (pg_of mt_122 dX6_itemHere_38 rfl) (v2 := (99 : Int32)) (by decide)).trans <|
  (r_gto (pg_of mt_122 dX6_itemHere_40 rfl)).trans <|
  (r_call (t := tt_122) (t2 := tt_131) (pg_of mt_122 dX6_itemHere_45 rfl) mt_122 mt_131 rfl rfl (rcv1 rfl) rfl rfl)
theorem b122_43 (l1 : Int32) (l2 : Int32) (s0 : Int32) : rn xs L 122 43 [vR 44, vI l1, vI l2] [vI s0, vR 44] (mw f a g) = (ev xs L 131 4 [vR 44, vI s0, vI (9 : Int32)] (mw f a g)).bind (fun b => rn xs L 122 48 [vR 44, vI l1, vI l2] (b.1.toList ++ []) b.2) :=
  (r_con (pg_of mt_122 dX6_itemHere_43 rfl) (v2 := (9 : Int32)) (by decide)).trans <|
  (r_call (t := tt_122) (t2 := tt_131) (pg_of mt_122 dX6_itemHere_45 rfl) mt_122 mt_131 rfl rfl (rcv1 rfl) rfl rfl)
theorem b122_48 (l1 : Int32) (l2 : Int32) : rn xs L 122 48 [vR 44, vI l1, vI l2] [] (mw f a g) = if (f 44 7) = (3 : Int32) then rn xs L 122 87 [vR 44, vI l1, vI l2] [vR 44] (mw f a g) else rn xs L 122 104 [vR 44, vI l1, vI l2] [vR 44] (mw f a g) :=
  (r_gto (pg_of mt_122 dX6_itemHere_48 rfl)).trans <|
  (r_ald (pg_of mt_122 dX6_itemHere_78 rfl) rfl).trans <|
  (r_ald (pg_of mt_122 dX6_itemHere_79 rfl) rfl).trans <|
  (r_gti (pg_of mt_122 dX6_itemHere_80 rfl) rfl).trans <|
  (r_con (pg_of mt_122 dX6_itemHere_83 rfl) (v2 := (3 : Int32)) (by decide)).trans <|
  (r_ne (pg_of mt_122 dX6_itemHere_84 rfl))
theorem b122_51 (l1 : Int32) (l2 : Int32) : rn xs L 122 51 [vR 44, vI l1, vI l2] [] (mw f a g) = (ev xs L 124 5 [vR 44, vI (115 : Int32), vI (119 : Int32), vI (97 : Int32), vI (121 : Int32)] (mw f a g)).bind (fun b => rn xs L 122 63 [vR 44, vI l1, vI l2] (b.1.toList ++ []) b.2) :=
  (r_ald (pg_of mt_122 dX6_itemHere_51 rfl) rfl).trans <|
  (r_con (pg_of mt_122 dX6_itemHere_52 rfl) (v2 := (115 : Int32)) (by decide)).trans <|
  (r_con (pg_of mt_122 dX6_itemHere_54 rfl) (v2 := (119 : Int32)) (by decide)).trans <|
  (r_con (pg_of mt_122 dX6_itemHere_56 rfl) (v2 := (97 : Int32)) (by decide)).trans <|
  (r_con (pg_of mt_122 dX6_itemHere_58 rfl) (v2 := (121 : Int32)) (by decide)).trans <|
  (r_call (t := tt_122) (t2 := tt_124) (pg_of mt_122 dX6_itemHere_60 rfl) mt_122 mt_124 rfl rfl (rcv1 rfl) rfl rfl)
theorem b122_63 (l1 : Int32) (l2 : Int32) (s0 : Int32) : rn xs L 122 63 [vR 44, vI l1, vI l2] [vI s0] (mw f a g) = if s0 = 0 then rn xs L 122 73 [vR 44, vI l1, vI l2] [] (mw f a g) else rn xs L 122 66 [vR 44, vI l1, vI l2] [] (mw f a g) :=
  (r_eq0 (pg_of mt_122 dX6_itemHere_63 rfl))
theorem b122_66 (l1 : Int32) (l2 : Int32) : rn xs L 122 66 [vR 44, vI l1, vI l2] [] (mw f a g) = (ev xs L 133 2 [vR 44] (mw f a g)).bind (fun b => rn xs L 122 70 [vR 44, vI l1, vI l2] (b.1.toList ++ []) b.2) :=
  (r_ald (pg_of mt_122 dX6_itemHere_66 rfl) rfl).trans <|
  (r_call (t := tt_122) (t2 := tt_133) (pg_of mt_122 dX6_itemHere_67 rfl) mt_122 mt_133 rfl rfl (rcv1 rfl) rfl rfl)
theorem b122_70 (l1 : Int32) (l2 : Int32) : rn xs L 122 70 [vR 44, vI l1, vI l2] [] (mw f a g) = if (f 44 7) = (3 : Int32) then rn xs L 122 87 [vR 44, vI l1, vI l2] [vR 44] (mw f a g) else rn xs L 122 104 [vR 44, vI l1, vI l2] [vR 44] (mw f a g) :=
  (r_gto (pg_of mt_122 dX6_itemHere_70 rfl)).trans <|
  (r_ald (pg_of mt_122 dX6_itemHere_78 rfl) rfl).trans <|
  (r_ald (pg_of mt_122 dX6_itemHere_79 rfl) rfl).trans <|
  (r_gti (pg_of mt_122 dX6_itemHere_80 rfl) rfl).trans <|
  (r_con (pg_of mt_122 dX6_itemHere_83 rfl) (v2 := (3 : Int32)) (by decide)).trans <|
  (r_ne (pg_of mt_122 dX6_itemHere_84 rfl))
theorem b122_73 (l1 : Int32) (l2 : Int32) : rn xs L 122 73 [vR 44, vI l1, vI l2] [] (mw f a g) = (ev xs L 129 2 [vR 44, vI (0 : Int32)] (mw f a g)).bind (fun b => rn xs L 122 78 [vR 44, vI l1, vI l2] (b.1.toList ++ []) b.2) :=
  (r_ald (pg_of mt_122 dX6_itemHere_73 rfl) rfl).trans <|
  (r_con (pg_of mt_122 dX6_itemHere_74 rfl) (v2 := (0 : Int32)) (by decide)).trans <|
  (r_call (t := tt_122) (t2 := tt_129) (pg_of mt_122 dX6_itemHere_75 rfl) mt_122 mt_129 rfl rfl (rcv1 rfl) rfl rfl)
theorem b122_78 (l1 : Int32) (l2 : Int32) : rn xs L 122 78 [vR 44, vI l1, vI l2] [] (mw f a g) = if (f 44 7) = (3 : Int32) then rn xs L 122 87 [vR 44, vI l1, vI l2] [vR 44] (mw f a g) else rn xs L 122 104 [vR 44, vI l1, vI l2] [vR 44] (mw f a g) :=
  (r_ald (pg_of mt_122 dX6_itemHere_78 rfl) rfl).trans <|
  (r_ald (pg_of mt_122 dX6_itemHere_79 rfl) rfl).trans <|
  (r_gti (pg_of mt_122 dX6_itemHere_80 rfl) rfl).trans <|
  (r_con (pg_of mt_122 dX6_itemHere_83 rfl) (v2 := (3 : Int32)) (by decide)).trans <|
  (r_ne (pg_of mt_122 dX6_itemHere_84 rfl))
theorem b122_87 (l1 : Int32) (l2 : Int32) : rn xs L 122 87 [vR 44, vI l1, vI l2] [vR 44] (mw f a g) = (ev xs L 119 2 [vR 44, vI (f 44 8)] (mw f a g)).bind (fun b => rn xs L 122 95 [vR 44, vI l1, vI l2] (b.1.toList ++ [vR 44]) b.2) :=
  (r_ald (pg_of mt_122 dX6_itemHere_87 rfl) rfl).trans <|
  (r_ald (pg_of mt_122 dX6_itemHere_88 rfl) rfl).trans <|
  (r_gti (pg_of mt_122 dX6_itemHere_89 rfl) rfl).trans <|
  (r_call (t := tt_122) (t2 := tt_119) (pg_of mt_122 dX6_itemHere_92 rfl) mt_122 mt_119 rfl rfl (rcv1 rfl) rfl rfl)
theorem b122_95 (l1 : Int32) (l2 : Int32) (s0 : Int32) : rn xs L 122 95 [vR 44, vI l1, vI l2] [vI s0, vR 44] (mw f a g) = if s0 = (59 : Int32) then rn xs L 122 100 [vR 44, vI l1, vI l2] [vR 44] (mw f a g) else rn xs L 122 104 [vR 44, vI l1, vI l2] [vR 44] (mw f a g) :=
  (r_con (pg_of mt_122 dX6_itemHere_95 rfl) (v2 := (59 : Int32)) (by decide)).trans <|
  (r_ne (pg_of mt_122 dX6_itemHere_97 rfl))
theorem b122_100 (l1 : Int32) (l2 : Int32) : rn xs L 122 100 [vR 44, vI l1, vI l2] [vR 44] (mw f a g) = (ev xs L 129 2 [vR 44, vI (1 : Int32)] (mw f a g)).bind (fun b => rn xs L 122 108 [vR 44, vI l1, vI l2] (b.1.toList ++ []) b.2) :=
  (r_con (pg_of mt_122 dX6_itemHere_100 rfl) (v2 := (1 : Int32)) (by decide)).trans <|
  (r_gto (pg_of mt_122 dX6_itemHere_101 rfl)).trans <|
  (r_call (t := tt_122) (t2 := tt_129) (pg_of mt_122 dX6_itemHere_105 rfl) mt_122 mt_129 rfl rfl (rcv1 rfl) rfl rfl)
theorem b122_104 (l1 : Int32) (l2 : Int32) : rn xs L 122 104 [vR 44, vI l1, vI l2] [vR 44] (mw f a g) = (ev xs L 129 2 [vR 44, vI (0 : Int32)] (mw f a g)).bind (fun b => rn xs L 122 108 [vR 44, vI l1, vI l2] (b.1.toList ++ []) b.2) :=
  (r_con (pg_of mt_122 dX6_itemHere_104 rfl) (v2 := (0 : Int32)) (by decide)).trans <|
  (r_call (t := tt_122) (t2 := tt_129) (pg_of mt_122 dX6_itemHere_105 rfl) mt_122 mt_129 rfl rfl (rcv1 rfl) rfl rfl)
theorem b122_108 (l1 : Int32) (l2 : Int32) : rn xs L 122 108 [vR 44, vI l1, vI l2] [] (mw f a g) = some (none, (mw f a g)) :=
  (r_rv (pg_of mt_122 dX6_itemHere_108 rfl) mt_122 rfl)
-- 123 LeafFallsModel.kindHere()I
theorem b123_0  : rn xs L 123 0 [vR 44] [] (mw f a g) = (ev xs L 124 5 [vR 44, vI (108 : Int32), vI (101 : Int32), vI (97 : Int32), vI (102 : Int32)] (mw f a g)).bind (fun b => rn xs L 123 12 [vR 44] (b.1.toList ++ []) b.2) :=
  (r_ald (pg_of mt_123 dX6_kindHere_0 rfl) rfl).trans <|
  (r_con (pg_of mt_123 dX6_kindHere_1 rfl) (v2 := (108 : Int32)) (by decide)).trans <|
  (r_con (pg_of mt_123 dX6_kindHere_3 rfl) (v2 := (101 : Int32)) (by decide)).trans <|
  (r_con (pg_of mt_123 dX6_kindHere_5 rfl) (v2 := (97 : Int32)) (by decide)).trans <|
  (r_con (pg_of mt_123 dX6_kindHere_7 rfl) (v2 := (102 : Int32)) (by decide)).trans <|
  (r_call (t := tt_123) (t2 := tt_124) (pg_of mt_123 dX6_kindHere_9 rfl) mt_123 mt_124 rfl rfl (rcv1 rfl) rfl rfl)
theorem b123_12 (s0 : Int32) : rn xs L 123 12 [vR 44] [vI s0] (mw f a g) = if s0 = 0 then rn xs L 123 17 [vR 44] [] (mw f a g) else rn xs L 123 15 [vR 44] [] (mw f a g) :=
  (r_eq0 (pg_of mt_123 dX6_kindHere_12 rfl))
theorem b123_15  : rn xs L 123 15 [vR 44] [] (mw f a g) = some (some (vI (0 : Int32)), (mw f a g)) :=
  (r_con (pg_of mt_123 dX6_kindHere_15 rfl) (v2 := (0 : Int32)) (by decide)).trans <|
  (r_ri (pg_of mt_123 dX6_kindHere_16 rfl) mt_123 rfl)
theorem b123_17  : rn xs L 123 17 [vR 44] [] (mw f a g) = (ev xs L 125 6 [vR 44, vI (3 : Int32), vI (114 : Int32), vI (101 : Int32), vI (100 : Int32), vI (100 : Int32)] (mw f a g)).bind (fun b => rn xs L 123 30 [vR 44] (b.1.toList ++ []) b.2) :=
  (r_ald (pg_of mt_123 dX6_kindHere_17 rfl) rfl).trans <|
  (r_con (pg_of mt_123 dX6_kindHere_18 rfl) (v2 := (3 : Int32)) (by decide)).trans <|
  (r_con (pg_of mt_123 dX6_kindHere_19 rfl) (v2 := (114 : Int32)) (by decide)).trans <|
  (r_con (pg_of mt_123 dX6_kindHere_21 rfl) (v2 := (101 : Int32)) (by decide)).trans <|
  (r_con (pg_of mt_123 dX6_kindHere_23 rfl) (v2 := (100 : Int32)) (by decide)).trans <|
  (r_con (pg_of mt_123 dX6_kindHere_25 rfl) (v2 := (100 : Int32)) (by decide)).trans <|
  (r_call (t := tt_123) (t2 := tt_125) (pg_of mt_123 dX6_kindHere_27 rfl) mt_123 mt_125 rfl rfl (rcv1 rfl) rfl rfl)
theorem b123_30 (s0 : Int32) : rn xs L 123 30 [vR 44] [vI s0] (mw f a g) = if s0 = 0 then rn xs L 123 35 [vR 44] [] (mw f a g) else rn xs L 123 33 [vR 44] [] (mw f a g) :=
  (r_eq0 (pg_of mt_123 dX6_kindHere_30 rfl))
theorem b123_33  : rn xs L 123 33 [vR 44] [] (mw f a g) = some (some (vI (1 : Int32)), (mw f a g)) :=
  (r_con (pg_of mt_123 dX6_kindHere_33 rfl) (v2 := (1 : Int32)) (by decide)).trans <|
  (r_ri (pg_of mt_123 dX6_kindHere_34 rfl) mt_123 rfl)
theorem b123_35  : rn xs L 123 35 [vR 44] [] (mw f a g) = (ev xs L 125 6 [vR 44, vI (6 : Int32), vI (121 : Int32), vI (101 : Int32), vI (108 : Int32), vI (119 : Int32)] (mw f a g)).bind (fun b => rn xs L 123 49 [vR 44] (b.1.toList ++ []) b.2) :=
  (r_ald (pg_of mt_123 dX6_kindHere_35 rfl) rfl).trans <|
  (r_con (pg_of mt_123 dX6_kindHere_36 rfl) (v2 := (6 : Int32)) (by decide)).trans <|
  (r_con (pg_of mt_123 dX6_kindHere_38 rfl) (v2 := (121 : Int32)) (by decide)).trans <|
  (r_con (pg_of mt_123 dX6_kindHere_40 rfl) (v2 := (101 : Int32)) (by decide)).trans <|
  (r_con (pg_of mt_123 dX6_kindHere_42 rfl) (v2 := (108 : Int32)) (by decide)).trans <|
  (r_con (pg_of mt_123 dX6_kindHere_44 rfl) (v2 := (119 : Int32)) (by decide)).trans <|
  (r_call (t := tt_123) (t2 := tt_125) (pg_of mt_123 dX6_kindHere_46 rfl) mt_123 mt_125 rfl rfl (rcv1 rfl) rfl rfl)
theorem b123_49 (s0 : Int32) : rn xs L 123 49 [vR 44] [vI s0] (mw f a g) = if s0 = 0 then rn xs L 123 68 [vR 44] [] (mw f a g) else rn xs L 123 52 [vR 44] [] (mw f a g) :=
  (r_eq0 (pg_of mt_123 dX6_kindHere_49 rfl))
theorem b123_52  : rn xs L 123 52 [vR 44] [] (mw f a g) = (ev xs L 126 5 [vR 44, vI (2 : Int32), vI (108 : Int32), vI (108 : Int32), vI (111 : Int32)] (mw f a g)).bind (fun b => rn xs L 123 63 [vR 44] (b.1.toList ++ []) b.2) :=
  (r_ald (pg_of mt_123 dX6_kindHere_52 rfl) rfl).trans <|
  (r_con (pg_of mt_123 dX6_kindHere_53 rfl) (v2 := (2 : Int32)) (by decide)).trans <|
  (r_con (pg_of mt_123 dX6_kindHere_54 rfl) (v2 := (108 : Int32)) (by decide)).trans <|
  (r_con (pg_of mt_123 dX6_kindHere_56 rfl) (v2 := (108 : Int32)) (by decide)).trans <|
  (r_con (pg_of mt_123 dX6_kindHere_58 rfl) (v2 := (111 : Int32)) (by decide)).trans <|
  (r_call (t := tt_123) (t2 := tt_126) (pg_of mt_123 dX6_kindHere_60 rfl) mt_123 mt_126 rfl rfl (rcv1 rfl) rfl rfl)
theorem b123_63 (s0 : Int32) : rn xs L 123 63 [vR 44] [vI s0] (mw f a g) = if s0 = 0 then rn xs L 123 68 [vR 44] [] (mw f a g) else rn xs L 123 66 [vR 44] [] (mw f a g) :=
  (r_eq0 (pg_of mt_123 dX6_kindHere_63 rfl))
theorem b123_66  : rn xs L 123 66 [vR 44] [] (mw f a g) = some (some (vI (2 : Int32)), (mw f a g)) :=
  (r_con (pg_of mt_123 dX6_kindHere_66 rfl) (v2 := (2 : Int32)) (by decide)).trans <|
  (r_ri (pg_of mt_123 dX6_kindHere_67 rfl) mt_123 rfl)
theorem b123_68  : rn xs L 123 68 [vR 44] [] (mw f a g) = (ev xs L 125 6 [vR 44, vI (7 : Int32), vI (115 : Int32), vI (99 : Int32), vI (97 : Int32), vI (116 : Int32)] (mw f a g)).bind (fun b => rn xs L 123 82 [vR 44] (b.1.toList ++ []) b.2) :=
  (r_ald (pg_of mt_123 dX6_kindHere_68 rfl) rfl).trans <|
  (r_con (pg_of mt_123 dX6_kindHere_69 rfl) (v2 := (7 : Int32)) (by decide)).trans <|
  (r_con (pg_of mt_123 dX6_kindHere_71 rfl) (v2 := (115 : Int32)) (by decide)).trans <|
  (r_con (pg_of mt_123 dX6_kindHere_73 rfl) (v2 := (99 : Int32)) (by decide)).trans <|
  (r_con (pg_of mt_123 dX6_kindHere_75 rfl) (v2 := (97 : Int32)) (by decide)).trans <|
  (r_con (pg_of mt_123 dX6_kindHere_77 rfl) (v2 := (116 : Int32)) (by decide)).trans <|
  (r_call (t := tt_123) (t2 := tt_125) (pg_of mt_123 dX6_kindHere_79 rfl) mt_123 mt_125 rfl rfl (rcv1 rfl) rfl rfl)
theorem b123_82 (s0 : Int32) : rn xs L 123 82 [vR 44] [vI s0] (mw f a g) = if s0 = 0 then rn xs L 123 101 [vR 44] [] (mw f a g) else rn xs L 123 85 [vR 44] [] (mw f a g) :=
  (r_eq0 (pg_of mt_123 dX6_kindHere_82 rfl))
theorem b123_85  : rn xs L 123 85 [vR 44] [] (mw f a g) = (ev xs L 126 5 [vR 44, vI (3 : Int32), vI (114 : Int32), vI (108 : Int32), vI (101 : Int32)] (mw f a g)).bind (fun b => rn xs L 123 96 [vR 44] (b.1.toList ++ []) b.2) :=
  (r_ald (pg_of mt_123 dX6_kindHere_85 rfl) rfl).trans <|
  (r_con (pg_of mt_123 dX6_kindHere_86 rfl) (v2 := (3 : Int32)) (by decide)).trans <|
  (r_con (pg_of mt_123 dX6_kindHere_87 rfl) (v2 := (114 : Int32)) (by decide)).trans <|
  (r_con (pg_of mt_123 dX6_kindHere_89 rfl) (v2 := (108 : Int32)) (by decide)).trans <|
  (r_con (pg_of mt_123 dX6_kindHere_91 rfl) (v2 := (101 : Int32)) (by decide)).trans <|
  (r_call (t := tt_123) (t2 := tt_126) (pg_of mt_123 dX6_kindHere_93 rfl) mt_123 mt_126 rfl rfl (rcv1 rfl) rfl rfl)
theorem b123_96 (s0 : Int32) : rn xs L 123 96 [vR 44] [vI s0] (mw f a g) = if s0 = 0 then rn xs L 123 101 [vR 44] [] (mw f a g) else rn xs L 123 99 [vR 44] [] (mw f a g) :=
  (r_eq0 (pg_of mt_123 dX6_kindHere_96 rfl))
theorem b123_99  : rn xs L 123 99 [vR 44] [] (mw f a g) = some (some (vI (3 : Int32)), (mw f a g)) :=
  (r_con (pg_of mt_123 dX6_kindHere_99 rfl) (v2 := (3 : Int32)) (by decide)).trans <|
  (r_ri (pg_of mt_123 dX6_kindHere_100 rfl) mt_123 rfl)
theorem b123_101  : rn xs L 123 101 [vR 44] [] (mw f a g) = (ev xs L 124 5 [vR 44, vI (103 : Int32), vI (111 : Int32), vI (108 : Int32), vI (100 : Int32)] (mw f a g)).bind (fun b => rn xs L 123 113 [vR 44] (b.1.toList ++ []) b.2) :=
  (r_ald (pg_of mt_123 dX6_kindHere_101 rfl) rfl).trans <|
  (r_con (pg_of mt_123 dX6_kindHere_102 rfl) (v2 := (103 : Int32)) (by decide)).trans <|
  (r_con (pg_of mt_123 dX6_kindHere_104 rfl) (v2 := (111 : Int32)) (by decide)).trans <|
  (r_con (pg_of mt_123 dX6_kindHere_106 rfl) (v2 := (108 : Int32)) (by decide)).trans <|
  (r_con (pg_of mt_123 dX6_kindHere_108 rfl) (v2 := (100 : Int32)) (by decide)).trans <|
  (r_call (t := tt_123) (t2 := tt_124) (pg_of mt_123 dX6_kindHere_110 rfl) mt_123 mt_124 rfl rfl (rcv1 rfl) rfl rfl)
theorem b123_113 (s0 : Int32) : rn xs L 123 113 [vR 44] [vI s0] (mw f a g) = if s0 = 0 then rn xs L 123 118 [vR 44] [] (mw f a g) else rn xs L 123 116 [vR 44] [] (mw f a g) :=
  (r_eq0 (pg_of mt_123 dX6_kindHere_113 rfl))
theorem b123_116  : rn xs L 123 116 [vR 44] [] (mw f a g) = some (some (vI (4 : Int32)), (mw f a g)) :=
  (r_con (pg_of mt_123 dX6_kindHere_116 rfl) (v2 := (4 : Int32)) (by decide)).trans <|
  (r_ri (pg_of mt_123 dX6_kindHere_117 rfl) mt_123 rfl)
theorem b123_118  : rn xs L 123 118 [vR 44] [] (mw f a g) = (ev xs L 125 6 [vR 44, vI (9 : Int32), vI (101 : Int32), vI (118 : Int32), vI (101 : Int32), vI (110 : Int32)] (mw f a g)).bind (fun b => rn xs L 123 132 [vR 44] (b.1.toList ++ []) b.2) :=
  (r_ald (pg_of mt_123 dX6_kindHere_118 rfl) rfl).trans <|
  (r_con (pg_of mt_123 dX6_kindHere_119 rfl) (v2 := (9 : Int32)) (by decide)).trans <|
  (r_con (pg_of mt_123 dX6_kindHere_121 rfl) (v2 := (101 : Int32)) (by decide)).trans <|
  (r_con (pg_of mt_123 dX6_kindHere_123 rfl) (v2 := (118 : Int32)) (by decide)).trans <|
  (r_con (pg_of mt_123 dX6_kindHere_125 rfl) (v2 := (101 : Int32)) (by decide)).trans <|
  (r_con (pg_of mt_123 dX6_kindHere_127 rfl) (v2 := (110 : Int32)) (by decide)).trans <|
  (r_call (t := tt_123) (t2 := tt_125) (pg_of mt_123 dX6_kindHere_129 rfl) mt_123 mt_125 rfl rfl (rcv1 rfl) rfl rfl)
theorem b123_132 (s0 : Int32) : rn xs L 123 132 [vR 44] [vI s0] (mw f a g) = if s0 = 0 then rn xs L 123 167 [vR 44] [] (mw f a g) else rn xs L 123 135 [vR 44] [] (mw f a g) :=
  (r_eq0 (pg_of mt_123 dX6_kindHere_132 rfl))
theorem b123_135  : rn xs L 123 135 [vR 44] [] (mw f a g) = (ev xs L 126 5 [vR 44, vI (3 : Int32), vI (114 : Int32), vI (103 : Int32), vI (114 : Int32)] (mw f a g)).bind (fun b => rn xs L 123 146 [vR 44] (b.1.toList ++ []) b.2) :=
  (r_ald (pg_of mt_123 dX6_kindHere_135 rfl) rfl).trans <|
  (r_con (pg_of mt_123 dX6_kindHere_136 rfl) (v2 := (3 : Int32)) (by decide)).trans <|
  (r_con (pg_of mt_123 dX6_kindHere_137 rfl) (v2 := (114 : Int32)) (by decide)).trans <|
  (r_con (pg_of mt_123 dX6_kindHere_139 rfl) (v2 := (103 : Int32)) (by decide)).trans <|
  (r_con (pg_of mt_123 dX6_kindHere_141 rfl) (v2 := (114 : Int32)) (by decide)).trans <|
  (r_call (t := tt_123) (t2 := tt_126) (pg_of mt_123 dX6_kindHere_143 rfl) mt_123 mt_126 rfl rfl (rcv1 rfl) rfl rfl)
theorem b123_146 (s0 : Int32) : rn xs L 123 146 [vR 44] [vI s0] (mw f a g) = if s0 = 0 then rn xs L 123 167 [vR 44] [] (mw f a g) else rn xs L 123 149 [vR 44] [] (mw f a g) :=
  (r_eq0 (pg_of mt_123 dX6_kindHere_146 rfl))
theorem b123_149  : rn xs L 123 149 [vR 44] [] (mw f a g) = (ev xs L 126 5 [vR 44, vI (5 : Int32), vI (114 : Int32), vI (101 : Int32), vI (101 : Int32)] (mw f a g)).bind (fun b => rn xs L 123 160 [vR 44] (b.1.toList ++ []) b.2) :=
  (r_ald (pg_of mt_123 dX6_kindHere_149 rfl) rfl).trans <|
  (r_con (pg_of mt_123 dX6_kindHere_150 rfl) (v2 := (5 : Int32)) (by decide)).trans <|
  (r_con (pg_of mt_123 dX6_kindHere_151 rfl) (v2 := (114 : Int32)) (by decide)).trans <|
  (r_con (pg_of mt_123 dX6_kindHere_153 rfl) (v2 := (101 : Int32)) (by decide)).trans <|
  (r_con (pg_of mt_123 dX6_kindHere_155 rfl) (v2 := (101 : Int32)) (by decide)).trans <|
  (r_call (t := tt_123) (t2 := tt_126) (pg_of mt_123 dX6_kindHere_157 rfl) mt_123 mt_126 rfl rfl (rcv1 rfl) rfl rfl)
theorem b123_160 (s0 : Int32) : rn xs L 123 160 [vR 44] [vI s0] (mw f a g) = if s0 = 0 then rn xs L 123 167 [vR 44] [] (mw f a g) else rn xs L 123 163 [vR 44] [] (mw f a g) :=
  (r_eq0 (pg_of mt_123 dX6_kindHere_160 rfl))
theorem b123_163  : rn xs L 123 163 [vR 44] [] (mw f a g) = some (some (vI (5 : Int32)), (mw f a g)) :=
  (r_con (pg_of mt_123 dX6_kindHere_163 rfl) (v2 := (5 : Int32)) (by decide)).trans <|
  (r_gto (pg_of mt_123 dX6_kindHere_164 rfl)).trans <|
  (r_ri (pg_of mt_123 dX6_kindHere_168 rfl) mt_123 rfl)
theorem b123_167  : rn xs L 123 167 [vR 44] [] (mw f a g) = some (some (vI (-1 : Int32)), (mw f a g)) :=
  (r_con (pg_of mt_123 dX6_kindHere_167 rfl) (v2 := (-1 : Int32)) (by decide)).trans <|
  (r_ri (pg_of mt_123 dX6_kindHere_168 rfl) mt_123 rfl)
-- 124 LeafFallsModel.isFour(IIII)Z
theorem b124_0 (l1 : Int32) (l2 : Int32) (l3 : Int32) (l4 : Int32) : rn xs L 124 0 [vR 44, vI l1, vI l2, vI l3, vI l4] [] (mw f a g) = (ev xs L 125 6 [vR 44, vI (4 : Int32), vI l1, vI l2, vI l3, vI l4] (mw f a g)).bind (fun b => rn xs L 124 10 [vR 44, vI l1, vI l2, vI l3, vI l4] (b.1.toList ++ []) b.2) :=
  (r_ald (pg_of mt_124 dX6_isFour_0 rfl) rfl).trans <|
  (r_con (pg_of mt_124 dX6_isFour_1 rfl) (v2 := (4 : Int32)) (by decide)).trans <|
  (r_ild (pg_of mt_124 dX6_isFour_2 rfl) rfl).trans <|
  (r_ild (pg_of mt_124 dX6_isFour_3 rfl) rfl).trans <|
  (r_ild (pg_of mt_124 dX6_isFour_4 rfl) rfl).trans <|
  (r_ild (pg_of mt_124 dX6_isFour_5 rfl) rfl).trans <|
  (r_call (t := tt_124) (t2 := tt_125) (pg_of mt_124 dX6_isFour_7 rfl) mt_124 mt_125 rfl rfl (rcv1 rfl) rfl rfl)
theorem b124_10 (l1 : Int32) (l2 : Int32) (l3 : Int32) (l4 : Int32) (s0 : Int32) (h1 : s0 = 0 ∨ s0 = 1) : rn xs L 124 10 [vR 44, vI l1, vI l2, vI l3, vI l4] [vI s0] (mw f a g) = some (some (vI s0), (mw f a g)) :=
  (r_rz (pg_of mt_124 dX6_isFour_10 rfl) mt_124 rfl h1)
-- 125 LeafFallsModel.isName(IIIII)Z
theorem b125_0 (l1 : Int32) (l2 : Int32) (l3 : Int32) (l4 : Int32) (l5 : Int32) : rn xs L 125 0 [vR 44, vI l1, vI l2, vI l3, vI l4, vI l5] [] (mw f a g) = if (f 44 7) = (1 : Int32) then rn xs L 125 8 [vR 44, vI l1, vI l2, vI l3, vI l4, vI l5] [] (mw f a g) else rn xs L 125 81 [vR 44, vI l1, vI l2, vI l3, vI l4, vI l5] [] (mw f a g) :=
  (r_ald (pg_of mt_125 dX6_isName_0 rfl) rfl).trans <|
  (r_gti (pg_of mt_125 dX6_isName_1 rfl) rfl).trans <|
  (r_con (pg_of mt_125 dX6_isName_4 rfl) (v2 := (1 : Int32)) (by decide)).trans <|
  (r_ne (pg_of mt_125 dX6_isName_5 rfl))
theorem b125_8 (l1 : Int32) (l2 : Int32) (l3 : Int32) (l4 : Int32) (l5 : Int32) : rn xs L 125 8 [vR 44, vI l1, vI l2, vI l3, vI l4, vI l5] [] (mw f a g) = if ((f 44 9) - (f 44 8)) = l1 then rn xs L 125 21 [vR 44, vI l1, vI l2, vI l3, vI l4, vI l5] [] (mw f a g) else rn xs L 125 81 [vR 44, vI l1, vI l2, vI l3, vI l4, vI l5] [] (mw f a g) :=
  (r_ald (pg_of mt_125 dX6_isName_8 rfl) rfl).trans <|
  (r_gti (pg_of mt_125 dX6_isName_9 rfl) rfl).trans <|
  (r_ald (pg_of mt_125 dX6_isName_12 rfl) rfl).trans <|
  (r_gti (pg_of mt_125 dX6_isName_13 rfl) rfl).trans <|
  (r_bin (pg_of mt_125 dX6_isName_16 rfl)).trans <|
  (r_ild (pg_of mt_125 dX6_isName_17 rfl) rfl).trans <|
  (r_ne (pg_of mt_125 dX6_isName_18 rfl))
theorem b125_21 (l1 : Int32) (l2 : Int32) (l3 : Int32) (l4 : Int32) (l5 : Int32) : rn xs L 125 21 [vR 44, vI l1, vI l2, vI l3, vI l4, vI l5] [] (mw f a g) = (ev xs L 119 2 [vR 44, vI (f 44 8)] (mw f a g)).bind (fun b => rn xs L 125 29 [vR 44, vI l1, vI l2, vI l3, vI l4, vI l5] (b.1.toList ++ []) b.2) :=
  (r_ald (pg_of mt_125 dX6_isName_21 rfl) rfl).trans <|
  (r_ald (pg_of mt_125 dX6_isName_22 rfl) rfl).trans <|
  (r_gti (pg_of mt_125 dX6_isName_23 rfl) rfl).trans <|
  (r_call (t := tt_125) (t2 := tt_119) (pg_of mt_125 dX6_isName_26 rfl) mt_125 mt_119 rfl rfl (rcv1 rfl) rfl rfl)
theorem b125_29 (l1 : Int32) (l2 : Int32) (l3 : Int32) (l4 : Int32) (l5 : Int32) (s0 : Int32) : rn xs L 125 29 [vR 44, vI l1, vI l2, vI l3, vI l4, vI l5] [vI s0] (mw f a g) = if s0 = l2 then rn xs L 125 33 [vR 44, vI l1, vI l2, vI l3, vI l4, vI l5] [] (mw f a g) else rn xs L 125 81 [vR 44, vI l1, vI l2, vI l3, vI l4, vI l5] [] (mw f a g) :=
  (r_ild (pg_of mt_125 dX6_isName_29 rfl) rfl).trans <|
  (r_ne (pg_of mt_125 dX6_isName_30 rfl))
theorem b125_33 (l1 : Int32) (l2 : Int32) (l3 : Int32) (l4 : Int32) (l5 : Int32) : rn xs L 125 33 [vR 44, vI l1, vI l2, vI l3, vI l4, vI l5] [] (mw f a g) = (ev xs L 119 2 [vR 44, vI ((f 44 8) + (1 : Int32))] (mw f a g)).bind (fun b => rn xs L 125 43 [vR 44, vI l1, vI l2, vI l3, vI l4, vI l5] (b.1.toList ++ []) b.2) :=
  (r_ald (pg_of mt_125 dX6_isName_33 rfl) rfl).trans <|
  (r_ald (pg_of mt_125 dX6_isName_34 rfl) rfl).trans <|
  (r_gti (pg_of mt_125 dX6_isName_35 rfl) rfl).trans <|
  (r_con (pg_of mt_125 dX6_isName_38 rfl) (v2 := (1 : Int32)) (by decide)).trans <|
  (r_bin (pg_of mt_125 dX6_isName_39 rfl)).trans <|
  (r_call (t := tt_125) (t2 := tt_119) (pg_of mt_125 dX6_isName_40 rfl) mt_125 mt_119 rfl rfl (rcv1 rfl) rfl rfl)
theorem b125_43 (l1 : Int32) (l2 : Int32) (l3 : Int32) (l4 : Int32) (l5 : Int32) (s0 : Int32) : rn xs L 125 43 [vR 44, vI l1, vI l2, vI l3, vI l4, vI l5] [vI s0] (mw f a g) = if s0 = l3 then rn xs L 125 47 [vR 44, vI l1, vI l2, vI l3, vI l4, vI l5] [] (mw f a g) else rn xs L 125 81 [vR 44, vI l1, vI l2, vI l3, vI l4, vI l5] [] (mw f a g) :=
  (r_ild (pg_of mt_125 dX6_isName_43 rfl) rfl).trans <|
  (r_ne (pg_of mt_125 dX6_isName_44 rfl))
theorem b125_47 (l1 : Int32) (l2 : Int32) (l3 : Int32) (l4 : Int32) (l5 : Int32) : rn xs L 125 47 [vR 44, vI l1, vI l2, vI l3, vI l4, vI l5] [] (mw f a g) = (ev xs L 119 2 [vR 44, vI ((f 44 8) + (2 : Int32))] (mw f a g)).bind (fun b => rn xs L 125 57 [vR 44, vI l1, vI l2, vI l3, vI l4, vI l5] (b.1.toList ++ []) b.2) :=
  (r_ald (pg_of mt_125 dX6_isName_47 rfl) rfl).trans <|
  (r_ald (pg_of mt_125 dX6_isName_48 rfl) rfl).trans <|
  (r_gti (pg_of mt_125 dX6_isName_49 rfl) rfl).trans <|
  (r_con (pg_of mt_125 dX6_isName_52 rfl) (v2 := (2 : Int32)) (by decide)).trans <|
  (r_bin (pg_of mt_125 dX6_isName_53 rfl)).trans <|
  (r_call (t := tt_125) (t2 := tt_119) (pg_of mt_125 dX6_isName_54 rfl) mt_125 mt_119 rfl rfl (rcv1 rfl) rfl rfl)
theorem b125_57 (l1 : Int32) (l2 : Int32) (l3 : Int32) (l4 : Int32) (l5 : Int32) (s0 : Int32) : rn xs L 125 57 [vR 44, vI l1, vI l2, vI l3, vI l4, vI l5] [vI s0] (mw f a g) = if s0 = l4 then rn xs L 125 62 [vR 44, vI l1, vI l2, vI l3, vI l4, vI l5] [] (mw f a g) else rn xs L 125 81 [vR 44, vI l1, vI l2, vI l3, vI l4, vI l5] [] (mw f a g) :=
  (r_ild (pg_of mt_125 dX6_isName_57 rfl) rfl).trans <|
  (r_ne (pg_of mt_125 dX6_isName_59 rfl))
theorem b125_62 (l1 : Int32) (l2 : Int32) (l3 : Int32) (l4 : Int32) (l5 : Int32) : rn xs L 125 62 [vR 44, vI l1, vI l2, vI l3, vI l4, vI l5] [] (mw f a g) = (ev xs L 119 2 [vR 44, vI ((f 44 9) - (1 : Int32))] (mw f a g)).bind (fun b => rn xs L 125 72 [vR 44, vI l1, vI l2, vI l3, vI l4, vI l5] (b.1.toList ++ []) b.2) :=
  (r_ald (pg_of mt_125 dX6_isName_62 rfl) rfl).trans <|
  (r_ald (pg_of mt_125 dX6_isName_63 rfl) rfl).trans <|
  (r_gti (pg_of mt_125 dX6_isName_64 rfl) rfl).trans <|
  (r_con (pg_of mt_125 dX6_isName_67 rfl) (v2 := (1 : Int32)) (by decide)).trans <|
  (r_bin (pg_of mt_125 dX6_isName_68 rfl)).trans <|
  (r_call (t := tt_125) (t2 := tt_119) (pg_of mt_125 dX6_isName_69 rfl) mt_125 mt_119 rfl rfl (rcv1 rfl) rfl rfl)
theorem b125_72 (l1 : Int32) (l2 : Int32) (l3 : Int32) (l4 : Int32) (l5 : Int32) (s0 : Int32) : rn xs L 125 72 [vR 44, vI l1, vI l2, vI l3, vI l4, vI l5] [vI s0] (mw f a g) = if s0 = l5 then rn xs L 125 77 [vR 44, vI l1, vI l2, vI l3, vI l4, vI l5] [] (mw f a g) else rn xs L 125 81 [vR 44, vI l1, vI l2, vI l3, vI l4, vI l5] [] (mw f a g) :=
  (r_ild (pg_of mt_125 dX6_isName_72 rfl) rfl).trans <|
  (r_ne (pg_of mt_125 dX6_isName_74 rfl))
theorem b125_77 (l1 : Int32) (l2 : Int32) (l3 : Int32) (l4 : Int32) (l5 : Int32) : rn xs L 125 77 [vR 44, vI l1, vI l2, vI l3, vI l4, vI l5] [] (mw f a g) = some (some (vI (1 : Int32)), (mw f a g)) :=
  (r_con (pg_of mt_125 dX6_isName_77 rfl) (v2 := (1 : Int32)) (by decide)).trans <|
  (r_gto (pg_of mt_125 dX6_isName_78 rfl)).trans <|
  (r_rz (pg_of mt_125 dX6_isName_82 rfl) mt_125 rfl (Or.inr rfl))
theorem b125_81 (l1 : Int32) (l2 : Int32) (l3 : Int32) (l4 : Int32) (l5 : Int32) : rn xs L 125 81 [vR 44, vI l1, vI l2, vI l3, vI l4, vI l5] [] (mw f a g) = some (some (vI (0 : Int32)), (mw f a g)) :=
  (r_con (pg_of mt_125 dX6_isName_81 rfl) (v2 := (0 : Int32)) (by decide)).trans <|
  (r_rz (pg_of mt_125 dX6_isName_82 rfl) mt_125 rfl (Or.inl rfl))
-- 126 LeafFallsModel.isSame(IIII)Z
theorem b126_0 (l1 : Int32) (l2 : Int32) (l3 : Int32) (l4 : Int32) : rn xs L 126 0 [vR 44, vI l1, vI l2, vI l3, vI l4] [] (mw f a g) = (ev xs L 119 2 [vR 44, vI ((f 44 8) + l1)] (mw f a g)).bind (fun b => rn xs L 126 10 [vR 44, vI l1, vI l2, vI l3, vI l4] (b.1.toList ++ []) b.2) :=
  (r_ald (pg_of mt_126 dX6_isSame_0 rfl) rfl).trans <|
  (r_ald (pg_of mt_126 dX6_isSame_1 rfl) rfl).trans <|
  (r_gti (pg_of mt_126 dX6_isSame_2 rfl) rfl).trans <|
  (r_ild (pg_of mt_126 dX6_isSame_5 rfl) rfl).trans <|
  (r_bin (pg_of mt_126 dX6_isSame_6 rfl)).trans <|
  (r_call (t := tt_126) (t2 := tt_119) (pg_of mt_126 dX6_isSame_7 rfl) mt_126 mt_119 rfl rfl (rcv1 rfl) rfl rfl)
theorem b126_10 (l1 : Int32) (l2 : Int32) (l3 : Int32) (l4 : Int32) (s0 : Int32) : rn xs L 126 10 [vR 44, vI l1, vI l2, vI l3, vI l4] [vI s0] (mw f a g) = if s0 = l2 then rn xs L 126 14 [vR 44, vI l1, vI l2, vI l3, vI l4] [] (mw f a g) else rn xs L 126 51 [vR 44, vI l1, vI l2, vI l3, vI l4] [] (mw f a g) :=
  (r_ild (pg_of mt_126 dX6_isSame_10 rfl) rfl).trans <|
  (r_ne (pg_of mt_126 dX6_isSame_11 rfl))
theorem b126_14 (l1 : Int32) (l2 : Int32) (l3 : Int32) (l4 : Int32) : rn xs L 126 14 [vR 44, vI l1, vI l2, vI l3, vI l4] [] (mw f a g) = (ev xs L 119 2 [vR 44, vI (((f 44 8) + l1) + (1 : Int32))] (mw f a g)).bind (fun b => rn xs L 126 26 [vR 44, vI l1, vI l2, vI l3, vI l4] (b.1.toList ++ []) b.2) :=
  (r_ald (pg_of mt_126 dX6_isSame_14 rfl) rfl).trans <|
  (r_ald (pg_of mt_126 dX6_isSame_15 rfl) rfl).trans <|
  (r_gti (pg_of mt_126 dX6_isSame_16 rfl) rfl).trans <|
  (r_ild (pg_of mt_126 dX6_isSame_19 rfl) rfl).trans <|
  (r_bin (pg_of mt_126 dX6_isSame_20 rfl)).trans <|
  (r_con (pg_of mt_126 dX6_isSame_21 rfl) (v2 := (1 : Int32)) (by decide)).trans <|
  (r_bin (pg_of mt_126 dX6_isSame_22 rfl)).trans <|
  (r_call (t := tt_126) (t2 := tt_119) (pg_of mt_126 dX6_isSame_23 rfl) mt_126 mt_119 rfl rfl (rcv1 rfl) rfl rfl)
theorem b126_26 (l1 : Int32) (l2 : Int32) (l3 : Int32) (l4 : Int32) (s0 : Int32) : rn xs L 126 26 [vR 44, vI l1, vI l2, vI l3, vI l4] [vI s0] (mw f a g) = if s0 = l3 then rn xs L 126 30 [vR 44, vI l1, vI l2, vI l3, vI l4] [] (mw f a g) else rn xs L 126 51 [vR 44, vI l1, vI l2, vI l3, vI l4] [] (mw f a g) :=
  (r_ild (pg_of mt_126 dX6_isSame_26 rfl) rfl).trans <|
  (r_ne (pg_of mt_126 dX6_isSame_27 rfl))
theorem b126_30 (l1 : Int32) (l2 : Int32) (l3 : Int32) (l4 : Int32) : rn xs L 126 30 [vR 44, vI l1, vI l2, vI l3, vI l4] [] (mw f a g) = (ev xs L 119 2 [vR 44, vI (((f 44 8) + l1) + (2 : Int32))] (mw f a g)).bind (fun b => rn xs L 126 42 [vR 44, vI l1, vI l2, vI l3, vI l4] (b.1.toList ++ []) b.2) :=
  (r_ald (pg_of mt_126 dX6_isSame_30 rfl) rfl).trans <|
  (r_ald (pg_of mt_126 dX6_isSame_31 rfl) rfl).trans <|
  (r_gti (pg_of mt_126 dX6_isSame_32 rfl) rfl).trans <|
  (r_ild (pg_of mt_126 dX6_isSame_35 rfl) rfl).trans <|
  (r_bin (pg_of mt_126 dX6_isSame_36 rfl)).trans <|
  (r_con (pg_of mt_126 dX6_isSame_37 rfl) (v2 := (2 : Int32)) (by decide)).trans <|
  (r_bin (pg_of mt_126 dX6_isSame_38 rfl)).trans <|
  (r_call (t := tt_126) (t2 := tt_119) (pg_of mt_126 dX6_isSame_39 rfl) mt_126 mt_119 rfl rfl (rcv1 rfl) rfl rfl)
theorem b126_42 (l1 : Int32) (l2 : Int32) (l3 : Int32) (l4 : Int32) (s0 : Int32) : rn xs L 126 42 [vR 44, vI l1, vI l2, vI l3, vI l4] [vI s0] (mw f a g) = if s0 = l4 then rn xs L 126 47 [vR 44, vI l1, vI l2, vI l3, vI l4] [] (mw f a g) else rn xs L 126 51 [vR 44, vI l1, vI l2, vI l3, vI l4] [] (mw f a g) :=
  (r_ild (pg_of mt_126 dX6_isSame_42 rfl) rfl).trans <|
  (r_ne (pg_of mt_126 dX6_isSame_44 rfl))
theorem b126_47 (l1 : Int32) (l2 : Int32) (l3 : Int32) (l4 : Int32) : rn xs L 126 47 [vR 44, vI l1, vI l2, vI l3, vI l4] [] (mw f a g) = some (some (vI (1 : Int32)), (mw f a g)) :=
  (r_con (pg_of mt_126 dX6_isSame_47 rfl) (v2 := (1 : Int32)) (by decide)).trans <|
  (r_gto (pg_of mt_126 dX6_isSame_48 rfl)).trans <|
  (r_rz (pg_of mt_126 dX6_isSame_52 rfl) mt_126 rfl (Or.inr rfl))
theorem b126_51 (l1 : Int32) (l2 : Int32) (l3 : Int32) (l4 : Int32) : rn xs L 126 51 [vR 44, vI l1, vI l2, vI l3, vI l4] [] (mw f a g) = some (some (vI (0 : Int32)), (mw f a g)) :=
  (r_con (pg_of mt_126 dX6_isSame_51 rfl) (v2 := (0 : Int32)) (by decide)).trans <|
  (r_rz (pg_of mt_126 dX6_isSame_52 rfl) mt_126 rfl (Or.inl rfl))
-- 127 LeafFallsModel.lawHere()I
theorem b127_0  : rn xs L 127 0 [vR 44] [] (mw f a g) = (ev xs L 124 5 [vR 44, vI (119 : Int32), vI (105 : Int32), vI (110 : Int32), vI (100 : Int32)] (mw f a g)).bind (fun b => rn xs L 127 12 [vR 44] (b.1.toList ++ []) b.2) :=
  (r_ald (pg_of mt_127 dX6_lawHere_0 rfl) rfl).trans <|
  (r_con (pg_of mt_127 dX6_lawHere_1 rfl) (v2 := (119 : Int32)) (by decide)).trans <|
  (r_con (pg_of mt_127 dX6_lawHere_3 rfl) (v2 := (105 : Int32)) (by decide)).trans <|
  (r_con (pg_of mt_127 dX6_lawHere_5 rfl) (v2 := (110 : Int32)) (by decide)).trans <|
  (r_con (pg_of mt_127 dX6_lawHere_7 rfl) (v2 := (100 : Int32)) (by decide)).trans <|
  (r_call (t := tt_127) (t2 := tt_124) (pg_of mt_127 dX6_lawHere_9 rfl) mt_127 mt_124 rfl rfl (rcv1 rfl) rfl rfl)
theorem b127_12 (s0 : Int32) : rn xs L 127 12 [vR 44] [vI s0] (mw f a g) = if s0 = 0 then rn xs L 127 17 [vR 44] [] (mw f a g) else rn xs L 127 15 [vR 44] [] (mw f a g) :=
  (r_eq0 (pg_of mt_127 dX6_lawHere_12 rfl))
theorem b127_15  : rn xs L 127 15 [vR 44] [] (mw f a g) = some (some (vI (4 : Int32)), (mw f a g)) :=
  (r_con (pg_of mt_127 dX6_lawHere_15 rfl) (v2 := (4 : Int32)) (by decide)).trans <|
  (r_ri (pg_of mt_127 dX6_lawHere_16 rfl) mt_127 rfl)
theorem b127_17  : rn xs L 127 17 [vR 44] [] (mw f a g) = (ev xs L 124 5 [vR 44, vI (99 : Int32), vI (111 : Int32), vI (108 : Int32), vI (100 : Int32)] (mw f a g)).bind (fun b => rn xs L 127 29 [vR 44] (b.1.toList ++ []) b.2) :=
  (r_ald (pg_of mt_127 dX6_lawHere_17 rfl) rfl).trans <|
  (r_con (pg_of mt_127 dX6_lawHere_18 rfl) (v2 := (99 : Int32)) (by decide)).trans <|
  (r_con (pg_of mt_127 dX6_lawHere_20 rfl) (v2 := (111 : Int32)) (by decide)).trans <|
  (r_con (pg_of mt_127 dX6_lawHere_22 rfl) (v2 := (108 : Int32)) (by decide)).trans <|
  (r_con (pg_of mt_127 dX6_lawHere_24 rfl) (v2 := (100 : Int32)) (by decide)).trans <|
  (r_call (t := tt_127) (t2 := tt_124) (pg_of mt_127 dX6_lawHere_26 rfl) mt_127 mt_124 rfl rfl (rcv1 rfl) rfl rfl)
theorem b127_29 (s0 : Int32) : rn xs L 127 29 [vR 44] [vI s0] (mw f a g) = if s0 = 0 then rn xs L 127 34 [vR 44] [] (mw f a g) else rn xs L 127 32 [vR 44] [] (mw f a g) :=
  (r_eq0 (pg_of mt_127 dX6_lawHere_29 rfl))
theorem b127_32  : rn xs L 127 32 [vR 44] [] (mw f a g) = some (some (vI (5 : Int32)), (mw f a g)) :=
  (r_con (pg_of mt_127 dX6_lawHere_32 rfl) (v2 := (5 : Int32)) (by decide)).trans <|
  (r_ri (pg_of mt_127 dX6_lawHere_33 rfl) mt_127 rfl)
theorem b127_34  : rn xs L 127 34 [vR 44] [] (mw f a g) = (ev xs L 125 6 [vR 44, vI (3 : Int32), vI (119 : Int32), vI (101 : Int32), vI (116 : Int32), vI (116 : Int32)] (mw f a g)).bind (fun b => rn xs L 127 47 [vR 44] (b.1.toList ++ []) b.2) :=
  (r_ald (pg_of mt_127 dX6_lawHere_34 rfl) rfl).trans <|
  (r_con (pg_of mt_127 dX6_lawHere_35 rfl) (v2 := (3 : Int32)) (by decide)).trans <|
  (r_con (pg_of mt_127 dX6_lawHere_36 rfl) (v2 := (119 : Int32)) (by decide)).trans <|
  (r_con (pg_of mt_127 dX6_lawHere_38 rfl) (v2 := (101 : Int32)) (by decide)).trans <|
  (r_con (pg_of mt_127 dX6_lawHere_40 rfl) (v2 := (116 : Int32)) (by decide)).trans <|
  (r_con (pg_of mt_127 dX6_lawHere_42 rfl) (v2 := (116 : Int32)) (by decide)).trans <|
  (r_call (t := tt_127) (t2 := tt_125) (pg_of mt_127 dX6_lawHere_44 rfl) mt_127 mt_125 rfl rfl (rcv1 rfl) rfl rfl)
theorem b127_47 (s0 : Int32) : rn xs L 127 47 [vR 44] [vI s0] (mw f a g) = if s0 = 0 then rn xs L 127 53 [vR 44] [] (mw f a g) else rn xs L 127 50 [vR 44] [] (mw f a g) :=
  (r_eq0 (pg_of mt_127 dX6_lawHere_47 rfl))
theorem b127_50  : rn xs L 127 50 [vR 44] [] (mw f a g) = some (some (vI (6 : Int32)), (mw f a g)) :=
  (r_con (pg_of mt_127 dX6_lawHere_50 rfl) (v2 := (6 : Int32)) (by decide)).trans <|
  (r_ri (pg_of mt_127 dX6_lawHere_52 rfl) mt_127 rfl)
theorem b127_53  : rn xs L 127 53 [vR 44] [] (mw f a g) = (ev xs L 124 5 [vR 44, vI (103 : Int32), vI (97 : Int32), vI (108 : Int32), vI (101 : Int32)] (mw f a g)).bind (fun b => rn xs L 127 65 [vR 44] (b.1.toList ++ []) b.2) :=
  (r_ald (pg_of mt_127 dX6_lawHere_53 rfl) rfl).trans <|
  (r_con (pg_of mt_127 dX6_lawHere_54 rfl) (v2 := (103 : Int32)) (by decide)).trans <|
  (r_con (pg_of mt_127 dX6_lawHere_56 rfl) (v2 := (97 : Int32)) (by decide)).trans <|
  (r_con (pg_of mt_127 dX6_lawHere_58 rfl) (v2 := (108 : Int32)) (by decide)).trans <|
  (r_con (pg_of mt_127 dX6_lawHere_60 rfl) (v2 := (101 : Int32)) (by decide)).trans <|
  (r_call (t := tt_127) (t2 := tt_124) (pg_of mt_127 dX6_lawHere_62 rfl) mt_127 mt_124 rfl rfl (rcv1 rfl) rfl rfl)
theorem b127_65 (s0 : Int32) : rn xs L 127 65 [vR 44] [vI s0] (mw f a g) = if s0 = 0 then rn xs L 127 73 [vR 44] [] (mw f a g) else rn xs L 127 68 [vR 44] [] (mw f a g) :=
  (r_eq0 (pg_of mt_127 dX6_lawHere_65 rfl))
theorem b127_68  : rn xs L 127 68 [vR 44] [] (mw f a g) = some (some (vI (7 : Int32)), (mw f a g)) :=
  (r_con (pg_of mt_127 dX6_lawHere_68 rfl) (v2 := (7 : Int32)) (by decide)).trans <|
  (r_gto (pg_of mt_127 dX6_lawHere_70 rfl)).trans <|
  (r_ri (pg_of mt_127 dX6_lawHere_74 rfl) mt_127 rfl)
theorem b127_73  : rn xs L 127 73 [vR 44] [] (mw f a g) = some (some (vI (-1 : Int32)), (mw f a g)) :=
  (r_con (pg_of mt_127 dX6_lawHere_73 rfl) (v2 := (-1 : Int32)) (by decide)).trans <|
  (r_ri (pg_of mt_127 dX6_lawHere_74 rfl) mt_127 rfl)
-- 128 LeafFallsModel.leafHere(I)V
theorem b128_0 (l1 : Int32) (l2 : ma_V) : rn xs L 128 0 [vR 44, vI l1, l2] [] (mw f a g) = if (a 45 0) < (8 : Int32) then rn xs L 128 25 [vR 44, vI l1, vI ((14 : Int32) + ((6 : Int32) * (a 45 0)))] [vR 44] (mw f a g) else rn xs L 128 29 [vR 44, vI l1, vI ((14 : Int32) + ((6 : Int32) * (a 45 0)))] [vR 44] (mw f a g) :=
  (r_con (pg_of mt_128 dX6_leafHere_0 rfl) (v2 := (14 : Int32)) (by decide)).trans <|
  (r_con (pg_of mt_128 dX6_leafHere_2 rfl) (v2 := (6 : Int32)) (by decide)).trans <|
  (r_ald (pg_of mt_128 dX6_leafHere_4 rfl) rfl).trans <|
  (r_gtr (a := 45) (pg_of mt_128 dX6_leafHere_5 rfl) rfl rfl).trans <|
  (r_con (pg_of mt_128 dX6_leafHere_8 rfl) (v2 := (0 : Int32)) (by decide)).trans <|
  (r_ialc (j := 0) (pg_of mt_128 dX6_leafHere_9 rfl) rfl (by decide) (by decide)).trans <|
  (r_bin (pg_of mt_128 dX6_leafHere_10 rfl)).trans <|
  (r_bin (pg_of mt_128 dX6_leafHere_11 rfl)).trans <|
  (r_ist (pg_of mt_128 dX6_leafHere_12 rfl) (Nat.le_of_ble_eq_true rfl) rfl).trans <|
  (r_ald (pg_of mt_128 dX6_leafHere_13 rfl) rfl).trans <|
  (r_ald (pg_of mt_128 dX6_leafHere_14 rfl) rfl).trans <|
  (r_gtr (a := 45) (pg_of mt_128 dX6_leafHere_15 rfl) rfl rfl).trans <|
  (r_con (pg_of mt_128 dX6_leafHere_18 rfl) (v2 := (0 : Int32)) (by decide)).trans <|
  (r_ialc (j := 0) (pg_of mt_128 dX6_leafHere_19 rfl) rfl (by decide) (by decide)).trans <|
  (r_con (pg_of mt_128 dX6_leafHere_20 rfl) (v2 := (8 : Int32)) (by decide)).trans <|
  (r_ge (pg_of mt_128 dX6_leafHere_22 rfl))
theorem b128_25 (l1 : Int32) (l2 : Int32) : rn xs L 128 25 [vR 44, vI l1, vI l2] [vR 44] (mw f a g) = (ev xs L 129 2 [vR 44, vI (1 : Int32)] (mw f a g)).bind (fun b => rn xs L 128 33 [vR 44, vI l1, vI l2] (b.1.toList ++ []) b.2) :=
  (r_con (pg_of mt_128 dX6_leafHere_25 rfl) (v2 := (1 : Int32)) (by decide)).trans <|
  (r_gto (pg_of mt_128 dX6_leafHere_26 rfl)).trans <|
  (r_call (t := tt_128) (t2 := tt_129) (pg_of mt_128 dX6_leafHere_30 rfl) mt_128 mt_129 rfl rfl (rcv1 rfl) rfl rfl)
theorem b128_29 (l1 : Int32) (l2 : Int32) : rn xs L 128 29 [vR 44, vI l1, vI l2] [vR 44] (mw f a g) = (ev xs L 129 2 [vR 44, vI (0 : Int32)] (mw f a g)).bind (fun b => rn xs L 128 33 [vR 44, vI l1, vI l2] (b.1.toList ++ []) b.2) :=
  (r_con (pg_of mt_128 dX6_leafHere_29 rfl) (v2 := (0 : Int32)) (by decide)).trans <|
  (r_call (t := tt_128) (t2 := tt_129) (pg_of mt_128 dX6_leafHere_30 rfl) mt_128 mt_129 rfl rfl (rcv1 rfl) rfl rfl)
theorem b128_33 (l1 : Int32) (l2 : Int32) : rn xs L 128 33 [vR 44, vI l1, vI l2] [] (mw f a g) = (ev xs L 130 3 [vR 44, vI (111 : Int32), vI (110 : Int32)] (mw f a g)).bind (fun b => rn xs L 128 42 [vR 44, vI l1, vI l2] (b.1.toList ++ [vR 44]) b.2) :=
  (r_ald (pg_of mt_128 dX6_leafHere_33 rfl) rfl).trans <|
  (r_ald (pg_of mt_128 dX6_leafHere_34 rfl) rfl).trans <|
  (r_con (pg_of mt_128 dX6_leafHere_35 rfl) (v2 := (111 : Int32)) (by decide)).trans <|
  (r_con (pg_of mt_128 dX6_leafHere_37 rfl) (v2 := (110 : Int32)) (by decide)).trans <|
  (r_call (t := tt_128) (t2 := tt_130) (pg_of mt_128 dX6_leafHere_39 rfl) mt_128 mt_130 rfl rfl (rcv1 rfl) rfl rfl)
theorem b128_42 (l1 : Int32) (l2 : Int32) (s0 : Int32) : rn xs L 128 42 [vR 44, vI l1, vI l2] [vI s0, vR 44] (mw f a g) = (ev xs L 129 2 [vR 44, vI s0] (mw f a g)).bind (fun b => rn xs L 128 45 [vR 44, vI l1, vI l2] (b.1.toList ++ []) b.2) :=
  (r_call (t := tt_128) (t2 := tt_129) (pg_of mt_128 dX6_leafHere_42 rfl) mt_128 mt_129 rfl rfl (rcv1 rfl) rfl rfl)
theorem b128_45 (l1 : Int32) (l2 : Int32) : rn xs L 128 45 [vR 44, vI l1, vI l2] [] (mw f a g) = if (f 44 11) = 0 then rn xs L 128 52 [vR 44, vI l1, vI l2] [] (mw f a g) else rn xs L 128 88 [vR 44, vI l1, vI l2] [] (mw f a g) :=
  (r_ald (pg_of mt_128 dX6_leafHere_45 rfl) rfl).trans <|
  (r_gti (pg_of mt_128 dX6_leafHere_46 rfl) rfl).trans <|
  (r_ne0 (pg_of mt_128 dX6_leafHere_49 rfl))
theorem b128_52 (l1 : Int32) (l2 : Int32) (h1 : ma_in l2 62 = true) (h2 : ma_in ((l2 + (2 : Int32))) 62 = true) (h3 : ma_in ((l2 + (4 : Int32))) 62 = true) : rn xs L 128 52 [vR 44, vI l1, vI l2] [] (mw f a g) = if (f 44 11) = 0 then rn xs L 128 100 [vR 44, vI l1, vI l2] [vR 44] (mw f ((ma_u2 ((ma_u2 ((ma_u2 ((ma_u2 a 45 l2.toNatClampNeg l1)) 45 ((l2 + (2 : Int32))).toNatClampNeg ((10 : Int32)))) 45 ((l2 + (4 : Int32))).toNatClampNeg ((1 : Int32)))) 45 0 (((((ma_u2 ((ma_u2 ((ma_u2 a 45 l2.toNatClampNeg l1)) 45 ((l2 + (2 : Int32))).toNatClampNeg ((10 : Int32)))) 45 ((l2 + (4 : Int32))).toNatClampNeg ((1 : Int32)))) 45 0) + (1 : Int32))))) g) else rn xs L 128 96 [vR 44, vI l1, vI l2] [vR 44] (mw f ((ma_u2 ((ma_u2 ((ma_u2 ((ma_u2 a 45 l2.toNatClampNeg l1)) 45 ((l2 + (2 : Int32))).toNatClampNeg ((10 : Int32)))) 45 ((l2 + (4 : Int32))).toNatClampNeg ((1 : Int32)))) 45 0 (((((ma_u2 ((ma_u2 ((ma_u2 a 45 l2.toNatClampNeg l1)) 45 ((l2 + (2 : Int32))).toNatClampNeg ((10 : Int32)))) 45 ((l2 + (4 : Int32))).toNatClampNeg ((1 : Int32)))) 45 0) + (1 : Int32))))) g) :=
  (r_ald (pg_of mt_128 dX6_leafHere_52 rfl) rfl).trans <|
  (r_gtr (a := 45) (pg_of mt_128 dX6_leafHere_53 rfl) rfl rfl).trans <|
  (r_ild (pg_of mt_128 dX6_leafHere_56 rfl) rfl).trans <|
  (r_ild (pg_of mt_128 dX6_leafHere_57 rfl) rfl).trans <|
  (r_iast (pg_of mt_128 dX6_leafHere_58 rfl) rfl h1).trans <|
  (r_ald (pg_of mt_128 dX6_leafHere_59 rfl) rfl).trans <|
  (r_gtr (a := 45) (pg_of mt_128 dX6_leafHere_60 rfl) rfl rfl).trans <|
  (r_ild (pg_of mt_128 dX6_leafHere_63 rfl) rfl).trans <|
  (r_con (pg_of mt_128 dX6_leafHere_64 rfl) (v2 := (2 : Int32)) (by decide)).trans <|
  (r_bin (pg_of mt_128 dX6_leafHere_65 rfl)).trans <|
  (r_con (pg_of mt_128 dX6_leafHere_66 rfl) (v2 := (10 : Int32)) (by decide)).trans <|
  (r_iast (pg_of mt_128 dX6_leafHere_68 rfl) rfl h2).trans <|
  (r_ald (pg_of mt_128 dX6_leafHere_69 rfl) rfl).trans <|
  (r_gtr (a := 45) (pg_of mt_128 dX6_leafHere_70 rfl) rfl rfl).trans <|
  (r_ild (pg_of mt_128 dX6_leafHere_73 rfl) rfl).trans <|
  (r_con (pg_of mt_128 dX6_leafHere_74 rfl) (v2 := (4 : Int32)) (by decide)).trans <|
  (r_bin (pg_of mt_128 dX6_leafHere_75 rfl)).trans <|
  (r_con (pg_of mt_128 dX6_leafHere_76 rfl) (v2 := (1 : Int32)) (by decide)).trans <|
  (r_iast (pg_of mt_128 dX6_leafHere_77 rfl) rfl h3).trans <|
  (r_ald (pg_of mt_128 dX6_leafHere_78 rfl) rfl).trans <|
  (r_gtr (a := 45) (pg_of mt_128 dX6_leafHere_79 rfl) rfl rfl).trans <|
  (r_con (pg_of mt_128 dX6_leafHere_82 rfl) (v2 := (0 : Int32)) (by decide)).trans <|
  (r_du2 (pg_of mt_128 dX6_leafHere_83 rfl) rfl).trans <|
  (r_ialc (j := 0) (pg_of mt_128 dX6_leafHere_84 rfl) rfl (by decide) (by decide)).trans <|
  (r_con (pg_of mt_128 dX6_leafHere_85 rfl) (v2 := (1 : Int32)) (by decide)).trans <|
  (r_bin (pg_of mt_128 dX6_leafHere_86 rfl)).trans <|
  (r_iasc (j := 0) (pg_of mt_128 dX6_leafHere_87 rfl) rfl (by decide) (by decide)).trans <|
  (r_ald (pg_of mt_128 dX6_leafHere_88 rfl) rfl).trans <|
  (r_ald (pg_of mt_128 dX6_leafHere_89 rfl) rfl).trans <|
  (r_gti (pg_of mt_128 dX6_leafHere_90 rfl) rfl).trans <|
  (r_eq0 (pg_of mt_128 dX6_leafHere_93 rfl))
theorem b128_88 (l1 : Int32) (l2 : Int32) : rn xs L 128 88 [vR 44, vI l1, vI l2] [] (mw f a g) = if (f 44 11) = 0 then rn xs L 128 100 [vR 44, vI l1, vI l2] [vR 44] (mw f a g) else rn xs L 128 96 [vR 44, vI l1, vI l2] [vR 44] (mw f a g) :=
  (r_ald (pg_of mt_128 dX6_leafHere_88 rfl) rfl).trans <|
  (r_ald (pg_of mt_128 dX6_leafHere_89 rfl) rfl).trans <|
  (r_gti (pg_of mt_128 dX6_leafHere_90 rfl) rfl).trans <|
  (r_eq0 (pg_of mt_128 dX6_leafHere_93 rfl))
theorem b128_96 (l1 : Int32) (l2 : Int32) : rn xs L 128 96 [vR 44, vI l1, vI l2] [vR 44] (mw f a g) = (ev xs L 131 4 [vR 44, vI (0 : Int32), vI (5 : Int32)] (mw f a g)).bind (fun b => rn xs L 128 107 [vR 44, vI l1, vI l2] (b.1.toList ++ []) b.2) :=
  (r_con (pg_of mt_128 dX6_leafHere_96 rfl) (v2 := (0 : Int32)) (by decide)).trans <|
  (r_gto (pg_of mt_128 dX6_leafHere_97 rfl)).trans <|
  (r_con (pg_of mt_128 dX6_leafHere_103 rfl) (v2 := (5 : Int32)) (by decide)).trans <|
  (r_call (t := tt_128) (t2 := tt_131) (pg_of mt_128 dX6_leafHere_104 rfl) mt_128 mt_131 rfl rfl (rcv1 rfl) rfl rfl)
theorem b128_100 (l1 : Int32) (l2 : Int32) : rn xs L 128 100 [vR 44, vI l1, vI l2] [vR 44] (mw f a g) = (ev xs L 131 4 [vR 44, vI (l2 + (1 : Int32)), vI (5 : Int32)] (mw f a g)).bind (fun b => rn xs L 128 107 [vR 44, vI l1, vI l2] (b.1.toList ++ []) b.2) :=
  (r_ild (pg_of mt_128 dX6_leafHere_100 rfl) rfl).trans <|
  (r_con (pg_of mt_128 dX6_leafHere_101 rfl) (v2 := (1 : Int32)) (by decide)).trans <|
  (r_bin (pg_of mt_128 dX6_leafHere_102 rfl)).trans <|
  (r_con (pg_of mt_128 dX6_leafHere_103 rfl) (v2 := (5 : Int32)) (by decide)).trans <|
  (r_call (t := tt_128) (t2 := tt_131) (pg_of mt_128 dX6_leafHere_104 rfl) mt_128 mt_131 rfl rfl (rcv1 rfl) rfl rfl)
theorem b128_107 (l1 : Int32) (l2 : Int32) : rn xs L 128 107 [vR 44, vI l1, vI l2] [] (mw f a g) = (ev xs L 124 5 [vR 44, vI (104 : Int32), vI (111 : Int32), vI (108 : Int32), vI (100 : Int32)] (mw f a g)).bind (fun b => rn xs L 128 120 [vR 44, vI l1, vI l2] (b.1.toList ++ [vR 44]) b.2) :=
  (r_ald (pg_of mt_128 dX6_leafHere_107 rfl) rfl).trans <|
  (r_ald (pg_of mt_128 dX6_leafHere_108 rfl) rfl).trans <|
  (r_con (pg_of mt_128 dX6_leafHere_109 rfl) (v2 := (104 : Int32)) (by decide)).trans <|
  (r_con (pg_of mt_128 dX6_leafHere_111 rfl) (v2 := (111 : Int32)) (by decide)).trans <|
  (r_con (pg_of mt_128 dX6_leafHere_113 rfl) (v2 := (108 : Int32)) (by decide)).trans <|
  (r_con (pg_of mt_128 dX6_leafHere_115 rfl) (v2 := (100 : Int32)) (by decide)).trans <|
  (r_call (t := tt_128) (t2 := tt_124) (pg_of mt_128 dX6_leafHere_117 rfl) mt_128 mt_124 rfl rfl (rcv1 rfl) rfl rfl)
theorem b128_120 (l1 : Int32) (l2 : Int32) (s0 : Int32) : rn xs L 128 120 [vR 44, vI l1, vI l2] [vI s0, vR 44] (mw f a g) = (ev xs L 132 4 [vR 44, vI s0, vI (l2 + (2 : Int32)), vI (99 : Int32)] (mw f a g)).bind (fun b => rn xs L 128 128 [vR 44, vI l1, vI l2] (b.1.toList ++ []) b.2) :=
  (r_ild (pg_of mt_128 dX6_leafHere_120 rfl) rfl).trans <|
  (r_con (pg_of mt_128 dX6_leafHere_121 rfl) (v2 := (2 : Int32)) (by decide)).trans <|
  (r_bin (pg_of mt_128 dX6_leafHere_122 rfl)).trans <|
  (r_con (pg_of mt_128 dX6_leafHere_123 rfl) (v2 := (99 : Int32)) (by decide)).trans <|
  (r_call (t := tt_128) (t2 := tt_132) (pg_of mt_128 dX6_leafHere_125 rfl) mt_128 mt_132 rfl rfl (rcv1 rfl) rfl rfl)
theorem b128_128 (l1 : Int32) (l2 : Int32) : rn xs L 128 128 [vR 44, vI l1, vI l2] [] (mw f a g) = (ev xs L 124 5 [vR 44, vI (115 : Int32), vI (105 : Int32), vI (103 : Int32), vI (110 : Int32)] (mw f a g)).bind (fun b => rn xs L 128 141 [vR 44, vI l1, vI l2] (b.1.toList ++ [vR 44]) b.2) :=
  (r_ald (pg_of mt_128 dX6_leafHere_128 rfl) rfl).trans <|
  (r_ald (pg_of mt_128 dX6_leafHere_129 rfl) rfl).trans <|
  (r_con (pg_of mt_128 dX6_leafHere_130 rfl) (v2 := (115 : Int32)) (by decide)).trans <|
  (r_con (pg_of mt_128 dX6_leafHere_132 rfl) (v2 := (105 : Int32)) (by decide)).trans <|
  (r_con (pg_of mt_128 dX6_leafHere_134 rfl) (v2 := (103 : Int32)) (by decide)).trans <|
  (r_con (pg_of mt_128 dX6_leafHere_136 rfl) (v2 := (110 : Int32)) (by decide)).trans <|
  (r_call (t := tt_128) (t2 := tt_124) (pg_of mt_128 dX6_leafHere_138 rfl) mt_128 mt_124 rfl rfl (rcv1 rfl) rfl rfl)
theorem b128_141 (l1 : Int32) (l2 : Int32) (s0 : Int32) : rn xs L 128 141 [vR 44, vI l1, vI l2] [vI s0, vR 44] (mw f a g) = (ev xs L 132 4 [vR 44, vI s0, vI (l2 + (3 : Int32)), vI (9 : Int32)] (mw f a g)).bind (fun b => rn xs L 128 149 [vR 44, vI l1, vI l2] (b.1.toList ++ []) b.2) :=
  (r_ild (pg_of mt_128 dX6_leafHere_141 rfl) rfl).trans <|
  (r_con (pg_of mt_128 dX6_leafHere_142 rfl) (v2 := (3 : Int32)) (by decide)).trans <|
  (r_bin (pg_of mt_128 dX6_leafHere_143 rfl)).trans <|
  (r_con (pg_of mt_128 dX6_leafHere_144 rfl) (v2 := (9 : Int32)) (by decide)).trans <|
  (r_call (t := tt_128) (t2 := tt_132) (pg_of mt_128 dX6_leafHere_146 rfl) mt_128 mt_132 rfl rfl (rcv1 rfl) rfl rfl)
theorem b128_149 (l1 : Int32) (l2 : Int32) : rn xs L 128 149 [vR 44, vI l1, vI l2] [] (mw f a g) = some (none, (mw f a g)) :=
  (r_rv (pg_of mt_128 dX6_leafHere_149 rfl) mt_128 rfl)
-- 129 LeafFallsModel.needs(Z)V
theorem b129_0 (l1 : Int32) : rn xs L 129 0 [vR 44, vI l1] [] (mw f a g) = if (f 44 11) = 0 then rn xs L 129 8 [vR 44, vI l1] [vR 44] (mw f a g) else rn xs L 129 12 [vR 44, vI l1] [vR 44] (mw f a g) :=
  (r_ald (pg_of mt_129 dX6_needs_0 rfl) rfl).trans <|
  (r_ald (pg_of mt_129 dX6_needs_1 rfl) rfl).trans <|
  (r_gti (pg_of mt_129 dX6_needs_2 rfl) rfl).trans <|
  (r_ne0 (pg_of mt_129 dX6_needs_5 rfl))
theorem b129_8 (l1 : Int32) : rn xs L 129 8 [vR 44, vI l1] [vR 44] (mw f a g) = if l1 = 0 then rn xs L 129 12 [vR 44, vI l1] [vR 44] (mw f a g) else rn xs L 129 16 [vR 44, vI l1] [vR 44] (mw f a g) :=
  (r_ild (pg_of mt_129 dX6_needs_8 rfl) rfl).trans <|
  (r_ne0 (pg_of mt_129 dX6_needs_9 rfl))
theorem b129_12 (l1 : Int32) : rn xs L 129 12 [vR 44, vI l1] [vR 44] (mw f a g) = if (((ma_u2 f 44 11 ((1 : Int32)))) 44 11) = 0 then rn xs L 129 27 [vR 44, vI l1] [] (mw ((ma_u2 f 44 11 ((1 : Int32)))) a g) else rn xs L 129 31 [vR 44, vI l1] [] (mw ((ma_u2 f 44 11 ((1 : Int32)))) a g) :=
  (r_con (pg_of mt_129 dX6_needs_12 rfl) (v2 := (1 : Int32)) (by decide)).trans <|
  (r_gto (pg_of mt_129 dX6_needs_13 rfl)).trans <|
  (r_pti (pg_of mt_129 dX6_needs_17 rfl) rfl (by decide)).trans <|
  (r_ald (pg_of mt_129 dX6_needs_20 rfl) rfl).trans <|
  (r_gti (pg_of mt_129 dX6_needs_21 rfl) rfl).trans <|
  (r_ne0 (pg_of mt_129 dX6_needs_24 rfl))
theorem b129_16 (l1 : Int32) : rn xs L 129 16 [vR 44, vI l1] [vR 44] (mw f a g) = if (((ma_u2 f 44 11 ((0 : Int32)))) 44 11) = 0 then rn xs L 129 27 [vR 44, vI l1] [] (mw ((ma_u2 f 44 11 ((0 : Int32)))) a g) else rn xs L 129 31 [vR 44, vI l1] [] (mw ((ma_u2 f 44 11 ((0 : Int32)))) a g) :=
  (r_con (pg_of mt_129 dX6_needs_16 rfl) (v2 := (0 : Int32)) (by decide)).trans <|
  (r_pti (pg_of mt_129 dX6_needs_17 rfl) rfl (by decide)).trans <|
  (r_ald (pg_of mt_129 dX6_needs_20 rfl) rfl).trans <|
  (r_gti (pg_of mt_129 dX6_needs_21 rfl) rfl).trans <|
  (r_ne0 (pg_of mt_129 dX6_needs_24 rfl))
theorem b129_27 (l1 : Int32) : rn xs L 129 27 [vR 44, vI l1] [] (mw f a g) = (ev xs L 118 2 [vR 44] (mw f a g)).bind (fun b => rn xs L 129 31 [vR 44, vI l1] (b.1.toList ++ []) b.2) :=
  (r_ald (pg_of mt_129 dX6_needs_27 rfl) rfl).trans <|
  (r_call (t := tt_129) (t2 := tt_118) (pg_of mt_129 dX6_needs_28 rfl) mt_129 mt_118 rfl rfl (rcv1 rfl) rfl rfl)
theorem b129_31 (l1 : Int32) : rn xs L 129 31 [vR 44, vI l1] [] (mw f a g) = some (none, (mw f a g)) :=
  (r_rv (pg_of mt_129 dX6_needs_31 rfl) mt_129 rfl)
-- 130 LeafFallsModel.isTwo(II)Z
theorem b130_0 (l1 : Int32) (l2 : Int32) : rn xs L 130 0 [vR 44, vI l1, vI l2] [] (mw f a g) = if (f 44 7) = (1 : Int32) then rn xs L 130 8 [vR 44, vI l1, vI l2] [] (mw f a g) else rn xs L 130 51 [vR 44, vI l1, vI l2] [] (mw f a g) :=
  (r_ald (pg_of mt_130 dX6_isTwo_0 rfl) rfl).trans <|
  (r_gti (pg_of mt_130 dX6_isTwo_1 rfl) rfl).trans <|
  (r_con (pg_of mt_130 dX6_isTwo_4 rfl) (v2 := (1 : Int32)) (by decide)).trans <|
  (r_ne (pg_of mt_130 dX6_isTwo_5 rfl))
theorem b130_8 (l1 : Int32) (l2 : Int32) : rn xs L 130 8 [vR 44, vI l1, vI l2] [] (mw f a g) = if ((f 44 9) - (f 44 8)) = (2 : Int32) then rn xs L 130 21 [vR 44, vI l1, vI l2] [] (mw f a g) else rn xs L 130 51 [vR 44, vI l1, vI l2] [] (mw f a g) :=
  (r_ald (pg_of mt_130 dX6_isTwo_8 rfl) rfl).trans <|
  (r_gti (pg_of mt_130 dX6_isTwo_9 rfl) rfl).trans <|
  (r_ald (pg_of mt_130 dX6_isTwo_12 rfl) rfl).trans <|
  (r_gti (pg_of mt_130 dX6_isTwo_13 rfl) rfl).trans <|
  (r_bin (pg_of mt_130 dX6_isTwo_16 rfl)).trans <|
  (r_con (pg_of mt_130 dX6_isTwo_17 rfl) (v2 := (2 : Int32)) (by decide)).trans <|
  (r_ne (pg_of mt_130 dX6_isTwo_18 rfl))
theorem b130_21 (l1 : Int32) (l2 : Int32) : rn xs L 130 21 [vR 44, vI l1, vI l2] [] (mw f a g) = (ev xs L 119 2 [vR 44, vI (f 44 8)] (mw f a g)).bind (fun b => rn xs L 130 29 [vR 44, vI l1, vI l2] (b.1.toList ++ []) b.2) :=
  (r_ald (pg_of mt_130 dX6_isTwo_21 rfl) rfl).trans <|
  (r_ald (pg_of mt_130 dX6_isTwo_22 rfl) rfl).trans <|
  (r_gti (pg_of mt_130 dX6_isTwo_23 rfl) rfl).trans <|
  (r_call (t := tt_130) (t2 := tt_119) (pg_of mt_130 dX6_isTwo_26 rfl) mt_130 mt_119 rfl rfl (rcv1 rfl) rfl rfl)
theorem b130_29 (l1 : Int32) (l2 : Int32) (s0 : Int32) : rn xs L 130 29 [vR 44, vI l1, vI l2] [vI s0] (mw f a g) = if s0 = l1 then rn xs L 130 33 [vR 44, vI l1, vI l2] [] (mw f a g) else rn xs L 130 51 [vR 44, vI l1, vI l2] [] (mw f a g) :=
  (r_ild (pg_of mt_130 dX6_isTwo_29 rfl) rfl).trans <|
  (r_ne (pg_of mt_130 dX6_isTwo_30 rfl))
theorem b130_33 (l1 : Int32) (l2 : Int32) : rn xs L 130 33 [vR 44, vI l1, vI l2] [] (mw f a g) = (ev xs L 119 2 [vR 44, vI ((f 44 8) + (1 : Int32))] (mw f a g)).bind (fun b => rn xs L 130 43 [vR 44, vI l1, vI l2] (b.1.toList ++ []) b.2) :=
  (r_ald (pg_of mt_130 dX6_isTwo_33 rfl) rfl).trans <|
  (r_ald (pg_of mt_130 dX6_isTwo_34 rfl) rfl).trans <|
  (r_gti (pg_of mt_130 dX6_isTwo_35 rfl) rfl).trans <|
  (r_con (pg_of mt_130 dX6_isTwo_38 rfl) (v2 := (1 : Int32)) (by decide)).trans <|
  (r_bin (pg_of mt_130 dX6_isTwo_39 rfl)).trans <|
  (r_call (t := tt_130) (t2 := tt_119) (pg_of mt_130 dX6_isTwo_40 rfl) mt_130 mt_119 rfl rfl (rcv1 rfl) rfl rfl)
theorem b130_43 (l1 : Int32) (l2 : Int32) (s0 : Int32) : rn xs L 130 43 [vR 44, vI l1, vI l2] [vI s0] (mw f a g) = if s0 = l2 then rn xs L 130 47 [vR 44, vI l1, vI l2] [] (mw f a g) else rn xs L 130 51 [vR 44, vI l1, vI l2] [] (mw f a g) :=
  (r_ild (pg_of mt_130 dX6_isTwo_43 rfl) rfl).trans <|
  (r_ne (pg_of mt_130 dX6_isTwo_44 rfl))
theorem b130_47 (l1 : Int32) (l2 : Int32) : rn xs L 130 47 [vR 44, vI l1, vI l2] [] (mw f a g) = some (some (vI (1 : Int32)), (mw f a g)) :=
  (r_con (pg_of mt_130 dX6_isTwo_47 rfl) (v2 := (1 : Int32)) (by decide)).trans <|
  (r_gto (pg_of mt_130 dX6_isTwo_48 rfl)).trans <|
  (r_rz (pg_of mt_130 dX6_isTwo_52 rfl) mt_130 rfl (Or.inr rfl))
theorem b130_51 (l1 : Int32) (l2 : Int32) : rn xs L 130 51 [vR 44, vI l1, vI l2] [] (mw f a g) = some (some (vI (0 : Int32)), (mw f a g)) :=
  (r_con (pg_of mt_130 dX6_isTwo_51 rfl) (v2 := (0 : Int32)) (by decide)).trans <|
  (r_rz (pg_of mt_130 dX6_isTwo_52 rfl) mt_130 rfl (Or.inl rfl))
-- 131 LeafFallsModel.numberTo(II)V
theorem b131_0 (l1 : Int32) (l2 : Int32) (l3 : ma_V) : rn xs L 131 0 [vR 44, vI l1, vI l2, l3] [] (mw f a g) = if (f 44 7) = (2 : Int32) then rn xs L 131 8 [vR 44, vI l1, vI l2, l3] [] (mw f a g) else rn xs L 131 33 [vR 44, vI l1, vI l2, l3] [] (mw f a g) :=
  (r_ald (pg_of mt_131 dX6_numberTo_0 rfl) rfl).trans <|
  (r_gti (pg_of mt_131 dX6_numberTo_1 rfl) rfl).trans <|
  (r_con (pg_of mt_131 dX6_numberTo_4 rfl) (v2 := (2 : Int32)) (by decide)).trans <|
  (r_ne (pg_of mt_131 dX6_numberTo_5 rfl))
theorem b131_8 (l1 : Int32) (l2 : Int32) (l3 : ma_V) : rn xs L 131 8 [vR 44, vI l1, vI l2, l3] [] (mw f a g) = if (3 : Int32) < ((f 44 9) - (f 44 8)) then rn xs L 131 33 [vR 44, vI l1, vI l2, l3] [] (mw f a g) else rn xs L 131 21 [vR 44, vI l1, vI l2, l3] [] (mw f a g) :=
  (r_ald (pg_of mt_131 dX6_numberTo_8 rfl) rfl).trans <|
  (r_gti (pg_of mt_131 dX6_numberTo_9 rfl) rfl).trans <|
  (r_ald (pg_of mt_131 dX6_numberTo_12 rfl) rfl).trans <|
  (r_gti (pg_of mt_131 dX6_numberTo_13 rfl) rfl).trans <|
  (r_bin (pg_of mt_131 dX6_numberTo_16 rfl)).trans <|
  (r_con (pg_of mt_131 dX6_numberTo_17 rfl) (v2 := (3 : Int32)) (by decide)).trans <|
  (r_gt (pg_of mt_131 dX6_numberTo_18 rfl))
theorem b131_21 (l1 : Int32) (l2 : Int32) (l3 : ma_V) : rn xs L 131 21 [vR 44, vI l1, vI l2, l3] [] (mw f a g) = if l2 < (f 44 10) then rn xs L 131 33 [vR 44, vI l1, vI l2, l3] [] (mw f a g) else rn xs L 131 29 [vR 44, vI l1, vI l2, l3] [] (mw f a g) :=
  (r_ald (pg_of mt_131 dX6_numberTo_21 rfl) rfl).trans <|
  (r_gti (pg_of mt_131 dX6_numberTo_22 rfl) rfl).trans <|
  (r_ild (pg_of mt_131 dX6_numberTo_25 rfl) rfl).trans <|
  (r_gt (pg_of mt_131 dX6_numberTo_26 rfl))
theorem b131_29 (l1 : Int32) (l2 : Int32) (l3 : ma_V) : rn xs L 131 29 [vR 44, vI l1, vI l2, l3] [] (mw f a g) = if (1 : Int32) = 0 then rn xs L 131 56 [vR 44, vI l1, vI l2, vI (1 : Int32)] [] (mw f a g) else rn xs L 131 39 [vR 44, vI l1, vI l2, vI (1 : Int32)] [] (mw f a g) :=
  (r_con (pg_of mt_131 dX6_numberTo_29 rfl) (v2 := (1 : Int32)) (by decide)).trans <|
  (r_gto (pg_of mt_131 dX6_numberTo_30 rfl)).trans <|
  (r_ist (pg_of mt_131 dX6_numberTo_34 rfl) (Nat.le_of_ble_eq_true rfl) rfl).trans <|
  (r_ild (pg_of mt_131 dX6_numberTo_35 rfl) rfl).trans <|
  (r_eq0 (pg_of mt_131 dX6_numberTo_36 rfl))
theorem b131_33 (l1 : Int32) (l2 : Int32) (l3 : ma_V) : rn xs L 131 33 [vR 44, vI l1, vI l2, l3] [] (mw f a g) = if (0 : Int32) = 0 then rn xs L 131 56 [vR 44, vI l1, vI l2, vI (0 : Int32)] [] (mw f a g) else rn xs L 131 39 [vR 44, vI l1, vI l2, vI (0 : Int32)] [] (mw f a g) :=
  (r_con (pg_of mt_131 dX6_numberTo_33 rfl) (v2 := (0 : Int32)) (by decide)).trans <|
  (r_ist (pg_of mt_131 dX6_numberTo_34 rfl) (Nat.le_of_ble_eq_true rfl) rfl).trans <|
  (r_ild (pg_of mt_131 dX6_numberTo_35 rfl) rfl).trans <|
  (r_eq0 (pg_of mt_131 dX6_numberTo_36 rfl))
theorem b131_39 (l1 : Int32) (l2 : Int32) (l3 : Int32) : rn xs L 131 39 [vR 44, vI l1, vI l2, vI l3] [] (mw f a g) = if (f 44 11) = 0 then rn xs L 131 46 [vR 44, vI l1, vI l2, vI l3] [] (mw f a g) else rn xs L 131 56 [vR 44, vI l1, vI l2, vI l3] [] (mw f a g) :=
  (r_ald (pg_of mt_131 dX6_numberTo_39 rfl) rfl).trans <|
  (r_gti (pg_of mt_131 dX6_numberTo_40 rfl) rfl).trans <|
  (r_ne0 (pg_of mt_131 dX6_numberTo_43 rfl))
theorem b131_46 (l1 : Int32) (l2 : Int32) (l3 : Int32) (h1 : ma_in l1 62 = true) : rn xs L 131 46 [vR 44, vI l1, vI l2, vI l3] [] (mw f a g) = (ev xs L 129 2 [vR 44, vI l3] (mw f ((ma_u2 a 45 l1.toNatClampNeg ((f 44 10)))) g)).bind (fun b => rn xs L 131 61 [vR 44, vI l1, vI l2, vI l3] (b.1.toList ++ []) b.2) :=
  (r_ald (pg_of mt_131 dX6_numberTo_46 rfl) rfl).trans <|
  (r_gtr (a := 45) (pg_of mt_131 dX6_numberTo_47 rfl) rfl rfl).trans <|
  (r_ild (pg_of mt_131 dX6_numberTo_50 rfl) rfl).trans <|
  (r_ald (pg_of mt_131 dX6_numberTo_51 rfl) rfl).trans <|
  (r_gti (pg_of mt_131 dX6_numberTo_52 rfl) rfl).trans <|
  (r_iast (pg_of mt_131 dX6_numberTo_55 rfl) rfl h1).trans <|
  (r_ald (pg_of mt_131 dX6_numberTo_56 rfl) rfl).trans <|
  (r_ild (pg_of mt_131 dX6_numberTo_57 rfl) rfl).trans <|
  (r_call (t := tt_131) (t2 := tt_129) (pg_of mt_131 dX6_numberTo_58 rfl) mt_131 mt_129 rfl rfl (rcv1 rfl) rfl rfl)
theorem b131_56 (l1 : Int32) (l2 : Int32) (l3 : Int32) : rn xs L 131 56 [vR 44, vI l1, vI l2, vI l3] [] (mw f a g) = (ev xs L 129 2 [vR 44, vI l3] (mw f a g)).bind (fun b => rn xs L 131 61 [vR 44, vI l1, vI l2, vI l3] (b.1.toList ++ []) b.2) :=
  (r_ald (pg_of mt_131 dX6_numberTo_56 rfl) rfl).trans <|
  (r_ild (pg_of mt_131 dX6_numberTo_57 rfl) rfl).trans <|
  (r_call (t := tt_131) (t2 := tt_129) (pg_of mt_131 dX6_numberTo_58 rfl) mt_131 mt_129 rfl rfl (rcv1 rfl) rfl rfl)
theorem b131_61 (l1 : Int32) (l2 : Int32) (l3 : Int32) : rn xs L 131 61 [vR 44, vI l1, vI l2, vI l3] [] (mw f a g) = some (none, (mw f a g)) :=
  (r_rv (pg_of mt_131 dX6_numberTo_61 rfl) mt_131 rfl)
-- 132 LeafFallsModel.perhaps(ZII)V
theorem b132_0 (l1 : Int32) (l2 : Int32) (l3 : Int32) : rn xs L 132 0 [vR 44, vI l1, vI l2, vI l3] [] (mw f a g) = if (f 44 11) = 0 then rn xs L 132 7 [vR 44, vI l1, vI l2, vI l3] [] (mw f a g) else rn xs L 132 21 [vR 44, vI l1, vI l2, vI l3] [] (mw f a g) :=
  (r_ald (pg_of mt_132 dX6_perhaps_0 rfl) rfl).trans <|
  (r_gti (pg_of mt_132 dX6_perhaps_1 rfl) rfl).trans <|
  (r_ne0 (pg_of mt_132 dX6_perhaps_4 rfl))
theorem b132_7 (l1 : Int32) (l2 : Int32) (l3 : Int32) : rn xs L 132 7 [vR 44, vI l1, vI l2, vI l3] [] (mw f a g) = if l1 = 0 then rn xs L 132 21 [vR 44, vI l1, vI l2, vI l3] [] (mw f a g) else rn xs L 132 11 [vR 44, vI l1, vI l2, vI l3] [] (mw f a g) :=
  (r_ild (pg_of mt_132 dX6_perhaps_7 rfl) rfl).trans <|
  (r_eq0 (pg_of mt_132 dX6_perhaps_8 rfl))
theorem b132_11 (l1 : Int32) (l2 : Int32) (l3 : Int32) : rn xs L 132 11 [vR 44, vI l1, vI l2, vI l3] [] (mw f a g) = (ev xs L 118 2 [vR 44] (mw f a g)).bind (fun b => rn xs L 132 15 [vR 44, vI l1, vI l2, vI l3] (b.1.toList ++ []) b.2) :=
  (r_ald (pg_of mt_132 dX6_perhaps_11 rfl) rfl).trans <|
  (r_call (t := tt_132) (t2 := tt_118) (pg_of mt_132 dX6_perhaps_12 rfl) mt_132 mt_118 rfl rfl (rcv1 rfl) rfl rfl)
theorem b132_15 (l1 : Int32) (l2 : Int32) (l3 : Int32) : rn xs L 132 15 [vR 44, vI l1, vI l2, vI l3] [] (mw f a g) = (ev xs L 131 4 [vR 44, vI l2, vI l3] (mw f a g)).bind (fun b => rn xs L 132 21 [vR 44, vI l1, vI l2, vI l3] (b.1.toList ++ []) b.2) :=
  (r_ald (pg_of mt_132 dX6_perhaps_15 rfl) rfl).trans <|
  (r_ild (pg_of mt_132 dX6_perhaps_16 rfl) rfl).trans <|
  (r_ild (pg_of mt_132 dX6_perhaps_17 rfl) rfl).trans <|
  (r_call (t := tt_132) (t2 := tt_131) (pg_of mt_132 dX6_perhaps_18 rfl) mt_132 mt_131 rfl rfl (rcv1 rfl) rfl rfl)
theorem b132_21 (l1 : Int32) (l2 : Int32) (l3 : Int32) : rn xs L 132 21 [vR 44, vI l1, vI l2, vI l3] [] (mw f a g) = some (none, (mw f a g)) :=
  (r_rv (pg_of mt_132 dX6_perhaps_21 rfl) mt_132 rfl)
-- 133 LeafFallsModel.swayHere()V
theorem b133_0 (l1 : ma_V) : rn xs L 133 0 [vR 44, l1] [] (mw f a g) = (ev xs L 118 2 [vR 44] (mw f a g)).bind (fun b => rn xs L 133 4 [vR 44, l1] (b.1.toList ++ []) b.2) :=
  (r_ald (pg_of mt_133 dX6_swayHere_0 rfl) rfl).trans <|
  (r_call (t := tt_133) (t2 := tt_118) (pg_of mt_133 dX6_swayHere_1 rfl) mt_133 mt_118 rfl rfl (rcv1 rfl) rfl rfl)
theorem b133_4 (l1 : ma_V) : rn xs L 133 4 [vR 44, l1] [] (mw f a g) = if (f 44 7) = (2 : Int32) then rn xs L 133 18 [vR 44, vI (f 44 10)] [vR 44] (mw f a g) else rn xs L 133 44 [vR 44, vI (f 44 10)] [vR 44] (mw f a g) :=
  (r_ald (pg_of mt_133 dX6_swayHere_4 rfl) rfl).trans <|
  (r_gti (pg_of mt_133 dX6_swayHere_5 rfl) rfl).trans <|
  (r_ist (pg_of mt_133 dX6_swayHere_8 rfl) (Nat.le_of_ble_eq_true rfl) rfl).trans <|
  (r_ald (pg_of mt_133 dX6_swayHere_9 rfl) rfl).trans <|
  (r_ald (pg_of mt_133 dX6_swayHere_10 rfl) rfl).trans <|
  (r_gti (pg_of mt_133 dX6_swayHere_11 rfl) rfl).trans <|
  (r_con (pg_of mt_133 dX6_swayHere_14 rfl) (v2 := (2 : Int32)) (by decide)).trans <|
  (r_ne (pg_of mt_133 dX6_swayHere_15 rfl))
theorem b133_18 (l1 : Int32) : rn xs L 133 18 [vR 44, vI l1] [vR 44] (mw f a g) = if (3 : Int32) < ((f 44 9) - (f 44 8)) then rn xs L 133 44 [vR 44, vI l1] [vR 44] (mw f a g) else rn xs L 133 31 [vR 44, vI l1] [vR 44] (mw f a g) :=
  (r_ald (pg_of mt_133 dX6_swayHere_18 rfl) rfl).trans <|
  (r_gti (pg_of mt_133 dX6_swayHere_19 rfl) rfl).trans <|
  (r_ald (pg_of mt_133 dX6_swayHere_22 rfl) rfl).trans <|
  (r_gti (pg_of mt_133 dX6_swayHere_23 rfl) rfl).trans <|
  (r_bin (pg_of mt_133 dX6_swayHere_26 rfl)).trans <|
  (r_con (pg_of mt_133 dX6_swayHere_27 rfl) (v2 := (3 : Int32)) (by decide)).trans <|
  (r_gt (pg_of mt_133 dX6_swayHere_28 rfl))
theorem b133_31 (l1 : Int32) : rn xs L 133 31 [vR 44, vI l1] [vR 44] (mw f a g) = if (f 44 10) < (6 : Int32) then rn xs L 133 40 [vR 44, vI l1] [vR 44] (mw f a g) else rn xs L 133 44 [vR 44, vI l1] [vR 44] (mw f a g) :=
  (r_ald (pg_of mt_133 dX6_swayHere_31 rfl) rfl).trans <|
  (r_gti (pg_of mt_133 dX6_swayHere_32 rfl) rfl).trans <|
  (r_con (pg_of mt_133 dX6_swayHere_35 rfl) (v2 := (6 : Int32)) (by decide)).trans <|
  (r_ge (pg_of mt_133 dX6_swayHere_37 rfl))
theorem b133_40 (l1 : Int32) : rn xs L 133 40 [vR 44, vI l1] [vR 44] (mw f a g) = (ev xs L 129 2 [vR 44, vI (1 : Int32)] (mw f a g)).bind (fun b => rn xs L 133 48 [vR 44, vI l1] (b.1.toList ++ []) b.2) :=
  (r_con (pg_of mt_133 dX6_swayHere_40 rfl) (v2 := (1 : Int32)) (by decide)).trans <|
  (r_gto (pg_of mt_133 dX6_swayHere_41 rfl)).trans <|
  (r_call (t := tt_133) (t2 := tt_129) (pg_of mt_133 dX6_swayHere_45 rfl) mt_133 mt_129 rfl rfl (rcv1 rfl) rfl rfl)
theorem b133_44 (l1 : Int32) : rn xs L 133 44 [vR 44, vI l1] [vR 44] (mw f a g) = (ev xs L 129 2 [vR 44, vI (0 : Int32)] (mw f a g)).bind (fun b => rn xs L 133 48 [vR 44, vI l1] (b.1.toList ++ []) b.2) :=
  (r_con (pg_of mt_133 dX6_swayHere_44 rfl) (v2 := (0 : Int32)) (by decide)).trans <|
  (r_call (t := tt_133) (t2 := tt_129) (pg_of mt_133 dX6_swayHere_45 rfl) mt_133 mt_129 rfl rfl (rcv1 rfl) rfl rfl)
theorem b133_48 (l1 : Int32) : rn xs L 133 48 [vR 44, vI l1] [] (mw f a g) = (ev xs L 130 3 [vR 44, vI (105 : Int32), vI (115 : Int32)] (mw f a g)).bind (fun b => rn xs L 133 57 [vR 44, vI l1] (b.1.toList ++ [vR 44]) b.2) :=
  (r_ald (pg_of mt_133 dX6_swayHere_48 rfl) rfl).trans <|
  (r_ald (pg_of mt_133 dX6_swayHere_49 rfl) rfl).trans <|
  (r_con (pg_of mt_133 dX6_swayHere_50 rfl) (v2 := (105 : Int32)) (by decide)).trans <|
  (r_con (pg_of mt_133 dX6_swayHere_52 rfl) (v2 := (115 : Int32)) (by decide)).trans <|
  (r_call (t := tt_133) (t2 := tt_130) (pg_of mt_133 dX6_swayHere_54 rfl) mt_133 mt_130 rfl rfl (rcv1 rfl) rfl rfl)
theorem b133_57 (l1 : Int32) (s0 : Int32) : rn xs L 133 57 [vR 44, vI l1] [vI s0, vR 44] (mw f a g) = (ev xs L 129 2 [vR 44, vI s0] (mw f a g)).bind (fun b => rn xs L 133 60 [vR 44, vI l1] (b.1.toList ++ []) b.2) :=
  (r_call (t := tt_133) (t2 := tt_129) (pg_of mt_133 dX6_swayHere_57 rfl) mt_133 mt_129 rfl rfl (rcv1 rfl) rfl rfl)
theorem b133_60 (l1 : Int32) : rn xs L 133 60 [vR 44, vI l1] [] (mw f a g) = if (f 44 11) = 0 then rn xs L 133 72 [vR 44, vI l1] [vR 44] (mw f a g) else rn xs L 133 68 [vR 44, vI l1] [vR 44] (mw f a g) :=
  (r_ald (pg_of mt_133 dX6_swayHere_60 rfl) rfl).trans <|
  (r_ald (pg_of mt_133 dX6_swayHere_61 rfl) rfl).trans <|
  (r_gti (pg_of mt_133 dX6_swayHere_62 rfl) rfl).trans <|
  (r_eq0 (pg_of mt_133 dX6_swayHere_65 rfl))
theorem b133_68 (l1 : Int32) : rn xs L 133 68 [vR 44, vI l1] [vR 44] (mw f a g) = (ev xs L 131 4 [vR 44, vI (0 : Int32), vI (9 : Int32)] (mw f a g)).bind (fun b => rn xs L 133 81 [vR 44, vI l1] (b.1.toList ++ []) b.2) :=
  (r_con (pg_of mt_133 dX6_swayHere_68 rfl) (v2 := (0 : Int32)) (by decide)).trans <|
  (r_gto (pg_of mt_133 dX6_swayHere_69 rfl)).trans <|
  (r_con (pg_of mt_133 dX6_swayHere_76 rfl) (v2 := (9 : Int32)) (by decide)).trans <|
  (r_call (t := tt_133) (t2 := tt_131) (pg_of mt_133 dX6_swayHere_78 rfl) mt_133 mt_131 rfl rfl (rcv1 rfl) rfl rfl)
theorem b133_72 (l1 : Int32) : rn xs L 133 72 [vR 44, vI l1] [vR 44] (mw f a g) = (ev xs L 131 4 [vR 44, vI ((8 : Int32) + l1), vI (9 : Int32)] (mw f a g)).bind (fun b => rn xs L 133 81 [vR 44, vI l1] (b.1.toList ++ []) b.2) :=
  (r_con (pg_of mt_133 dX6_swayHere_72 rfl) (v2 := (8 : Int32)) (by decide)).trans <|
  (r_ild (pg_of mt_133 dX6_swayHere_74 rfl) rfl).trans <|
  (r_bin (pg_of mt_133 dX6_swayHere_75 rfl)).trans <|
  (r_con (pg_of mt_133 dX6_swayHere_76 rfl) (v2 := (9 : Int32)) (by decide)).trans <|
  (r_call (t := tt_133) (t2 := tt_131) (pg_of mt_133 dX6_swayHere_78 rfl) mt_133 mt_131 rfl rfl (rcv1 rfl) rfl rfl)
theorem b133_81 (l1 : Int32) : rn xs L 133 81 [vR 44, vI l1] [] (mw f a g) = some (none, (mw f a g)) :=
  (r_rv (pg_of mt_133 dX6_swayHere_81 rfl) mt_133 rfl)
-- 134 LeafFallsModel.set(II)I
theorem b134_0 (l1 : Int32) (l2 : Int32) : rn xs L 134 0 [vR 44, vI l1, vI l2] [] (mw f a g) = (ev xs L 115 6 [vL (l1).toInt64, vL (0 : Int64), vL (3 : Int64)] (mw f a g)).bind (fun b => rn xs L 134 9 [vR 44, vI l1, vI l2] (b.1.toList ++ []) b.2) :=
  (r_ild (pg_of mt_134 dX6_set_0 rfl) rfl).trans <|
  (r_i2l (pg_of mt_134 dX6_set_1 rfl)).trans <|
  (r_lcn (pg_of mt_134 dX6_set_2 rfl) (v2 := (0 : Int64)) (by decide)).trans <|
  (r_lcn (pg_of mt_134 dX6_set_3 rfl) (v2 := (3 : Int64)) rfl).trans <|
  (r_call (t := tt_134) (t2 := tt_115) (pg_of mt_134 dX6_set_6 rfl) mt_134 mt_115 rfl rfl rfl rfl rfl)
theorem b134_9 (l1 : Int32) (l2 : Int32) (s0 : Int32) : rn xs L 134 9 [vR 44, vI l1, vI l2] [vI s0] (mw f a g) = if s0 = 0 then rn xs L 134 46 [vR 44, vI l1, vI l2] [] (mw f a g) else rn xs L 134 12 [vR 44, vI l1, vI l2] [] (mw f a g) :=
  (r_eq0 (pg_of mt_134 dX6_set_9 rfl))
theorem b134_12 (l1 : Int32) (l2 : Int32) : rn xs L 134 12 [vR 44, vI l1, vI l2] [] (mw f a g) = if l1 = (3 : Int32) then rn xs L 134 20 [vR 44, vI l1, vI l2] [vL (0 : Int64), vL (l2).toInt64] (mw f a g) else rn xs L 134 26 [vR 44, vI l1, vI l2] [vL (0 : Int64), vL (l2).toInt64] (mw f a g) :=
  (r_ild (pg_of mt_134 dX6_set_12 rfl) rfl).trans <|
  (r_i2l (pg_of mt_134 dX6_set_13 rfl)).trans <|
  (r_lcn (pg_of mt_134 dX6_set_14 rfl) (v2 := (0 : Int64)) (by decide)).trans <|
  (r_ild (pg_of mt_134 dX6_set_15 rfl) rfl).trans <|
  (r_con (pg_of mt_134 dX6_set_16 rfl) (v2 := (3 : Int32)) (by decide)).trans <|
  (r_ne (pg_of mt_134 dX6_set_17 rfl))
theorem b134_20 (l1 : Int32) (l2 : Int32) (s0 : Int64) (s1 : Int64) : rn xs L 134 20 [vR 44, vI l1, vI l2] [vL s0, vL s1] (mw f a g) = (ev xs L 115 6 [vL s1, vL s0, vL (99 : Int64)] (mw f a g)).bind (fun b => rn xs L 134 32 [vR 44, vI l1, vI l2] (b.1.toList ++ []) b.2) :=
  (r_lcn (pg_of mt_134 dX6_set_20 rfl) (v2 := (99 : Int64)) rfl).trans <|
  (r_gto (pg_of mt_134 dX6_set_23 rfl)).trans <|
  (r_call (t := tt_134) (t2 := tt_115) (pg_of mt_134 dX6_set_29 rfl) mt_134 mt_115 rfl rfl rfl rfl rfl)
theorem b134_26 (l1 : Int32) (l2 : Int32) (s0 : Int64) (s1 : Int64) : rn xs L 134 26 [vR 44, vI l1, vI l2] [vL s0, vL s1] (mw f a g) = (ev xs L 115 6 [vL s1, vL s0, vL (9 : Int64)] (mw f a g)).bind (fun b => rn xs L 134 32 [vR 44, vI l1, vI l2] (b.1.toList ++ []) b.2) :=
  (r_lcn (pg_of mt_134 dX6_set_26 rfl) (v2 := (9 : Int64)) rfl).trans <|
  (r_call (t := tt_134) (t2 := tt_115) (pg_of mt_134 dX6_set_29 rfl) mt_134 mt_115 rfl rfl rfl rfl rfl)
theorem b134_32 (l1 : Int32) (l2 : Int32) (s0 : Int32) : rn xs L 134 32 [vR 44, vI l1, vI l2] [vI s0] (mw f a g) = if s0 = 0 then rn xs L 134 46 [vR 44, vI l1, vI l2] [] (mw f a g) else rn xs L 134 35 [vR 44, vI l1, vI l2] [] (mw f a g) :=
  (r_eq0 (pg_of mt_134 dX6_set_32 rfl))
theorem b134_35 (l1 : Int32) (l2 : Int32) : rn xs L 134 35 [vR 44, vI l1, vI l2] [] (mw f a g) = (ev xs L 135 4 [vR 44, vI ((4 : Int32) + l1), vI l2] (mw f a g)).bind (fun b => rn xs L 134 43 [vR 44, vI l1, vI l2] (b.1.toList ++ []) b.2) :=
  (r_ald (pg_of mt_134 dX6_set_35 rfl) rfl).trans <|
  (r_con (pg_of mt_134 dX6_set_36 rfl) (v2 := (4 : Int32)) (by decide)).trans <|
  (r_ild (pg_of mt_134 dX6_set_37 rfl) rfl).trans <|
  (r_bin (pg_of mt_134 dX6_set_38 rfl)).trans <|
  (r_ild (pg_of mt_134 dX6_set_39 rfl) rfl).trans <|
  (r_call (t := tt_134) (t2 := tt_135) (pg_of mt_134 dX6_set_40 rfl) mt_134 mt_135 rfl rfl (rcv1 rfl) rfl rfl)
theorem b134_43 (l1 : Int32) (l2 : Int32) (s0 : Int32) : rn xs L 134 43 [vR 44, vI l1, vI l2] [vI s0] (mw f a g) = some (some (vI s0), (mw f a g)) :=
  (r_gto (pg_of mt_134 dX6_set_43 rfl)).trans <|
  (r_ri (pg_of mt_134 dX6_set_47 rfl) mt_134 rfl)
theorem b134_46 (l1 : Int32) (l2 : Int32) : rn xs L 134 46 [vR 44, vI l1, vI l2] [] (mw f a g) = some (some (vI (-1 : Int32)), (mw f a g)) :=
  (r_con (pg_of mt_134 dX6_set_46 rfl) (v2 := (-1 : Int32)) (by decide)).trans <|
  (r_ri (pg_of mt_134 dX6_set_47 rfl) mt_134 rfl)
-- 135 LeafFallsModel.becomes(II)I
theorem b135_0 (l1 : Int32) (l2 : Int32) (l3 : ma_V) (h1 : ma_in l1 62 = true) (h2 : ma_in l1 62 = true) : rn xs L 135 0 [vR 44, vI l1, vI l2, l3] [] (mw f a g) = some (some (vI (a 45 l1.toNatClampNeg)), (mw f ((ma_u2 a 45 l1.toNatClampNeg l2)) g)) :=
  (r_ald (pg_of mt_135 dX6_becomes_0 rfl) rfl).trans <|
  (r_gtr (a := 45) (pg_of mt_135 dX6_becomes_1 rfl) rfl rfl).trans <|
  (r_ild (pg_of mt_135 dX6_becomes_4 rfl) rfl).trans <|
  (r_iald (pg_of mt_135 dX6_becomes_5 rfl) rfl h1).trans <|
  (r_ist (pg_of mt_135 dX6_becomes_6 rfl) (Nat.le_of_ble_eq_true rfl) rfl).trans <|
  (r_ald (pg_of mt_135 dX6_becomes_7 rfl) rfl).trans <|
  (r_gtr (a := 45) (pg_of mt_135 dX6_becomes_8 rfl) rfl rfl).trans <|
  (r_ild (pg_of mt_135 dX6_becomes_11 rfl) rfl).trans <|
  (r_ild (pg_of mt_135 dX6_becomes_12 rfl) rfl).trans <|
  (r_iast (pg_of mt_135 dX6_becomes_13 rfl) rfl h2).trans <|
  (r_ild (pg_of mt_135 dX6_becomes_14 rfl) rfl).trans <|
  (r_ri (pg_of mt_135 dX6_becomes_15 rfl) mt_135 rfl)
-- 136 LeafFallsModel.lawOf(I)I
theorem b136_0 (l1 : Int32) : rn xs L 136 0 [vR 44, vI l1] [] (mw f a g) = (ev xs L 115 6 [vL (l1).toInt64, vL (0 : Int64), vL (3 : Int64)] (mw f a g)).bind (fun b => rn xs L 136 9 [vR 44, vI l1] (b.1.toList ++ []) b.2) :=
  (r_ild (pg_of mt_136 dX6_lawOf_0 rfl) rfl).trans <|
  (r_i2l (pg_of mt_136 dX6_lawOf_1 rfl)).trans <|
  (r_lcn (pg_of mt_136 dX6_lawOf_2 rfl) (v2 := (0 : Int64)) (by decide)).trans <|
  (r_lcn (pg_of mt_136 dX6_lawOf_3 rfl) (v2 := (3 : Int64)) rfl).trans <|
  (r_call (t := tt_136) (t2 := tt_115) (pg_of mt_136 dX6_lawOf_6 rfl) mt_136 mt_115 rfl rfl rfl rfl rfl)
theorem b136_9 (l1 : Int32) (s0 : Int32) : rn xs L 136 9 [vR 44, vI l1] [vI s0] (mw f a g) = if s0 = 0 then rn xs L 136 23 [vR 44, vI l1] [] (mw f a g) else rn xs L 136 12 [vR 44, vI l1] [] (mw f a g) :=
  (r_eq0 (pg_of mt_136 dX6_lawOf_9 rfl))
theorem b136_12 (l1 : Int32) (h1 : ma_in (((4 : Int32) + l1)) 62 = true) : rn xs L 136 12 [vR 44, vI l1] [] (mw f a g) = some (some (vI (a 45 (((4 : Int32) + l1)).toNatClampNeg)), (mw f a g)) :=
  (r_ald (pg_of mt_136 dX6_lawOf_12 rfl) rfl).trans <|
  (r_gtr (a := 45) (pg_of mt_136 dX6_lawOf_13 rfl) rfl rfl).trans <|
  (r_con (pg_of mt_136 dX6_lawOf_16 rfl) (v2 := (4 : Int32)) (by decide)).trans <|
  (r_ild (pg_of mt_136 dX6_lawOf_17 rfl) rfl).trans <|
  (r_bin (pg_of mt_136 dX6_lawOf_18 rfl)).trans <|
  (r_iald (pg_of mt_136 dX6_lawOf_19 rfl) rfl h1).trans <|
  (r_gto (pg_of mt_136 dX6_lawOf_20 rfl)).trans <|
  (r_ri (pg_of mt_136 dX6_lawOf_24 rfl) mt_136 rfl)
theorem b136_23 (l1 : Int32) : rn xs L 136 23 [vR 44, vI l1] [] (mw f a g) = some (some (vI (-1 : Int32)), (mw f a g)) :=
  (r_con (pg_of mt_136 dX6_lawOf_23 rfl) (v2 := (-1 : Int32)) (by decide)).trans <|
  (r_ri (pg_of mt_136 dX6_lawOf_24 rfl) mt_136 rfl)
-- 137 LeafFallsModel.leaf(IIII)I
theorem b137_0 (l1 : Int32) (l2 : Int32) (l3 : Int32) (l4 : Int32) (l5 : ma_V) : rn xs L 137 0 [vR 44, vI l1, vI l2, vI l3, vI l4, l5] [] (mw f a g) = (ev xs L 115 6 [vL (l1).toInt64, vL (0 : Int64), vL (5 : Int64)] (mw f a g)).bind (fun b => rn xs L 137 9 [vR 44, vI l1, vI l2, vI l3, vI l4, l5] (b.1.toList ++ []) b.2) :=
  (r_ild (pg_of mt_137 dX6_leaf_0 rfl) rfl).trans <|
  (r_i2l (pg_of mt_137 dX6_leaf_1 rfl)).trans <|
  (r_lcn (pg_of mt_137 dX6_leaf_2 rfl) (v2 := (0 : Int64)) (by decide)).trans <|
  (r_lcn (pg_of mt_137 dX6_leaf_3 rfl) (v2 := (5 : Int64)) rfl).trans <|
  (r_call (t := tt_137) (t2 := tt_115) (pg_of mt_137 dX6_leaf_6 rfl) mt_137 mt_115 rfl rfl rfl rfl rfl)
theorem b137_9 (l1 : Int32) (l2 : Int32) (l3 : Int32) (l4 : Int32) (l5 : ma_V) (s0 : Int32) : rn xs L 137 9 [vR 44, vI l1, vI l2, vI l3, vI l4, l5] [vI s0] (mw f a g) = if s0 = 0 then rn xs L 137 44 [vR 44, vI l1, vI l2, vI l3, vI l4, l5] [] (mw f a g) else rn xs L 137 12 [vR 44, vI l1, vI l2, vI l3, vI l4, l5] [] (mw f a g) :=
  (r_eq0 (pg_of mt_137 dX6_leaf_9 rfl))
theorem b137_12 (l1 : Int32) (l2 : Int32) (l3 : Int32) (l4 : Int32) (l5 : ma_V) : rn xs L 137 12 [vR 44, vI l1, vI l2, vI l3, vI l4, l5] [] (mw f a g) = (ev xs L 138 1 [vI l2] (mw f a g)).bind (fun b => rn xs L 137 16 [vR 44, vI l1, vI l2, vI l3, vI l4, l5] (b.1.toList ++ []) b.2) :=
  (r_ild (pg_of mt_137 dX6_leaf_12 rfl) rfl).trans <|
  (r_call (t := tt_137) (t2 := tt_138) (pg_of mt_137 dX6_leaf_13 rfl) mt_137 mt_138 rfl rfl rfl rfl rfl)
theorem b137_16 (l1 : Int32) (l2 : Int32) (l3 : Int32) (l4 : Int32) (l5 : ma_V) (s0 : Int32) : rn xs L 137 16 [vR 44, vI l1, vI l2, vI l3, vI l4, l5] [vI s0] (mw f a g) = if s0 = 0 then rn xs L 137 44 [vR 44, vI l1, vI l2, vI l3, vI l4, l5] [] (mw f a g) else rn xs L 137 19 [vR 44, vI l1, vI l2, vI l3, vI l4, l5] [] (mw f a g) :=
  (r_eq0 (pg_of mt_137 dX6_leaf_16 rfl))
theorem b137_19 (l1 : Int32) (l2 : Int32) (l3 : Int32) (l4 : Int32) (l5 : ma_V) : rn xs L 137 19 [vR 44, vI l1, vI l2, vI l3, vI l4, l5] [] (mw f a g) = (ev xs L 115 6 [vL (l3).toInt64, vL (0 : Int64), vL (99 : Int64)] (mw f a g)).bind (fun b => rn xs L 137 28 [vR 44, vI l1, vI l2, vI l3, vI l4, l5] (b.1.toList ++ []) b.2) :=
  (r_ild (pg_of mt_137 dX6_leaf_19 rfl) rfl).trans <|
  (r_i2l (pg_of mt_137 dX6_leaf_20 rfl)).trans <|
  (r_lcn (pg_of mt_137 dX6_leaf_21 rfl) (v2 := (0 : Int64)) (by decide)).trans <|
  (r_lcn (pg_of mt_137 dX6_leaf_22 rfl) (v2 := (99 : Int64)) rfl).trans <|
  (r_call (t := tt_137) (t2 := tt_115) (pg_of mt_137 dX6_leaf_25 rfl) mt_137 mt_115 rfl rfl rfl rfl rfl)
theorem b137_28 (l1 : Int32) (l2 : Int32) (l3 : Int32) (l4 : Int32) (l5 : ma_V) (s0 : Int32) : rn xs L 137 28 [vR 44, vI l1, vI l2, vI l3, vI l4, l5] [vI s0] (mw f a g) = if s0 = 0 then rn xs L 137 44 [vR 44, vI l1, vI l2, vI l3, vI l4, l5] [] (mw f a g) else rn xs L 137 31 [vR 44, vI l1, vI l2, vI l3, vI l4, l5] [] (mw f a g) :=
  (r_eq0 (pg_of mt_137 dX6_leaf_28 rfl))
theorem b137_31 (l1 : Int32) (l2 : Int32) (l3 : Int32) (l4 : Int32) (l5 : ma_V) : rn xs L 137 31 [vR 44, vI l1, vI l2, vI l3, vI l4, l5] [] (mw f a g) = (ev xs L 115 6 [vL (l4).toInt64, vL (0 : Int64), vL (9 : Int64)] (mw f a g)).bind (fun b => rn xs L 137 41 [vR 44, vI l1, vI l2, vI l3, vI l4, l5] (b.1.toList ++ []) b.2) :=
  (r_ild (pg_of mt_137 dX6_leaf_31 rfl) rfl).trans <|
  (r_i2l (pg_of mt_137 dX6_leaf_33 rfl)).trans <|
  (r_lcn (pg_of mt_137 dX6_leaf_34 rfl) (v2 := (0 : Int64)) (by decide)).trans <|
  (r_lcn (pg_of mt_137 dX6_leaf_35 rfl) (v2 := (9 : Int64)) rfl).trans <|
  (r_call (t := tt_137) (t2 := tt_115) (pg_of mt_137 dX6_leaf_38 rfl) mt_137 mt_115 rfl rfl rfl rfl rfl)
theorem b137_41 (l1 : Int32) (l2 : Int32) (l3 : Int32) (l4 : Int32) (l5 : ma_V) (s0 : Int32) : rn xs L 137 41 [vR 44, vI l1, vI l2, vI l3, vI l4, l5] [vI s0] (mw f a g) = if s0 = 0 then rn xs L 137 44 [vR 44, vI l1, vI l2, vI l3, vI l4, l5] [] (mw f a g) else rn xs L 137 46 [vR 44, vI l1, vI l2, vI l3, vI l4, l5] [] (mw f a g) :=
  (r_ne0 (pg_of mt_137 dX6_leaf_41 rfl))
theorem b137_44 (l1 : Int32) (l2 : Int32) (l3 : Int32) (l4 : Int32) (l5 : ma_V) : rn xs L 137 44 [vR 44, vI l1, vI l2, vI l3, vI l4, l5] [] (mw f a g) = some (some (vI (-1 : Int32)), (mw f a g)) :=
  (r_con (pg_of mt_137 dX6_leaf_44 rfl) (v2 := (-1 : Int32)) (by decide)).trans <|
  (r_ri (pg_of mt_137 dX6_leaf_45 rfl) mt_137 rfl)
theorem b137_46 (l1 : Int32) (l2 : Int32) (l3 : Int32) (l4 : Int32) (l5 : ma_V) : rn xs L 137 46 [vR 44, vI l1, vI l2, vI l3, vI l4, l5] [] (mw f a g) = if (a 45 0) = (8 : Int32) then rn xs L 137 57 [vR 44, vI l1, vI l2, vI l3, vI l4, l5] [] (mw f a g) else rn xs L 137 60 [vR 44, vI l1, vI l2, vI l3, vI l4, l5] [] (mw f a g) :=
  (r_ald (pg_of mt_137 dX6_leaf_46 rfl) rfl).trans <|
  (r_gtr (a := 45) (pg_of mt_137 dX6_leaf_47 rfl) rfl rfl).trans <|
  (r_con (pg_of mt_137 dX6_leaf_50 rfl) (v2 := (0 : Int32)) (by decide)).trans <|
  (r_ialc (j := 0) (pg_of mt_137 dX6_leaf_51 rfl) rfl (by decide) (by decide)).trans <|
  (r_con (pg_of mt_137 dX6_leaf_52 rfl) (v2 := (8 : Int32)) (by decide)).trans <|
  (r_ne (pg_of mt_137 dX6_leaf_54 rfl))
theorem b137_57 (l1 : Int32) (l2 : Int32) (l3 : Int32) (l4 : Int32) (l5 : ma_V) : rn xs L 137 57 [vR 44, vI l1, vI l2, vI l3, vI l4, l5] [] (mw f a g) = some (some (vI (-2 : Int32)), (mw f a g)) :=
  (r_con (pg_of mt_137 dX6_leaf_57 rfl) (v2 := (-2 : Int32)) (by decide)).trans <|
  (r_ri (pg_of mt_137 dX6_leaf_59 rfl) mt_137 rfl)
theorem b137_60 (l1 : Int32) (l2 : Int32) (l3 : Int32) (l4 : Int32) (l5 : ma_V) (h1 : ma_in (((14 : Int32) + ((6 : Int32) * (a 45 0)))) 62 = true) (h2 : ma_in ((((14 : Int32) + ((6 : Int32) * (a 45 0))) + (1 : Int32))) 62 = true) (h3 : ma_in ((((14 : Int32) + ((6 : Int32) * (a 45 0))) + (2 : Int32))) 62 = true) (h4 : ma_in ((((14 : Int32) + ((6 : Int32) * (a 45 0))) + (3 : Int32))) 62 = true) (h5 : ma_in ((((14 : Int32) + ((6 : Int32) * (a 45 0))) + (4 : Int32))) 62 = true) (h6 : ma_in ((((14 : Int32) + ((6 : Int32) * (a 45 0))) + (5 : Int32))) 62 = true) : rn xs L 137 60 [vR 44, vI l1, vI l2, vI l3, vI l4, l5] [] (mw f a g) = some (some (vI ((((ma_u2 ((ma_u2 ((ma_u2 ((ma_u2 ((ma_u2 ((ma_u2 ((ma_u2 a 45 (((14 : Int32) + ((6 : Int32) * (a 45 0)))).toNatClampNeg l1)) 45 ((((14 : Int32) + ((6 : Int32) * (a 45 0))) + (1 : Int32))).toNatClampNeg l2)) 45 ((((14 : Int32) + ((6 : Int32) * (a 45 0))) + (2 : Int32))).toNatClampNeg l3)) 45 ((((14 : Int32) + ((6 : Int32) * (a 45 0))) + (3 : Int32))).toNatClampNeg l4)) 45 ((((14 : Int32) + ((6 : Int32) * (a 45 0))) + (4 : Int32))).toNatClampNeg ((1 : Int32)))) 45 ((((14 : Int32) + ((6 : Int32) * (a 45 0))) + (5 : Int32))).toNatClampNeg ((0 : Int32)))) 45 0 (((((ma_u2 ((ma_u2 ((ma_u2 ((ma_u2 ((ma_u2 ((ma_u2 a 45 (((14 : Int32) + ((6 : Int32) * (a 45 0)))).toNatClampNeg l1)) 45 ((((14 : Int32) + ((6 : Int32) * (a 45 0))) + (1 : Int32))).toNatClampNeg l2)) 45 ((((14 : Int32) + ((6 : Int32) * (a 45 0))) + (2 : Int32))).toNatClampNeg l3)) 45 ((((14 : Int32) + ((6 : Int32) * (a 45 0))) + (3 : Int32))).toNatClampNeg l4)) 45 ((((14 : Int32) + ((6 : Int32) * (a 45 0))) + (4 : Int32))).toNatClampNeg ((1 : Int32)))) 45 ((((14 : Int32) + ((6 : Int32) * (a 45 0))) + (5 : Int32))).toNatClampNeg ((0 : Int32)))) 45 0) + (1 : Int32))))) 45 0) - (1 : Int32))), (mw f ((ma_u2 ((ma_u2 ((ma_u2 ((ma_u2 ((ma_u2 ((ma_u2 ((ma_u2 a 45 (((14 : Int32) + ((6 : Int32) * (a 45 0)))).toNatClampNeg l1)) 45 ((((14 : Int32) + ((6 : Int32) * (a 45 0))) + (1 : Int32))).toNatClampNeg l2)) 45 ((((14 : Int32) + ((6 : Int32) * (a 45 0))) + (2 : Int32))).toNatClampNeg l3)) 45 ((((14 : Int32) + ((6 : Int32) * (a 45 0))) + (3 : Int32))).toNatClampNeg l4)) 45 ((((14 : Int32) + ((6 : Int32) * (a 45 0))) + (4 : Int32))).toNatClampNeg ((1 : Int32)))) 45 ((((14 : Int32) + ((6 : Int32) * (a 45 0))) + (5 : Int32))).toNatClampNeg ((0 : Int32)))) 45 0 (((((ma_u2 ((ma_u2 ((ma_u2 ((ma_u2 ((ma_u2 ((ma_u2 a 45 (((14 : Int32) + ((6 : Int32) * (a 45 0)))).toNatClampNeg l1)) 45 ((((14 : Int32) + ((6 : Int32) * (a 45 0))) + (1 : Int32))).toNatClampNeg l2)) 45 ((((14 : Int32) + ((6 : Int32) * (a 45 0))) + (2 : Int32))).toNatClampNeg l3)) 45 ((((14 : Int32) + ((6 : Int32) * (a 45 0))) + (3 : Int32))).toNatClampNeg l4)) 45 ((((14 : Int32) + ((6 : Int32) * (a 45 0))) + (4 : Int32))).toNatClampNeg ((1 : Int32)))) 45 ((((14 : Int32) + ((6 : Int32) * (a 45 0))) + (5 : Int32))).toNatClampNeg ((0 : Int32)))) 45 0) + (1 : Int32))))) g)) :=
  (r_con (pg_of mt_137 dX6_leaf_60 rfl) (v2 := (14 : Int32)) (by decide)).trans <|
  (r_con (pg_of mt_137 dX6_leaf_62 rfl) (v2 := (6 : Int32)) (by decide)).trans <|
  (r_ald (pg_of mt_137 dX6_leaf_64 rfl) rfl).trans <|
  (r_gtr (a := 45) (pg_of mt_137 dX6_leaf_65 rfl) rfl rfl).trans <|
  (r_con (pg_of mt_137 dX6_leaf_68 rfl) (v2 := (0 : Int32)) (by decide)).trans <|
  (r_ialc (j := 0) (pg_of mt_137 dX6_leaf_69 rfl) rfl (by decide) (by decide)).trans <|
  (r_bin (pg_of mt_137 dX6_leaf_70 rfl)).trans <|
  (r_bin (pg_of mt_137 dX6_leaf_71 rfl)).trans <|
  (r_ist (pg_of mt_137 dX6_leaf_72 rfl) (Nat.le_of_ble_eq_true rfl) rfl).trans <|
  (r_ald (pg_of mt_137 dX6_leaf_74 rfl) rfl).trans <|
  (r_gtr (a := 45) (pg_of mt_137 dX6_leaf_75 rfl) rfl rfl).trans <|
  (r_ild (pg_of mt_137 dX6_leaf_78 rfl) rfl).trans <|
  (r_ild (pg_of mt_137 dX6_leaf_80 rfl) rfl).trans <|
  (r_iast (pg_of mt_137 dX6_leaf_81 rfl) rfl h1).trans <|
  (r_ald (pg_of mt_137 dX6_leaf_82 rfl) rfl).trans <|
  (r_gtr (a := 45) (pg_of mt_137 dX6_leaf_83 rfl) rfl rfl).trans <|
  (r_ild (pg_of mt_137 dX6_leaf_86 rfl) rfl).trans <|
  (r_con (pg_of mt_137 dX6_leaf_88 rfl) (v2 := (1 : Int32)) (by decide)).trans <|
  (r_bin (pg_of mt_137 dX6_leaf_89 rfl)).trans <|
  (r_ild (pg_of mt_137 dX6_leaf_90 rfl) rfl).trans <|
  (r_iast (pg_of mt_137 dX6_leaf_91 rfl) rfl h2).trans <|
  (r_ald (pg_of mt_137 dX6_leaf_92 rfl) rfl).trans <|
  (r_gtr (a := 45) (pg_of mt_137 dX6_leaf_93 rfl) rfl rfl).trans <|
  (r_ild (pg_of mt_137 dX6_leaf_96 rfl) rfl).trans <|
  (r_con (pg_of mt_137 dX6_leaf_98 rfl) (v2 := (2 : Int32)) (by decide)).trans <|
  (r_bin (pg_of mt_137 dX6_leaf_99 rfl)).trans <|
  (r_ild (pg_of mt_137 dX6_leaf_100 rfl) rfl).trans <|
  (r_iast (pg_of mt_137 dX6_leaf_101 rfl) rfl h3).trans <|
  (r_ald (pg_of mt_137 dX6_leaf_102 rfl) rfl).trans <|
  (r_gtr (a := 45) (pg_of mt_137 dX6_leaf_103 rfl) rfl rfl).trans <|
  (r_ild (pg_of mt_137 dX6_leaf_106 rfl) rfl).trans <|
  (r_con (pg_of mt_137 dX6_leaf_108 rfl) (v2 := (3 : Int32)) (by decide)).trans <|
  (r_bin (pg_of mt_137 dX6_leaf_109 rfl)).trans <|
  (r_ild (pg_of mt_137 dX6_leaf_110 rfl) rfl).trans <|
  (r_iast (pg_of mt_137 dX6_leaf_112 rfl) rfl h4).trans <|
  (r_ald (pg_of mt_137 dX6_leaf_113 rfl) rfl).trans <|
  (r_gtr (a := 45) (pg_of mt_137 dX6_leaf_114 rfl) rfl rfl).trans <|
  (r_ild (pg_of mt_137 dX6_leaf_117 rfl) rfl).trans <|
  (r_con (pg_of mt_137 dX6_leaf_119 rfl) (v2 := (4 : Int32)) (by decide)).trans <|
  (r_bin (pg_of mt_137 dX6_leaf_120 rfl)).trans <|
  (r_con (pg_of mt_137 dX6_leaf_121 rfl) (v2 := (1 : Int32)) (by decide)).trans <|
  (r_iast (pg_of mt_137 dX6_leaf_122 rfl) rfl h5).trans <|
  (r_ald (pg_of mt_137 dX6_leaf_123 rfl) rfl).trans <|
  (r_gtr (a := 45) (pg_of mt_137 dX6_leaf_124 rfl) rfl rfl).trans <|
  (r_ild (pg_of mt_137 dX6_leaf_127 rfl) rfl).trans <|
  (r_con (pg_of mt_137 dX6_leaf_129 rfl) (v2 := (5 : Int32)) (by decide)).trans <|
  (r_bin (pg_of mt_137 dX6_leaf_130 rfl)).trans <|
  (r_con (pg_of mt_137 dX6_leaf_131 rfl) (v2 := (0 : Int32)) (by decide)).trans <|
  (r_iast (pg_of mt_137 dX6_leaf_132 rfl) rfl h6).trans <|
  (r_ald (pg_of mt_137 dX6_leaf_133 rfl) rfl).trans <|
  (r_gtr (a := 45) (pg_of mt_137 dX6_leaf_134 rfl) rfl rfl).trans <|
  (r_con (pg_of mt_137 dX6_leaf_137 rfl) (v2 := (0 : Int32)) (by decide)).trans <|
  (r_du2 (pg_of mt_137 dX6_leaf_138 rfl) rfl).trans <|
  (r_ialc (j := 0) (pg_of mt_137 dX6_leaf_139 rfl) rfl (by decide) (by decide)).trans <|
  (r_con (pg_of mt_137 dX6_leaf_140 rfl) (v2 := (1 : Int32)) (by decide)).trans <|
  (r_bin (pg_of mt_137 dX6_leaf_141 rfl)).trans <|
  (r_iasc (j := 0) (pg_of mt_137 dX6_leaf_142 rfl) rfl (by decide) (by decide)).trans <|
  (r_ald (pg_of mt_137 dX6_leaf_143 rfl) rfl).trans <|
  (r_gtr (a := 45) (pg_of mt_137 dX6_leaf_144 rfl) rfl rfl).trans <|
  (r_con (pg_of mt_137 dX6_leaf_147 rfl) (v2 := (0 : Int32)) (by decide)).trans <|
  (r_ialc (j := 0) (pg_of mt_137 dX6_leaf_148 rfl) rfl (by decide) (by decide)).trans <|
  (r_con (pg_of mt_137 dX6_leaf_149 rfl) (v2 := (1 : Int32)) (by decide)).trans <|
  (r_bin (pg_of mt_137 dX6_leaf_150 rfl)).trans <|
  (r_ri (pg_of mt_137 dX6_leaf_151 rfl) mt_137 rfl)
-- 138 LeafFallsModel.isBough(I)Z
theorem b138_0 (l0 : Int32) : rn xs L 138 0 [vI l0] [] (mw f a g) = if l0 < 0 then rn xs L 138 14 [vI l0] [] (mw f a g) else rn xs L 138 4 [vI l0] [] (mw f a g) :=
  (r_ild (pg_of mt_138 dX6_isBough_0 rfl) rfl).trans <|
  (r_lt0 (pg_of mt_138 dX6_isBough_1 rfl))
theorem b138_4 (l0 : Int32) : rn xs L 138 4 [vI l0] [] (mw f a g) = if l0 < (6 : Int32) then rn xs L 138 10 [vI l0] [] (mw f a g) else rn xs L 138 14 [vI l0] [] (mw f a g) :=
  (r_ild (pg_of mt_138 dX6_isBough_4 rfl) rfl).trans <|
  (r_con (pg_of mt_138 dX6_isBough_5 rfl) (v2 := (6 : Int32)) (by decide)).trans <|
  (r_ge (pg_of mt_138 dX6_isBough_7 rfl))
theorem b138_10 (l0 : Int32) : rn xs L 138 10 [vI l0] [] (mw f a g) = some (some (vI (1 : Int32)), (mw f a g)) :=
  (r_con (pg_of mt_138 dX6_isBough_10 rfl) (v2 := (1 : Int32)) (by decide)).trans <|
  (r_gto (pg_of mt_138 dX6_isBough_11 rfl)).trans <|
  (r_rz (pg_of mt_138 dX6_isBough_15 rfl) mt_138 rfl (Or.inr rfl))
theorem b138_14 (l0 : Int32) : rn xs L 138 14 [vI l0] [] (mw f a g) = some (some (vI (0 : Int32)), (mw f a g)) :=
  (r_con (pg_of mt_138 dX6_isBough_14 rfl) (v2 := (0 : Int32)) (by decide)).trans <|
  (r_rz (pg_of mt_138 dX6_isBough_15 rfl) mt_138 rfl (Or.inl rfl))
-- 139 LeafFallsModel.of(II)I
theorem b139_0 (l1 : Int32) (l2 : Int32) : rn xs L 139 0 [vR 44, vI l1, vI l2] [] (mw f a g) = (ev xs L 140 2 [vR 44, vI l1] (mw f a g)).bind (fun b => rn xs L 139 5 [vR 44, vI l1, vI l2] (b.1.toList ++ []) b.2) :=
  (r_ald (pg_of mt_139 dX6_of_0 rfl) rfl).trans <|
  (r_ild (pg_of mt_139 dX6_of_1 rfl) rfl).trans <|
  (r_call (t := tt_139) (t2 := tt_140) (pg_of mt_139 dX6_of_2 rfl) mt_139 mt_140 rfl rfl (rcv1 rfl) rfl rfl)
theorem b139_5 (l1 : Int32) (l2 : Int32) (s0 : Int32) : rn xs L 139 5 [vR 44, vI l1, vI l2] [vI s0] (mw f a g) = if s0 = 0 then rn xs L 139 20 [vR 44, vI l1, vI l2] [] (mw f a g) else rn xs L 139 8 [vR 44, vI l1, vI l2] [] (mw f a g) :=
  (r_eq0 (pg_of mt_139 dX6_of_5 rfl))
theorem b139_8 (l1 : Int32) (l2 : Int32) : rn xs L 139 8 [vR 44, vI l1, vI l2] [] (mw f a g) = (ev xs L 115 6 [vL (l2).toInt64, vL (0 : Int64), vL (6 : Int64)] (mw f a g)).bind (fun b => rn xs L 139 17 [vR 44, vI l1, vI l2] (b.1.toList ++ []) b.2) :=
  (r_ild (pg_of mt_139 dX6_of_8 rfl) rfl).trans <|
  (r_i2l (pg_of mt_139 dX6_of_9 rfl)).trans <|
  (r_lcn (pg_of mt_139 dX6_of_10 rfl) (v2 := (0 : Int64)) (by decide)).trans <|
  (r_lcn (pg_of mt_139 dX6_of_11 rfl) (v2 := (6 : Int64)) rfl).trans <|
  (r_call (t := tt_139) (t2 := tt_115) (pg_of mt_139 dX6_of_14 rfl) mt_139 mt_115 rfl rfl rfl rfl rfl)
theorem b139_17 (l1 : Int32) (l2 : Int32) (s0 : Int32) : rn xs L 139 17 [vR 44, vI l1, vI l2] [vI s0] (mw f a g) = if s0 = 0 then rn xs L 139 20 [vR 44, vI l1, vI l2] [] (mw f a g) else rn xs L 139 22 [vR 44, vI l1, vI l2] [] (mw f a g) :=
  (r_ne0 (pg_of mt_139 dX6_of_17 rfl))
theorem b139_20 (l1 : Int32) (l2 : Int32) : rn xs L 139 20 [vR 44, vI l1, vI l2] [] (mw f a g) = some (some (vI (-1 : Int32)), (mw f a g)) :=
  (r_con (pg_of mt_139 dX6_of_20 rfl) (v2 := (-1 : Int32)) (by decide)).trans <|
  (r_ri (pg_of mt_139 dX6_of_21 rfl) mt_139 rfl)
theorem b139_22 (l1 : Int32) (l2 : Int32) : rn xs L 139 22 [vR 44, vI l1, vI l2] [] (mw f a g) = if l2 = (6 : Int32) then rn xs L 139 28 [vR 44, vI l1, vI l2] [] (mw f a g) else rn xs L 139 36 [vR 44, vI l1, vI l2] [] (mw f a g) :=
  (r_ild (pg_of mt_139 dX6_of_22 rfl) rfl).trans <|
  (r_con (pg_of mt_139 dX6_of_23 rfl) (v2 := (6 : Int32)) (by decide)).trans <|
  (r_ne (pg_of mt_139 dX6_of_25 rfl))
theorem b139_28 (l1 : Int32) (l2 : Int32) : rn xs L 139 28 [vR 44, vI l1, vI l2] [] (mw f a g) = (ev xs L 141 2 [vR 44, vI l1] (mw f a g)).bind (fun b => rn xs L 139 33 [vR 44, vI l1, vI l2] (b.1.toList ++ []) b.2) :=
  (r_ald (pg_of mt_139 dX6_of_28 rfl) rfl).trans <|
  (r_ild (pg_of mt_139 dX6_of_29 rfl) rfl).trans <|
  (r_call (t := tt_139) (t2 := tt_141) (pg_of mt_139 dX6_of_30 rfl) mt_139 mt_141 rfl rfl (rcv1 rfl) rfl rfl)
theorem b139_33 (l1 : Int32) (l2 : Int32) (s0 : Int32) : rn xs L 139 33 [vR 44, vI l1, vI l2] [vI s0] (mw f a g) = some (some (vI s0), (mw f a g)) :=
  (r_gto (pg_of mt_139 dX6_of_33 rfl)).trans <|
  (r_ri (pg_of mt_139 dX6_of_42 rfl) mt_139 rfl)
theorem b139_36 (l1 : Int32) (l2 : Int32) : rn xs L 139 36 [vR 44, vI l1, vI l2] [] (mw f a g) = (ev xs L 142 3 [vR 44, vI l1, vI l2] (mw f a g)).bind (fun b => rn xs L 139 42 [vR 44, vI l1, vI l2] (b.1.toList ++ []) b.2) :=
  (r_ald (pg_of mt_139 dX6_of_36 rfl) rfl).trans <|
  (r_ild (pg_of mt_139 dX6_of_37 rfl) rfl).trans <|
  (r_ild (pg_of mt_139 dX6_of_38 rfl) rfl).trans <|
  (r_call (t := tt_139) (t2 := tt_142) (pg_of mt_139 dX6_of_39 rfl) mt_139 mt_142 rfl rfl (rcv1 rfl) rfl rfl)
theorem b139_42 (l1 : Int32) (l2 : Int32) (s0 : Int32) : rn xs L 139 42 [vR 44, vI l1, vI l2] [vI s0] (mw f a g) = some (some (vI s0), (mw f a g)) :=
  (r_ri (pg_of mt_139 dX6_of_42 rfl) mt_139 rfl)
-- 140 LeafFallsModel.isOne(I)Z
theorem b140_0 (l1 : Int32) : rn xs L 140 0 [vR 44, vI l1] [] (mw f a g) = if l1 < 0 then rn xs L 140 18 [vR 44, vI l1] [] (mw f a g) else rn xs L 140 4 [vR 44, vI l1] [] (mw f a g) :=
  (r_ild (pg_of mt_140 dX6_isOne_0 rfl) rfl).trans <|
  (r_lt0 (pg_of mt_140 dX6_isOne_1 rfl))
theorem b140_4 (l1 : Int32) : rn xs L 140 4 [vR 44, vI l1] [] (mw f a g) = if l1 < (a 45 0) then rn xs L 140 14 [vR 44, vI l1] [] (mw f a g) else rn xs L 140 18 [vR 44, vI l1] [] (mw f a g) :=
  (r_ild (pg_of mt_140 dX6_isOne_4 rfl) rfl).trans <|
  (r_ald (pg_of mt_140 dX6_isOne_5 rfl) rfl).trans <|
  (r_gtr (a := 45) (pg_of mt_140 dX6_isOne_6 rfl) rfl rfl).trans <|
  (r_con (pg_of mt_140 dX6_isOne_9 rfl) (v2 := (0 : Int32)) (by decide)).trans <|
  (r_ialc (j := 0) (pg_of mt_140 dX6_isOne_10 rfl) rfl (by decide) (by decide)).trans <|
  (r_ge (pg_of mt_140 dX6_isOne_11 rfl))
theorem b140_14 (l1 : Int32) : rn xs L 140 14 [vR 44, vI l1] [] (mw f a g) = some (some (vI (1 : Int32)), (mw f a g)) :=
  (r_con (pg_of mt_140 dX6_isOne_14 rfl) (v2 := (1 : Int32)) (by decide)).trans <|
  (r_gto (pg_of mt_140 dX6_isOne_15 rfl)).trans <|
  (r_rz (pg_of mt_140 dX6_isOne_19 rfl) mt_140 rfl (Or.inr rfl))
theorem b140_18 (l1 : Int32) : rn xs L 140 18 [vR 44, vI l1] [] (mw f a g) = some (some (vI (0 : Int32)), (mw f a g)) :=
  (r_con (pg_of mt_140 dX6_isOne_18 rfl) (v2 := (0 : Int32)) (by decide)).trans <|
  (r_rz (pg_of mt_140 dX6_isOne_19 rfl) mt_140 rfl (Or.inl rfl))
-- 141 LeafFallsModel.mates(I)I
theorem b141_0 (l1 : Int32) : rn xs L 141 0 [vR 44, vI l1] [] (mw f a g) = (ev xs L 142 3 [vR 44, vI l1, vI (1 : Int32)] (mw f a g)).bind (fun b => rn xs L 141 7 [vR 44, vI l1] (b.1.toList ++ [vR 44]) b.2) :=
  (r_ald (pg_of mt_141 dX6_mates_0 rfl) rfl).trans <|
  (r_ald (pg_of mt_141 dX6_mates_1 rfl) rfl).trans <|
  (r_ild (pg_of mt_141 dX6_mates_2 rfl) rfl).trans <|
  (r_con (pg_of mt_141 dX6_mates_3 rfl) (v2 := (1 : Int32)) (by decide)).trans <|
  (r_call (t := tt_141) (t2 := tt_142) (pg_of mt_141 dX6_mates_4 rfl) mt_141 mt_142 rfl rfl (rcv1 rfl) rfl rfl)
theorem b141_7 (l1 : Int32) (s0 : Int32) : rn xs L 141 7 [vR 44, vI l1] [vI s0, vR 44] (mw f a g) = (ev xs L 143 4 [vR 44, vI s0] (mw f a g)).bind (fun b => rn xs L 141 10 [vR 44, vI l1] (b.1.toList ++ []) b.2) :=
  (r_call (t := tt_141) (t2 := tt_143) (pg_of mt_141 dX6_mates_7 rfl) mt_141 mt_143 rfl rfl (rcv1 rfl) rfl rfl)
theorem b141_10 (l1 : Int32) (s0 : Int32) : rn xs L 141 10 [vR 44, vI l1] [vI s0] (mw f a g) = (ev xs L 144 3 [vI (s0 &&& (((1 : Int32) <<< (l1 &&& 31)) ^^^ (-1 : Int32)))] (mw f a g)).bind (fun b => rn xs L 141 19 [vR 44, vI l1] (b.1.toList ++ []) b.2) :=
  (r_con (pg_of mt_141 dX6_mates_10 rfl) (v2 := (1 : Int32)) (by decide)).trans <|
  (r_ild (pg_of mt_141 dX6_mates_11 rfl) rfl).trans <|
  (r_bin (pg_of mt_141 dX6_mates_12 rfl)).trans <|
  (r_con (pg_of mt_141 dX6_mates_13 rfl) (v2 := (-1 : Int32)) (by decide)).trans <|
  (r_bin (pg_of mt_141 dX6_mates_14 rfl)).trans <|
  (r_bin (pg_of mt_141 dX6_mates_15 rfl)).trans <|
  (r_call (t := tt_141) (t2 := tt_144) (pg_of mt_141 dX6_mates_16 rfl) mt_141 mt_144 rfl rfl rfl rfl rfl)
theorem b141_19 (l1 : Int32) (s0 : Int32) : rn xs L 141 19 [vR 44, vI l1] [vI s0] (mw f a g) = some (some (vI s0), (mw f a g)) :=
  (r_ri (pg_of mt_141 dX6_mates_19 rfl) mt_141 rfl)
-- 142 LeafFallsModel.its(II)I
theorem b142_0 (l1 : Int32) (l2 : Int32) (h1 : ma_in ((((14 : Int32) + ((6 : Int32) * l1)) + l2)) 62 = true) : rn xs L 142 0 [vR 44, vI l1, vI l2] [] (mw f a g) = some (some (vI (a 45 ((((14 : Int32) + ((6 : Int32) * l1)) + l2)).toNatClampNeg)), (mw f a g)) :=
  (r_ald (pg_of mt_142 dX6_its_0 rfl) rfl).trans <|
  (r_gtr (a := 45) (pg_of mt_142 dX6_its_1 rfl) rfl rfl).trans <|
  (r_con (pg_of mt_142 dX6_its_4 rfl) (v2 := (14 : Int32)) (by decide)).trans <|
  (r_con (pg_of mt_142 dX6_its_6 rfl) (v2 := (6 : Int32)) (by decide)).trans <|
  (r_ild (pg_of mt_142 dX6_its_8 rfl) rfl).trans <|
  (r_bin (pg_of mt_142 dX6_its_9 rfl)).trans <|
  (r_bin (pg_of mt_142 dX6_its_10 rfl)).trans <|
  (r_ild (pg_of mt_142 dX6_its_11 rfl) rfl).trans <|
  (r_bin (pg_of mt_142 dX6_its_12 rfl)).trans <|
  (r_iald (pg_of mt_142 dX6_its_13 rfl) rfl h1).trans <|
  (r_ri (pg_of mt_142 dX6_its_14 rfl) mt_142 rfl)
-- 143 LeafFallsModel.hangingOn(I)I
theorem b143_0 (l1 : Int32) (l2 : ma_V) (l3 : ma_V) : rn xs L 143 0 [vR 44, vI l1, l2, l3] [] (mw f a g) = rn xs L 143 4 [vR 44, vI l1, vI (0 : Int32), vI (0 : Int32)] [] (mw f a g) :=
  (r_con (pg_of mt_143 dX6_hangingOn_0 rfl) (v2 := (0 : Int32)) (by decide)).trans <|
  (r_ist (pg_of mt_143 dX6_hangingOn_1 rfl) (Nat.le_of_ble_eq_true rfl) rfl).trans <|
  (r_con (pg_of mt_143 dX6_hangingOn_2 rfl) (v2 := (0 : Int32)) (by decide)).trans <|
  (r_ist (pg_of mt_143 dX6_hangingOn_3 rfl) (Nat.le_of_ble_eq_true rfl) rfl)
theorem b143_4 (l1 : Int32) (l2 : Int32) (l3 : Int32) : rn xs L 143 4 [vR 44, vI l1, vI l2, vI l3] [] (mw f a g) = if l3 < (a 45 0) then rn xs L 143 14 [vR 44, vI l1, vI l2, vI l3] [] (mw f a g) else rn xs L 143 50 [vR 44, vI l1, vI l2, vI l3] [] (mw f a g) :=
  (r_ild (pg_of mt_143 dX6_hangingOn_4 rfl) rfl).trans <|
  (r_ald (pg_of mt_143 dX6_hangingOn_5 rfl) rfl).trans <|
  (r_gtr (a := 45) (pg_of mt_143 dX6_hangingOn_6 rfl) rfl rfl).trans <|
  (r_con (pg_of mt_143 dX6_hangingOn_9 rfl) (v2 := (0 : Int32)) (by decide)).trans <|
  (r_ialc (j := 0) (pg_of mt_143 dX6_hangingOn_10 rfl) rfl (by decide) (by decide)).trans <|
  (r_ge (pg_of mt_143 dX6_hangingOn_11 rfl))
theorem b143_14 (l1 : Int32) (l2 : Int32) (l3 : Int32) : rn xs L 143 14 [vR 44, vI l1, vI l2, vI l3] [] (mw f a g) = (ev xs L 142 3 [vR 44, vI l3, vI (4 : Int32)] (mw f a g)).bind (fun b => rn xs L 143 21 [vR 44, vI l1, vI l2, vI l3] (b.1.toList ++ [vI l2]) b.2) :=
  (r_ild (pg_of mt_143 dX6_hangingOn_14 rfl) rfl).trans <|
  (r_ald (pg_of mt_143 dX6_hangingOn_15 rfl) rfl).trans <|
  (r_ild (pg_of mt_143 dX6_hangingOn_16 rfl) rfl).trans <|
  (r_con (pg_of mt_143 dX6_hangingOn_17 rfl) (v2 := (4 : Int32)) (by decide)).trans <|
  (r_call (t := tt_143) (t2 := tt_142) (pg_of mt_143 dX6_hangingOn_18 rfl) mt_143 mt_142 rfl rfl (rcv1 rfl) rfl rfl)
theorem b143_21 (l1 : Int32) (l2 : Int32) (l3 : Int32) (s0 : Int32) (s1 : Int32) : rn xs L 143 21 [vR 44, vI l1, vI l2, vI l3] [vI s0, vI s1] (mw f a g) = if s0 = (1 : Int32) then rn xs L 143 25 [vR 44, vI l1, vI l2, vI l3] [vI s1] (mw f a g) else rn xs L 143 41 [vR 44, vI l1, vI l2, vI l3] [vI s1] (mw f a g) :=
  (r_con (pg_of mt_143 dX6_hangingOn_21 rfl) (v2 := (1 : Int32)) (by decide)).trans <|
  (r_ne (pg_of mt_143 dX6_hangingOn_22 rfl))
theorem b143_25 (l1 : Int32) (l2 : Int32) (l3 : Int32) (s0 : Int32) : rn xs L 143 25 [vR 44, vI l1, vI l2, vI l3] [vI s0] (mw f a g) = (ev xs L 142 3 [vR 44, vI l3, vI (1 : Int32)] (mw f a g)).bind (fun b => rn xs L 143 31 [vR 44, vI l1, vI l2, vI l3] (b.1.toList ++ [vI s0]) b.2) :=
  (r_ald (pg_of mt_143 dX6_hangingOn_25 rfl) rfl).trans <|
  (r_ild (pg_of mt_143 dX6_hangingOn_26 rfl) rfl).trans <|
  (r_con (pg_of mt_143 dX6_hangingOn_27 rfl) (v2 := (1 : Int32)) (by decide)).trans <|
  (r_call (t := tt_143) (t2 := tt_142) (pg_of mt_143 dX6_hangingOn_28 rfl) mt_143 mt_142 rfl rfl (rcv1 rfl) rfl rfl)
theorem b143_31 (l1 : Int32) (l2 : Int32) (l3 : Int32) (s0 : Int32) (s1 : Int32) : rn xs L 143 31 [vR 44, vI l1, vI l2, vI l3] [vI s0, vI s1] (mw f a g) = if s0 = l1 then rn xs L 143 35 [vR 44, vI l1, vI l2, vI l3] [vI s1] (mw f a g) else rn xs L 143 41 [vR 44, vI l1, vI l2, vI l3] [vI s1] (mw f a g) :=
  (r_ild (pg_of mt_143 dX6_hangingOn_31 rfl) rfl).trans <|
  (r_ne (pg_of mt_143 dX6_hangingOn_32 rfl))
theorem b143_35 (l1 : Int32) (l2 : Int32) (l3 : Int32) (s0 : Int32) : rn xs L 143 35 [vR 44, vI l1, vI l2, vI l3] [vI s0] (mw f a g) = rn xs L 143 4 [vR 44, vI l1, vI (s0 ||| ((1 : Int32) <<< (l3 &&& 31))), vI (l3 + (1 : Int32))] [] (mw f a g) :=
  (r_con (pg_of mt_143 dX6_hangingOn_35 rfl) (v2 := (1 : Int32)) (by decide)).trans <|
  (r_ild (pg_of mt_143 dX6_hangingOn_36 rfl) rfl).trans <|
  (r_bin (pg_of mt_143 dX6_hangingOn_37 rfl)).trans <|
  (r_gto (pg_of mt_143 dX6_hangingOn_38 rfl)).trans <|
  (r_bin (pg_of mt_143 dX6_hangingOn_42 rfl)).trans <|
  (r_ist (pg_of mt_143 dX6_hangingOn_43 rfl) (Nat.le_of_ble_eq_true rfl) rfl).trans <|
  (r_inc (pg_of mt_143 dX6_hangingOn_44 rfl) (y := (1 : Int32)) (by decide) rfl rfl).trans <|
  (r_gto (pg_of mt_143 dX6_hangingOn_47 rfl))
theorem b143_41 (l1 : Int32) (l2 : Int32) (l3 : Int32) (s0 : Int32) : rn xs L 143 41 [vR 44, vI l1, vI l2, vI l3] [vI s0] (mw f a g) = rn xs L 143 4 [vR 44, vI l1, vI (s0 ||| (0 : Int32)), vI (l3 + (1 : Int32))] [] (mw f a g) :=
  (r_con (pg_of mt_143 dX6_hangingOn_41 rfl) (v2 := (0 : Int32)) (by decide)).trans <|
  (r_bin (pg_of mt_143 dX6_hangingOn_42 rfl)).trans <|
  (r_ist (pg_of mt_143 dX6_hangingOn_43 rfl) (Nat.le_of_ble_eq_true rfl) rfl).trans <|
  (r_inc (pg_of mt_143 dX6_hangingOn_44 rfl) (y := (1 : Int32)) (by decide) rfl rfl).trans <|
  (r_gto (pg_of mt_143 dX6_hangingOn_47 rfl))
theorem b143_50 (l1 : Int32) (l2 : Int32) (l3 : Int32) : rn xs L 143 50 [vR 44, vI l1, vI l2, vI l3] [] (mw f a g) = some (some (vI l2), (mw f a g)) :=
  (r_ild (pg_of mt_143 dX6_hangingOn_50 rfl) rfl).trans <|
  (r_ri (pg_of mt_143 dX6_hangingOn_51 rfl) mt_143 rfl)
-- 144 LeafFallsModel.size(I)I
theorem b144_0 (l0 : Int32) (l1 : ma_V) (l2 : ma_V) : rn xs L 144 0 [vI l0, l1, l2] [] (mw f a g) = rn xs L 144 4 [vI l0, vI (0 : Int32), vI l0] [] (mw f a g) :=
  (r_con (pg_of mt_144 dX6_size_0 rfl) (v2 := (0 : Int32)) (by decide)).trans <|
  (r_ist (pg_of mt_144 dX6_size_1 rfl) (Nat.le_of_ble_eq_true rfl) rfl).trans <|
  (r_ild (pg_of mt_144 dX6_size_2 rfl) rfl).trans <|
  (r_ist (pg_of mt_144 dX6_size_3 rfl) (Nat.le_of_ble_eq_true rfl) rfl)
theorem b144_4 (l0 : Int32) (l1 : Int32) (l2 : Int32) : rn xs L 144 4 [vI l0, vI l1, vI l2] [] (mw f a g) = if l2 = 0 then rn xs L 144 20 [vI l0, vI l1, vI l2] [] (mw f a g) else rn xs L 144 8 [vI l0, vI l1, vI l2] [] (mw f a g) :=
  (r_ild (pg_of mt_144 dX6_size_4 rfl) rfl).trans <|
  (r_eq0 (pg_of mt_144 dX6_size_5 rfl))
theorem b144_8 (l0 : Int32) (l1 : Int32) (l2 : Int32) : rn xs L 144 8 [vI l0, vI l1, vI l2] [] (mw f a g) = rn xs L 144 4 [vI l0, vI (l1 + (1 : Int32)), vI (l2 &&& (l2 - (1 : Int32)))] [] (mw f a g) :=
  (r_inc (pg_of mt_144 dX6_size_8 rfl) (y := (1 : Int32)) (by decide) rfl rfl).trans <|
  (r_ild (pg_of mt_144 dX6_size_11 rfl) rfl).trans <|
  (r_ild (pg_of mt_144 dX6_size_12 rfl) rfl).trans <|
  (r_con (pg_of mt_144 dX6_size_13 rfl) (v2 := (1 : Int32)) (by decide)).trans <|
  (r_bin (pg_of mt_144 dX6_size_14 rfl)).trans <|
  (r_bin (pg_of mt_144 dX6_size_15 rfl)).trans <|
  (r_ist (pg_of mt_144 dX6_size_16 rfl) (Nat.le_of_ble_eq_true rfl) rfl).trans <|
  (r_gto (pg_of mt_144 dX6_size_17 rfl))
theorem b144_20 (l0 : Int32) (l1 : Int32) (l2 : Int32) : rn xs L 144 20 [vI l0, vI l1, vI l2] [] (mw f a g) = some (some (vI l1), (mw f a g)) :=
  (r_ild (pg_of mt_144 dX6_size_20 rfl) rfl).trans <|
  (r_ri (pg_of mt_144 dX6_size_21 rfl) mt_144 rfl)
-- 145 LeafFallsModel.does(II)I
theorem b145_0 (l1 : Int32) (l2 : Int32) : rn xs L 145 0 [vR 44, vI l1, vI l2] [] (mw f a g) = (ev xs L 140 2 [vR 44, vI l1] (mw f a g)).bind (fun b => rn xs L 145 5 [vR 44, vI l1, vI l2] (b.1.toList ++ []) b.2) :=
  (r_ald (pg_of mt_145 dX6_does_0 rfl) rfl).trans <|
  (r_ild (pg_of mt_145 dX6_does_1 rfl) rfl).trans <|
  (r_call (t := tt_145) (t2 := tt_140) (pg_of mt_145 dX6_does_2 rfl) mt_145 mt_140 rfl rfl (rcv1 rfl) rfl rfl)
theorem b145_5 (l1 : Int32) (l2 : Int32) (s0 : Int32) : rn xs L 145 5 [vR 44, vI l1, vI l2] [vI s0] (mw f a g) = if s0 = 0 then rn xs L 145 18 [vR 44, vI l1, vI l2] [] (mw f a g) else rn xs L 145 8 [vR 44, vI l1, vI l2] [] (mw f a g) :=
  (r_eq0 (pg_of mt_145 dX6_does_5 rfl))
theorem b145_8 (l1 : Int32) (l2 : Int32) : rn xs L 145 8 [vR 44, vI l1, vI l2] [] (mw f a g) = (ev xs L 115 6 [vL (l2).toInt64, vL (0 : Int64), vL (1 : Int64)] (mw f a g)).bind (fun b => rn xs L 145 15 [vR 44, vI l1, vI l2] (b.1.toList ++ []) b.2) :=
  (r_ild (pg_of mt_145 dX6_does_8 rfl) rfl).trans <|
  (r_i2l (pg_of mt_145 dX6_does_9 rfl)).trans <|
  (r_lcn (pg_of mt_145 dX6_does_10 rfl) (v2 := (0 : Int64)) (by decide)).trans <|
  (r_lcn (pg_of mt_145 dX6_does_11 rfl) (v2 := (1 : Int64)) (by decide)).trans <|
  (r_call (t := tt_145) (t2 := tt_115) (pg_of mt_145 dX6_does_12 rfl) mt_145 mt_115 rfl rfl rfl rfl rfl)
theorem b145_15 (l1 : Int32) (l2 : Int32) (s0 : Int32) : rn xs L 145 15 [vR 44, vI l1, vI l2] [vI s0] (mw f a g) = if s0 = 0 then rn xs L 145 18 [vR 44, vI l1, vI l2] [] (mw f a g) else rn xs L 145 20 [vR 44, vI l1, vI l2] [] (mw f a g) :=
  (r_ne0 (pg_of mt_145 dX6_does_15 rfl))
theorem b145_18 (l1 : Int32) (l2 : Int32) : rn xs L 145 18 [vR 44, vI l1, vI l2] [] (mw f a g) = some (some (vI (-1 : Int32)), (mw f a g)) :=
  (r_con (pg_of mt_145 dX6_does_18 rfl) (v2 := (-1 : Int32)) (by decide)).trans <|
  (r_ri (pg_of mt_145 dX6_does_19 rfl) mt_145 rfl)
theorem b145_20 (l1 : Int32) (l2 : Int32) : rn xs L 145 20 [vR 44, vI l1, vI l2] [] (mw f a g) = if l2 = 0 then rn xs L 145 27 [vR 44, vI l1, vI l2] [vI (1000 : Int32)] (mw f a g) else rn xs L 145 35 [vR 44, vI l1, vI l2] [vI (1000 : Int32)] (mw f a g) :=
  (r_con (pg_of mt_145 dX6_does_20 rfl) (v2 := (1000 : Int32)) (by decide)).trans <|
  (r_ild (pg_of mt_145 dX6_does_23 rfl) rfl).trans <|
  (r_ne0 (pg_of mt_145 dX6_does_24 rfl))
theorem b145_27 (l1 : Int32) (l2 : Int32) (s0 : Int32) : rn xs L 145 27 [vR 44, vI l1, vI l2] [vI s0] (mw f a g) = (ev xs L 146 3 [vR 44, vI l1] (mw f a g)).bind (fun b => rn xs L 145 32 [vR 44, vI l1, vI l2] (b.1.toList ++ [vI s0]) b.2) :=
  (r_ald (pg_of mt_145 dX6_does_27 rfl) rfl).trans <|
  (r_ild (pg_of mt_145 dX6_does_28 rfl) rfl).trans <|
  (r_call (t := tt_145) (t2 := tt_146) (pg_of mt_145 dX6_does_29 rfl) mt_145 mt_146 rfl rfl (rcv1 rfl) rfl rfl)
theorem b145_32 (l1 : Int32) (l2 : Int32) (s0 : Int32) (s1 : Int32) : rn xs L 145 32 [vR 44, vI l1, vI l2] [vI s0, vI s1] (mw f a g) = some (some (vI (s1 + s0)), (mw f a g)) :=
  (r_gto (pg_of mt_145 dX6_does_32 rfl)).trans <|
  (r_bin (pg_of mt_145 dX6_does_40 rfl)).trans <|
  (r_ri (pg_of mt_145 dX6_does_41 rfl) mt_145 rfl)
theorem b145_35 (l1 : Int32) (l2 : Int32) (s0 : Int32) : rn xs L 145 35 [vR 44, vI l1, vI l2] [vI s0] (mw f a g) = (ev xs L 147 3 [vR 44, vI l1] (mw f a g)).bind (fun b => rn xs L 145 40 [vR 44, vI l1, vI l2] (b.1.toList ++ [vI s0]) b.2) :=
  (r_ald (pg_of mt_145 dX6_does_35 rfl) rfl).trans <|
  (r_ild (pg_of mt_145 dX6_does_36 rfl) rfl).trans <|
  (r_call (t := tt_145) (t2 := tt_147) (pg_of mt_145 dX6_does_37 rfl) mt_145 mt_147 rfl rfl (rcv1 rfl) rfl rfl)
theorem b145_40 (l1 : Int32) (l2 : Int32) (s0 : Int32) (s1 : Int32) : rn xs L 145 40 [vR 44, vI l1, vI l2] [vI s0, vI s1] (mw f a g) = some (some (vI (s1 + s0)), (mw f a g)) :=
  (r_bin (pg_of mt_145 dX6_does_40 rfl)).trans <|
  (r_ri (pg_of mt_145 dX6_does_41 rfl) mt_145 rfl)
-- 146 LeafFallsModel.loses(I)I
theorem sw146_30 {ls st : List ma_V} {w : ma_W} {x : Int32} : rn xs L 146 30 ls (vI x :: st) w = if x = 1 then rn xs L 146 64 ls st w else if x = 2 then rn xs L 146 73 ls st w else if x = 3 then rn xs L 146 81 ls st w else if x = 4 then rn xs L 146 92 ls st w else if x = 5 then rn xs L 146 123 ls st w else rn xs L 146 140 ls st w := by
  by_cases h0 : x = 1
  · rw [if_pos h0, h0]; exact r_swi (t := 64) (pg_of mt_146 dX6_loses_30 rfl) (by decide)
  rw [if_neg h0]
  by_cases h1 : x = 2
  · rw [if_pos h1, h1]; exact r_swi (t := 73) (pg_of mt_146 dX6_loses_30 rfl) (by decide)
  rw [if_neg h1]
  by_cases h2 : x = 3
  · rw [if_pos h2, h2]; exact r_swi (t := 81) (pg_of mt_146 dX6_loses_30 rfl) (by decide)
  rw [if_neg h2]
  by_cases h3 : x = 4
  · rw [if_pos h3, h3]; exact r_swi (t := 92) (pg_of mt_146 dX6_loses_30 rfl) (by decide)
  rw [if_neg h3]
  by_cases h4 : x = 5
  · rw [if_pos h4, h4]; exact r_swi (t := 123) (pg_of mt_146 dX6_loses_30 rfl) (by decide)
  rw [if_neg h4]
  have e0 := i_nei (k := 1) (1 : Int32) (by decide) h0
  have e1 := i_nei (k := 2) (2 : Int32) (by decide) h1
  have e2 := i_nei (k := 3) (3 : Int32) (by decide) h2
  have e3 := i_nei (k := 4) (4 : Int32) (by decide) h3
  have e4 := i_nei (k := 5) (5 : Int32) (by decide) h4
  exact r_swi (t := 140) (pg_of mt_146 dX6_loses_30 rfl) (tsw_out (by omega) (by decide) (by decide))
theorem b146_0 (l1 : Int32) (l2 : ma_V) : rn xs L 146 0 [vR 44, vI l1, l2] [] (mw f a g) = (ev xs L 142 3 [vR 44, vI l1, vI (1 : Int32)] (mw f a g)).bind (fun b => rn xs L 146 20 [vR 44, vI l1, l2] (b.1.toList ++ [vI (8 : Int32), vR 45, vI ((1 : Int32) + (a 45 4))]) b.2) :=
  (r_con (pg_of mt_146 dX6_loses_0 rfl) (v2 := (1 : Int32)) (by decide)).trans <|
  (r_ald (pg_of mt_146 dX6_loses_1 rfl) rfl).trans <|
  (r_gtr (a := 45) (pg_of mt_146 dX6_loses_2 rfl) rfl rfl).trans <|
  (r_con (pg_of mt_146 dX6_loses_5 rfl) (v2 := (4 : Int32)) (by decide)).trans <|
  (r_ialc (j := 4) (pg_of mt_146 dX6_loses_6 rfl) rfl (by decide) (by decide)).trans <|
  (r_bin (pg_of mt_146 dX6_loses_7 rfl)).trans <|
  (r_ald (pg_of mt_146 dX6_loses_8 rfl) rfl).trans <|
  (r_gtr (a := 45) (pg_of mt_146 dX6_loses_9 rfl) rfl rfl).trans <|
  (r_con (pg_of mt_146 dX6_loses_12 rfl) (v2 := (8 : Int32)) (by decide)).trans <|
  (r_ald (pg_of mt_146 dX6_loses_14 rfl) rfl).trans <|
  (r_ild (pg_of mt_146 dX6_loses_15 rfl) rfl).trans <|
  (r_con (pg_of mt_146 dX6_loses_16 rfl) (v2 := (1 : Int32)) (by decide)).trans <|
  (r_call (t := tt_146) (t2 := tt_142) (pg_of mt_146 dX6_loses_17 rfl) mt_146 mt_142 rfl rfl (rcv1 rfl) rfl rfl)
theorem b146_20 (l1 : Int32) (l2 : ma_V) (s0 : Int32) (s1 : Int32) (s3 : Int32) (h1 : ma_in ((s1 + s0)) 62 = true) : rn xs L 146 20 [vR 44, vI l1, l2] [vI s0, vI s1, vR 45, vI s3] (mw f a g) = (ev xs L 142 3 [vR 44, vI l1, vI (0 : Int32)] (mw f a g)).bind (fun b => rn xs L 146 30 [vR 44, vI l1, vI (s3 + (a 45 ((s1 + s0)).toNatClampNeg))] (b.1.toList ++ []) b.2) :=
  (r_bin (pg_of mt_146 dX6_loses_20 rfl)).trans <|
  (r_iald (pg_of mt_146 dX6_loses_21 rfl) rfl h1).trans <|
  (r_bin (pg_of mt_146 dX6_loses_22 rfl)).trans <|
  (r_ist (pg_of mt_146 dX6_loses_23 rfl) (Nat.le_of_ble_eq_true rfl) rfl).trans <|
  (r_ald (pg_of mt_146 dX6_loses_24 rfl) rfl).trans <|
  (r_ild (pg_of mt_146 dX6_loses_25 rfl) rfl).trans <|
  (r_con (pg_of mt_146 dX6_loses_26 rfl) (v2 := (0 : Int32)) (by decide)).trans <|
  (r_call (t := tt_146) (t2 := tt_142) (pg_of mt_146 dX6_loses_27 rfl) mt_146 mt_142 rfl rfl (rcv1 rfl) rfl rfl)
theorem b146_30 (l1 : Int32) (l2 : Int32) (s0 : Int32) : rn xs L 146 30 [vR 44, vI l1, vI l2] [vI s0] (mw f a g) = if s0 = 1 then rn xs L 146 64 [vR 44, vI l1, vI l2] [] (mw f a g) else if s0 = 2 then rn xs L 146 73 [vR 44, vI l1, vI l2] [] (mw f a g) else if s0 = 3 then rn xs L 146 81 [vR 44, vI l1, vI l2] [] (mw f a g) else if s0 = 4 then rn xs L 146 92 [vR 44, vI l1, vI l2] [] (mw f a g) else if s0 = 5 then rn xs L 146 123 [vR 44, vI l1, vI l2] [] (mw f a g) else rn xs L 146 140 [vR 44, vI l1, vI l2] [] (mw f a g) :=
  (sw146_30)
theorem b146_64 (l1 : Int32) (l2 : Int32) : rn xs L 146 64 [vR 44, vI l1, vI l2] [] (mw f a g) = some (some (vI (l2 + (a 45 5))), (mw f a g)) :=
  (r_ild (pg_of mt_146 dX6_loses_64 rfl) rfl).trans <|
  (r_ald (pg_of mt_146 dX6_loses_65 rfl) rfl).trans <|
  (r_gtr (a := 45) (pg_of mt_146 dX6_loses_66 rfl) rfl rfl).trans <|
  (r_con (pg_of mt_146 dX6_loses_69 rfl) (v2 := (5 : Int32)) (by decide)).trans <|
  (r_ialc (j := 5) (pg_of mt_146 dX6_loses_70 rfl) rfl (by decide) (by decide)).trans <|
  (r_bin (pg_of mt_146 dX6_loses_71 rfl)).trans <|
  (r_ri (pg_of mt_146 dX6_loses_72 rfl) mt_146 rfl)
theorem b146_73 (l1 : Int32) (l2 : Int32) : rn xs L 146 73 [vR 44, vI l1, vI l2] [] (mw f a g) = (ev xs L 141 2 [vR 44, vI l1] (mw f a g)).bind (fun b => rn xs L 146 79 [vR 44, vI l1, vI l2] (b.1.toList ++ [vI l2]) b.2) :=
  (r_ild (pg_of mt_146 dX6_loses_73 rfl) rfl).trans <|
  (r_ald (pg_of mt_146 dX6_loses_74 rfl) rfl).trans <|
  (r_ild (pg_of mt_146 dX6_loses_75 rfl) rfl).trans <|
  (r_call (t := tt_146) (t2 := tt_141) (pg_of mt_146 dX6_loses_76 rfl) mt_146 mt_141 rfl rfl (rcv1 rfl) rfl rfl)
theorem b146_79 (l1 : Int32) (l2 : Int32) (s0 : Int32) (s1 : Int32) : rn xs L 146 79 [vR 44, vI l1, vI l2] [vI s0, vI s1] (mw f a g) = some (some (vI (s1 - s0)), (mw f a g)) :=
  (r_bin (pg_of mt_146 dX6_loses_79 rfl)).trans <|
  (r_ri (pg_of mt_146 dX6_loses_80 rfl) mt_146 rfl)
theorem b146_81 (l1 : Int32) (l2 : Int32) : rn xs L 146 81 [vR 44, vI l1, vI l2] [] (mw f a g) = some (some (vI ((2 : Int32) * (l2 + (a 45 5)))), (mw f a g)) :=
  (r_con (pg_of mt_146 dX6_loses_81 rfl) (v2 := (2 : Int32)) (by decide)).trans <|
  (r_ild (pg_of mt_146 dX6_loses_82 rfl) rfl).trans <|
  (r_ald (pg_of mt_146 dX6_loses_83 rfl) rfl).trans <|
  (r_gtr (a := 45) (pg_of mt_146 dX6_loses_84 rfl) rfl rfl).trans <|
  (r_con (pg_of mt_146 dX6_loses_87 rfl) (v2 := (5 : Int32)) (by decide)).trans <|
  (r_ialc (j := 5) (pg_of mt_146 dX6_loses_88 rfl) rfl (by decide) (by decide)).trans <|
  (r_bin (pg_of mt_146 dX6_loses_89 rfl)).trans <|
  (r_bin (pg_of mt_146 dX6_loses_90 rfl)).trans <|
  (r_ri (pg_of mt_146 dX6_loses_91 rfl) mt_146 rfl)
theorem b146_92 (l1 : Int32) (l2 : Int32) : rn xs L 146 92 [vR 44, vI l1, vI l2] [] (mw f a g) = (ev xs L 141 2 [vR 44, vI l1] (mw f a g)).bind (fun b => rn xs L 146 98 [vR 44, vI l1, vI l2] (b.1.toList ++ [vI l2]) b.2) :=
  (r_ild (pg_of mt_146 dX6_loses_92 rfl) rfl).trans <|
  (r_ald (pg_of mt_146 dX6_loses_93 rfl) rfl).trans <|
  (r_ild (pg_of mt_146 dX6_loses_94 rfl) rfl).trans <|
  (r_call (t := tt_146) (t2 := tt_141) (pg_of mt_146 dX6_loses_95 rfl) mt_146 mt_141 rfl rfl (rcv1 rfl) rfl rfl)
theorem b146_98 (l1 : Int32) (l2 : Int32) (s0 : Int32) (s1 : Int32) : rn xs L 146 98 [vR 44, vI l1, vI l2] [vI s0, vI s1] (mw f a g) = if ((a 45 1) - (a 45 1) / (2 : Int32) * (2 : Int32)) = 0 then rn xs L 146 110 [vR 44, vI l1, vI l2] [vI (s1 - s0)] (mw f a g) else rn xs L 146 120 [vR 44, vI l1, vI l2] [vI (s1 - s0)] (mw f a g) :=
  (r_bin (pg_of mt_146 dX6_loses_98 rfl)).trans <|
  (r_ald (pg_of mt_146 dX6_loses_99 rfl) rfl).trans <|
  (r_gtr (a := 45) (pg_of mt_146 dX6_loses_100 rfl) rfl rfl).trans <|
  (r_con (pg_of mt_146 dX6_loses_103 rfl) (v2 := (1 : Int32)) (by decide)).trans <|
  (r_ialc (j := 1) (pg_of mt_146 dX6_loses_104 rfl) rfl (by decide) (by decide)).trans <|
  (r_con (pg_of mt_146 dX6_loses_105 rfl) (v2 := (2 : Int32)) (by decide)).trans <|
  (r_dvi (pg_of mt_146 dX6_loses_106 rfl) (by decide)).trans <|
  (r_ne0 (pg_of mt_146 dX6_loses_107 rfl))
theorem b146_110 (l1 : Int32) (l2 : Int32) (s0 : Int32) : rn xs L 146 110 [vR 44, vI l1, vI l2] [vI s0] (mw f a g) = some (some (vI (s0 + (a 45 6))), (mw f a g)) :=
  (r_ald (pg_of mt_146 dX6_loses_110 rfl) rfl).trans <|
  (r_gtr (a := 45) (pg_of mt_146 dX6_loses_111 rfl) rfl rfl).trans <|
  (r_con (pg_of mt_146 dX6_loses_114 rfl) (v2 := (6 : Int32)) (by decide)).trans <|
  (r_ialc (j := 6) (pg_of mt_146 dX6_loses_116 rfl) rfl (by decide) (by decide)).trans <|
  (r_gto (pg_of mt_146 dX6_loses_117 rfl)).trans <|
  (r_bin (pg_of mt_146 dX6_loses_121 rfl)).trans <|
  (r_ri (pg_of mt_146 dX6_loses_122 rfl) mt_146 rfl)
theorem b146_120 (l1 : Int32) (l2 : Int32) (s0 : Int32) : rn xs L 146 120 [vR 44, vI l1, vI l2] [vI s0] (mw f a g) = some (some (vI (s0 + (0 : Int32))), (mw f a g)) :=
  (r_con (pg_of mt_146 dX6_loses_120 rfl) (v2 := (0 : Int32)) (by decide)).trans <|
  (r_bin (pg_of mt_146 dX6_loses_121 rfl)).trans <|
  (r_ri (pg_of mt_146 dX6_loses_122 rfl) mt_146 rfl)
theorem b146_123 (l1 : Int32) (l2 : Int32) : rn xs L 146 123 [vR 44, vI l1, vI l2] [] (mw f a g) = if ((a 45 1) - (a 45 1) / (5 : Int32) * (5 : Int32)) = 0 then rn xs L 146 134 [vR 44, vI l1, vI l2] [] (mw f a g) else rn xs L 146 138 [vR 44, vI l1, vI l2] [] (mw f a g) :=
  (r_ald (pg_of mt_146 dX6_loses_123 rfl) rfl).trans <|
  (r_gtr (a := 45) (pg_of mt_146 dX6_loses_124 rfl) rfl rfl).trans <|
  (r_con (pg_of mt_146 dX6_loses_127 rfl) (v2 := (1 : Int32)) (by decide)).trans <|
  (r_ialc (j := 1) (pg_of mt_146 dX6_loses_128 rfl) rfl (by decide) (by decide)).trans <|
  (r_con (pg_of mt_146 dX6_loses_129 rfl) (v2 := (5 : Int32)) (by decide)).trans <|
  (r_dvi (pg_of mt_146 dX6_loses_130 rfl) (by decide)).trans <|
  (r_ne0 (pg_of mt_146 dX6_loses_131 rfl))
theorem b146_134 (l1 : Int32) (l2 : Int32) : rn xs L 146 134 [vR 44, vI l1, vI l2] [] (mw f a g) = some (some (vI l2), (mw f a g)) :=
  (r_ild (pg_of mt_146 dX6_loses_134 rfl) rfl).trans <|
  (r_gto (pg_of mt_146 dX6_loses_135 rfl)).trans <|
  (r_ri (pg_of mt_146 dX6_loses_139 rfl) mt_146 rfl)
theorem b146_138 (l1 : Int32) (l2 : Int32) : rn xs L 146 138 [vR 44, vI l1, vI l2] [] (mw f a g) = some (some (vI (0 : Int32)), (mw f a g)) :=
  (r_con (pg_of mt_146 dX6_loses_138 rfl) (v2 := (0 : Int32)) (by decide)).trans <|
  (r_ri (pg_of mt_146 dX6_loses_139 rfl) mt_146 rfl)
theorem b146_140 (l1 : Int32) (l2 : Int32) : rn xs L 146 140 [vR 44, vI l1, vI l2] [] (mw f a g) = some (some (vI l2), (mw f a g)) :=
  (r_ild (pg_of mt_146 dX6_loses_140 rfl) rfl).trans <|
  (r_ri (pg_of mt_146 dX6_loses_141 rfl) mt_146 rfl)
-- 147 LeafFallsModel.rank(I)I
theorem sw147_13 {ls st : List ma_V} {w : ma_W} {x : Int32} : rn xs L 147 13 ls (vI x :: st) w = if x = 1 then rn xs L 147 48 ls st w else if x = 2 then rn xs L 147 52 ls st w else if x = 3 then rn xs L 147 57 ls st w else if x = 4 then rn xs L 147 68 ls st w else if x = 5 then rn xs L 147 75 ls st w else rn xs L 147 79 ls st w := by
  by_cases h0 : x = 1
  · rw [if_pos h0, h0]; exact r_swi (t := 48) (pg_of mt_147 dX6_rank_13 rfl) (by decide)
  rw [if_neg h0]
  by_cases h1 : x = 2
  · rw [if_pos h1, h1]; exact r_swi (t := 52) (pg_of mt_147 dX6_rank_13 rfl) (by decide)
  rw [if_neg h1]
  by_cases h2 : x = 3
  · rw [if_pos h2, h2]; exact r_swi (t := 57) (pg_of mt_147 dX6_rank_13 rfl) (by decide)
  rw [if_neg h2]
  by_cases h3 : x = 4
  · rw [if_pos h3, h3]; exact r_swi (t := 68) (pg_of mt_147 dX6_rank_13 rfl) (by decide)
  rw [if_neg h3]
  by_cases h4 : x = 5
  · rw [if_pos h4, h4]; exact r_swi (t := 75) (pg_of mt_147 dX6_rank_13 rfl) (by decide)
  rw [if_neg h4]
  have e0 := i_nei (k := 1) (1 : Int32) (by decide) h0
  have e1 := i_nei (k := 2) (2 : Int32) (by decide) h1
  have e2 := i_nei (k := 3) (3 : Int32) (by decide) h2
  have e3 := i_nei (k := 4) (4 : Int32) (by decide) h3
  have e4 := i_nei (k := 5) (5 : Int32) (by decide) h4
  exact r_swi (t := 79) (pg_of mt_147 dX6_rank_13 rfl) (tsw_out (by omega) (by decide) (by decide))
theorem b147_0 (l1 : Int32) (l2 : ma_V) : rn xs L 147 0 [vR 44, vI l1, l2] [] (mw f a g) = (ev xs L 142 3 [vR 44, vI l1, vI (3 : Int32)] (mw f a g)).bind (fun b => rn xs L 147 6 [vR 44, vI l1, l2] (b.1.toList ++ []) b.2) :=
  (r_ald (pg_of mt_147 dX6_rank_0 rfl) rfl).trans <|
  (r_ild (pg_of mt_147 dX6_rank_1 rfl) rfl).trans <|
  (r_con (pg_of mt_147 dX6_rank_2 rfl) (v2 := (3 : Int32)) (by decide)).trans <|
  (r_call (t := tt_147) (t2 := tt_142) (pg_of mt_147 dX6_rank_3 rfl) mt_147 mt_142 rfl rfl (rcv1 rfl) rfl rfl)
theorem b147_6 (l1 : Int32) (l2 : ma_V) (s0 : Int32) : rn xs L 147 6 [vR 44, vI l1, l2] [vI s0] (mw f a g) = (ev xs L 142 3 [vR 44, vI l1, vI (0 : Int32)] (mw f a g)).bind (fun b => rn xs L 147 13 [vR 44, vI l1, vI s0] (b.1.toList ++ []) b.2) :=
  (r_ist (pg_of mt_147 dX6_rank_6 rfl) (Nat.le_of_ble_eq_true rfl) rfl).trans <|
  (r_ald (pg_of mt_147 dX6_rank_7 rfl) rfl).trans <|
  (r_ild (pg_of mt_147 dX6_rank_8 rfl) rfl).trans <|
  (r_con (pg_of mt_147 dX6_rank_9 rfl) (v2 := (0 : Int32)) (by decide)).trans <|
  (r_call (t := tt_147) (t2 := tt_142) (pg_of mt_147 dX6_rank_10 rfl) mt_147 mt_142 rfl rfl (rcv1 rfl) rfl rfl)
theorem b147_13 (l1 : Int32) (l2 : Int32) (s0 : Int32) : rn xs L 147 13 [vR 44, vI l1, vI l2] [vI s0] (mw f a g) = if s0 = 1 then rn xs L 147 48 [vR 44, vI l1, vI l2] [] (mw f a g) else if s0 = 2 then rn xs L 147 52 [vR 44, vI l1, vI l2] [] (mw f a g) else if s0 = 3 then rn xs L 147 57 [vR 44, vI l1, vI l2] [] (mw f a g) else if s0 = 4 then rn xs L 147 68 [vR 44, vI l1, vI l2] [] (mw f a g) else if s0 = 5 then rn xs L 147 75 [vR 44, vI l1, vI l2] [] (mw f a g) else rn xs L 147 79 [vR 44, vI l1, vI l2] [] (mw f a g) :=
  (sw147_13)
theorem b147_48 (l1 : Int32) (l2 : Int32) : rn xs L 147 48 [vR 44, vI l1, vI l2] [] (mw f a g) = some (some (vI (l2 + (3 : Int32))), (mw f a g)) :=
  (r_ild (pg_of mt_147 dX6_rank_48 rfl) rfl).trans <|
  (r_con (pg_of mt_147 dX6_rank_49 rfl) (v2 := (3 : Int32)) (by decide)).trans <|
  (r_bin (pg_of mt_147 dX6_rank_50 rfl)).trans <|
  (r_ri (pg_of mt_147 dX6_rank_51 rfl) mt_147 rfl)
theorem b147_52 (l1 : Int32) (l2 : Int32) : rn xs L 147 52 [vR 44, vI l1, vI l2] [] (mw f a g) = some (some (vI ((10 : Int32) - l2)), (mw f a g)) :=
  (r_con (pg_of mt_147 dX6_rank_52 rfl) (v2 := (10 : Int32)) (by decide)).trans <|
  (r_ild (pg_of mt_147 dX6_rank_54 rfl) rfl).trans <|
  (r_bin (pg_of mt_147 dX6_rank_55 rfl)).trans <|
  (r_ri (pg_of mt_147 dX6_rank_56 rfl) mt_147 rfl)
theorem b147_57 (l1 : Int32) (l2 : Int32) : rn xs L 147 57 [vR 44, vI l1, vI l2] [] (mw f a g) = (ev xs L 142 3 [vR 44, vI l1, vI (1 : Int32)] (mw f a g)).bind (fun b => rn xs L 147 66 [vR 44, vI l1, vI l2] (b.1.toList ++ [vI (l2 + (3 : Int32))]) b.2) :=
  (r_ild (pg_of mt_147 dX6_rank_57 rfl) rfl).trans <|
  (r_con (pg_of mt_147 dX6_rank_58 rfl) (v2 := (3 : Int32)) (by decide)).trans <|
  (r_bin (pg_of mt_147 dX6_rank_59 rfl)).trans <|
  (r_ald (pg_of mt_147 dX6_rank_60 rfl) rfl).trans <|
  (r_ild (pg_of mt_147 dX6_rank_61 rfl) rfl).trans <|
  (r_con (pg_of mt_147 dX6_rank_62 rfl) (v2 := (1 : Int32)) (by decide)).trans <|
  (r_call (t := tt_147) (t2 := tt_142) (pg_of mt_147 dX6_rank_63 rfl) mt_147 mt_142 rfl rfl (rcv1 rfl) rfl rfl)
theorem b147_66 (l1 : Int32) (l2 : Int32) (s0 : Int32) (s1 : Int32) : rn xs L 147 66 [vR 44, vI l1, vI l2] [vI s0, vI s1] (mw f a g) = some (some (vI (s1 + s0)), (mw f a g)) :=
  (r_bin (pg_of mt_147 dX6_rank_66 rfl)).trans <|
  (r_ri (pg_of mt_147 dX6_rank_67 rfl) mt_147 rfl)
theorem b147_68 (l1 : Int32) (l2 : Int32) : rn xs L 147 68 [vR 44, vI l1, vI l2] [] (mw f a g) = some (some (vI ((2 : Int32) * ((10 : Int32) - l2))), (mw f a g)) :=
  (r_con (pg_of mt_147 dX6_rank_68 rfl) (v2 := (2 : Int32)) (by decide)).trans <|
  (r_con (pg_of mt_147 dX6_rank_69 rfl) (v2 := (10 : Int32)) (by decide)).trans <|
  (r_ild (pg_of mt_147 dX6_rank_71 rfl) rfl).trans <|
  (r_bin (pg_of mt_147 dX6_rank_72 rfl)).trans <|
  (r_bin (pg_of mt_147 dX6_rank_73 rfl)).trans <|
  (r_ri (pg_of mt_147 dX6_rank_74 rfl) mt_147 rfl)
theorem b147_75 (l1 : Int32) (l2 : Int32) : rn xs L 147 75 [vR 44, vI l1, vI l2] [] (mw f a g) = some (some (vI ((0 : Int32) - l2)), (mw f a g)) :=
  (r_con (pg_of mt_147 dX6_rank_75 rfl) (v2 := (0 : Int32)) (by decide)).trans <|
  (r_ild (pg_of mt_147 dX6_rank_76 rfl) rfl).trans <|
  (r_bin (pg_of mt_147 dX6_rank_77 rfl)).trans <|
  (r_ri (pg_of mt_147 dX6_rank_78 rfl) mt_147 rfl)
theorem b147_79 (l1 : Int32) (l2 : Int32) : rn xs L 147 79 [vR 44, vI l1, vI l2] [] (mw f a g) = some (some (vI l2), (mw f a g)) :=
  (r_ild (pg_of mt_147 dX6_rank_79 rfl) rfl).trans <|
  (r_ri (pg_of mt_147 dX6_rank_80 rfl) mt_147 rfl)
-- 148 LeafFallsModel.mind(III)I
theorem b148_0 (l1 : Int32) (l2 : Int32) (l3 : Int32) : rn xs L 148 0 [vR 44, vI l1, vI l2, vI l3] [] (mw f a g) = (ev xs L 140 2 [vR 44, vI l1] (mw f a g)).bind (fun b => rn xs L 148 5 [vR 44, vI l1, vI l2, vI l3] (b.1.toList ++ []) b.2) :=
  (r_ald (pg_of mt_148 dX6_mind_0 rfl) rfl).trans <|
  (r_ild (pg_of mt_148 dX6_mind_1 rfl) rfl).trans <|
  (r_call (t := tt_148) (t2 := tt_140) (pg_of mt_148 dX6_mind_2 rfl) mt_148 mt_140 rfl rfl (rcv1 rfl) rfl rfl)
theorem b148_5 (l1 : Int32) (l2 : Int32) (l3 : Int32) (s0 : Int32) : rn xs L 148 5 [vR 44, vI l1, vI l2, vI l3] [vI s0] (mw f a g) = if s0 = 0 then rn xs L 148 32 [vR 44, vI l1, vI l2, vI l3] [] (mw f a g) else rn xs L 148 8 [vR 44, vI l1, vI l2, vI l3] [] (mw f a g) :=
  (r_eq0 (pg_of mt_148 dX6_mind_5 rfl))
theorem b148_8 (l1 : Int32) (l2 : Int32) (l3 : Int32) : rn xs L 148 8 [vR 44, vI l1, vI l2, vI l3] [] (mw f a g) = (ev xs L 115 6 [vL (l2).toInt64, vL (0 : Int64), vL (5 : Int64)] (mw f a g)).bind (fun b => rn xs L 148 17 [vR 44, vI l1, vI l2, vI l3] (b.1.toList ++ []) b.2) :=
  (r_ild (pg_of mt_148 dX6_mind_8 rfl) rfl).trans <|
  (r_i2l (pg_of mt_148 dX6_mind_9 rfl)).trans <|
  (r_lcn (pg_of mt_148 dX6_mind_10 rfl) (v2 := (0 : Int64)) (by decide)).trans <|
  (r_lcn (pg_of mt_148 dX6_mind_11 rfl) (v2 := (5 : Int64)) rfl).trans <|
  (r_call (t := tt_148) (t2 := tt_115) (pg_of mt_148 dX6_mind_14 rfl) mt_148 mt_115 rfl rfl rfl rfl rfl)
theorem b148_17 (l1 : Int32) (l2 : Int32) (l3 : Int32) (s0 : Int32) : rn xs L 148 17 [vR 44, vI l1, vI l2, vI l3] [vI s0] (mw f a g) = if s0 = 0 then rn xs L 148 32 [vR 44, vI l1, vI l2, vI l3] [] (mw f a g) else rn xs L 148 20 [vR 44, vI l1, vI l2, vI l3] [] (mw f a g) :=
  (r_eq0 (pg_of mt_148 dX6_mind_17 rfl))
theorem b148_20 (l1 : Int32) (l2 : Int32) (l3 : Int32) : rn xs L 148 20 [vR 44, vI l1, vI l2, vI l3] [] (mw f a g) = (ev xs L 115 6 [vL (l3).toInt64, vL (0 : Int64), vL (9 : Int64)] (mw f a g)).bind (fun b => rn xs L 148 29 [vR 44, vI l1, vI l2, vI l3] (b.1.toList ++ []) b.2) :=
  (r_ild (pg_of mt_148 dX6_mind_20 rfl) rfl).trans <|
  (r_i2l (pg_of mt_148 dX6_mind_21 rfl)).trans <|
  (r_lcn (pg_of mt_148 dX6_mind_22 rfl) (v2 := (0 : Int64)) (by decide)).trans <|
  (r_lcn (pg_of mt_148 dX6_mind_23 rfl) (v2 := (9 : Int64)) rfl).trans <|
  (r_call (t := tt_148) (t2 := tt_115) (pg_of mt_148 dX6_mind_26 rfl) mt_148 mt_115 rfl rfl rfl rfl rfl)
theorem b148_29 (l1 : Int32) (l2 : Int32) (l3 : Int32) (s0 : Int32) : rn xs L 148 29 [vR 44, vI l1, vI l2, vI l3] [vI s0] (mw f a g) = if s0 = 0 then rn xs L 148 32 [vR 44, vI l1, vI l2, vI l3] [] (mw f a g) else rn xs L 148 34 [vR 44, vI l1, vI l2, vI l3] [] (mw f a g) :=
  (r_ne0 (pg_of mt_148 dX6_mind_29 rfl))
theorem b148_32 (l1 : Int32) (l2 : Int32) (l3 : Int32) : rn xs L 148 32 [vR 44, vI l1, vI l2, vI l3] [] (mw f a g) = some (some (vI (-1 : Int32)), (mw f a g)) :=
  (r_con (pg_of mt_148 dX6_mind_32 rfl) (v2 := (-1 : Int32)) (by decide)).trans <|
  (r_ri (pg_of mt_148 dX6_mind_33 rfl) mt_148 rfl)
theorem b148_34 (l1 : Int32) (l2 : Int32) (l3 : Int32) (h1 : ma_in ((((14 : Int32) + ((6 : Int32) * l1)) + (3 : Int32))) 62 = true) : rn xs L 148 34 [vR 44, vI l1, vI l2, vI l3] [] (mw f a g) = (ev xs L 135 4 [vR 44, vI ((14 : Int32) + ((6 : Int32) * l1)), vI l2] (mw f ((ma_u2 a 45 ((((14 : Int32) + ((6 : Int32) * l1)) + (3 : Int32))).toNatClampNeg l3)) g)).bind (fun b => rn xs L 148 61 [vR 44, vI l1, vI l2, vI l3] (b.1.toList ++ []) b.2) :=
  (r_ald (pg_of mt_148 dX6_mind_34 rfl) rfl).trans <|
  (r_gtr (a := 45) (pg_of mt_148 dX6_mind_35 rfl) rfl rfl).trans <|
  (r_con (pg_of mt_148 dX6_mind_38 rfl) (v2 := (14 : Int32)) (by decide)).trans <|
  (r_con (pg_of mt_148 dX6_mind_40 rfl) (v2 := (6 : Int32)) (by decide)).trans <|
  (r_ild (pg_of mt_148 dX6_mind_42 rfl) rfl).trans <|
  (r_bin (pg_of mt_148 dX6_mind_43 rfl)).trans <|
  (r_bin (pg_of mt_148 dX6_mind_44 rfl)).trans <|
  (r_con (pg_of mt_148 dX6_mind_45 rfl) (v2 := (3 : Int32)) (by decide)).trans <|
  (r_bin (pg_of mt_148 dX6_mind_46 rfl)).trans <|
  (r_ild (pg_of mt_148 dX6_mind_47 rfl) rfl).trans <|
  (r_iast (pg_of mt_148 dX6_mind_48 rfl) rfl h1).trans <|
  (r_ald (pg_of mt_148 dX6_mind_49 rfl) rfl).trans <|
  (r_con (pg_of mt_148 dX6_mind_50 rfl) (v2 := (14 : Int32)) (by decide)).trans <|
  (r_con (pg_of mt_148 dX6_mind_52 rfl) (v2 := (6 : Int32)) (by decide)).trans <|
  (r_ild (pg_of mt_148 dX6_mind_54 rfl) rfl).trans <|
  (r_bin (pg_of mt_148 dX6_mind_55 rfl)).trans <|
  (r_bin (pg_of mt_148 dX6_mind_56 rfl)).trans <|
  (r_ild (pg_of mt_148 dX6_mind_57 rfl) rfl).trans <|
  (r_call (t := tt_148) (t2 := tt_135) (pg_of mt_148 dX6_mind_58 rfl) mt_148 mt_135 rfl rfl (rcv1 rfl) rfl rfl)
theorem b148_61 (l1 : Int32) (l2 : Int32) (l3 : Int32) (s0 : Int32) : rn xs L 148 61 [vR 44, vI l1, vI l2, vI l3] [vI s0] (mw f a g) = some (some (vI s0), (mw f a g)) :=
  (r_ri (pg_of mt_148 dX6_mind_61 rfl) mt_148 rfl)
-- 149 LeafFallsModel.hold(II)I
theorem b149_0 (l1 : Int32) (l2 : Int32) : rn xs L 149 0 [vR 44, vI l1, vI l2] [] (mw f a g) = (ev xs L 140 2 [vR 44, vI l1] (mw f a g)).bind (fun b => rn xs L 149 5 [vR 44, vI l1, vI l2] (b.1.toList ++ []) b.2) :=
  (r_ald (pg_of mt_149 dX6_hold_0 rfl) rfl).trans <|
  (r_ild (pg_of mt_149 dX6_hold_1 rfl) rfl).trans <|
  (r_call (t := tt_149) (t2 := tt_140) (pg_of mt_149 dX6_hold_2 rfl) mt_149 mt_140 rfl rfl (rcv1 rfl) rfl rfl)
theorem b149_5 (l1 : Int32) (l2 : Int32) (s0 : Int32) : rn xs L 149 5 [vR 44, vI l1, vI l2] [vI s0] (mw f a g) = if s0 = 0 then rn xs L 149 37 [vR 44, vI l1, vI l2] [] (mw f a g) else rn xs L 149 8 [vR 44, vI l1, vI l2] [] (mw f a g) :=
  (r_eq0 (pg_of mt_149 dX6_hold_5 rfl))
theorem b149_8 (l1 : Int32) (l2 : Int32) : rn xs L 149 8 [vR 44, vI l1, vI l2] [] (mw f a g) = (ev xs L 115 6 [vL (l2).toInt64, vL (0 : Int64), vL (99 : Int64)] (mw f a g)).bind (fun b => rn xs L 149 17 [vR 44, vI l1, vI l2] (b.1.toList ++ []) b.2) :=
  (r_ild (pg_of mt_149 dX6_hold_8 rfl) rfl).trans <|
  (r_i2l (pg_of mt_149 dX6_hold_9 rfl)).trans <|
  (r_lcn (pg_of mt_149 dX6_hold_10 rfl) (v2 := (0 : Int64)) (by decide)).trans <|
  (r_lcn (pg_of mt_149 dX6_hold_11 rfl) (v2 := (99 : Int64)) rfl).trans <|
  (r_call (t := tt_149) (t2 := tt_115) (pg_of mt_149 dX6_hold_14 rfl) mt_149 mt_115 rfl rfl rfl rfl rfl)
theorem b149_17 (l1 : Int32) (l2 : Int32) (s0 : Int32) : rn xs L 149 17 [vR 44, vI l1, vI l2] [vI s0] (mw f a g) = if s0 = 0 then rn xs L 149 37 [vR 44, vI l1, vI l2] [] (mw f a g) else rn xs L 149 20 [vR 44, vI l1, vI l2] [] (mw f a g) :=
  (r_eq0 (pg_of mt_149 dX6_hold_17 rfl))
theorem b149_20 (l1 : Int32) (l2 : Int32) : rn xs L 149 20 [vR 44, vI l1, vI l2] [] (mw f a g) = (ev xs L 135 4 [vR 44, vI (((14 : Int32) + ((6 : Int32) * l1)) + (2 : Int32)), vI l2] (mw f a g)).bind (fun b => rn xs L 149 34 [vR 44, vI l1, vI l2] (b.1.toList ++ []) b.2) :=
  (r_ald (pg_of mt_149 dX6_hold_20 rfl) rfl).trans <|
  (r_con (pg_of mt_149 dX6_hold_21 rfl) (v2 := (14 : Int32)) (by decide)).trans <|
  (r_con (pg_of mt_149 dX6_hold_23 rfl) (v2 := (6 : Int32)) (by decide)).trans <|
  (r_ild (pg_of mt_149 dX6_hold_25 rfl) rfl).trans <|
  (r_bin (pg_of mt_149 dX6_hold_26 rfl)).trans <|
  (r_bin (pg_of mt_149 dX6_hold_27 rfl)).trans <|
  (r_con (pg_of mt_149 dX6_hold_28 rfl) (v2 := (2 : Int32)) (by decide)).trans <|
  (r_bin (pg_of mt_149 dX6_hold_29 rfl)).trans <|
  (r_ild (pg_of mt_149 dX6_hold_30 rfl) rfl).trans <|
  (r_call (t := tt_149) (t2 := tt_135) (pg_of mt_149 dX6_hold_31 rfl) mt_149 mt_135 rfl rfl (rcv1 rfl) rfl rfl)
theorem b149_34 (l1 : Int32) (l2 : Int32) (s0 : Int32) : rn xs L 149 34 [vR 44, vI l1, vI l2] [vI s0] (mw f a g) = some (some (vI s0), (mw f a g)) :=
  (r_gto (pg_of mt_149 dX6_hold_34 rfl)).trans <|
  (r_ri (pg_of mt_149 dX6_hold_38 rfl) mt_149 rfl)
theorem b149_37 (l1 : Int32) (l2 : Int32) : rn xs L 149 37 [vR 44, vI l1, vI l2] [] (mw f a g) = some (some (vI (-1 : Int32)), (mw f a g)) :=
  (r_con (pg_of mt_149 dX6_hold_37 rfl) (v2 := (-1 : Int32)) (by decide)).trans <|
  (r_ri (pg_of mt_149 dX6_hold_38 rfl) mt_149 rfl)
-- 150 LeafFallsModel.move(II)I
theorem b150_0 (l1 : Int32) (l2 : Int32) : rn xs L 150 0 [vR 44, vI l1, vI l2] [] (mw f a g) = (ev xs L 140 2 [vR 44, vI l1] (mw f a g)).bind (fun b => rn xs L 150 5 [vR 44, vI l1, vI l2] (b.1.toList ++ []) b.2) :=
  (r_ald (pg_of mt_150 dX6_move_0 rfl) rfl).trans <|
  (r_ild (pg_of mt_150 dX6_move_1 rfl) rfl).trans <|
  (r_call (t := tt_150) (t2 := tt_140) (pg_of mt_150 dX6_move_2 rfl) mt_150 mt_140 rfl rfl (rcv1 rfl) rfl rfl)
theorem b150_5 (l1 : Int32) (l2 : Int32) (s0 : Int32) : rn xs L 150 5 [vR 44, vI l1, vI l2] [vI s0] (mw f a g) = if s0 = 0 then rn xs L 150 32 [vR 44, vI l1, vI l2] [] (mw f a g) else rn xs L 150 8 [vR 44, vI l1, vI l2] [] (mw f a g) :=
  (r_eq0 (pg_of mt_150 dX6_move_5 rfl))
theorem b150_8 (l1 : Int32) (l2 : Int32) : rn xs L 150 8 [vR 44, vI l1, vI l2] [] (mw f a g) = (ev xs L 138 1 [vI l2] (mw f a g)).bind (fun b => rn xs L 150 12 [vR 44, vI l1, vI l2] (b.1.toList ++ []) b.2) :=
  (r_ild (pg_of mt_150 dX6_move_8 rfl) rfl).trans <|
  (r_call (t := tt_150) (t2 := tt_138) (pg_of mt_150 dX6_move_9 rfl) mt_150 mt_138 rfl rfl rfl rfl rfl)
theorem b150_12 (l1 : Int32) (l2 : Int32) (s0 : Int32) : rn xs L 150 12 [vR 44, vI l1, vI l2] [vI s0] (mw f a g) = if s0 = 0 then rn xs L 150 32 [vR 44, vI l1, vI l2] [] (mw f a g) else rn xs L 150 15 [vR 44, vI l1, vI l2] [] (mw f a g) :=
  (r_eq0 (pg_of mt_150 dX6_move_12 rfl))
theorem b150_15 (l1 : Int32) (l2 : Int32) : rn xs L 150 15 [vR 44, vI l1, vI l2] [] (mw f a g) = (ev xs L 135 4 [vR 44, vI (((14 : Int32) + ((6 : Int32) * l1)) + (1 : Int32)), vI l2] (mw f a g)).bind (fun b => rn xs L 150 29 [vR 44, vI l1, vI l2] (b.1.toList ++ []) b.2) :=
  (r_ald (pg_of mt_150 dX6_move_15 rfl) rfl).trans <|
  (r_con (pg_of mt_150 dX6_move_16 rfl) (v2 := (14 : Int32)) (by decide)).trans <|
  (r_con (pg_of mt_150 dX6_move_18 rfl) (v2 := (6 : Int32)) (by decide)).trans <|
  (r_ild (pg_of mt_150 dX6_move_20 rfl) rfl).trans <|
  (r_bin (pg_of mt_150 dX6_move_21 rfl)).trans <|
  (r_bin (pg_of mt_150 dX6_move_22 rfl)).trans <|
  (r_con (pg_of mt_150 dX6_move_23 rfl) (v2 := (1 : Int32)) (by decide)).trans <|
  (r_bin (pg_of mt_150 dX6_move_24 rfl)).trans <|
  (r_ild (pg_of mt_150 dX6_move_25 rfl) rfl).trans <|
  (r_call (t := tt_150) (t2 := tt_135) (pg_of mt_150 dX6_move_26 rfl) mt_150 mt_135 rfl rfl (rcv1 rfl) rfl rfl)
theorem b150_29 (l1 : Int32) (l2 : Int32) (s0 : Int32) : rn xs L 150 29 [vR 44, vI l1, vI l2] [vI s0] (mw f a g) = some (some (vI s0), (mw f a g)) :=
  (r_gto (pg_of mt_150 dX6_move_29 rfl)).trans <|
  (r_ri (pg_of mt_150 dX6_move_33 rfl) mt_150 rfl)
theorem b150_32 (l1 : Int32) (l2 : Int32) : rn xs L 150 32 [vR 44, vI l1, vI l2] [] (mw f a g) = some (some (vI (-1 : Int32)), (mw f a g)) :=
  (r_con (pg_of mt_150 dX6_move_32 rfl) (v2 := (-1 : Int32)) (by decide)).trans <|
  (r_ri (pg_of mt_150 dX6_move_33 rfl) mt_150 rfl)
-- 151 LeafFallsModel.pluck(I)I
theorem b151_0 (l1 : Int32) : rn xs L 151 0 [vR 44, vI l1] [] (mw f a g) = (ev xs L 140 2 [vR 44, vI l1] (mw f a g)).bind (fun b => rn xs L 151 5 [vR 44, vI l1] (b.1.toList ++ []) b.2) :=
  (r_ald (pg_of mt_151 dX6_pluck_0 rfl) rfl).trans <|
  (r_ild (pg_of mt_151 dX6_pluck_1 rfl) rfl).trans <|
  (r_call (t := tt_151) (t2 := tt_140) (pg_of mt_151 dX6_pluck_2 rfl) mt_151 mt_140 rfl rfl (rcv1 rfl) rfl rfl)
theorem b151_5 (l1 : Int32) (s0 : Int32) : rn xs L 151 5 [vR 44, vI l1] [vI s0] (mw f a g) = if s0 = 0 then rn xs L 151 8 [vR 44, vI l1] [] (mw f a g) else rn xs L 151 10 [vR 44, vI l1] [] (mw f a g) :=
  (r_ne0 (pg_of mt_151 dX6_pluck_5 rfl))
theorem b151_8 (l1 : Int32) : rn xs L 151 8 [vR 44, vI l1] [] (mw f a g) = some (some (vI (-1 : Int32)), (mw f a g)) :=
  (r_con (pg_of mt_151 dX6_pluck_8 rfl) (v2 := (-1 : Int32)) (by decide)).trans <|
  (r_ri (pg_of mt_151 dX6_pluck_9 rfl) mt_151 rfl)
theorem b151_10 (l1 : Int32) : rn xs L 151 10 [vR 44, vI l1] [] (mw f a g) = (ev xs L 142 3 [vR 44, vI l1, vI (4 : Int32)] (mw f a g)).bind (fun b => rn xs L 151 16 [vR 44, vI l1] (b.1.toList ++ []) b.2) :=
  (r_ald (pg_of mt_151 dX6_pluck_10 rfl) rfl).trans <|
  (r_ild (pg_of mt_151 dX6_pluck_11 rfl) rfl).trans <|
  (r_con (pg_of mt_151 dX6_pluck_12 rfl) (v2 := (4 : Int32)) (by decide)).trans <|
  (r_call (t := tt_151) (t2 := tt_142) (pg_of mt_151 dX6_pluck_13 rfl) mt_151 mt_142 rfl rfl (rcv1 rfl) rfl rfl)
theorem b151_16 (l1 : Int32) (s0 : Int32) : rn xs L 151 16 [vR 44, vI l1] [vI s0] (mw f a g) = if s0 = 0 then rn xs L 151 19 [vR 44, vI l1] [] (mw f a g) else rn xs L 151 22 [vR 44, vI l1] [] (mw f a g) :=
  (r_ne0 (pg_of mt_151 dX6_pluck_16 rfl))
theorem b151_19 (l1 : Int32) : rn xs L 151 19 [vR 44, vI l1] [] (mw f a g) = some (some (vI (-3 : Int32)), (mw f a g)) :=
  (r_con (pg_of mt_151 dX6_pluck_19 rfl) (v2 := (-3 : Int32)) (by decide)).trans <|
  (r_ri (pg_of mt_151 dX6_pluck_21 rfl) mt_151 rfl)
theorem b151_22 (l1 : Int32) : rn xs L 151 22 [vR 44, vI l1] [] (mw f a g) = (ev xs L 152 2 [vR 44, vI l1] (mw f a g)).bind (fun b => rn xs L 151 27 [vR 44, vI l1] (b.1.toList ++ []) b.2) :=
  (r_ald (pg_of mt_151 dX6_pluck_22 rfl) rfl).trans <|
  (r_ild (pg_of mt_151 dX6_pluck_23 rfl) rfl).trans <|
  (r_call (t := tt_151) (t2 := tt_152) (pg_of mt_151 dX6_pluck_24 rfl) mt_151 mt_152 rfl rfl (rcv1 rfl) rfl rfl)
theorem b151_27 (l1 : Int32) : rn xs L 151 27 [vR 44, vI l1] [] (mw f a g) = (ev xs L 153 3 [vR 44] (mw f a g)).bind (fun b => rn xs L 151 31 [vR 44, vI l1] (b.1.toList ++ []) b.2) :=
  (r_ald (pg_of mt_151 dX6_pluck_27 rfl) rfl).trans <|
  (r_call (t := tt_151) (t2 := tt_153) (pg_of mt_151 dX6_pluck_28 rfl) mt_151 mt_153 rfl rfl (rcv1 rfl) rfl rfl)
theorem b151_31 (l1 : Int32) (s0 : Int32) : rn xs L 151 31 [vR 44, vI l1] [vI s0] (mw f a g) = (ev xs L 144 3 [vI s0] (mw f a g)).bind (fun b => rn xs L 151 34 [vR 44, vI l1] (b.1.toList ++ []) b.2) :=
  (r_call (t := tt_151) (t2 := tt_144) (pg_of mt_151 dX6_pluck_31 rfl) mt_151 mt_144 rfl rfl rfl rfl rfl)
theorem b151_34 (l1 : Int32) (s0 : Int32) : rn xs L 151 34 [vR 44, vI l1] [vI s0] (mw f a g) = some (some (vI s0), (mw f a g)) :=
  (r_ri (pg_of mt_151 dX6_pluck_34 rfl) mt_151 rfl)
-- 152 LeafFallsModel.falls0(I)V
theorem b152_0 (l1 : Int32) (h1 : ma_in ((((14 : Int32) + ((6 : Int32) * l1)) + (4 : Int32))) 62 = true) (h2 : ma_in ((((14 : Int32) + ((6 : Int32) * l1)) + (5 : Int32))) 62 = true) : rn xs L 152 0 [vR 44, vI l1] [] (mw f a g) = some (none, (mw f ((ma_u2 ((ma_u2 ((ma_u2 a 45 3 (((a 45 3) + (1 : Int32))))) 45 ((((14 : Int32) + ((6 : Int32) * l1)) + (4 : Int32))).toNatClampNeg ((0 : Int32)))) 45 ((((14 : Int32) + ((6 : Int32) * l1)) + (5 : Int32))).toNatClampNeg ((((ma_u2 ((ma_u2 a 45 3 (((a 45 3) + (1 : Int32))))) 45 ((((14 : Int32) + ((6 : Int32) * l1)) + (4 : Int32))).toNatClampNeg ((0 : Int32)))) 45 3)))) g)) :=
  (r_ald (pg_of mt_152 dX6_falls0_0 rfl) rfl).trans <|
  (r_gtr (a := 45) (pg_of mt_152 dX6_falls0_1 rfl) rfl rfl).trans <|
  (r_con (pg_of mt_152 dX6_falls0_4 rfl) (v2 := (3 : Int32)) (by decide)).trans <|
  (r_du2 (pg_of mt_152 dX6_falls0_5 rfl) rfl).trans <|
  (r_ialc (j := 3) (pg_of mt_152 dX6_falls0_6 rfl) rfl (by decide) (by decide)).trans <|
  (r_con (pg_of mt_152 dX6_falls0_7 rfl) (v2 := (1 : Int32)) (by decide)).trans <|
  (r_bin (pg_of mt_152 dX6_falls0_8 rfl)).trans <|
  (r_iasc (j := 3) (pg_of mt_152 dX6_falls0_9 rfl) rfl (by decide) (by decide)).trans <|
  (r_ald (pg_of mt_152 dX6_falls0_10 rfl) rfl).trans <|
  (r_gtr (a := 45) (pg_of mt_152 dX6_falls0_11 rfl) rfl rfl).trans <|
  (r_con (pg_of mt_152 dX6_falls0_14 rfl) (v2 := (14 : Int32)) (by decide)).trans <|
  (r_con (pg_of mt_152 dX6_falls0_16 rfl) (v2 := (6 : Int32)) (by decide)).trans <|
  (r_ild (pg_of mt_152 dX6_falls0_18 rfl) rfl).trans <|
  (r_bin (pg_of mt_152 dX6_falls0_19 rfl)).trans <|
  (r_bin (pg_of mt_152 dX6_falls0_20 rfl)).trans <|
  (r_con (pg_of mt_152 dX6_falls0_21 rfl) (v2 := (4 : Int32)) (by decide)).trans <|
  (r_bin (pg_of mt_152 dX6_falls0_22 rfl)).trans <|
  (r_con (pg_of mt_152 dX6_falls0_23 rfl) (v2 := (0 : Int32)) (by decide)).trans <|
  (r_iast (pg_of mt_152 dX6_falls0_24 rfl) rfl h1).trans <|
  (r_ald (pg_of mt_152 dX6_falls0_25 rfl) rfl).trans <|
  (r_gtr (a := 45) (pg_of mt_152 dX6_falls0_26 rfl) rfl rfl).trans <|
  (r_con (pg_of mt_152 dX6_falls0_29 rfl) (v2 := (14 : Int32)) (by decide)).trans <|
  (r_con (pg_of mt_152 dX6_falls0_31 rfl) (v2 := (6 : Int32)) (by decide)).trans <|
  (r_ild (pg_of mt_152 dX6_falls0_33 rfl) rfl).trans <|
  (r_bin (pg_of mt_152 dX6_falls0_34 rfl)).trans <|
  (r_bin (pg_of mt_152 dX6_falls0_35 rfl)).trans <|
  (r_con (pg_of mt_152 dX6_falls0_36 rfl) (v2 := (5 : Int32)) (by decide)).trans <|
  (r_bin (pg_of mt_152 dX6_falls0_37 rfl)).trans <|
  (r_ald (pg_of mt_152 dX6_falls0_38 rfl) rfl).trans <|
  (r_gtr (a := 45) (pg_of mt_152 dX6_falls0_39 rfl) rfl rfl).trans <|
  (r_con (pg_of mt_152 dX6_falls0_42 rfl) (v2 := (3 : Int32)) (by decide)).trans <|
  (r_ialc (j := 3) (pg_of mt_152 dX6_falls0_43 rfl) rfl (by decide) (by decide)).trans <|
  (r_iast (pg_of mt_152 dX6_falls0_44 rfl) rfl h2).trans <|
  (r_rv (pg_of mt_152 dX6_falls0_45 rfl) mt_152 rfl)
-- 153 LeafFallsModel.hanging()I
theorem b153_0 (l1 : ma_V) (l2 : ma_V) : rn xs L 153 0 [vR 44, l1, l2] [] (mw f a g) = rn xs L 153 4 [vR 44, vI (0 : Int32), vI (0 : Int32)] [] (mw f a g) :=
  (r_con (pg_of mt_153 dX6_hanging_0 rfl) (v2 := (0 : Int32)) (by decide)).trans <|
  (r_ist (pg_of mt_153 dX6_hanging_1 rfl) (Nat.le_of_ble_eq_true rfl) rfl).trans <|
  (r_con (pg_of mt_153 dX6_hanging_2 rfl) (v2 := (0 : Int32)) (by decide)).trans <|
  (r_ist (pg_of mt_153 dX6_hanging_3 rfl) (Nat.le_of_ble_eq_true rfl) rfl)
theorem b153_4 (l1 : Int32) (l2 : Int32) : rn xs L 153 4 [vR 44, vI l1, vI l2] [] (mw f a g) = if l2 < (a 45 0) then rn xs L 153 14 [vR 44, vI l1, vI l2] [] (mw f a g) else rn xs L 153 31 [vR 44, vI l1, vI l2] [] (mw f a g) :=
  (r_ild (pg_of mt_153 dX6_hanging_4 rfl) rfl).trans <|
  (r_ald (pg_of mt_153 dX6_hanging_5 rfl) rfl).trans <|
  (r_gtr (a := 45) (pg_of mt_153 dX6_hanging_6 rfl) rfl rfl).trans <|
  (r_con (pg_of mt_153 dX6_hanging_9 rfl) (v2 := (0 : Int32)) (by decide)).trans <|
  (r_ialc (j := 0) (pg_of mt_153 dX6_hanging_10 rfl) rfl (by decide) (by decide)).trans <|
  (r_ge (pg_of mt_153 dX6_hanging_11 rfl))
theorem b153_14 (l1 : Int32) (l2 : Int32) : rn xs L 153 14 [vR 44, vI l1, vI l2] [] (mw f a g) = (ev xs L 142 3 [vR 44, vI l2, vI (4 : Int32)] (mw f a g)).bind (fun b => rn xs L 153 21 [vR 44, vI l1, vI l2] (b.1.toList ++ [vI l1]) b.2) :=
  (r_ild (pg_of mt_153 dX6_hanging_14 rfl) rfl).trans <|
  (r_ald (pg_of mt_153 dX6_hanging_15 rfl) rfl).trans <|
  (r_ild (pg_of mt_153 dX6_hanging_16 rfl) rfl).trans <|
  (r_con (pg_of mt_153 dX6_hanging_17 rfl) (v2 := (4 : Int32)) (by decide)).trans <|
  (r_call (t := tt_153) (t2 := tt_142) (pg_of mt_153 dX6_hanging_18 rfl) mt_153 mt_142 rfl rfl (rcv1 rfl) rfl rfl)
theorem b153_21 (l1 : Int32) (l2 : Int32) (s0 : Int32) (s1 : Int32) : rn xs L 153 21 [vR 44, vI l1, vI l2] [vI s0, vI s1] (mw f a g) = rn xs L 153 4 [vR 44, vI (s1 ||| (s0 <<< (l2 &&& 31))), vI (l2 + (1 : Int32))] [] (mw f a g) :=
  (r_ild (pg_of mt_153 dX6_hanging_21 rfl) rfl).trans <|
  (r_bin (pg_of mt_153 dX6_hanging_22 rfl)).trans <|
  (r_bin (pg_of mt_153 dX6_hanging_23 rfl)).trans <|
  (r_ist (pg_of mt_153 dX6_hanging_24 rfl) (Nat.le_of_ble_eq_true rfl) rfl).trans <|
  (r_inc (pg_of mt_153 dX6_hanging_25 rfl) (y := (1 : Int32)) (by decide) rfl rfl).trans <|
  (r_gto (pg_of mt_153 dX6_hanging_28 rfl))
theorem b153_31 (l1 : Int32) (l2 : Int32) : rn xs L 153 31 [vR 44, vI l1, vI l2] [] (mw f a g) = some (some (vI l1), (mw f a g)) :=
  (r_ild (pg_of mt_153 dX6_hanging_31 rfl) rfl).trans <|
  (r_ri (pg_of mt_153 dX6_hanging_32 rfl) mt_153 rfl)
-- 154 LeafFallsModel.bough(II)I
theorem b154_0 (l1 : Int32) (l2 : Int32) : rn xs L 154 0 [vR 44, vI l1, vI l2] [] (mw f a g) = (ev xs L 138 1 [vI l1] (mw f a g)).bind (fun b => rn xs L 154 4 [vR 44, vI l1, vI l2] (b.1.toList ++ []) b.2) :=
  (r_ild (pg_of mt_154 dX6_bough_0 rfl) rfl).trans <|
  (r_call (t := tt_154) (t2 := tt_138) (pg_of mt_154 dX6_bough_1 rfl) mt_154 mt_138 rfl rfl rfl rfl rfl)
theorem b154_4 (l1 : Int32) (l2 : Int32) (s0 : Int32) : rn xs L 154 4 [vR 44, vI l1, vI l2] [vI s0] (mw f a g) = if s0 = 0 then rn xs L 154 17 [vR 44, vI l1, vI l2] [] (mw f a g) else rn xs L 154 7 [vR 44, vI l1, vI l2] [] (mw f a g) :=
  (r_eq0 (pg_of mt_154 dX6_bough_4 rfl))
theorem b154_7 (l1 : Int32) (l2 : Int32) : rn xs L 154 7 [vR 44, vI l1, vI l2] [] (mw f a g) = (ev xs L 115 6 [vL (l2).toInt64, vL (0 : Int64), vL (1 : Int64)] (mw f a g)).bind (fun b => rn xs L 154 14 [vR 44, vI l1, vI l2] (b.1.toList ++ []) b.2) :=
  (r_ild (pg_of mt_154 dX6_bough_7 rfl) rfl).trans <|
  (r_i2l (pg_of mt_154 dX6_bough_8 rfl)).trans <|
  (r_lcn (pg_of mt_154 dX6_bough_9 rfl) (v2 := (0 : Int64)) (by decide)).trans <|
  (r_lcn (pg_of mt_154 dX6_bough_10 rfl) (v2 := (1 : Int64)) (by decide)).trans <|
  (r_call (t := tt_154) (t2 := tt_115) (pg_of mt_154 dX6_bough_11 rfl) mt_154 mt_115 rfl rfl rfl rfl rfl)
theorem b154_14 (l1 : Int32) (l2 : Int32) (s0 : Int32) : rn xs L 154 14 [vR 44, vI l1, vI l2] [vI s0] (mw f a g) = if s0 = 0 then rn xs L 154 17 [vR 44, vI l1, vI l2] [] (mw f a g) else rn xs L 154 19 [vR 44, vI l1, vI l2] [] (mw f a g) :=
  (r_ne0 (pg_of mt_154 dX6_bough_14 rfl))
theorem b154_17 (l1 : Int32) (l2 : Int32) : rn xs L 154 17 [vR 44, vI l1, vI l2] [] (mw f a g) = some (some (vI (-1 : Int32)), (mw f a g)) :=
  (r_con (pg_of mt_154 dX6_bough_17 rfl) (v2 := (-1 : Int32)) (by decide)).trans <|
  (r_ri (pg_of mt_154 dX6_bough_18 rfl) mt_154 rfl)
theorem b154_19 (l1 : Int32) (l2 : Int32) : rn xs L 154 19 [vR 44, vI l1, vI l2] [] (mw f a g) = if l2 = 0 then rn xs L 154 23 [vR 44, vI l1, vI l2] [] (mw f a g) else rn xs L 154 35 [vR 44, vI l1, vI l2] [] (mw f a g) :=
  (r_ild (pg_of mt_154 dX6_bough_19 rfl) rfl).trans <|
  (r_ne0 (pg_of mt_154 dX6_bough_20 rfl))
theorem b154_23 (l1 : Int32) (l2 : Int32) (h1 : ma_in (((8 : Int32) + l1)) 62 = true) : rn xs L 154 23 [vR 44, vI l1, vI l2] [] (mw f a g) = some (some (vI (a 45 (((8 : Int32) + l1)).toNatClampNeg)), (mw f a g)) :=
  (r_ald (pg_of mt_154 dX6_bough_23 rfl) rfl).trans <|
  (r_gtr (a := 45) (pg_of mt_154 dX6_bough_24 rfl) rfl rfl).trans <|
  (r_con (pg_of mt_154 dX6_bough_27 rfl) (v2 := (8 : Int32)) (by decide)).trans <|
  (r_ild (pg_of mt_154 dX6_bough_29 rfl) rfl).trans <|
  (r_bin (pg_of mt_154 dX6_bough_30 rfl)).trans <|
  (r_iald (pg_of mt_154 dX6_bough_31 rfl) rfl h1).trans <|
  (r_gto (pg_of mt_154 dX6_bough_32 rfl)).trans <|
  (r_ri (pg_of mt_154 dX6_bough_40 rfl) mt_154 rfl)
theorem b154_35 (l1 : Int32) (l2 : Int32) : rn xs L 154 35 [vR 44, vI l1, vI l2] [] (mw f a g) = (ev xs L 143 4 [vR 44, vI l1] (mw f a g)).bind (fun b => rn xs L 154 40 [vR 44, vI l1, vI l2] (b.1.toList ++ []) b.2) :=
  (r_ald (pg_of mt_154 dX6_bough_35 rfl) rfl).trans <|
  (r_ild (pg_of mt_154 dX6_bough_36 rfl) rfl).trans <|
  (r_call (t := tt_154) (t2 := tt_143) (pg_of mt_154 dX6_bough_37 rfl) mt_154 mt_143 rfl rfl (rcv1 rfl) rfl rfl)
theorem b154_40 (l1 : Int32) (l2 : Int32) (s0 : Int32) : rn xs L 154 40 [vR 44, vI l1, vI l2] [vI s0] (mw f a g) = some (some (vI s0), (mw f a g)) :=
  (r_ri (pg_of mt_154 dX6_bough_40 rfl) mt_154 rfl)
-- 155 LeafFallsModel.sway(II)I
theorem b155_0 (l1 : Int32) (l2 : Int32) : rn xs L 155 0 [vR 44, vI l1, vI l2] [] (mw f a g) = (ev xs L 138 1 [vI l1] (mw f a g)).bind (fun b => rn xs L 155 4 [vR 44, vI l1, vI l2] (b.1.toList ++ []) b.2) :=
  (r_ild (pg_of mt_155 dX6_sway_0 rfl) rfl).trans <|
  (r_call (t := tt_155) (t2 := tt_138) (pg_of mt_155 dX6_sway_1 rfl) mt_155 mt_138 rfl rfl rfl rfl rfl)
theorem b155_4 (l1 : Int32) (l2 : Int32) (s0 : Int32) : rn xs L 155 4 [vR 44, vI l1, vI l2] [vI s0] (mw f a g) = if s0 = 0 then rn xs L 155 31 [vR 44, vI l1, vI l2] [] (mw f a g) else rn xs L 155 7 [vR 44, vI l1, vI l2] [] (mw f a g) :=
  (r_eq0 (pg_of mt_155 dX6_sway_4 rfl))
theorem b155_7 (l1 : Int32) (l2 : Int32) : rn xs L 155 7 [vR 44, vI l1, vI l2] [] (mw f a g) = (ev xs L 115 6 [vL (l2).toInt64, vL (0 : Int64), vL (9 : Int64)] (mw f a g)).bind (fun b => rn xs L 155 16 [vR 44, vI l1, vI l2] (b.1.toList ++ []) b.2) :=
  (r_ild (pg_of mt_155 dX6_sway_7 rfl) rfl).trans <|
  (r_i2l (pg_of mt_155 dX6_sway_8 rfl)).trans <|
  (r_lcn (pg_of mt_155 dX6_sway_9 rfl) (v2 := (0 : Int64)) (by decide)).trans <|
  (r_lcn (pg_of mt_155 dX6_sway_10 rfl) (v2 := (9 : Int64)) rfl).trans <|
  (r_call (t := tt_155) (t2 := tt_115) (pg_of mt_155 dX6_sway_13 rfl) mt_155 mt_115 rfl rfl rfl rfl rfl)
theorem b155_16 (l1 : Int32) (l2 : Int32) (s0 : Int32) : rn xs L 155 16 [vR 44, vI l1, vI l2] [vI s0] (mw f a g) = if s0 = 0 then rn xs L 155 31 [vR 44, vI l1, vI l2] [] (mw f a g) else rn xs L 155 19 [vR 44, vI l1, vI l2] [] (mw f a g) :=
  (r_eq0 (pg_of mt_155 dX6_sway_16 rfl))
theorem b155_19 (l1 : Int32) (l2 : Int32) : rn xs L 155 19 [vR 44, vI l1, vI l2] [] (mw f a g) = (ev xs L 135 4 [vR 44, vI ((8 : Int32) + l1), vI l2] (mw f a g)).bind (fun b => rn xs L 155 28 [vR 44, vI l1, vI l2] (b.1.toList ++ []) b.2) :=
  (r_ald (pg_of mt_155 dX6_sway_19 rfl) rfl).trans <|
  (r_con (pg_of mt_155 dX6_sway_20 rfl) (v2 := (8 : Int32)) (by decide)).trans <|
  (r_ild (pg_of mt_155 dX6_sway_22 rfl) rfl).trans <|
  (r_bin (pg_of mt_155 dX6_sway_23 rfl)).trans <|
  (r_ild (pg_of mt_155 dX6_sway_24 rfl) rfl).trans <|
  (r_call (t := tt_155) (t2 := tt_135) (pg_of mt_155 dX6_sway_25 rfl) mt_155 mt_135 rfl rfl (rcv1 rfl) rfl rfl)
theorem b155_28 (l1 : Int32) (l2 : Int32) (s0 : Int32) : rn xs L 155 28 [vR 44, vI l1, vI l2] [vI s0] (mw f a g) = some (some (vI s0), (mw f a g)) :=
  (r_gto (pg_of mt_155 dX6_sway_28 rfl)).trans <|
  (r_ri (pg_of mt_155 dX6_sway_32 rfl) mt_155 rfl)
theorem b155_31 (l1 : Int32) (l2 : Int32) : rn xs L 155 31 [vR 44, vI l1, vI l2] [] (mw f a g) = some (some (vI (-1 : Int32)), (mw f a g)) :=
  (r_con (pg_of mt_155 dX6_sway_31 rfl) (v2 := (-1 : Int32)) (by decide)).trans <|
  (r_ri (pg_of mt_155 dX6_sway_32 rfl) mt_155 rfl)
-- 156 LeafFallsModel.days(I)I
theorem b156_0 (l1 : Int32) (l2 : ma_V) (l3 : ma_V) : rn xs L 156 0 [vR 44, vI l1, l2, l3] [] (mw f a g) = (ev xs L 115 6 [vL (l1).toInt64, vL (1 : Int64), vL (60 : Int64)] (mw f a g)).bind (fun b => rn xs L 156 9 [vR 44, vI l1, l2, l3] (b.1.toList ++ []) b.2) :=
  (r_ild (pg_of mt_156 dX6_days_0 rfl) rfl).trans <|
  (r_i2l (pg_of mt_156 dX6_days_1 rfl)).trans <|
  (r_lcn (pg_of mt_156 dX6_days_2 rfl) (v2 := (1 : Int64)) (by decide)).trans <|
  (r_lcn (pg_of mt_156 dX6_days_3 rfl) (v2 := (60 : Int64)) rfl).trans <|
  (r_call (t := tt_156) (t2 := tt_115) (pg_of mt_156 dX6_days_6 rfl) mt_156 mt_115 rfl rfl rfl rfl rfl)
theorem b156_9 (l1 : Int32) (l2 : ma_V) (l3 : ma_V) (s0 : Int32) : rn xs L 156 9 [vR 44, vI l1, l2, l3] [vI s0] (mw f a g) = if s0 = 0 then rn xs L 156 12 [vR 44, vI l1, l2, l3] [] (mw f a g) else rn xs L 156 14 [vR 44, vI l1, l2, l3] [] (mw f a g) :=
  (r_ne0 (pg_of mt_156 dX6_days_9 rfl))
theorem b156_12 (l1 : Int32) (l2 : ma_V) (l3 : ma_V) : rn xs L 156 12 [vR 44, vI l1, l2, l3] [] (mw f a g) = some (some (vI (-1 : Int32)), (mw f a g)) :=
  (r_con (pg_of mt_156 dX6_days_12 rfl) (v2 := (-1 : Int32)) (by decide)).trans <|
  (r_ri (pg_of mt_156 dX6_days_13 rfl) mt_156 rfl)
theorem b156_14 (l1 : Int32) (l2 : ma_V) (l3 : ma_V) : rn xs L 156 14 [vR 44, vI l1, l2, l3] [] (mw f a g) = rn xs L 156 16 [vR 44, vI l1, vI (0 : Int32), l3] [] (mw f a g) :=
  (r_con (pg_of mt_156 dX6_days_14 rfl) (v2 := (0 : Int32)) (by decide)).trans <|
  (r_ist (pg_of mt_156 dX6_days_15 rfl) (Nat.le_of_ble_eq_true rfl) rfl)
theorem b156_16 (l1 : Int32) (l2 : Int32) (l3 : ma_V) : rn xs L 156 16 [vR 44, vI l1, vI l2, l3] [] (mw f a g) = if l2 < l1 then rn xs L 156 21 [vR 44, vI l1, vI l2, l3] [] (mw f a g) else rn xs L 156 33 [vR 44, vI l1, vI l2, l3] [] (mw f a g) :=
  (r_ild (pg_of mt_156 dX6_days_16 rfl) rfl).trans <|
  (r_ild (pg_of mt_156 dX6_days_17 rfl) rfl).trans <|
  (r_ge (pg_of mt_156 dX6_days_18 rfl))
theorem b156_21 (l1 : Int32) (l2 : Int32) (l3 : ma_V) : rn xs L 156 21 [vR 44, vI l1, vI l2, l3] [] (mw f a g) = (ev xs L 157 5 [vR 44, vI (0 : Int32)] (mw f a g)).bind (fun b => rn xs L 156 26 [vR 44, vI l1, vI l2, l3] (b.1.toList ++ []) b.2) :=
  (r_ald (pg_of mt_156 dX6_days_21 rfl) rfl).trans <|
  (r_con (pg_of mt_156 dX6_days_22 rfl) (v2 := (0 : Int32)) (by decide)).trans <|
  (r_call (t := tt_156) (t2 := tt_157) (pg_of mt_156 dX6_days_23 rfl) mt_156 mt_157 rfl rfl (rcv1 rfl) rfl rfl)
theorem b156_26 (l1 : Int32) (l2 : Int32) (l3 : ma_V) (s0 : Int32) : rn xs L 156 26 [vR 44, vI l1, vI l2, l3] [vI s0] (mw f a g) = rn xs L 156 16 [vR 44, vI l1, vI (l2 + (1 : Int32)), vI s0] [] (mw f a g) :=
  (r_ist (pg_of mt_156 dX6_days_26 rfl) (Nat.le_of_ble_eq_true rfl) rfl).trans <|
  (r_inc (pg_of mt_156 dX6_days_27 rfl) (y := (1 : Int32)) (by decide) rfl rfl).trans <|
  (r_gto (pg_of mt_156 dX6_days_30 rfl))
theorem b156_33 (l1 : Int32) (l2 : Int32) (l3 : ma_V) : rn xs L 156 33 [vR 44, vI l1, vI l2, l3] [] (mw f a g) = (ev xs L 153 3 [vR 44] (mw f a g)).bind (fun b => rn xs L 156 37 [vR 44, vI l1, vI l2, l3] (b.1.toList ++ []) b.2) :=
  (r_ald (pg_of mt_156 dX6_days_33 rfl) rfl).trans <|
  (r_call (t := tt_156) (t2 := tt_153) (pg_of mt_156 dX6_days_34 rfl) mt_156 mt_153 rfl rfl (rcv1 rfl) rfl rfl)
theorem b156_37 (l1 : Int32) (l2 : Int32) (l3 : ma_V) (s0 : Int32) : rn xs L 156 37 [vR 44, vI l1, vI l2, l3] [vI s0] (mw f a g) = (ev xs L 144 3 [vI s0] (mw f a g)).bind (fun b => rn xs L 156 40 [vR 44, vI l1, vI l2, l3] (b.1.toList ++ []) b.2) :=
  (r_call (t := tt_156) (t2 := tt_144) (pg_of mt_156 dX6_days_37 rfl) mt_156 mt_144 rfl rfl rfl rfl rfl)
theorem b156_40 (l1 : Int32) (l2 : Int32) (l3 : ma_V) (s0 : Int32) : rn xs L 156 40 [vR 44, vI l1, vI l2, l3] [vI s0] (mw f a g) = some (some (vI s0), (mw f a g)) :=
  (r_ri (pg_of mt_156 dX6_days_40 rfl) mt_156 rfl)
-- 157 LeafFallsModel.goesBy(I)I
theorem b157_0 (l1 : Int32) (l2 : ma_V) (l3 : ma_V) (l4 : ma_V) : rn xs L 157 0 [vR 44, vI l1, l2, l3, l4] [] (mw f a g) = rn xs L 157 2 [vR 44, vI l1, vI (0 : Int32), l3, l4] [] (mw f a g) :=
  (r_con (pg_of mt_157 dX6_goesBy_0 rfl) (v2 := (0 : Int32)) (by decide)).trans <|
  (r_ist (pg_of mt_157 dX6_goesBy_1 rfl) (Nat.le_of_ble_eq_true rfl) rfl)
theorem b157_2 (l1 : Int32) (l2 : Int32) (l3 : ma_V) (l4 : ma_V) : rn xs L 157 2 [vR 44, vI l1, vI l2, l3, l4] [] (mw f a g) = if l2 < (a 45 0) then rn xs L 157 12 [vR 44, vI l1, vI l2, l3, l4] [] (mw f a g) else rn xs L 157 51 [vR 44, vI l1, vI l2, l3, l4] [] (mw f a g) :=
  (r_ild (pg_of mt_157 dX6_goesBy_2 rfl) rfl).trans <|
  (r_ald (pg_of mt_157 dX6_goesBy_3 rfl) rfl).trans <|
  (r_gtr (a := 45) (pg_of mt_157 dX6_goesBy_4 rfl) rfl rfl).trans <|
  (r_con (pg_of mt_157 dX6_goesBy_7 rfl) (v2 := (0 : Int32)) (by decide)).trans <|
  (r_ialc (j := 0) (pg_of mt_157 dX6_goesBy_8 rfl) rfl (by decide) (by decide)).trans <|
  (r_ge (pg_of mt_157 dX6_goesBy_9 rfl))
theorem b157_12 (l1 : Int32) (l2 : Int32) (l3 : ma_V) (l4 : ma_V) : rn xs L 157 12 [vR 44, vI l1, vI l2, l3, l4] [] (mw f a g) = if ((l1 >>> (l2 &&& 31)) &&& (1 : Int32)) = (1 : Int32) then rn xs L 157 35 [vR 44, vI l1, vI l2, l3, l4] [vI l2, vR 50] (mw f a g) else rn xs L 157 26 [vR 44, vI l1, vI l2, l3, l4] [vI l2, vR 50] (mw f a g) :=
  (r_ald (pg_of mt_157 dX6_goesBy_12 rfl) rfl).trans <|
  (r_gtr (a := 50) (pg_of mt_157 dX6_goesBy_13 rfl) rfl rfl).trans <|
  (r_ild (pg_of mt_157 dX6_goesBy_16 rfl) rfl).trans <|
  (r_ild (pg_of mt_157 dX6_goesBy_17 rfl) rfl).trans <|
  (r_ild (pg_of mt_157 dX6_goesBy_18 rfl) rfl).trans <|
  (r_bin (pg_of mt_157 dX6_goesBy_19 rfl)).trans <|
  (r_con (pg_of mt_157 dX6_goesBy_20 rfl) (v2 := (1 : Int32)) (by decide)).trans <|
  (r_bin (pg_of mt_157 dX6_goesBy_21 rfl)).trans <|
  (r_con (pg_of mt_157 dX6_goesBy_22 rfl) (v2 := (1 : Int32)) (by decide)).trans <|
  (r_eq (pg_of mt_157 dX6_goesBy_23 rfl))
theorem b157_26 (l1 : Int32) (l2 : Int32) (l3 : ma_V) (l4 : ma_V) (s0 : Int32) : rn xs L 157 26 [vR 44, vI l1, vI l2, l3, l4] [vI s0, vR 50] (mw f a g) = (ev xs L 142 3 [vR 44, vI l2, vI (4 : Int32)] (mw f a g)).bind (fun b => rn xs L 157 32 [vR 44, vI l1, vI l2, l3, l4] (b.1.toList ++ [vI s0, vR 50]) b.2) :=
  (r_ald (pg_of mt_157 dX6_goesBy_26 rfl) rfl).trans <|
  (r_ild (pg_of mt_157 dX6_goesBy_27 rfl) rfl).trans <|
  (r_con (pg_of mt_157 dX6_goesBy_28 rfl) (v2 := (4 : Int32)) (by decide)).trans <|
  (r_call (t := tt_157) (t2 := tt_142) (pg_of mt_157 dX6_goesBy_29 rfl) mt_157 mt_142 rfl rfl (rcv1 rfl) rfl rfl)
theorem b157_32 (l1 : Int32) (l2 : Int32) (l3 : ma_V) (l4 : ma_V) (s0 : Int32) (s1 : Int32) : rn xs L 157 32 [vR 44, vI l1, vI l2, l3, l4] [vI s0, vI s1, vR 50] (mw f a g) = if s0 = 0 then rn xs L 157 35 [vR 44, vI l1, vI l2, l3, l4] [vI s1, vR 50] (mw f a g) else rn xs L 157 39 [vR 44, vI l1, vI l2, l3, l4] [vI s1, vR 50] (mw f a g) :=
  (r_ne0 (pg_of mt_157 dX6_goesBy_32 rfl))
theorem b157_35 (l1 : Int32) (l2 : Int32) (l3 : ma_V) (l4 : ma_V) (s0 : Int32) (h1 : ma_in s0 8 = true) : rn xs L 157 35 [vR 44, vI l1, vI l2, l3, l4] [vI s0, vR 50] (mw f a g) = rn xs L 157 2 [vR 44, vI l1, vI (l2 + (1 : Int32)), l3, l4] [] (mw f ((ma_u2 a 50 s0.toNatClampNeg ((0 : Int32)))) g) :=
  (r_con (pg_of mt_157 dX6_goesBy_35 rfl) (v2 := (0 : Int32)) (by decide)).trans <|
  (r_gto (pg_of mt_157 dX6_goesBy_36 rfl)).trans <|
  (r_iast (pg_of mt_157 dX6_goesBy_44 rfl) rfl h1).trans <|
  (r_inc (pg_of mt_157 dX6_goesBy_45 rfl) (y := (1 : Int32)) (by decide) rfl rfl).trans <|
  (r_gto (pg_of mt_157 dX6_goesBy_48 rfl))
theorem b157_39 (l1 : Int32) (l2 : Int32) (l3 : ma_V) (l4 : ma_V) (s0 : Int32) : rn xs L 157 39 [vR 44, vI l1, vI l2, l3, l4] [vI s0, vR 50] (mw f a g) = (ev xs L 146 3 [vR 44, vI l2] (mw f a g)).bind (fun b => rn xs L 157 44 [vR 44, vI l1, vI l2, l3, l4] (b.1.toList ++ [vI s0, vR 50]) b.2) :=
  (r_ald (pg_of mt_157 dX6_goesBy_39 rfl) rfl).trans <|
  (r_ild (pg_of mt_157 dX6_goesBy_40 rfl) rfl).trans <|
  (r_call (t := tt_157) (t2 := tt_146) (pg_of mt_157 dX6_goesBy_41 rfl) mt_157 mt_146 rfl rfl (rcv1 rfl) rfl rfl)
theorem b157_44 (l1 : Int32) (l2 : Int32) (l3 : ma_V) (l4 : ma_V) (s0 : Int32) (s1 : Int32) (h1 : ma_in s1 8 = true) : rn xs L 157 44 [vR 44, vI l1, vI l2, l3, l4] [vI s0, vI s1, vR 50] (mw f a g) = rn xs L 157 2 [vR 44, vI l1, vI (l2 + (1 : Int32)), l3, l4] [] (mw f ((ma_u2 a 50 s1.toNatClampNeg s0)) g) :=
  (r_iast (pg_of mt_157 dX6_goesBy_44 rfl) rfl h1).trans <|
  (r_inc (pg_of mt_157 dX6_goesBy_45 rfl) (y := (1 : Int32)) (by decide) rfl rfl).trans <|
  (r_gto (pg_of mt_157 dX6_goesBy_48 rfl))
theorem b157_51 (l1 : Int32) (l2 : Int32) (l3 : ma_V) (l4 : ma_V) : rn xs L 157 51 [vR 44, vI l1, vI l2, l3, l4] [] (mw f a g) = rn xs L 157 55 [vR 44, vI l1, vI (-1 : Int32), vI (0 : Int32), l4] [] (mw f a g) :=
  (r_con (pg_of mt_157 dX6_goesBy_51 rfl) (v2 := (-1 : Int32)) (by decide)).trans <|
  (r_ist (pg_of mt_157 dX6_goesBy_52 rfl) (Nat.le_of_ble_eq_true rfl) rfl).trans <|
  (r_con (pg_of mt_157 dX6_goesBy_53 rfl) (v2 := (0 : Int32)) (by decide)).trans <|
  (r_ist (pg_of mt_157 dX6_goesBy_54 rfl) (Nat.le_of_ble_eq_true rfl) rfl)
theorem b157_55 (l1 : Int32) (l2 : Int32) (l3 : Int32) (l4 : ma_V) : rn xs L 157 55 [vR 44, vI l1, vI l2, vI l3, l4] [] (mw f a g) = if l3 < (a 45 0) then rn xs L 157 65 [vR 44, vI l1, vI l2, vI l3, l4] [] (mw f a g) else rn xs L 157 163 [vR 44, vI l1, vI l2, vI l3, l4] [] (mw f a g) :=
  (r_ild (pg_of mt_157 dX6_goesBy_55 rfl) rfl).trans <|
  (r_ald (pg_of mt_157 dX6_goesBy_56 rfl) rfl).trans <|
  (r_gtr (a := 45) (pg_of mt_157 dX6_goesBy_57 rfl) rfl rfl).trans <|
  (r_con (pg_of mt_157 dX6_goesBy_60 rfl) (v2 := (0 : Int32)) (by decide)).trans <|
  (r_ialc (j := 0) (pg_of mt_157 dX6_goesBy_61 rfl) rfl (by decide) (by decide)).trans <|
  (r_ge (pg_of mt_157 dX6_goesBy_62 rfl))
theorem b157_65 (l1 : Int32) (l2 : Int32) (l3 : Int32) (l4 : ma_V) : rn xs L 157 65 [vR 44, vI l1, vI l2, vI l3, l4] [] (mw f a g) = (ev xs L 142 3 [vR 44, vI l3, vI (2 : Int32)] (mw f a g)).bind (fun b => rn xs L 157 84 [vR 44, vI l1, vI l2, vI l3, l4] (b.1.toList ++ [vI (((14 : Int32) + ((6 : Int32) * l3)) + (2 : Int32)), vR 45]) b.2) :=
  (r_ald (pg_of mt_157 dX6_goesBy_65 rfl) rfl).trans <|
  (r_gtr (a := 45) (pg_of mt_157 dX6_goesBy_66 rfl) rfl rfl).trans <|
  (r_con (pg_of mt_157 dX6_goesBy_69 rfl) (v2 := (14 : Int32)) (by decide)).trans <|
  (r_con (pg_of mt_157 dX6_goesBy_71 rfl) (v2 := (6 : Int32)) (by decide)).trans <|
  (r_ild (pg_of mt_157 dX6_goesBy_73 rfl) rfl).trans <|
  (r_bin (pg_of mt_157 dX6_goesBy_74 rfl)).trans <|
  (r_bin (pg_of mt_157 dX6_goesBy_75 rfl)).trans <|
  (r_con (pg_of mt_157 dX6_goesBy_76 rfl) (v2 := (2 : Int32)) (by decide)).trans <|
  (r_bin (pg_of mt_157 dX6_goesBy_77 rfl)).trans <|
  (r_ald (pg_of mt_157 dX6_goesBy_78 rfl) rfl).trans <|
  (r_ild (pg_of mt_157 dX6_goesBy_79 rfl) rfl).trans <|
  (r_con (pg_of mt_157 dX6_goesBy_80 rfl) (v2 := (2 : Int32)) (by decide)).trans <|
  (r_call (t := tt_157) (t2 := tt_142) (pg_of mt_157 dX6_goesBy_81 rfl) mt_157 mt_142 rfl rfl (rcv1 rfl) rfl rfl)
theorem b157_84 (l1 : Int32) (l2 : Int32) (l3 : Int32) (l4 : ma_V) (s0 : Int32) (s1 : Int32) (h1 : ma_in l3 8 = true) : rn xs L 157 84 [vR 44, vI l1, vI l2, vI l3, l4] [vI s0, vI s1, vR 45] (mw f a g) = (ev xs L 158 1 [vI (s0 - (a 50 l3.toNatClampNeg))] (mw f a g)).bind (fun b => rn xs L 157 94 [vR 44, vI l1, vI l2, vI l3, l4] (b.1.toList ++ [vI s1, vR 45]) b.2) :=
  (r_ald (pg_of mt_157 dX6_goesBy_84 rfl) rfl).trans <|
  (r_gtr (a := 50) (pg_of mt_157 dX6_goesBy_85 rfl) rfl rfl).trans <|
  (r_ild (pg_of mt_157 dX6_goesBy_88 rfl) rfl).trans <|
  (r_iald (pg_of mt_157 dX6_goesBy_89 rfl) rfl h1).trans <|
  (r_bin (pg_of mt_157 dX6_goesBy_90 rfl)).trans <|
  (r_call (t := tt_157) (t2 := tt_158) (pg_of mt_157 dX6_goesBy_91 rfl) mt_157 mt_158 rfl rfl rfl rfl rfl)
theorem b157_94 (l1 : Int32) (l2 : Int32) (l3 : Int32) (l4 : ma_V) (s0 : Int32) (s1 : Int32) (h1 : ma_in s1 62 = true) : rn xs L 157 94 [vR 44, vI l1, vI l2, vI l3, l4] [vI s0, vI s1, vR 45] (mw f a g) = (ev xs L 142 3 [vR 44, vI l3, vI (4 : Int32)] (mw f ((ma_u2 a 45 s1.toNatClampNeg s0)) g)).bind (fun b => rn xs L 157 101 [vR 44, vI l1, vI l2, vI l3, l4] (b.1.toList ++ []) b.2) :=
  (r_iast (pg_of mt_157 dX6_goesBy_94 rfl) rfl h1).trans <|
  (r_ald (pg_of mt_157 dX6_goesBy_95 rfl) rfl).trans <|
  (r_ild (pg_of mt_157 dX6_goesBy_96 rfl) rfl).trans <|
  (r_con (pg_of mt_157 dX6_goesBy_97 rfl) (v2 := (4 : Int32)) (by decide)).trans <|
  (r_call (t := tt_157) (t2 := tt_142) (pg_of mt_157 dX6_goesBy_98 rfl) mt_157 mt_142 rfl rfl (rcv1 rfl) rfl rfl)
theorem b157_101 (l1 : Int32) (l2 : Int32) (l3 : Int32) (l4 : ma_V) (s0 : Int32) : rn xs L 157 101 [vR 44, vI l1, vI l2, vI l3, l4] [vI s0] (mw f a g) = if s0 = (1 : Int32) then rn xs L 157 105 [vR 44, vI l1, vI l2, vI l3, l4] [] (mw f a g) else rn xs L 157 126 [vR 44, vI l1, vI l2, vI l3, l4] [] (mw f a g) :=
  (r_con (pg_of mt_157 dX6_goesBy_101 rfl) (v2 := (1 : Int32)) (by decide)).trans <|
  (r_ne (pg_of mt_157 dX6_goesBy_102 rfl))
theorem b157_105 (l1 : Int32) (l2 : Int32) (l3 : Int32) (l4 : ma_V) : rn xs L 157 105 [vR 44, vI l1, vI l2, vI l3, l4] [] (mw f a g) = (ev xs L 142 3 [vR 44, vI l3, vI (2 : Int32)] (mw f a g)).bind (fun b => rn xs L 157 111 [vR 44, vI l1, vI l2, vI l3, l4] (b.1.toList ++ []) b.2) :=
  (r_ald (pg_of mt_157 dX6_goesBy_105 rfl) rfl).trans <|
  (r_ild (pg_of mt_157 dX6_goesBy_106 rfl) rfl).trans <|
  (r_con (pg_of mt_157 dX6_goesBy_107 rfl) (v2 := (2 : Int32)) (by decide)).trans <|
  (r_call (t := tt_157) (t2 := tt_142) (pg_of mt_157 dX6_goesBy_108 rfl) mt_157 mt_142 rfl rfl (rcv1 rfl) rfl rfl)
theorem b157_111 (l1 : Int32) (l2 : Int32) (l3 : Int32) (l4 : ma_V) (s0 : Int32) : rn xs L 157 111 [vR 44, vI l1, vI l2, vI l3, l4] [vI s0] (mw f a g) = if s0 = 0 then rn xs L 157 114 [vR 44, vI l1, vI l2, vI l3, l4] [] (mw f a g) else rn xs L 157 126 [vR 44, vI l1, vI l2, vI l3, l4] [] (mw f a g) :=
  (r_ne0 (pg_of mt_157 dX6_goesBy_111 rfl))
theorem b157_114 (l1 : Int32) (l2 : Int32) (l3 : Int32) (l4 : ma_V) : rn xs L 157 114 [vR 44, vI l1, vI l2, vI l3, l4] [] (mw f a g) = if ((l1 >>> (l3 &&& 31)) &&& (1 : Int32)) = 0 then rn xs L 157 122 [vR 44, vI l1, vI l2, vI l3, l4] [] (mw f a g) else rn xs L 157 126 [vR 44, vI l1, vI l2, vI l3, l4] [] (mw f a g) :=
  (r_ild (pg_of mt_157 dX6_goesBy_114 rfl) rfl).trans <|
  (r_ild (pg_of mt_157 dX6_goesBy_115 rfl) rfl).trans <|
  (r_bin (pg_of mt_157 dX6_goesBy_116 rfl)).trans <|
  (r_con (pg_of mt_157 dX6_goesBy_117 rfl) (v2 := (1 : Int32)) (by decide)).trans <|
  (r_bin (pg_of mt_157 dX6_goesBy_118 rfl)).trans <|
  (r_ne0 (pg_of mt_157 dX6_goesBy_119 rfl))
theorem b157_122 (l1 : Int32) (l2 : Int32) (l3 : Int32) (l4 : ma_V) : rn xs L 157 122 [vR 44, vI l1, vI l2, vI l3, l4] [] (mw f a g) = if (1 : Int32) = 0 then rn xs L 157 155 [vR 44, vI l1, vI l2, vI l3, vI (1 : Int32)] [] (mw f a g) else rn xs L 157 134 [vR 44, vI l1, vI l2, vI l3, vI (1 : Int32)] [] (mw f a g) :=
  (r_con (pg_of mt_157 dX6_goesBy_122 rfl) (v2 := (1 : Int32)) (by decide)).trans <|
  (r_gto (pg_of mt_157 dX6_goesBy_123 rfl)).trans <|
  (r_ist (pg_of mt_157 dX6_goesBy_127 rfl) (Nat.le_of_ble_eq_true rfl) rfl).trans <|
  (r_ild (pg_of mt_157 dX6_goesBy_129 rfl) rfl).trans <|
  (r_eq0 (pg_of mt_157 dX6_goesBy_131 rfl))
theorem b157_126 (l1 : Int32) (l2 : Int32) (l3 : Int32) (l4 : ma_V) : rn xs L 157 126 [vR 44, vI l1, vI l2, vI l3, l4] [] (mw f a g) = if (0 : Int32) = 0 then rn xs L 157 155 [vR 44, vI l1, vI l2, vI l3, vI (0 : Int32)] [] (mw f a g) else rn xs L 157 134 [vR 44, vI l1, vI l2, vI l3, vI (0 : Int32)] [] (mw f a g) :=
  (r_con (pg_of mt_157 dX6_goesBy_126 rfl) (v2 := (0 : Int32)) (by decide)).trans <|
  (r_ist (pg_of mt_157 dX6_goesBy_127 rfl) (Nat.le_of_ble_eq_true rfl) rfl).trans <|
  (r_ild (pg_of mt_157 dX6_goesBy_129 rfl) rfl).trans <|
  (r_eq0 (pg_of mt_157 dX6_goesBy_131 rfl))
theorem b157_134 (l1 : Int32) (l2 : Int32) (l3 : Int32) (l4 : Int32) : rn xs L 157 134 [vR 44, vI l1, vI l2, vI l3, vI l4] [] (mw f a g) = if l2 < 0 then rn xs L 157 151 [vR 44, vI l1, vI l2, vI l3, vI l4] [] (mw f a g) else rn xs L 157 138 [vR 44, vI l1, vI l2, vI l3, vI l4] [] (mw f a g) :=
  (r_ild (pg_of mt_157 dX6_goesBy_134 rfl) rfl).trans <|
  (r_lt0 (pg_of mt_157 dX6_goesBy_135 rfl))
theorem b157_138 (l1 : Int32) (l2 : Int32) (l3 : Int32) (l4 : Int32) : rn xs L 157 138 [vR 44, vI l1, vI l2, vI l3, vI l4] [] (mw f a g) = (ev xs L 147 3 [vR 44, vI l3] (mw f a g)).bind (fun b => rn xs L 157 143 [vR 44, vI l1, vI l2, vI l3, vI l4] (b.1.toList ++ []) b.2) :=
  (r_ald (pg_of mt_157 dX6_goesBy_138 rfl) rfl).trans <|
  (r_ild (pg_of mt_157 dX6_goesBy_139 rfl) rfl).trans <|
  (r_call (t := tt_157) (t2 := tt_147) (pg_of mt_157 dX6_goesBy_140 rfl) mt_157 mt_147 rfl rfl (rcv1 rfl) rfl rfl)
theorem b157_143 (l1 : Int32) (l2 : Int32) (l3 : Int32) (l4 : Int32) (s0 : Int32) : rn xs L 157 143 [vR 44, vI l1, vI l2, vI l3, vI l4] [vI s0] (mw f a g) = (ev xs L 147 3 [vR 44, vI l2] (mw f a g)).bind (fun b => rn xs L 157 148 [vR 44, vI l1, vI l2, vI l3, vI l4] (b.1.toList ++ [vI s0]) b.2) :=
  (r_ald (pg_of mt_157 dX6_goesBy_143 rfl) rfl).trans <|
  (r_ild (pg_of mt_157 dX6_goesBy_144 rfl) rfl).trans <|
  (r_call (t := tt_157) (t2 := tt_147) (pg_of mt_157 dX6_goesBy_145 rfl) mt_157 mt_147 rfl rfl (rcv1 rfl) rfl rfl)
theorem b157_148 (l1 : Int32) (l2 : Int32) (l3 : Int32) (l4 : Int32) (s0 : Int32) (s1 : Int32) : rn xs L 157 148 [vR 44, vI l1, vI l2, vI l3, vI l4] [vI s0, vI s1] (mw f a g) = if s0 < s1 then rn xs L 157 151 [vR 44, vI l1, vI l2, vI l3, vI l4] [] (mw f a g) else rn xs L 157 155 [vR 44, vI l1, vI l2, vI l3, vI l4] [] (mw f a g) :=
  (r_le (pg_of mt_157 dX6_goesBy_148 rfl))
theorem b157_151 (l1 : Int32) (l2 : Int32) (l3 : Int32) (l4 : Int32) : rn xs L 157 151 [vR 44, vI l1, vI l2, vI l3, vI l4] [] (mw f a g) = rn xs L 157 55 [vR 44, vI l1, vI l3, vI (l3 + (1 : Int32)), vI l4] [] (mw f a g) :=
  (r_ild (pg_of mt_157 dX6_goesBy_151 rfl) rfl).trans <|
  (r_gto (pg_of mt_157 dX6_goesBy_152 rfl)).trans <|
  (r_ist (pg_of mt_157 dX6_goesBy_156 rfl) (Nat.le_of_ble_eq_true rfl) rfl).trans <|
  (r_inc (pg_of mt_157 dX6_goesBy_157 rfl) (y := (1 : Int32)) (by decide) rfl rfl).trans <|
  (r_gto (pg_of mt_157 dX6_goesBy_160 rfl))
theorem b157_155 (l1 : Int32) (l2 : Int32) (l3 : Int32) (l4 : Int32) : rn xs L 157 155 [vR 44, vI l1, vI l2, vI l3, vI l4] [] (mw f a g) = rn xs L 157 55 [vR 44, vI l1, vI l2, vI (l3 + (1 : Int32)), vI l4] [] (mw f a g) :=
  (r_ild (pg_of mt_157 dX6_goesBy_155 rfl) rfl).trans <|
  (r_ist (pg_of mt_157 dX6_goesBy_156 rfl) (Nat.le_of_ble_eq_true rfl) rfl).trans <|
  (r_inc (pg_of mt_157 dX6_goesBy_157 rfl) (y := (1 : Int32)) (by decide) rfl rfl).trans <|
  (r_gto (pg_of mt_157 dX6_goesBy_160 rfl))
theorem b157_163 (l1 : Int32) (l2 : Int32) (l3 : Int32) (l4 : ma_V) : rn xs L 157 163 [vR 44, vI l1, vI l2, vI l3, l4] [] (mw f a g) = if l2 < 0 then rn xs L 157 172 [vR 44, vI l1, vI l2, vI l3, l4] [] (mw f a g) else rn xs L 157 167 [vR 44, vI l1, vI l2, vI l3, l4] [] (mw f a g) :=
  (r_ild (pg_of mt_157 dX6_goesBy_163 rfl) rfl).trans <|
  (r_lt0 (pg_of mt_157 dX6_goesBy_164 rfl))
theorem b157_167 (l1 : Int32) (l2 : Int32) (l3 : Int32) (l4 : ma_V) : rn xs L 157 167 [vR 44, vI l1, vI l2, vI l3, l4] [] (mw f a g) = (ev xs L 152 2 [vR 44, vI l2] (mw f a g)).bind (fun b => rn xs L 157 172 [vR 44, vI l1, vI l2, vI l3, l4] (b.1.toList ++ []) b.2) :=
  (r_ald (pg_of mt_157 dX6_goesBy_167 rfl) rfl).trans <|
  (r_ild (pg_of mt_157 dX6_goesBy_168 rfl) rfl).trans <|
  (r_call (t := tt_157) (t2 := tt_152) (pg_of mt_157 dX6_goesBy_169 rfl) mt_157 mt_152 rfl rfl (rcv1 rfl) rfl rfl)
theorem b157_172 (l1 : Int32) (l2 : Int32) (l3 : Int32) (l4 : ma_V) : rn xs L 157 172 [vR 44, vI l1, vI l2, vI l3, l4] [] (mw f a g) = some (some (vI l2), (mw f ((ma_u2 a 45 1 (((a 45 1) + (1 : Int32))))) g)) :=
  (r_ald (pg_of mt_157 dX6_goesBy_172 rfl) rfl).trans <|
  (r_gtr (a := 45) (pg_of mt_157 dX6_goesBy_173 rfl) rfl rfl).trans <|
  (r_con (pg_of mt_157 dX6_goesBy_176 rfl) (v2 := (1 : Int32)) (by decide)).trans <|
  (r_du2 (pg_of mt_157 dX6_goesBy_177 rfl) rfl).trans <|
  (r_ialc (j := 1) (pg_of mt_157 dX6_goesBy_178 rfl) rfl (by decide) (by decide)).trans <|
  (r_con (pg_of mt_157 dX6_goesBy_179 rfl) (v2 := (1 : Int32)) (by decide)).trans <|
  (r_bin (pg_of mt_157 dX6_goesBy_180 rfl)).trans <|
  (r_iasc (j := 1) (pg_of mt_157 dX6_goesBy_181 rfl) rfl (by decide) (by decide)).trans <|
  (r_ild (pg_of mt_157 dX6_goesBy_182 rfl) rfl).trans <|
  (r_ri (pg_of mt_157 dX6_goesBy_183 rfl) mt_157 rfl)
-- 158 LeafFallsModel.within(I)I
theorem b158_0 (l0 : Int32) : rn xs L 158 0 [vI l0] [] (mw f a g) = if l0 < 0 then rn xs L 158 4 [vI l0] [] (mw f a g) else rn xs L 158 8 [vI l0] [] (mw f a g) :=
  (r_ild (pg_of mt_158 dX6_within_0 rfl) rfl).trans <|
  (r_ge0 (pg_of mt_158 dX6_within_1 rfl))
theorem b158_4 (l0 : Int32) : rn xs L 158 4 [vI l0] [] (mw f a g) = some (some (vI (0 : Int32)), (mw f a g)) :=
  (r_con (pg_of mt_158 dX6_within_4 rfl) (v2 := (0 : Int32)) (by decide)).trans <|
  (r_gto (pg_of mt_158 dX6_within_5 rfl)).trans <|
  (r_ri (pg_of mt_158 dX6_within_20 rfl) mt_158 rfl)
theorem b158_8 (l0 : Int32) : rn xs L 158 8 [vI l0] [] (mw f a g) = if (99 : Int32) < l0 then rn xs L 158 14 [vI l0] [] (mw f a g) else rn xs L 158 19 [vI l0] [] (mw f a g) :=
  (r_ild (pg_of mt_158 dX6_within_8 rfl) rfl).trans <|
  (r_con (pg_of mt_158 dX6_within_9 rfl) (v2 := (99 : Int32)) (by decide)).trans <|
  (r_le (pg_of mt_158 dX6_within_11 rfl))
theorem b158_14 (l0 : Int32) : rn xs L 158 14 [vI l0] [] (mw f a g) = some (some (vI (99 : Int32)), (mw f a g)) :=
  (r_con (pg_of mt_158 dX6_within_14 rfl) (v2 := (99 : Int32)) (by decide)).trans <|
  (r_gto (pg_of mt_158 dX6_within_16 rfl)).trans <|
  (r_ri (pg_of mt_158 dX6_within_20 rfl) mt_158 rfl)
theorem b158_19 (l0 : Int32) : rn xs L 158 19 [vI l0] [] (mw f a g) = some (some (vI l0), (mw f a g)) :=
  (r_ild (pg_of mt_158 dX6_within_19 rfl) rfl).trans <|
  (r_ri (pg_of mt_158 dX6_within_20 rfl) mt_158 rfl)
-- 159 LeafFallsModel.seed(I)I
theorem b159_0 (l1 : Int32) : rn xs L 159 0 [vR 44, vI l1] [] (mw f a g) = (ev xs L 135 4 [vR 44, vI (2 : Int32), vI l1] (mw f a g)).bind (fun b => rn xs L 159 6 [vR 44, vI l1] (b.1.toList ++ []) b.2) :=
  (r_ald (pg_of mt_159 dX6_seed_0 rfl) rfl).trans <|
  (r_con (pg_of mt_159 dX6_seed_1 rfl) (v2 := (2 : Int32)) (by decide)).trans <|
  (r_ild (pg_of mt_159 dX6_seed_2 rfl) rfl).trans <|
  (r_call (t := tt_159) (t2 := tt_135) (pg_of mt_159 dX6_seed_3 rfl) mt_159 mt_135 rfl rfl (rcv1 rfl) rfl rfl)
theorem b159_6 (l1 : Int32) (s0 : Int32) : rn xs L 159 6 [vR 44, vI l1] [vI s0] (mw f a g) = some (some (vI s0), (mw f a g)) :=
  (r_ri (pg_of mt_159 dX6_seed_6 rfl) mt_159 rfl)
-- 160 LeafFallsModel.day()I
theorem b160_0 (l1 : ma_V) : rn xs L 160 0 [vR 44, l1] [] (mw f a g) = (ev xs L 161 2 [vR 44] (mw f a g)).bind (fun b => rn xs L 160 4 [vR 44, l1] (b.1.toList ++ []) b.2) :=
  (r_ald (pg_of mt_160 dX6_day_0 rfl) rfl).trans <|
  (r_call (t := tt_160) (t2 := tt_161) (pg_of mt_160 dX6_day_1 rfl) mt_160 mt_161 rfl rfl (rcv1 rfl) rfl rfl)
theorem b160_4 (l1 : ma_V) (s0 : Int32) : rn xs L 160 4 [vR 44, l1] [vI s0] (mw f a g) = (ev xs L 153 3 [vR 44] (mw f a g)).bind (fun b => rn xs L 160 9 [vR 44, vI s0] (b.1.toList ++ []) b.2) :=
  (r_ist (pg_of mt_160 dX6_day_4 rfl) (Nat.le_of_ble_eq_true rfl) rfl).trans <|
  (r_ald (pg_of mt_160 dX6_day_5 rfl) rfl).trans <|
  (r_call (t := tt_160) (t2 := tt_153) (pg_of mt_160 dX6_day_6 rfl) mt_160 mt_153 rfl rfl (rcv1 rfl) rfl rfl)
theorem b160_9 (l1 : Int32) (s0 : Int32) : rn xs L 160 9 [vR 44, vI l1] [vI s0] (mw f a g) = (ev xs L 144 3 [vI s0] (mw f a g)).bind (fun b => rn xs L 160 12 [vR 44, vI l1] (b.1.toList ++ []) b.2) :=
  (r_call (t := tt_160) (t2 := tt_144) (pg_of mt_160 dX6_day_9 rfl) mt_160 mt_144 rfl rfl rfl rfl rfl)
theorem b160_12 (l1 : Int32) (s0 : Int32) : rn xs L 160 12 [vR 44, vI l1] [vI s0] (mw f a g) = some (some (vI s0), (mw f a g)) :=
  (r_ri (pg_of mt_160 dX6_day_12 rfl) mt_160 rfl)
-- 161 LeafFallsModel.goesByDraws()I
theorem b161_0 (l1 : ma_V) : rn xs L 161 0 [vR 44, l1] [] (mw f a g) = if 0 < (a 45 0) then rn xs L 161 9 [vR 44, l1] [] (mw f a g) else rn xs L 161 69 [vR 44, l1] [] (mw f a g) :=
  (r_ald (pg_of mt_161 dX6_goesByDraws_0 rfl) rfl).trans <|
  (r_gtr (a := 45) (pg_of mt_161 dX6_goesByDraws_1 rfl) rfl rfl).trans <|
  (r_con (pg_of mt_161 dX6_goesByDraws_4 rfl) (v2 := (0 : Int32)) (by decide)).trans <|
  (r_ialc (j := 0) (pg_of mt_161 dX6_goesByDraws_5 rfl) rfl (by decide) (by decide)).trans <|
  (r_le0 (pg_of mt_161 dX6_goesByDraws_6 rfl))
theorem b161_9 (l1 : ma_V) : rn xs L 161 9 [vR 44, l1] [] (mw f a g) = (ev xs L 162 1 [vR 44] (mw f a g)).bind (fun b => rn xs L 161 17 [vR 44, l1] (b.1.toList ++ [vI (6 : Int32), vI (14 : Int32)]) b.2) :=
  (r_con (pg_of mt_161 dX6_goesByDraws_9 rfl) (v2 := (14 : Int32)) (by decide)).trans <|
  (r_con (pg_of mt_161 dX6_goesByDraws_11 rfl) (v2 := (6 : Int32)) (by decide)).trans <|
  (r_ald (pg_of mt_161 dX6_goesByDraws_13 rfl) rfl).trans <|
  (r_call (t := tt_161) (t2 := tt_162) (pg_of mt_161 dX6_goesByDraws_14 rfl) mt_161 mt_162 rfl rfl (rcv1 rfl) rfl rfl)
theorem b161_17 (l1 : ma_V) (s0 : Int32) (s1 : Int32) (s2 : Int32) (h1 : ¬ (a 45 0) = 0) : rn xs L 161 17 [vR 44, l1] [vI s0, vI s1, vI s2] (mw f a g) = (ev xs L 162 1 [vR 44] (mw f a g)).bind (fun b => rn xs L 161 38 [vR 44, vI ((s2 + (s1 * (s0 - s0 / (a 45 0) * (a 45 0)))) + (2 : Int32))] (b.1.toList ++ [vI ((s2 + (s1 * (s0 - s0 / (a 45 0) * (a 45 0)))) + (2 : Int32)), vR 45]) b.2) :=
  (r_ald (pg_of mt_161 dX6_goesByDraws_17 rfl) rfl).trans <|
  (r_gtr (a := 45) (pg_of mt_161 dX6_goesByDraws_18 rfl) rfl rfl).trans <|
  (r_con (pg_of mt_161 dX6_goesByDraws_21 rfl) (v2 := (0 : Int32)) (by decide)).trans <|
  (r_ialc (j := 0) (pg_of mt_161 dX6_goesByDraws_22 rfl) rfl (by decide) (by decide)).trans <|
  (r_dvi (pg_of mt_161 dX6_goesByDraws_23 rfl) h1).trans <|
  (r_bin (pg_of mt_161 dX6_goesByDraws_24 rfl)).trans <|
  (r_bin (pg_of mt_161 dX6_goesByDraws_25 rfl)).trans <|
  (r_con (pg_of mt_161 dX6_goesByDraws_26 rfl) (v2 := (2 : Int32)) (by decide)).trans <|
  (r_bin (pg_of mt_161 dX6_goesByDraws_27 rfl)).trans <|
  (r_ist (pg_of mt_161 dX6_goesByDraws_28 rfl) (Nat.le_of_ble_eq_true rfl) rfl).trans <|
  (r_ald (pg_of mt_161 dX6_goesByDraws_29 rfl) rfl).trans <|
  (r_gtr (a := 45) (pg_of mt_161 dX6_goesByDraws_30 rfl) rfl rfl).trans <|
  (r_ild (pg_of mt_161 dX6_goesByDraws_33 rfl) rfl).trans <|
  (r_ald (pg_of mt_161 dX6_goesByDraws_34 rfl) rfl).trans <|
  (r_call (t := tt_161) (t2 := tt_162) (pg_of mt_161 dX6_goesByDraws_35 rfl) mt_161 mt_162 rfl rfl (rcv1 rfl) rfl rfl)
theorem b161_38 (l1 : Int32) (s0 : Int32) (s1 : Int32) : rn xs L 161 38 [vR 44, vI l1] [vI s0, vI s1, vR 45] (mw f a g) = if (s0 - s0 / (100 : Int32) * (100 : Int32)) < (a 45 7) then rn xs L 161 51 [vR 44, vI l1] [vI s1, vR 45] (mw f a g) else rn xs L 161 62 [vR 44, vI l1] [vI s1, vR 45] (mw f a g) :=
  (r_con (pg_of mt_161 dX6_goesByDraws_38 rfl) (v2 := (100 : Int32)) (by decide)).trans <|
  (r_dvi (pg_of mt_161 dX6_goesByDraws_40 rfl) (by decide)).trans <|
  (r_ald (pg_of mt_161 dX6_goesByDraws_41 rfl) rfl).trans <|
  (r_gtr (a := 45) (pg_of mt_161 dX6_goesByDraws_42 rfl) rfl rfl).trans <|
  (r_con (pg_of mt_161 dX6_goesByDraws_45 rfl) (v2 := (7 : Int32)) (by decide)).trans <|
  (r_ialc (j := 7) (pg_of mt_161 dX6_goesByDraws_47 rfl) rfl (by decide) (by decide)).trans <|
  (r_ge (pg_of mt_161 dX6_goesByDraws_48 rfl))
theorem b161_51 (l1 : Int32) (s0 : Int32) (h1 : ma_in l1 62 = true) (h2 : ma_in s0 62 = true) : rn xs L 161 51 [vR 44, vI l1] [vI s0, vR 45] (mw f a g) = (ev xs L 157 5 [vR 44, vI (0 : Int32)] (mw f ((ma_u2 a 45 s0.toNatClampNeg (((a 45 l1.toNatClampNeg) / (3 : Int32))))) g)).bind (fun b => rn xs L 161 74 [vR 44, vI l1] (b.1.toList ++ []) b.2) :=
  (r_ald (pg_of mt_161 dX6_goesByDraws_51 rfl) rfl).trans <|
  (r_gtr (a := 45) (pg_of mt_161 dX6_goesByDraws_52 rfl) rfl rfl).trans <|
  (r_ild (pg_of mt_161 dX6_goesByDraws_55 rfl) rfl).trans <|
  (r_iald (pg_of mt_161 dX6_goesByDraws_56 rfl) rfl h1).trans <|
  (r_con (pg_of mt_161 dX6_goesByDraws_57 rfl) (v2 := (3 : Int32)) (by decide)).trans <|
  (r_dvi (pg_of mt_161 dX6_goesByDraws_58 rfl) (by decide)).trans <|
  (r_gto (pg_of mt_161 dX6_goesByDraws_59 rfl)).trans <|
  (r_iast (pg_of mt_161 dX6_goesByDraws_68 rfl) rfl h2).trans <|
  (r_ald (pg_of mt_161 dX6_goesByDraws_69 rfl) rfl).trans <|
  (r_con (pg_of mt_161 dX6_goesByDraws_70 rfl) (v2 := (0 : Int32)) (by decide)).trans <|
  (r_call (t := tt_161) (t2 := tt_157) (pg_of mt_161 dX6_goesByDraws_71 rfl) mt_161 mt_157 rfl rfl (rcv1 rfl) rfl rfl)
theorem b161_62 (l1 : Int32) (s0 : Int32) (h1 : ma_in l1 62 = true) (h2 : ma_in s0 62 = true) : rn xs L 161 62 [vR 44, vI l1] [vI s0, vR 45] (mw f a g) = (ev xs L 157 5 [vR 44, vI (0 : Int32)] (mw f ((ma_u2 a 45 s0.toNatClampNeg ((a 45 l1.toNatClampNeg)))) g)).bind (fun b => rn xs L 161 74 [vR 44, vI l1] (b.1.toList ++ []) b.2) :=
  (r_ald (pg_of mt_161 dX6_goesByDraws_62 rfl) rfl).trans <|
  (r_gtr (a := 45) (pg_of mt_161 dX6_goesByDraws_63 rfl) rfl rfl).trans <|
  (r_ild (pg_of mt_161 dX6_goesByDraws_66 rfl) rfl).trans <|
  (r_iald (pg_of mt_161 dX6_goesByDraws_67 rfl) rfl h1).trans <|
  (r_iast (pg_of mt_161 dX6_goesByDraws_68 rfl) rfl h2).trans <|
  (r_ald (pg_of mt_161 dX6_goesByDraws_69 rfl) rfl).trans <|
  (r_con (pg_of mt_161 dX6_goesByDraws_70 rfl) (v2 := (0 : Int32)) (by decide)).trans <|
  (r_call (t := tt_161) (t2 := tt_157) (pg_of mt_161 dX6_goesByDraws_71 rfl) mt_161 mt_157 rfl rfl (rcv1 rfl) rfl rfl)
theorem b161_69 (l1 : ma_V) : rn xs L 161 69 [vR 44, l1] [] (mw f a g) = (ev xs L 157 5 [vR 44, vI (0 : Int32)] (mw f a g)).bind (fun b => rn xs L 161 74 [vR 44, l1] (b.1.toList ++ []) b.2) :=
  (r_ald (pg_of mt_161 dX6_goesByDraws_69 rfl) rfl).trans <|
  (r_con (pg_of mt_161 dX6_goesByDraws_70 rfl) (v2 := (0 : Int32)) (by decide)).trans <|
  (r_call (t := tt_161) (t2 := tt_157) (pg_of mt_161 dX6_goesByDraws_71 rfl) mt_161 mt_157 rfl rfl (rcv1 rfl) rfl rfl)
theorem b161_74 (l1 : ma_V) (s0 : Int32) : rn xs L 161 74 [vR 44, l1] [vI s0] (mw f a g) = some (some (vI s0), (mw f a g)) :=
  (r_ri (pg_of mt_161 dX6_goesByDraws_74 rfl) mt_161 rfl)
-- 162 LeafFallsModel.drawn()I
theorem b162_0  : rn xs L 162 0 [vR 44] [] (mw f a g) = some (some (vI ((((((ma_u2 a 45 2 ((((a 45 2) * (1103515245 : Int32)) + (12345 : Int32))))) 45 2)).toUInt32 >>> (((16 : Int32)).toUInt32 &&& Int32.toUInt32 31)).toInt32)), (mw f ((ma_u2 a 45 2 ((((a 45 2) * (1103515245 : Int32)) + (12345 : Int32))))) g)) :=
  (r_ald (pg_of mt_162 dX6_drawn_0 rfl) rfl).trans <|
  (r_gtr (a := 45) (pg_of mt_162 dX6_drawn_1 rfl) rfl rfl).trans <|
  (r_con (pg_of mt_162 dX6_drawn_4 rfl) (v2 := (2 : Int32)) (by decide)).trans <|
  (r_ald (pg_of mt_162 dX6_drawn_5 rfl) rfl).trans <|
  (r_gtr (a := 45) (pg_of mt_162 dX6_drawn_6 rfl) rfl rfl).trans <|
  (r_con (pg_of mt_162 dX6_drawn_9 rfl) (v2 := (2 : Int32)) (by decide)).trans <|
  (r_ialc (j := 2) (pg_of mt_162 dX6_drawn_10 rfl) rfl (by decide) (by decide)).trans <|
  (r_con (pg_of mt_162 dX6_drawn_11 rfl) (v2 := (1103515245 : Int32)) rfl).trans <|
  (r_bin (pg_of mt_162 dX6_drawn_13 rfl)).trans <|
  (r_con (pg_of mt_162 dX6_drawn_14 rfl) (v2 := (12345 : Int32)) (by decide)).trans <|
  (r_bin (pg_of mt_162 dX6_drawn_17 rfl)).trans <|
  (r_iasc (j := 2) (pg_of mt_162 dX6_drawn_18 rfl) rfl (by decide) (by decide)).trans <|
  (r_ald (pg_of mt_162 dX6_drawn_19 rfl) rfl).trans <|
  (r_gtr (a := 45) (pg_of mt_162 dX6_drawn_20 rfl) rfl rfl).trans <|
  (r_con (pg_of mt_162 dX6_drawn_23 rfl) (v2 := (2 : Int32)) (by decide)).trans <|
  (r_ialc (j := 2) (pg_of mt_162 dX6_drawn_24 rfl) rfl (by decide) (by decide)).trans <|
  (r_con (pg_of mt_162 dX6_drawn_25 rfl) (v2 := (16 : Int32)) (by decide)).trans <|
  (r_bin (pg_of mt_162 dX6_drawn_27 rfl)).trans <|
  (r_ri (pg_of mt_162 dX6_drawn_28 rfl) mt_162 rfl)
-- 163 LeafFallsModel.lost(I)I
theorem b163_0 (l1 : Int32) (l2 : ma_V) (l3 : ma_V) (l4 : ma_V) (l5 : ma_V) : rn xs L 163 0 [vR 44, vI l1, l2, l3, l4, l5] [] (mw f a g) = (ev xs L 115 6 [vL (l1).toInt64, vL (1 : Int64), vL (30 : Int64)] (mw f a g)).bind (fun b => rn xs L 163 9 [vR 44, vI l1, l2, l3, l4, l5] (b.1.toList ++ []) b.2) :=
  (r_ild (pg_of mt_163 dX6_lost_0 rfl) rfl).trans <|
  (r_i2l (pg_of mt_163 dX6_lost_1 rfl)).trans <|
  (r_lcn (pg_of mt_163 dX6_lost_2 rfl) (v2 := (1 : Int64)) (by decide)).trans <|
  (r_lcn (pg_of mt_163 dX6_lost_3 rfl) (v2 := (30 : Int64)) rfl).trans <|
  (r_call (t := tt_163) (t2 := tt_115) (pg_of mt_163 dX6_lost_6 rfl) mt_163 mt_115 rfl rfl rfl rfl rfl)
theorem b163_9 (l1 : Int32) (l2 : ma_V) (l3 : ma_V) (l4 : ma_V) (l5 : ma_V) (s0 : Int32) : rn xs L 163 9 [vR 44, vI l1, l2, l3, l4, l5] [vI s0] (mw f a g) = if s0 = 0 then rn xs L 163 12 [vR 44, vI l1, l2, l3, l4, l5] [] (mw f a g) else rn xs L 163 14 [vR 44, vI l1, l2, l3, l4, l5] [] (mw f a g) :=
  (r_ne0 (pg_of mt_163 dX6_lost_9 rfl))
theorem b163_12 (l1 : Int32) (l2 : ma_V) (l3 : ma_V) (l4 : ma_V) (l5 : ma_V) : rn xs L 163 12 [vR 44, vI l1, l2, l3, l4, l5] [] (mw f a g) = some (some (vI (-1 : Int32)), (mw f a g)) :=
  (r_con (pg_of mt_163 dX6_lost_12 rfl) (v2 := (-1 : Int32)) (by decide)).trans <|
  (r_ri (pg_of mt_163 dX6_lost_13 rfl) mt_163 rfl)
theorem b163_14 (l1 : Int32) (l2 : ma_V) (l3 : ma_V) (l4 : ma_V) (l5 : ma_V) : rn xs L 163 14 [vR 44, vI l1, l2, l3, l4, l5] [] (mw f a g) = (ev xs L 117 3 [vR 45, vR 47] (mw f a g)).bind (fun b => rn xs L 163 25 [vR 44, vI l1, l2, l3, l4, l5] (b.1.toList ++ []) b.2) :=
  (r_ald (pg_of mt_163 dX6_lost_14 rfl) rfl).trans <|
  (r_gtr (a := 45) (pg_of mt_163 dX6_lost_15 rfl) rfl rfl).trans <|
  (r_ald (pg_of mt_163 dX6_lost_18 rfl) rfl).trans <|
  (r_gtr (a := 47) (pg_of mt_163 dX6_lost_19 rfl) rfl rfl).trans <|
  (r_call (t := tt_163) (t2 := tt_117) (pg_of mt_163 dX6_lost_22 rfl) mt_163 mt_117 rfl rfl rfl rfl rfl)
theorem b163_25 (l1 : Int32) (l2 : ma_V) (l3 : ma_V) (l4 : ma_V) (l5 : ma_V) : rn xs L 163 25 [vR 44, vI l1, l2, l3, l4, l5] [] (mw f a g) = (ev xs L 157 5 [vR 44, vI (0 : Int32)] (mw f a g)).bind (fun b => rn xs L 163 30 [vR 44, vI l1, l2, l3, l4, l5] (b.1.toList ++ []) b.2) :=
  (r_ald (pg_of mt_163 dX6_lost_25 rfl) rfl).trans <|
  (r_con (pg_of mt_163 dX6_lost_26 rfl) (v2 := (0 : Int32)) (by decide)).trans <|
  (r_call (t := tt_163) (t2 := tt_157) (pg_of mt_163 dX6_lost_27 rfl) mt_163 mt_157 rfl rfl (rcv1 rfl) rfl rfl)
theorem b163_30 (l1 : Int32) (l2 : ma_V) (l3 : ma_V) (l4 : ma_V) (l5 : ma_V) (s0 : Int32) : rn xs L 163 30 [vR 44, vI l1, l2, l3, l4, l5] [vI s0] (mw f a g) = rn xs L 163 44 [vR 44, vI l1, vI s0, vI (a 47 2), vI (0 : Int32), vI (0 : Int32)] [] (mw f a g) :=
  (r_ist (pg_of mt_163 dX6_lost_30 rfl) (Nat.le_of_ble_eq_true rfl) rfl).trans <|
  (r_ald (pg_of mt_163 dX6_lost_31 rfl) rfl).trans <|
  (r_gtr (a := 47) (pg_of mt_163 dX6_lost_32 rfl) rfl rfl).trans <|
  (r_con (pg_of mt_163 dX6_lost_35 rfl) (v2 := (2 : Int32)) (by decide)).trans <|
  (r_ialc (j := 2) (pg_of mt_163 dX6_lost_36 rfl) rfl (by decide) (by decide)).trans <|
  (r_ist (pg_of mt_163 dX6_lost_37 rfl) (Nat.le_of_ble_eq_true rfl) rfl).trans <|
  (r_con (pg_of mt_163 dX6_lost_38 rfl) (v2 := (0 : Int32)) (by decide)).trans <|
  (r_ist (pg_of mt_163 dX6_lost_39 rfl) (Nat.le_of_ble_eq_true rfl) rfl).trans <|
  (r_con (pg_of mt_163 dX6_lost_41 rfl) (v2 := (0 : Int32)) (by decide)).trans <|
  (r_ist (pg_of mt_163 dX6_lost_42 rfl) (Nat.le_of_ble_eq_true rfl) rfl)
theorem b163_44 (l1 : Int32) (l2 : Int32) (l3 : Int32) (l4 : Int32) (l5 : Int32) : rn xs L 163 44 [vR 44, vI l1, vI l2, vI l3, vI l4, vI l5] [] (mw f a g) = if l5 < l1 then rn xs L 163 50 [vR 44, vI l1, vI l2, vI l3, vI l4, vI l5] [] (mw f a g) else rn xs L 163 99 [vR 44, vI l1, vI l2, vI l3, vI l4, vI l5] [] (mw f a g) :=
  (r_ild (pg_of mt_163 dX6_lost_44 rfl) rfl).trans <|
  (r_ild (pg_of mt_163 dX6_lost_46 rfl) rfl).trans <|
  (r_ge (pg_of mt_163 dX6_lost_47 rfl))
theorem b163_50 (l1 : Int32) (l2 : Int32) (l3 : Int32) (l4 : Int32) (l5 : Int32) : rn xs L 163 50 [vR 44, vI l1, vI l2, vI l3, vI l4, vI l5] [] (mw f a g) = (ev xs L 117 3 [vR 47, vR 45] (mw f a g)).bind (fun b => rn xs L 163 61 [vR 44, vI l1, vI l2, vI l3, vI l4, vI l5] (b.1.toList ++ []) b.2) :=
  (r_ald (pg_of mt_163 dX6_lost_50 rfl) rfl).trans <|
  (r_gtr (a := 47) (pg_of mt_163 dX6_lost_51 rfl) rfl rfl).trans <|
  (r_ald (pg_of mt_163 dX6_lost_54 rfl) rfl).trans <|
  (r_gtr (a := 45) (pg_of mt_163 dX6_lost_55 rfl) rfl rfl).trans <|
  (r_call (t := tt_163) (t2 := tt_117) (pg_of mt_163 dX6_lost_58 rfl) mt_163 mt_117 rfl rfl rfl rfl rfl)
theorem b163_61 (l1 : Int32) (l2 : Int32) (l3 : Int32) (l4 : Int32) (l5 : Int32) : rn xs L 163 61 [vR 44, vI l1, vI l2, vI l3, vI l4, vI l5] [] (mw f a g) = (ev xs L 161 2 [vR 44] (mw f ((ma_u2 a 45 2 l3)) g)).bind (fun b => rn xs L 163 74 [vR 44, vI l1, vI l2, vI l3, vI l4, vI l5] (b.1.toList ++ [vI l4]) b.2) :=
  (r_ald (pg_of mt_163 dX6_lost_61 rfl) rfl).trans <|
  (r_gtr (a := 45) (pg_of mt_163 dX6_lost_62 rfl) rfl rfl).trans <|
  (r_con (pg_of mt_163 dX6_lost_65 rfl) (v2 := (2 : Int32)) (by decide)).trans <|
  (r_ild (pg_of mt_163 dX6_lost_66 rfl) rfl).trans <|
  (r_iasc (j := 2) (pg_of mt_163 dX6_lost_67 rfl) rfl (by decide) (by decide)).trans <|
  (r_ild (pg_of mt_163 dX6_lost_68 rfl) rfl).trans <|
  (r_ald (pg_of mt_163 dX6_lost_70 rfl) rfl).trans <|
  (r_call (t := tt_163) (t2 := tt_161) (pg_of mt_163 dX6_lost_71 rfl) mt_163 mt_161 rfl rfl (rcv1 rfl) rfl rfl)
theorem b163_74 (l1 : Int32) (l2 : Int32) (l3 : Int32) (l4 : Int32) (l5 : Int32) (s0 : Int32) (s1 : Int32) : rn xs L 163 74 [vR 44, vI l1, vI l2, vI l3, vI l4, vI l5] [vI s0, vI s1] (mw f a g) = if s0 = l2 then rn xs L 163 78 [vR 44, vI l1, vI l2, vI l3, vI l4, vI l5] [vI s1] (mw f a g) else rn xs L 163 82 [vR 44, vI l1, vI l2, vI l3, vI l4, vI l5] [vI s1] (mw f a g) :=
  (r_ild (pg_of mt_163 dX6_lost_74 rfl) rfl).trans <|
  (r_ne (pg_of mt_163 dX6_lost_75 rfl))
theorem b163_78 (l1 : Int32) (l2 : Int32) (l3 : Int32) (l4 : Int32) (l5 : Int32) (s0 : Int32) : rn xs L 163 78 [vR 44, vI l1, vI l2, vI l3, vI l4, vI l5] [vI s0] (mw f a g) = rn xs L 163 44 [vR 44, vI l1, vI l2, vI (a 45 2), vI (s0 + (0 : Int32)), vI (l5 + (1 : Int32))] [] (mw f a g) :=
  (r_con (pg_of mt_163 dX6_lost_78 rfl) (v2 := (0 : Int32)) (by decide)).trans <|
  (r_gto (pg_of mt_163 dX6_lost_79 rfl)).trans <|
  (r_bin (pg_of mt_163 dX6_lost_83 rfl)).trans <|
  (r_ist (pg_of mt_163 dX6_lost_84 rfl) (Nat.le_of_ble_eq_true rfl) rfl).trans <|
  (r_ald (pg_of mt_163 dX6_lost_86 rfl) rfl).trans <|
  (r_gtr (a := 45) (pg_of mt_163 dX6_lost_87 rfl) rfl rfl).trans <|
  (r_con (pg_of mt_163 dX6_lost_90 rfl) (v2 := (2 : Int32)) (by decide)).trans <|
  (r_ialc (j := 2) (pg_of mt_163 dX6_lost_91 rfl) rfl (by decide) (by decide)).trans <|
  (r_ist (pg_of mt_163 dX6_lost_92 rfl) (Nat.le_of_ble_eq_true rfl) rfl).trans <|
  (r_inc (pg_of mt_163 dX6_lost_93 rfl) (y := (1 : Int32)) (by decide) rfl rfl).trans <|
  (r_gto (pg_of mt_163 dX6_lost_96 rfl))
theorem b163_82 (l1 : Int32) (l2 : Int32) (l3 : Int32) (l4 : Int32) (l5 : Int32) (s0 : Int32) : rn xs L 163 82 [vR 44, vI l1, vI l2, vI l3, vI l4, vI l5] [vI s0] (mw f a g) = rn xs L 163 44 [vR 44, vI l1, vI l2, vI (a 45 2), vI (s0 + (1 : Int32)), vI (l5 + (1 : Int32))] [] (mw f a g) :=
  (r_con (pg_of mt_163 dX6_lost_82 rfl) (v2 := (1 : Int32)) (by decide)).trans <|
  (r_bin (pg_of mt_163 dX6_lost_83 rfl)).trans <|
  (r_ist (pg_of mt_163 dX6_lost_84 rfl) (Nat.le_of_ble_eq_true rfl) rfl).trans <|
  (r_ald (pg_of mt_163 dX6_lost_86 rfl) rfl).trans <|
  (r_gtr (a := 45) (pg_of mt_163 dX6_lost_87 rfl) rfl rfl).trans <|
  (r_con (pg_of mt_163 dX6_lost_90 rfl) (v2 := (2 : Int32)) (by decide)).trans <|
  (r_ialc (j := 2) (pg_of mt_163 dX6_lost_91 rfl) rfl (by decide) (by decide)).trans <|
  (r_ist (pg_of mt_163 dX6_lost_92 rfl) (Nat.le_of_ble_eq_true rfl) rfl).trans <|
  (r_inc (pg_of mt_163 dX6_lost_93 rfl) (y := (1 : Int32)) (by decide) rfl rfl).trans <|
  (r_gto (pg_of mt_163 dX6_lost_96 rfl))
theorem b163_99 (l1 : Int32) (l2 : Int32) (l3 : Int32) (l4 : Int32) (l5 : Int32) : rn xs L 163 99 [vR 44, vI l1, vI l2, vI l3, vI l4, vI l5] [] (mw f a g) = (ev xs L 117 3 [vR 47, vR 45] (mw f a g)).bind (fun b => rn xs L 163 110 [vR 44, vI l1, vI l2, vI l3, vI l4, vI l5] (b.1.toList ++ []) b.2) :=
  (r_ald (pg_of mt_163 dX6_lost_99 rfl) rfl).trans <|
  (r_gtr (a := 47) (pg_of mt_163 dX6_lost_100 rfl) rfl rfl).trans <|
  (r_ald (pg_of mt_163 dX6_lost_103 rfl) rfl).trans <|
  (r_gtr (a := 45) (pg_of mt_163 dX6_lost_104 rfl) rfl rfl).trans <|
  (r_call (t := tt_163) (t2 := tt_117) (pg_of mt_163 dX6_lost_107 rfl) mt_163 mt_117 rfl rfl rfl rfl rfl)
theorem b163_110 (l1 : Int32) (l2 : Int32) (l3 : Int32) (l4 : Int32) (l5 : Int32) : rn xs L 163 110 [vR 44, vI l1, vI l2, vI l3, vI l4, vI l5] [] (mw f a g) = some (some (vI l4), (mw f a g)) :=
  (r_ild (pg_of mt_163 dX6_lost_110 rfl) rfl).trans <|
  (r_ri (pg_of mt_163 dX6_lost_112 rfl) mt_163 rfl)
-- 164 LeafFallsModel.written(I)I
theorem b164_0 (l1 : Int32) : rn xs L 164 0 [vR 44, vI l1] [] (mw f a g) = (ev xs L 115 6 [vL (l1).toInt64, vL (0 : Int64), vL (((a 45 3) - (1 : Int32))).toInt64] (mw f a g)).bind (fun b => rn xs L 164 15 [vR 44, vI l1] (b.1.toList ++ []) b.2) :=
  (r_ild (pg_of mt_164 dX6_written_0 rfl) rfl).trans <|
  (r_i2l (pg_of mt_164 dX6_written_1 rfl)).trans <|
  (r_lcn (pg_of mt_164 dX6_written_2 rfl) (v2 := (0 : Int64)) (by decide)).trans <|
  (r_ald (pg_of mt_164 dX6_written_3 rfl) rfl).trans <|
  (r_gtr (a := 45) (pg_of mt_164 dX6_written_4 rfl) rfl rfl).trans <|
  (r_con (pg_of mt_164 dX6_written_7 rfl) (v2 := (3 : Int32)) (by decide)).trans <|
  (r_ialc (j := 3) (pg_of mt_164 dX6_written_8 rfl) rfl (by decide) (by decide)).trans <|
  (r_con (pg_of mt_164 dX6_written_9 rfl) (v2 := (1 : Int32)) (by decide)).trans <|
  (r_bin (pg_of mt_164 dX6_written_10 rfl)).trans <|
  (r_i2l (pg_of mt_164 dX6_written_11 rfl)).trans <|
  (r_call (t := tt_164) (t2 := tt_115) (pg_of mt_164 dX6_written_12 rfl) mt_164 mt_115 rfl rfl rfl rfl rfl)
theorem b164_15 (l1 : Int32) (s0 : Int32) : rn xs L 164 15 [vR 44, vI l1] [vI s0] (mw f a g) = if s0 = 0 then rn xs L 164 26 [vR 44, vI l1] [] (mw f a g) else rn xs L 164 18 [vR 44, vI l1] [] (mw f a g) :=
  (r_eq0 (pg_of mt_164 dX6_written_15 rfl))
theorem b164_18 (l1 : Int32) : rn xs L 164 18 [vR 44, vI l1] [] (mw f a g) = (ev xs L 165 4 [vR 44, vI l1] (mw f a g)).bind (fun b => rn xs L 164 23 [vR 44, vI l1] (b.1.toList ++ []) b.2) :=
  (r_ald (pg_of mt_164 dX6_written_18 rfl) rfl).trans <|
  (r_ild (pg_of mt_164 dX6_written_19 rfl) rfl).trans <|
  (r_call (t := tt_164) (t2 := tt_165) (pg_of mt_164 dX6_written_20 rfl) mt_164 mt_165 rfl rfl (rcv1 rfl) rfl rfl)
theorem b164_23 (l1 : Int32) (s0 : Int32) : rn xs L 164 23 [vR 44, vI l1] [vI s0] (mw f a g) = some (some (vI s0), (mw f a g)) :=
  (r_gto (pg_of mt_164 dX6_written_23 rfl)).trans <|
  (r_ri (pg_of mt_164 dX6_written_28 rfl) mt_164 rfl)
theorem b164_26 (l1 : Int32) : rn xs L 164 26 [vR 44, vI l1] [] (mw f a g) = some (some (vI (-3 : Int32)), (mw f a g)) :=
  (r_con (pg_of mt_164 dX6_written_26 rfl) (v2 := (-3 : Int32)) (by decide)).trans <|
  (r_ri (pg_of mt_164 dX6_written_28 rfl) mt_164 rfl)
-- 165 LeafFallsModel.signOf(I)I
theorem b165_0 (l1 : Int32) (l2 : ma_V) (l3 : ma_V) : rn xs L 165 0 [vR 44, vI l1, l2, l3] [] (mw f a g) = rn xs L 165 4 [vR 44, vI l1, vI (0 : Int32), vI (0 : Int32)] [] (mw f a g) :=
  (r_con (pg_of mt_165 dX6_signOf_0 rfl) (v2 := (0 : Int32)) (by decide)).trans <|
  (r_ist (pg_of mt_165 dX6_signOf_1 rfl) (Nat.le_of_ble_eq_true rfl) rfl).trans <|
  (r_con (pg_of mt_165 dX6_signOf_2 rfl) (v2 := (0 : Int32)) (by decide)).trans <|
  (r_ist (pg_of mt_165 dX6_signOf_3 rfl) (Nat.le_of_ble_eq_true rfl) rfl)
theorem b165_4 (l1 : Int32) (l2 : Int32) (l3 : Int32) : rn xs L 165 4 [vR 44, vI l1, vI l2, vI l3] [] (mw f a g) = if l3 < (a 45 0) then rn xs L 165 14 [vR 44, vI l1, vI l2, vI l3] [] (mw f a g) else rn xs L 165 43 [vR 44, vI l1, vI l2, vI l3] [] (mw f a g) :=
  (r_ild (pg_of mt_165 dX6_signOf_4 rfl) rfl).trans <|
  (r_ald (pg_of mt_165 dX6_signOf_5 rfl) rfl).trans <|
  (r_gtr (a := 45) (pg_of mt_165 dX6_signOf_6 rfl) rfl rfl).trans <|
  (r_con (pg_of mt_165 dX6_signOf_9 rfl) (v2 := (0 : Int32)) (by decide)).trans <|
  (r_ialc (j := 0) (pg_of mt_165 dX6_signOf_10 rfl) rfl (by decide) (by decide)).trans <|
  (r_ge (pg_of mt_165 dX6_signOf_11 rfl))
theorem b165_14 (l1 : Int32) (l2 : Int32) (l3 : Int32) : rn xs L 165 14 [vR 44, vI l1, vI l2, vI l3] [] (mw f a g) = (ev xs L 142 3 [vR 44, vI l3, vI (5 : Int32)] (mw f a g)).bind (fun b => rn xs L 165 20 [vR 44, vI l1, vI l2, vI l3] (b.1.toList ++ []) b.2) :=
  (r_ald (pg_of mt_165 dX6_signOf_14 rfl) rfl).trans <|
  (r_ild (pg_of mt_165 dX6_signOf_15 rfl) rfl).trans <|
  (r_con (pg_of mt_165 dX6_signOf_16 rfl) (v2 := (5 : Int32)) (by decide)).trans <|
  (r_call (t := tt_165) (t2 := tt_142) (pg_of mt_165 dX6_signOf_17 rfl) mt_165 mt_142 rfl rfl (rcv1 rfl) rfl rfl)
theorem b165_20 (l1 : Int32) (l2 : Int32) (l3 : Int32) (s0 : Int32) : rn xs L 165 20 [vR 44, vI l1, vI l2, vI l3] [vI s0] (mw f a g) = if s0 = (l1 + (1 : Int32)) then rn xs L 165 26 [vR 44, vI l1, vI l2, vI l3] [] (mw f a g) else rn xs L 165 35 [vR 44, vI l1, vI l2, vI l3] [] (mw f a g) :=
  (r_ild (pg_of mt_165 dX6_signOf_20 rfl) rfl).trans <|
  (r_con (pg_of mt_165 dX6_signOf_21 rfl) (v2 := (1 : Int32)) (by decide)).trans <|
  (r_bin (pg_of mt_165 dX6_signOf_22 rfl)).trans <|
  (r_ne (pg_of mt_165 dX6_signOf_23 rfl))
theorem b165_26 (l1 : Int32) (l2 : Int32) (l3 : Int32) : rn xs L 165 26 [vR 44, vI l1, vI l2, vI l3] [] (mw f a g) = (ev xs L 142 3 [vR 44, vI l3, vI (3 : Int32)] (mw f a g)).bind (fun b => rn xs L 165 32 [vR 44, vI l1, vI l2, vI l3] (b.1.toList ++ []) b.2) :=
  (r_ald (pg_of mt_165 dX6_signOf_26 rfl) rfl).trans <|
  (r_ild (pg_of mt_165 dX6_signOf_27 rfl) rfl).trans <|
  (r_con (pg_of mt_165 dX6_signOf_28 rfl) (v2 := (3 : Int32)) (by decide)).trans <|
  (r_call (t := tt_165) (t2 := tt_142) (pg_of mt_165 dX6_signOf_29 rfl) mt_165 mt_142 rfl rfl (rcv1 rfl) rfl rfl)
theorem b165_32 (l1 : Int32) (l2 : Int32) (l3 : Int32) (s0 : Int32) : rn xs L 165 32 [vR 44, vI l1, vI l2, vI l3] [vI s0] (mw f a g) = rn xs L 165 4 [vR 44, vI l1, vI s0, vI (l3 + (1 : Int32))] [] (mw f a g) :=
  (r_gto (pg_of mt_165 dX6_signOf_32 rfl)).trans <|
  (r_ist (pg_of mt_165 dX6_signOf_36 rfl) (Nat.le_of_ble_eq_true rfl) rfl).trans <|
  (r_inc (pg_of mt_165 dX6_signOf_37 rfl) (y := (1 : Int32)) (by decide) rfl rfl).trans <|
  (r_gto (pg_of mt_165 dX6_signOf_40 rfl))
theorem b165_35 (l1 : Int32) (l2 : Int32) (l3 : Int32) : rn xs L 165 35 [vR 44, vI l1, vI l2, vI l3] [] (mw f a g) = rn xs L 165 4 [vR 44, vI l1, vI l2, vI (l3 + (1 : Int32))] [] (mw f a g) :=
  (r_ild (pg_of mt_165 dX6_signOf_35 rfl) rfl).trans <|
  (r_ist (pg_of mt_165 dX6_signOf_36 rfl) (Nat.le_of_ble_eq_true rfl) rfl).trans <|
  (r_inc (pg_of mt_165 dX6_signOf_37 rfl) (y := (1 : Int32)) (by decide) rfl rfl).trans <|
  (r_gto (pg_of mt_165 dX6_signOf_40 rfl))
theorem b165_43 (l1 : Int32) (l2 : Int32) (l3 : Int32) : rn xs L 165 43 [vR 44, vI l1, vI l2, vI l3] [] (mw f a g) = some (some (vI l2), (mw f a g)) :=
  (r_ild (pg_of mt_165 dX6_signOf_43 rfl) rfl).trans <|
  (r_ri (pg_of mt_165 dX6_signOf_44 rfl) mt_165 rfl)
-- 166 LeafFallsModel.state(I)I
theorem sw166_1 {ls st : List ma_V} {w : ma_W} {x : Int32} : rn xs L 166 1 ls (vI x :: st) w = if x = 0 then rn xs L 166 40 ls st w else if x = 1 then rn xs L 166 47 ls st w else if x = 2 then rn xs L 166 52 ls st w else if x = 3 then rn xs L 166 57 ls st w else if x = 4 then rn xs L 166 62 ls st w else if x = 5 then rn xs L 166 67 ls st w else rn xs L 166 72 ls st w := by
  by_cases h0 : x = 0
  · rw [if_pos h0, h0]; exact r_swi (t := 40) (pg_of mt_166 dX6_state_1 rfl) (by decide)
  rw [if_neg h0]
  by_cases h1 : x = 1
  · rw [if_pos h1, h1]; exact r_swi (t := 47) (pg_of mt_166 dX6_state_1 rfl) (by decide)
  rw [if_neg h1]
  by_cases h2 : x = 2
  · rw [if_pos h2, h2]; exact r_swi (t := 52) (pg_of mt_166 dX6_state_1 rfl) (by decide)
  rw [if_neg h2]
  by_cases h3 : x = 3
  · rw [if_pos h3, h3]; exact r_swi (t := 57) (pg_of mt_166 dX6_state_1 rfl) (by decide)
  rw [if_neg h3]
  by_cases h4 : x = 4
  · rw [if_pos h4, h4]; exact r_swi (t := 62) (pg_of mt_166 dX6_state_1 rfl) (by decide)
  rw [if_neg h4]
  by_cases h5 : x = 5
  · rw [if_pos h5, h5]; exact r_swi (t := 67) (pg_of mt_166 dX6_state_1 rfl) (by decide)
  rw [if_neg h5]
  have e0 := i_nei (k := 0) (0 : Int32) (by decide) h0
  have e1 := i_nei (k := 1) (1 : Int32) (by decide) h1
  have e2 := i_nei (k := 2) (2 : Int32) (by decide) h2
  have e3 := i_nei (k := 3) (3 : Int32) (by decide) h3
  have e4 := i_nei (k := 4) (4 : Int32) (by decide) h4
  have e5 := i_nei (k := 5) (5 : Int32) (by decide) h5
  exact r_swi (t := 72) (pg_of mt_166 dX6_state_1 rfl) (tsw_out (by omega) (by decide) (by decide))
theorem b166_0 (l1 : Int32) : rn xs L 166 0 [vR 44, vI l1] [] (mw f a g) = if l1 = 0 then rn xs L 166 40 [vR 44, vI l1] [] (mw f a g) else if l1 = 1 then rn xs L 166 47 [vR 44, vI l1] [] (mw f a g) else if l1 = 2 then rn xs L 166 52 [vR 44, vI l1] [] (mw f a g) else if l1 = 3 then rn xs L 166 57 [vR 44, vI l1] [] (mw f a g) else if l1 = 4 then rn xs L 166 62 [vR 44, vI l1] [] (mw f a g) else if l1 = 5 then rn xs L 166 67 [vR 44, vI l1] [] (mw f a g) else rn xs L 166 72 [vR 44, vI l1] [] (mw f a g) :=
  (r_ild (pg_of mt_166 dX6_state_0 rfl) rfl).trans <|
  (sw166_1)
theorem b166_40 (l1 : Int32) : rn xs L 166 40 [vR 44, vI l1] [] (mw f a g) = some (some (vI (a 45 1)), (mw f a g)) :=
  (r_ald (pg_of mt_166 dX6_state_40 rfl) rfl).trans <|
  (r_gtr (a := 45) (pg_of mt_166 dX6_state_41 rfl) rfl rfl).trans <|
  (r_con (pg_of mt_166 dX6_state_44 rfl) (v2 := (1 : Int32)) (by decide)).trans <|
  (r_ialc (j := 1) (pg_of mt_166 dX6_state_45 rfl) rfl (by decide) (by decide)).trans <|
  (r_ri (pg_of mt_166 dX6_state_46 rfl) mt_166 rfl)
theorem b166_47 (l1 : Int32) : rn xs L 166 47 [vR 44, vI l1] [] (mw f a g) = (ev xs L 153 3 [vR 44] (mw f a g)).bind (fun b => rn xs L 166 51 [vR 44, vI l1] (b.1.toList ++ []) b.2) :=
  (r_ald (pg_of mt_166 dX6_state_47 rfl) rfl).trans <|
  (r_call (t := tt_166) (t2 := tt_153) (pg_of mt_166 dX6_state_48 rfl) mt_166 mt_153 rfl rfl (rcv1 rfl) rfl rfl)
theorem b166_51 (l1 : Int32) (s0 : Int32) : rn xs L 166 51 [vR 44, vI l1] [vI s0] (mw f a g) = some (some (vI s0), (mw f a g)) :=
  (r_ri (pg_of mt_166 dX6_state_51 rfl) mt_166 rfl)
theorem b166_52 (l1 : Int32) : rn xs L 166 52 [vR 44, vI l1] [] (mw f a g) = (ev xs L 167 3 [vR 44] (mw f a g)).bind (fun b => rn xs L 166 56 [vR 44, vI l1] (b.1.toList ++ []) b.2) :=
  (r_ald (pg_of mt_166 dX6_state_52 rfl) rfl).trans <|
  (r_call (t := tt_166) (t2 := tt_167) (pg_of mt_166 dX6_state_53 rfl) mt_166 mt_167 rfl rfl (rcv1 rfl) rfl rfl)
theorem b166_56 (l1 : Int32) (s0 : Int32) : rn xs L 166 56 [vR 44, vI l1] [vI s0] (mw f a g) = some (some (vI s0), (mw f a g)) :=
  (r_ri (pg_of mt_166 dX6_state_56 rfl) mt_166 rfl)
theorem b166_57 (l1 : Int32) : rn xs L 166 57 [vR 44, vI l1] [] (mw f a g) = (ev xs L 168 3 [vR 44] (mw f a g)).bind (fun b => rn xs L 166 61 [vR 44, vI l1] (b.1.toList ++ []) b.2) :=
  (r_ald (pg_of mt_166 dX6_state_57 rfl) rfl).trans <|
  (r_call (t := tt_166) (t2 := tt_168) (pg_of mt_166 dX6_state_58 rfl) mt_166 mt_168 rfl rfl (rcv1 rfl) rfl rfl)
theorem b166_61 (l1 : Int32) (s0 : Int32) : rn xs L 166 61 [vR 44, vI l1] [vI s0] (mw f a g) = some (some (vI s0), (mw f a g)) :=
  (r_ri (pg_of mt_166 dX6_state_61 rfl) mt_166 rfl)
theorem b166_62 (l1 : Int32) : rn xs L 166 62 [vR 44, vI l1] [] (mw f a g) = (ev xs L 169 3 [vR 44] (mw f a g)).bind (fun b => rn xs L 166 66 [vR 44, vI l1] (b.1.toList ++ []) b.2) :=
  (r_ald (pg_of mt_166 dX6_state_62 rfl) rfl).trans <|
  (r_call (t := tt_166) (t2 := tt_169) (pg_of mt_166 dX6_state_63 rfl) mt_166 mt_169 rfl rfl (rcv1 rfl) rfl rfl)
theorem b166_66 (l1 : Int32) (s0 : Int32) : rn xs L 166 66 [vR 44, vI l1] [vI s0] (mw f a g) = some (some (vI s0), (mw f a g)) :=
  (r_ri (pg_of mt_166 dX6_state_66 rfl) mt_166 rfl)
theorem b166_67 (l1 : Int32) : rn xs L 166 67 [vR 44, vI l1] [] (mw f a g) = (ev xs L 170 3 [vR 44] (mw f a g)).bind (fun b => rn xs L 166 71 [vR 44, vI l1] (b.1.toList ++ []) b.2) :=
  (r_ald (pg_of mt_166 dX6_state_67 rfl) rfl).trans <|
  (r_call (t := tt_166) (t2 := tt_170) (pg_of mt_166 dX6_state_68 rfl) mt_166 mt_170 rfl rfl (rcv1 rfl) rfl rfl)
theorem b166_71 (l1 : Int32) (s0 : Int32) : rn xs L 166 71 [vR 44, vI l1] [vI s0] (mw f a g) = some (some (vI s0), (mw f a g)) :=
  (r_ri (pg_of mt_166 dX6_state_71 rfl) mt_166 rfl)
theorem b166_72 (l1 : Int32) : rn xs L 166 72 [vR 44, vI l1] [] (mw f a g) = some (some (vI (-1 : Int32)), (mw f a g)) :=
  (r_con (pg_of mt_166 dX6_state_72 rfl) (v2 := (-1 : Int32)) (by decide)).trans <|
  (r_ri (pg_of mt_166 dX6_state_73 rfl) mt_166 rfl)
-- 167 LeafFallsModel.holdOfAll()I
theorem b167_0 (l1 : ma_V) (l2 : ma_V) : rn xs L 167 0 [vR 44, l1, l2] [] (mw f a g) = rn xs L 167 4 [vR 44, vI (0 : Int32), vI (0 : Int32)] [] (mw f a g) :=
  (r_con (pg_of mt_167 dX6_holdOfAll_0 rfl) (v2 := (0 : Int32)) (by decide)).trans <|
  (r_ist (pg_of mt_167 dX6_holdOfAll_1 rfl) (Nat.le_of_ble_eq_true rfl) rfl).trans <|
  (r_con (pg_of mt_167 dX6_holdOfAll_2 rfl) (v2 := (0 : Int32)) (by decide)).trans <|
  (r_ist (pg_of mt_167 dX6_holdOfAll_3 rfl) (Nat.le_of_ble_eq_true rfl) rfl)
theorem b167_4 (l1 : Int32) (l2 : Int32) : rn xs L 167 4 [vR 44, vI l1, vI l2] [] (mw f a g) = if l2 < (a 45 0) then rn xs L 167 14 [vR 44, vI l1, vI l2] [] (mw f a g) else rn xs L 167 36 [vR 44, vI l1, vI l2] [] (mw f a g) :=
  (r_ild (pg_of mt_167 dX6_holdOfAll_4 rfl) rfl).trans <|
  (r_ald (pg_of mt_167 dX6_holdOfAll_5 rfl) rfl).trans <|
  (r_gtr (a := 45) (pg_of mt_167 dX6_holdOfAll_6 rfl) rfl rfl).trans <|
  (r_con (pg_of mt_167 dX6_holdOfAll_9 rfl) (v2 := (0 : Int32)) (by decide)).trans <|
  (r_ialc (j := 0) (pg_of mt_167 dX6_holdOfAll_10 rfl) rfl (by decide) (by decide)).trans <|
  (r_ge (pg_of mt_167 dX6_holdOfAll_11 rfl))
theorem b167_14 (l1 : Int32) (l2 : Int32) : rn xs L 167 14 [vR 44, vI l1, vI l2] [] (mw f a g) = (ev xs L 142 3 [vR 44, vI l2, vI (4 : Int32)] (mw f a g)).bind (fun b => rn xs L 167 21 [vR 44, vI l1, vI l2] (b.1.toList ++ [vI l1]) b.2) :=
  (r_ild (pg_of mt_167 dX6_holdOfAll_14 rfl) rfl).trans <|
  (r_ald (pg_of mt_167 dX6_holdOfAll_15 rfl) rfl).trans <|
  (r_ild (pg_of mt_167 dX6_holdOfAll_16 rfl) rfl).trans <|
  (r_con (pg_of mt_167 dX6_holdOfAll_17 rfl) (v2 := (4 : Int32)) (by decide)).trans <|
  (r_call (t := tt_167) (t2 := tt_142) (pg_of mt_167 dX6_holdOfAll_18 rfl) mt_167 mt_142 rfl rfl (rcv1 rfl) rfl rfl)
theorem b167_21 (l1 : Int32) (l2 : Int32) (s0 : Int32) (s1 : Int32) : rn xs L 167 21 [vR 44, vI l1, vI l2] [vI s0, vI s1] (mw f a g) = (ev xs L 142 3 [vR 44, vI l2, vI (2 : Int32)] (mw f a g)).bind (fun b => rn xs L 167 27 [vR 44, vI l1, vI l2] (b.1.toList ++ [vI s0, vI s1]) b.2) :=
  (r_ald (pg_of mt_167 dX6_holdOfAll_21 rfl) rfl).trans <|
  (r_ild (pg_of mt_167 dX6_holdOfAll_22 rfl) rfl).trans <|
  (r_con (pg_of mt_167 dX6_holdOfAll_23 rfl) (v2 := (2 : Int32)) (by decide)).trans <|
  (r_call (t := tt_167) (t2 := tt_142) (pg_of mt_167 dX6_holdOfAll_24 rfl) mt_167 mt_142 rfl rfl (rcv1 rfl) rfl rfl)
theorem b167_27 (l1 : Int32) (l2 : Int32) (s0 : Int32) (s1 : Int32) (s2 : Int32) : rn xs L 167 27 [vR 44, vI l1, vI l2] [vI s0, vI s1, vI s2] (mw f a g) = rn xs L 167 4 [vR 44, vI (s2 + (s1 * s0)), vI (l2 + (1 : Int32))] [] (mw f a g) :=
  (r_bin (pg_of mt_167 dX6_holdOfAll_27 rfl)).trans <|
  (r_bin (pg_of mt_167 dX6_holdOfAll_28 rfl)).trans <|
  (r_ist (pg_of mt_167 dX6_holdOfAll_29 rfl) (Nat.le_of_ble_eq_true rfl) rfl).trans <|
  (r_inc (pg_of mt_167 dX6_holdOfAll_30 rfl) (y := (1 : Int32)) (by decide) rfl rfl).trans <|
  (r_gto (pg_of mt_167 dX6_holdOfAll_33 rfl))
theorem b167_36 (l1 : Int32) (l2 : Int32) : rn xs L 167 36 [vR 44, vI l1, vI l2] [] (mw f a g) = some (some (vI l1), (mw f a g)) :=
  (r_ild (pg_of mt_167 dX6_holdOfAll_36 rfl) rfl).trans <|
  (r_ri (pg_of mt_167 dX6_holdOfAll_37 rfl) mt_167 rfl)
-- 168 LeafFallsModel.rhymes()I
theorem b168_0 (l1 : ma_V) (l2 : ma_V) : rn xs L 168 0 [vR 44, l1, l2] [] (mw f a g) = rn xs L 168 4 [vR 44, vI (0 : Int32), vI (1 : Int32)] [] (mw f a g) :=
  (r_con (pg_of mt_168 dX6_rhymes_0 rfl) (v2 := (0 : Int32)) (by decide)).trans <|
  (r_ist (pg_of mt_168 dX6_rhymes_1 rfl) (Nat.le_of_ble_eq_true rfl) rfl).trans <|
  (r_con (pg_of mt_168 dX6_rhymes_2 rfl) (v2 := (1 : Int32)) (by decide)).trans <|
  (r_ist (pg_of mt_168 dX6_rhymes_3 rfl) (Nat.le_of_ble_eq_true rfl) rfl)
theorem b168_4 (l1 : Int32) (l2 : Int32) : rn xs L 168 4 [vR 44, vI l1, vI l2] [] (mw f a g) = if l2 < (a 45 3) then rn xs L 168 14 [vR 44, vI l1, vI l2] [] (mw f a g) else rn xs L 168 43 [vR 44, vI l1, vI l2] [] (mw f a g) :=
  (r_ild (pg_of mt_168 dX6_rhymes_4 rfl) rfl).trans <|
  (r_ald (pg_of mt_168 dX6_rhymes_5 rfl) rfl).trans <|
  (r_gtr (a := 45) (pg_of mt_168 dX6_rhymes_6 rfl) rfl rfl).trans <|
  (r_con (pg_of mt_168 dX6_rhymes_9 rfl) (v2 := (3 : Int32)) (by decide)).trans <|
  (r_ialc (j := 3) (pg_of mt_168 dX6_rhymes_10 rfl) rfl (by decide) (by decide)).trans <|
  (r_ge (pg_of mt_168 dX6_rhymes_11 rfl))
theorem b168_14 (l1 : Int32) (l2 : Int32) : rn xs L 168 14 [vR 44, vI l1, vI l2] [] (mw f a g) = (ev xs L 165 4 [vR 44, vI l2] (mw f a g)).bind (fun b => rn xs L 168 20 [vR 44, vI l1, vI l2] (b.1.toList ++ [vI l1]) b.2) :=
  (r_ild (pg_of mt_168 dX6_rhymes_14 rfl) rfl).trans <|
  (r_ald (pg_of mt_168 dX6_rhymes_15 rfl) rfl).trans <|
  (r_ild (pg_of mt_168 dX6_rhymes_16 rfl) rfl).trans <|
  (r_call (t := tt_168) (t2 := tt_165) (pg_of mt_168 dX6_rhymes_17 rfl) mt_168 mt_165 rfl rfl (rcv1 rfl) rfl rfl)
theorem b168_20 (l1 : Int32) (l2 : Int32) (s0 : Int32) (s1 : Int32) : rn xs L 168 20 [vR 44, vI l1, vI l2] [vI s0, vI s1] (mw f a g) = (ev xs L 165 4 [vR 44, vI (l2 - (1 : Int32))] (mw f a g)).bind (fun b => rn xs L 168 27 [vR 44, vI l1, vI l2] (b.1.toList ++ [vI s0, vI s1]) b.2) :=
  (r_ald (pg_of mt_168 dX6_rhymes_20 rfl) rfl).trans <|
  (r_ild (pg_of mt_168 dX6_rhymes_21 rfl) rfl).trans <|
  (r_con (pg_of mt_168 dX6_rhymes_22 rfl) (v2 := (1 : Int32)) (by decide)).trans <|
  (r_bin (pg_of mt_168 dX6_rhymes_23 rfl)).trans <|
  (r_call (t := tt_168) (t2 := tt_165) (pg_of mt_168 dX6_rhymes_24 rfl) mt_168 mt_165 rfl rfl (rcv1 rfl) rfl rfl)
theorem b168_27 (l1 : Int32) (l2 : Int32) (s0 : Int32) (s1 : Int32) (s2 : Int32) : rn xs L 168 27 [vR 44, vI l1, vI l2] [vI s0, vI s1, vI s2] (mw f a g) = if s1 = s0 then rn xs L 168 30 [vR 44, vI l1, vI l2] [vI s2] (mw f a g) else rn xs L 168 34 [vR 44, vI l1, vI l2] [vI s2] (mw f a g) :=
  (r_ne (pg_of mt_168 dX6_rhymes_27 rfl))
theorem b168_30 (l1 : Int32) (l2 : Int32) (s0 : Int32) : rn xs L 168 30 [vR 44, vI l1, vI l2] [vI s0] (mw f a g) = rn xs L 168 4 [vR 44, vI (s0 + (1 : Int32)), vI (l2 + (1 : Int32))] [] (mw f a g) :=
  (r_con (pg_of mt_168 dX6_rhymes_30 rfl) (v2 := (1 : Int32)) (by decide)).trans <|
  (r_gto (pg_of mt_168 dX6_rhymes_31 rfl)).trans <|
  (r_bin (pg_of mt_168 dX6_rhymes_35 rfl)).trans <|
  (r_ist (pg_of mt_168 dX6_rhymes_36 rfl) (Nat.le_of_ble_eq_true rfl) rfl).trans <|
  (r_inc (pg_of mt_168 dX6_rhymes_37 rfl) (y := (1 : Int32)) (by decide) rfl rfl).trans <|
  (r_gto (pg_of mt_168 dX6_rhymes_40 rfl))
theorem b168_34 (l1 : Int32) (l2 : Int32) (s0 : Int32) : rn xs L 168 34 [vR 44, vI l1, vI l2] [vI s0] (mw f a g) = rn xs L 168 4 [vR 44, vI (s0 + (0 : Int32)), vI (l2 + (1 : Int32))] [] (mw f a g) :=
  (r_con (pg_of mt_168 dX6_rhymes_34 rfl) (v2 := (0 : Int32)) (by decide)).trans <|
  (r_bin (pg_of mt_168 dX6_rhymes_35 rfl)).trans <|
  (r_ist (pg_of mt_168 dX6_rhymes_36 rfl) (Nat.le_of_ble_eq_true rfl) rfl).trans <|
  (r_inc (pg_of mt_168 dX6_rhymes_37 rfl) (y := (1 : Int32)) (by decide) rfl rfl).trans <|
  (r_gto (pg_of mt_168 dX6_rhymes_40 rfl))
theorem b168_43 (l1 : Int32) (l2 : Int32) : rn xs L 168 43 [vR 44, vI l1, vI l2] [] (mw f a g) = some (some (vI l1), (mw f a g)) :=
  (r_ild (pg_of mt_168 dX6_rhymes_43 rfl) rfl).trans <|
  (r_ri (pg_of mt_168 dX6_rhymes_44 rfl) mt_168 rfl)
-- 169 LeafFallsModel.spelled()I
theorem b169_0 (l1 : ma_V) (l2 : ma_V) : rn xs L 169 0 [vR 44, l1, l2] [] (mw f a g) = rn xs L 169 4 [vR 44, vI (0 : Int32), vI (0 : Int32)] [] (mw f a g) :=
  (r_con (pg_of mt_169 dX6_spelled_0 rfl) (v2 := (0 : Int32)) (by decide)).trans <|
  (r_ist (pg_of mt_169 dX6_spelled_1 rfl) (Nat.le_of_ble_eq_true rfl) rfl).trans <|
  (r_con (pg_of mt_169 dX6_spelled_2 rfl) (v2 := (0 : Int32)) (by decide)).trans <|
  (r_ist (pg_of mt_169 dX6_spelled_3 rfl) (Nat.le_of_ble_eq_true rfl) rfl)
theorem b169_4 (l1 : Int32) (l2 : Int32) : rn xs L 169 4 [vR 44, vI l1, vI l2] [] (mw f a g) = if l2 < (a 45 3) then rn xs L 169 14 [vR 44, vI l1, vI l2] [] (mw f a g) else rn xs L 169 31 [vR 44, vI l1, vI l2] [] (mw f a g) :=
  (r_ild (pg_of mt_169 dX6_spelled_4 rfl) rfl).trans <|
  (r_ald (pg_of mt_169 dX6_spelled_5 rfl) rfl).trans <|
  (r_gtr (a := 45) (pg_of mt_169 dX6_spelled_6 rfl) rfl rfl).trans <|
  (r_con (pg_of mt_169 dX6_spelled_9 rfl) (v2 := (3 : Int32)) (by decide)).trans <|
  (r_ialc (j := 3) (pg_of mt_169 dX6_spelled_10 rfl) rfl (by decide) (by decide)).trans <|
  (r_ge (pg_of mt_169 dX6_spelled_11 rfl))
theorem b169_14 (l1 : Int32) (l2 : Int32) : rn xs L 169 14 [vR 44, vI l1, vI l2] [] (mw f a g) = (ev xs L 165 4 [vR 44, vI l2] (mw f a g)).bind (fun b => rn xs L 169 23 [vR 44, vI l1, vI l2] (b.1.toList ++ [vI ((10 : Int32) * l1)]) b.2) :=
  (r_con (pg_of mt_169 dX6_spelled_14 rfl) (v2 := (10 : Int32)) (by decide)).trans <|
  (r_ild (pg_of mt_169 dX6_spelled_16 rfl) rfl).trans <|
  (r_bin (pg_of mt_169 dX6_spelled_17 rfl)).trans <|
  (r_ald (pg_of mt_169 dX6_spelled_18 rfl) rfl).trans <|
  (r_ild (pg_of mt_169 dX6_spelled_19 rfl) rfl).trans <|
  (r_call (t := tt_169) (t2 := tt_165) (pg_of mt_169 dX6_spelled_20 rfl) mt_169 mt_165 rfl rfl (rcv1 rfl) rfl rfl)
theorem b169_23 (l1 : Int32) (l2 : Int32) (s0 : Int32) (s1 : Int32) : rn xs L 169 23 [vR 44, vI l1, vI l2] [vI s0, vI s1] (mw f a g) = rn xs L 169 4 [vR 44, vI (s1 + s0), vI (l2 + (1 : Int32))] [] (mw f a g) :=
  (r_bin (pg_of mt_169 dX6_spelled_23 rfl)).trans <|
  (r_ist (pg_of mt_169 dX6_spelled_24 rfl) (Nat.le_of_ble_eq_true rfl) rfl).trans <|
  (r_inc (pg_of mt_169 dX6_spelled_25 rfl) (y := (1 : Int32)) (by decide) rfl rfl).trans <|
  (r_gto (pg_of mt_169 dX6_spelled_28 rfl))
theorem b169_31 (l1 : Int32) (l2 : Int32) : rn xs L 169 31 [vR 44, vI l1, vI l2] [] (mw f a g) = some (some (vI l1), (mw f a g)) :=
  (r_ild (pg_of mt_169 dX6_spelled_31 rfl) rfl).trans <|
  (r_ri (pg_of mt_169 dX6_spelled_32 rfl) mt_169 rfl)
-- 170 LeafFallsModel.swayOfAll()I
theorem b170_0 (l1 : ma_V) (l2 : ma_V) : rn xs L 170 0 [vR 44, l1, l2] [] (mw f a g) = rn xs L 170 4 [vR 44, vI (0 : Int32), vI (0 : Int32)] [] (mw f a g) :=
  (r_con (pg_of mt_170 dX6_swayOfAll_0 rfl) (v2 := (0 : Int32)) (by decide)).trans <|
  (r_ist (pg_of mt_170 dX6_swayOfAll_1 rfl) (Nat.le_of_ble_eq_true rfl) rfl).trans <|
  (r_con (pg_of mt_170 dX6_swayOfAll_2 rfl) (v2 := (0 : Int32)) (by decide)).trans <|
  (r_ist (pg_of mt_170 dX6_swayOfAll_3 rfl) (Nat.le_of_ble_eq_true rfl) rfl)
theorem b170_4 (l1 : Int32) (l2 : Int32) : rn xs L 170 4 [vR 44, vI l1, vI l2] [] (mw f a g) = if l2 < (6 : Int32) then rn xs L 170 10 [vR 44, vI l1, vI l2] [] (mw f a g) else rn xs L 170 28 [vR 44, vI l1, vI l2] [] (mw f a g) :=
  (r_ild (pg_of mt_170 dX6_swayOfAll_4 rfl) rfl).trans <|
  (r_con (pg_of mt_170 dX6_swayOfAll_5 rfl) (v2 := (6 : Int32)) (by decide)).trans <|
  (r_ge (pg_of mt_170 dX6_swayOfAll_7 rfl))
theorem b170_10 (l1 : Int32) (l2 : Int32) (h1 : ma_in (((8 : Int32) + l2)) 62 = true) : rn xs L 170 10 [vR 44, vI l1, vI l2] [] (mw f a g) = rn xs L 170 4 [vR 44, vI (l1 + (a 45 (((8 : Int32) + l2)).toNatClampNeg)), vI (l2 + (1 : Int32))] [] (mw f a g) :=
  (r_ild (pg_of mt_170 dX6_swayOfAll_10 rfl) rfl).trans <|
  (r_ald (pg_of mt_170 dX6_swayOfAll_11 rfl) rfl).trans <|
  (r_gtr (a := 45) (pg_of mt_170 dX6_swayOfAll_12 rfl) rfl rfl).trans <|
  (r_con (pg_of mt_170 dX6_swayOfAll_15 rfl) (v2 := (8 : Int32)) (by decide)).trans <|
  (r_ild (pg_of mt_170 dX6_swayOfAll_17 rfl) rfl).trans <|
  (r_bin (pg_of mt_170 dX6_swayOfAll_18 rfl)).trans <|
  (r_iald (pg_of mt_170 dX6_swayOfAll_19 rfl) rfl h1).trans <|
  (r_bin (pg_of mt_170 dX6_swayOfAll_20 rfl)).trans <|
  (r_ist (pg_of mt_170 dX6_swayOfAll_21 rfl) (Nat.le_of_ble_eq_true rfl) rfl).trans <|
  (r_inc (pg_of mt_170 dX6_swayOfAll_22 rfl) (y := (1 : Int32)) (by decide) rfl rfl).trans <|
  (r_gto (pg_of mt_170 dX6_swayOfAll_25 rfl))
theorem b170_28 (l1 : Int32) (l2 : Int32) : rn xs L 170 28 [vR 44, vI l1, vI l2] [] (mw f a g) = some (some (vI l1), (mw f a g)) :=
  (r_ild (pg_of mt_170 dX6_swayOfAll_28 rfl) rfl).trans <|
  (r_ri (pg_of mt_170 dX6_swayOfAll_29 rfl) mt_170 rfl)
-- 171 LeafFallsModel.falls(I)I
theorem b171_0 (l1 : Int32) (l2 : ma_V) : rn xs L 171 0 [vR 44, vI l1, l2] [] (mw f a g) = (ev xs L 140 2 [vR 44, vI l1] (mw f a g)).bind (fun b => rn xs L 171 5 [vR 44, vI l1, l2] (b.1.toList ++ []) b.2) :=
  (r_ald (pg_of mt_171 dX6_falls_0 rfl) rfl).trans <|
  (r_ild (pg_of mt_171 dX6_falls_1 rfl) rfl).trans <|
  (r_call (t := tt_171) (t2 := tt_140) (pg_of mt_171 dX6_falls_2 rfl) mt_171 mt_140 rfl rfl (rcv1 rfl) rfl rfl)
theorem b171_5 (l1 : Int32) (l2 : ma_V) (s0 : Int32) : rn xs L 171 5 [vR 44, vI l1, l2] [vI s0] (mw f a g) = if s0 = 0 then rn xs L 171 8 [vR 44, vI l1, l2] [] (mw f a g) else rn xs L 171 10 [vR 44, vI l1, l2] [] (mw f a g) :=
  (r_ne0 (pg_of mt_171 dX6_falls_5 rfl))
theorem b171_8 (l1 : Int32) (l2 : ma_V) : rn xs L 171 8 [vR 44, vI l1, l2] [] (mw f a g) = some (some (vI (-1 : Int32)), (mw f a g)) :=
  (r_con (pg_of mt_171 dX6_falls_8 rfl) (v2 := (-1 : Int32)) (by decide)).trans <|
  (r_ri (pg_of mt_171 dX6_falls_9 rfl) mt_171 rfl)
theorem b171_10 (l1 : Int32) (l2 : ma_V) : rn xs L 171 10 [vR 44, vI l1, l2] [] (mw f a g) = (ev xs L 172 4 [vR 44, vI l1] (mw f a g)).bind (fun b => rn xs L 171 15 [vR 44, vI l1, l2] (b.1.toList ++ []) b.2) :=
  (r_ald (pg_of mt_171 dX6_falls_10 rfl) rfl).trans <|
  (r_ild (pg_of mt_171 dX6_falls_11 rfl) rfl).trans <|
  (r_call (t := tt_171) (t2 := tt_172) (pg_of mt_171 dX6_falls_12 rfl) mt_171 mt_172 rfl rfl (rcv1 rfl) rfl rfl)
theorem b171_15 (l1 : Int32) (l2 : ma_V) (s0 : Int32) : rn xs L 171 15 [vR 44, vI l1, l2] [vI s0] (mw f a g) = if (60 : Int32) < s0 then rn xs L 171 26 [vR 44, vI l1, vI s0] [] (mw f a g) else rn xs L 171 22 [vR 44, vI l1, vI s0] [] (mw f a g) :=
  (r_ist (pg_of mt_171 dX6_falls_15 rfl) (Nat.le_of_ble_eq_true rfl) rfl).trans <|
  (r_ild (pg_of mt_171 dX6_falls_16 rfl) rfl).trans <|
  (r_con (pg_of mt_171 dX6_falls_17 rfl) (v2 := (60 : Int32)) (by decide)).trans <|
  (r_gt (pg_of mt_171 dX6_falls_19 rfl))
theorem b171_22 (l1 : Int32) (l2 : Int32) : rn xs L 171 22 [vR 44, vI l1, vI l2] [] (mw f a g) = some (some (vI l2), (mw f a g)) :=
  (r_ild (pg_of mt_171 dX6_falls_22 rfl) rfl).trans <|
  (r_gto (pg_of mt_171 dX6_falls_23 rfl)).trans <|
  (r_ri (pg_of mt_171 dX6_falls_28 rfl) mt_171 rfl)
theorem b171_26 (l1 : Int32) (l2 : Int32) : rn xs L 171 26 [vR 44, vI l1, vI l2] [] (mw f a g) = some (some (vI (-3 : Int32)), (mw f a g)) :=
  (r_con (pg_of mt_171 dX6_falls_26 rfl) (v2 := (-3 : Int32)) (by decide)).trans <|
  (r_ri (pg_of mt_171 dX6_falls_28 rfl) mt_171 rfl)
-- 172 LeafFallsModel.fallsBy(I)I
theorem b172_0 (l1 : Int32) (l2 : ma_V) (l3 : ma_V) : rn xs L 172 0 [vR 44, vI l1, l2, l3] [] (mw f a g) = (ev xs L 117 3 [vR 45, vR 47] (mw f a g)).bind (fun b => rn xs L 172 11 [vR 44, vI l1, l2, l3] (b.1.toList ++ []) b.2) :=
  (r_ald (pg_of mt_172 dX6_fallsBy_0 rfl) rfl).trans <|
  (r_gtr (a := 45) (pg_of mt_172 dX6_fallsBy_1 rfl) rfl rfl).trans <|
  (r_ald (pg_of mt_172 dX6_fallsBy_4 rfl) rfl).trans <|
  (r_gtr (a := 47) (pg_of mt_172 dX6_fallsBy_5 rfl) rfl rfl).trans <|
  (r_call (t := tt_172) (t2 := tt_117) (pg_of mt_172 dX6_fallsBy_8 rfl) mt_172 mt_117 rfl rfl rfl rfl rfl)
theorem b172_11 (l1 : Int32) (l2 : ma_V) (l3 : ma_V) : rn xs L 172 11 [vR 44, vI l1, l2, l3] [] (mw f a g) = rn xs L 172 13 [vR 44, vI l1, vI (0 : Int32), l3] [] (mw f a g) :=
  (r_con (pg_of mt_172 dX6_fallsBy_11 rfl) (v2 := (0 : Int32)) (by decide)).trans <|
  (r_ist (pg_of mt_172 dX6_fallsBy_12 rfl) (Nat.le_of_ble_eq_true rfl) rfl)
theorem b172_13 (l1 : Int32) (l2 : Int32) (l3 : ma_V) : rn xs L 172 13 [vR 44, vI l1, vI l2, l3] [] (mw f a g) = if (60 : Int32) < l2 then rn xs L 172 41 [vR 44, vI l1, vI l2, l3] [] (mw f a g) else rn xs L 172 19 [vR 44, vI l1, vI l2, l3] [] (mw f a g) :=
  (r_ild (pg_of mt_172 dX6_fallsBy_13 rfl) rfl).trans <|
  (r_con (pg_of mt_172 dX6_fallsBy_14 rfl) (v2 := (60 : Int32)) (by decide)).trans <|
  (r_gt (pg_of mt_172 dX6_fallsBy_16 rfl))
theorem b172_19 (l1 : Int32) (l2 : Int32) (l3 : ma_V) : rn xs L 172 19 [vR 44, vI l1, vI l2, l3] [] (mw f a g) = (ev xs L 142 3 [vR 44, vI l1, vI (4 : Int32)] (mw f a g)).bind (fun b => rn xs L 172 25 [vR 44, vI l1, vI l2, l3] (b.1.toList ++ []) b.2) :=
  (r_ald (pg_of mt_172 dX6_fallsBy_19 rfl) rfl).trans <|
  (r_ild (pg_of mt_172 dX6_fallsBy_20 rfl) rfl).trans <|
  (r_con (pg_of mt_172 dX6_fallsBy_21 rfl) (v2 := (4 : Int32)) (by decide)).trans <|
  (r_call (t := tt_172) (t2 := tt_142) (pg_of mt_172 dX6_fallsBy_22 rfl) mt_172 mt_142 rfl rfl (rcv1 rfl) rfl rfl)
theorem b172_25 (l1 : Int32) (l2 : Int32) (l3 : ma_V) (s0 : Int32) : rn xs L 172 25 [vR 44, vI l1, vI l2, l3] [vI s0] (mw f a g) = if s0 = (1 : Int32) then rn xs L 172 29 [vR 44, vI l1, vI l2, l3] [] (mw f a g) else rn xs L 172 41 [vR 44, vI l1, vI l2, l3] [] (mw f a g) :=
  (r_con (pg_of mt_172 dX6_fallsBy_25 rfl) (v2 := (1 : Int32)) (by decide)).trans <|
  (r_ne (pg_of mt_172 dX6_fallsBy_26 rfl))
theorem b172_29 (l1 : Int32) (l2 : Int32) (l3 : ma_V) : rn xs L 172 29 [vR 44, vI l1, vI l2, l3] [] (mw f a g) = (ev xs L 157 5 [vR 44, vI (0 : Int32)] (mw f a g)).bind (fun b => rn xs L 172 34 [vR 44, vI l1, vI l2, l3] (b.1.toList ++ []) b.2) :=
  (r_ald (pg_of mt_172 dX6_fallsBy_29 rfl) rfl).trans <|
  (r_con (pg_of mt_172 dX6_fallsBy_30 rfl) (v2 := (0 : Int32)) (by decide)).trans <|
  (r_call (t := tt_172) (t2 := tt_157) (pg_of mt_172 dX6_fallsBy_31 rfl) mt_172 mt_157 rfl rfl (rcv1 rfl) rfl rfl)
theorem b172_34 (l1 : Int32) (l2 : Int32) (l3 : ma_V) (s0 : Int32) : rn xs L 172 34 [vR 44, vI l1, vI l2, l3] [vI s0] (mw f a g) = rn xs L 172 13 [vR 44, vI l1, vI (l2 + (1 : Int32)), vI s0] [] (mw f a g) :=
  (r_ist (pg_of mt_172 dX6_fallsBy_34 rfl) (Nat.le_of_ble_eq_true rfl) rfl).trans <|
  (r_inc (pg_of mt_172 dX6_fallsBy_35 rfl) (y := (1 : Int32)) (by decide) rfl rfl).trans <|
  (r_gto (pg_of mt_172 dX6_fallsBy_38 rfl))
theorem b172_41 (l1 : Int32) (l2 : Int32) (l3 : ma_V) : rn xs L 172 41 [vR 44, vI l1, vI l2, l3] [] (mw f a g) = (ev xs L 117 3 [vR 47, vR 45] (mw f a g)).bind (fun b => rn xs L 172 52 [vR 44, vI l1, vI l2, l3] (b.1.toList ++ []) b.2) :=
  (r_ald (pg_of mt_172 dX6_fallsBy_41 rfl) rfl).trans <|
  (r_gtr (a := 47) (pg_of mt_172 dX6_fallsBy_42 rfl) rfl rfl).trans <|
  (r_ald (pg_of mt_172 dX6_fallsBy_45 rfl) rfl).trans <|
  (r_gtr (a := 45) (pg_of mt_172 dX6_fallsBy_46 rfl) rfl rfl).trans <|
  (r_call (t := tt_172) (t2 := tt_117) (pg_of mt_172 dX6_fallsBy_49 rfl) mt_172 mt_117 rfl rfl rfl rfl rfl)
theorem b172_52 (l1 : Int32) (l2 : Int32) (l3 : ma_V) : rn xs L 172 52 [vR 44, vI l1, vI l2, l3] [] (mw f a g) = some (some (vI l2), (mw f a g)) :=
  (r_ild (pg_of mt_172 dX6_fallsBy_52 rfl) rfl).trans <|
  (r_ri (pg_of mt_172 dX6_fallsBy_53 rfl) mt_172 rfl)
-- 173 LeafFallsModel.bare()I
theorem b173_0 (l1 : ma_V) (l2 : ma_V) : rn xs L 173 0 [vR 44, l1, l2] [] (mw f a g) = (ev xs L 117 3 [vR 45, vR 47] (mw f a g)).bind (fun b => rn xs L 173 11 [vR 44, l1, l2] (b.1.toList ++ []) b.2) :=
  (r_ald (pg_of mt_173 dX6_bare_0 rfl) rfl).trans <|
  (r_gtr (a := 45) (pg_of mt_173 dX6_bare_1 rfl) rfl rfl).trans <|
  (r_ald (pg_of mt_173 dX6_bare_4 rfl) rfl).trans <|
  (r_gtr (a := 47) (pg_of mt_173 dX6_bare_5 rfl) rfl rfl).trans <|
  (r_call (t := tt_173) (t2 := tt_117) (pg_of mt_173 dX6_bare_8 rfl) mt_173 mt_117 rfl rfl rfl rfl rfl)
theorem b173_11 (l1 : ma_V) (l2 : ma_V) : rn xs L 173 11 [vR 44, l1, l2] [] (mw f a g) = rn xs L 173 13 [vR 44, vI (0 : Int32), l2] [] (mw f a g) :=
  (r_con (pg_of mt_173 dX6_bare_11 rfl) (v2 := (0 : Int32)) (by decide)).trans <|
  (r_ist (pg_of mt_173 dX6_bare_12 rfl) (Nat.le_of_ble_eq_true rfl) rfl)
theorem b173_13 (l1 : Int32) (l2 : ma_V) : rn xs L 173 13 [vR 44, vI l1, l2] [] (mw f a g) = if (60 : Int32) < l1 then rn xs L 173 38 [vR 44, vI l1, l2] [] (mw f a g) else rn xs L 173 19 [vR 44, vI l1, l2] [] (mw f a g) :=
  (r_ild (pg_of mt_173 dX6_bare_13 rfl) rfl).trans <|
  (r_con (pg_of mt_173 dX6_bare_14 rfl) (v2 := (60 : Int32)) (by decide)).trans <|
  (r_gt (pg_of mt_173 dX6_bare_16 rfl))
theorem b173_19 (l1 : Int32) (l2 : ma_V) : rn xs L 173 19 [vR 44, vI l1, l2] [] (mw f a g) = (ev xs L 153 3 [vR 44] (mw f a g)).bind (fun b => rn xs L 173 23 [vR 44, vI l1, l2] (b.1.toList ++ []) b.2) :=
  (r_ald (pg_of mt_173 dX6_bare_19 rfl) rfl).trans <|
  (r_call (t := tt_173) (t2 := tt_153) (pg_of mt_173 dX6_bare_20 rfl) mt_173 mt_153 rfl rfl (rcv1 rfl) rfl rfl)
theorem b173_23 (l1 : Int32) (l2 : ma_V) (s0 : Int32) : rn xs L 173 23 [vR 44, vI l1, l2] [vI s0] (mw f a g) = if s0 = 0 then rn xs L 173 38 [vR 44, vI l1, l2] [] (mw f a g) else rn xs L 173 26 [vR 44, vI l1, l2] [] (mw f a g) :=
  (r_eq0 (pg_of mt_173 dX6_bare_23 rfl))
theorem b173_26 (l1 : Int32) (l2 : ma_V) : rn xs L 173 26 [vR 44, vI l1, l2] [] (mw f a g) = (ev xs L 157 5 [vR 44, vI (0 : Int32)] (mw f a g)).bind (fun b => rn xs L 173 31 [vR 44, vI l1, l2] (b.1.toList ++ []) b.2) :=
  (r_ald (pg_of mt_173 dX6_bare_26 rfl) rfl).trans <|
  (r_con (pg_of mt_173 dX6_bare_27 rfl) (v2 := (0 : Int32)) (by decide)).trans <|
  (r_call (t := tt_173) (t2 := tt_157) (pg_of mt_173 dX6_bare_28 rfl) mt_173 mt_157 rfl rfl (rcv1 rfl) rfl rfl)
theorem b173_31 (l1 : Int32) (l2 : ma_V) (s0 : Int32) : rn xs L 173 31 [vR 44, vI l1, l2] [vI s0] (mw f a g) = rn xs L 173 13 [vR 44, vI (l1 + (1 : Int32)), vI s0] [] (mw f a g) :=
  (r_ist (pg_of mt_173 dX6_bare_31 rfl) (Nat.le_of_ble_eq_true rfl) rfl).trans <|
  (r_inc (pg_of mt_173 dX6_bare_32 rfl) (y := (1 : Int32)) (by decide) rfl rfl).trans <|
  (r_gto (pg_of mt_173 dX6_bare_35 rfl))
theorem b173_38 (l1 : Int32) (l2 : ma_V) : rn xs L 173 38 [vR 44, vI l1, l2] [] (mw f a g) = (ev xs L 117 3 [vR 47, vR 45] (mw f a g)).bind (fun b => rn xs L 173 49 [vR 44, vI l1, l2] (b.1.toList ++ []) b.2) :=
  (r_ald (pg_of mt_173 dX6_bare_38 rfl) rfl).trans <|
  (r_gtr (a := 47) (pg_of mt_173 dX6_bare_39 rfl) rfl rfl).trans <|
  (r_ald (pg_of mt_173 dX6_bare_42 rfl) rfl).trans <|
  (r_gtr (a := 45) (pg_of mt_173 dX6_bare_43 rfl) rfl rfl).trans <|
  (r_call (t := tt_173) (t2 := tt_117) (pg_of mt_173 dX6_bare_46 rfl) mt_173 mt_117 rfl rfl rfl rfl rfl)
theorem b173_49 (l1 : Int32) (l2 : ma_V) : rn xs L 173 49 [vR 44, vI l1, l2] [] (mw f a g) = if (60 : Int32) < l1 then rn xs L 173 59 [vR 44, vI l1, l2] [] (mw f a g) else rn xs L 173 55 [vR 44, vI l1, l2] [] (mw f a g) :=
  (r_ild (pg_of mt_173 dX6_bare_49 rfl) rfl).trans <|
  (r_con (pg_of mt_173 dX6_bare_50 rfl) (v2 := (60 : Int32)) (by decide)).trans <|
  (r_gt (pg_of mt_173 dX6_bare_52 rfl))
theorem b173_55 (l1 : Int32) (l2 : ma_V) : rn xs L 173 55 [vR 44, vI l1, l2] [] (mw f a g) = some (some (vI l1), (mw f a g)) :=
  (r_ild (pg_of mt_173 dX6_bare_55 rfl) rfl).trans <|
  (r_gto (pg_of mt_173 dX6_bare_56 rfl)).trans <|
  (r_ri (pg_of mt_173 dX6_bare_61 rfl) mt_173 rfl)
theorem b173_59 (l1 : Int32) (l2 : ma_V) : rn xs L 173 59 [vR 44, vI l1, l2] [] (mw f a g) = some (some (vI (-3 : Int32)), (mw f a g)) :=
  (r_con (pg_of mt_173 dX6_bare_59 rfl) (v2 := (-3 : Int32)) (by decide)).trans <|
  (r_ri (pg_of mt_173 dX6_bare_61 rfl) mt_173 rfl)
-- 174 LeafFallsModel.next()I
theorem b174_0 (l1 : ma_V) (l2 : ma_V) : rn xs L 174 0 [vR 44, l1, l2] [] (mw f a g) = (ev xs L 117 3 [vR 45, vR 47] (mw f a g)).bind (fun b => rn xs L 174 11 [vR 44, l1, l2] (b.1.toList ++ []) b.2) :=
  (r_ald (pg_of mt_174 dX6_next_0 rfl) rfl).trans <|
  (r_gtr (a := 45) (pg_of mt_174 dX6_next_1 rfl) rfl rfl).trans <|
  (r_ald (pg_of mt_174 dX6_next_4 rfl) rfl).trans <|
  (r_gtr (a := 47) (pg_of mt_174 dX6_next_5 rfl) rfl rfl).trans <|
  (r_call (t := tt_174) (t2 := tt_117) (pg_of mt_174 dX6_next_8 rfl) mt_174 mt_117 rfl rfl rfl rfl rfl)
theorem b174_11 (l1 : ma_V) (l2 : ma_V) : rn xs L 174 11 [vR 44, l1, l2] [] (mw f a g) = rn xs L 174 15 [vR 44, vI (-1 : Int32), vI (0 : Int32)] [] (mw f a g) :=
  (r_con (pg_of mt_174 dX6_next_11 rfl) (v2 := (-1 : Int32)) (by decide)).trans <|
  (r_ist (pg_of mt_174 dX6_next_12 rfl) (Nat.le_of_ble_eq_true rfl) rfl).trans <|
  (r_con (pg_of mt_174 dX6_next_13 rfl) (v2 := (0 : Int32)) (by decide)).trans <|
  (r_ist (pg_of mt_174 dX6_next_14 rfl) (Nat.le_of_ble_eq_true rfl) rfl)
theorem b174_15 (l1 : Int32) (l2 : Int32) : rn xs L 174 15 [vR 44, vI l1, vI l2] [] (mw f a g) = if l2 < (60 : Int32) then rn xs L 174 21 [vR 44, vI l1, vI l2] [] (mw f a g) else rn xs L 174 37 [vR 44, vI l1, vI l2] [] (mw f a g) :=
  (r_ild (pg_of mt_174 dX6_next_15 rfl) rfl).trans <|
  (r_con (pg_of mt_174 dX6_next_16 rfl) (v2 := (60 : Int32)) (by decide)).trans <|
  (r_ge (pg_of mt_174 dX6_next_18 rfl))
theorem b174_21 (l1 : Int32) (l2 : Int32) : rn xs L 174 21 [vR 44, vI l1, vI l2] [] (mw f a g) = if l1 < 0 then rn xs L 174 25 [vR 44, vI l1, vI l2] [] (mw f a g) else rn xs L 174 37 [vR 44, vI l1, vI l2] [] (mw f a g) :=
  (r_ild (pg_of mt_174 dX6_next_21 rfl) rfl).trans <|
  (r_ge0 (pg_of mt_174 dX6_next_22 rfl))
theorem b174_25 (l1 : Int32) (l2 : Int32) : rn xs L 174 25 [vR 44, vI l1, vI l2] [] (mw f a g) = (ev xs L 157 5 [vR 44, vI (0 : Int32)] (mw f a g)).bind (fun b => rn xs L 174 30 [vR 44, vI l1, vI l2] (b.1.toList ++ []) b.2) :=
  (r_ald (pg_of mt_174 dX6_next_25 rfl) rfl).trans <|
  (r_con (pg_of mt_174 dX6_next_26 rfl) (v2 := (0 : Int32)) (by decide)).trans <|
  (r_call (t := tt_174) (t2 := tt_157) (pg_of mt_174 dX6_next_27 rfl) mt_174 mt_157 rfl rfl (rcv1 rfl) rfl rfl)
theorem b174_30 (l1 : Int32) (l2 : Int32) (s0 : Int32) : rn xs L 174 30 [vR 44, vI l1, vI l2] [vI s0] (mw f a g) = rn xs L 174 15 [vR 44, vI s0, vI (l2 + (1 : Int32))] [] (mw f a g) :=
  (r_ist (pg_of mt_174 dX6_next_30 rfl) (Nat.le_of_ble_eq_true rfl) rfl).trans <|
  (r_inc (pg_of mt_174 dX6_next_31 rfl) (y := (1 : Int32)) (by decide) rfl rfl).trans <|
  (r_gto (pg_of mt_174 dX6_next_34 rfl))
theorem b174_37 (l1 : Int32) (l2 : Int32) : rn xs L 174 37 [vR 44, vI l1, vI l2] [] (mw f a g) = (ev xs L 117 3 [vR 47, vR 45] (mw f a g)).bind (fun b => rn xs L 174 48 [vR 44, vI l1, vI l2] (b.1.toList ++ []) b.2) :=
  (r_ald (pg_of mt_174 dX6_next_37 rfl) rfl).trans <|
  (r_gtr (a := 47) (pg_of mt_174 dX6_next_38 rfl) rfl rfl).trans <|
  (r_ald (pg_of mt_174 dX6_next_41 rfl) rfl).trans <|
  (r_gtr (a := 45) (pg_of mt_174 dX6_next_42 rfl) rfl rfl).trans <|
  (r_call (t := tt_174) (t2 := tt_117) (pg_of mt_174 dX6_next_45 rfl) mt_174 mt_117 rfl rfl rfl rfl rfl)
theorem b174_48 (l1 : Int32) (l2 : Int32) : rn xs L 174 48 [vR 44, vI l1, vI l2] [] (mw f a g) = if l1 < 0 then rn xs L 174 52 [vR 44, vI l1, vI l2] [] (mw f a g) else rn xs L 174 57 [vR 44, vI l1, vI l2] [] (mw f a g) :=
  (r_ild (pg_of mt_174 dX6_next_48 rfl) rfl).trans <|
  (r_ge0 (pg_of mt_174 dX6_next_49 rfl))
theorem b174_52 (l1 : Int32) (l2 : Int32) : rn xs L 174 52 [vR 44, vI l1, vI l2] [] (mw f a g) = some (some (vI (-3 : Int32)), (mw f a g)) :=
  (r_con (pg_of mt_174 dX6_next_52 rfl) (v2 := (-3 : Int32)) (by decide)).trans <|
  (r_gto (pg_of mt_174 dX6_next_54 rfl)).trans <|
  (r_ri (pg_of mt_174 dX6_next_58 rfl) mt_174 rfl)
theorem b174_57 (l1 : Int32) (l2 : Int32) : rn xs L 174 57 [vR 44, vI l1, vI l2] [] (mw f a g) = some (some (vI l1), (mw f a g)) :=
  (r_ild (pg_of mt_174 dX6_next_57 rfl) rfl).trans <|
  (r_ri (pg_of mt_174 dX6_next_58 rfl) mt_174 rfl)
-- 175 LeafFallsModel.latest()I
theorem b175_0 (l1 : ma_V) (l2 : ma_V) (l3 : ma_V) (l4 : ma_V) : rn xs L 175 0 [vR 44, l1, l2, l3, l4] [] (mw f a g) = rn xs L 175 7 [vR 44, vI (-3 : Int32), vI (-1 : Int32), vI (0 : Int32), l4] [] (mw f a g) :=
  (r_con (pg_of mt_175 dX6_latest_0 rfl) (v2 := (-3 : Int32)) (by decide)).trans <|
  (r_ist (pg_of mt_175 dX6_latest_2 rfl) (Nat.le_of_ble_eq_true rfl) rfl).trans <|
  (r_con (pg_of mt_175 dX6_latest_3 rfl) (v2 := (-1 : Int32)) (by decide)).trans <|
  (r_ist (pg_of mt_175 dX6_latest_4 rfl) (Nat.le_of_ble_eq_true rfl) rfl).trans <|
  (r_con (pg_of mt_175 dX6_latest_5 rfl) (v2 := (0 : Int32)) (by decide)).trans <|
  (r_ist (pg_of mt_175 dX6_latest_6 rfl) (Nat.le_of_ble_eq_true rfl) rfl)
theorem b175_7 (l1 : Int32) (l2 : Int32) (l3 : Int32) (l4 : ma_V) : rn xs L 175 7 [vR 44, vI l1, vI l2, vI l3, l4] [] (mw f a g) = if l3 < (a 45 0) then rn xs L 175 17 [vR 44, vI l1, vI l2, vI l3, l4] [] (mw f a g) else rn xs L 175 69 [vR 44, vI l1, vI l2, vI l3, l4] [] (mw f a g) :=
  (r_ild (pg_of mt_175 dX6_latest_7 rfl) rfl).trans <|
  (r_ald (pg_of mt_175 dX6_latest_8 rfl) rfl).trans <|
  (r_gtr (a := 45) (pg_of mt_175 dX6_latest_9 rfl) rfl rfl).trans <|
  (r_con (pg_of mt_175 dX6_latest_12 rfl) (v2 := (0 : Int32)) (by decide)).trans <|
  (r_ialc (j := 0) (pg_of mt_175 dX6_latest_13 rfl) rfl (by decide) (by decide)).trans <|
  (r_ge (pg_of mt_175 dX6_latest_14 rfl))
theorem b175_17 (l1 : Int32) (l2 : Int32) (l3 : Int32) (l4 : ma_V) : rn xs L 175 17 [vR 44, vI l1, vI l2, vI l3, l4] [] (mw f a g) = (ev xs L 142 3 [vR 44, vI l3, vI (4 : Int32)] (mw f a g)).bind (fun b => rn xs L 175 23 [vR 44, vI l1, vI l2, vI l3, l4] (b.1.toList ++ []) b.2) :=
  (r_ald (pg_of mt_175 dX6_latest_17 rfl) rfl).trans <|
  (r_ild (pg_of mt_175 dX6_latest_18 rfl) rfl).trans <|
  (r_con (pg_of mt_175 dX6_latest_19 rfl) (v2 := (4 : Int32)) (by decide)).trans <|
  (r_call (t := tt_175) (t2 := tt_142) (pg_of mt_175 dX6_latest_20 rfl) mt_175 mt_142 rfl rfl (rcv1 rfl) rfl rfl)
theorem b175_23 (l1 : Int32) (l2 : Int32) (l3 : Int32) (l4 : ma_V) (s0 : Int32) : rn xs L 175 23 [vR 44, vI l1, vI l2, vI l3, l4] [vI s0] (mw f a g) = if s0 = (1 : Int32) then rn xs L 175 27 [vR 44, vI l1, vI l2, vI l3, l4] [] (mw f a g) else rn xs L 175 35 [vR 44, vI l1, vI l2, vI l3, l4] [] (mw f a g) :=
  (r_con (pg_of mt_175 dX6_latest_23 rfl) (v2 := (1 : Int32)) (by decide)).trans <|
  (r_ne (pg_of mt_175 dX6_latest_24 rfl))
theorem b175_27 (l1 : Int32) (l2 : Int32) (l3 : Int32) (l4 : ma_V) : rn xs L 175 27 [vR 44, vI l1, vI l2, vI l3, l4] [] (mw f a g) = (ev xs L 172 4 [vR 44, vI l3] (mw f a g)).bind (fun b => rn xs L 175 32 [vR 44, vI l1, vI l2, vI l3, l4] (b.1.toList ++ []) b.2) :=
  (r_ald (pg_of mt_175 dX6_latest_27 rfl) rfl).trans <|
  (r_ild (pg_of mt_175 dX6_latest_28 rfl) rfl).trans <|
  (r_call (t := tt_175) (t2 := tt_172) (pg_of mt_175 dX6_latest_29 rfl) mt_175 mt_172 rfl rfl (rcv1 rfl) rfl rfl)
theorem b175_32 (l1 : Int32) (l2 : Int32) (l3 : Int32) (l4 : ma_V) (s0 : Int32) : rn xs L 175 32 [vR 44, vI l1, vI l2, vI l3, l4] [vI s0] (mw f a g) = if l2 < s0 then rn xs L 175 44 [vR 44, vI l1, vI l2, vI l3, vI s0] [] (mw f a g) else rn xs L 175 48 [vR 44, vI l1, vI l2, vI l3, vI s0] [] (mw f a g) :=
  (r_gto (pg_of mt_175 dX6_latest_32 rfl)).trans <|
  (r_ist (pg_of mt_175 dX6_latest_36 rfl) (Nat.le_of_ble_eq_true rfl) rfl).trans <|
  (r_ild (pg_of mt_175 dX6_latest_38 rfl) rfl).trans <|
  (r_ild (pg_of mt_175 dX6_latest_40 rfl) rfl).trans <|
  (r_le (pg_of mt_175 dX6_latest_41 rfl))
theorem b175_35 (l1 : Int32) (l2 : Int32) (l3 : Int32) (l4 : ma_V) : rn xs L 175 35 [vR 44, vI l1, vI l2, vI l3, l4] [] (mw f a g) = if l2 < (-1 : Int32) then rn xs L 175 44 [vR 44, vI l1, vI l2, vI l3, vI (-1 : Int32)] [] (mw f a g) else rn xs L 175 48 [vR 44, vI l1, vI l2, vI l3, vI (-1 : Int32)] [] (mw f a g) :=
  (r_con (pg_of mt_175 dX6_latest_35 rfl) (v2 := (-1 : Int32)) (by decide)).trans <|
  (r_ist (pg_of mt_175 dX6_latest_36 rfl) (Nat.le_of_ble_eq_true rfl) rfl).trans <|
  (r_ild (pg_of mt_175 dX6_latest_38 rfl) rfl).trans <|
  (r_ild (pg_of mt_175 dX6_latest_40 rfl) rfl).trans <|
  (r_le (pg_of mt_175 dX6_latest_41 rfl))
theorem b175_44 (l1 : Int32) (l2 : Int32) (l3 : Int32) (l4 : Int32) : rn xs L 175 44 [vR 44, vI l1, vI l2, vI l3, vI l4] [] (mw f a g) = if l2 < l4 then rn xs L 175 56 [vR 44, vI l3, vI l2, vI l3, vI l4] [] (mw f a g) else rn xs L 175 61 [vR 44, vI l3, vI l2, vI l3, vI l4] [] (mw f a g) :=
  (r_ild (pg_of mt_175 dX6_latest_44 rfl) rfl).trans <|
  (r_gto (pg_of mt_175 dX6_latest_45 rfl)).trans <|
  (r_ist (pg_of mt_175 dX6_latest_49 rfl) (Nat.le_of_ble_eq_true rfl) rfl).trans <|
  (r_ild (pg_of mt_175 dX6_latest_50 rfl) rfl).trans <|
  (r_ild (pg_of mt_175 dX6_latest_52 rfl) rfl).trans <|
  (r_le (pg_of mt_175 dX6_latest_53 rfl))
theorem b175_48 (l1 : Int32) (l2 : Int32) (l3 : Int32) (l4 : Int32) : rn xs L 175 48 [vR 44, vI l1, vI l2, vI l3, vI l4] [] (mw f a g) = if l2 < l4 then rn xs L 175 56 [vR 44, vI l1, vI l2, vI l3, vI l4] [] (mw f a g) else rn xs L 175 61 [vR 44, vI l1, vI l2, vI l3, vI l4] [] (mw f a g) :=
  (r_ild (pg_of mt_175 dX6_latest_48 rfl) rfl).trans <|
  (r_ist (pg_of mt_175 dX6_latest_49 rfl) (Nat.le_of_ble_eq_true rfl) rfl).trans <|
  (r_ild (pg_of mt_175 dX6_latest_50 rfl) rfl).trans <|
  (r_ild (pg_of mt_175 dX6_latest_52 rfl) rfl).trans <|
  (r_le (pg_of mt_175 dX6_latest_53 rfl))
theorem b175_56 (l1 : Int32) (l2 : Int32) (l3 : Int32) (l4 : Int32) : rn xs L 175 56 [vR 44, vI l1, vI l2, vI l3, vI l4] [] (mw f a g) = rn xs L 175 7 [vR 44, vI l1, vI l4, vI (l3 + (1 : Int32)), vI l4] [] (mw f a g) :=
  (r_ild (pg_of mt_175 dX6_latest_56 rfl) rfl).trans <|
  (r_gto (pg_of mt_175 dX6_latest_58 rfl)).trans <|
  (r_ist (pg_of mt_175 dX6_latest_62 rfl) (Nat.le_of_ble_eq_true rfl) rfl).trans <|
  (r_inc (pg_of mt_175 dX6_latest_63 rfl) (y := (1 : Int32)) (by decide) rfl rfl).trans <|
  (r_gto (pg_of mt_175 dX6_latest_66 rfl))
theorem b175_61 (l1 : Int32) (l2 : Int32) (l3 : Int32) (l4 : Int32) : rn xs L 175 61 [vR 44, vI l1, vI l2, vI l3, vI l4] [] (mw f a g) = rn xs L 175 7 [vR 44, vI l1, vI l2, vI (l3 + (1 : Int32)), vI l4] [] (mw f a g) :=
  (r_ild (pg_of mt_175 dX6_latest_61 rfl) rfl).trans <|
  (r_ist (pg_of mt_175 dX6_latest_62 rfl) (Nat.le_of_ble_eq_true rfl) rfl).trans <|
  (r_inc (pg_of mt_175 dX6_latest_63 rfl) (y := (1 : Int32)) (by decide) rfl rfl).trans <|
  (r_gto (pg_of mt_175 dX6_latest_66 rfl))
theorem b175_69 (l1 : Int32) (l2 : Int32) (l3 : Int32) (l4 : ma_V) : rn xs L 175 69 [vR 44, vI l1, vI l2, vI l3, l4] [] (mw f a g) = some (some (vI l1), (mw f a g)) :=
  (r_ild (pg_of mt_175 dX6_latest_69 rfl) rfl).trans <|
  (r_ri (pg_of mt_175 dX6_latest_70 rfl) mt_175 rfl)
-- 176 LeafFallsModel.boughFor(I)I
theorem b176_0 (l1 : Int32) : rn xs L 176 0 [vR 44, vI l1] [] (mw f a g) = (ev xs L 140 2 [vR 44, vI l1] (mw f a g)).bind (fun b => rn xs L 176 5 [vR 44, vI l1] (b.1.toList ++ []) b.2) :=
  (r_ald (pg_of mt_176 dX6_boughFor_0 rfl) rfl).trans <|
  (r_ild (pg_of mt_176 dX6_boughFor_1 rfl) rfl).trans <|
  (r_call (t := tt_176) (t2 := tt_140) (pg_of mt_176 dX6_boughFor_2 rfl) mt_176 mt_140 rfl rfl (rcv1 rfl) rfl rfl)
theorem b176_5 (l1 : Int32) (s0 : Int32) : rn xs L 176 5 [vR 44, vI l1] [vI s0] (mw f a g) = if s0 = 0 then rn xs L 176 8 [vR 44, vI l1] [] (mw f a g) else rn xs L 176 10 [vR 44, vI l1] [] (mw f a g) :=
  (r_ne0 (pg_of mt_176 dX6_boughFor_5 rfl))
theorem b176_8 (l1 : Int32) : rn xs L 176 8 [vR 44, vI l1] [] (mw f a g) = some (some (vI (-1 : Int32)), (mw f a g)) :=
  (r_con (pg_of mt_176 dX6_boughFor_8 rfl) (v2 := (-1 : Int32)) (by decide)).trans <|
  (r_ri (pg_of mt_176 dX6_boughFor_9 rfl) mt_176 rfl)
theorem b176_10 (l1 : Int32) : rn xs L 176 10 [vR 44, vI l1] [] (mw f a g) = (ev xs L 142 3 [vR 44, vI l1, vI (4 : Int32)] (mw f a g)).bind (fun b => rn xs L 176 16 [vR 44, vI l1] (b.1.toList ++ []) b.2) :=
  (r_ald (pg_of mt_176 dX6_boughFor_10 rfl) rfl).trans <|
  (r_ild (pg_of mt_176 dX6_boughFor_11 rfl) rfl).trans <|
  (r_con (pg_of mt_176 dX6_boughFor_12 rfl) (v2 := (4 : Int32)) (by decide)).trans <|
  (r_call (t := tt_176) (t2 := tt_142) (pg_of mt_176 dX6_boughFor_13 rfl) mt_176 mt_142 rfl rfl (rcv1 rfl) rfl rfl)
theorem b176_16 (l1 : Int32) (s0 : Int32) : rn xs L 176 16 [vR 44, vI l1] [vI s0] (mw f a g) = if s0 = 0 then rn xs L 176 19 [vR 44, vI l1] [] (mw f a g) else rn xs L 176 24 [vR 44, vI l1] [] (mw f a g) :=
  (r_ne0 (pg_of mt_176 dX6_boughFor_16 rfl))
theorem b176_19 (l1 : Int32) : rn xs L 176 19 [vR 44, vI l1] [] (mw f a g) = some (some (vI (-3 : Int32)), (mw f a g)) :=
  (r_con (pg_of mt_176 dX6_boughFor_19 rfl) (v2 := (-3 : Int32)) (by decide)).trans <|
  (r_gto (pg_of mt_176 dX6_boughFor_21 rfl)).trans <|
  (r_ri (pg_of mt_176 dX6_boughFor_39 rfl) mt_176 rfl)
theorem b176_24 (l1 : Int32) : rn xs L 176 24 [vR 44, vI l1] [] (mw f a g) = (ev xs L 177 9 [vR 44, vI l1, vI (((14 : Int32) + ((6 : Int32) * l1)) + (1 : Int32)), vI (5 : Int32)] (mw f a g)).bind (fun b => rn xs L 176 39 [vR 44, vI l1] (b.1.toList ++ []) b.2) :=
  (r_ald (pg_of mt_176 dX6_boughFor_24 rfl) rfl).trans <|
  (r_ild (pg_of mt_176 dX6_boughFor_25 rfl) rfl).trans <|
  (r_con (pg_of mt_176 dX6_boughFor_26 rfl) (v2 := (14 : Int32)) (by decide)).trans <|
  (r_con (pg_of mt_176 dX6_boughFor_28 rfl) (v2 := (6 : Int32)) (by decide)).trans <|
  (r_ild (pg_of mt_176 dX6_boughFor_30 rfl) rfl).trans <|
  (r_bin (pg_of mt_176 dX6_boughFor_31 rfl)).trans <|
  (r_bin (pg_of mt_176 dX6_boughFor_32 rfl)).trans <|
  (r_con (pg_of mt_176 dX6_boughFor_33 rfl) (v2 := (1 : Int32)) (by decide)).trans <|
  (r_bin (pg_of mt_176 dX6_boughFor_34 rfl)).trans <|
  (r_con (pg_of mt_176 dX6_boughFor_35 rfl) (v2 := (5 : Int32)) (by decide)).trans <|
  (r_call (t := tt_176) (t2 := tt_177) (pg_of mt_176 dX6_boughFor_36 rfl) mt_176 mt_177 rfl rfl (rcv1 rfl) rfl rfl)
theorem b176_39 (l1 : Int32) (s0 : Int32) : rn xs L 176 39 [vR 44, vI l1] [vI s0] (mw f a g) = some (some (vI s0), (mw f a g)) :=
  (r_ri (pg_of mt_176 dX6_boughFor_39 rfl) mt_176 rfl)
-- 177 LeafFallsModel.lastBy(III)I
theorem b177_0 (l1 : Int32) (l2 : Int32) (l3 : Int32) (l4 : ma_V) (l5 : ma_V) (l6 : ma_V) (l7 : ma_V) (l8 : ma_V) (h1 : ma_in l2 62 = true) : rn xs L 177 0 [vR 44, vI l1, vI l2, vI l3, l4, l5, l6, l7, l8] [] (mw f a g) = rn xs L 177 17 [vR 44, vI l1, vI l2, vI l3, vI (a 45 l2.toNatClampNeg), vI (0 : Int32), vI (-1 : Int32), vI (0 : Int32), l8] [] (mw f a g) :=
  (r_ald (pg_of mt_177 dX6_lastBy_0 rfl) rfl).trans <|
  (r_gtr (a := 45) (pg_of mt_177 dX6_lastBy_1 rfl) rfl rfl).trans <|
  (r_ild (pg_of mt_177 dX6_lastBy_4 rfl) rfl).trans <|
  (r_iald (pg_of mt_177 dX6_lastBy_5 rfl) rfl h1).trans <|
  (r_ist (pg_of mt_177 dX6_lastBy_6 rfl) (Nat.le_of_ble_eq_true rfl) rfl).trans <|
  (r_con (pg_of mt_177 dX6_lastBy_8 rfl) (v2 := (0 : Int32)) (by decide)).trans <|
  (r_ist (pg_of mt_177 dX6_lastBy_9 rfl) (Nat.le_of_ble_eq_true rfl) rfl).trans <|
  (r_con (pg_of mt_177 dX6_lastBy_11 rfl) (v2 := (-1 : Int32)) (by decide)).trans <|
  (r_ist (pg_of mt_177 dX6_lastBy_12 rfl) (Nat.le_of_ble_eq_true rfl) rfl).trans <|
  (r_con (pg_of mt_177 dX6_lastBy_14 rfl) (v2 := (0 : Int32)) (by decide)).trans <|
  (r_ist (pg_of mt_177 dX6_lastBy_15 rfl) (Nat.le_of_ble_eq_true rfl) rfl)
theorem b177_17 (l1 : Int32) (l2 : Int32) (l3 : Int32) (l4 : Int32) (l5 : Int32) (l6 : Int32) (l7 : Int32) (l8 : ma_V) : rn xs L 177 17 [vR 44, vI l1, vI l2, vI l3, vI l4, vI l5, vI l6, vI l7, l8] [] (mw f a g) = if l3 < l7 then rn xs L 177 76 [vR 44, vI l1, vI l2, vI l3, vI l4, vI l5, vI l6, vI l7, l8] [] (mw f a g) else rn xs L 177 23 [vR 44, vI l1, vI l2, vI l3, vI l4, vI l5, vI l6, vI l7, l8] [] (mw f a g) :=
  (r_ild (pg_of mt_177 dX6_lastBy_17 rfl) rfl).trans <|
  (r_ild (pg_of mt_177 dX6_lastBy_19 rfl) rfl).trans <|
  (r_gt (pg_of mt_177 dX6_lastBy_20 rfl))
theorem b177_23 (l1 : Int32) (l2 : Int32) (l3 : Int32) (l4 : Int32) (l5 : Int32) (l6 : Int32) (l7 : Int32) (l8 : ma_V) (h1 : ma_in l2 62 = true) : rn xs L 177 23 [vR 44, vI l1, vI l2, vI l3, vI l4, vI l5, vI l6, vI l7, l8] [] (mw f a g) = (ev xs L 172 4 [vR 44, vI l1] (mw f ((ma_u2 a 45 l2.toNatClampNeg l7)) g)).bind (fun b => rn xs L 177 36 [vR 44, vI l1, vI l2, vI l3, vI l4, vI l5, vI l6, vI l7, l8] (b.1.toList ++ []) b.2) :=
  (r_ald (pg_of mt_177 dX6_lastBy_23 rfl) rfl).trans <|
  (r_gtr (a := 45) (pg_of mt_177 dX6_lastBy_24 rfl) rfl rfl).trans <|
  (r_ild (pg_of mt_177 dX6_lastBy_27 rfl) rfl).trans <|
  (r_ild (pg_of mt_177 dX6_lastBy_28 rfl) rfl).trans <|
  (r_iast (pg_of mt_177 dX6_lastBy_30 rfl) rfl h1).trans <|
  (r_ald (pg_of mt_177 dX6_lastBy_31 rfl) rfl).trans <|
  (r_ild (pg_of mt_177 dX6_lastBy_32 rfl) rfl).trans <|
  (r_call (t := tt_177) (t2 := tt_172) (pg_of mt_177 dX6_lastBy_33 rfl) mt_177 mt_172 rfl rfl (rcv1 rfl) rfl rfl)
theorem b177_36 (l1 : Int32) (l2 : Int32) (l3 : Int32) (l4 : Int32) (l5 : Int32) (l6 : Int32) (l7 : Int32) (l8 : ma_V) (s0 : Int32) : rn xs L 177 36 [vR 44, vI l1, vI l2, vI l3, vI l4, vI l5, vI l6, vI l7, l8] [vI s0] (mw f a g) = if l6 < s0 then rn xs L 177 45 [vR 44, vI l1, vI l2, vI l3, vI l4, vI l5, vI l6, vI l7, vI s0] [] (mw f a g) else rn xs L 177 50 [vR 44, vI l1, vI l2, vI l3, vI l4, vI l5, vI l6, vI l7, vI s0] [] (mw f a g) :=
  (r_ist (pg_of mt_177 dX6_lastBy_36 rfl) (Nat.le_of_ble_eq_true rfl) rfl).trans <|
  (r_ild (pg_of mt_177 dX6_lastBy_38 rfl) rfl).trans <|
  (r_ild (pg_of mt_177 dX6_lastBy_40 rfl) rfl).trans <|
  (r_le (pg_of mt_177 dX6_lastBy_42 rfl))
theorem b177_45 (l1 : Int32) (l2 : Int32) (l3 : Int32) (l4 : Int32) (l5 : Int32) (l6 : Int32) (l7 : Int32) (l8 : Int32) : rn xs L 177 45 [vR 44, vI l1, vI l2, vI l3, vI l4, vI l5, vI l6, vI l7, vI l8] [] (mw f a g) = if l6 < l8 then rn xs L 177 61 [vR 44, vI l1, vI l2, vI l3, vI l4, vI l7, vI l6, vI l7, vI l8] [] (mw f a g) else rn xs L 177 66 [vR 44, vI l1, vI l2, vI l3, vI l4, vI l7, vI l6, vI l7, vI l8] [] (mw f a g) :=
  (r_ild (pg_of mt_177 dX6_lastBy_45 rfl) rfl).trans <|
  (r_gto (pg_of mt_177 dX6_lastBy_47 rfl)).trans <|
  (r_ist (pg_of mt_177 dX6_lastBy_52 rfl) (Nat.le_of_ble_eq_true rfl) rfl).trans <|
  (r_ild (pg_of mt_177 dX6_lastBy_54 rfl) rfl).trans <|
  (r_ild (pg_of mt_177 dX6_lastBy_56 rfl) rfl).trans <|
  (r_le (pg_of mt_177 dX6_lastBy_58 rfl))
theorem b177_50 (l1 : Int32) (l2 : Int32) (l3 : Int32) (l4 : Int32) (l5 : Int32) (l6 : Int32) (l7 : Int32) (l8 : Int32) : rn xs L 177 50 [vR 44, vI l1, vI l2, vI l3, vI l4, vI l5, vI l6, vI l7, vI l8] [] (mw f a g) = if l6 < l8 then rn xs L 177 61 [vR 44, vI l1, vI l2, vI l3, vI l4, vI l5, vI l6, vI l7, vI l8] [] (mw f a g) else rn xs L 177 66 [vR 44, vI l1, vI l2, vI l3, vI l4, vI l5, vI l6, vI l7, vI l8] [] (mw f a g) :=
  (r_ild (pg_of mt_177 dX6_lastBy_50 rfl) rfl).trans <|
  (r_ist (pg_of mt_177 dX6_lastBy_52 rfl) (Nat.le_of_ble_eq_true rfl) rfl).trans <|
  (r_ild (pg_of mt_177 dX6_lastBy_54 rfl) rfl).trans <|
  (r_ild (pg_of mt_177 dX6_lastBy_56 rfl) rfl).trans <|
  (r_le (pg_of mt_177 dX6_lastBy_58 rfl))
theorem b177_61 (l1 : Int32) (l2 : Int32) (l3 : Int32) (l4 : Int32) (l5 : Int32) (l6 : Int32) (l7 : Int32) (l8 : Int32) : rn xs L 177 61 [vR 44, vI l1, vI l2, vI l3, vI l4, vI l5, vI l6, vI l7, vI l8] [] (mw f a g) = rn xs L 177 17 [vR 44, vI l1, vI l2, vI l3, vI l4, vI l5, vI l8, vI (l7 + (1 : Int32)), vI l8] [] (mw f a g) :=
  (r_ild (pg_of mt_177 dX6_lastBy_61 rfl) rfl).trans <|
  (r_gto (pg_of mt_177 dX6_lastBy_63 rfl)).trans <|
  (r_ist (pg_of mt_177 dX6_lastBy_68 rfl) (Nat.le_of_ble_eq_true rfl) rfl).trans <|
  (r_inc (pg_of mt_177 dX6_lastBy_70 rfl) (y := (1 : Int32)) (by decide) rfl rfl).trans <|
  (r_gto (pg_of mt_177 dX6_lastBy_73 rfl))
theorem b177_66 (l1 : Int32) (l2 : Int32) (l3 : Int32) (l4 : Int32) (l5 : Int32) (l6 : Int32) (l7 : Int32) (l8 : Int32) : rn xs L 177 66 [vR 44, vI l1, vI l2, vI l3, vI l4, vI l5, vI l6, vI l7, vI l8] [] (mw f a g) = rn xs L 177 17 [vR 44, vI l1, vI l2, vI l3, vI l4, vI l5, vI l6, vI (l7 + (1 : Int32)), vI l8] [] (mw f a g) :=
  (r_ild (pg_of mt_177 dX6_lastBy_66 rfl) rfl).trans <|
  (r_ist (pg_of mt_177 dX6_lastBy_68 rfl) (Nat.le_of_ble_eq_true rfl) rfl).trans <|
  (r_inc (pg_of mt_177 dX6_lastBy_70 rfl) (y := (1 : Int32)) (by decide) rfl rfl).trans <|
  (r_gto (pg_of mt_177 dX6_lastBy_73 rfl))
theorem b177_76 (l1 : Int32) (l2 : Int32) (l3 : Int32) (l4 : Int32) (l5 : Int32) (l6 : Int32) (l7 : Int32) (l8 : ma_V) (h1 : ma_in l2 62 = true) : rn xs L 177 76 [vR 44, vI l1, vI l2, vI l3, vI l4, vI l5, vI l6, vI l7, l8] [] (mw f a g) = some (some (vI l5), (mw f ((ma_u2 a 45 l2.toNatClampNeg l4)) g)) :=
  (r_ald (pg_of mt_177 dX6_lastBy_76 rfl) rfl).trans <|
  (r_gtr (a := 45) (pg_of mt_177 dX6_lastBy_77 rfl) rfl rfl).trans <|
  (r_ild (pg_of mt_177 dX6_lastBy_80 rfl) rfl).trans <|
  (r_ild (pg_of mt_177 dX6_lastBy_81 rfl) rfl).trans <|
  (r_iast (pg_of mt_177 dX6_lastBy_83 rfl) rfl h1).trans <|
  (r_ild (pg_of mt_177 dX6_lastBy_84 rfl) rfl).trans <|
  (r_ri (pg_of mt_177 dX6_lastBy_86 rfl) mt_177 rfl)
-- 178 LeafFallsModel.kindFor(I)I
theorem b178_0 (l1 : Int32) : rn xs L 178 0 [vR 44, vI l1] [] (mw f a g) = (ev xs L 140 2 [vR 44, vI l1] (mw f a g)).bind (fun b => rn xs L 178 5 [vR 44, vI l1] (b.1.toList ++ []) b.2) :=
  (r_ald (pg_of mt_178 dX6_kindFor_0 rfl) rfl).trans <|
  (r_ild (pg_of mt_178 dX6_kindFor_1 rfl) rfl).trans <|
  (r_call (t := tt_178) (t2 := tt_140) (pg_of mt_178 dX6_kindFor_2 rfl) mt_178 mt_140 rfl rfl (rcv1 rfl) rfl rfl)
theorem b178_5 (l1 : Int32) (s0 : Int32) : rn xs L 178 5 [vR 44, vI l1] [vI s0] (mw f a g) = if s0 = 0 then rn xs L 178 8 [vR 44, vI l1] [] (mw f a g) else rn xs L 178 10 [vR 44, vI l1] [] (mw f a g) :=
  (r_ne0 (pg_of mt_178 dX6_kindFor_5 rfl))
theorem b178_8 (l1 : Int32) : rn xs L 178 8 [vR 44, vI l1] [] (mw f a g) = some (some (vI (-1 : Int32)), (mw f a g)) :=
  (r_con (pg_of mt_178 dX6_kindFor_8 rfl) (v2 := (-1 : Int32)) (by decide)).trans <|
  (r_ri (pg_of mt_178 dX6_kindFor_9 rfl) mt_178 rfl)
theorem b178_10 (l1 : Int32) : rn xs L 178 10 [vR 44, vI l1] [] (mw f a g) = (ev xs L 142 3 [vR 44, vI l1, vI (4 : Int32)] (mw f a g)).bind (fun b => rn xs L 178 16 [vR 44, vI l1] (b.1.toList ++ []) b.2) :=
  (r_ald (pg_of mt_178 dX6_kindFor_10 rfl) rfl).trans <|
  (r_ild (pg_of mt_178 dX6_kindFor_11 rfl) rfl).trans <|
  (r_con (pg_of mt_178 dX6_kindFor_12 rfl) (v2 := (4 : Int32)) (by decide)).trans <|
  (r_call (t := tt_178) (t2 := tt_142) (pg_of mt_178 dX6_kindFor_13 rfl) mt_178 mt_142 rfl rfl (rcv1 rfl) rfl rfl)
theorem b178_16 (l1 : Int32) (s0 : Int32) : rn xs L 178 16 [vR 44, vI l1] [vI s0] (mw f a g) = if s0 = 0 then rn xs L 178 19 [vR 44, vI l1] [] (mw f a g) else rn xs L 178 24 [vR 44, vI l1] [] (mw f a g) :=
  (r_ne0 (pg_of mt_178 dX6_kindFor_16 rfl))
theorem b178_19 (l1 : Int32) : rn xs L 178 19 [vR 44, vI l1] [] (mw f a g) = some (some (vI (-3 : Int32)), (mw f a g)) :=
  (r_con (pg_of mt_178 dX6_kindFor_19 rfl) (v2 := (-3 : Int32)) (by decide)).trans <|
  (r_gto (pg_of mt_178 dX6_kindFor_21 rfl)).trans <|
  (r_ri (pg_of mt_178 dX6_kindFor_37 rfl) mt_178 rfl)
theorem b178_24 (l1 : Int32) : rn xs L 178 24 [vR 44, vI l1] [] (mw f a g) = (ev xs L 177 9 [vR 44, vI l1, vI ((14 : Int32) + ((6 : Int32) * l1)), vI (5 : Int32)] (mw f a g)).bind (fun b => rn xs L 178 37 [vR 44, vI l1] (b.1.toList ++ []) b.2) :=
  (r_ald (pg_of mt_178 dX6_kindFor_24 rfl) rfl).trans <|
  (r_ild (pg_of mt_178 dX6_kindFor_25 rfl) rfl).trans <|
  (r_con (pg_of mt_178 dX6_kindFor_26 rfl) (v2 := (14 : Int32)) (by decide)).trans <|
  (r_con (pg_of mt_178 dX6_kindFor_28 rfl) (v2 := (6 : Int32)) (by decide)).trans <|
  (r_ild (pg_of mt_178 dX6_kindFor_30 rfl) rfl).trans <|
  (r_bin (pg_of mt_178 dX6_kindFor_31 rfl)).trans <|
  (r_bin (pg_of mt_178 dX6_kindFor_32 rfl)).trans <|
  (r_con (pg_of mt_178 dX6_kindFor_33 rfl) (v2 := (5 : Int32)) (by decide)).trans <|
  (r_call (t := tt_178) (t2 := tt_177) (pg_of mt_178 dX6_kindFor_34 rfl) mt_178 mt_177 rfl rfl (rcv1 rfl) rfl rfl)
theorem b178_37 (l1 : Int32) (s0 : Int32) : rn xs L 178 37 [vR 44, vI l1] [vI s0] (mw f a g) = some (some (vI s0), (mw f a g)) :=
  (r_ri (pg_of mt_178 dX6_kindFor_37 rfl) mt_178 rfl)
-- 179 LeafFallsModel.holdFor(II)I
theorem b179_0 (l1 : Int32) (l2 : Int32) (l3 : ma_V) (l4 : ma_V) (l5 : ma_V) (l6 : ma_V) : rn xs L 179 0 [vR 44, vI l1, vI l2, l3, l4, l5, l6] [] (mw f a g) = (ev xs L 140 2 [vR 44, vI l1] (mw f a g)).bind (fun b => rn xs L 179 5 [vR 44, vI l1, vI l2, l3, l4, l5, l6] (b.1.toList ++ []) b.2) :=
  (r_ald (pg_of mt_179 dX6_holdFor_0 rfl) rfl).trans <|
  (r_ild (pg_of mt_179 dX6_holdFor_1 rfl) rfl).trans <|
  (r_call (t := tt_179) (t2 := tt_140) (pg_of mt_179 dX6_holdFor_2 rfl) mt_179 mt_140 rfl rfl (rcv1 rfl) rfl rfl)
theorem b179_5 (l1 : Int32) (l2 : Int32) (l3 : ma_V) (l4 : ma_V) (l5 : ma_V) (l6 : ma_V) (s0 : Int32) : rn xs L 179 5 [vR 44, vI l1, vI l2, l3, l4, l5, l6] [vI s0] (mw f a g) = if s0 = 0 then rn xs L 179 15 [vR 44, vI l1, vI l2, l3, l4, l5, l6] [] (mw f a g) else rn xs L 179 8 [vR 44, vI l1, vI l2, l3, l4, l5, l6] [] (mw f a g) :=
  (r_eq0 (pg_of mt_179 dX6_holdFor_5 rfl))
theorem b179_8 (l1 : Int32) (l2 : Int32) (l3 : ma_V) (l4 : ma_V) (l5 : ma_V) (l6 : ma_V) : rn xs L 179 8 [vR 44, vI l1, vI l2, l3, l4, l5, l6] [] (mw f a g) = (ev xs L 180 1 [vI l2] (mw f a g)).bind (fun b => rn xs L 179 12 [vR 44, vI l1, vI l2, l3, l4, l5, l6] (b.1.toList ++ []) b.2) :=
  (r_ild (pg_of mt_179 dX6_holdFor_8 rfl) rfl).trans <|
  (r_call (t := tt_179) (t2 := tt_180) (pg_of mt_179 dX6_holdFor_9 rfl) mt_179 mt_180 rfl rfl rfl rfl rfl)
theorem b179_12 (l1 : Int32) (l2 : Int32) (l3 : ma_V) (l4 : ma_V) (l5 : ma_V) (l6 : ma_V) (s0 : Int32) : rn xs L 179 12 [vR 44, vI l1, vI l2, l3, l4, l5, l6] [vI s0] (mw f a g) = if s0 = 0 then rn xs L 179 15 [vR 44, vI l1, vI l2, l3, l4, l5, l6] [] (mw f a g) else rn xs L 179 17 [vR 44, vI l1, vI l2, l3, l4, l5, l6] [] (mw f a g) :=
  (r_ne0 (pg_of mt_179 dX6_holdFor_12 rfl))
theorem b179_15 (l1 : Int32) (l2 : Int32) (l3 : ma_V) (l4 : ma_V) (l5 : ma_V) (l6 : ma_V) : rn xs L 179 15 [vR 44, vI l1, vI l2, l3, l4, l5, l6] [] (mw f a g) = some (some (vI (-1 : Int32)), (mw f a g)) :=
  (r_con (pg_of mt_179 dX6_holdFor_15 rfl) (v2 := (-1 : Int32)) (by decide)).trans <|
  (r_ri (pg_of mt_179 dX6_holdFor_16 rfl) mt_179 rfl)
theorem b179_17 (l1 : Int32) (l2 : Int32) (l3 : ma_V) (l4 : ma_V) (l5 : ma_V) (l6 : ma_V) (h1 : ma_in ((((14 : Int32) + ((6 : Int32) * l1)) + (2 : Int32))) 62 = true) : rn xs L 179 17 [vR 44, vI l1, vI l2, l3, l4, l5, l6] [] (mw f a g) = rn xs L 179 42 [vR 44, vI l1, vI l2, vI (((14 : Int32) + ((6 : Int32) * l1)) + (2 : Int32)), vI (a 45 ((((14 : Int32) + ((6 : Int32) * l1)) + (2 : Int32))).toNatClampNeg), vI (-3 : Int32), vI (0 : Int32)] [] (mw f a g) :=
  (r_con (pg_of mt_179 dX6_holdFor_17 rfl) (v2 := (14 : Int32)) (by decide)).trans <|
  (r_con (pg_of mt_179 dX6_holdFor_19 rfl) (v2 := (6 : Int32)) (by decide)).trans <|
  (r_ild (pg_of mt_179 dX6_holdFor_21 rfl) rfl).trans <|
  (r_bin (pg_of mt_179 dX6_holdFor_22 rfl)).trans <|
  (r_bin (pg_of mt_179 dX6_holdFor_23 rfl)).trans <|
  (r_con (pg_of mt_179 dX6_holdFor_24 rfl) (v2 := (2 : Int32)) (by decide)).trans <|
  (r_bin (pg_of mt_179 dX6_holdFor_25 rfl)).trans <|
  (r_ist (pg_of mt_179 dX6_holdFor_26 rfl) (Nat.le_of_ble_eq_true rfl) rfl).trans <|
  (r_ald (pg_of mt_179 dX6_holdFor_27 rfl) rfl).trans <|
  (r_gtr (a := 45) (pg_of mt_179 dX6_holdFor_28 rfl) rfl rfl).trans <|
  (r_ild (pg_of mt_179 dX6_holdFor_31 rfl) rfl).trans <|
  (r_iald (pg_of mt_179 dX6_holdFor_32 rfl) rfl h1).trans <|
  (r_ist (pg_of mt_179 dX6_holdFor_33 rfl) (Nat.le_of_ble_eq_true rfl) rfl).trans <|
  (r_con (pg_of mt_179 dX6_holdFor_35 rfl) (v2 := (-3 : Int32)) (by decide)).trans <|
  (r_ist (pg_of mt_179 dX6_holdFor_37 rfl) (Nat.le_of_ble_eq_true rfl) rfl).trans <|
  (r_con (pg_of mt_179 dX6_holdFor_39 rfl) (v2 := (0 : Int32)) (by decide)).trans <|
  (r_ist (pg_of mt_179 dX6_holdFor_40 rfl) (Nat.le_of_ble_eq_true rfl) rfl)
theorem b179_42 (l1 : Int32) (l2 : Int32) (l3 : Int32) (l4 : Int32) (l5 : Int32) (l6 : Int32) : rn xs L 179 42 [vR 44, vI l1, vI l2, vI l3, vI l4, vI l5, vI l6] [] (mw f a g) = if (99 : Int32) < l6 then rn xs L 179 87 [vR 44, vI l1, vI l2, vI l3, vI l4, vI l5, vI l6] [] (mw f a g) else rn xs L 179 49 [vR 44, vI l1, vI l2, vI l3, vI l4, vI l5, vI l6] [] (mw f a g) :=
  (r_ild (pg_of mt_179 dX6_holdFor_42 rfl) rfl).trans <|
  (r_con (pg_of mt_179 dX6_holdFor_44 rfl) (v2 := (99 : Int32)) (by decide)).trans <|
  (r_gt (pg_of mt_179 dX6_holdFor_46 rfl))
theorem b179_49 (l1 : Int32) (l2 : Int32) (l3 : Int32) (l4 : Int32) (l5 : Int32) (l6 : Int32) : rn xs L 179 49 [vR 44, vI l1, vI l2, vI l3, vI l4, vI l5, vI l6] [] (mw f a g) = if l5 < 0 then rn xs L 179 54 [vR 44, vI l1, vI l2, vI l3, vI l4, vI l5, vI l6] [] (mw f a g) else rn xs L 179 87 [vR 44, vI l1, vI l2, vI l3, vI l4, vI l5, vI l6] [] (mw f a g) :=
  (r_ild (pg_of mt_179 dX6_holdFor_49 rfl) rfl).trans <|
  (r_ge0 (pg_of mt_179 dX6_holdFor_51 rfl))
theorem b179_54 (l1 : Int32) (l2 : Int32) (l3 : Int32) (l4 : Int32) (l5 : Int32) (l6 : Int32) (h1 : ma_in l3 62 = true) : rn xs L 179 54 [vR 44, vI l1, vI l2, vI l3, vI l4, vI l5, vI l6] [] (mw f a g) = (ev xs L 181 6 [vR 44, vI l1, vI l2, vI (0 : Int32)] (mw f ((ma_u2 a 45 l3.toNatClampNeg l6)) g)).bind (fun b => rn xs L 179 69 [vR 44, vI l1, vI l2, vI l3, vI l4, vI l5, vI l6] (b.1.toList ++ []) b.2) :=
  (r_ald (pg_of mt_179 dX6_holdFor_54 rfl) rfl).trans <|
  (r_gtr (a := 45) (pg_of mt_179 dX6_holdFor_55 rfl) rfl rfl).trans <|
  (r_ild (pg_of mt_179 dX6_holdFor_58 rfl) rfl).trans <|
  (r_ild (pg_of mt_179 dX6_holdFor_59 rfl) rfl).trans <|
  (r_iast (pg_of mt_179 dX6_holdFor_61 rfl) rfl h1).trans <|
  (r_ald (pg_of mt_179 dX6_holdFor_62 rfl) rfl).trans <|
  (r_ild (pg_of mt_179 dX6_holdFor_63 rfl) rfl).trans <|
  (r_ild (pg_of mt_179 dX6_holdFor_64 rfl) rfl).trans <|
  (r_con (pg_of mt_179 dX6_holdFor_65 rfl) (v2 := (0 : Int32)) (by decide)).trans <|
  (r_call (t := tt_179) (t2 := tt_181) (pg_of mt_179 dX6_holdFor_66 rfl) mt_179 mt_181 rfl rfl (rcv1 rfl) rfl rfl)
theorem b179_69 (l1 : Int32) (l2 : Int32) (l3 : Int32) (l4 : Int32) (l5 : Int32) (l6 : Int32) (s0 : Int32) : rn xs L 179 69 [vR 44, vI l1, vI l2, vI l3, vI l4, vI l5, vI l6] [vI s0] (mw f a g) = if s0 = 0 then rn xs L 179 77 [vR 44, vI l1, vI l2, vI l3, vI l4, vI l5, vI l6] [] (mw f a g) else rn xs L 179 72 [vR 44, vI l1, vI l2, vI l3, vI l4, vI l5, vI l6] [] (mw f a g) :=
  (r_eq0 (pg_of mt_179 dX6_holdFor_69 rfl))
theorem b179_72 (l1 : Int32) (l2 : Int32) (l3 : Int32) (l4 : Int32) (l5 : Int32) (l6 : Int32) : rn xs L 179 72 [vR 44, vI l1, vI l2, vI l3, vI l4, vI l5, vI l6] [] (mw f a g) = rn xs L 179 42 [vR 44, vI l1, vI l2, vI l3, vI l4, vI l6, vI (l6 + (1 : Int32))] [] (mw f a g) :=
  (r_ild (pg_of mt_179 dX6_holdFor_72 rfl) rfl).trans <|
  (r_gto (pg_of mt_179 dX6_holdFor_74 rfl)).trans <|
  (r_ist (pg_of mt_179 dX6_holdFor_79 rfl) (Nat.le_of_ble_eq_true rfl) rfl).trans <|
  (r_inc (pg_of mt_179 dX6_holdFor_81 rfl) (y := (1 : Int32)) (by decide) rfl rfl).trans <|
  (r_gto (pg_of mt_179 dX6_holdFor_84 rfl))
theorem b179_77 (l1 : Int32) (l2 : Int32) (l3 : Int32) (l4 : Int32) (l5 : Int32) (l6 : Int32) : rn xs L 179 77 [vR 44, vI l1, vI l2, vI l3, vI l4, vI l5, vI l6] [] (mw f a g) = rn xs L 179 42 [vR 44, vI l1, vI l2, vI l3, vI l4, vI (-3 : Int32), vI (l6 + (1 : Int32))] [] (mw f a g) :=
  (r_con (pg_of mt_179 dX6_holdFor_77 rfl) (v2 := (-3 : Int32)) (by decide)).trans <|
  (r_ist (pg_of mt_179 dX6_holdFor_79 rfl) (Nat.le_of_ble_eq_true rfl) rfl).trans <|
  (r_inc (pg_of mt_179 dX6_holdFor_81 rfl) (y := (1 : Int32)) (by decide) rfl rfl).trans <|
  (r_gto (pg_of mt_179 dX6_holdFor_84 rfl))
theorem b179_87 (l1 : Int32) (l2 : Int32) (l3 : Int32) (l4 : Int32) (l5 : Int32) (l6 : Int32) (h1 : ma_in l3 62 = true) : rn xs L 179 87 [vR 44, vI l1, vI l2, vI l3, vI l4, vI l5, vI l6] [] (mw f a g) = some (some (vI l5), (mw f ((ma_u2 a 45 l3.toNatClampNeg l4)) g)) :=
  (r_ald (pg_of mt_179 dX6_holdFor_87 rfl) rfl).trans <|
  (r_gtr (a := 45) (pg_of mt_179 dX6_holdFor_88 rfl) rfl rfl).trans <|
  (r_ild (pg_of mt_179 dX6_holdFor_91 rfl) rfl).trans <|
  (r_ild (pg_of mt_179 dX6_holdFor_92 rfl) rfl).trans <|
  (r_iast (pg_of mt_179 dX6_holdFor_94 rfl) rfl h1).trans <|
  (r_ild (pg_of mt_179 dX6_holdFor_95 rfl) rfl).trans <|
  (r_ri (pg_of mt_179 dX6_holdFor_97 rfl) mt_179 rfl)
-- 180 LeafFallsModel.isShort(I)Z
theorem b180_0 (l0 : Int32) : rn xs L 180 0 [vI l0] [] (mw f a g) = (ev xs L 115 6 [vL (l0).toInt64, vL (1 : Int64), vL (20 : Int64)] (mw f a g)).bind (fun b => rn xs L 180 9 [vI l0] (b.1.toList ++ []) b.2) :=
  (r_ild (pg_of mt_180 dX6_isShort_0 rfl) rfl).trans <|
  (r_i2l (pg_of mt_180 dX6_isShort_1 rfl)).trans <|
  (r_lcn (pg_of mt_180 dX6_isShort_2 rfl) (v2 := (1 : Int64)) (by decide)).trans <|
  (r_lcn (pg_of mt_180 dX6_isShort_3 rfl) (v2 := (20 : Int64)) rfl).trans <|
  (r_call (t := tt_180) (t2 := tt_115) (pg_of mt_180 dX6_isShort_6 rfl) mt_180 mt_115 rfl rfl rfl rfl rfl)
theorem b180_9 (l0 : Int32) (s0 : Int32) (h1 : s0 = 0 ∨ s0 = 1) : rn xs L 180 9 [vI l0] [vI s0] (mw f a g) = some (some (vI s0), (mw f a g)) :=
  (r_rz (pg_of mt_180 dX6_isShort_9 rfl) mt_180 rfl h1)
-- 181 LeafFallsModel.hangsBehind(III)Z
theorem b181_0 (l1 : Int32) (l2 : Int32) (l3 : Int32) (l4 : ma_V) (l5 : ma_V) : rn xs L 181 0 [vR 44, vI l1, vI l2, vI l3, l4, l5] [] (mw f a g) = (ev xs L 117 3 [vR 45, vR 47] (mw f a g)).bind (fun b => rn xs L 181 11 [vR 44, vI l1, vI l2, vI l3, l4, l5] (b.1.toList ++ []) b.2) :=
  (r_ald (pg_of mt_181 dX6_hangsBehind_0 rfl) rfl).trans <|
  (r_gtr (a := 45) (pg_of mt_181 dX6_hangsBehind_1 rfl) rfl rfl).trans <|
  (r_ald (pg_of mt_181 dX6_hangsBehind_4 rfl) rfl).trans <|
  (r_gtr (a := 47) (pg_of mt_181 dX6_hangsBehind_5 rfl) rfl rfl).trans <|
  (r_call (t := tt_181) (t2 := tt_117) (pg_of mt_181 dX6_hangsBehind_8 rfl) mt_181 mt_117 rfl rfl rfl rfl rfl)
theorem b181_11 (l1 : Int32) (l2 : Int32) (l3 : Int32) (l4 : ma_V) (l5 : ma_V) : rn xs L 181 11 [vR 44, vI l1, vI l2, vI l3, l4, l5] [] (mw f a g) = rn xs L 181 14 [vR 44, vI l1, vI l2, vI l3, vI (0 : Int32), l5] [] (mw f a g) :=
  (r_con (pg_of mt_181 dX6_hangsBehind_11 rfl) (v2 := (0 : Int32)) (by decide)).trans <|
  (r_ist (pg_of mt_181 dX6_hangsBehind_12 rfl) (Nat.le_of_ble_eq_true rfl) rfl)
theorem b181_14 (l1 : Int32) (l2 : Int32) (l3 : Int32) (l4 : Int32) (l5 : ma_V) : rn xs L 181 14 [vR 44, vI l1, vI l2, vI l3, vI l4, l5] [] (mw f a g) = if l4 < l2 then rn xs L 181 20 [vR 44, vI l1, vI l2, vI l3, vI l4, l5] [] (mw f a g) else rn xs L 181 33 [vR 44, vI l1, vI l2, vI l3, vI l4, l5] [] (mw f a g) :=
  (r_ild (pg_of mt_181 dX6_hangsBehind_14 rfl) rfl).trans <|
  (r_ild (pg_of mt_181 dX6_hangsBehind_16 rfl) rfl).trans <|
  (r_ge (pg_of mt_181 dX6_hangsBehind_17 rfl))
theorem b181_20 (l1 : Int32) (l2 : Int32) (l3 : Int32) (l4 : Int32) (l5 : ma_V) : rn xs L 181 20 [vR 44, vI l1, vI l2, vI l3, vI l4, l5] [] (mw f a g) = (ev xs L 157 5 [vR 44, vI l3] (mw f a g)).bind (fun b => rn xs L 181 25 [vR 44, vI l1, vI l2, vI l3, vI l4, l5] (b.1.toList ++ []) b.2) :=
  (r_ald (pg_of mt_181 dX6_hangsBehind_20 rfl) rfl).trans <|
  (r_ild (pg_of mt_181 dX6_hangsBehind_21 rfl) rfl).trans <|
  (r_call (t := tt_181) (t2 := tt_157) (pg_of mt_181 dX6_hangsBehind_22 rfl) mt_181 mt_157 rfl rfl (rcv1 rfl) rfl rfl)
theorem b181_25 (l1 : Int32) (l2 : Int32) (l3 : Int32) (l4 : Int32) (l5 : ma_V) (s0 : Int32) : rn xs L 181 25 [vR 44, vI l1, vI l2, vI l3, vI l4, l5] [vI s0] (mw f a g) = rn xs L 181 14 [vR 44, vI l1, vI l2, vI l3, vI (l4 + (1 : Int32)), vI s0] [] (mw f a g) :=
  (r_ist (pg_of mt_181 dX6_hangsBehind_25 rfl) (Nat.le_of_ble_eq_true rfl) rfl).trans <|
  (r_inc (pg_of mt_181 dX6_hangsBehind_27 rfl) (y := (1 : Int32)) (by decide) rfl rfl).trans <|
  (r_gto (pg_of mt_181 dX6_hangsBehind_30 rfl))
theorem b181_33 (l1 : Int32) (l2 : Int32) (l3 : Int32) (l4 : Int32) (l5 : ma_V) : rn xs L 181 33 [vR 44, vI l1, vI l2, vI l3, vI l4, l5] [] (mw f a g) = (ev xs L 142 3 [vR 44, vI l1, vI (4 : Int32)] (mw f a g)).bind (fun b => rn xs L 181 39 [vR 44, vI l1, vI l2, vI l3, vI l4, l5] (b.1.toList ++ []) b.2) :=
  (r_ald (pg_of mt_181 dX6_hangsBehind_33 rfl) rfl).trans <|
  (r_ild (pg_of mt_181 dX6_hangsBehind_34 rfl) rfl).trans <|
  (r_con (pg_of mt_181 dX6_hangsBehind_35 rfl) (v2 := (4 : Int32)) (by decide)).trans <|
  (r_call (t := tt_181) (t2 := tt_142) (pg_of mt_181 dX6_hangsBehind_36 rfl) mt_181 mt_142 rfl rfl (rcv1 rfl) rfl rfl)
theorem b181_39 (l1 : Int32) (l2 : Int32) (l3 : Int32) (l4 : Int32) (l5 : ma_V) (s0 : Int32) : rn xs L 181 39 [vR 44, vI l1, vI l2, vI l3, vI l4, l5] [vI s0] (mw f a g) = if s0 = (1 : Int32) then rn xs L 181 43 [vR 44, vI l1, vI l2, vI l3, vI l4, l5] [] (mw f a g) else rn xs L 181 47 [vR 44, vI l1, vI l2, vI l3, vI l4, l5] [] (mw f a g) :=
  (r_con (pg_of mt_181 dX6_hangsBehind_39 rfl) (v2 := (1 : Int32)) (by decide)).trans <|
  (r_ne (pg_of mt_181 dX6_hangsBehind_40 rfl))
theorem b181_43 (l1 : Int32) (l2 : Int32) (l3 : Int32) (l4 : Int32) (l5 : ma_V) : rn xs L 181 43 [vR 44, vI l1, vI l2, vI l3, vI l4, l5] [] (mw f a g) = (ev xs L 117 3 [vR 47, vR 45] (mw f a g)).bind (fun b => rn xs L 181 61 [vR 44, vI l1, vI l2, vI l3, vI (1 : Int32), l5] (b.1.toList ++ []) b.2) :=
  (r_con (pg_of mt_181 dX6_hangsBehind_43 rfl) (v2 := (1 : Int32)) (by decide)).trans <|
  (r_gto (pg_of mt_181 dX6_hangsBehind_44 rfl)).trans <|
  (r_ist (pg_of mt_181 dX6_hangsBehind_48 rfl) (Nat.le_of_ble_eq_true rfl) rfl).trans <|
  (r_ald (pg_of mt_181 dX6_hangsBehind_50 rfl) rfl).trans <|
  (r_gtr (a := 47) (pg_of mt_181 dX6_hangsBehind_51 rfl) rfl rfl).trans <|
  (r_ald (pg_of mt_181 dX6_hangsBehind_54 rfl) rfl).trans <|
  (r_gtr (a := 45) (pg_of mt_181 dX6_hangsBehind_55 rfl) rfl rfl).trans <|
  (r_call (t := tt_181) (t2 := tt_117) (pg_of mt_181 dX6_hangsBehind_58 rfl) mt_181 mt_117 rfl rfl rfl rfl rfl)
theorem b181_47 (l1 : Int32) (l2 : Int32) (l3 : Int32) (l4 : Int32) (l5 : ma_V) : rn xs L 181 47 [vR 44, vI l1, vI l2, vI l3, vI l4, l5] [] (mw f a g) = (ev xs L 117 3 [vR 47, vR 45] (mw f a g)).bind (fun b => rn xs L 181 61 [vR 44, vI l1, vI l2, vI l3, vI (0 : Int32), l5] (b.1.toList ++ []) b.2) :=
  (r_con (pg_of mt_181 dX6_hangsBehind_47 rfl) (v2 := (0 : Int32)) (by decide)).trans <|
  (r_ist (pg_of mt_181 dX6_hangsBehind_48 rfl) (Nat.le_of_ble_eq_true rfl) rfl).trans <|
  (r_ald (pg_of mt_181 dX6_hangsBehind_50 rfl) rfl).trans <|
  (r_gtr (a := 47) (pg_of mt_181 dX6_hangsBehind_51 rfl) rfl rfl).trans <|
  (r_ald (pg_of mt_181 dX6_hangsBehind_54 rfl) rfl).trans <|
  (r_gtr (a := 45) (pg_of mt_181 dX6_hangsBehind_55 rfl) rfl rfl).trans <|
  (r_call (t := tt_181) (t2 := tt_117) (pg_of mt_181 dX6_hangsBehind_58 rfl) mt_181 mt_117 rfl rfl rfl rfl rfl)
theorem b181_61 (l1 : Int32) (l2 : Int32) (l3 : Int32) (l4 : Int32) (l5 : ma_V) (h1 : l4 = 0 ∨ l4 = 1) : rn xs L 181 61 [vR 44, vI l1, vI l2, vI l3, vI l4, l5] [] (mw f a g) = some (some (vI l4), (mw f a g)) :=
  (r_ild (pg_of mt_181 dX6_hangsBehind_61 rfl) rfl).trans <|
  (r_rz (pg_of mt_181 dX6_hangsBehind_63 rfl) mt_181 rfl h1)
-- 182 LeafFallsModel.tiedFor(II)I
theorem b182_0 (l1 : Int32) (l2 : Int32) (l3 : ma_V) (l4 : ma_V) (l5 : ma_V) (l6 : ma_V) : rn xs L 182 0 [vR 44, vI l1, vI l2, l3, l4, l5, l6] [] (mw f a g) = (ev xs L 140 2 [vR 44, vI l1] (mw f a g)).bind (fun b => rn xs L 182 5 [vR 44, vI l1, vI l2, l3, l4, l5, l6] (b.1.toList ++ []) b.2) :=
  (r_ald (pg_of mt_182 dX6_tiedFor_0 rfl) rfl).trans <|
  (r_ild (pg_of mt_182 dX6_tiedFor_1 rfl) rfl).trans <|
  (r_call (t := tt_182) (t2 := tt_140) (pg_of mt_182 dX6_tiedFor_2 rfl) mt_182 mt_140 rfl rfl (rcv1 rfl) rfl rfl)
theorem b182_5 (l1 : Int32) (l2 : Int32) (l3 : ma_V) (l4 : ma_V) (l5 : ma_V) (l6 : ma_V) (s0 : Int32) : rn xs L 182 5 [vR 44, vI l1, vI l2, l3, l4, l5, l6] [vI s0] (mw f a g) = if s0 = 0 then rn xs L 182 15 [vR 44, vI l1, vI l2, l3, l4, l5, l6] [] (mw f a g) else rn xs L 182 8 [vR 44, vI l1, vI l2, l3, l4, l5, l6] [] (mw f a g) :=
  (r_eq0 (pg_of mt_182 dX6_tiedFor_5 rfl))
theorem b182_8 (l1 : Int32) (l2 : Int32) (l3 : ma_V) (l4 : ma_V) (l5 : ma_V) (l6 : ma_V) : rn xs L 182 8 [vR 44, vI l1, vI l2, l3, l4, l5, l6] [] (mw f a g) = (ev xs L 180 1 [vI l2] (mw f a g)).bind (fun b => rn xs L 182 12 [vR 44, vI l1, vI l2, l3, l4, l5, l6] (b.1.toList ++ []) b.2) :=
  (r_ild (pg_of mt_182 dX6_tiedFor_8 rfl) rfl).trans <|
  (r_call (t := tt_182) (t2 := tt_180) (pg_of mt_182 dX6_tiedFor_9 rfl) mt_182 mt_180 rfl rfl rfl rfl rfl)
theorem b182_12 (l1 : Int32) (l2 : Int32) (l3 : ma_V) (l4 : ma_V) (l5 : ma_V) (l6 : ma_V) (s0 : Int32) : rn xs L 182 12 [vR 44, vI l1, vI l2, l3, l4, l5, l6] [vI s0] (mw f a g) = if s0 = 0 then rn xs L 182 15 [vR 44, vI l1, vI l2, l3, l4, l5, l6] [] (mw f a g) else rn xs L 182 17 [vR 44, vI l1, vI l2, l3, l4, l5, l6] [] (mw f a g) :=
  (r_ne0 (pg_of mt_182 dX6_tiedFor_12 rfl))
theorem b182_15 (l1 : Int32) (l2 : Int32) (l3 : ma_V) (l4 : ma_V) (l5 : ma_V) (l6 : ma_V) : rn xs L 182 15 [vR 44, vI l1, vI l2, l3, l4, l5, l6] [] (mw f a g) = some (some (vI (-1 : Int32)), (mw f a g)) :=
  (r_con (pg_of mt_182 dX6_tiedFor_15 rfl) (v2 := (-1 : Int32)) (by decide)).trans <|
  (r_ri (pg_of mt_182 dX6_tiedFor_16 rfl) mt_182 rfl)
theorem b182_17 (l1 : Int32) (l2 : Int32) (l3 : ma_V) (l4 : ma_V) (l5 : ma_V) (l6 : ma_V) : rn xs L 182 17 [vR 44, vI l1, vI l2, l3, l4, l5, l6] [] (mw f a g) = (ev xs L 153 3 [vR 44] (mw f a g)).bind (fun b => rn xs L 182 21 [vR 44, vI l1, vI l2, l3, l4, l5, l6] (b.1.toList ++ []) b.2) :=
  (r_ald (pg_of mt_182 dX6_tiedFor_17 rfl) rfl).trans <|
  (r_call (t := tt_182) (t2 := tt_153) (pg_of mt_182 dX6_tiedFor_18 rfl) mt_182 mt_153 rfl rfl (rcv1 rfl) rfl rfl)
theorem b182_21 (l1 : Int32) (l2 : Int32) (l3 : ma_V) (l4 : ma_V) (l5 : ma_V) (l6 : ma_V) (s0 : Int32) : rn xs L 182 21 [vR 44, vI l1, vI l2, l3, l4, l5, l6] [vI s0] (mw f a g) = rn xs L 182 35 [vR 44, vI l1, vI l2, vI (s0 &&& (((1 : Int32) <<< (l1 &&& 31)) ^^^ (-1 : Int32))), vI (-3 : Int32), vI (0 : Int32), l6] [] (mw f a g) :=
  (r_con (pg_of mt_182 dX6_tiedFor_21 rfl) (v2 := (1 : Int32)) (by decide)).trans <|
  (r_ild (pg_of mt_182 dX6_tiedFor_22 rfl) rfl).trans <|
  (r_bin (pg_of mt_182 dX6_tiedFor_23 rfl)).trans <|
  (r_con (pg_of mt_182 dX6_tiedFor_24 rfl) (v2 := (-1 : Int32)) (by decide)).trans <|
  (r_bin (pg_of mt_182 dX6_tiedFor_25 rfl)).trans <|
  (r_bin (pg_of mt_182 dX6_tiedFor_26 rfl)).trans <|
  (r_ist (pg_of mt_182 dX6_tiedFor_27 rfl) (Nat.le_of_ble_eq_true rfl) rfl).trans <|
  (r_con (pg_of mt_182 dX6_tiedFor_28 rfl) (v2 := (-3 : Int32)) (by decide)).trans <|
  (r_ist (pg_of mt_182 dX6_tiedFor_30 rfl) (Nat.le_of_ble_eq_true rfl) rfl).trans <|
  (r_con (pg_of mt_182 dX6_tiedFor_32 rfl) (v2 := (0 : Int32)) (by decide)).trans <|
  (r_ist (pg_of mt_182 dX6_tiedFor_33 rfl) (Nat.le_of_ble_eq_true rfl) rfl)
theorem b182_35 (l1 : Int32) (l2 : Int32) (l3 : Int32) (l4 : Int32) (l5 : Int32) (l6 : ma_V) : rn xs L 182 35 [vR 44, vI l1, vI l2, vI l3, vI l4, vI l5, l6] [] (mw f a g) = if l5 < ((1 : Int32) <<< ((a 45 0) &&& 31)) then rn xs L 182 48 [vR 44, vI l1, vI l2, vI l3, vI l4, vI l5, l6] [] (mw f a g) else rn xs L 182 113 [vR 44, vI l1, vI l2, vI l3, vI l4, vI l5, l6] [] (mw f a g) :=
  (r_ild (pg_of mt_182 dX6_tiedFor_35 rfl) rfl).trans <|
  (r_con (pg_of mt_182 dX6_tiedFor_37 rfl) (v2 := (1 : Int32)) (by decide)).trans <|
  (r_ald (pg_of mt_182 dX6_tiedFor_38 rfl) rfl).trans <|
  (r_gtr (a := 45) (pg_of mt_182 dX6_tiedFor_39 rfl) rfl rfl).trans <|
  (r_con (pg_of mt_182 dX6_tiedFor_42 rfl) (v2 := (0 : Int32)) (by decide)).trans <|
  (r_ialc (j := 0) (pg_of mt_182 dX6_tiedFor_43 rfl) rfl (by decide) (by decide)).trans <|
  (r_bin (pg_of mt_182 dX6_tiedFor_44 rfl)).trans <|
  (r_ge (pg_of mt_182 dX6_tiedFor_45 rfl))
theorem b182_48 (l1 : Int32) (l2 : Int32) (l3 : Int32) (l4 : Int32) (l5 : Int32) (l6 : ma_V) : rn xs L 182 48 [vR 44, vI l1, vI l2, vI l3, vI l4, vI l5, l6] [] (mw f a g) = if l4 < 0 then rn xs L 182 66 [vR 44, vI l1, vI l2, vI l3, vI l4, vI l5, l6] [] (mw f a g) else rn xs L 182 53 [vR 44, vI l1, vI l2, vI l3, vI l4, vI l5, l6] [] (mw f a g) :=
  (r_ild (pg_of mt_182 dX6_tiedFor_48 rfl) rfl).trans <|
  (r_lt0 (pg_of mt_182 dX6_tiedFor_50 rfl))
theorem b182_53 (l1 : Int32) (l2 : Int32) (l3 : Int32) (l4 : Int32) (l5 : Int32) (l6 : ma_V) : rn xs L 182 53 [vR 44, vI l1, vI l2, vI l3, vI l4, vI l5, l6] [] (mw f a g) = (ev xs L 144 3 [vI l5] (mw f a g)).bind (fun b => rn xs L 182 58 [vR 44, vI l1, vI l2, vI l3, vI l4, vI l5, l6] (b.1.toList ++ []) b.2) :=
  (r_ild (pg_of mt_182 dX6_tiedFor_53 rfl) rfl).trans <|
  (r_call (t := tt_182) (t2 := tt_144) (pg_of mt_182 dX6_tiedFor_55 rfl) mt_182 mt_144 rfl rfl rfl rfl rfl)
theorem b182_58 (l1 : Int32) (l2 : Int32) (l3 : Int32) (l4 : Int32) (l5 : Int32) (l6 : ma_V) (s0 : Int32) : rn xs L 182 58 [vR 44, vI l1, vI l2, vI l3, vI l4, vI l5, l6] [vI s0] (mw f a g) = (ev xs L 144 3 [vI l4] (mw f a g)).bind (fun b => rn xs L 182 63 [vR 44, vI l1, vI l2, vI l3, vI l4, vI l5, l6] (b.1.toList ++ [vI s0]) b.2) :=
  (r_ild (pg_of mt_182 dX6_tiedFor_58 rfl) rfl).trans <|
  (r_call (t := tt_182) (t2 := tt_144) (pg_of mt_182 dX6_tiedFor_60 rfl) mt_182 mt_144 rfl rfl rfl rfl rfl)
theorem b182_63 (l1 : Int32) (l2 : Int32) (l3 : Int32) (l4 : Int32) (l5 : Int32) (l6 : ma_V) (s0 : Int32) (s1 : Int32) : rn xs L 182 63 [vR 44, vI l1, vI l2, vI l3, vI l4, vI l5, l6] [vI s0, vI s1] (mw f a g) = if s1 < s0 then rn xs L 182 66 [vR 44, vI l1, vI l2, vI l3, vI l4, vI l5, l6] [] (mw f a g) else rn xs L 182 70 [vR 44, vI l1, vI l2, vI l3, vI l4, vI l5, l6] [] (mw f a g) :=
  (r_ge (pg_of mt_182 dX6_tiedFor_63 rfl))
theorem b182_66 (l1 : Int32) (l2 : Int32) (l3 : Int32) (l4 : Int32) (l5 : Int32) (l6 : ma_V) : rn xs L 182 66 [vR 44, vI l1, vI l2, vI l3, vI l4, vI l5, l6] [] (mw f a g) = if (1 : Int32) = 0 then rn xs L 182 103 [vR 44, vI l1, vI l2, vI l3, vI l4, vI l5, vI (1 : Int32)] [] (mw f a g) else rn xs L 182 78 [vR 44, vI l1, vI l2, vI l3, vI l4, vI l5, vI (1 : Int32)] [] (mw f a g) :=
  (r_con (pg_of mt_182 dX6_tiedFor_66 rfl) (v2 := (1 : Int32)) (by decide)).trans <|
  (r_gto (pg_of mt_182 dX6_tiedFor_67 rfl)).trans <|
  (r_ist (pg_of mt_182 dX6_tiedFor_71 rfl) (Nat.le_of_ble_eq_true rfl) rfl).trans <|
  (r_ild (pg_of mt_182 dX6_tiedFor_73 rfl) rfl).trans <|
  (r_eq0 (pg_of mt_182 dX6_tiedFor_75 rfl))
theorem b182_70 (l1 : Int32) (l2 : Int32) (l3 : Int32) (l4 : Int32) (l5 : Int32) (l6 : ma_V) : rn xs L 182 70 [vR 44, vI l1, vI l2, vI l3, vI l4, vI l5, l6] [] (mw f a g) = if (0 : Int32) = 0 then rn xs L 182 103 [vR 44, vI l1, vI l2, vI l3, vI l4, vI l5, vI (0 : Int32)] [] (mw f a g) else rn xs L 182 78 [vR 44, vI l1, vI l2, vI l3, vI l4, vI l5, vI (0 : Int32)] [] (mw f a g) :=
  (r_con (pg_of mt_182 dX6_tiedFor_70 rfl) (v2 := (0 : Int32)) (by decide)).trans <|
  (r_ist (pg_of mt_182 dX6_tiedFor_71 rfl) (Nat.le_of_ble_eq_true rfl) rfl).trans <|
  (r_ild (pg_of mt_182 dX6_tiedFor_73 rfl) rfl).trans <|
  (r_eq0 (pg_of mt_182 dX6_tiedFor_75 rfl))
theorem b182_78 (l1 : Int32) (l2 : Int32) (l3 : Int32) (l4 : Int32) (l5 : Int32) (l6 : Int32) : rn xs L 182 78 [vR 44, vI l1, vI l2, vI l3, vI l4, vI l5, vI l6] [] (mw f a g) = if (l5 &&& (l3 ^^^ (-1 : Int32))) = 0 then rn xs L 182 87 [vR 44, vI l1, vI l2, vI l3, vI l4, vI l5, vI l6] [] (mw f a g) else rn xs L 182 103 [vR 44, vI l1, vI l2, vI l3, vI l4, vI l5, vI l6] [] (mw f a g) :=
  (r_ild (pg_of mt_182 dX6_tiedFor_78 rfl) rfl).trans <|
  (r_ild (pg_of mt_182 dX6_tiedFor_80 rfl) rfl).trans <|
  (r_con (pg_of mt_182 dX6_tiedFor_81 rfl) (v2 := (-1 : Int32)) (by decide)).trans <|
  (r_bin (pg_of mt_182 dX6_tiedFor_82 rfl)).trans <|
  (r_bin (pg_of mt_182 dX6_tiedFor_83 rfl)).trans <|
  (r_ne0 (pg_of mt_182 dX6_tiedFor_84 rfl))
theorem b182_87 (l1 : Int32) (l2 : Int32) (l3 : Int32) (l4 : Int32) (l5 : Int32) (l6 : Int32) : rn xs L 182 87 [vR 44, vI l1, vI l2, vI l3, vI l4, vI l5, vI l6] [] (mw f a g) = (ev xs L 181 6 [vR 44, vI l1, vI l2, vI l5] (mw f a g)).bind (fun b => rn xs L 182 95 [vR 44, vI l1, vI l2, vI l3, vI l4, vI l5, vI l6] (b.1.toList ++ []) b.2) :=
  (r_ald (pg_of mt_182 dX6_tiedFor_87 rfl) rfl).trans <|
  (r_ild (pg_of mt_182 dX6_tiedFor_88 rfl) rfl).trans <|
  (r_ild (pg_of mt_182 dX6_tiedFor_89 rfl) rfl).trans <|
  (r_ild (pg_of mt_182 dX6_tiedFor_90 rfl) rfl).trans <|
  (r_call (t := tt_182) (t2 := tt_181) (pg_of mt_182 dX6_tiedFor_92 rfl) mt_182 mt_181 rfl rfl (rcv1 rfl) rfl rfl)
theorem b182_95 (l1 : Int32) (l2 : Int32) (l3 : Int32) (l4 : Int32) (l5 : Int32) (l6 : Int32) (s0 : Int32) : rn xs L 182 95 [vR 44, vI l1, vI l2, vI l3, vI l4, vI l5, vI l6] [vI s0] (mw f a g) = if s0 = 0 then rn xs L 182 103 [vR 44, vI l1, vI l2, vI l3, vI l4, vI l5, vI l6] [] (mw f a g) else rn xs L 182 98 [vR 44, vI l1, vI l2, vI l3, vI l4, vI l5, vI l6] [] (mw f a g) :=
  (r_eq0 (pg_of mt_182 dX6_tiedFor_95 rfl))
theorem b182_98 (l1 : Int32) (l2 : Int32) (l3 : Int32) (l4 : Int32) (l5 : Int32) (l6 : Int32) : rn xs L 182 98 [vR 44, vI l1, vI l2, vI l3, vI l4, vI l5, vI l6] [] (mw f a g) = rn xs L 182 35 [vR 44, vI l1, vI l2, vI l3, vI l5, vI (l5 + (1 : Int32)), vI l6] [] (mw f a g) :=
  (r_ild (pg_of mt_182 dX6_tiedFor_98 rfl) rfl).trans <|
  (r_gto (pg_of mt_182 dX6_tiedFor_100 rfl)).trans <|
  (r_ist (pg_of mt_182 dX6_tiedFor_105 rfl) (Nat.le_of_ble_eq_true rfl) rfl).trans <|
  (r_inc (pg_of mt_182 dX6_tiedFor_107 rfl) (y := (1 : Int32)) (by decide) rfl rfl).trans <|
  (r_gto (pg_of mt_182 dX6_tiedFor_110 rfl))
theorem b182_103 (l1 : Int32) (l2 : Int32) (l3 : Int32) (l4 : Int32) (l5 : Int32) (l6 : Int32) : rn xs L 182 103 [vR 44, vI l1, vI l2, vI l3, vI l4, vI l5, vI l6] [] (mw f a g) = rn xs L 182 35 [vR 44, vI l1, vI l2, vI l3, vI l4, vI (l5 + (1 : Int32)), vI l6] [] (mw f a g) :=
  (r_ild (pg_of mt_182 dX6_tiedFor_103 rfl) rfl).trans <|
  (r_ist (pg_of mt_182 dX6_tiedFor_105 rfl) (Nat.le_of_ble_eq_true rfl) rfl).trans <|
  (r_inc (pg_of mt_182 dX6_tiedFor_107 rfl) (y := (1 : Int32)) (by decide) rfl rfl).trans <|
  (r_gto (pg_of mt_182 dX6_tiedFor_110 rfl))
theorem b182_113 (l1 : Int32) (l2 : Int32) (l3 : Int32) (l4 : Int32) (l5 : Int32) (l6 : ma_V) : rn xs L 182 113 [vR 44, vI l1, vI l2, vI l3, vI l4, vI l5, l6] [] (mw f a g) = some (some (vI l4), (mw f a g)) :=
  (r_ild (pg_of mt_182 dX6_tiedFor_113 rfl) rfl).trans <|
  (r_ri (pg_of mt_182 dX6_tiedFor_115 rfl) mt_182 rfl)
-- 183 LeafFallsModel.fits(III)I
theorem b183_0 (l1 : Int32) (l2 : Int32) (l3 : Int32) (l4 : ma_V) (l5 : ma_V) (l6 : ma_V) (l7 : ma_V) (l8 : ma_V) (l9 : ma_V) : rn xs L 183 0 [vR 44, vI l1, vI l2, vI l3, l4, l5, l6, l7, l8, l9] [] (mw f a g) = (ev xs L 184 1 [vI l1] (mw f a g)).bind (fun b => rn xs L 183 4 [vR 44, vI l1, vI l2, vI l3, l4, l5, l6, l7, l8, l9] (b.1.toList ++ []) b.2) :=
  (r_ild (pg_of mt_183 dX6_fits_0 rfl) rfl).trans <|
  (r_call (t := tt_183) (t2 := tt_184) (pg_of mt_183 dX6_fits_1 rfl) mt_183 mt_184 rfl rfl rfl rfl rfl)
theorem b183_4 (l1 : Int32) (l2 : Int32) (l3 : Int32) (l4 : ma_V) (l5 : ma_V) (l6 : ma_V) (l7 : ma_V) (l8 : ma_V) (l9 : ma_V) (s0 : Int32) : rn xs L 183 4 [vR 44, vI l1, vI l2, vI l3, l4, l5, l6, l7, l8, l9] [vI s0] (mw f a g) = if s0 = 0 then rn xs L 183 25 [vR 44, vI l1, vI l2, vI l3, l4, l5, l6, l7, l8, l9] [] (mw f a g) else rn xs L 183 7 [vR 44, vI l1, vI l2, vI l3, l4, l5, l6, l7, l8, l9] [] (mw f a g) :=
  (r_eq0 (pg_of mt_183 dX6_fits_4 rfl))
theorem b183_7 (l1 : Int32) (l2 : Int32) (l3 : Int32) (l4 : ma_V) (l5 : ma_V) (l6 : ma_V) (l7 : ma_V) (l8 : ma_V) (l9 : ma_V) : rn xs L 183 7 [vR 44, vI l1, vI l2, vI l3, l4, l5, l6, l7, l8, l9] [] (mw f a g) = (ev xs L 140 2 [vR 44, vI l2] (mw f a g)).bind (fun b => rn xs L 183 12 [vR 44, vI l1, vI l2, vI l3, l4, l5, l6, l7, l8, l9] (b.1.toList ++ []) b.2) :=
  (r_ald (pg_of mt_183 dX6_fits_7 rfl) rfl).trans <|
  (r_ild (pg_of mt_183 dX6_fits_8 rfl) rfl).trans <|
  (r_call (t := tt_183) (t2 := tt_140) (pg_of mt_183 dX6_fits_9 rfl) mt_183 mt_140 rfl rfl (rcv1 rfl) rfl rfl)
theorem b183_12 (l1 : Int32) (l2 : Int32) (l3 : Int32) (l4 : ma_V) (l5 : ma_V) (l6 : ma_V) (l7 : ma_V) (l8 : ma_V) (l9 : ma_V) (s0 : Int32) : rn xs L 183 12 [vR 44, vI l1, vI l2, vI l3, l4, l5, l6, l7, l8, l9] [vI s0] (mw f a g) = if s0 = 0 then rn xs L 183 25 [vR 44, vI l1, vI l2, vI l3, l4, l5, l6, l7, l8, l9] [] (mw f a g) else rn xs L 183 15 [vR 44, vI l1, vI l2, vI l3, l4, l5, l6, l7, l8, l9] [] (mw f a g) :=
  (r_eq0 (pg_of mt_183 dX6_fits_12 rfl))
theorem b183_15 (l1 : Int32) (l2 : Int32) (l3 : Int32) (l4 : ma_V) (l5 : ma_V) (l6 : ma_V) (l7 : ma_V) (l8 : ma_V) (l9 : ma_V) : rn xs L 183 15 [vR 44, vI l1, vI l2, vI l3, l4, l5, l6, l7, l8, l9] [] (mw f a g) = (ev xs L 115 6 [vL (l3).toInt64, vL (0 : Int64), vL (1 : Int64)] (mw f a g)).bind (fun b => rn xs L 183 22 [vR 44, vI l1, vI l2, vI l3, l4, l5, l6, l7, l8, l9] (b.1.toList ++ []) b.2) :=
  (r_ild (pg_of mt_183 dX6_fits_15 rfl) rfl).trans <|
  (r_i2l (pg_of mt_183 dX6_fits_16 rfl)).trans <|
  (r_lcn (pg_of mt_183 dX6_fits_17 rfl) (v2 := (0 : Int64)) (by decide)).trans <|
  (r_lcn (pg_of mt_183 dX6_fits_18 rfl) (v2 := (1 : Int64)) (by decide)).trans <|
  (r_call (t := tt_183) (t2 := tt_115) (pg_of mt_183 dX6_fits_19 rfl) mt_183 mt_115 rfl rfl rfl rfl rfl)
theorem b183_22 (l1 : Int32) (l2 : Int32) (l3 : Int32) (l4 : ma_V) (l5 : ma_V) (l6 : ma_V) (l7 : ma_V) (l8 : ma_V) (l9 : ma_V) (s0 : Int32) : rn xs L 183 22 [vR 44, vI l1, vI l2, vI l3, l4, l5, l6, l7, l8, l9] [vI s0] (mw f a g) = if s0 = 0 then rn xs L 183 25 [vR 44, vI l1, vI l2, vI l3, l4, l5, l6, l7, l8, l9] [] (mw f a g) else rn xs L 183 27 [vR 44, vI l1, vI l2, vI l3, l4, l5, l6, l7, l8, l9] [] (mw f a g) :=
  (r_ne0 (pg_of mt_183 dX6_fits_22 rfl))
theorem b183_25 (l1 : Int32) (l2 : Int32) (l3 : Int32) (l4 : ma_V) (l5 : ma_V) (l6 : ma_V) (l7 : ma_V) (l8 : ma_V) (l9 : ma_V) : rn xs L 183 25 [vR 44, vI l1, vI l2, vI l3, l4, l5, l6, l7, l8, l9] [] (mw f a g) = some (some (vI (-1 : Int32)), (mw f a g)) :=
  (r_con (pg_of mt_183 dX6_fits_25 rfl) (v2 := (-1 : Int32)) (by decide)).trans <|
  (r_ri (pg_of mt_183 dX6_fits_26 rfl) mt_183 rfl)
theorem b183_27 (l1 : Int32) (l2 : Int32) (l3 : Int32) (l4 : ma_V) (l5 : ma_V) (l6 : ma_V) (l7 : ma_V) (l8 : ma_V) (l9 : ma_V) (h1 : ma_in l1 4 = true) : rn xs L 183 27 [vR 44, vI l1, vI l2, vI l3, l4, l5, l6, l7, l8, l9] [] (mw f a g) = if (a 52 l1.toNatClampNeg) < 0 then rn xs L 183 36 [vR 44, vI l1, vI l2, vI l3, l4, l5, l6, l7, l8, l9] [] (mw f a g) else rn xs L 183 39 [vR 44, vI l1, vI l2, vI l3, l4, l5, l6, l7, l8, l9] [] (mw f a g) :=
  (r_ald (pg_of mt_183 dX6_fits_27 rfl) rfl).trans <|
  (r_gtr (a := 52) (pg_of mt_183 dX6_fits_28 rfl) rfl rfl).trans <|
  (r_ild (pg_of mt_183 dX6_fits_31 rfl) rfl).trans <|
  (r_iald (pg_of mt_183 dX6_fits_32 rfl) rfl h1).trans <|
  (r_ge0 (pg_of mt_183 dX6_fits_33 rfl))
theorem b183_36 (l1 : Int32) (l2 : Int32) (l3 : Int32) (l4 : ma_V) (l5 : ma_V) (l6 : ma_V) (l7 : ma_V) (l8 : ma_V) (l9 : ma_V) : rn xs L 183 36 [vR 44, vI l1, vI l2, vI l3, l4, l5, l6, l7, l8, l9] [] (mw f a g) = some (some (vI (-11 : Int32)), (mw f a g)) :=
  (r_con (pg_of mt_183 dX6_fits_36 rfl) (v2 := (-11 : Int32)) (by decide)).trans <|
  (r_ri (pg_of mt_183 dX6_fits_38 rfl) mt_183 rfl)
theorem b183_39 (l1 : Int32) (l2 : Int32) (l3 : Int32) (l4 : ma_V) (l5 : ma_V) (l6 : ma_V) (l7 : ma_V) (l8 : ma_V) (l9 : ma_V) (h1 : ma_in ((((14 : Int32) + ((6 : Int32) * l2)) + (2 : Int32))) 62 = true) : rn xs L 183 39 [vR 44, vI l1, vI l2, vI l3, l4, l5, l6, l7, l8, l9] [] (mw f a g) = rn xs L 183 70 [vR 44, vI l1, vI l2, vI l3, vI (((14 : Int32) + ((6 : Int32) * l2)) + (2 : Int32)), vI (a 45 ((((14 : Int32) + ((6 : Int32) * l2)) + (2 : Int32))).toNatClampNeg), vI (0 : Int32), vI (-3 : Int32), vI (99 : Int32), l9] [] (mw f a g) :=
  (r_con (pg_of mt_183 dX6_fits_39 rfl) (v2 := (14 : Int32)) (by decide)).trans <|
  (r_con (pg_of mt_183 dX6_fits_41 rfl) (v2 := (6 : Int32)) (by decide)).trans <|
  (r_ild (pg_of mt_183 dX6_fits_43 rfl) rfl).trans <|
  (r_bin (pg_of mt_183 dX6_fits_44 rfl)).trans <|
  (r_bin (pg_of mt_183 dX6_fits_45 rfl)).trans <|
  (r_con (pg_of mt_183 dX6_fits_46 rfl) (v2 := (2 : Int32)) (by decide)).trans <|
  (r_bin (pg_of mt_183 dX6_fits_47 rfl)).trans <|
  (r_ist (pg_of mt_183 dX6_fits_48 rfl) (Nat.le_of_ble_eq_true rfl) rfl).trans <|
  (r_ald (pg_of mt_183 dX6_fits_50 rfl) rfl).trans <|
  (r_gtr (a := 45) (pg_of mt_183 dX6_fits_51 rfl) rfl rfl).trans <|
  (r_ild (pg_of mt_183 dX6_fits_54 rfl) rfl).trans <|
  (r_iald (pg_of mt_183 dX6_fits_56 rfl) rfl h1).trans <|
  (r_ist (pg_of mt_183 dX6_fits_57 rfl) (Nat.le_of_ble_eq_true rfl) rfl).trans <|
  (r_con (pg_of mt_183 dX6_fits_59 rfl) (v2 := (0 : Int32)) (by decide)).trans <|
  (r_ist (pg_of mt_183 dX6_fits_60 rfl) (Nat.le_of_ble_eq_true rfl) rfl).trans <|
  (r_con (pg_of mt_183 dX6_fits_62 rfl) (v2 := (-3 : Int32)) (by decide)).trans <|
  (r_ist (pg_of mt_183 dX6_fits_64 rfl) (Nat.le_of_ble_eq_true rfl) rfl).trans <|
  (r_con (pg_of mt_183 dX6_fits_66 rfl) (v2 := (99 : Int32)) (by decide)).trans <|
  (r_ist (pg_of mt_183 dX6_fits_68 rfl) (Nat.le_of_ble_eq_true rfl) rfl)
theorem b183_70 (l1 : Int32) (l2 : Int32) (l3 : Int32) (l4 : Int32) (l5 : Int32) (l6 : Int32) (l7 : Int32) (l8 : Int32) (l9 : ma_V) : rn xs L 183 70 [vR 44, vI l1, vI l2, vI l3, vI l4, vI l5, vI l6, vI l7, vI l8, l9] [] (mw f a g) = if l8 < 0 then rn xs L 183 126 [vR 44, vI l1, vI l2, vI l3, vI l4, vI l5, vI l6, vI l7, vI l8, l9] [] (mw f a g) else rn xs L 183 75 [vR 44, vI l1, vI l2, vI l3, vI l4, vI l5, vI l6, vI l7, vI l8, l9] [] (mw f a g) :=
  (r_ild (pg_of mt_183 dX6_fits_70 rfl) rfl).trans <|
  (r_lt0 (pg_of mt_183 dX6_fits_72 rfl))
theorem b183_75 (l1 : Int32) (l2 : Int32) (l3 : Int32) (l4 : Int32) (l5 : Int32) (l6 : Int32) (l7 : Int32) (l8 : Int32) (l9 : ma_V) (h1 : ma_in l4 62 = true) : rn xs L 183 75 [vR 44, vI l1, vI l2, vI l3, vI l4, vI l5, vI l6, vI l7, vI l8, l9] [] (mw f a g) = (ev xs L 185 6 [vR 44, vI l1] (mw f ((ma_u2 a 45 l4.toNatClampNeg l8)) g)).bind (fun b => rn xs L 183 89 [vR 44, vI l1, vI l2, vI l3, vI l4, vI l5, vI l6, vI l7, vI l8, l9] (b.1.toList ++ []) b.2) :=
  (r_ald (pg_of mt_183 dX6_fits_75 rfl) rfl).trans <|
  (r_gtr (a := 45) (pg_of mt_183 dX6_fits_76 rfl) rfl rfl).trans <|
  (r_ild (pg_of mt_183 dX6_fits_79 rfl) rfl).trans <|
  (r_ild (pg_of mt_183 dX6_fits_81 rfl) rfl).trans <|
  (r_iast (pg_of mt_183 dX6_fits_83 rfl) rfl h1).trans <|
  (r_ald (pg_of mt_183 dX6_fits_84 rfl) rfl).trans <|
  (r_ild (pg_of mt_183 dX6_fits_85 rfl) rfl).trans <|
  (r_call (t := tt_183) (t2 := tt_185) (pg_of mt_183 dX6_fits_86 rfl) mt_183 mt_185 rfl rfl (rcv1 rfl) rfl rfl)
theorem b183_89 (l1 : Int32) (l2 : Int32) (l3 : Int32) (l4 : Int32) (l5 : Int32) (l6 : Int32) (l7 : Int32) (l8 : Int32) (l9 : ma_V) (s0 : Int32) : rn xs L 183 89 [vR 44, vI l1, vI l2, vI l3, vI l4, vI l5, vI l6, vI l7, vI l8, l9] [vI s0] (mw f a g) = if s0 = 0 then rn xs L 183 102 [vR 44, vI l1, vI l2, vI l3, vI l4, vI l5, vI l6, vI l7, vI l8, vI s0] [vI l6] (mw f a g) else rn xs L 183 98 [vR 44, vI l1, vI l2, vI l3, vI l4, vI l5, vI l6, vI l7, vI l8, vI s0] [vI l6] (mw f a g) :=
  (r_ist (pg_of mt_183 dX6_fits_89 rfl) (Nat.le_of_ble_eq_true rfl) rfl).trans <|
  (r_ild (pg_of mt_183 dX6_fits_91 rfl) rfl).trans <|
  (r_ild (pg_of mt_183 dX6_fits_93 rfl) rfl).trans <|
  (r_eq0 (pg_of mt_183 dX6_fits_95 rfl))
theorem b183_98 (l1 : Int32) (l2 : Int32) (l3 : Int32) (l4 : Int32) (l5 : Int32) (l6 : Int32) (l7 : Int32) (l8 : Int32) (l9 : Int32) (s0 : Int32) : rn xs L 183 98 [vR 44, vI l1, vI l2, vI l3, vI l4, vI l5, vI l6, vI l7, vI l8, vI l9] [vI s0] (mw f a g) = if l9 = 0 then rn xs L 183 116 [vR 44, vI l1, vI l2, vI l3, vI l4, vI l5, vI (s0 + (1 : Int32)), vI l7, vI l8, vI l9] [] (mw f a g) else rn xs L 183 111 [vR 44, vI l1, vI l2, vI l3, vI l4, vI l5, vI (s0 + (1 : Int32)), vI l7, vI l8, vI l9] [] (mw f a g) :=
  (r_con (pg_of mt_183 dX6_fits_98 rfl) (v2 := (1 : Int32)) (by decide)).trans <|
  (r_gto (pg_of mt_183 dX6_fits_99 rfl)).trans <|
  (r_bin (pg_of mt_183 dX6_fits_103 rfl)).trans <|
  (r_ist (pg_of mt_183 dX6_fits_104 rfl) (Nat.le_of_ble_eq_true rfl) rfl).trans <|
  (r_ild (pg_of mt_183 dX6_fits_106 rfl) rfl).trans <|
  (r_eq0 (pg_of mt_183 dX6_fits_108 rfl))
theorem b183_102 (l1 : Int32) (l2 : Int32) (l3 : Int32) (l4 : Int32) (l5 : Int32) (l6 : Int32) (l7 : Int32) (l8 : Int32) (l9 : Int32) (s0 : Int32) : rn xs L 183 102 [vR 44, vI l1, vI l2, vI l3, vI l4, vI l5, vI l6, vI l7, vI l8, vI l9] [vI s0] (mw f a g) = if l9 = 0 then rn xs L 183 116 [vR 44, vI l1, vI l2, vI l3, vI l4, vI l5, vI (s0 + (0 : Int32)), vI l7, vI l8, vI l9] [] (mw f a g) else rn xs L 183 111 [vR 44, vI l1, vI l2, vI l3, vI l4, vI l5, vI (s0 + (0 : Int32)), vI l7, vI l8, vI l9] [] (mw f a g) :=
  (r_con (pg_of mt_183 dX6_fits_102 rfl) (v2 := (0 : Int32)) (by decide)).trans <|
  (r_bin (pg_of mt_183 dX6_fits_103 rfl)).trans <|
  (r_ist (pg_of mt_183 dX6_fits_104 rfl) (Nat.le_of_ble_eq_true rfl) rfl).trans <|
  (r_ild (pg_of mt_183 dX6_fits_106 rfl) rfl).trans <|
  (r_eq0 (pg_of mt_183 dX6_fits_108 rfl))
theorem b183_111 (l1 : Int32) (l2 : Int32) (l3 : Int32) (l4 : Int32) (l5 : Int32) (l6 : Int32) (l7 : Int32) (l8 : Int32) (l9 : Int32) : rn xs L 183 111 [vR 44, vI l1, vI l2, vI l3, vI l4, vI l5, vI l6, vI l7, vI l8, vI l9] [] (mw f a g) = rn xs L 183 70 [vR 44, vI l1, vI l2, vI l3, vI l4, vI l5, vI l6, vI l8, vI (l8 + (-1 : Int32)), vI l9] [] (mw f a g) :=
  (r_ild (pg_of mt_183 dX6_fits_111 rfl) rfl).trans <|
  (r_gto (pg_of mt_183 dX6_fits_113 rfl)).trans <|
  (r_ist (pg_of mt_183 dX6_fits_118 rfl) (Nat.le_of_ble_eq_true rfl) rfl).trans <|
  (r_inc (pg_of mt_183 dX6_fits_120 rfl) (y := (-1 : Int32)) (by decide) rfl rfl).trans <|
  (r_gto (pg_of mt_183 dX6_fits_123 rfl))
theorem b183_116 (l1 : Int32) (l2 : Int32) (l3 : Int32) (l4 : Int32) (l5 : Int32) (l6 : Int32) (l7 : Int32) (l8 : Int32) (l9 : Int32) : rn xs L 183 116 [vR 44, vI l1, vI l2, vI l3, vI l4, vI l5, vI l6, vI l7, vI l8, vI l9] [] (mw f a g) = rn xs L 183 70 [vR 44, vI l1, vI l2, vI l3, vI l4, vI l5, vI l6, vI l7, vI (l8 + (-1 : Int32)), vI l9] [] (mw f a g) :=
  (r_ild (pg_of mt_183 dX6_fits_116 rfl) rfl).trans <|
  (r_ist (pg_of mt_183 dX6_fits_118 rfl) (Nat.le_of_ble_eq_true rfl) rfl).trans <|
  (r_inc (pg_of mt_183 dX6_fits_120 rfl) (y := (-1 : Int32)) (by decide) rfl rfl).trans <|
  (r_gto (pg_of mt_183 dX6_fits_123 rfl))
theorem b183_126 (l1 : Int32) (l2 : Int32) (l3 : Int32) (l4 : Int32) (l5 : Int32) (l6 : Int32) (l7 : Int32) (l8 : Int32) (l9 : ma_V) (h1 : ma_in l4 62 = true) : rn xs L 183 126 [vR 44, vI l1, vI l2, vI l3, vI l4, vI l5, vI l6, vI l7, vI l8, l9] [] (mw f a g) = if l3 = 0 then rn xs L 183 139 [vR 44, vI l1, vI l2, vI l3, vI l4, vI l5, vI l6, vI l7, vI l8, l9] [] (mw f ((ma_u2 a 45 l4.toNatClampNeg l5)) g) else rn xs L 183 144 [vR 44, vI l1, vI l2, vI l3, vI l4, vI l5, vI l6, vI l7, vI l8, l9] [] (mw f ((ma_u2 a 45 l4.toNatClampNeg l5)) g) :=
  (r_ald (pg_of mt_183 dX6_fits_126 rfl) rfl).trans <|
  (r_gtr (a := 45) (pg_of mt_183 dX6_fits_127 rfl) rfl rfl).trans <|
  (r_ild (pg_of mt_183 dX6_fits_130 rfl) rfl).trans <|
  (r_ild (pg_of mt_183 dX6_fits_132 rfl) rfl).trans <|
  (r_iast (pg_of mt_183 dX6_fits_134 rfl) rfl h1).trans <|
  (r_ild (pg_of mt_183 dX6_fits_135 rfl) rfl).trans <|
  (r_ne0 (pg_of mt_183 dX6_fits_136 rfl))
theorem b183_139 (l1 : Int32) (l2 : Int32) (l3 : Int32) (l4 : Int32) (l5 : Int32) (l6 : Int32) (l7 : Int32) (l8 : Int32) (l9 : ma_V) : rn xs L 183 139 [vR 44, vI l1, vI l2, vI l3, vI l4, vI l5, vI l6, vI l7, vI l8, l9] [] (mw f a g) = some (some (vI l6), (mw f a g)) :=
  (r_ild (pg_of mt_183 dX6_fits_139 rfl) rfl).trans <|
  (r_gto (pg_of mt_183 dX6_fits_141 rfl)).trans <|
  (r_ri (pg_of mt_183 dX6_fits_146 rfl) mt_183 rfl)
theorem b183_144 (l1 : Int32) (l2 : Int32) (l3 : Int32) (l4 : Int32) (l5 : Int32) (l6 : Int32) (l7 : Int32) (l8 : Int32) (l9 : ma_V) : rn xs L 183 144 [vR 44, vI l1, vI l2, vI l3, vI l4, vI l5, vI l6, vI l7, vI l8, l9] [] (mw f a g) = some (some (vI l7), (mw f a g)) :=
  (r_ild (pg_of mt_183 dX6_fits_144 rfl) rfl).trans <|
  (r_ri (pg_of mt_183 dX6_fits_146 rfl) mt_183 rfl)
-- 184 LeafFallsModel.isSheet(I)Z
theorem b184_0 (l0 : Int32) : rn xs L 184 0 [vI l0] [] (mw f a g) = (ev xs L 115 6 [vL (l0).toInt64, vL (0 : Int64), vL (3 : Int64)] (mw f a g)).bind (fun b => rn xs L 184 9 [vI l0] (b.1.toList ++ []) b.2) :=
  (r_ild (pg_of mt_184 dX6_isSheet_0 rfl) rfl).trans <|
  (r_i2l (pg_of mt_184 dX6_isSheet_1 rfl)).trans <|
  (r_lcn (pg_of mt_184 dX6_isSheet_2 rfl) (v2 := (0 : Int64)) (by decide)).trans <|
  (r_lcn (pg_of mt_184 dX6_isSheet_3 rfl) (v2 := (3 : Int64)) rfl).trans <|
  (r_call (t := tt_184) (t2 := tt_115) (pg_of mt_184 dX6_isSheet_6 rfl) mt_184 mt_115 rfl rfl rfl rfl rfl)
theorem b184_9 (l0 : Int32) (s0 : Int32) (h1 : s0 = 0 ∨ s0 = 1) : rn xs L 184 9 [vI l0] [vI s0] (mw f a g) = some (some (vI s0), (mw f a g)) :=
  (r_rz (pg_of mt_184 dX6_isSheet_9 rfl) mt_184 rfl h1)
-- 185 LeafFallsModel.isTold(I)Z
theorem b185_0 (l1 : Int32) (l2 : ma_V) (l3 : ma_V) (l4 : ma_V) (l5 : ma_V) : rn xs L 185 0 [vR 44, vI l1, l2, l3, l4, l5] [] (mw f a g) = (ev xs L 117 3 [vR 45, vR 47] (mw f a g)).bind (fun b => rn xs L 185 11 [vR 44, vI l1, l2, l3, l4, l5] (b.1.toList ++ []) b.2) :=
  (r_ald (pg_of mt_185 dX6_isTold_0 rfl) rfl).trans <|
  (r_gtr (a := 45) (pg_of mt_185 dX6_isTold_1 rfl) rfl rfl).trans <|
  (r_ald (pg_of mt_185 dX6_isTold_4 rfl) rfl).trans <|
  (r_gtr (a := 47) (pg_of mt_185 dX6_isTold_5 rfl) rfl rfl).trans <|
  (r_call (t := tt_185) (t2 := tt_117) (pg_of mt_185 dX6_isTold_8 rfl) mt_185 mt_117 rfl rfl rfl rfl rfl)
theorem b185_11 (l1 : Int32) (l2 : ma_V) (l3 : ma_V) (l4 : ma_V) (l5 : ma_V) : rn xs L 185 11 [vR 44, vI l1, l2, l3, l4, l5] [] (mw f a g) = rn xs L 185 15 [vR 44, vI l1, vI (1 : Int32), vI (0 : Int32), l4, l5] [] (mw f a g) :=
  (r_con (pg_of mt_185 dX6_isTold_11 rfl) (v2 := (1 : Int32)) (by decide)).trans <|
  (r_ist (pg_of mt_185 dX6_isTold_12 rfl) (Nat.le_of_ble_eq_true rfl) rfl).trans <|
  (r_con (pg_of mt_185 dX6_isTold_13 rfl) (v2 := (0 : Int32)) (by decide)).trans <|
  (r_ist (pg_of mt_185 dX6_isTold_14 rfl) (Nat.le_of_ble_eq_true rfl) rfl)
theorem b185_15 (l1 : Int32) (l2 : Int32) (l3 : Int32) (l4 : ma_V) (l5 : ma_V) (h1 : ma_in l1 4 = true) : rn xs L 185 15 [vR 44, vI l1, vI l2, vI l3, l4, l5] [] (mw f a g) = if l3 < (a 53 l1.toNatClampNeg) then rn xs L 185 25 [vR 44, vI l1, vI l2, vI l3, l4, l5] [] (mw f a g) else rn xs L 185 98 [vR 44, vI l1, vI l2, vI l3, l4, l5] [] (mw f a g) :=
  (r_ild (pg_of mt_185 dX6_isTold_15 rfl) rfl).trans <|
  (r_ald (pg_of mt_185 dX6_isTold_16 rfl) rfl).trans <|
  (r_gtr (a := 53) (pg_of mt_185 dX6_isTold_17 rfl) rfl rfl).trans <|
  (r_ild (pg_of mt_185 dX6_isTold_20 rfl) rfl).trans <|
  (r_iald (pg_of mt_185 dX6_isTold_21 rfl) rfl h1).trans <|
  (r_ge (pg_of mt_185 dX6_isTold_22 rfl))
theorem b185_25 (l1 : Int32) (l2 : Int32) (l3 : Int32) (l4 : ma_V) (l5 : ma_V) : rn xs L 185 25 [vR 44, vI l1, vI l2, vI l3, l4, l5] [] (mw f a g) = if l2 = 0 then rn xs L 185 98 [vR 44, vI l1, vI l2, vI l3, l4, l5] [] (mw f a g) else rn xs L 185 29 [vR 44, vI l1, vI l2, vI l3, l4, l5] [] (mw f a g) :=
  (r_ild (pg_of mt_185 dX6_isTold_25 rfl) rfl).trans <|
  (r_eq0 (pg_of mt_185 dX6_isTold_26 rfl))
theorem b185_29 (l1 : Int32) (l2 : Int32) (l3 : Int32) (l4 : ma_V) (l5 : ma_V) : rn xs L 185 29 [vR 44, vI l1, vI l2, vI l3, l4, l5] [] (mw f a g) = (ev xs L 157 5 [vR 44, vI (0 : Int32)] (mw f a g)).bind (fun b => rn xs L 185 34 [vR 44, vI l1, vI l2, vI l3, l4, l5] (b.1.toList ++ []) b.2) :=
  (r_ald (pg_of mt_185 dX6_isTold_29 rfl) rfl).trans <|
  (r_con (pg_of mt_185 dX6_isTold_30 rfl) (v2 := (0 : Int32)) (by decide)).trans <|
  (r_call (t := tt_185) (t2 := tt_157) (pg_of mt_185 dX6_isTold_31 rfl) mt_185 mt_157 rfl rfl (rcv1 rfl) rfl rfl)
theorem b185_34 (l1 : Int32) (l2 : Int32) (l3 : Int32) (l4 : ma_V) (l5 : ma_V) (s0 : Int32) : rn xs L 185 34 [vR 44, vI l1, vI l2, vI l3, l4, l5] [vI s0] (mw f a g) = if s0 < 0 then rn xs L 185 41 [vR 44, vI l1, vI l2, vI l3, vI s0, l5] [] (mw f a g) else rn xs L 185 46 [vR 44, vI l1, vI l2, vI l3, vI s0, l5] [] (mw f a g) :=
  (r_ist (pg_of mt_185 dX6_isTold_34 rfl) (Nat.le_of_ble_eq_true rfl) rfl).trans <|
  (r_ild (pg_of mt_185 dX6_isTold_36 rfl) rfl).trans <|
  (r_ge0 (pg_of mt_185 dX6_isTold_38 rfl))
theorem b185_41 (l1 : Int32) (l2 : Int32) (l3 : Int32) (l4 : Int32) (l5 : ma_V) (h1 : ma_in ((((40 : Int32) * l1) + l3)) 160 = true) : rn xs L 185 41 [vR 44, vI l1, vI l2, vI l3, vI l4, l5] [] (mw f a g) = if (a 54 ((((40 : Int32) * l1) + l3)).toNatClampNeg) = (-1 : Int32) then rn xs L 185 86 [vR 44, vI l1, vI l2, vI l3, vI l4, vI (10 : Int32)] [] (mw f a g) else rn xs L 185 70 [vR 44, vI l1, vI l2, vI l3, vI l4, vI (10 : Int32)] [] (mw f a g) :=
  (r_con (pg_of mt_185 dX6_isTold_41 rfl) (v2 := (10 : Int32)) (by decide)).trans <|
  (r_gto (pg_of mt_185 dX6_isTold_43 rfl)).trans <|
  (r_ist (pg_of mt_185 dX6_isTold_53 rfl) (Nat.le_of_ble_eq_true rfl) rfl).trans <|
  (r_ald (pg_of mt_185 dX6_isTold_55 rfl) rfl).trans <|
  (r_gtr (a := 54) (pg_of mt_185 dX6_isTold_56 rfl) rfl rfl).trans <|
  (r_con (pg_of mt_185 dX6_isTold_59 rfl) (v2 := (40 : Int32)) (by decide)).trans <|
  (r_ild (pg_of mt_185 dX6_isTold_61 rfl) rfl).trans <|
  (r_bin (pg_of mt_185 dX6_isTold_62 rfl)).trans <|
  (r_ild (pg_of mt_185 dX6_isTold_63 rfl) rfl).trans <|
  (r_bin (pg_of mt_185 dX6_isTold_64 rfl)).trans <|
  (r_iald (pg_of mt_185 dX6_isTold_65 rfl) rfl h1).trans <|
  (r_con (pg_of mt_185 dX6_isTold_66 rfl) (v2 := (-1 : Int32)) (by decide)).trans <|
  (r_eq (pg_of mt_185 dX6_isTold_67 rfl))
theorem b185_46 (l1 : Int32) (l2 : Int32) (l3 : Int32) (l4 : Int32) (l5 : ma_V) : rn xs L 185 46 [vR 44, vI l1, vI l2, vI l3, vI l4, l5] [] (mw f a g) = (ev xs L 142 3 [vR 44, vI l4, vI (3 : Int32)] (mw f a g)).bind (fun b => rn xs L 185 53 [vR 44, vI l1, vI l2, vI l3, vI l4, l5] (b.1.toList ++ []) b.2) :=
  (r_ald (pg_of mt_185 dX6_isTold_46 rfl) rfl).trans <|
  (r_ild (pg_of mt_185 dX6_isTold_47 rfl) rfl).trans <|
  (r_con (pg_of mt_185 dX6_isTold_49 rfl) (v2 := (3 : Int32)) (by decide)).trans <|
  (r_call (t := tt_185) (t2 := tt_142) (pg_of mt_185 dX6_isTold_50 rfl) mt_185 mt_142 rfl rfl (rcv1 rfl) rfl rfl)
theorem b185_53 (l1 : Int32) (l2 : Int32) (l3 : Int32) (l4 : Int32) (l5 : ma_V) (s0 : Int32) (h1 : ma_in ((((40 : Int32) * l1) + l3)) 160 = true) : rn xs L 185 53 [vR 44, vI l1, vI l2, vI l3, vI l4, l5] [vI s0] (mw f a g) = if (a 54 ((((40 : Int32) * l1) + l3)).toNatClampNeg) = (-1 : Int32) then rn xs L 185 86 [vR 44, vI l1, vI l2, vI l3, vI l4, vI s0] [] (mw f a g) else rn xs L 185 70 [vR 44, vI l1, vI l2, vI l3, vI l4, vI s0] [] (mw f a g) :=
  (r_ist (pg_of mt_185 dX6_isTold_53 rfl) (Nat.le_of_ble_eq_true rfl) rfl).trans <|
  (r_ald (pg_of mt_185 dX6_isTold_55 rfl) rfl).trans <|
  (r_gtr (a := 54) (pg_of mt_185 dX6_isTold_56 rfl) rfl rfl).trans <|
  (r_con (pg_of mt_185 dX6_isTold_59 rfl) (v2 := (40 : Int32)) (by decide)).trans <|
  (r_ild (pg_of mt_185 dX6_isTold_61 rfl) rfl).trans <|
  (r_bin (pg_of mt_185 dX6_isTold_62 rfl)).trans <|
  (r_ild (pg_of mt_185 dX6_isTold_63 rfl) rfl).trans <|
  (r_bin (pg_of mt_185 dX6_isTold_64 rfl)).trans <|
  (r_iald (pg_of mt_185 dX6_isTold_65 rfl) rfl h1).trans <|
  (r_con (pg_of mt_185 dX6_isTold_66 rfl) (v2 := (-1 : Int32)) (by decide)).trans <|
  (r_eq (pg_of mt_185 dX6_isTold_67 rfl))
theorem b185_70 (l1 : Int32) (l2 : Int32) (l3 : Int32) (l4 : Int32) (l5 : Int32) (h1 : ma_in ((((40 : Int32) * l1) + l3)) 160 = true) : rn xs L 185 70 [vR 44, vI l1, vI l2, vI l3, vI l4, vI l5] [] (mw f a g) = if (a 54 ((((40 : Int32) * l1) + l3)).toNatClampNeg) = l5 then rn xs L 185 86 [vR 44, vI l1, vI l2, vI l3, vI l4, vI l5] [] (mw f a g) else rn xs L 185 90 [vR 44, vI l1, vI l2, vI l3, vI l4, vI l5] [] (mw f a g) :=
  (r_ald (pg_of mt_185 dX6_isTold_70 rfl) rfl).trans <|
  (r_gtr (a := 54) (pg_of mt_185 dX6_isTold_71 rfl) rfl rfl).trans <|
  (r_con (pg_of mt_185 dX6_isTold_74 rfl) (v2 := (40 : Int32)) (by decide)).trans <|
  (r_ild (pg_of mt_185 dX6_isTold_76 rfl) rfl).trans <|
  (r_bin (pg_of mt_185 dX6_isTold_77 rfl)).trans <|
  (r_ild (pg_of mt_185 dX6_isTold_78 rfl) rfl).trans <|
  (r_bin (pg_of mt_185 dX6_isTold_79 rfl)).trans <|
  (r_iald (pg_of mt_185 dX6_isTold_80 rfl) rfl h1).trans <|
  (r_ild (pg_of mt_185 dX6_isTold_81 rfl) rfl).trans <|
  (r_ne (pg_of mt_185 dX6_isTold_83 rfl))
theorem b185_86 (l1 : Int32) (l2 : Int32) (l3 : Int32) (l4 : Int32) (l5 : Int32) : rn xs L 185 86 [vR 44, vI l1, vI l2, vI l3, vI l4, vI l5] [] (mw f a g) = rn xs L 185 15 [vR 44, vI l1, vI (1 : Int32), vI (l3 + (1 : Int32)), vI l4, vI l5] [] (mw f a g) :=
  (r_con (pg_of mt_185 dX6_isTold_86 rfl) (v2 := (1 : Int32)) (by decide)).trans <|
  (r_gto (pg_of mt_185 dX6_isTold_87 rfl)).trans <|
  (r_ist (pg_of mt_185 dX6_isTold_91 rfl) (Nat.le_of_ble_eq_true rfl) rfl).trans <|
  (r_inc (pg_of mt_185 dX6_isTold_92 rfl) (y := (1 : Int32)) (by decide) rfl rfl).trans <|
  (r_gto (pg_of mt_185 dX6_isTold_95 rfl))
theorem b185_90 (l1 : Int32) (l2 : Int32) (l3 : Int32) (l4 : Int32) (l5 : Int32) : rn xs L 185 90 [vR 44, vI l1, vI l2, vI l3, vI l4, vI l5] [] (mw f a g) = rn xs L 185 15 [vR 44, vI l1, vI (0 : Int32), vI (l3 + (1 : Int32)), vI l4, vI l5] [] (mw f a g) :=
  (r_con (pg_of mt_185 dX6_isTold_90 rfl) (v2 := (0 : Int32)) (by decide)).trans <|
  (r_ist (pg_of mt_185 dX6_isTold_91 rfl) (Nat.le_of_ble_eq_true rfl) rfl).trans <|
  (r_inc (pg_of mt_185 dX6_isTold_92 rfl) (y := (1 : Int32)) (by decide) rfl rfl).trans <|
  (r_gto (pg_of mt_185 dX6_isTold_95 rfl))
theorem b185_98 (l1 : Int32) (l2 : Int32) (l3 : Int32) (l4 : ma_V) (l5 : ma_V) : rn xs L 185 98 [vR 44, vI l1, vI l2, vI l3, l4, l5] [] (mw f a g) = (ev xs L 117 3 [vR 47, vR 45] (mw f a g)).bind (fun b => rn xs L 185 109 [vR 44, vI l1, vI l2, vI l3, l4, l5] (b.1.toList ++ []) b.2) :=
  (r_ald (pg_of mt_185 dX6_isTold_98 rfl) rfl).trans <|
  (r_gtr (a := 47) (pg_of mt_185 dX6_isTold_99 rfl) rfl rfl).trans <|
  (r_ald (pg_of mt_185 dX6_isTold_102 rfl) rfl).trans <|
  (r_gtr (a := 45) (pg_of mt_185 dX6_isTold_103 rfl) rfl rfl).trans <|
  (r_call (t := tt_185) (t2 := tt_117) (pg_of mt_185 dX6_isTold_106 rfl) mt_185 mt_117 rfl rfl rfl rfl rfl)
theorem b185_109 (l1 : Int32) (l2 : Int32) (l3 : Int32) (l4 : ma_V) (l5 : ma_V) (h1 : l2 = 0 ∨ l2 = 1) : rn xs L 185 109 [vR 44, vI l1, vI l2, vI l3, l4, l5] [] (mw f a g) = some (some (vI l2), (mw f a g)) :=
  (r_ild (pg_of mt_185 dX6_isTold_109 rfl) rfl).trans <|
  (r_rz (pg_of mt_185 dX6_isTold_110 rfl) mt_185 rfl h1)
-- 186 LeafFallsModel.odds(III)J
theorem b186_0 (l1 : Int32) (l2 : Int32) (l3 : Int32) (l4 : ma_V) (l5 : ma_V) (l6 : ma_V) (l7 : ma_V) (l8 : ma_V) : rn xs L 186 0 [vR 44, vI l1, vI l2, vI l3, l4, l5, l6, l7, l8] [] (mw f a g) = (ev xs L 115 6 [vL (l1).toInt64, vL (0 : Int64), vL (8 : Int64)] (mw f a g)).bind (fun b => rn xs L 186 9 [vR 44, vI l1, vI l2, vI l3, l4, l5, l6, l7, l8] (b.1.toList ++ []) b.2) :=
  (r_ild (pg_of mt_186 dX6_odds_0 rfl) rfl).trans <|
  (r_i2l (pg_of mt_186 dX6_odds_1 rfl)).trans <|
  (r_lcn (pg_of mt_186 dX6_odds_2 rfl) (v2 := (0 : Int64)) (by decide)).trans <|
  (r_lcn (pg_of mt_186 dX6_odds_3 rfl) (v2 := (8 : Int64)) rfl).trans <|
  (r_call (t := tt_186) (t2 := tt_115) (pg_of mt_186 dX6_odds_6 rfl) mt_186 mt_115 rfl rfl rfl rfl rfl)
theorem b186_9 (l1 : Int32) (l2 : Int32) (l3 : Int32) (l4 : ma_V) (l5 : ma_V) (l6 : ma_V) (l7 : ma_V) (l8 : ma_V) (s0 : Int32) : rn xs L 186 9 [vR 44, vI l1, vI l2, vI l3, l4, l5, l6, l7, l8] [vI s0] (mw f a g) = if s0 = 0 then rn xs L 186 33 [vR 44, vI l1, vI l2, vI l3, l4, l5, l6, l7, l8] [] (mw f a g) else rn xs L 186 12 [vR 44, vI l1, vI l2, vI l3, l4, l5, l6, l7, l8] [] (mw f a g) :=
  (r_eq0 (pg_of mt_186 dX6_odds_9 rfl))
theorem b186_12 (l1 : Int32) (l2 : Int32) (l3 : Int32) (l4 : ma_V) (l5 : ma_V) (l6 : ma_V) (l7 : ma_V) (l8 : ma_V) : rn xs L 186 12 [vR 44, vI l1, vI l2, vI l3, l4, l5, l6, l7, l8] [] (mw f a g) = (ev xs L 115 6 [vL (l2).toInt64, vL (0 : Int64), vL (l1).toInt64] (mw f a g)).bind (fun b => rn xs L 186 20 [vR 44, vI l1, vI l2, vI l3, l4, l5, l6, l7, l8] (b.1.toList ++ []) b.2) :=
  (r_ild (pg_of mt_186 dX6_odds_12 rfl) rfl).trans <|
  (r_i2l (pg_of mt_186 dX6_odds_13 rfl)).trans <|
  (r_lcn (pg_of mt_186 dX6_odds_14 rfl) (v2 := (0 : Int64)) (by decide)).trans <|
  (r_ild (pg_of mt_186 dX6_odds_15 rfl) rfl).trans <|
  (r_i2l (pg_of mt_186 dX6_odds_16 rfl)).trans <|
  (r_call (t := tt_186) (t2 := tt_115) (pg_of mt_186 dX6_odds_17 rfl) mt_186 mt_115 rfl rfl rfl rfl rfl)
theorem b186_20 (l1 : Int32) (l2 : Int32) (l3 : Int32) (l4 : ma_V) (l5 : ma_V) (l6 : ma_V) (l7 : ma_V) (l8 : ma_V) (s0 : Int32) : rn xs L 186 20 [vR 44, vI l1, vI l2, vI l3, l4, l5, l6, l7, l8] [vI s0] (mw f a g) = if s0 = 0 then rn xs L 186 33 [vR 44, vI l1, vI l2, vI l3, l4, l5, l6, l7, l8] [] (mw f a g) else rn xs L 186 23 [vR 44, vI l1, vI l2, vI l3, l4, l5, l6, l7, l8] [] (mw f a g) :=
  (r_eq0 (pg_of mt_186 dX6_odds_20 rfl))
theorem b186_23 (l1 : Int32) (l2 : Int32) (l3 : Int32) (l4 : ma_V) (l5 : ma_V) (l6 : ma_V) (l7 : ma_V) (l8 : ma_V) : rn xs L 186 23 [vR 44, vI l1, vI l2, vI l3, l4, l5, l6, l7, l8] [] (mw f a g) = (ev xs L 115 6 [vL (l3).toInt64, vL (0 : Int64), vL (1 : Int64)] (mw f a g)).bind (fun b => rn xs L 186 30 [vR 44, vI l1, vI l2, vI l3, l4, l5, l6, l7, l8] (b.1.toList ++ []) b.2) :=
  (r_ild (pg_of mt_186 dX6_odds_23 rfl) rfl).trans <|
  (r_i2l (pg_of mt_186 dX6_odds_24 rfl)).trans <|
  (r_lcn (pg_of mt_186 dX6_odds_25 rfl) (v2 := (0 : Int64)) (by decide)).trans <|
  (r_lcn (pg_of mt_186 dX6_odds_26 rfl) (v2 := (1 : Int64)) (by decide)).trans <|
  (r_call (t := tt_186) (t2 := tt_115) (pg_of mt_186 dX6_odds_27 rfl) mt_186 mt_115 rfl rfl rfl rfl rfl)
theorem b186_30 (l1 : Int32) (l2 : Int32) (l3 : Int32) (l4 : ma_V) (l5 : ma_V) (l6 : ma_V) (l7 : ma_V) (l8 : ma_V) (s0 : Int32) : rn xs L 186 30 [vR 44, vI l1, vI l2, vI l3, l4, l5, l6, l7, l8] [vI s0] (mw f a g) = if s0 = 0 then rn xs L 186 33 [vR 44, vI l1, vI l2, vI l3, l4, l5, l6, l7, l8] [] (mw f a g) else rn xs L 186 37 [vR 44, vI l1, vI l2, vI l3, l4, l5, l6, l7, l8] [] (mw f a g) :=
  (r_ne0 (pg_of mt_186 dX6_odds_30 rfl))
theorem b186_33 (l1 : Int32) (l2 : Int32) (l3 : Int32) (l4 : ma_V) (l5 : ma_V) (l6 : ma_V) (l7 : ma_V) (l8 : ma_V) : rn xs L 186 33 [vR 44, vI l1, vI l2, vI l3, l4, l5, l6, l7, l8] [] (mw f a g) = some (some (vL (-1 : Int64)), (mw f a g)) :=
  (r_lcn (pg_of mt_186 dX6_odds_33 rfl) (v2 := (-1 : Int64)) rfl).trans <|
  (r_rl (pg_of mt_186 dX6_odds_36 rfl) mt_186 rfl)
theorem b186_37 (l1 : Int32) (l2 : Int32) (l3 : Int32) (l4 : ma_V) (l5 : ma_V) (l6 : ma_V) (l7 : ma_V) (l8 : ma_V) : rn xs L 186 37 [vR 44, vI l1, vI l2, vI l3, l4, l5, l6, l7, l8] [] (mw f a g) = (ev xs L 187 4 [vI l1] (mw f a g)).bind (fun b => rn xs L 186 41 [vR 44, vI l1, vI l2, vI l3, l4, l5, l6, l7, l8] (b.1.toList ++ []) b.2) :=
  (r_ild (pg_of mt_186 dX6_odds_37 rfl) rfl).trans <|
  (r_call (t := tt_186) (t2 := tt_187) (pg_of mt_186 dX6_odds_38 rfl) mt_186 mt_187 rfl rfl rfl rfl rfl)
theorem b186_41 (l1 : Int32) (l2 : Int32) (l3 : Int32) (l4 : ma_V) (l5 : ma_V) (l6 : ma_V) (l7 : ma_V) (l8 : ma_V) (s0 : Int64) : rn xs L 186 41 [vR 44, vI l1, vI l2, vI l3, l4, l5, l6, l7, l8] [vL s0] (mw f a g) = (ev xs L 187 4 [vI l2] (mw f a g)).bind (fun b => rn xs L 186 45 [vR 44, vI l1, vI l2, vI l3, l4, l5, l6, l7, l8] (b.1.toList ++ [vL s0]) b.2) :=
  (r_ild (pg_of mt_186 dX6_odds_41 rfl) rfl).trans <|
  (r_call (t := tt_186) (t2 := tt_187) (pg_of mt_186 dX6_odds_42 rfl) mt_186 mt_187 rfl rfl rfl rfl rfl)
theorem b186_45 (l1 : Int32) (l2 : Int32) (l3 : Int32) (l4 : ma_V) (l5 : ma_V) (l6 : ma_V) (l7 : ma_V) (l8 : ma_V) (s0 : Int64) (s1 : Int64) (h1 : ¬ s0 = 0) : rn xs L 186 45 [vR 44, vI l1, vI l2, vI l3, l4, l5, l6, l7, l8] [vL s0, vL s1] (mw f a g) = (ev xs L 187 4 [vI (l1 - l2)] (mw f a g)).bind (fun b => rn xs L 186 52 [vR 44, vI l1, vI l2, vI l3, l4, l5, l6, l7, l8] (b.1.toList ++ [vL (s1 / s0)]) b.2) :=
  (r_ldv (pg_of mt_186 dX6_odds_45 rfl) h1).trans <|
  (r_ild (pg_of mt_186 dX6_odds_46 rfl) rfl).trans <|
  (r_ild (pg_of mt_186 dX6_odds_47 rfl) rfl).trans <|
  (r_bin (pg_of mt_186 dX6_odds_48 rfl)).trans <|
  (r_call (t := tt_186) (t2 := tt_187) (pg_of mt_186 dX6_odds_49 rfl) mt_186 mt_187 rfl rfl rfl rfl rfl)
theorem b186_52 (l1 : Int32) (l2 : Int32) (l3 : Int32) (l4 : ma_V) (l5 : ma_V) (l6 : ma_V) (l7 : ma_V) (l8 : ma_V) (s0 : Int64) (s1 : Int64) (h1 : ¬ s0 = 0) : rn xs L 186 52 [vR 44, vI l1, vI l2, vI l3, l4, l5, l6, l7, l8] [vL s0, vL s1] (mw f a g) = rn xs L 186 61 [vR 44, vI l1, vI l2, vI l3, vL (s1 / s0), (vS 0), vL (1 : Int64), (vS 0), vI (0 : Int32)] [] (mw f a g) :=
  (r_ldv (pg_of mt_186 dX6_odds_52 rfl) h1).trans <|
  (r_lst (pg_of mt_186 dX6_odds_53 rfl) (Nat.le_of_ble_eq_true rfl) rfl).trans <|
  (r_lcn (pg_of mt_186 dX6_odds_55 rfl) (v2 := (1 : Int64)) (by decide)).trans <|
  (r_lst (pg_of mt_186 dX6_odds_56 rfl) (Nat.le_of_ble_eq_true rfl) rfl).trans <|
  (r_con (pg_of mt_186 dX6_odds_58 rfl) (v2 := (0 : Int32)) (by decide)).trans <|
  (r_ist (pg_of mt_186 dX6_odds_59 rfl) (Nat.le_of_ble_eq_true rfl) rfl)
theorem b186_61 (l1 : Int32) (l2 : Int32) (l3 : Int32) (l4 : Int64) (l6 : Int64) (l8 : Int32) : rn xs L 186 61 [vR 44, vI l1, vI l2, vI l3, vL l4, (vS 0), vL l6, (vS 0), vI l8] [] (mw f a g) = if l8 < l1 then rn xs L 186 67 [vR 44, vI l1, vI l2, vI l3, vL l4, (vS 0), vL l6, (vS 0), vI l8] [] (mw f a g) else rn xs L 186 114 [vR 44, vI l1, vI l2, vI l3, vL l4, (vS 0), vL l6, (vS 0), vI l8] [] (mw f a g) :=
  (r_ild (pg_of mt_186 dX6_odds_61 rfl) rfl).trans <|
  (r_ild (pg_of mt_186 dX6_odds_63 rfl) rfl).trans <|
  (r_ge (pg_of mt_186 dX6_odds_64 rfl))
theorem b186_67 (l1 : Int32) (l2 : Int32) (l3 : Int32) (l4 : Int64) (l6 : Int64) (l8 : Int32) : rn xs L 186 67 [vR 44, vI l1, vI l2, vI l3, vL l4, (vS 0), vL l6, (vS 0), vI l8] [] (mw f a g) = if l8 < l2 then rn xs L 186 75 [vR 44, vI l1, vI l2, vI l3, vL l4, (vS 0), vL l6, (vS 0), vI l8] [vL l4] (mw f a g) else rn xs L 186 86 [vR 44, vI l1, vI l2, vI l3, vL l4, (vS 0), vL l6, (vS 0), vI l8] [vL l4] (mw f a g) :=
  (r_lld (pg_of mt_186 dX6_odds_67 rfl) rfl).trans <|
  (r_ild (pg_of mt_186 dX6_odds_69 rfl) rfl).trans <|
  (r_ild (pg_of mt_186 dX6_odds_71 rfl) rfl).trans <|
  (r_ge (pg_of mt_186 dX6_odds_72 rfl))
theorem b186_75 (l1 : Int32) (l2 : Int32) (l3 : Int32) (l4 : Int64) (l6 : Int64) (l8 : Int32) (s0 : Int64) : rn xs L 186 75 [vR 44, vI l1, vI l2, vI l3, vL l4, (vS 0), vL l6, (vS 0), vI l8] [vL s0] (mw f a g) = rn xs L 186 61 [vR 44, vI l1, vI l2, vI l3, vL (s0 * ((a 45 7)).toInt64), (vS 0), vL (l6 * (100 : Int64)), (vS 0), vI (l8 + (1 : Int32))] [] (mw f a g) :=
  (r_ald (pg_of mt_186 dX6_odds_75 rfl) rfl).trans <|
  (r_gtr (a := 45) (pg_of mt_186 dX6_odds_76 rfl) rfl rfl).trans <|
  (r_con (pg_of mt_186 dX6_odds_79 rfl) (v2 := (7 : Int32)) (by decide)).trans <|
  (r_ialc (j := 7) (pg_of mt_186 dX6_odds_81 rfl) rfl (by decide) (by decide)).trans <|
  (r_i2l (pg_of mt_186 dX6_odds_82 rfl)).trans <|
  (r_gto (pg_of mt_186 dX6_odds_83 rfl)).trans <|
  (r_lbn (pg_of mt_186 dX6_odds_97 rfl)).trans <|
  (r_lst (pg_of mt_186 dX6_odds_98 rfl) (Nat.le_of_ble_eq_true rfl) rfl).trans <|
  (r_lld (pg_of mt_186 dX6_odds_100 rfl) rfl).trans <|
  (r_lcn (pg_of mt_186 dX6_odds_102 rfl) (v2 := (100 : Int64)) rfl).trans <|
  (r_lbn (pg_of mt_186 dX6_odds_105 rfl)).trans <|
  (r_lst (pg_of mt_186 dX6_odds_106 rfl) (Nat.le_of_ble_eq_true rfl) rfl).trans <|
  (r_inc (pg_of mt_186 dX6_odds_108 rfl) (y := (1 : Int32)) (by decide) rfl rfl).trans <|
  (r_gto (pg_of mt_186 dX6_odds_111 rfl))
theorem b186_86 (l1 : Int32) (l2 : Int32) (l3 : Int32) (l4 : Int64) (l6 : Int64) (l8 : Int32) (s0 : Int64) : rn xs L 186 86 [vR 44, vI l1, vI l2, vI l3, vL l4, (vS 0), vL l6, (vS 0), vI l8] [vL s0] (mw f a g) = rn xs L 186 61 [vR 44, vI l1, vI l2, vI l3, vL (s0 * (((100 : Int32) - (a 45 7))).toInt64), (vS 0), vL (l6 * (100 : Int64)), (vS 0), vI (l8 + (1 : Int32))] [] (mw f a g) :=
  (r_con (pg_of mt_186 dX6_odds_86 rfl) (v2 := (100 : Int32)) (by decide)).trans <|
  (r_ald (pg_of mt_186 dX6_odds_88 rfl) rfl).trans <|
  (r_gtr (a := 45) (pg_of mt_186 dX6_odds_89 rfl) rfl rfl).trans <|
  (r_con (pg_of mt_186 dX6_odds_92 rfl) (v2 := (7 : Int32)) (by decide)).trans <|
  (r_ialc (j := 7) (pg_of mt_186 dX6_odds_94 rfl) rfl (by decide) (by decide)).trans <|
  (r_bin (pg_of mt_186 dX6_odds_95 rfl)).trans <|
  (r_i2l (pg_of mt_186 dX6_odds_96 rfl)).trans <|
  (r_lbn (pg_of mt_186 dX6_odds_97 rfl)).trans <|
  (r_lst (pg_of mt_186 dX6_odds_98 rfl) (Nat.le_of_ble_eq_true rfl) rfl).trans <|
  (r_lld (pg_of mt_186 dX6_odds_100 rfl) rfl).trans <|
  (r_lcn (pg_of mt_186 dX6_odds_102 rfl) (v2 := (100 : Int64)) rfl).trans <|
  (r_lbn (pg_of mt_186 dX6_odds_105 rfl)).trans <|
  (r_lst (pg_of mt_186 dX6_odds_106 rfl) (Nat.le_of_ble_eq_true rfl) rfl).trans <|
  (r_inc (pg_of mt_186 dX6_odds_108 rfl) (y := (1 : Int32)) (by decide) rfl rfl).trans <|
  (r_gto (pg_of mt_186 dX6_odds_111 rfl))
theorem b186_114 (l1 : Int32) (l2 : Int32) (l3 : Int32) (l4 : Int64) (l6 : Int64) (l8 : Int32) : rn xs L 186 114 [vR 44, vI l1, vI l2, vI l3, vL l4, (vS 0), vL l6, (vS 0), vI l8] [] (mw f a g) = (ev xs L 188 11 [vL l4, vL l6, vI l3] (mw f a g)).bind (fun b => rn xs L 186 122 [vR 44, vI l1, vI l2, vI l3, vL l4, (vS 0), vL l6, (vS 0), vI l8] (b.1.toList ++ []) b.2) :=
  (r_lld (pg_of mt_186 dX6_odds_114 rfl) rfl).trans <|
  (r_lld (pg_of mt_186 dX6_odds_116 rfl) rfl).trans <|
  (r_ild (pg_of mt_186 dX6_odds_118 rfl) rfl).trans <|
  (r_call (t := tt_186) (t2 := tt_188) (pg_of mt_186 dX6_odds_119 rfl) mt_186 mt_188 rfl rfl rfl rfl rfl)
theorem b186_122 (l1 : Int32) (l2 : Int32) (l3 : Int32) (l4 : Int64) (l6 : Int64) (l8 : Int32) (s0 : Int64) : rn xs L 186 122 [vR 44, vI l1, vI l2, vI l3, vL l4, (vS 0), vL l6, (vS 0), vI l8] [vL s0] (mw f a g) = some (some (vL s0), (mw f a g)) :=
  (r_rl (pg_of mt_186 dX6_odds_122 rfl) mt_186 rfl)
-- 187 LeafFallsModel.product(I)J
theorem b187_0 (l0 : Int32) (l1 : ma_V) (l2 : ma_V) (l3 : ma_V) : rn xs L 187 0 [vI l0, l1, l2, l3] [] (mw f a g) = rn xs L 187 4 [vI l0, vL (1 : Int64), (vS 0), vI (2 : Int32)] [] (mw f a g) :=
  (r_lcn (pg_of mt_187 dX6_product_0 rfl) (v2 := (1 : Int64)) (by decide)).trans <|
  (r_lst (pg_of mt_187 dX6_product_1 rfl) (Nat.le_of_ble_eq_true rfl) rfl).trans <|
  (r_con (pg_of mt_187 dX6_product_2 rfl) (v2 := (2 : Int32)) (by decide)).trans <|
  (r_ist (pg_of mt_187 dX6_product_3 rfl) (Nat.le_of_ble_eq_true rfl) rfl)
theorem b187_4 (l0 : Int32) (l1 : Int64) (l3 : Int32) : rn xs L 187 4 [vI l0, vL l1, (vS 0), vI l3] [] (mw f a g) = if l0 < l3 then rn xs L 187 20 [vI l0, vL l1, (vS 0), vI l3] [] (mw f a g) else rn xs L 187 9 [vI l0, vL l1, (vS 0), vI l3] [] (mw f a g) :=
  (r_ild (pg_of mt_187 dX6_product_4 rfl) rfl).trans <|
  (r_ild (pg_of mt_187 dX6_product_5 rfl) rfl).trans <|
  (r_gt (pg_of mt_187 dX6_product_6 rfl))
theorem b187_9 (l0 : Int32) (l1 : Int64) (l3 : Int32) : rn xs L 187 9 [vI l0, vL l1, (vS 0), vI l3] [] (mw f a g) = rn xs L 187 4 [vI l0, vL (l1 * (l3).toInt64), (vS 0), vI (l3 + (1 : Int32))] [] (mw f a g) :=
  (r_lld (pg_of mt_187 dX6_product_9 rfl) rfl).trans <|
  (r_ild (pg_of mt_187 dX6_product_10 rfl) rfl).trans <|
  (r_i2l (pg_of mt_187 dX6_product_11 rfl)).trans <|
  (r_lbn (pg_of mt_187 dX6_product_12 rfl)).trans <|
  (r_lst (pg_of mt_187 dX6_product_13 rfl) (Nat.le_of_ble_eq_true rfl) rfl).trans <|
  (r_inc (pg_of mt_187 dX6_product_14 rfl) (y := (1 : Int32)) (by decide) rfl rfl).trans <|
  (r_gto (pg_of mt_187 dX6_product_17 rfl))
theorem b187_20 (l0 : Int32) (l1 : Int64) (l3 : Int32) : rn xs L 187 20 [vI l0, vL l1, (vS 0), vI l3] [] (mw f a g) = some (some (vL l1), (mw f a g)) :=
  (r_lld (pg_of mt_187 dX6_product_20 rfl) rfl).trans <|
  (r_rl (pg_of mt_187 dX6_product_21 rfl) mt_187 rfl)
-- 188 LeafFallsModel.partOf(JJI)J
theorem b188_0 (l0 : Int64) (l2 : Int64) (l4 : Int32) (l5 : ma_V) (l6 : ma_V) (l7 : ma_V) (l8 : ma_V) (l9 : ma_V) (l10 : ma_V) : rn xs L 188 0 [vL l0, (vS 0), vL l2, (vS 0), vI l4, l5, l6, l7, l8, l9, l10] [] (mw f a g) = rn xs L 188 6 [vL l0, (vS 0), vL l2, (vS 0), vI l4, vL l2, (vS 0), vL l0, (vS 0), l9, l10] [] (mw f a g) :=
  (r_lld (pg_of mt_188 dX6_partOf_0 rfl) rfl).trans <|
  (r_lst (pg_of mt_188 dX6_partOf_1 rfl) (Nat.le_of_ble_eq_true rfl) rfl).trans <|
  (r_lld (pg_of mt_188 dX6_partOf_3 rfl) rfl).trans <|
  (r_lst (pg_of mt_188 dX6_partOf_4 rfl) (Nat.le_of_ble_eq_true rfl) rfl)
theorem b188_6 (l0 : Int64) (l2 : Int64) (l4 : Int32) (l5 : Int64) (l7 : Int64) (l9 : ma_V) (l10 : ma_V) : rn xs L 188 6 [vL l0, (vS 0), vL l2, (vS 0), vI l4, vL l5, (vS 0), vL l7, (vS 0), l9, l10] [] (mw f a g) = if (lg_cmp l7 (0 : Int64)) = 0 then rn xs L 188 31 [vL l0, (vS 0), vL l2, (vS 0), vI l4, vL l5, (vS 0), vL l7, (vS 0), l9, l10] [] (mw f a g) else rn xs L 188 13 [vL l0, (vS 0), vL l2, (vS 0), vI l4, vL l5, (vS 0), vL l7, (vS 0), l9, l10] [] (mw f a g) :=
  (r_lld (pg_of mt_188 dX6_partOf_6 rfl) rfl).trans <|
  (r_lcn (pg_of mt_188 dX6_partOf_8 rfl) (v2 := (0 : Int64)) (by decide)).trans <|
  (r_lcp (pg_of mt_188 dX6_partOf_9 rfl)).trans <|
  (r_eq0 (pg_of mt_188 dX6_partOf_10 rfl))
theorem b188_13 (l0 : Int64) (l2 : Int64) (l4 : Int32) (l5 : Int64) (l7 : Int64) (l9 : ma_V) (l10 : ma_V) (h1 : ¬ l7 = 0) : rn xs L 188 13 [vL l0, (vS 0), vL l2, (vS 0), vI l4, vL l5, (vS 0), vL l7, (vS 0), l9, l10] [] (mw f a g) = rn xs L 188 6 [vL l0, (vS 0), vL l2, (vS 0), vI l4, vL l7, (vS 0), vL (l5 - l5 / l7 * l7), (vS 0), vL (l5 - l5 / l7 * l7), (vS 0)] [] (mw f a g) :=
  (r_lld (pg_of mt_188 dX6_partOf_13 rfl) rfl).trans <|
  (r_lld (pg_of mt_188 dX6_partOf_15 rfl) rfl).trans <|
  (r_ldv (pg_of mt_188 dX6_partOf_17 rfl) h1).trans <|
  (r_lst (pg_of mt_188 dX6_partOf_18 rfl) (Nat.le_of_ble_eq_true rfl) rfl).trans <|
  (r_lld (pg_of mt_188 dX6_partOf_20 rfl) rfl).trans <|
  (r_lst (pg_of mt_188 dX6_partOf_22 rfl) (Nat.le_of_ble_eq_true rfl) rfl).trans <|
  (r_lld (pg_of mt_188 dX6_partOf_24 rfl) rfl).trans <|
  (r_lst (pg_of mt_188 dX6_partOf_26 rfl) (Nat.le_of_ble_eq_true rfl) rfl).trans <|
  (r_gto (pg_of mt_188 dX6_partOf_28 rfl))
theorem b188_31 (l0 : Int64) (l2 : Int64) (l4 : Int32) (l5 : Int64) (l7 : Int64) (l9 : ma_V) (l10 : ma_V) : rn xs L 188 31 [vL l0, (vS 0), vL l2, (vS 0), vI l4, vL l5, (vS 0), vL l7, (vS 0), l9, l10] [] (mw f a g) = if l4 = 0 then rn xs L 188 36 [vL l0, (vS 0), vL l2, (vS 0), vI l4, vL l5, (vS 0), vL l7, (vS 0), l9, l10] [] (mw f a g) else rn xs L 188 43 [vL l0, (vS 0), vL l2, (vS 0), vI l4, vL l5, (vS 0), vL l7, (vS 0), l9, l10] [] (mw f a g) :=
  (r_ild (pg_of mt_188 dX6_partOf_31 rfl) rfl).trans <|
  (r_ne0 (pg_of mt_188 dX6_partOf_33 rfl))
theorem b188_36 (l0 : Int64) (l2 : Int64) (l4 : Int32) (l5 : Int64) (l7 : Int64) (l9 : ma_V) (l10 : ma_V) (h1 : ¬ l5 = 0) : rn xs L 188 36 [vL l0, (vS 0), vL l2, (vS 0), vI l4, vL l5, (vS 0), vL l7, (vS 0), l9, l10] [] (mw f a g) = some (some (vL (l0 / l5)), (mw f a g)) :=
  (r_lld (pg_of mt_188 dX6_partOf_36 rfl) rfl).trans <|
  (r_lld (pg_of mt_188 dX6_partOf_37 rfl) rfl).trans <|
  (r_ldv (pg_of mt_188 dX6_partOf_39 rfl) h1).trans <|
  (r_gto (pg_of mt_188 dX6_partOf_40 rfl)).trans <|
  (r_rl (pg_of mt_188 dX6_partOf_47 rfl) mt_188 rfl)
theorem b188_43 (l0 : Int64) (l2 : Int64) (l4 : Int32) (l5 : Int64) (l7 : Int64) (l9 : ma_V) (l10 : ma_V) (h1 : ¬ l5 = 0) : rn xs L 188 43 [vL l0, (vS 0), vL l2, (vS 0), vI l4, vL l5, (vS 0), vL l7, (vS 0), l9, l10] [] (mw f a g) = some (some (vL (l2 / l5)), (mw f a g)) :=
  (r_lld (pg_of mt_188 dX6_partOf_43 rfl) rfl).trans <|
  (r_lld (pg_of mt_188 dX6_partOf_44 rfl) rfl).trans <|
  (r_ldv (pg_of mt_188 dX6_partOf_46 rfl) h1).trans <|
  (r_rl (pg_of mt_188 dX6_partOf_47 rfl) mt_188 rfl)
-- 189 LeafFallsModel.hope(II)J
theorem b189_0 (l1 : Int32) (l2 : Int32) : rn xs L 189 0 [vR 44, vI l1, vI l2] [] (mw f a g) = (ev xs L 115 6 [vL (l1).toInt64, vL (0 : Int64), vL (99 : Int64)] (mw f a g)).bind (fun b => rn xs L 189 9 [vR 44, vI l1, vI l2] (b.1.toList ++ []) b.2) :=
  (r_ild (pg_of mt_189 dX6_hope_0 rfl) rfl).trans <|
  (r_i2l (pg_of mt_189 dX6_hope_1 rfl)).trans <|
  (r_lcn (pg_of mt_189 dX6_hope_2 rfl) (v2 := (0 : Int64)) (by decide)).trans <|
  (r_lcn (pg_of mt_189 dX6_hope_3 rfl) (v2 := (99 : Int64)) rfl).trans <|
  (r_call (t := tt_189) (t2 := tt_115) (pg_of mt_189 dX6_hope_6 rfl) mt_189 mt_115 rfl rfl rfl rfl rfl)
theorem b189_9 (l1 : Int32) (l2 : Int32) (s0 : Int32) : rn xs L 189 9 [vR 44, vI l1, vI l2] [vI s0] (mw f a g) = if s0 = 0 then rn xs L 189 43 [vR 44, vI l1, vI l2] [] (mw f a g) else rn xs L 189 12 [vR 44, vI l1, vI l2] [] (mw f a g) :=
  (r_eq0 (pg_of mt_189 dX6_hope_9 rfl))
theorem b189_12 (l1 : Int32) (l2 : Int32) : rn xs L 189 12 [vR 44, vI l1, vI l2] [] (mw f a g) = (ev xs L 115 6 [vL (l2).toInt64, vL (0 : Int64), vL (1 : Int64)] (mw f a g)).bind (fun b => rn xs L 189 19 [vR 44, vI l1, vI l2] (b.1.toList ++ []) b.2) :=
  (r_ild (pg_of mt_189 dX6_hope_12 rfl) rfl).trans <|
  (r_i2l (pg_of mt_189 dX6_hope_13 rfl)).trans <|
  (r_lcn (pg_of mt_189 dX6_hope_14 rfl) (v2 := (0 : Int64)) (by decide)).trans <|
  (r_lcn (pg_of mt_189 dX6_hope_15 rfl) (v2 := (1 : Int64)) (by decide)).trans <|
  (r_call (t := tt_189) (t2 := tt_115) (pg_of mt_189 dX6_hope_16 rfl) mt_189 mt_115 rfl rfl rfl rfl rfl)
theorem b189_19 (l1 : Int32) (l2 : Int32) (s0 : Int32) : rn xs L 189 19 [vR 44, vI l1, vI l2] [vI s0] (mw f a g) = if s0 = 0 then rn xs L 189 43 [vR 44, vI l1, vI l2] [] (mw f a g) else rn xs L 189 22 [vR 44, vI l1, vI l2] [] (mw f a g) :=
  (r_eq0 (pg_of mt_189 dX6_hope_19 rfl))
theorem b189_22 (l1 : Int32) (l2 : Int32) : rn xs L 189 22 [vR 44, vI l1, vI l2] [] (mw f a g) = (ev xs L 188 11 [vL ((l1).toInt64 * ((a 45 7)).toInt64), vL (100 : Int64), vI l2] (mw f a g)).bind (fun b => rn xs L 189 40 [vR 44, vI l1, vI l2] (b.1.toList ++ []) b.2) :=
  (r_ild (pg_of mt_189 dX6_hope_22 rfl) rfl).trans <|
  (r_i2l (pg_of mt_189 dX6_hope_23 rfl)).trans <|
  (r_ald (pg_of mt_189 dX6_hope_24 rfl) rfl).trans <|
  (r_gtr (a := 45) (pg_of mt_189 dX6_hope_25 rfl) rfl rfl).trans <|
  (r_con (pg_of mt_189 dX6_hope_28 rfl) (v2 := (7 : Int32)) (by decide)).trans <|
  (r_ialc (j := 7) (pg_of mt_189 dX6_hope_30 rfl) rfl (by decide) (by decide)).trans <|
  (r_i2l (pg_of mt_189 dX6_hope_31 rfl)).trans <|
  (r_lbn (pg_of mt_189 dX6_hope_32 rfl)).trans <|
  (r_lcn (pg_of mt_189 dX6_hope_33 rfl) (v2 := (100 : Int64)) rfl).trans <|
  (r_ild (pg_of mt_189 dX6_hope_36 rfl) rfl).trans <|
  (r_call (t := tt_189) (t2 := tt_188) (pg_of mt_189 dX6_hope_37 rfl) mt_189 mt_188 rfl rfl rfl rfl rfl)
theorem b189_40 (l1 : Int32) (l2 : Int32) (s0 : Int64) : rn xs L 189 40 [vR 44, vI l1, vI l2] [vL s0] (mw f a g) = some (some (vL s0), (mw f a g)) :=
  (r_gto (pg_of mt_189 dX6_hope_40 rfl)).trans <|
  (r_rl (pg_of mt_189 dX6_hope_46 rfl) mt_189 rfl)
theorem b189_43 (l1 : Int32) (l2 : Int32) : rn xs L 189 43 [vR 44, vI l1, vI l2] [] (mw f a g) = some (some (vL (-1 : Int64)), (mw f a g)) :=
  (r_lcn (pg_of mt_189 dX6_hope_43 rfl) (v2 := (-1 : Int64)) rfl).trans <|
  (r_rl (pg_of mt_189 dX6_hope_46 rfl) mt_189 rfl)
-- 190 LeafFallsModel.prove(II)I
theorem b190_0 (l1 : Int32) (l2 : Int32) (l3 : ma_V) (l4 : ma_V) : rn xs L 190 0 [vR 44, vI l1, vI l2, l3, l4] [] (mw f a g) = (ev xs L 140 2 [vR 44, vI l1] (mw f a g)).bind (fun b => rn xs L 190 5 [vR 44, vI l1, vI l2, l3, l4] (b.1.toList ++ []) b.2) :=
  (r_ald (pg_of mt_190 dX6_prove_0 rfl) rfl).trans <|
  (r_ild (pg_of mt_190 dX6_prove_1 rfl) rfl).trans <|
  (r_call (t := tt_190) (t2 := tt_140) (pg_of mt_190 dX6_prove_2 rfl) mt_190 mt_140 rfl rfl (rcv1 rfl) rfl rfl)
theorem b190_5 (l1 : Int32) (l2 : Int32) (l3 : ma_V) (l4 : ma_V) (s0 : Int32) : rn xs L 190 5 [vR 44, vI l1, vI l2, l3, l4] [vI s0] (mw f a g) = if s0 = 0 then rn xs L 190 20 [vR 44, vI l1, vI l2, l3, l4] [] (mw f a g) else rn xs L 190 8 [vR 44, vI l1, vI l2, l3, l4] [] (mw f a g) :=
  (r_eq0 (pg_of mt_190 dX6_prove_5 rfl))
theorem b190_8 (l1 : Int32) (l2 : Int32) (l3 : ma_V) (l4 : ma_V) : rn xs L 190 8 [vR 44, vI l1, vI l2, l3, l4] [] (mw f a g) = (ev xs L 115 6 [vL (l2).toInt64, vL (1 : Int64), vL (10 : Int64)] (mw f a g)).bind (fun b => rn xs L 190 17 [vR 44, vI l1, vI l2, l3, l4] (b.1.toList ++ []) b.2) :=
  (r_ild (pg_of mt_190 dX6_prove_8 rfl) rfl).trans <|
  (r_i2l (pg_of mt_190 dX6_prove_9 rfl)).trans <|
  (r_lcn (pg_of mt_190 dX6_prove_10 rfl) (v2 := (1 : Int64)) (by decide)).trans <|
  (r_lcn (pg_of mt_190 dX6_prove_11 rfl) (v2 := (10 : Int64)) rfl).trans <|
  (r_call (t := tt_190) (t2 := tt_115) (pg_of mt_190 dX6_prove_14 rfl) mt_190 mt_115 rfl rfl rfl rfl rfl)
theorem b190_17 (l1 : Int32) (l2 : Int32) (l3 : ma_V) (l4 : ma_V) (s0 : Int32) : rn xs L 190 17 [vR 44, vI l1, vI l2, l3, l4] [vI s0] (mw f a g) = if s0 = 0 then rn xs L 190 20 [vR 44, vI l1, vI l2, l3, l4] [] (mw f a g) else rn xs L 190 22 [vR 44, vI l1, vI l2, l3, l4] [] (mw f a g) :=
  (r_ne0 (pg_of mt_190 dX6_prove_17 rfl))
theorem b190_20 (l1 : Int32) (l2 : Int32) (l3 : ma_V) (l4 : ma_V) : rn xs L 190 20 [vR 44, vI l1, vI l2, l3, l4] [] (mw f a g) = some (some (vI (-1 : Int32)), (mw f a g)) :=
  (r_con (pg_of mt_190 dX6_prove_20 rfl) (v2 := (-1 : Int32)) (by decide)).trans <|
  (r_ri (pg_of mt_190 dX6_prove_21 rfl) mt_190 rfl)
theorem b190_22 (l1 : Int32) (l2 : Int32) (l3 : ma_V) (l4 : ma_V) : rn xs L 190 22 [vR 44, vI l1, vI l2, l3, l4] [] (mw f a g) = (ev xs L 117 3 [vR 45, vR 47] (mw f a g)).bind (fun b => rn xs L 190 33 [vR 44, vI l1, vI l2, l3, l4] (b.1.toList ++ []) b.2) :=
  (r_ald (pg_of mt_190 dX6_prove_22 rfl) rfl).trans <|
  (r_gtr (a := 45) (pg_of mt_190 dX6_prove_23 rfl) rfl rfl).trans <|
  (r_ald (pg_of mt_190 dX6_prove_26 rfl) rfl).trans <|
  (r_gtr (a := 47) (pg_of mt_190 dX6_prove_27 rfl) rfl rfl).trans <|
  (r_call (t := tt_190) (t2 := tt_117) (pg_of mt_190 dX6_prove_30 rfl) mt_190 mt_117 rfl rfl rfl rfl rfl)
theorem b190_33 (l1 : Int32) (l2 : Int32) (l3 : ma_V) (l4 : ma_V) : rn xs L 190 33 [vR 44, vI l1, vI l2, l3, l4] [] (mw f a g) = rn xs L 190 35 [vR 44, vI l1, vI l2, vI (0 : Int32), l4] [] (mw f a g) :=
  (r_con (pg_of mt_190 dX6_prove_33 rfl) (v2 := (0 : Int32)) (by decide)).trans <|
  (r_ist (pg_of mt_190 dX6_prove_34 rfl) (Nat.le_of_ble_eq_true rfl) rfl)
theorem b190_35 (l1 : Int32) (l2 : Int32) (l3 : Int32) (l4 : ma_V) : rn xs L 190 35 [vR 44, vI l1, vI l2, vI l3, l4] [] (mw f a g) = if l3 < l2 then rn xs L 190 40 [vR 44, vI l1, vI l2, vI l3, l4] [] (mw f a g) else rn xs L 190 99 [vR 44, vI l1, vI l2, vI l3, l4] [] (mw f a g) :=
  (r_ild (pg_of mt_190 dX6_prove_35 rfl) rfl).trans <|
  (r_ild (pg_of mt_190 dX6_prove_36 rfl) rfl).trans <|
  (r_ge (pg_of mt_190 dX6_prove_37 rfl))
theorem b190_40 (l1 : Int32) (l2 : Int32) (l3 : Int32) (l4 : ma_V) : rn xs L 190 40 [vR 44, vI l1, vI l2, vI l3, l4] [] (mw f a g) = (ev xs L 157 5 [vR 44, vI (0 : Int32)] (mw f a g)).bind (fun b => rn xs L 190 45 [vR 44, vI l1, vI l2, vI l3, l4] (b.1.toList ++ []) b.2) :=
  (r_ald (pg_of mt_190 dX6_prove_40 rfl) rfl).trans <|
  (r_con (pg_of mt_190 dX6_prove_41 rfl) (v2 := (0 : Int32)) (by decide)).trans <|
  (r_call (t := tt_190) (t2 := tt_157) (pg_of mt_190 dX6_prove_42 rfl) mt_190 mt_157 rfl rfl (rcv1 rfl) rfl rfl)
theorem b190_45 (l1 : Int32) (l2 : Int32) (l3 : Int32) (l4 : ma_V) (s0 : Int32) : rn xs L 190 45 [vR 44, vI l1, vI l2, vI l3, l4] [vI s0] (mw f a g) = (ev xs L 142 3 [vR 44, vI l1, vI (2 : Int32)] (mw f a g)).bind (fun b => rn xs L 190 60 [vR 44, vI l1, vI l2, vI l3, vI s0] (b.1.toList ++ [vI ((3 : Int32) * l3), vR 51]) b.2) :=
  (r_ist (pg_of mt_190 dX6_prove_45 rfl) (Nat.le_of_ble_eq_true rfl) rfl).trans <|
  (r_ald (pg_of mt_190 dX6_prove_47 rfl) rfl).trans <|
  (r_gtr (a := 51) (pg_of mt_190 dX6_prove_48 rfl) rfl rfl).trans <|
  (r_con (pg_of mt_190 dX6_prove_51 rfl) (v2 := (3 : Int32)) (by decide)).trans <|
  (r_ild (pg_of mt_190 dX6_prove_52 rfl) rfl).trans <|
  (r_bin (pg_of mt_190 dX6_prove_53 rfl)).trans <|
  (r_ald (pg_of mt_190 dX6_prove_54 rfl) rfl).trans <|
  (r_ild (pg_of mt_190 dX6_prove_55 rfl) rfl).trans <|
  (r_con (pg_of mt_190 dX6_prove_56 rfl) (v2 := (2 : Int32)) (by decide)).trans <|
  (r_call (t := tt_190) (t2 := tt_142) (pg_of mt_190 dX6_prove_57 rfl) mt_190 mt_142 rfl rfl (rcv1 rfl) rfl rfl)
theorem b190_60 (l1 : Int32) (l2 : Int32) (l3 : Int32) (l4 : Int32) (s0 : Int32) (s1 : Int32) (h1 : ma_in s1 30 = true) : rn xs L 190 60 [vR 44, vI l1, vI l2, vI l3, vI l4] [vI s0, vI s1, vR 51] (mw f a g) = (ev xs L 142 3 [vR 44, vI l1, vI (4 : Int32)] (mw f ((ma_u2 a 51 s1.toNatClampNeg s0)) g)).bind (fun b => rn xs L 190 76 [vR 44, vI l1, vI l2, vI l3, vI l4] (b.1.toList ++ [vI (((3 : Int32) * l3) + (1 : Int32)), vR 51]) b.2) :=
  (r_iast (pg_of mt_190 dX6_prove_60 rfl) rfl h1).trans <|
  (r_ald (pg_of mt_190 dX6_prove_61 rfl) rfl).trans <|
  (r_gtr (a := 51) (pg_of mt_190 dX6_prove_62 rfl) rfl rfl).trans <|
  (r_con (pg_of mt_190 dX6_prove_65 rfl) (v2 := (3 : Int32)) (by decide)).trans <|
  (r_ild (pg_of mt_190 dX6_prove_66 rfl) rfl).trans <|
  (r_bin (pg_of mt_190 dX6_prove_67 rfl)).trans <|
  (r_con (pg_of mt_190 dX6_prove_68 rfl) (v2 := (1 : Int32)) (by decide)).trans <|
  (r_bin (pg_of mt_190 dX6_prove_69 rfl)).trans <|
  (r_ald (pg_of mt_190 dX6_prove_70 rfl) rfl).trans <|
  (r_ild (pg_of mt_190 dX6_prove_71 rfl) rfl).trans <|
  (r_con (pg_of mt_190 dX6_prove_72 rfl) (v2 := (4 : Int32)) (by decide)).trans <|
  (r_call (t := tt_190) (t2 := tt_142) (pg_of mt_190 dX6_prove_73 rfl) mt_190 mt_142 rfl rfl (rcv1 rfl) rfl rfl)
theorem b190_76 (l1 : Int32) (l2 : Int32) (l3 : Int32) (l4 : Int32) (s0 : Int32) (s1 : Int32) (h1 : ma_in s1 30 = true) (h2 : ma_in ((((3 : Int32) * l3) + (2 : Int32))) 30 = true) : rn xs L 190 76 [vR 44, vI l1, vI l2, vI l3, vI l4] [vI s0, vI s1, vR 51] (mw f a g) = rn xs L 190 35 [vR 44, vI l1, vI l2, vI (l3 + (1 : Int32)), vI l4] [] (mw f ((ma_u2 ((ma_u2 a 51 s1.toNatClampNeg s0)) 51 ((((3 : Int32) * l3) + (2 : Int32))).toNatClampNeg ((((ma_u2 a 51 s1.toNatClampNeg s0)) 45 3)))) g) :=
  (r_iast (pg_of mt_190 dX6_prove_76 rfl) rfl h1).trans <|
  (r_ald (pg_of mt_190 dX6_prove_77 rfl) rfl).trans <|
  (r_gtr (a := 51) (pg_of mt_190 dX6_prove_78 rfl) rfl rfl).trans <|
  (r_con (pg_of mt_190 dX6_prove_81 rfl) (v2 := (3 : Int32)) (by decide)).trans <|
  (r_ild (pg_of mt_190 dX6_prove_82 rfl) rfl).trans <|
  (r_bin (pg_of mt_190 dX6_prove_83 rfl)).trans <|
  (r_con (pg_of mt_190 dX6_prove_84 rfl) (v2 := (2 : Int32)) (by decide)).trans <|
  (r_bin (pg_of mt_190 dX6_prove_85 rfl)).trans <|
  (r_ald (pg_of mt_190 dX6_prove_86 rfl) rfl).trans <|
  (r_gtr (a := 45) (pg_of mt_190 dX6_prove_87 rfl) rfl rfl).trans <|
  (r_con (pg_of mt_190 dX6_prove_90 rfl) (v2 := (3 : Int32)) (by decide)).trans <|
  (r_ialc (j := 3) (pg_of mt_190 dX6_prove_91 rfl) rfl (by decide) (by decide)).trans <|
  (r_iast (pg_of mt_190 dX6_prove_92 rfl) rfl h2).trans <|
  (r_inc (pg_of mt_190 dX6_prove_93 rfl) (y := (1 : Int32)) (by decide) rfl rfl).trans <|
  (r_gto (pg_of mt_190 dX6_prove_96 rfl))
theorem b190_99 (l1 : Int32) (l2 : Int32) (l3 : Int32) (l4 : ma_V) : rn xs L 190 99 [vR 44, vI l1, vI l2, vI l3, l4] [] (mw f a g) = (ev xs L 117 3 [vR 47, vR 45] (mw f a g)).bind (fun b => rn xs L 190 110 [vR 44, vI l1, vI l2, vI l3, l4] (b.1.toList ++ []) b.2) :=
  (r_ald (pg_of mt_190 dX6_prove_99 rfl) rfl).trans <|
  (r_gtr (a := 47) (pg_of mt_190 dX6_prove_100 rfl) rfl rfl).trans <|
  (r_ald (pg_of mt_190 dX6_prove_103 rfl) rfl).trans <|
  (r_gtr (a := 45) (pg_of mt_190 dX6_prove_104 rfl) rfl rfl).trans <|
  (r_call (t := tt_190) (t2 := tt_117) (pg_of mt_190 dX6_prove_107 rfl) mt_190 mt_117 rfl rfl rfl rfl rfl)
theorem b190_110 (l1 : Int32) (l2 : Int32) (l3 : Int32) (l4 : ma_V) : rn xs L 190 110 [vR 44, vI l1, vI l2, vI l3, l4] [] (mw f a g) = some (some (vI l2), (mw ((ma_u2 f 44 14 l2)) a g)) :=
  (r_ald (pg_of mt_190 dX6_prove_110 rfl) rfl).trans <|
  (r_ild (pg_of mt_190 dX6_prove_111 rfl) rfl).trans <|
  (r_pti (pg_of mt_190 dX6_prove_112 rfl) rfl rfl).trans <|
  (r_ild (pg_of mt_190 dX6_prove_115 rfl) rfl).trans <|
  (r_ri (pg_of mt_190 dX6_prove_116 rfl) mt_190 rfl)
-- 191 LeafFallsModel.row(II)I
theorem b191_0 (l1 : Int32) (l2 : Int32) : rn xs L 191 0 [vR 44, vI l1, vI l2] [] (mw f a g) = (ev xs L 192 3 [vR 44, vI l1, vI l2] (mw f a g)).bind (fun b => rn xs L 191 6 [vR 44, vI l1, vI l2] (b.1.toList ++ []) b.2) :=
  (r_ald (pg_of mt_191 dX6_row_0 rfl) rfl).trans <|
  (r_ild (pg_of mt_191 dX6_row_1 rfl) rfl).trans <|
  (r_ild (pg_of mt_191 dX6_row_2 rfl) rfl).trans <|
  (r_call (t := tt_191) (t2 := tt_192) (pg_of mt_191 dX6_row_3 rfl) mt_191 mt_192 rfl rfl (rcv1 rfl) rfl rfl)
theorem b191_6 (l1 : Int32) (l2 : Int32) (s0 : Int32) : rn xs L 191 6 [vR 44, vI l1, vI l2] [vI s0] (mw f a g) = if s0 = 0 then rn xs L 191 22 [vR 44, vI l1, vI l2] [] (mw f a g) else rn xs L 191 9 [vR 44, vI l1, vI l2] [] (mw f a g) :=
  (r_eq0 (pg_of mt_191 dX6_row_6 rfl))
theorem b191_9 (l1 : Int32) (l2 : Int32) (h1 : ma_in ((((3 : Int32) * l1) + l2)) 30 = true) : rn xs L 191 9 [vR 44, vI l1, vI l2] [] (mw f a g) = some (some (vI (a 51 ((((3 : Int32) * l1) + l2)).toNatClampNeg)), (mw f a g)) :=
  (r_ald (pg_of mt_191 dX6_row_9 rfl) rfl).trans <|
  (r_gtr (a := 51) (pg_of mt_191 dX6_row_10 rfl) rfl rfl).trans <|
  (r_con (pg_of mt_191 dX6_row_13 rfl) (v2 := (3 : Int32)) (by decide)).trans <|
  (r_ild (pg_of mt_191 dX6_row_14 rfl) rfl).trans <|
  (r_bin (pg_of mt_191 dX6_row_15 rfl)).trans <|
  (r_ild (pg_of mt_191 dX6_row_16 rfl) rfl).trans <|
  (r_bin (pg_of mt_191 dX6_row_17 rfl)).trans <|
  (r_iald (pg_of mt_191 dX6_row_18 rfl) rfl h1).trans <|
  (r_gto (pg_of mt_191 dX6_row_19 rfl)).trans <|
  (r_ri (pg_of mt_191 dX6_row_24 rfl) mt_191 rfl)
theorem b191_22 (l1 : Int32) (l2 : Int32) : rn xs L 191 22 [vR 44, vI l1, vI l2] [] (mw f a g) = some (some (vI (-9 : Int32)), (mw f a g)) :=
  (r_con (pg_of mt_191 dX6_row_22 rfl) (v2 := (-9 : Int32)) (by decide)).trans <|
  (r_ri (pg_of mt_191 dX6_row_24 rfl) mt_191 rfl)
-- 192 LeafFallsModel.isRow(II)Z
theorem b192_0 (l1 : Int32) (l2 : Int32) : rn xs L 192 0 [vR 44, vI l1, vI l2] [] (mw f a g) = (ev xs L 115 6 [vL (l1).toInt64, vL (0 : Int64), vL (((f 44 14) - (1 : Int32))).toInt64] (mw f a g)).bind (fun b => rn xs L 192 13 [vR 44, vI l1, vI l2] (b.1.toList ++ []) b.2) :=
  (r_ild (pg_of mt_192 dX6_isRow_0 rfl) rfl).trans <|
  (r_i2l (pg_of mt_192 dX6_isRow_1 rfl)).trans <|
  (r_lcn (pg_of mt_192 dX6_isRow_2 rfl) (v2 := (0 : Int64)) (by decide)).trans <|
  (r_ald (pg_of mt_192 dX6_isRow_3 rfl) rfl).trans <|
  (r_gti (pg_of mt_192 dX6_isRow_4 rfl) rfl).trans <|
  (r_con (pg_of mt_192 dX6_isRow_7 rfl) (v2 := (1 : Int32)) (by decide)).trans <|
  (r_bin (pg_of mt_192 dX6_isRow_8 rfl)).trans <|
  (r_i2l (pg_of mt_192 dX6_isRow_9 rfl)).trans <|
  (r_call (t := tt_192) (t2 := tt_115) (pg_of mt_192 dX6_isRow_10 rfl) mt_192 mt_115 rfl rfl rfl rfl rfl)
theorem b192_13 (l1 : Int32) (l2 : Int32) (s0 : Int32) : rn xs L 192 13 [vR 44, vI l1, vI l2] [vI s0] (mw f a g) = if s0 = 0 then rn xs L 192 32 [vR 44, vI l1, vI l2] [] (mw f a g) else rn xs L 192 16 [vR 44, vI l1, vI l2] [] (mw f a g) :=
  (r_eq0 (pg_of mt_192 dX6_isRow_13 rfl))
theorem b192_16 (l1 : Int32) (l2 : Int32) : rn xs L 192 16 [vR 44, vI l1, vI l2] [] (mw f a g) = (ev xs L 115 6 [vL (l2).toInt64, vL (0 : Int64), vL (2 : Int64)] (mw f a g)).bind (fun b => rn xs L 192 25 [vR 44, vI l1, vI l2] (b.1.toList ++ []) b.2) :=
  (r_ild (pg_of mt_192 dX6_isRow_16 rfl) rfl).trans <|
  (r_i2l (pg_of mt_192 dX6_isRow_17 rfl)).trans <|
  (r_lcn (pg_of mt_192 dX6_isRow_18 rfl) (v2 := (0 : Int64)) (by decide)).trans <|
  (r_lcn (pg_of mt_192 dX6_isRow_19 rfl) (v2 := (2 : Int64)) rfl).trans <|
  (r_call (t := tt_192) (t2 := tt_115) (pg_of mt_192 dX6_isRow_22 rfl) mt_192 mt_115 rfl rfl rfl rfl rfl)
theorem b192_25 (l1 : Int32) (l2 : Int32) (s0 : Int32) : rn xs L 192 25 [vR 44, vI l1, vI l2] [vI s0] (mw f a g) = if s0 = 0 then rn xs L 192 32 [vR 44, vI l1, vI l2] [] (mw f a g) else rn xs L 192 28 [vR 44, vI l1, vI l2] [] (mw f a g) :=
  (r_eq0 (pg_of mt_192 dX6_isRow_25 rfl))
theorem b192_28 (l1 : Int32) (l2 : Int32) : rn xs L 192 28 [vR 44, vI l1, vI l2] [] (mw f a g) = some (some (vI (1 : Int32)), (mw f a g)) :=
  (r_con (pg_of mt_192 dX6_isRow_28 rfl) (v2 := (1 : Int32)) (by decide)).trans <|
  (r_gto (pg_of mt_192 dX6_isRow_29 rfl)).trans <|
  (r_rz (pg_of mt_192 dX6_isRow_33 rfl) mt_192 rfl (Or.inr rfl))
theorem b192_32 (l1 : Int32) (l2 : Int32) : rn xs L 192 32 [vR 44, vI l1, vI l2] [] (mw f a g) = some (some (vI (0 : Int32)), (mw f a g)) :=
  (r_con (pg_of mt_192 dX6_isRow_32 rfl) (v2 := (0 : Int32)) (by decide)).trans <|
  (r_rz (pg_of mt_192 dX6_isRow_33 rfl) mt_192 rfl (Or.inl rfl))
-- 193 LeafFallsModel.alterRow(III)I
theorem b193_0 (l1 : Int32) (l2 : Int32) (l3 : Int32) (l4 : ma_V) : rn xs L 193 0 [vR 44, vI l1, vI l2, vI l3, l4] [] (mw f a g) = (ev xs L 192 3 [vR 44, vI l1, vI l2] (mw f a g)).bind (fun b => rn xs L 193 6 [vR 44, vI l1, vI l2, vI l3, l4] (b.1.toList ++ []) b.2) :=
  (r_ald (pg_of mt_193 dX6_alterRow_0 rfl) rfl).trans <|
  (r_ild (pg_of mt_193 dX6_alterRow_1 rfl) rfl).trans <|
  (r_ild (pg_of mt_193 dX6_alterRow_2 rfl) rfl).trans <|
  (r_call (t := tt_193) (t2 := tt_192) (pg_of mt_193 dX6_alterRow_3 rfl) mt_193 mt_192 rfl rfl (rcv1 rfl) rfl rfl)
theorem b193_6 (l1 : Int32) (l2 : Int32) (l3 : Int32) (l4 : ma_V) (s0 : Int32) : rn xs L 193 6 [vR 44, vI l1, vI l2, vI l3, l4] [vI s0] (mw f a g) = if s0 = 0 then rn xs L 193 9 [vR 44, vI l1, vI l2, vI l3, l4] [] (mw f a g) else rn xs L 193 12 [vR 44, vI l1, vI l2, vI l3, l4] [] (mw f a g) :=
  (r_ne0 (pg_of mt_193 dX6_alterRow_6 rfl))
theorem b193_9 (l1 : Int32) (l2 : Int32) (l3 : Int32) (l4 : ma_V) : rn xs L 193 9 [vR 44, vI l1, vI l2, vI l3, l4] [] (mw f a g) = some (some (vI (-9 : Int32)), (mw f a g)) :=
  (r_con (pg_of mt_193 dX6_alterRow_9 rfl) (v2 := (-9 : Int32)) (by decide)).trans <|
  (r_ri (pg_of mt_193 dX6_alterRow_11 rfl) mt_193 rfl)
theorem b193_12 (l1 : Int32) (l2 : Int32) (l3 : Int32) (l4 : ma_V) (h1 : ma_in ((((3 : Int32) * l1) + l2)) 30 = true) (h2 : ma_in ((((3 : Int32) * l1) + l2)) 30 = true) : rn xs L 193 12 [vR 44, vI l1, vI l2, vI l3, l4] [] (mw f a g) = some (some (vI (a 51 ((((3 : Int32) * l1) + l2)).toNatClampNeg)), (mw f ((ma_u2 a 51 ((((3 : Int32) * l1) + l2)).toNatClampNeg l3)) g)) :=
  (r_ald (pg_of mt_193 dX6_alterRow_12 rfl) rfl).trans <|
  (r_gtr (a := 51) (pg_of mt_193 dX6_alterRow_13 rfl) rfl rfl).trans <|
  (r_con (pg_of mt_193 dX6_alterRow_16 rfl) (v2 := (3 : Int32)) (by decide)).trans <|
  (r_ild (pg_of mt_193 dX6_alterRow_17 rfl) rfl).trans <|
  (r_bin (pg_of mt_193 dX6_alterRow_18 rfl)).trans <|
  (r_ild (pg_of mt_193 dX6_alterRow_19 rfl) rfl).trans <|
  (r_bin (pg_of mt_193 dX6_alterRow_20 rfl)).trans <|
  (r_iald (pg_of mt_193 dX6_alterRow_21 rfl) rfl h1).trans <|
  (r_ist (pg_of mt_193 dX6_alterRow_22 rfl) (Nat.le_of_ble_eq_true rfl) rfl).trans <|
  (r_ald (pg_of mt_193 dX6_alterRow_24 rfl) rfl).trans <|
  (r_gtr (a := 51) (pg_of mt_193 dX6_alterRow_25 rfl) rfl rfl).trans <|
  (r_con (pg_of mt_193 dX6_alterRow_28 rfl) (v2 := (3 : Int32)) (by decide)).trans <|
  (r_ild (pg_of mt_193 dX6_alterRow_29 rfl) rfl).trans <|
  (r_bin (pg_of mt_193 dX6_alterRow_30 rfl)).trans <|
  (r_ild (pg_of mt_193 dX6_alterRow_31 rfl) rfl).trans <|
  (r_bin (pg_of mt_193 dX6_alterRow_32 rfl)).trans <|
  (r_ild (pg_of mt_193 dX6_alterRow_33 rfl) rfl).trans <|
  (r_iast (pg_of mt_193 dX6_alterRow_34 rfl) rfl h2).trans <|
  (r_ild (pg_of mt_193 dX6_alterRow_35 rfl) rfl).trans <|
  (r_ri (pg_of mt_193 dX6_alterRow_37 rfl) mt_193 rfl)
-- 194 LeafFallsModel.judge(I)I
theorem b194_0 (l1 : Int32) (l2 : ma_V) (l3 : ma_V) (l4 : ma_V) : rn xs L 194 0 [vR 44, vI l1, l2, l3, l4] [] (mw f a g) = (ev xs L 140 2 [vR 44, vI l1] (mw f a g)).bind (fun b => rn xs L 194 5 [vR 44, vI l1, l2, l3, l4] (b.1.toList ++ []) b.2) :=
  (r_ald (pg_of mt_194 dX6_judge_0 rfl) rfl).trans <|
  (r_ild (pg_of mt_194 dX6_judge_1 rfl) rfl).trans <|
  (r_call (t := tt_194) (t2 := tt_140) (pg_of mt_194 dX6_judge_2 rfl) mt_194 mt_140 rfl rfl (rcv1 rfl) rfl rfl)
theorem b194_5 (l1 : Int32) (l2 : ma_V) (l3 : ma_V) (l4 : ma_V) (s0 : Int32) : rn xs L 194 5 [vR 44, vI l1, l2, l3, l4] [vI s0] (mw f a g) = if s0 = 0 then rn xs L 194 8 [vR 44, vI l1, l2, l3, l4] [] (mw f a g) else rn xs L 194 10 [vR 44, vI l1, l2, l3, l4] [] (mw f a g) :=
  (r_ne0 (pg_of mt_194 dX6_judge_5 rfl))
theorem b194_8 (l1 : Int32) (l2 : ma_V) (l3 : ma_V) (l4 : ma_V) : rn xs L 194 8 [vR 44, vI l1, l2, l3, l4] [] (mw f a g) = some (some (vI (-1 : Int32)), (mw f a g)) :=
  (r_con (pg_of mt_194 dX6_judge_8 rfl) (v2 := (-1 : Int32)) (by decide)).trans <|
  (r_ri (pg_of mt_194 dX6_judge_9 rfl) mt_194 rfl)
theorem b194_10 (l1 : Int32) (l2 : ma_V) (l3 : ma_V) (l4 : ma_V) : rn xs L 194 10 [vR 44, vI l1, l2, l3, l4] [] (mw f a g) = (ev xs L 117 3 [vR 45, vR 47] (mw f a g)).bind (fun b => rn xs L 194 21 [vR 44, vI l1, l2, l3, l4] (b.1.toList ++ []) b.2) :=
  (r_ald (pg_of mt_194 dX6_judge_10 rfl) rfl).trans <|
  (r_gtr (a := 45) (pg_of mt_194 dX6_judge_11 rfl) rfl rfl).trans <|
  (r_ald (pg_of mt_194 dX6_judge_14 rfl) rfl).trans <|
  (r_gtr (a := 47) (pg_of mt_194 dX6_judge_15 rfl) rfl rfl).trans <|
  (r_call (t := tt_194) (t2 := tt_117) (pg_of mt_194 dX6_judge_18 rfl) mt_194 mt_117 rfl rfl rfl rfl rfl)
theorem b194_21 (l1 : Int32) (l2 : ma_V) (l3 : ma_V) (l4 : ma_V) : rn xs L 194 21 [vR 44, vI l1, l2, l3, l4] [] (mw f a g) = rn xs L 194 25 [vR 44, vI l1, vI (0 : Int32), vI (1 : Int32), l4] [] (mw f a g) :=
  (r_con (pg_of mt_194 dX6_judge_21 rfl) (v2 := (0 : Int32)) (by decide)).trans <|
  (r_ist (pg_of mt_194 dX6_judge_22 rfl) (Nat.le_of_ble_eq_true rfl) rfl).trans <|
  (r_con (pg_of mt_194 dX6_judge_23 rfl) (v2 := (1 : Int32)) (by decide)).trans <|
  (r_ist (pg_of mt_194 dX6_judge_24 rfl) (Nat.le_of_ble_eq_true rfl) rfl)
theorem b194_25 (l1 : Int32) (l2 : Int32) (l3 : Int32) (l4 : ma_V) : rn xs L 194 25 [vR 44, vI l1, vI l2, vI l3, l4] [] (mw f a g) = if l2 < (f 44 14) then rn xs L 194 33 [vR 44, vI l1, vI l2, vI l3, l4] [] (mw f a g) else rn xs L 194 111 [vR 44, vI l1, vI l2, vI l3, l4] [] (mw f a g) :=
  (r_ild (pg_of mt_194 dX6_judge_25 rfl) rfl).trans <|
  (r_ald (pg_of mt_194 dX6_judge_26 rfl) rfl).trans <|
  (r_gti (pg_of mt_194 dX6_judge_27 rfl) rfl).trans <|
  (r_ge (pg_of mt_194 dX6_judge_30 rfl))
theorem b194_33 (l1 : Int32) (l2 : Int32) (l3 : Int32) (l4 : ma_V) : rn xs L 194 33 [vR 44, vI l1, vI l2, vI l3, l4] [] (mw f a g) = if l3 = 0 then rn xs L 194 111 [vR 44, vI l1, vI l2, vI l3, l4] [] (mw f a g) else rn xs L 194 37 [vR 44, vI l1, vI l2, vI l3, l4] [] (mw f a g) :=
  (r_ild (pg_of mt_194 dX6_judge_33 rfl) rfl).trans <|
  (r_eq0 (pg_of mt_194 dX6_judge_34 rfl))
theorem b194_37 (l1 : Int32) (l2 : Int32) (l3 : Int32) (l4 : ma_V) : rn xs L 194 37 [vR 44, vI l1, vI l2, vI l3, l4] [] (mw f a g) = (ev xs L 157 5 [vR 44, vI (0 : Int32)] (mw f a g)).bind (fun b => rn xs L 194 42 [vR 44, vI l1, vI l2, vI l3, l4] (b.1.toList ++ []) b.2) :=
  (r_ald (pg_of mt_194 dX6_judge_37 rfl) rfl).trans <|
  (r_con (pg_of mt_194 dX6_judge_38 rfl) (v2 := (0 : Int32)) (by decide)).trans <|
  (r_call (t := tt_194) (t2 := tt_157) (pg_of mt_194 dX6_judge_39 rfl) mt_194 mt_157 rfl rfl (rcv1 rfl) rfl rfl)
theorem b194_42 (l1 : Int32) (l2 : Int32) (l3 : Int32) (l4 : ma_V) (s0 : Int32) (h1 : ma_in (((3 : Int32) * l2)) 30 = true) : rn xs L 194 42 [vR 44, vI l1, vI l2, vI l3, l4] [vI s0] (mw f a g) = (ev xs L 142 3 [vR 44, vI l1, vI (2 : Int32)] (mw f a g)).bind (fun b => rn xs L 194 58 [vR 44, vI l1, vI l2, vI l3, vI s0] (b.1.toList ++ [vI (a 51 (((3 : Int32) * l2)).toNatClampNeg)]) b.2) :=
  (r_ist (pg_of mt_194 dX6_judge_42 rfl) (Nat.le_of_ble_eq_true rfl) rfl).trans <|
  (r_ald (pg_of mt_194 dX6_judge_44 rfl) rfl).trans <|
  (r_gtr (a := 51) (pg_of mt_194 dX6_judge_45 rfl) rfl rfl).trans <|
  (r_con (pg_of mt_194 dX6_judge_48 rfl) (v2 := (3 : Int32)) (by decide)).trans <|
  (r_ild (pg_of mt_194 dX6_judge_49 rfl) rfl).trans <|
  (r_bin (pg_of mt_194 dX6_judge_50 rfl)).trans <|
  (r_iald (pg_of mt_194 dX6_judge_51 rfl) rfl h1).trans <|
  (r_ald (pg_of mt_194 dX6_judge_52 rfl) rfl).trans <|
  (r_ild (pg_of mt_194 dX6_judge_53 rfl) rfl).trans <|
  (r_con (pg_of mt_194 dX6_judge_54 rfl) (v2 := (2 : Int32)) (by decide)).trans <|
  (r_call (t := tt_194) (t2 := tt_142) (pg_of mt_194 dX6_judge_55 rfl) mt_194 mt_142 rfl rfl (rcv1 rfl) rfl rfl)
theorem b194_58 (l1 : Int32) (l2 : Int32) (l3 : Int32) (l4 : Int32) (s0 : Int32) (s1 : Int32) : rn xs L 194 58 [vR 44, vI l1, vI l2, vI l3, vI l4] [vI s0, vI s1] (mw f a g) = if s1 = s0 then rn xs L 194 61 [vR 44, vI l1, vI l2, vI l3, vI l4] [] (mw f a g) else rn xs L 194 103 [vR 44, vI l1, vI l2, vI l3, vI l4] [] (mw f a g) :=
  (r_ne (pg_of mt_194 dX6_judge_58 rfl))
theorem b194_61 (l1 : Int32) (l2 : Int32) (l3 : Int32) (l4 : Int32) (h1 : ma_in ((((3 : Int32) * l2) + (1 : Int32))) 30 = true) : rn xs L 194 61 [vR 44, vI l1, vI l2, vI l3, vI l4] [] (mw f a g) = (ev xs L 142 3 [vR 44, vI l1, vI (4 : Int32)] (mw f a g)).bind (fun b => rn xs L 194 77 [vR 44, vI l1, vI l2, vI l3, vI l4] (b.1.toList ++ [vI (a 51 ((((3 : Int32) * l2) + (1 : Int32))).toNatClampNeg)]) b.2) :=
  (r_ald (pg_of mt_194 dX6_judge_61 rfl) rfl).trans <|
  (r_gtr (a := 51) (pg_of mt_194 dX6_judge_62 rfl) rfl rfl).trans <|
  (r_con (pg_of mt_194 dX6_judge_65 rfl) (v2 := (3 : Int32)) (by decide)).trans <|
  (r_ild (pg_of mt_194 dX6_judge_66 rfl) rfl).trans <|
  (r_bin (pg_of mt_194 dX6_judge_67 rfl)).trans <|
  (r_con (pg_of mt_194 dX6_judge_68 rfl) (v2 := (1 : Int32)) (by decide)).trans <|
  (r_bin (pg_of mt_194 dX6_judge_69 rfl)).trans <|
  (r_iald (pg_of mt_194 dX6_judge_70 rfl) rfl h1).trans <|
  (r_ald (pg_of mt_194 dX6_judge_71 rfl) rfl).trans <|
  (r_ild (pg_of mt_194 dX6_judge_72 rfl) rfl).trans <|
  (r_con (pg_of mt_194 dX6_judge_73 rfl) (v2 := (4 : Int32)) (by decide)).trans <|
  (r_call (t := tt_194) (t2 := tt_142) (pg_of mt_194 dX6_judge_74 rfl) mt_194 mt_142 rfl rfl (rcv1 rfl) rfl rfl)
theorem b194_77 (l1 : Int32) (l2 : Int32) (l3 : Int32) (l4 : Int32) (s0 : Int32) (s1 : Int32) : rn xs L 194 77 [vR 44, vI l1, vI l2, vI l3, vI l4] [vI s0, vI s1] (mw f a g) = if s1 = s0 then rn xs L 194 80 [vR 44, vI l1, vI l2, vI l3, vI l4] [] (mw f a g) else rn xs L 194 103 [vR 44, vI l1, vI l2, vI l3, vI l4] [] (mw f a g) :=
  (r_ne (pg_of mt_194 dX6_judge_77 rfl))
theorem b194_80 (l1 : Int32) (l2 : Int32) (l3 : Int32) (l4 : Int32) (h1 : ma_in ((((3 : Int32) * l2) + (2 : Int32))) 30 = true) : rn xs L 194 80 [vR 44, vI l1, vI l2, vI l3, vI l4] [] (mw f a g) = if (a 51 ((((3 : Int32) * l2) + (2 : Int32))).toNatClampNeg) = (a 45 3) then rn xs L 194 99 [vR 44, vI l1, vI l2, vI l3, vI l4] [] (mw f a g) else rn xs L 194 103 [vR 44, vI l1, vI l2, vI l3, vI l4] [] (mw f a g) :=
  (r_ald (pg_of mt_194 dX6_judge_80 rfl) rfl).trans <|
  (r_gtr (a := 51) (pg_of mt_194 dX6_judge_81 rfl) rfl rfl).trans <|
  (r_con (pg_of mt_194 dX6_judge_84 rfl) (v2 := (3 : Int32)) (by decide)).trans <|
  (r_ild (pg_of mt_194 dX6_judge_85 rfl) rfl).trans <|
  (r_bin (pg_of mt_194 dX6_judge_86 rfl)).trans <|
  (r_con (pg_of mt_194 dX6_judge_87 rfl) (v2 := (2 : Int32)) (by decide)).trans <|
  (r_bin (pg_of mt_194 dX6_judge_88 rfl)).trans <|
  (r_iald (pg_of mt_194 dX6_judge_89 rfl) rfl h1).trans <|
  (r_ald (pg_of mt_194 dX6_judge_90 rfl) rfl).trans <|
  (r_gtr (a := 45) (pg_of mt_194 dX6_judge_91 rfl) rfl rfl).trans <|
  (r_con (pg_of mt_194 dX6_judge_94 rfl) (v2 := (3 : Int32)) (by decide)).trans <|
  (r_ialc (j := 3) (pg_of mt_194 dX6_judge_95 rfl) rfl (by decide) (by decide)).trans <|
  (r_ne (pg_of mt_194 dX6_judge_96 rfl))
theorem b194_99 (l1 : Int32) (l2 : Int32) (l3 : Int32) (l4 : Int32) : rn xs L 194 99 [vR 44, vI l1, vI l2, vI l3, vI l4] [] (mw f a g) = rn xs L 194 25 [vR 44, vI l1, vI (l2 + (1 : Int32)), vI (1 : Int32), vI l4] [] (mw f a g) :=
  (r_con (pg_of mt_194 dX6_judge_99 rfl) (v2 := (1 : Int32)) (by decide)).trans <|
  (r_gto (pg_of mt_194 dX6_judge_100 rfl)).trans <|
  (r_ist (pg_of mt_194 dX6_judge_104 rfl) (Nat.le_of_ble_eq_true rfl) rfl).trans <|
  (r_inc (pg_of mt_194 dX6_judge_105 rfl) (y := (1 : Int32)) (by decide) rfl rfl).trans <|
  (r_gto (pg_of mt_194 dX6_judge_108 rfl))
theorem b194_103 (l1 : Int32) (l2 : Int32) (l3 : Int32) (l4 : Int32) : rn xs L 194 103 [vR 44, vI l1, vI l2, vI l3, vI l4] [] (mw f a g) = rn xs L 194 25 [vR 44, vI l1, vI (l2 + (1 : Int32)), vI (0 : Int32), vI l4] [] (mw f a g) :=
  (r_con (pg_of mt_194 dX6_judge_103 rfl) (v2 := (0 : Int32)) (by decide)).trans <|
  (r_ist (pg_of mt_194 dX6_judge_104 rfl) (Nat.le_of_ble_eq_true rfl) rfl).trans <|
  (r_inc (pg_of mt_194 dX6_judge_105 rfl) (y := (1 : Int32)) (by decide) rfl rfl).trans <|
  (r_gto (pg_of mt_194 dX6_judge_108 rfl))
theorem b194_111 (l1 : Int32) (l2 : Int32) (l3 : Int32) (l4 : ma_V) : rn xs L 194 111 [vR 44, vI l1, vI l2, vI l3, l4] [] (mw f a g) = (ev xs L 117 3 [vR 47, vR 45] (mw f a g)).bind (fun b => rn xs L 194 122 [vR 44, vI l1, vI l2, vI l3, l4] (b.1.toList ++ []) b.2) :=
  (r_ald (pg_of mt_194 dX6_judge_111 rfl) rfl).trans <|
  (r_gtr (a := 47) (pg_of mt_194 dX6_judge_112 rfl) rfl rfl).trans <|
  (r_ald (pg_of mt_194 dX6_judge_115 rfl) rfl).trans <|
  (r_gtr (a := 45) (pg_of mt_194 dX6_judge_116 rfl) rfl rfl).trans <|
  (r_call (t := tt_194) (t2 := tt_117) (pg_of mt_194 dX6_judge_119 rfl) mt_194 mt_117 rfl rfl rfl rfl rfl)
theorem b194_122 (l1 : Int32) (l2 : Int32) (l3 : Int32) (l4 : ma_V) : rn xs L 194 122 [vR 44, vI l1, vI l2, vI l3, l4] [] (mw f a g) = if l3 = 0 then rn xs L 194 130 [vR 44, vI l1, vI l2, vI l3, l4] [] (mw f a g) else rn xs L 194 126 [vR 44, vI l1, vI l2, vI l3, l4] [] (mw f a g) :=
  (r_ild (pg_of mt_194 dX6_judge_122 rfl) rfl).trans <|
  (r_eq0 (pg_of mt_194 dX6_judge_123 rfl))
theorem b194_126 (l1 : Int32) (l2 : Int32) (l3 : Int32) (l4 : ma_V) : rn xs L 194 126 [vR 44, vI l1, vI l2, vI l3, l4] [] (mw f a g) = some (some (vI (0 : Int32)), (mw f a g)) :=
  (r_con (pg_of mt_194 dX6_judge_126 rfl) (v2 := (0 : Int32)) (by decide)).trans <|
  (r_gto (pg_of mt_194 dX6_judge_127 rfl)).trans <|
  (r_ri (pg_of mt_194 dX6_judge_131 rfl) mt_194 rfl)
theorem b194_130 (l1 : Int32) (l2 : Int32) (l3 : Int32) (l4 : ma_V) : rn xs L 194 130 [vR 44, vI l1, vI l2, vI l3, l4] [] (mw f a g) = some (some (vI l2), (mw f a g)) :=
  (r_ild (pg_of mt_194 dX6_judge_130 rfl) rfl).trans <|
  (r_ri (pg_of mt_194 dX6_judge_131 rfl) mt_194 rfl)
-- 195 LeafFallsModel.sheet(III)I
theorem b195_0 (l1 : Int32) (l2 : Int32) (l3 : Int32) (l4 : ma_V) : rn xs L 195 0 [vR 44, vI l1, vI l2, vI l3, l4] [] (mw f a g) = (ev xs L 184 1 [vI l1] (mw f a g)).bind (fun b => rn xs L 195 4 [vR 44, vI l1, vI l2, vI l3, l4] (b.1.toList ++ []) b.2) :=
  (r_ild (pg_of mt_195 dX6_sheet_0 rfl) rfl).trans <|
  (r_call (t := tt_195) (t2 := tt_184) (pg_of mt_195 dX6_sheet_1 rfl) mt_195 mt_184 rfl rfl rfl rfl rfl)
theorem b195_4 (l1 : Int32) (l2 : Int32) (l3 : Int32) (l4 : ma_V) (s0 : Int32) : rn xs L 195 4 [vR 44, vI l1, vI l2, vI l3, l4] [vI s0] (mw f a g) = if s0 = 0 then rn xs L 195 31 [vR 44, vI l1, vI l2, vI l3, l4] [] (mw f a g) else rn xs L 195 7 [vR 44, vI l1, vI l2, vI l3, l4] [] (mw f a g) :=
  (r_eq0 (pg_of mt_195 dX6_sheet_4 rfl))
theorem b195_7 (l1 : Int32) (l2 : Int32) (l3 : Int32) (l4 : ma_V) : rn xs L 195 7 [vR 44, vI l1, vI l2, vI l3, l4] [] (mw f a g) = (ev xs L 115 6 [vL (l2).toInt64, vL (-1 : Int64), vL (3 : Int64)] (mw f a g)).bind (fun b => rn xs L 195 18 [vR 44, vI l1, vI l2, vI l3, l4] (b.1.toList ++ []) b.2) :=
  (r_ild (pg_of mt_195 dX6_sheet_7 rfl) rfl).trans <|
  (r_i2l (pg_of mt_195 dX6_sheet_8 rfl)).trans <|
  (r_lcn (pg_of mt_195 dX6_sheet_9 rfl) (v2 := (-1 : Int64)) rfl).trans <|
  (r_lcn (pg_of mt_195 dX6_sheet_12 rfl) (v2 := (3 : Int64)) rfl).trans <|
  (r_call (t := tt_195) (t2 := tt_115) (pg_of mt_195 dX6_sheet_15 rfl) mt_195 mt_115 rfl rfl rfl rfl rfl)
theorem b195_18 (l1 : Int32) (l2 : Int32) (l3 : Int32) (l4 : ma_V) (s0 : Int32) : rn xs L 195 18 [vR 44, vI l1, vI l2, vI l3, l4] [vI s0] (mw f a g) = if s0 = 0 then rn xs L 195 31 [vR 44, vI l1, vI l2, vI l3, l4] [] (mw f a g) else rn xs L 195 21 [vR 44, vI l1, vI l2, vI l3, l4] [] (mw f a g) :=
  (r_eq0 (pg_of mt_195 dX6_sheet_18 rfl))
theorem b195_21 (l1 : Int32) (l2 : Int32) (l3 : Int32) (l4 : ma_V) : rn xs L 195 21 [vR 44, vI l1, vI l2, vI l3, l4] [] (mw f a g) = if l2 < 0 then rn xs L 195 33 [vR 44, vI l1, vI l2, vI l3, l4] [] (mw f a g) else rn xs L 195 25 [vR 44, vI l1, vI l2, vI l3, l4] [] (mw f a g) :=
  (r_ild (pg_of mt_195 dX6_sheet_21 rfl) rfl).trans <|
  (r_lt0 (pg_of mt_195 dX6_sheet_22 rfl))
theorem b195_25 (l1 : Int32) (l2 : Int32) (l3 : Int32) (l4 : ma_V) : rn xs L 195 25 [vR 44, vI l1, vI l2, vI l3, l4] [] (mw f a g) = if (40 : Int32) < l3 then rn xs L 195 31 [vR 44, vI l1, vI l2, vI l3, l4] [] (mw f a g) else rn xs L 195 33 [vR 44, vI l1, vI l2, vI l3, l4] [] (mw f a g) :=
  (r_ild (pg_of mt_195 dX6_sheet_25 rfl) rfl).trans <|
  (r_con (pg_of mt_195 dX6_sheet_26 rfl) (v2 := (40 : Int32)) (by decide)).trans <|
  (r_le (pg_of mt_195 dX6_sheet_28 rfl))
theorem b195_31 (l1 : Int32) (l2 : Int32) (l3 : Int32) (l4 : ma_V) : rn xs L 195 31 [vR 44, vI l1, vI l2, vI l3, l4] [] (mw f a g) = some (some (vI (-1 : Int32)), (mw f a g)) :=
  (r_con (pg_of mt_195 dX6_sheet_31 rfl) (v2 := (-1 : Int32)) (by decide)).trans <|
  (r_ri (pg_of mt_195 dX6_sheet_32 rfl) mt_195 rfl)
theorem b195_33 (l1 : Int32) (l2 : Int32) (l3 : Int32) (l4 : ma_V) : rn xs L 195 33 [vR 44, vI l1, vI l2, vI l3, l4] [] (mw f a g) = if l2 < 0 then rn xs L 195 44 [vR 44, vI l1, vI l2, vI l3, l4] [] (mw f a g) else rn xs L 195 37 [vR 44, vI l1, vI l2, vI l3, l4] [] (mw f a g) :=
  (r_ild (pg_of mt_195 dX6_sheet_33 rfl) rfl).trans <|
  (r_lt0 (pg_of mt_195 dX6_sheet_34 rfl))
theorem b195_37 (l1 : Int32) (l2 : Int32) (l3 : Int32) (l4 : ma_V) : rn xs L 195 37 [vR 44, vI l1, vI l2, vI l3, l4] [] (mw f a g) = if l3 < 0 then rn xs L 195 41 [vR 44, vI l1, vI l2, vI l3, l4] [] (mw f a g) else rn xs L 195 44 [vR 44, vI l1, vI l2, vI l3, l4] [] (mw f a g) :=
  (r_ild (pg_of mt_195 dX6_sheet_37 rfl) rfl).trans <|
  (r_ge0 (pg_of mt_195 dX6_sheet_38 rfl))
theorem b195_41 (l1 : Int32) (l2 : Int32) (l3 : Int32) (l4 : ma_V) : rn xs L 195 41 [vR 44, vI l1, vI l2, vI l3, l4] [] (mw f a g) = some (some (vI (-14 : Int32)), (mw f a g)) :=
  (r_con (pg_of mt_195 dX6_sheet_41 rfl) (v2 := (-14 : Int32)) (by decide)).trans <|
  (r_ri (pg_of mt_195 dX6_sheet_43 rfl) mt_195 rfl)
theorem b195_44 (l1 : Int32) (l2 : Int32) (l3 : Int32) (l4 : ma_V) (h1 : ma_in l1 4 = true) : rn xs L 195 44 [vR 44, vI l1, vI l2, vI l3, l4] [] (mw f a g) = if l2 < 0 then rn xs L 195 60 [vR 44, vI l1, vI l2, vI l3, l4] [vI l1, vR 53] (mw f ((ma_u2 a 52 l1.toNatClampNeg l2)) g) else rn xs L 195 64 [vR 44, vI l1, vI l2, vI l3, l4] [vI l1, vR 53] (mw f ((ma_u2 a 52 l1.toNatClampNeg l2)) g) :=
  (r_ald (pg_of mt_195 dX6_sheet_44 rfl) rfl).trans <|
  (r_gtr (a := 52) (pg_of mt_195 dX6_sheet_45 rfl) rfl rfl).trans <|
  (r_ild (pg_of mt_195 dX6_sheet_48 rfl) rfl).trans <|
  (r_ild (pg_of mt_195 dX6_sheet_49 rfl) rfl).trans <|
  (r_iast (pg_of mt_195 dX6_sheet_50 rfl) rfl h1).trans <|
  (r_ald (pg_of mt_195 dX6_sheet_51 rfl) rfl).trans <|
  (r_gtr (a := 53) (pg_of mt_195 dX6_sheet_52 rfl) rfl rfl).trans <|
  (r_ild (pg_of mt_195 dX6_sheet_55 rfl) rfl).trans <|
  (r_ild (pg_of mt_195 dX6_sheet_56 rfl) rfl).trans <|
  (r_ge0 (pg_of mt_195 dX6_sheet_57 rfl))
theorem b195_60 (l1 : Int32) (l2 : Int32) (l3 : Int32) (l4 : ma_V) (s0 : Int32) (h1 : ma_in s0 4 = true) : rn xs L 195 60 [vR 44, vI l1, vI l2, vI l3, l4] [vI s0, vR 53] (mw f a g) = rn xs L 195 69 [vR 44, vI l1, vI l2, vI l3, vI (0 : Int32)] [] (mw f ((ma_u2 a 53 s0.toNatClampNeg ((0 : Int32)))) g) :=
  (r_con (pg_of mt_195 dX6_sheet_60 rfl) (v2 := (0 : Int32)) (by decide)).trans <|
  (r_gto (pg_of mt_195 dX6_sheet_61 rfl)).trans <|
  (r_iast (pg_of mt_195 dX6_sheet_65 rfl) rfl h1).trans <|
  (r_con (pg_of mt_195 dX6_sheet_66 rfl) (v2 := (0 : Int32)) (by decide)).trans <|
  (r_ist (pg_of mt_195 dX6_sheet_67 rfl) (Nat.le_of_ble_eq_true rfl) rfl)
theorem b195_64 (l1 : Int32) (l2 : Int32) (l3 : Int32) (l4 : ma_V) (s0 : Int32) (h1 : ma_in s0 4 = true) : rn xs L 195 64 [vR 44, vI l1, vI l2, vI l3, l4] [vI s0, vR 53] (mw f a g) = rn xs L 195 69 [vR 44, vI l1, vI l2, vI l3, vI (0 : Int32)] [] (mw f ((ma_u2 a 53 s0.toNatClampNeg l3)) g) :=
  (r_ild (pg_of mt_195 dX6_sheet_64 rfl) rfl).trans <|
  (r_iast (pg_of mt_195 dX6_sheet_65 rfl) rfl h1).trans <|
  (r_con (pg_of mt_195 dX6_sheet_66 rfl) (v2 := (0 : Int32)) (by decide)).trans <|
  (r_ist (pg_of mt_195 dX6_sheet_67 rfl) (Nat.le_of_ble_eq_true rfl) rfl)
theorem b195_69 (l1 : Int32) (l2 : Int32) (l3 : Int32) (l4 : Int32) : rn xs L 195 69 [vR 44, vI l1, vI l2, vI l3, vI l4] [] (mw f a g) = if l4 < (40 : Int32) then rn xs L 195 76 [vR 44, vI l1, vI l2, vI l3, vI l4] [] (mw f a g) else rn xs L 195 95 [vR 44, vI l1, vI l2, vI l3, vI l4] [] (mw f a g) :=
  (r_ild (pg_of mt_195 dX6_sheet_69 rfl) rfl).trans <|
  (r_con (pg_of mt_195 dX6_sheet_71 rfl) (v2 := (40 : Int32)) (by decide)).trans <|
  (r_ge (pg_of mt_195 dX6_sheet_73 rfl))
theorem b195_76 (l1 : Int32) (l2 : Int32) (l3 : Int32) (l4 : Int32) (h1 : ma_in ((((40 : Int32) * l1) + l4)) 160 = true) : rn xs L 195 76 [vR 44, vI l1, vI l2, vI l3, vI l4] [] (mw f a g) = rn xs L 195 69 [vR 44, vI l1, vI l2, vI l3, vI (l4 + (1 : Int32))] [] (mw f ((ma_u2 a 54 ((((40 : Int32) * l1) + l4)).toNatClampNeg ((0 : Int32)))) g) :=
  (r_ald (pg_of mt_195 dX6_sheet_76 rfl) rfl).trans <|
  (r_gtr (a := 54) (pg_of mt_195 dX6_sheet_77 rfl) rfl rfl).trans <|
  (r_con (pg_of mt_195 dX6_sheet_80 rfl) (v2 := (40 : Int32)) (by decide)).trans <|
  (r_ild (pg_of mt_195 dX6_sheet_82 rfl) rfl).trans <|
  (r_bin (pg_of mt_195 dX6_sheet_83 rfl)).trans <|
  (r_ild (pg_of mt_195 dX6_sheet_84 rfl) rfl).trans <|
  (r_bin (pg_of mt_195 dX6_sheet_86 rfl)).trans <|
  (r_con (pg_of mt_195 dX6_sheet_87 rfl) (v2 := (0 : Int32)) (by decide)).trans <|
  (r_iast (pg_of mt_195 dX6_sheet_88 rfl) rfl h1).trans <|
  (r_inc (pg_of mt_195 dX6_sheet_89 rfl) (y := (1 : Int32)) (by decide) rfl rfl).trans <|
  (r_gto (pg_of mt_195 dX6_sheet_92 rfl))
theorem b195_95 (l1 : Int32) (l2 : Int32) (l3 : Int32) (l4 : Int32) : rn xs L 195 95 [vR 44, vI l1, vI l2, vI l3, vI l4] [] (mw f a g) = some (some (vI (1 : Int32)), (mw f a g)) :=
  (r_con (pg_of mt_195 dX6_sheet_95 rfl) (v2 := (1 : Int32)) (by decide)).trans <|
  (r_ri (pg_of mt_195 dX6_sheet_96 rfl) mt_195 rfl)
-- 196 LeafFallsModel.put(III)I
theorem b196_0 (l1 : Int32) (l2 : Int32) (l3 : Int32) : rn xs L 196 0 [vR 44, vI l1, vI l2, vI l3] [] (mw f a g) = (ev xs L 184 1 [vI l1] (mw f a g)).bind (fun b => rn xs L 196 4 [vR 44, vI l1, vI l2, vI l3] (b.1.toList ++ []) b.2) :=
  (r_ild (pg_of mt_196 dX6_put_0 rfl) rfl).trans <|
  (r_call (t := tt_196) (t2 := tt_184) (pg_of mt_196 dX6_put_1 rfl) mt_196 mt_184 rfl rfl rfl rfl rfl)
theorem b196_4 (l1 : Int32) (l2 : Int32) (l3 : Int32) (s0 : Int32) : rn xs L 196 4 [vR 44, vI l1, vI l2, vI l3] [vI s0] (mw f a g) = if s0 = 0 then rn xs L 196 7 [vR 44, vI l1, vI l2, vI l3] [] (mw f a g) else rn xs L 196 9 [vR 44, vI l1, vI l2, vI l3] [] (mw f a g) :=
  (r_ne0 (pg_of mt_196 dX6_put_4 rfl))
theorem b196_7 (l1 : Int32) (l2 : Int32) (l3 : Int32) : rn xs L 196 7 [vR 44, vI l1, vI l2, vI l3] [] (mw f a g) = some (some (vI (-1 : Int32)), (mw f a g)) :=
  (r_con (pg_of mt_196 dX6_put_7 rfl) (v2 := (-1 : Int32)) (by decide)).trans <|
  (r_ri (pg_of mt_196 dX6_put_8 rfl) mt_196 rfl)
theorem b196_9 (l1 : Int32) (l2 : Int32) (l3 : Int32) (h1 : ma_in l1 4 = true) : rn xs L 196 9 [vR 44, vI l1, vI l2, vI l3] [] (mw f a g) = if (a 52 l1.toNatClampNeg) < 0 then rn xs L 196 18 [vR 44, vI l1, vI l2, vI l3] [] (mw f a g) else rn xs L 196 21 [vR 44, vI l1, vI l2, vI l3] [] (mw f a g) :=
  (r_ald (pg_of mt_196 dX6_put_9 rfl) rfl).trans <|
  (r_gtr (a := 52) (pg_of mt_196 dX6_put_10 rfl) rfl rfl).trans <|
  (r_ild (pg_of mt_196 dX6_put_13 rfl) rfl).trans <|
  (r_iald (pg_of mt_196 dX6_put_14 rfl) rfl h1).trans <|
  (r_ge0 (pg_of mt_196 dX6_put_15 rfl))
theorem b196_18 (l1 : Int32) (l2 : Int32) (l3 : Int32) : rn xs L 196 18 [vR 44, vI l1, vI l2, vI l3] [] (mw f a g) = some (some (vI (-11 : Int32)), (mw f a g)) :=
  (r_con (pg_of mt_196 dX6_put_18 rfl) (v2 := (-11 : Int32)) (by decide)).trans <|
  (r_ri (pg_of mt_196 dX6_put_20 rfl) mt_196 rfl)
theorem b196_21 (l1 : Int32) (l2 : Int32) (l3 : Int32) (h1 : ma_in l1 4 = true) : rn xs L 196 21 [vR 44, vI l1, vI l2, vI l3] [] (mw f a g) = (ev xs L 115 6 [vL (l2).toInt64, vL (0 : Int64), vL (((a 53 l1.toNatClampNeg) - (1 : Int32))).toInt64] (mw f a g)).bind (fun b => rn xs L 196 36 [vR 44, vI l1, vI l2, vI l3] (b.1.toList ++ []) b.2) :=
  (r_ild (pg_of mt_196 dX6_put_21 rfl) rfl).trans <|
  (r_i2l (pg_of mt_196 dX6_put_22 rfl)).trans <|
  (r_lcn (pg_of mt_196 dX6_put_23 rfl) (v2 := (0 : Int64)) (by decide)).trans <|
  (r_ald (pg_of mt_196 dX6_put_24 rfl) rfl).trans <|
  (r_gtr (a := 53) (pg_of mt_196 dX6_put_25 rfl) rfl rfl).trans <|
  (r_ild (pg_of mt_196 dX6_put_28 rfl) rfl).trans <|
  (r_iald (pg_of mt_196 dX6_put_29 rfl) rfl h1).trans <|
  (r_con (pg_of mt_196 dX6_put_30 rfl) (v2 := (1 : Int32)) (by decide)).trans <|
  (r_bin (pg_of mt_196 dX6_put_31 rfl)).trans <|
  (r_i2l (pg_of mt_196 dX6_put_32 rfl)).trans <|
  (r_call (t := tt_196) (t2 := tt_115) (pg_of mt_196 dX6_put_33 rfl) mt_196 mt_115 rfl rfl rfl rfl rfl)
theorem b196_36 (l1 : Int32) (l2 : Int32) (l3 : Int32) (s0 : Int32) : rn xs L 196 36 [vR 44, vI l1, vI l2, vI l3] [vI s0] (mw f a g) = if s0 = 0 then rn xs L 196 39 [vR 44, vI l1, vI l2, vI l3] [] (mw f a g) else rn xs L 196 42 [vR 44, vI l1, vI l2, vI l3] [] (mw f a g) :=
  (r_ne0 (pg_of mt_196 dX6_put_36 rfl))
theorem b196_39 (l1 : Int32) (l2 : Int32) (l3 : Int32) : rn xs L 196 39 [vR 44, vI l1, vI l2, vI l3] [] (mw f a g) = some (some (vI (-12 : Int32)), (mw f a g)) :=
  (r_con (pg_of mt_196 dX6_put_39 rfl) (v2 := (-12 : Int32)) (by decide)).trans <|
  (r_ri (pg_of mt_196 dX6_put_41 rfl) mt_196 rfl)
theorem b196_42 (l1 : Int32) (l2 : Int32) (l3 : Int32) (h1 : ma_in l1 4 = true) : rn xs L 196 42 [vR 44, vI l1, vI l2, vI l3] [] (mw f a g) = if (a 52 l1.toNatClampNeg) = 0 then rn xs L 196 61 [vR 44, vI l1, vI l2, vI l3] [vI (((40 : Int32) * l1) + l2), vR 54] (mw f a g) else rn xs L 196 66 [vR 44, vI l1, vI l2, vI l3] [vI (((40 : Int32) * l1) + l2), vR 54] (mw f a g) :=
  (r_ald (pg_of mt_196 dX6_put_42 rfl) rfl).trans <|
  (r_gtr (a := 54) (pg_of mt_196 dX6_put_43 rfl) rfl rfl).trans <|
  (r_con (pg_of mt_196 dX6_put_46 rfl) (v2 := (40 : Int32)) (by decide)).trans <|
  (r_ild (pg_of mt_196 dX6_put_48 rfl) rfl).trans <|
  (r_bin (pg_of mt_196 dX6_put_49 rfl)).trans <|
  (r_ild (pg_of mt_196 dX6_put_50 rfl) rfl).trans <|
  (r_bin (pg_of mt_196 dX6_put_51 rfl)).trans <|
  (r_ald (pg_of mt_196 dX6_put_52 rfl) rfl).trans <|
  (r_gtr (a := 52) (pg_of mt_196 dX6_put_53 rfl) rfl rfl).trans <|
  (r_ild (pg_of mt_196 dX6_put_56 rfl) rfl).trans <|
  (r_iald (pg_of mt_196 dX6_put_57 rfl) rfl h1).trans <|
  (r_ne0 (pg_of mt_196 dX6_put_58 rfl))
theorem b196_61 (l1 : Int32) (l2 : Int32) (l3 : Int32) (s0 : Int32) (h1 : ma_in s0 160 = true) : rn xs L 196 61 [vR 44, vI l1, vI l2, vI l3] [vI s0, vR 54] (mw f a g) = some (some (vI (1 : Int32)), (mw f ((ma_u2 a 54 s0.toNatClampNeg (((l3).toInt8.toInt32)))) g)) :=
  (r_ild (pg_of mt_196 dX6_put_61 rfl) rfl).trans <|
  (r_una (pg_of mt_196 dX6_put_62 rfl)).trans <|
  (r_gto (pg_of mt_196 dX6_put_63 rfl)).trans <|
  (r_iast (pg_of mt_196 dX6_put_82 rfl) rfl h1).trans <|
  (r_con (pg_of mt_196 dX6_put_83 rfl) (v2 := (1 : Int32)) (by decide)).trans <|
  (r_ri (pg_of mt_196 dX6_put_84 rfl) mt_196 rfl)
theorem b196_66 (l1 : Int32) (l2 : Int32) (l3 : Int32) (s0 : Int32) (h1 : ma_in l1 4 = true) : rn xs L 196 66 [vR 44, vI l1, vI l2, vI l3] [vI s0, vR 54] (mw f a g) = if (a 52 l1.toNatClampNeg) = (1 : Int32) then rn xs L 196 76 [vR 44, vI l1, vI l2, vI l3] [vI s0, vR 54] (mw f a g) else rn xs L 196 81 [vR 44, vI l1, vI l2, vI l3] [vI s0, vR 54] (mw f a g) :=
  (r_ald (pg_of mt_196 dX6_put_66 rfl) rfl).trans <|
  (r_gtr (a := 52) (pg_of mt_196 dX6_put_67 rfl) rfl rfl).trans <|
  (r_ild (pg_of mt_196 dX6_put_70 rfl) rfl).trans <|
  (r_iald (pg_of mt_196 dX6_put_71 rfl) rfl h1).trans <|
  (r_con (pg_of mt_196 dX6_put_72 rfl) (v2 := (1 : Int32)) (by decide)).trans <|
  (r_ne (pg_of mt_196 dX6_put_73 rfl))
theorem b196_76 (l1 : Int32) (l2 : Int32) (l3 : Int32) (s0 : Int32) (h1 : ma_in s0 160 = true) : rn xs L 196 76 [vR 44, vI l1, vI l2, vI l3] [vI s0, vR 54] (mw f a g) = some (some (vI (1 : Int32)), (mw f ((ma_u2 a 54 s0.toNatClampNeg (((l3).toInt16.toInt32)))) g)) :=
  (r_ild (pg_of mt_196 dX6_put_76 rfl) rfl).trans <|
  (r_una (pg_of mt_196 dX6_put_77 rfl)).trans <|
  (r_gto (pg_of mt_196 dX6_put_78 rfl)).trans <|
  (r_iast (pg_of mt_196 dX6_put_82 rfl) rfl h1).trans <|
  (r_con (pg_of mt_196 dX6_put_83 rfl) (v2 := (1 : Int32)) (by decide)).trans <|
  (r_ri (pg_of mt_196 dX6_put_84 rfl) mt_196 rfl)
theorem b196_81 (l1 : Int32) (l2 : Int32) (l3 : Int32) (s0 : Int32) (h1 : ma_in s0 160 = true) : rn xs L 196 81 [vR 44, vI l1, vI l2, vI l3] [vI s0, vR 54] (mw f a g) = some (some (vI (1 : Int32)), (mw f ((ma_u2 a 54 s0.toNatClampNeg l3)) g)) :=
  (r_ild (pg_of mt_196 dX6_put_81 rfl) rfl).trans <|
  (r_iast (pg_of mt_196 dX6_put_82 rfl) rfl h1).trans <|
  (r_con (pg_of mt_196 dX6_put_83 rfl) (v2 := (1 : Int32)) (by decide)).trans <|
  (r_ri (pg_of mt_196 dX6_put_84 rfl) mt_196 rfl)
-- 197 LeafFallsModel.item(III)I
theorem b197_0 (l1 : Int32) (l2 : Int32) (l3 : Int32) : rn xs L 197 0 [vR 44, vI l1, vI l2, vI l3] [] (mw f a g) = (ev xs L 184 1 [vI l1] (mw f a g)).bind (fun b => rn xs L 197 4 [vR 44, vI l1, vI l2, vI l3] (b.1.toList ++ []) b.2) :=
  (r_ild (pg_of mt_197 dX6_item_0 rfl) rfl).trans <|
  (r_call (t := tt_197) (t2 := tt_184) (pg_of mt_197 dX6_item_1 rfl) mt_197 mt_184 rfl rfl rfl rfl rfl)
theorem b197_4 (l1 : Int32) (l2 : Int32) (l3 : Int32) (s0 : Int32) : rn xs L 197 4 [vR 44, vI l1, vI l2, vI l3] [vI s0] (mw f a g) = if s0 = 0 then rn xs L 197 19 [vR 44, vI l1, vI l2, vI l3] [] (mw f a g) else rn xs L 197 7 [vR 44, vI l1, vI l2, vI l3] [] (mw f a g) :=
  (r_eq0 (pg_of mt_197 dX6_item_4 rfl))
theorem b197_7 (l1 : Int32) (l2 : Int32) (l3 : Int32) : rn xs L 197 7 [vR 44, vI l1, vI l2, vI l3] [] (mw f a g) = (ev xs L 115 6 [vL (l2).toInt64, vL (0 : Int64), vL (3 : Int64)] (mw f a g)).bind (fun b => rn xs L 197 16 [vR 44, vI l1, vI l2, vI l3] (b.1.toList ++ []) b.2) :=
  (r_ild (pg_of mt_197 dX6_item_7 rfl) rfl).trans <|
  (r_i2l (pg_of mt_197 dX6_item_8 rfl)).trans <|
  (r_lcn (pg_of mt_197 dX6_item_9 rfl) (v2 := (0 : Int64)) (by decide)).trans <|
  (r_lcn (pg_of mt_197 dX6_item_10 rfl) (v2 := (3 : Int64)) rfl).trans <|
  (r_call (t := tt_197) (t2 := tt_115) (pg_of mt_197 dX6_item_13 rfl) mt_197 mt_115 rfl rfl rfl rfl rfl)
theorem b197_16 (l1 : Int32) (l2 : Int32) (l3 : Int32) (s0 : Int32) : rn xs L 197 16 [vR 44, vI l1, vI l2, vI l3] [vI s0] (mw f a g) = if s0 = 0 then rn xs L 197 19 [vR 44, vI l1, vI l2, vI l3] [] (mw f a g) else rn xs L 197 21 [vR 44, vI l1, vI l2, vI l3] [] (mw f a g) :=
  (r_ne0 (pg_of mt_197 dX6_item_16 rfl))
theorem b197_19 (l1 : Int32) (l2 : Int32) (l3 : Int32) : rn xs L 197 19 [vR 44, vI l1, vI l2, vI l3] [] (mw f a g) = some (some (vI (-1 : Int32)), (mw f a g)) :=
  (r_con (pg_of mt_197 dX6_item_19 rfl) (v2 := (-1 : Int32)) (by decide)).trans <|
  (r_ri (pg_of mt_197 dX6_item_20 rfl) mt_197 rfl)
theorem b197_21 (l1 : Int32) (l2 : Int32) (l3 : Int32) : rn xs L 197 21 [vR 44, vI l1, vI l2, vI l3] [] (mw f a g) = (ev xs L 198 3 [vR 44, vI l1, vI l2] (mw f a g)).bind (fun b => rn xs L 197 27 [vR 44, vI l1, vI l2, vI l3] (b.1.toList ++ []) b.2) :=
  (r_ald (pg_of mt_197 dX6_item_21 rfl) rfl).trans <|
  (r_ild (pg_of mt_197 dX6_item_22 rfl) rfl).trans <|
  (r_ild (pg_of mt_197 dX6_item_23 rfl) rfl).trans <|
  (r_call (t := tt_197) (t2 := tt_198) (pg_of mt_197 dX6_item_24 rfl) mt_197 mt_198 rfl rfl (rcv1 rfl) rfl rfl)
theorem b197_27 (l1 : Int32) (l2 : Int32) (l3 : Int32) (s0 : Int32) : rn xs L 197 27 [vR 44, vI l1, vI l2, vI l3] [vI s0] (mw f a g) = if s0 = 0 then rn xs L 197 37 [vR 44, vI l1, vI l2, vI l3] [] (mw f a g) else rn xs L 197 30 [vR 44, vI l1, vI l2, vI l3] [] (mw f a g) :=
  (r_eq0 (pg_of mt_197 dX6_item_27 rfl))
theorem b197_30 (l1 : Int32) (l2 : Int32) (l3 : Int32) : rn xs L 197 30 [vR 44, vI l1, vI l2, vI l3] [] (mw f a g) = (ev xs L 198 3 [vR 44, vI l1, vI l2] (mw f a g)).bind (fun b => rn xs L 197 36 [vR 44, vI l1, vI l2, vI l3] (b.1.toList ++ []) b.2) :=
  (r_ald (pg_of mt_197 dX6_item_30 rfl) rfl).trans <|
  (r_ild (pg_of mt_197 dX6_item_31 rfl) rfl).trans <|
  (r_ild (pg_of mt_197 dX6_item_32 rfl) rfl).trans <|
  (r_call (t := tt_197) (t2 := tt_198) (pg_of mt_197 dX6_item_33 rfl) mt_197 mt_198 rfl rfl (rcv1 rfl) rfl rfl)
theorem b197_36 (l1 : Int32) (l2 : Int32) (l3 : Int32) (s0 : Int32) : rn xs L 197 36 [vR 44, vI l1, vI l2, vI l3] [vI s0] (mw f a g) = some (some (vI s0), (mw f a g)) :=
  (r_ri (pg_of mt_197 dX6_item_36 rfl) mt_197 rfl)
theorem b197_37 (l1 : Int32) (l2 : Int32) (l3 : Int32) (h1 : ma_in l1 4 = true) : rn xs L 197 37 [vR 44, vI l1, vI l2, vI l3] [] (mw f a g) = (ev xs L 115 6 [vL (l3).toInt64, vL (0 : Int64), vL (((a 53 l1.toNatClampNeg) - (1 : Int32))).toInt64] (mw f a g)).bind (fun b => rn xs L 197 52 [vR 44, vI l1, vI l2, vI l3] (b.1.toList ++ []) b.2) :=
  (r_ild (pg_of mt_197 dX6_item_37 rfl) rfl).trans <|
  (r_i2l (pg_of mt_197 dX6_item_38 rfl)).trans <|
  (r_lcn (pg_of mt_197 dX6_item_39 rfl) (v2 := (0 : Int64)) (by decide)).trans <|
  (r_ald (pg_of mt_197 dX6_item_40 rfl) rfl).trans <|
  (r_gtr (a := 53) (pg_of mt_197 dX6_item_41 rfl) rfl rfl).trans <|
  (r_ild (pg_of mt_197 dX6_item_44 rfl) rfl).trans <|
  (r_iald (pg_of mt_197 dX6_item_45 rfl) rfl h1).trans <|
  (r_con (pg_of mt_197 dX6_item_46 rfl) (v2 := (1 : Int32)) (by decide)).trans <|
  (r_bin (pg_of mt_197 dX6_item_47 rfl)).trans <|
  (r_i2l (pg_of mt_197 dX6_item_48 rfl)).trans <|
  (r_call (t := tt_197) (t2 := tt_115) (pg_of mt_197 dX6_item_49 rfl) mt_197 mt_115 rfl rfl rfl rfl rfl)
theorem b197_52 (l1 : Int32) (l2 : Int32) (l3 : Int32) (s0 : Int32) : rn xs L 197 52 [vR 44, vI l1, vI l2, vI l3] [vI s0] (mw f a g) = if s0 = 0 then rn xs L 197 69 [vR 44, vI l1, vI l2, vI l3] [] (mw f a g) else rn xs L 197 55 [vR 44, vI l1, vI l2, vI l3] [] (mw f a g) :=
  (r_eq0 (pg_of mt_197 dX6_item_52 rfl))
theorem b197_55 (l1 : Int32) (l2 : Int32) (l3 : Int32) (h1 : ma_in ((((40 : Int32) * l1) + l3)) 160 = true) : rn xs L 197 55 [vR 44, vI l1, vI l2, vI l3] [] (mw f a g) = some (some (vI (a 54 ((((40 : Int32) * l1) + l3)).toNatClampNeg)), (mw f a g)) :=
  (r_ald (pg_of mt_197 dX6_item_55 rfl) rfl).trans <|
  (r_gtr (a := 54) (pg_of mt_197 dX6_item_56 rfl) rfl rfl).trans <|
  (r_con (pg_of mt_197 dX6_item_59 rfl) (v2 := (40 : Int32)) (by decide)).trans <|
  (r_ild (pg_of mt_197 dX6_item_61 rfl) rfl).trans <|
  (r_bin (pg_of mt_197 dX6_item_62 rfl)).trans <|
  (r_ild (pg_of mt_197 dX6_item_63 rfl) rfl).trans <|
  (r_bin (pg_of mt_197 dX6_item_64 rfl)).trans <|
  (r_iald (pg_of mt_197 dX6_item_65 rfl) rfl h1).trans <|
  (r_gto (pg_of mt_197 dX6_item_66 rfl)).trans <|
  (r_ri (pg_of mt_197 dX6_item_71 rfl) mt_197 rfl)
theorem b197_69 (l1 : Int32) (l2 : Int32) (l3 : Int32) : rn xs L 197 69 [vR 44, vI l1, vI l2, vI l3] [] (mw f a g) = some (some (vI (-12 : Int32)), (mw f a g)) :=
  (r_con (pg_of mt_197 dX6_item_69 rfl) (v2 := (-12 : Int32)) (by decide)).trans <|
  (r_ri (pg_of mt_197 dX6_item_71 rfl) mt_197 rfl)
-- 198 LeafFallsModel.lacks(II)I
theorem b198_0 (l1 : Int32) (l2 : Int32) (h1 : ma_in l1 4 = true) : rn xs L 198 0 [vR 44, vI l1, vI l2] [] (mw f a g) = if (a 52 l1.toNatClampNeg) < 0 then rn xs L 198 9 [vR 44, vI l1, vI l2] [] (mw f a g) else rn xs L 198 14 [vR 44, vI l1, vI l2] [] (mw f a g) :=
  (r_ald (pg_of mt_198 dX6_lacks_0 rfl) rfl).trans <|
  (r_gtr (a := 52) (pg_of mt_198 dX6_lacks_1 rfl) rfl rfl).trans <|
  (r_ild (pg_of mt_198 dX6_lacks_4 rfl) rfl).trans <|
  (r_iald (pg_of mt_198 dX6_lacks_5 rfl) rfl h1).trans <|
  (r_ge0 (pg_of mt_198 dX6_lacks_6 rfl))
theorem b198_9 (l1 : Int32) (l2 : Int32) : rn xs L 198 9 [vR 44, vI l1, vI l2] [] (mw f a g) = some (some (vI (-11 : Int32)), (mw f a g)) :=
  (r_con (pg_of mt_198 dX6_lacks_9 rfl) (v2 := (-11 : Int32)) (by decide)).trans <|
  (r_gto (pg_of mt_198 dX6_lacks_11 rfl)).trans <|
  (r_ri (pg_of mt_198 dX6_lacks_30 rfl) mt_198 rfl)
theorem b198_14 (l1 : Int32) (l2 : Int32) (h1 : ma_in l1 4 = true) : rn xs L 198 14 [vR 44, vI l1, vI l2] [] (mw f a g) = if (a 52 l1.toNatClampNeg) = l2 then rn xs L 198 29 [vR 44, vI l1, vI l2] [] (mw f a g) else rn xs L 198 24 [vR 44, vI l1, vI l2] [] (mw f a g) :=
  (r_ald (pg_of mt_198 dX6_lacks_14 rfl) rfl).trans <|
  (r_gtr (a := 52) (pg_of mt_198 dX6_lacks_15 rfl) rfl rfl).trans <|
  (r_ild (pg_of mt_198 dX6_lacks_18 rfl) rfl).trans <|
  (r_iald (pg_of mt_198 dX6_lacks_19 rfl) rfl h1).trans <|
  (r_ild (pg_of mt_198 dX6_lacks_20 rfl) rfl).trans <|
  (r_eq (pg_of mt_198 dX6_lacks_21 rfl))
theorem b198_24 (l1 : Int32) (l2 : Int32) : rn xs L 198 24 [vR 44, vI l1, vI l2] [] (mw f a g) = some (some (vI (-13 : Int32)), (mw f a g)) :=
  (r_con (pg_of mt_198 dX6_lacks_24 rfl) (v2 := (-13 : Int32)) (by decide)).trans <|
  (r_gto (pg_of mt_198 dX6_lacks_26 rfl)).trans <|
  (r_ri (pg_of mt_198 dX6_lacks_30 rfl) mt_198 rfl)
theorem b198_29 (l1 : Int32) (l2 : Int32) : rn xs L 198 29 [vR 44, vI l1, vI l2] [] (mw f a g) = some (some (vI (0 : Int32)), (mw f a g)) :=
  (r_con (pg_of mt_198 dX6_lacks_29 rfl) (v2 := (0 : Int32)) (by decide)).trans <|
  (r_ri (pg_of mt_198 dX6_lacks_30 rfl) mt_198 rfl)
-- 199 LeafFallsModel.minds(IIII)I
theorem b199_0 (l1 : Int32) (l2 : Int32) (l3 : Int32) (l4 : Int32) (l5 : ma_V) : rn xs L 199 0 [vR 44, vI l1, vI l2, vI l3, vI l4, l5] [] (mw f a g) = (ev xs L 184 1 [vI l1] (mw f a g)).bind (fun b => rn xs L 199 4 [vR 44, vI l1, vI l2, vI l3, vI l4, l5] (b.1.toList ++ []) b.2) :=
  (r_ild (pg_of mt_199 dX6_minds_0 rfl) rfl).trans <|
  (r_call (t := tt_199) (t2 := tt_184) (pg_of mt_199 dX6_minds_1 rfl) mt_199 mt_184 rfl rfl rfl rfl rfl)
theorem b199_4 (l1 : Int32) (l2 : Int32) (l3 : Int32) (l4 : Int32) (l5 : ma_V) (s0 : Int32) : rn xs L 199 4 [vR 44, vI l1, vI l2, vI l3, vI l4, l5] [vI s0] (mw f a g) = if s0 = 0 then rn xs L 199 41 [vR 44, vI l1, vI l2, vI l3, vI l4, l5] [] (mw f a g) else rn xs L 199 7 [vR 44, vI l1, vI l2, vI l3, vI l4, l5] [] (mw f a g) :=
  (r_eq0 (pg_of mt_199 dX6_minds_4 rfl))
theorem b199_7 (l1 : Int32) (l2 : Int32) (l3 : Int32) (l4 : Int32) (l5 : ma_V) : rn xs L 199 7 [vR 44, vI l1, vI l2, vI l3, vI l4, l5] [] (mw f a g) = (ev xs L 140 2 [vR 44, vI l3] (mw f a g)).bind (fun b => rn xs L 199 12 [vR 44, vI l1, vI l2, vI l3, vI l4, l5] (b.1.toList ++ []) b.2) :=
  (r_ald (pg_of mt_199 dX6_minds_7 rfl) rfl).trans <|
  (r_ild (pg_of mt_199 dX6_minds_8 rfl) rfl).trans <|
  (r_call (t := tt_199) (t2 := tt_140) (pg_of mt_199 dX6_minds_9 rfl) mt_199 mt_140 rfl rfl (rcv1 rfl) rfl rfl)
theorem b199_12 (l1 : Int32) (l2 : Int32) (l3 : Int32) (l4 : Int32) (l5 : ma_V) (s0 : Int32) : rn xs L 199 12 [vR 44, vI l1, vI l2, vI l3, vI l4, l5] [vI s0] (mw f a g) = if s0 = 0 then rn xs L 199 41 [vR 44, vI l1, vI l2, vI l3, vI l4, l5] [] (mw f a g) else rn xs L 199 15 [vR 44, vI l1, vI l2, vI l3, vI l4, l5] [] (mw f a g) :=
  (r_eq0 (pg_of mt_199 dX6_minds_12 rfl))
theorem b199_15 (l1 : Int32) (l2 : Int32) (l3 : Int32) (l4 : Int32) (l5 : ma_V) : rn xs L 199 15 [vR 44, vI l1, vI l2, vI l3, vI l4, l5] [] (mw f a g) = (ev xs L 115 6 [vL (l4).toInt64, vL (0 : Int64), vL (8 : Int64)] (mw f a g)).bind (fun b => rn xs L 199 25 [vR 44, vI l1, vI l2, vI l3, vI l4, l5] (b.1.toList ++ []) b.2) :=
  (r_ild (pg_of mt_199 dX6_minds_15 rfl) rfl).trans <|
  (r_i2l (pg_of mt_199 dX6_minds_17 rfl)).trans <|
  (r_lcn (pg_of mt_199 dX6_minds_18 rfl) (v2 := (0 : Int64)) (by decide)).trans <|
  (r_lcn (pg_of mt_199 dX6_minds_19 rfl) (v2 := (8 : Int64)) rfl).trans <|
  (r_call (t := tt_199) (t2 := tt_115) (pg_of mt_199 dX6_minds_22 rfl) mt_199 mt_115 rfl rfl rfl rfl rfl)
theorem b199_25 (l1 : Int32) (l2 : Int32) (l3 : Int32) (l4 : Int32) (l5 : ma_V) (s0 : Int32) : rn xs L 199 25 [vR 44, vI l1, vI l2, vI l3, vI l4, l5] [vI s0] (mw f a g) = if s0 = 0 then rn xs L 199 41 [vR 44, vI l1, vI l2, vI l3, vI l4, l5] [] (mw f a g) else rn xs L 199 28 [vR 44, vI l1, vI l2, vI l3, vI l4, l5] [] (mw f a g) :=
  (r_eq0 (pg_of mt_199 dX6_minds_25 rfl))
theorem b199_28 (l1 : Int32) (l2 : Int32) (l3 : Int32) (l4 : Int32) (l5 : ma_V) : rn xs L 199 28 [vR 44, vI l1, vI l2, vI l3, vI l4, l5] [] (mw f a g) = if (a 45 0) < (l3 + l4) then rn xs L 199 41 [vR 44, vI l1, vI l2, vI l3, vI l4, l5] [] (mw f a g) else rn xs L 199 43 [vR 44, vI l1, vI l2, vI l3, vI l4, l5] [] (mw f a g) :=
  (r_ild (pg_of mt_199 dX6_minds_28 rfl) rfl).trans <|
  (r_ild (pg_of mt_199 dX6_minds_29 rfl) rfl).trans <|
  (r_bin (pg_of mt_199 dX6_minds_31 rfl)).trans <|
  (r_ald (pg_of mt_199 dX6_minds_32 rfl) rfl).trans <|
  (r_gtr (a := 45) (pg_of mt_199 dX6_minds_33 rfl) rfl rfl).trans <|
  (r_con (pg_of mt_199 dX6_minds_36 rfl) (v2 := (0 : Int32)) (by decide)).trans <|
  (r_ialc (j := 0) (pg_of mt_199 dX6_minds_37 rfl) rfl (by decide) (by decide)).trans <|
  (r_le (pg_of mt_199 dX6_minds_38 rfl))
theorem b199_41 (l1 : Int32) (l2 : Int32) (l3 : Int32) (l4 : Int32) (l5 : ma_V) : rn xs L 199 41 [vR 44, vI l1, vI l2, vI l3, vI l4, l5] [] (mw f a g) = some (some (vI (-1 : Int32)), (mw f a g)) :=
  (r_con (pg_of mt_199 dX6_minds_41 rfl) (v2 := (-1 : Int32)) (by decide)).trans <|
  (r_ri (pg_of mt_199 dX6_minds_42 rfl) mt_199 rfl)
theorem b199_43 (l1 : Int32) (l2 : Int32) (l3 : Int32) (l4 : Int32) (l5 : ma_V) : rn xs L 199 43 [vR 44, vI l1, vI l2, vI l3, vI l4, l5] [] (mw f a g) = (ev xs L 198 3 [vR 44, vI l1, vI (0 : Int32)] (mw f a g)).bind (fun b => rn xs L 199 49 [vR 44, vI l1, vI l2, vI l3, vI l4, l5] (b.1.toList ++ []) b.2) :=
  (r_ald (pg_of mt_199 dX6_minds_43 rfl) rfl).trans <|
  (r_ild (pg_of mt_199 dX6_minds_44 rfl) rfl).trans <|
  (r_con (pg_of mt_199 dX6_minds_45 rfl) (v2 := (0 : Int32)) (by decide)).trans <|
  (r_call (t := tt_199) (t2 := tt_198) (pg_of mt_199 dX6_minds_46 rfl) mt_199 mt_198 rfl rfl (rcv1 rfl) rfl rfl)
theorem b199_49 (l1 : Int32) (l2 : Int32) (l3 : Int32) (l4 : Int32) (l5 : ma_V) (s0 : Int32) : rn xs L 199 49 [vR 44, vI l1, vI l2, vI l3, vI l4, l5] [vI s0] (mw f a g) = if s0 = 0 then rn xs L 199 59 [vR 44, vI l1, vI l2, vI l3, vI l4, l5] [] (mw f a g) else rn xs L 199 52 [vR 44, vI l1, vI l2, vI l3, vI l4, l5] [] (mw f a g) :=
  (r_eq0 (pg_of mt_199 dX6_minds_49 rfl))
theorem b199_52 (l1 : Int32) (l2 : Int32) (l3 : Int32) (l4 : Int32) (l5 : ma_V) : rn xs L 199 52 [vR 44, vI l1, vI l2, vI l3, vI l4, l5] [] (mw f a g) = (ev xs L 198 3 [vR 44, vI l1, vI (0 : Int32)] (mw f a g)).bind (fun b => rn xs L 199 58 [vR 44, vI l1, vI l2, vI l3, vI l4, l5] (b.1.toList ++ []) b.2) :=
  (r_ald (pg_of mt_199 dX6_minds_52 rfl) rfl).trans <|
  (r_ild (pg_of mt_199 dX6_minds_53 rfl) rfl).trans <|
  (r_con (pg_of mt_199 dX6_minds_54 rfl) (v2 := (0 : Int32)) (by decide)).trans <|
  (r_call (t := tt_199) (t2 := tt_198) (pg_of mt_199 dX6_minds_55 rfl) mt_199 mt_198 rfl rfl (rcv1 rfl) rfl rfl)
theorem b199_58 (l1 : Int32) (l2 : Int32) (l3 : Int32) (l4 : Int32) (l5 : ma_V) (s0 : Int32) : rn xs L 199 58 [vR 44, vI l1, vI l2, vI l3, vI l4, l5] [vI s0] (mw f a g) = some (some (vI s0), (mw f a g)) :=
  (r_ri (pg_of mt_199 dX6_minds_58 rfl) mt_199 rfl)
theorem b199_59 (l1 : Int32) (l2 : Int32) (l3 : Int32) (l4 : Int32) (l5 : ma_V) (h1 : ma_in l1 4 = true) : rn xs L 199 59 [vR 44, vI l1, vI l2, vI l3, vI l4, l5] [] (mw f a g) = (ev xs L 115 6 [vL (l2).toInt64, vL (0 : Int64), vL ((a 53 l1.toNatClampNeg)).toInt64] (mw f a g)).bind (fun b => rn xs L 199 72 [vR 44, vI l1, vI l2, vI l3, vI l4, l5] (b.1.toList ++ []) b.2) :=
  (r_ild (pg_of mt_199 dX6_minds_59 rfl) rfl).trans <|
  (r_i2l (pg_of mt_199 dX6_minds_60 rfl)).trans <|
  (r_lcn (pg_of mt_199 dX6_minds_61 rfl) (v2 := (0 : Int64)) (by decide)).trans <|
  (r_ald (pg_of mt_199 dX6_minds_62 rfl) rfl).trans <|
  (r_gtr (a := 53) (pg_of mt_199 dX6_minds_63 rfl) rfl rfl).trans <|
  (r_ild (pg_of mt_199 dX6_minds_66 rfl) rfl).trans <|
  (r_iald (pg_of mt_199 dX6_minds_67 rfl) rfl h1).trans <|
  (r_i2l (pg_of mt_199 dX6_minds_68 rfl)).trans <|
  (r_call (t := tt_199) (t2 := tt_115) (pg_of mt_199 dX6_minds_69 rfl) mt_199 mt_115 rfl rfl rfl rfl rfl)
theorem b199_72 (l1 : Int32) (l2 : Int32) (l3 : Int32) (l4 : Int32) (l5 : ma_V) (s0 : Int32) : rn xs L 199 72 [vR 44, vI l1, vI l2, vI l3, vI l4, l5] [vI s0] (mw f a g) = if s0 = 0 then rn xs L 199 92 [vR 44, vI l1, vI l2, vI l3, vI l4, l5] [] (mw f a g) else rn xs L 199 75 [vR 44, vI l1, vI l2, vI l3, vI l4, l5] [] (mw f a g) :=
  (r_eq0 (pg_of mt_199 dX6_minds_72 rfl))
theorem b199_75 (l1 : Int32) (l2 : Int32) (l3 : Int32) (l4 : Int32) (l5 : ma_V) (h1 : ma_in l1 4 = true) : rn xs L 199 75 [vR 44, vI l1, vI l2, vI l3, vI l4, l5] [] (mw f a g) = if 0 < (lg_cmp ((l2).toInt64 + (l4).toInt64) ((a 53 l1.toNatClampNeg)).toInt64) then rn xs L 199 92 [vR 44, vI l1, vI l2, vI l3, vI l4, l5] [] (mw f a g) else rn xs L 199 95 [vR 44, vI l1, vI l2, vI l3, vI l4, l5] [] (mw f a g) :=
  (r_ild (pg_of mt_199 dX6_minds_75 rfl) rfl).trans <|
  (r_i2l (pg_of mt_199 dX6_minds_76 rfl)).trans <|
  (r_ild (pg_of mt_199 dX6_minds_77 rfl) rfl).trans <|
  (r_i2l (pg_of mt_199 dX6_minds_79 rfl)).trans <|
  (r_lbn (pg_of mt_199 dX6_minds_80 rfl)).trans <|
  (r_ald (pg_of mt_199 dX6_minds_81 rfl) rfl).trans <|
  (r_gtr (a := 53) (pg_of mt_199 dX6_minds_82 rfl) rfl rfl).trans <|
  (r_ild (pg_of mt_199 dX6_minds_85 rfl) rfl).trans <|
  (r_iald (pg_of mt_199 dX6_minds_86 rfl) rfl h1).trans <|
  (r_i2l (pg_of mt_199 dX6_minds_87 rfl)).trans <|
  (r_lcp (pg_of mt_199 dX6_minds_88 rfl)).trans <|
  (r_le0 (pg_of mt_199 dX6_minds_89 rfl))
theorem b199_92 (l1 : Int32) (l2 : Int32) (l3 : Int32) (l4 : Int32) (l5 : ma_V) : rn xs L 199 92 [vR 44, vI l1, vI l2, vI l3, vI l4, l5] [] (mw f a g) = some (some (vI (-12 : Int32)), (mw f a g)) :=
  (r_con (pg_of mt_199 dX6_minds_92 rfl) (v2 := (-12 : Int32)) (by decide)).trans <|
  (r_ri (pg_of mt_199 dX6_minds_94 rfl) mt_199 rfl)
theorem b199_95 (l1 : Int32) (l2 : Int32) (l3 : Int32) (l4 : Int32) (l5 : ma_V) : rn xs L 199 95 [vR 44, vI l1, vI l2, vI l3, vI l4, l5] [] (mw f a g) = rn xs L 199 98 [vR 44, vI l1, vI l2, vI l3, vI l4, vI (0 : Int32)] [] (mw f a g) :=
  (r_con (pg_of mt_199 dX6_minds_95 rfl) (v2 := (0 : Int32)) (by decide)).trans <|
  (r_ist (pg_of mt_199 dX6_minds_96 rfl) (Nat.le_of_ble_eq_true rfl) rfl)
theorem b199_98 (l1 : Int32) (l2 : Int32) (l3 : Int32) (l4 : Int32) (l5 : Int32) : rn xs L 199 98 [vR 44, vI l1, vI l2, vI l3, vI l4, vI l5] [] (mw f a g) = if l5 < l4 then rn xs L 199 105 [vR 44, vI l1, vI l2, vI l3, vI l4, vI l5] [] (mw f a g) else rn xs L 199 145 [vR 44, vI l1, vI l2, vI l3, vI l4, vI l5] [] (mw f a g) :=
  (r_ild (pg_of mt_199 dX6_minds_98 rfl) rfl).trans <|
  (r_ild (pg_of mt_199 dX6_minds_100 rfl) rfl).trans <|
  (r_ge (pg_of mt_199 dX6_minds_102 rfl))
theorem b199_105 (l1 : Int32) (l2 : Int32) (l3 : Int32) (l4 : Int32) (l5 : Int32) (h1 : ma_in (((((40 : Int32) * l1) + l2) + l5)) 160 = true) : rn xs L 199 105 [vR 44, vI l1, vI l2, vI l3, vI l4, vI l5] [] (mw f a g) = (ev xs L 158 1 [vI (a 54 (((((40 : Int32) * l1) + l2) + l5)).toNatClampNeg)] (mw f a g)).bind (fun b => rn xs L 199 138 [vR 44, vI l1, vI l2, vI l3, vI l4, vI l5] (b.1.toList ++ [vI (((14 : Int32) + ((6 : Int32) * (l3 + l5))) + (2 : Int32)), vR 45]) b.2) :=
  (r_ald (pg_of mt_199 dX6_minds_105 rfl) rfl).trans <|
  (r_gtr (a := 45) (pg_of mt_199 dX6_minds_106 rfl) rfl rfl).trans <|
  (r_con (pg_of mt_199 dX6_minds_109 rfl) (v2 := (14 : Int32)) (by decide)).trans <|
  (r_con (pg_of mt_199 dX6_minds_111 rfl) (v2 := (6 : Int32)) (by decide)).trans <|
  (r_ild (pg_of mt_199 dX6_minds_113 rfl) rfl).trans <|
  (r_ild (pg_of mt_199 dX6_minds_114 rfl) rfl).trans <|
  (r_bin (pg_of mt_199 dX6_minds_116 rfl)).trans <|
  (r_bin (pg_of mt_199 dX6_minds_117 rfl)).trans <|
  (r_bin (pg_of mt_199 dX6_minds_118 rfl)).trans <|
  (r_con (pg_of mt_199 dX6_minds_119 rfl) (v2 := (2 : Int32)) (by decide)).trans <|
  (r_bin (pg_of mt_199 dX6_minds_120 rfl)).trans <|
  (r_ald (pg_of mt_199 dX6_minds_121 rfl) rfl).trans <|
  (r_gtr (a := 54) (pg_of mt_199 dX6_minds_122 rfl) rfl rfl).trans <|
  (r_con (pg_of mt_199 dX6_minds_125 rfl) (v2 := (40 : Int32)) (by decide)).trans <|
  (r_ild (pg_of mt_199 dX6_minds_127 rfl) rfl).trans <|
  (r_bin (pg_of mt_199 dX6_minds_128 rfl)).trans <|
  (r_ild (pg_of mt_199 dX6_minds_129 rfl) rfl).trans <|
  (r_bin (pg_of mt_199 dX6_minds_130 rfl)).trans <|
  (r_ild (pg_of mt_199 dX6_minds_131 rfl) rfl).trans <|
  (r_bin (pg_of mt_199 dX6_minds_133 rfl)).trans <|
  (r_iald (pg_of mt_199 dX6_minds_134 rfl) rfl h1).trans <|
  (r_call (t := tt_199) (t2 := tt_158) (pg_of mt_199 dX6_minds_135 rfl) mt_199 mt_158 rfl rfl rfl rfl rfl)
theorem b199_138 (l1 : Int32) (l2 : Int32) (l3 : Int32) (l4 : Int32) (l5 : Int32) (s0 : Int32) (s1 : Int32) (h1 : ma_in s1 62 = true) : rn xs L 199 138 [vR 44, vI l1, vI l2, vI l3, vI l4, vI l5] [vI s0, vI s1, vR 45] (mw f a g) = rn xs L 199 98 [vR 44, vI l1, vI l2, vI l3, vI l4, vI (l5 + (1 : Int32))] [] (mw f ((ma_u2 a 45 s1.toNatClampNeg s0)) g) :=
  (r_iast (pg_of mt_199 dX6_minds_138 rfl) rfl h1).trans <|
  (r_inc (pg_of mt_199 dX6_minds_139 rfl) (y := (1 : Int32)) (by decide) rfl rfl).trans <|
  (r_gto (pg_of mt_199 dX6_minds_142 rfl))
theorem b199_145 (l1 : Int32) (l2 : Int32) (l3 : Int32) (l4 : Int32) (l5 : Int32) : rn xs L 199 145 [vR 44, vI l1, vI l2, vI l3, vI l4, vI l5] [] (mw f a g) = some (some (vI l4), (mw f a g)) :=
  (r_ild (pg_of mt_199 dX6_minds_145 rfl) rfl).trans <|
  (r_ri (pg_of mt_199 dX6_minds_147 rfl) mt_199 rfl)
-- 200 LeafFallsModel.shelf(III)I
theorem b200_0 (l1 : Int32) (l2 : Int32) (l3 : Int32) (l4 : ma_V) : rn xs L 200 0 [vR 44, vI l1, vI l2, vI l3, l4] [] (mw f a g) = (ev xs L 201 1 [vI l1] (mw f a g)).bind (fun b => rn xs L 200 4 [vR 44, vI l1, vI l2, vI l3, l4] (b.1.toList ++ []) b.2) :=
  (r_ild (pg_of mt_200 dX6_shelf_0 rfl) rfl).trans <|
  (r_call (t := tt_200) (t2 := tt_201) (pg_of mt_200 dX6_shelf_1 rfl) mt_200 mt_201 rfl rfl rfl rfl rfl)
theorem b200_4 (l1 : Int32) (l2 : Int32) (l3 : Int32) (l4 : ma_V) (s0 : Int32) : rn xs L 200 4 [vR 44, vI l1, vI l2, vI l3, l4] [vI s0] (mw f a g) = if s0 = 0 then rn xs L 200 43 [vR 44, vI l1, vI l2, vI l3, l4] [] (mw f a g) else rn xs L 200 7 [vR 44, vI l1, vI l2, vI l3, l4] [] (mw f a g) :=
  (r_eq0 (pg_of mt_200 dX6_shelf_4 rfl))
theorem b200_7 (l1 : Int32) (l2 : Int32) (l3 : Int32) (l4 : ma_V) : rn xs L 200 7 [vR 44, vI l1, vI l2, vI l3, l4] [] (mw f a g) = (ev xs L 115 6 [vL (l2).toInt64, vL (0 : Int64), vL (2 : Int64)] (mw f a g)).bind (fun b => rn xs L 200 16 [vR 44, vI l1, vI l2, vI l3, l4] (b.1.toList ++ []) b.2) :=
  (r_ild (pg_of mt_200 dX6_shelf_7 rfl) rfl).trans <|
  (r_i2l (pg_of mt_200 dX6_shelf_8 rfl)).trans <|
  (r_lcn (pg_of mt_200 dX6_shelf_9 rfl) (v2 := (0 : Int64)) (by decide)).trans <|
  (r_lcn (pg_of mt_200 dX6_shelf_10 rfl) (v2 := (2 : Int64)) rfl).trans <|
  (r_call (t := tt_200) (t2 := tt_115) (pg_of mt_200 dX6_shelf_13 rfl) mt_200 mt_115 rfl rfl rfl rfl rfl)
theorem b200_16 (l1 : Int32) (l2 : Int32) (l3 : Int32) (l4 : ma_V) (s0 : Int32) : rn xs L 200 16 [vR 44, vI l1, vI l2, vI l3, l4] [vI s0] (mw f a g) = if s0 = 0 then rn xs L 200 43 [vR 44, vI l1, vI l2, vI l3, l4] [] (mw f a g) else rn xs L 200 19 [vR 44, vI l1, vI l2, vI l3, l4] [] (mw f a g) :=
  (r_eq0 (pg_of mt_200 dX6_shelf_16 rfl))
theorem b200_19 (l1 : Int32) (l2 : Int32) (l3 : Int32) (l4 : ma_V) : rn xs L 200 19 [vR 44, vI l1, vI l2, vI l3, l4] [] (mw f a g) = if l2 = 0 then rn xs L 200 23 [vR 44, vI l1, vI l2, vI l3, l4] [] (mw f a g) else rn xs L 200 31 [vR 44, vI l1, vI l2, vI l3, l4] [] (mw f a g) :=
  (r_ild (pg_of mt_200 dX6_shelf_19 rfl) rfl).trans <|
  (r_ne0 (pg_of mt_200 dX6_shelf_20 rfl))
theorem b200_23 (l1 : Int32) (l2 : Int32) (l3 : Int32) (l4 : ma_V) : rn xs L 200 23 [vR 44, vI l1, vI l2, vI l3, l4] [] (mw f a g) = (ev xs L 140 2 [vR 44, vI l3] (mw f a g)).bind (fun b => rn xs L 200 28 [vR 44, vI l1, vI l2, vI l3, l4] (b.1.toList ++ []) b.2) :=
  (r_ald (pg_of mt_200 dX6_shelf_23 rfl) rfl).trans <|
  (r_ild (pg_of mt_200 dX6_shelf_24 rfl) rfl).trans <|
  (r_call (t := tt_200) (t2 := tt_140) (pg_of mt_200 dX6_shelf_25 rfl) mt_200 mt_140 rfl rfl (rcv1 rfl) rfl rfl)
theorem b200_28 (l1 : Int32) (l2 : Int32) (l3 : Int32) (l4 : ma_V) (s0 : Int32) : rn xs L 200 28 [vR 44, vI l1, vI l2, vI l3, l4] [vI s0] (mw f a g) = if s0 = 0 then rn xs L 200 43 [vR 44, vI l1, vI l2, vI l3, l4] [] (mw f a g) else rn xs L 200 31 [vR 44, vI l1, vI l2, vI l3, l4] [] (mw f a g) :=
  (r_eq0 (pg_of mt_200 dX6_shelf_28 rfl))
theorem b200_31 (l1 : Int32) (l2 : Int32) (l3 : Int32) (l4 : ma_V) : rn xs L 200 31 [vR 44, vI l1, vI l2, vI l3, l4] [] (mw f a g) = if l2 = (1 : Int32) then rn xs L 200 36 [vR 44, vI l1, vI l2, vI l3, l4] [] (mw f a g) else rn xs L 200 45 [vR 44, vI l1, vI l2, vI l3, l4] [] (mw f a g) :=
  (r_ild (pg_of mt_200 dX6_shelf_31 rfl) rfl).trans <|
  (r_con (pg_of mt_200 dX6_shelf_32 rfl) (v2 := (1 : Int32)) (by decide)).trans <|
  (r_ne (pg_of mt_200 dX6_shelf_33 rfl))
theorem b200_36 (l1 : Int32) (l2 : Int32) (l3 : Int32) (l4 : ma_V) : rn xs L 200 36 [vR 44, vI l1, vI l2, vI l3, l4] [] (mw f a g) = (ev xs L 184 1 [vI l3] (mw f a g)).bind (fun b => rn xs L 200 40 [vR 44, vI l1, vI l2, vI l3, l4] (b.1.toList ++ []) b.2) :=
  (r_ild (pg_of mt_200 dX6_shelf_36 rfl) rfl).trans <|
  (r_call (t := tt_200) (t2 := tt_184) (pg_of mt_200 dX6_shelf_37 rfl) mt_200 mt_184 rfl rfl rfl rfl rfl)
theorem b200_40 (l1 : Int32) (l2 : Int32) (l3 : Int32) (l4 : ma_V) (s0 : Int32) : rn xs L 200 40 [vR 44, vI l1, vI l2, vI l3, l4] [vI s0] (mw f a g) = if s0 = 0 then rn xs L 200 43 [vR 44, vI l1, vI l2, vI l3, l4] [] (mw f a g) else rn xs L 200 45 [vR 44, vI l1, vI l2, vI l3, l4] [] (mw f a g) :=
  (r_ne0 (pg_of mt_200 dX6_shelf_40 rfl))
theorem b200_43 (l1 : Int32) (l2 : Int32) (l3 : Int32) (l4 : ma_V) : rn xs L 200 43 [vR 44, vI l1, vI l2, vI l3, l4] [] (mw f a g) = some (some (vI (-1 : Int32)), (mw f a g)) :=
  (r_con (pg_of mt_200 dX6_shelf_43 rfl) (v2 := (-1 : Int32)) (by decide)).trans <|
  (r_ri (pg_of mt_200 dX6_shelf_44 rfl) mt_200 rfl)
theorem b200_45 (l1 : Int32) (l2 : Int32) (l3 : Int32) (l4 : ma_V) : rn xs L 200 45 [vR 44, vI l1, vI l2, vI l3, l4] [] (mw f a g) = if l2 = (1 : Int32) then rn xs L 200 50 [vR 44, vI l1, vI l2, vI l3, l4] [] (mw f a g) else rn xs L 200 63 [vR 44, vI l1, vI l2, vI l3, l4] [] (mw f a g) :=
  (r_ild (pg_of mt_200 dX6_shelf_45 rfl) rfl).trans <|
  (r_con (pg_of mt_200 dX6_shelf_46 rfl) (v2 := (1 : Int32)) (by decide)).trans <|
  (r_ne (pg_of mt_200 dX6_shelf_47 rfl))
theorem b200_50 (l1 : Int32) (l2 : Int32) (l3 : Int32) (l4 : ma_V) (h1 : ma_in l3 4 = true) : rn xs L 200 50 [vR 44, vI l1, vI l2, vI l3, l4] [] (mw f a g) = if (a 52 l3.toNatClampNeg) < 0 then rn xs L 200 63 [vR 44, vI l1, vI l2, vI l3, l4] [] (mw f a g) else rn xs L 200 59 [vR 44, vI l1, vI l2, vI l3, l4] [] (mw f a g) :=
  (r_ald (pg_of mt_200 dX6_shelf_50 rfl) rfl).trans <|
  (r_gtr (a := 52) (pg_of mt_200 dX6_shelf_51 rfl) rfl rfl).trans <|
  (r_ild (pg_of mt_200 dX6_shelf_54 rfl) rfl).trans <|
  (r_iald (pg_of mt_200 dX6_shelf_55 rfl) rfl h1).trans <|
  (r_lt0 (pg_of mt_200 dX6_shelf_56 rfl))
theorem b200_59 (l1 : Int32) (l2 : Int32) (l3 : Int32) (l4 : ma_V) : rn xs L 200 59 [vR 44, vI l1, vI l2, vI l3, l4] [] (mw f a g) = if l2 = 0 then rn xs L 200 75 [vR 44, vI l1, vI l2, vI l3, vI (1 : Int32)] [vI l1, vR 55] (mw f a g) else rn xs L 200 79 [vR 44, vI l1, vI l2, vI l3, vI (1 : Int32)] [vI l1, vR 55] (mw f a g) :=
  (r_con (pg_of mt_200 dX6_shelf_59 rfl) (v2 := (1 : Int32)) (by decide)).trans <|
  (r_gto (pg_of mt_200 dX6_shelf_60 rfl)).trans <|
  (r_ist (pg_of mt_200 dX6_shelf_64 rfl) (Nat.le_of_ble_eq_true rfl) rfl).trans <|
  (r_ald (pg_of mt_200 dX6_shelf_66 rfl) rfl).trans <|
  (r_gtr (a := 55) (pg_of mt_200 dX6_shelf_67 rfl) rfl rfl).trans <|
  (r_ild (pg_of mt_200 dX6_shelf_70 rfl) rfl).trans <|
  (r_ild (pg_of mt_200 dX6_shelf_71 rfl) rfl).trans <|
  (r_ne0 (pg_of mt_200 dX6_shelf_72 rfl))
theorem b200_63 (l1 : Int32) (l2 : Int32) (l3 : Int32) (l4 : ma_V) : rn xs L 200 63 [vR 44, vI l1, vI l2, vI l3, l4] [] (mw f a g) = if l2 = 0 then rn xs L 200 75 [vR 44, vI l1, vI l2, vI l3, vI (0 : Int32)] [vI l1, vR 55] (mw f a g) else rn xs L 200 79 [vR 44, vI l1, vI l2, vI l3, vI (0 : Int32)] [vI l1, vR 55] (mw f a g) :=
  (r_con (pg_of mt_200 dX6_shelf_63 rfl) (v2 := (0 : Int32)) (by decide)).trans <|
  (r_ist (pg_of mt_200 dX6_shelf_64 rfl) (Nat.le_of_ble_eq_true rfl) rfl).trans <|
  (r_ald (pg_of mt_200 dX6_shelf_66 rfl) rfl).trans <|
  (r_gtr (a := 55) (pg_of mt_200 dX6_shelf_67 rfl) rfl rfl).trans <|
  (r_ild (pg_of mt_200 dX6_shelf_70 rfl) rfl).trans <|
  (r_ild (pg_of mt_200 dX6_shelf_71 rfl) rfl).trans <|
  (r_ne0 (pg_of mt_200 dX6_shelf_72 rfl))
theorem b200_75 (l1 : Int32) (l2 : Int32) (l3 : Int32) (l4 : Int32) (s0 : Int32) (h1 : ma_in s0 4 = true) : rn xs L 200 75 [vR 44, vI l1, vI l2, vI l3, vI l4] [vI s0, vR 55] (mw f a g) = if l2 = 0 then rn xs L 200 99 [vR 44, vI l1, vI l2, vI l3, vI l4] [vI l1, vR 56] (mw f ((ma_u2 a 55 s0.toNatClampNeg ((1 : Int32)))) g) else rn xs L 200 103 [vR 44, vI l1, vI l2, vI l3, vI l4] [vI l1, vR 56] (mw f ((ma_u2 a 55 s0.toNatClampNeg ((1 : Int32)))) g) :=
  (r_con (pg_of mt_200 dX6_shelf_75 rfl) (v2 := (1 : Int32)) (by decide)).trans <|
  (r_gto (pg_of mt_200 dX6_shelf_76 rfl)).trans <|
  (r_iast (pg_of mt_200 dX6_shelf_89 rfl) rfl h1).trans <|
  (r_ald (pg_of mt_200 dX6_shelf_90 rfl) rfl).trans <|
  (r_gtr (a := 56) (pg_of mt_200 dX6_shelf_91 rfl) rfl rfl).trans <|
  (r_ild (pg_of mt_200 dX6_shelf_94 rfl) rfl).trans <|
  (r_ild (pg_of mt_200 dX6_shelf_95 rfl) rfl).trans <|
  (r_ne0 (pg_of mt_200 dX6_shelf_96 rfl))
theorem b200_79 (l1 : Int32) (l2 : Int32) (l3 : Int32) (l4 : Int32) (s0 : Int32) : rn xs L 200 79 [vR 44, vI l1, vI l2, vI l3, vI l4] [vI s0, vR 55] (mw f a g) = if l4 = 0 then rn xs L 200 88 [vR 44, vI l1, vI l2, vI l3, vI l4] [vI s0, vR 55] (mw f a g) else rn xs L 200 84 [vR 44, vI l1, vI l2, vI l3, vI l4] [vI s0, vR 55] (mw f a g) :=
  (r_ild (pg_of mt_200 dX6_shelf_79 rfl) rfl).trans <|
  (r_eq0 (pg_of mt_200 dX6_shelf_81 rfl))
theorem b200_84 (l1 : Int32) (l2 : Int32) (l3 : Int32) (l4 : Int32) (s0 : Int32) (h1 : ma_in s0 4 = true) : rn xs L 200 84 [vR 44, vI l1, vI l2, vI l3, vI l4] [vI s0, vR 55] (mw f a g) = if l2 = 0 then rn xs L 200 99 [vR 44, vI l1, vI l2, vI l3, vI l4] [vI l1, vR 56] (mw f ((ma_u2 a 55 s0.toNatClampNeg ((2 : Int32)))) g) else rn xs L 200 103 [vR 44, vI l1, vI l2, vI l3, vI l4] [vI l1, vR 56] (mw f ((ma_u2 a 55 s0.toNatClampNeg ((2 : Int32)))) g) :=
  (r_con (pg_of mt_200 dX6_shelf_84 rfl) (v2 := (2 : Int32)) (by decide)).trans <|
  (r_gto (pg_of mt_200 dX6_shelf_85 rfl)).trans <|
  (r_iast (pg_of mt_200 dX6_shelf_89 rfl) rfl h1).trans <|
  (r_ald (pg_of mt_200 dX6_shelf_90 rfl) rfl).trans <|
  (r_gtr (a := 56) (pg_of mt_200 dX6_shelf_91 rfl) rfl rfl).trans <|
  (r_ild (pg_of mt_200 dX6_shelf_94 rfl) rfl).trans <|
  (r_ild (pg_of mt_200 dX6_shelf_95 rfl) rfl).trans <|
  (r_ne0 (pg_of mt_200 dX6_shelf_96 rfl))
theorem b200_88 (l1 : Int32) (l2 : Int32) (l3 : Int32) (l4 : Int32) (s0 : Int32) (h1 : ma_in s0 4 = true) : rn xs L 200 88 [vR 44, vI l1, vI l2, vI l3, vI l4] [vI s0, vR 55] (mw f a g) = if l2 = 0 then rn xs L 200 99 [vR 44, vI l1, vI l2, vI l3, vI l4] [vI l1, vR 56] (mw f ((ma_u2 a 55 s0.toNatClampNeg ((0 : Int32)))) g) else rn xs L 200 103 [vR 44, vI l1, vI l2, vI l3, vI l4] [vI l1, vR 56] (mw f ((ma_u2 a 55 s0.toNatClampNeg ((0 : Int32)))) g) :=
  (r_con (pg_of mt_200 dX6_shelf_88 rfl) (v2 := (0 : Int32)) (by decide)).trans <|
  (r_iast (pg_of mt_200 dX6_shelf_89 rfl) rfl h1).trans <|
  (r_ald (pg_of mt_200 dX6_shelf_90 rfl) rfl).trans <|
  (r_gtr (a := 56) (pg_of mt_200 dX6_shelf_91 rfl) rfl rfl).trans <|
  (r_ild (pg_of mt_200 dX6_shelf_94 rfl) rfl).trans <|
  (r_ild (pg_of mt_200 dX6_shelf_95 rfl) rfl).trans <|
  (r_ne0 (pg_of mt_200 dX6_shelf_96 rfl))
theorem b200_99 (l1 : Int32) (l2 : Int32) (l3 : Int32) (l4 : Int32) (s0 : Int32) (h1 : ma_in s0 4 = true) : rn xs L 200 99 [vR 44, vI l1, vI l2, vI l3, vI l4] [vI s0, vR 56] (mw f a g) = if l4 = 0 then rn xs L 200 138 [vR 44, vI l1, vI l2, vI l3, vI l4] [vI l1, vR 57] (mw f ((ma_u2 a 56 s0.toNatClampNeg l3)) g) else rn xs L 200 129 [vR 44, vI l1, vI l2, vI l3, vI l4] [vI l1, vR 57] (mw f ((ma_u2 a 56 s0.toNatClampNeg l3)) g) :=
  (r_ild (pg_of mt_200 dX6_shelf_99 rfl) rfl).trans <|
  (r_gto (pg_of mt_200 dX6_shelf_100 rfl)).trans <|
  (r_iast (pg_of mt_200 dX6_shelf_118 rfl) rfl h1).trans <|
  (r_ald (pg_of mt_200 dX6_shelf_119 rfl) rfl).trans <|
  (r_gtr (a := 57) (pg_of mt_200 dX6_shelf_120 rfl) rfl rfl).trans <|
  (r_ild (pg_of mt_200 dX6_shelf_123 rfl) rfl).trans <|
  (r_ild (pg_of mt_200 dX6_shelf_124 rfl) rfl).trans <|
  (r_eq0 (pg_of mt_200 dX6_shelf_126 rfl))
theorem b200_103 (l1 : Int32) (l2 : Int32) (l3 : Int32) (l4 : Int32) (s0 : Int32) : rn xs L 200 103 [vR 44, vI l1, vI l2, vI l3, vI l4] [vI s0, vR 56] (mw f a g) = if l4 = 0 then rn xs L 200 117 [vR 44, vI l1, vI l2, vI l3, vI l4] [vI s0, vR 56] (mw f a g) else rn xs L 200 108 [vR 44, vI l1, vI l2, vI l3, vI l4] [vI s0, vR 56] (mw f a g) :=
  (r_ild (pg_of mt_200 dX6_shelf_103 rfl) rfl).trans <|
  (r_eq0 (pg_of mt_200 dX6_shelf_105 rfl))
theorem b200_108 (l1 : Int32) (l2 : Int32) (l3 : Int32) (l4 : Int32) (s0 : Int32) (h1 : ma_in l3 4 = true) (h2 : ma_in s0 4 = true) : rn xs L 200 108 [vR 44, vI l1, vI l2, vI l3, vI l4] [vI s0, vR 56] (mw f a g) = if l4 = 0 then rn xs L 200 138 [vR 44, vI l1, vI l2, vI l3, vI l4] [vI l1, vR 57] (mw f ((ma_u2 a 56 s0.toNatClampNeg ((a 52 l3.toNatClampNeg)))) g) else rn xs L 200 129 [vR 44, vI l1, vI l2, vI l3, vI l4] [vI l1, vR 57] (mw f ((ma_u2 a 56 s0.toNatClampNeg ((a 52 l3.toNatClampNeg)))) g) :=
  (r_ald (pg_of mt_200 dX6_shelf_108 rfl) rfl).trans <|
  (r_gtr (a := 52) (pg_of mt_200 dX6_shelf_109 rfl) rfl rfl).trans <|
  (r_ild (pg_of mt_200 dX6_shelf_112 rfl) rfl).trans <|
  (r_iald (pg_of mt_200 dX6_shelf_113 rfl) rfl h1).trans <|
  (r_gto (pg_of mt_200 dX6_shelf_114 rfl)).trans <|
  (r_iast (pg_of mt_200 dX6_shelf_118 rfl) rfl h2).trans <|
  (r_ald (pg_of mt_200 dX6_shelf_119 rfl) rfl).trans <|
  (r_gtr (a := 57) (pg_of mt_200 dX6_shelf_120 rfl) rfl rfl).trans <|
  (r_ild (pg_of mt_200 dX6_shelf_123 rfl) rfl).trans <|
  (r_ild (pg_of mt_200 dX6_shelf_124 rfl) rfl).trans <|
  (r_eq0 (pg_of mt_200 dX6_shelf_126 rfl))
theorem b200_117 (l1 : Int32) (l2 : Int32) (l3 : Int32) (l4 : Int32) (s0 : Int32) (h1 : ma_in s0 4 = true) : rn xs L 200 117 [vR 44, vI l1, vI l2, vI l3, vI l4] [vI s0, vR 56] (mw f a g) = if l4 = 0 then rn xs L 200 138 [vR 44, vI l1, vI l2, vI l3, vI l4] [vI l1, vR 57] (mw f ((ma_u2 a 56 s0.toNatClampNeg ((0 : Int32)))) g) else rn xs L 200 129 [vR 44, vI l1, vI l2, vI l3, vI l4] [vI l1, vR 57] (mw f ((ma_u2 a 56 s0.toNatClampNeg ((0 : Int32)))) g) :=
  (r_con (pg_of mt_200 dX6_shelf_117 rfl) (v2 := (0 : Int32)) (by decide)).trans <|
  (r_iast (pg_of mt_200 dX6_shelf_118 rfl) rfl h1).trans <|
  (r_ald (pg_of mt_200 dX6_shelf_119 rfl) rfl).trans <|
  (r_gtr (a := 57) (pg_of mt_200 dX6_shelf_120 rfl) rfl rfl).trans <|
  (r_ild (pg_of mt_200 dX6_shelf_123 rfl) rfl).trans <|
  (r_ild (pg_of mt_200 dX6_shelf_124 rfl) rfl).trans <|
  (r_eq0 (pg_of mt_200 dX6_shelf_126 rfl))
theorem b200_129 (l1 : Int32) (l2 : Int32) (l3 : Int32) (l4 : Int32) (s0 : Int32) (h1 : ma_in l3 4 = true) (h2 : ma_in s0 4 = true) : rn xs L 200 129 [vR 44, vI l1, vI l2, vI l3, vI l4] [vI s0, vR 57] (mw f a g) = some (some (vI (1 : Int32)), (mw f ((ma_u2 a 57 s0.toNatClampNeg ((a 53 l3.toNatClampNeg)))) g)) :=
  (r_ald (pg_of mt_200 dX6_shelf_129 rfl) rfl).trans <|
  (r_gtr (a := 53) (pg_of mt_200 dX6_shelf_130 rfl) rfl rfl).trans <|
  (r_ild (pg_of mt_200 dX6_shelf_133 rfl) rfl).trans <|
  (r_iald (pg_of mt_200 dX6_shelf_134 rfl) rfl h1).trans <|
  (r_gto (pg_of mt_200 dX6_shelf_135 rfl)).trans <|
  (r_iast (pg_of mt_200 dX6_shelf_139 rfl) rfl h2).trans <|
  (r_con (pg_of mt_200 dX6_shelf_140 rfl) (v2 := (1 : Int32)) (by decide)).trans <|
  (r_ri (pg_of mt_200 dX6_shelf_141 rfl) mt_200 rfl)
theorem b200_138 (l1 : Int32) (l2 : Int32) (l3 : Int32) (l4 : Int32) (s0 : Int32) (h1 : ma_in s0 4 = true) : rn xs L 200 138 [vR 44, vI l1, vI l2, vI l3, vI l4] [vI s0, vR 57] (mw f a g) = some (some (vI (1 : Int32)), (mw f ((ma_u2 a 57 s0.toNatClampNeg ((0 : Int32)))) g)) :=
  (r_con (pg_of mt_200 dX6_shelf_138 rfl) (v2 := (0 : Int32)) (by decide)).trans <|
  (r_iast (pg_of mt_200 dX6_shelf_139 rfl) rfl h1).trans <|
  (r_con (pg_of mt_200 dX6_shelf_140 rfl) (v2 := (1 : Int32)) (by decide)).trans <|
  (r_ri (pg_of mt_200 dX6_shelf_141 rfl) mt_200 rfl)
-- 201 LeafFallsModel.isShelf(I)Z
theorem b201_0 (l0 : Int32) : rn xs L 201 0 [vI l0] [] (mw f a g) = (ev xs L 115 6 [vL (l0).toInt64, vL (0 : Int64), vL (3 : Int64)] (mw f a g)).bind (fun b => rn xs L 201 9 [vI l0] (b.1.toList ++ []) b.2) :=
  (r_ild (pg_of mt_201 dX6_isShelf_0 rfl) rfl).trans <|
  (r_i2l (pg_of mt_201 dX6_isShelf_1 rfl)).trans <|
  (r_lcn (pg_of mt_201 dX6_isShelf_2 rfl) (v2 := (0 : Int64)) (by decide)).trans <|
  (r_lcn (pg_of mt_201 dX6_isShelf_3 rfl) (v2 := (3 : Int64)) rfl).trans <|
  (r_call (t := tt_201) (t2 := tt_115) (pg_of mt_201 dX6_isShelf_6 rfl) mt_201 mt_115 rfl rfl rfl rfl rfl)
theorem b201_9 (l0 : Int32) (s0 : Int32) (h1 : s0 = 0 ∨ s0 = 1) : rn xs L 201 9 [vI l0] [vI s0] (mw f a g) = some (some (vI s0), (mw f a g)) :=
  (r_rz (pg_of mt_201 dX6_isShelf_9 rfl) mt_201 rfl h1)
-- 202 LeafFallsModel.taken(II)I
theorem b202_0 (l1 : Int32) (l2 : Int32) (l3 : ma_V) : rn xs L 202 0 [vR 44, vI l1, vI l2, l3] [] (mw f a g) = (ev xs L 201 1 [vI l1] (mw f a g)).bind (fun b => rn xs L 202 4 [vR 44, vI l1, vI l2, l3] (b.1.toList ++ []) b.2) :=
  (r_ild (pg_of mt_202 dX6_taken_0 rfl) rfl).trans <|
  (r_call (t := tt_202) (t2 := tt_201) (pg_of mt_202 dX6_taken_1 rfl) mt_202 mt_201 rfl rfl rfl rfl rfl)
theorem b202_4 (l1 : Int32) (l2 : Int32) (l3 : ma_V) (s0 : Int32) : rn xs L 202 4 [vR 44, vI l1, vI l2, l3] [vI s0] (mw f a g) = if s0 = 0 then rn xs L 202 33 [vR 44, vI l1, vI l2, l3] [] (mw f a g) else rn xs L 202 7 [vR 44, vI l1, vI l2, l3] [] (mw f a g) :=
  (r_eq0 (pg_of mt_202 dX6_taken_4 rfl))
theorem b202_7 (l1 : Int32) (l2 : Int32) (l3 : ma_V) : rn xs L 202 7 [vR 44, vI l1, vI l2, l3] [] (mw f a g) = (ev xs L 115 6 [vL (l2).toInt64, vL (0 : Int64), vL (13 : Int64)] (mw f a g)).bind (fun b => rn xs L 202 16 [vR 44, vI l1, vI l2, l3] (b.1.toList ++ []) b.2) :=
  (r_ild (pg_of mt_202 dX6_taken_7 rfl) rfl).trans <|
  (r_i2l (pg_of mt_202 dX6_taken_8 rfl)).trans <|
  (r_lcn (pg_of mt_202 dX6_taken_9 rfl) (v2 := (0 : Int64)) (by decide)).trans <|
  (r_lcn (pg_of mt_202 dX6_taken_10 rfl) (v2 := (13 : Int64)) rfl).trans <|
  (r_call (t := tt_202) (t2 := tt_115) (pg_of mt_202 dX6_taken_13 rfl) mt_202 mt_115 rfl rfl rfl rfl rfl)
theorem b202_16 (l1 : Int32) (l2 : Int32) (l3 : ma_V) (s0 : Int32) : rn xs L 202 16 [vR 44, vI l1, vI l2, l3] [vI s0] (mw f a g) = if s0 = 0 then rn xs L 202 33 [vR 44, vI l1, vI l2, l3] [] (mw f a g) else rn xs L 202 19 [vR 44, vI l1, vI l2, l3] [] (mw f a g) :=
  (r_eq0 (pg_of mt_202 dX6_taken_16 rfl))
theorem b202_19 (l1 : Int32) (l2 : Int32) (l3 : ma_V) : rn xs L 202 19 [vR 44, vI l1, vI l2, l3] [] (mw f a g) = (ev xs L 115 6 [vL (l2).toInt64, vL (6 : Int64), vL (9 : Int64)] (mw f a g)).bind (fun b => rn xs L 202 30 [vR 44, vI l1, vI l2, l3] (b.1.toList ++ []) b.2) :=
  (r_ild (pg_of mt_202 dX6_taken_19 rfl) rfl).trans <|
  (r_i2l (pg_of mt_202 dX6_taken_20 rfl)).trans <|
  (r_lcn (pg_of mt_202 dX6_taken_21 rfl) (v2 := (6 : Int64)) rfl).trans <|
  (r_lcn (pg_of mt_202 dX6_taken_24 rfl) (v2 := (9 : Int64)) rfl).trans <|
  (r_call (t := tt_202) (t2 := tt_115) (pg_of mt_202 dX6_taken_27 rfl) mt_202 mt_115 rfl rfl rfl rfl rfl)
theorem b202_30 (l1 : Int32) (l2 : Int32) (l3 : ma_V) (s0 : Int32) : rn xs L 202 30 [vR 44, vI l1, vI l2, l3] [vI s0] (mw f a g) = if s0 = 0 then rn xs L 202 35 [vR 44, vI l1, vI l2, l3] [] (mw f a g) else rn xs L 202 33 [vR 44, vI l1, vI l2, l3] [] (mw f a g) :=
  (r_eq0 (pg_of mt_202 dX6_taken_30 rfl))
theorem b202_33 (l1 : Int32) (l2 : Int32) (l3 : ma_V) : rn xs L 202 33 [vR 44, vI l1, vI l2, l3] [] (mw f a g) = some (some (vI (-1 : Int32)), (mw f a g)) :=
  (r_con (pg_of mt_202 dX6_taken_33 rfl) (v2 := (-1 : Int32)) (by decide)).trans <|
  (r_ri (pg_of mt_202 dX6_taken_34 rfl) mt_202 rfl)
theorem b202_35 (l1 : Int32) (l2 : Int32) (l3 : ma_V) : rn xs L 202 35 [vR 44, vI l1, vI l2, l3] [] (mw f a g) = (ev xs L 203 2 [vR 44, vI l1] (mw f a g)).bind (fun b => rn xs L 202 40 [vR 44, vI l1, vI l2, l3] (b.1.toList ++ []) b.2) :=
  (r_ald (pg_of mt_202 dX6_taken_35 rfl) rfl).trans <|
  (r_ild (pg_of mt_202 dX6_taken_36 rfl) rfl).trans <|
  (r_call (t := tt_202) (t2 := tt_203) (pg_of mt_202 dX6_taken_37 rfl) mt_202 mt_203 rfl rfl (rcv1 rfl) rfl rfl)
theorem b202_40 (l1 : Int32) (l2 : Int32) (l3 : ma_V) (s0 : Int32) : rn xs L 202 40 [vR 44, vI l1, vI l2, l3] [vI s0] (mw f a g) = if s0 = 0 then rn xs L 202 45 [vR 44, vI l1, vI l2, vI s0] [] (mw f a g) else rn xs L 202 48 [vR 44, vI l1, vI l2, vI s0] [] (mw f a g) :=
  (r_ist (pg_of mt_202 dX6_taken_40 rfl) (Nat.le_of_ble_eq_true rfl) rfl).trans <|
  (r_ild (pg_of mt_202 dX6_taken_41 rfl) rfl).trans <|
  (r_ne0 (pg_of mt_202 dX6_taken_42 rfl))
theorem b202_45 (l1 : Int32) (l2 : Int32) (l3 : Int32) : rn xs L 202 45 [vR 44, vI l1, vI l2, vI l3] [] (mw f a g) = some (some (vI (-11 : Int32)), (mw f a g)) :=
  (r_con (pg_of mt_202 dX6_taken_45 rfl) (v2 := (-11 : Int32)) (by decide)).trans <|
  (r_ri (pg_of mt_202 dX6_taken_47 rfl) mt_202 rfl)
theorem b202_48 (l1 : Int32) (l2 : Int32) (l3 : Int32) : rn xs L 202 48 [vR 44, vI l1, vI l2, vI l3] [] (mw f a g) = if l2 < (10 : Int32) then rn xs L 202 54 [vR 44, vI l1, vI l2, vI l3] [] (mw f a g) else rn xs L 202 89 [vR 44, vI l1, vI l2, vI l3] [] (mw f a g) :=
  (r_ild (pg_of mt_202 dX6_taken_48 rfl) rfl).trans <|
  (r_con (pg_of mt_202 dX6_taken_49 rfl) (v2 := (10 : Int32)) (by decide)).trans <|
  (r_ge (pg_of mt_202 dX6_taken_51 rfl))
theorem b202_54 (l1 : Int32) (l2 : Int32) (l3 : Int32) : rn xs L 202 54 [vR 44, vI l1, vI l2, vI l3] [] (mw f a g) = if l3 = (1 : Int32) then rn xs L 202 59 [vR 44, vI l1, vI l2, vI l3] [] (mw f a g) else rn xs L 202 86 [vR 44, vI l1, vI l2, vI l3] [] (mw f a g) :=
  (r_ild (pg_of mt_202 dX6_taken_54 rfl) rfl).trans <|
  (r_con (pg_of mt_202 dX6_taken_55 rfl) (v2 := (1 : Int32)) (by decide)).trans <|
  (r_ne (pg_of mt_202 dX6_taken_56 rfl))
theorem b202_59 (l1 : Int32) (l2 : Int32) (l3 : Int32) (h1 : ma_in l1 4 = true) : rn xs L 202 59 [vR 44, vI l1, vI l2, vI l3] [] (mw f a g) = (ev xs L 142 3 [vR 44, vI (a 56 l1.toNatClampNeg), vI (0 : Int32)] (mw f a g)).bind (fun b => rn xs L 202 70 [vR 44, vI l1, vI l2, vI l3] (b.1.toList ++ []) b.2) :=
  (r_ald (pg_of mt_202 dX6_taken_59 rfl) rfl).trans <|
  (r_ald (pg_of mt_202 dX6_taken_60 rfl) rfl).trans <|
  (r_gtr (a := 56) (pg_of mt_202 dX6_taken_61 rfl) rfl rfl).trans <|
  (r_ild (pg_of mt_202 dX6_taken_64 rfl) rfl).trans <|
  (r_iald (pg_of mt_202 dX6_taken_65 rfl) rfl h1).trans <|
  (r_con (pg_of mt_202 dX6_taken_66 rfl) (v2 := (0 : Int32)) (by decide)).trans <|
  (r_call (t := tt_202) (t2 := tt_142) (pg_of mt_202 dX6_taken_67 rfl) mt_202 mt_142 rfl rfl (rcv1 rfl) rfl rfl)
theorem b202_70 (l1 : Int32) (l2 : Int32) (l3 : Int32) (s0 : Int32) : rn xs L 202 70 [vR 44, vI l1, vI l2, vI l3] [vI s0] (mw f a g) = (ev xs L 204 2 [vI s0, vI l2] (mw f a g)).bind (fun b => rn xs L 202 74 [vR 44, vI l1, vI l2, vI l3] (b.1.toList ++ []) b.2) :=
  (r_ild (pg_of mt_202 dX6_taken_70 rfl) rfl).trans <|
  (r_call (t := tt_202) (t2 := tt_204) (pg_of mt_202 dX6_taken_71 rfl) mt_202 mt_204 rfl rfl rfl rfl rfl)
theorem b202_74 (l1 : Int32) (l2 : Int32) (l3 : Int32) (s0 : Int32) : rn xs L 202 74 [vR 44, vI l1, vI l2, vI l3] [vI s0] (mw f a g) = if s0 = 0 then rn xs L 202 86 [vR 44, vI l1, vI l2, vI l3] [] (mw f a g) else rn xs L 202 77 [vR 44, vI l1, vI l2, vI l3] [] (mw f a g) :=
  (r_eq0 (pg_of mt_202 dX6_taken_74 rfl))
theorem b202_77 (l1 : Int32) (l2 : Int32) (l3 : Int32) (h1 : ma_in l1 4 = true) : rn xs L 202 77 [vR 44, vI l1, vI l2, vI l3] [] (mw f a g) = some (some (vI (a 56 l1.toNatClampNeg)), (mw f a g)) :=
  (r_ald (pg_of mt_202 dX6_taken_77 rfl) rfl).trans <|
  (r_gtr (a := 56) (pg_of mt_202 dX6_taken_78 rfl) rfl rfl).trans <|
  (r_ild (pg_of mt_202 dX6_taken_81 rfl) rfl).trans <|
  (r_iald (pg_of mt_202 dX6_taken_82 rfl) rfl h1).trans <|
  (r_gto (pg_of mt_202 dX6_taken_83 rfl)).trans <|
  (r_ri (pg_of mt_202 dX6_taken_88 rfl) mt_202 rfl)
theorem b202_86 (l1 : Int32) (l2 : Int32) (l3 : Int32) : rn xs L 202 86 [vR 44, vI l1, vI l2, vI l3] [] (mw f a g) = some (some (vI (-13 : Int32)), (mw f a g)) :=
  (r_con (pg_of mt_202 dX6_taken_86 rfl) (v2 := (-13 : Int32)) (by decide)).trans <|
  (r_ri (pg_of mt_202 dX6_taken_88 rfl) mt_202 rfl)
theorem b202_89 (l1 : Int32) (l2 : Int32) (l3 : Int32) : rn xs L 202 89 [vR 44, vI l1, vI l2, vI l3] [] (mw f a g) = if l3 = (2 : Int32) then rn xs L 202 94 [vR 44, vI l1, vI l2, vI l3] [] (mw f a g) else rn xs L 202 116 [vR 44, vI l1, vI l2, vI l3] [] (mw f a g) :=
  (r_ild (pg_of mt_202 dX6_taken_89 rfl) rfl).trans <|
  (r_con (pg_of mt_202 dX6_taken_90 rfl) (v2 := (2 : Int32)) (by decide)).trans <|
  (r_ne (pg_of mt_202 dX6_taken_91 rfl))
theorem b202_94 (l1 : Int32) (l2 : Int32) (l3 : Int32) (h1 : ma_in l1 4 = true) : rn xs L 202 94 [vR 44, vI l1, vI l2, vI l3] [] (mw f a g) = if (a 56 l1.toNatClampNeg) = (l2 - (10 : Int32)) then rn xs L 202 107 [vR 44, vI l1, vI l2, vI l3] [] (mw f a g) else rn xs L 202 116 [vR 44, vI l1, vI l2, vI l3] [] (mw f a g) :=
  (r_ald (pg_of mt_202 dX6_taken_94 rfl) rfl).trans <|
  (r_gtr (a := 56) (pg_of mt_202 dX6_taken_95 rfl) rfl rfl).trans <|
  (r_ild (pg_of mt_202 dX6_taken_98 rfl) rfl).trans <|
  (r_iald (pg_of mt_202 dX6_taken_99 rfl) rfl h1).trans <|
  (r_ild (pg_of mt_202 dX6_taken_100 rfl) rfl).trans <|
  (r_con (pg_of mt_202 dX6_taken_101 rfl) (v2 := (10 : Int32)) (by decide)).trans <|
  (r_bin (pg_of mt_202 dX6_taken_103 rfl)).trans <|
  (r_ne (pg_of mt_202 dX6_taken_104 rfl))
theorem b202_107 (l1 : Int32) (l2 : Int32) (l3 : Int32) (h1 : ma_in l1 4 = true) : rn xs L 202 107 [vR 44, vI l1, vI l2, vI l3] [] (mw f a g) = some (some (vI (a 57 l1.toNatClampNeg)), (mw f a g)) :=
  (r_ald (pg_of mt_202 dX6_taken_107 rfl) rfl).trans <|
  (r_gtr (a := 57) (pg_of mt_202 dX6_taken_108 rfl) rfl rfl).trans <|
  (r_ild (pg_of mt_202 dX6_taken_111 rfl) rfl).trans <|
  (r_iald (pg_of mt_202 dX6_taken_112 rfl) rfl h1).trans <|
  (r_gto (pg_of mt_202 dX6_taken_113 rfl)).trans <|
  (r_ri (pg_of mt_202 dX6_taken_118 rfl) mt_202 rfl)
theorem b202_116 (l1 : Int32) (l2 : Int32) (l3 : Int32) : rn xs L 202 116 [vR 44, vI l1, vI l2, vI l3] [] (mw f a g) = some (some (vI (-13 : Int32)), (mw f a g)) :=
  (r_con (pg_of mt_202 dX6_taken_116 rfl) (v2 := (-13 : Int32)) (by decide)).trans <|
  (r_ri (pg_of mt_202 dX6_taken_118 rfl) mt_202 rfl)
-- 203 LeafFallsModel.heldOn(I)I
theorem b203_0 (l1 : Int32) (h1 : ma_in l1 4 = true) : rn xs L 203 0 [vR 44, vI l1] [] (mw f a g) = if (a 55 l1.toNatClampNeg) = (1 : Int32) then rn xs L 203 10 [vR 44, vI l1] [] (mw f a g) else rn xs L 203 27 [vR 44, vI l1] [] (mw f a g) :=
  (r_ald (pg_of mt_203 dX6_heldOn_0 rfl) rfl).trans <|
  (r_gtr (a := 55) (pg_of mt_203 dX6_heldOn_1 rfl) rfl rfl).trans <|
  (r_ild (pg_of mt_203 dX6_heldOn_4 rfl) rfl).trans <|
  (r_iald (pg_of mt_203 dX6_heldOn_5 rfl) rfl h1).trans <|
  (r_con (pg_of mt_203 dX6_heldOn_6 rfl) (v2 := (1 : Int32)) (by decide)).trans <|
  (r_ne (pg_of mt_203 dX6_heldOn_7 rfl))
theorem b203_10 (l1 : Int32) (h1 : ma_in l1 4 = true) : rn xs L 203 10 [vR 44, vI l1] [] (mw f a g) = (ev xs L 140 2 [vR 44, vI (a 56 l1.toNatClampNeg)] (mw f a g)).bind (fun b => rn xs L 203 20 [vR 44, vI l1] (b.1.toList ++ []) b.2) :=
  (r_ald (pg_of mt_203 dX6_heldOn_10 rfl) rfl).trans <|
  (r_ald (pg_of mt_203 dX6_heldOn_11 rfl) rfl).trans <|
  (r_gtr (a := 56) (pg_of mt_203 dX6_heldOn_12 rfl) rfl rfl).trans <|
  (r_ild (pg_of mt_203 dX6_heldOn_15 rfl) rfl).trans <|
  (r_iald (pg_of mt_203 dX6_heldOn_16 rfl) rfl h1).trans <|
  (r_call (t := tt_203) (t2 := tt_140) (pg_of mt_203 dX6_heldOn_17 rfl) mt_203 mt_140 rfl rfl (rcv1 rfl) rfl rfl)
theorem b203_20 (l1 : Int32) (s0 : Int32) : rn xs L 203 20 [vR 44, vI l1] [vI s0] (mw f a g) = if s0 = 0 then rn xs L 203 23 [vR 44, vI l1] [] (mw f a g) else rn xs L 203 27 [vR 44, vI l1] [] (mw f a g) :=
  (r_ne0 (pg_of mt_203 dX6_heldOn_20 rfl))
theorem b203_23 (l1 : Int32) : rn xs L 203 23 [vR 44, vI l1] [] (mw f a g) = some (some (vI (0 : Int32)), (mw f a g)) :=
  (r_con (pg_of mt_203 dX6_heldOn_23 rfl) (v2 := (0 : Int32)) (by decide)).trans <|
  (r_gto (pg_of mt_203 dX6_heldOn_24 rfl)).trans <|
  (r_ri (pg_of mt_203 dX6_heldOn_33 rfl) mt_203 rfl)
theorem b203_27 (l1 : Int32) (h1 : ma_in l1 4 = true) : rn xs L 203 27 [vR 44, vI l1] [] (mw f a g) = some (some (vI (a 55 l1.toNatClampNeg)), (mw f a g)) :=
  (r_ald (pg_of mt_203 dX6_heldOn_27 rfl) rfl).trans <|
  (r_gtr (a := 55) (pg_of mt_203 dX6_heldOn_28 rfl) rfl rfl).trans <|
  (r_ild (pg_of mt_203 dX6_heldOn_31 rfl) rfl).trans <|
  (r_iald (pg_of mt_203 dX6_heldOn_32 rfl) rfl h1).trans <|
  (r_ri (pg_of mt_203 dX6_heldOn_33 rfl) mt_203 rfl)
-- 204 LeafFallsModel.isUnder(II)Z
theorem b204_0 (l0 : Int32) (l1 : Int32) : rn xs L 204 0 [vI l0, vI l1] [] (mw f a g) = if l1 = 0 then rn xs L 204 29 [vI l0, vI l1] [] (mw f a g) else rn xs L 204 4 [vI l0, vI l1] [] (mw f a g) :=
  (r_ild (pg_of mt_204 dX6_isUnder_0 rfl) rfl).trans <|
  (r_eq0 (pg_of mt_204 dX6_isUnder_1 rfl))
theorem b204_4 (l0 : Int32) (l1 : Int32) : rn xs L 204 4 [vI l0, vI l1] [] (mw f a g) = if l0 = l1 then rn xs L 204 29 [vI l0, vI l1] [] (mw f a g) else rn xs L 204 9 [vI l0, vI l1] [] (mw f a g) :=
  (r_ild (pg_of mt_204 dX6_isUnder_4 rfl) rfl).trans <|
  (r_ild (pg_of mt_204 dX6_isUnder_5 rfl) rfl).trans <|
  (r_eq (pg_of mt_204 dX6_isUnder_6 rfl))
theorem b204_9 (l0 : Int32) (l1 : Int32) : rn xs L 204 9 [vI l0, vI l1] [] (mw f a g) = if l1 = (1 : Int32) then rn xs L 204 14 [vI l0, vI l1] [] (mw f a g) else rn xs L 204 19 [vI l0, vI l1] [] (mw f a g) :=
  (r_ild (pg_of mt_204 dX6_isUnder_9 rfl) rfl).trans <|
  (r_con (pg_of mt_204 dX6_isUnder_10 rfl) (v2 := (1 : Int32)) (by decide)).trans <|
  (r_ne (pg_of mt_204 dX6_isUnder_11 rfl))
theorem b204_14 (l0 : Int32) (l1 : Int32) : rn xs L 204 14 [vI l0, vI l1] [] (mw f a g) = if l0 = (3 : Int32) then rn xs L 204 29 [vI l0, vI l1] [] (mw f a g) else rn xs L 204 19 [vI l0, vI l1] [] (mw f a g) :=
  (r_ild (pg_of mt_204 dX6_isUnder_14 rfl) rfl).trans <|
  (r_con (pg_of mt_204 dX6_isUnder_15 rfl) (v2 := (3 : Int32)) (by decide)).trans <|
  (r_eq (pg_of mt_204 dX6_isUnder_16 rfl))
theorem b204_19 (l0 : Int32) (l1 : Int32) : rn xs L 204 19 [vI l0, vI l1] [] (mw f a g) = if l1 = (2 : Int32) then rn xs L 204 24 [vI l0, vI l1] [] (mw f a g) else rn xs L 204 33 [vI l0, vI l1] [] (mw f a g) :=
  (r_ild (pg_of mt_204 dX6_isUnder_19 rfl) rfl).trans <|
  (r_con (pg_of mt_204 dX6_isUnder_20 rfl) (v2 := (2 : Int32)) (by decide)).trans <|
  (r_ne (pg_of mt_204 dX6_isUnder_21 rfl))
theorem b204_24 (l0 : Int32) (l1 : Int32) : rn xs L 204 24 [vI l0, vI l1] [] (mw f a g) = if l0 = (4 : Int32) then rn xs L 204 29 [vI l0, vI l1] [] (mw f a g) else rn xs L 204 33 [vI l0, vI l1] [] (mw f a g) :=
  (r_ild (pg_of mt_204 dX6_isUnder_24 rfl) rfl).trans <|
  (r_con (pg_of mt_204 dX6_isUnder_25 rfl) (v2 := (4 : Int32)) (by decide)).trans <|
  (r_ne (pg_of mt_204 dX6_isUnder_26 rfl))
theorem b204_29 (l0 : Int32) (l1 : Int32) : rn xs L 204 29 [vI l0, vI l1] [] (mw f a g) = some (some (vI (1 : Int32)), (mw f a g)) :=
  (r_con (pg_of mt_204 dX6_isUnder_29 rfl) (v2 := (1 : Int32)) (by decide)).trans <|
  (r_gto (pg_of mt_204 dX6_isUnder_30 rfl)).trans <|
  (r_rz (pg_of mt_204 dX6_isUnder_34 rfl) mt_204 rfl (Or.inr rfl))
theorem b204_33 (l0 : Int32) (l1 : Int32) : rn xs L 204 33 [vI l0, vI l1] [] (mw f a g) = some (some (vI (0 : Int32)), (mw f a g)) :=
  (r_con (pg_of mt_204 dX6_isUnder_33 rfl) (v2 := (0 : Int32)) (by decide)).trans <|
  (r_rz (pg_of mt_204 dX6_isUnder_34 rfl) mt_204 rfl (Or.inl rfl))
-- 205 LeafFallsModel.act(III)I
theorem b205_0 (l1 : Int32) (l2 : Int32) (l3 : Int32) (l4 : ma_V) : rn xs L 205 0 [vR 44, vI l1, vI l2, vI l3, l4] [] (mw f a g) = (ev xs L 201 1 [vI l1] (mw ((ma_u2 f 44 22 ((0 : Int32)))) a g)).bind (fun b => rn xs L 205 9 [vR 44, vI l1, vI l2, vI l3, l4] (b.1.toList ++ []) b.2) :=
  (r_ald (pg_of mt_205 dX6_act_0 rfl) rfl).trans <|
  (r_con (pg_of mt_205 dX6_act_1 rfl) (v2 := (0 : Int32)) (by decide)).trans <|
  (r_pti (pg_of mt_205 dX6_act_2 rfl) rfl rfl).trans <|
  (r_ild (pg_of mt_205 dX6_act_5 rfl) rfl).trans <|
  (r_call (t := tt_205) (t2 := tt_201) (pg_of mt_205 dX6_act_6 rfl) mt_205 mt_201 rfl rfl rfl rfl rfl)
theorem b205_9 (l1 : Int32) (l2 : Int32) (l3 : Int32) (l4 : ma_V) (s0 : Int32) : rn xs L 205 9 [vR 44, vI l1, vI l2, vI l3, l4] [vI s0] (mw f a g) = if s0 = 0 then rn xs L 205 33 [vR 44, vI l1, vI l2, vI l3, l4] [] (mw f a g) else rn xs L 205 12 [vR 44, vI l1, vI l2, vI l3, l4] [] (mw f a g) :=
  (r_eq0 (pg_of mt_205 dX6_act_9 rfl))
theorem b205_12 (l1 : Int32) (l2 : Int32) (l3 : Int32) (l4 : ma_V) : rn xs L 205 12 [vR 44, vI l1, vI l2, vI l3, l4] [] (mw f a g) = (ev xs L 115 6 [vL (l2).toInt64, vL (0 : Int64), vL (3 : Int64)] (mw f a g)).bind (fun b => rn xs L 205 21 [vR 44, vI l1, vI l2, vI l3, l4] (b.1.toList ++ []) b.2) :=
  (r_ild (pg_of mt_205 dX6_act_12 rfl) rfl).trans <|
  (r_i2l (pg_of mt_205 dX6_act_13 rfl)).trans <|
  (r_lcn (pg_of mt_205 dX6_act_14 rfl) (v2 := (0 : Int64)) (by decide)).trans <|
  (r_lcn (pg_of mt_205 dX6_act_15 rfl) (v2 := (3 : Int64)) rfl).trans <|
  (r_call (t := tt_205) (t2 := tt_115) (pg_of mt_205 dX6_act_18 rfl) mt_205 mt_115 rfl rfl rfl rfl rfl)
theorem b205_21 (l1 : Int32) (l2 : Int32) (l3 : Int32) (l4 : ma_V) (s0 : Int32) : rn xs L 205 21 [vR 44, vI l1, vI l2, vI l3, l4] [vI s0] (mw f a g) = if s0 = 0 then rn xs L 205 33 [vR 44, vI l1, vI l2, vI l3, l4] [] (mw f a g) else rn xs L 205 24 [vR 44, vI l1, vI l2, vI l3, l4] [] (mw f a g) :=
  (r_eq0 (pg_of mt_205 dX6_act_21 rfl))
theorem b205_24 (l1 : Int32) (l2 : Int32) (l3 : Int32) (l4 : ma_V) : rn xs L 205 24 [vR 44, vI l1, vI l2, vI l3, l4] [] (mw f a g) = (ev xs L 203 2 [vR 44, vI l1] (mw f a g)).bind (fun b => rn xs L 205 29 [vR 44, vI l1, vI l2, vI l3, l4] (b.1.toList ++ []) b.2) :=
  (r_ald (pg_of mt_205 dX6_act_24 rfl) rfl).trans <|
  (r_ild (pg_of mt_205 dX6_act_25 rfl) rfl).trans <|
  (r_call (t := tt_205) (t2 := tt_203) (pg_of mt_205 dX6_act_26 rfl) mt_205 mt_203 rfl rfl (rcv1 rfl) rfl rfl)
theorem b205_29 (l1 : Int32) (l2 : Int32) (l3 : Int32) (l4 : ma_V) (s0 : Int32) : rn xs L 205 29 [vR 44, vI l1, vI l2, vI l3, l4] [vI s0] (mw f a g) = if s0 = (1 : Int32) then rn xs L 205 35 [vR 44, vI l1, vI l2, vI l3, l4] [] (mw f a g) else rn xs L 205 33 [vR 44, vI l1, vI l2, vI l3, l4] [] (mw f a g) :=
  (r_con (pg_of mt_205 dX6_act_29 rfl) (v2 := (1 : Int32)) (by decide)).trans <|
  (r_eq (pg_of mt_205 dX6_act_30 rfl))
theorem b205_33 (l1 : Int32) (l2 : Int32) (l3 : Int32) (l4 : ma_V) : rn xs L 205 33 [vR 44, vI l1, vI l2, vI l3, l4] [] (mw f a g) = some (some (vI (0 : Int32)), (mw f a g)) :=
  (r_con (pg_of mt_205 dX6_act_33 rfl) (v2 := (0 : Int32)) (by decide)).trans <|
  (r_ri (pg_of mt_205 dX6_act_34 rfl) mt_205 rfl)
theorem b205_35 (l1 : Int32) (l2 : Int32) (l3 : Int32) (l4 : ma_V) (h1 : ma_in l1 4 = true) : rn xs L 205 35 [vR 44, vI l1, vI l2, vI l3, l4] [] (mw f a g) = (ev xs L 142 3 [vR 44, vI (a 56 l1.toNatClampNeg), vI (0 : Int32)] (mw ((ma_u2 f 44 26 ((0 : Int32)))) a g)).bind (fun b => rn xs L 205 52 [vR 44, vI l1, vI l2, vI l3, l4] (b.1.toList ++ [vR 44]) b.2) :=
  (r_ald (pg_of mt_205 dX6_act_35 rfl) rfl).trans <|
  (r_con (pg_of mt_205 dX6_act_36 rfl) (v2 := (0 : Int32)) (by decide)).trans <|
  (r_pti (pg_of mt_205 dX6_act_37 rfl) rfl (by decide)).trans <|
  (r_ald (pg_of mt_205 dX6_act_40 rfl) rfl).trans <|
  (r_ald (pg_of mt_205 dX6_act_41 rfl) rfl).trans <|
  (r_ald (pg_of mt_205 dX6_act_42 rfl) rfl).trans <|
  (r_gtr (a := 56) (pg_of mt_205 dX6_act_43 rfl) rfl rfl).trans <|
  (r_ild (pg_of mt_205 dX6_act_46 rfl) rfl).trans <|
  (r_iald (pg_of mt_205 dX6_act_47 rfl) rfl h1).trans <|
  (r_con (pg_of mt_205 dX6_act_48 rfl) (v2 := (0 : Int32)) (by decide)).trans <|
  (r_call (t := tt_205) (t2 := tt_142) (pg_of mt_205 dX6_act_49 rfl) mt_205 mt_142 rfl rfl (rcv1 rfl) rfl rfl)
theorem b205_52 (l1 : Int32) (l2 : Int32) (l3 : Int32) (l4 : ma_V) (s0 : Int32) (h1 : ma_in l1 4 = true) (h2 : ma_in l1 4 = true) : rn xs L 205 52 [vR 44, vI l1, vI l2, vI l3, l4] [vI s0, vR 44] (mw f a g) = (ev xs L 142 3 [vR 44, vI (a 56 l1.toNatClampNeg), vI (3 : Int32)] (mw ((ma_u2 ((ma_u2 f 44 23 s0)) 44 24 ((a 56 l1.toNatClampNeg)))) a g)).bind (fun b => rn xs L 205 77 [vR 44, vI l1, vI l2, vI l3, l4] (b.1.toList ++ [vR 44]) b.2) :=
  (r_pti (pg_of mt_205 dX6_act_52 rfl) rfl rfl).trans <|
  (r_ald (pg_of mt_205 dX6_act_55 rfl) rfl).trans <|
  (r_ald (pg_of mt_205 dX6_act_56 rfl) rfl).trans <|
  (r_gtr (a := 56) (pg_of mt_205 dX6_act_57 rfl) rfl rfl).trans <|
  (r_ild (pg_of mt_205 dX6_act_60 rfl) rfl).trans <|
  (r_iald (pg_of mt_205 dX6_act_61 rfl) rfl h1).trans <|
  (r_pti (pg_of mt_205 dX6_act_62 rfl) rfl rfl).trans <|
  (r_ald (pg_of mt_205 dX6_act_65 rfl) rfl).trans <|
  (r_ald (pg_of mt_205 dX6_act_66 rfl) rfl).trans <|
  (r_ald (pg_of mt_205 dX6_act_67 rfl) rfl).trans <|
  (r_gtr (a := 56) (pg_of mt_205 dX6_act_68 rfl) rfl rfl).trans <|
  (r_ild (pg_of mt_205 dX6_act_71 rfl) rfl).trans <|
  (r_iald (pg_of mt_205 dX6_act_72 rfl) rfl h2).trans <|
  (r_con (pg_of mt_205 dX6_act_73 rfl) (v2 := (3 : Int32)) (by decide)).trans <|
  (r_call (t := tt_205) (t2 := tt_142) (pg_of mt_205 dX6_act_74 rfl) mt_205 mt_142 rfl rfl (rcv1 rfl) rfl rfl)
theorem b205_77 (l1 : Int32) (l2 : Int32) (l3 : Int32) (l4 : ma_V) (s0 : Int32) : rn xs L 205 77 [vR 44, vI l1, vI l2, vI l3, l4] [vI s0, vR 44] (mw f a g) = if l2 = 0 then rn xs L 205 84 [vR 44, vI l1, vI l2, vI l3, l4] [] (mw ((ma_u2 f 44 25 s0)) a g) else rn xs L 205 92 [vR 44, vI l1, vI l2, vI l3, l4] [] (mw ((ma_u2 f 44 25 s0)) a g) :=
  (r_pti (pg_of mt_205 dX6_act_77 rfl) rfl rfl).trans <|
  (r_ild (pg_of mt_205 dX6_act_80 rfl) rfl).trans <|
  (r_ne0 (pg_of mt_205 dX6_act_81 rfl))
theorem b205_84 (l1 : Int32) (l2 : Int32) (l3 : Int32) (l4 : ma_V) : rn xs L 205 84 [vR 44, vI l1, vI l2, vI l3, l4] [] (mw f a g) = (ev xs L 206 2 [vR 44, vI l3] (mw f a g)).bind (fun b => rn xs L 205 89 [vR 44, vI l1, vI l2, vI l3, l4] (b.1.toList ++ []) b.2) :=
  (r_ald (pg_of mt_205 dX6_act_84 rfl) rfl).trans <|
  (r_ild (pg_of mt_205 dX6_act_85 rfl) rfl).trans <|
  (r_call (t := tt_205) (t2 := tt_206) (pg_of mt_205 dX6_act_86 rfl) mt_205 mt_206 rfl rfl (rcv1 rfl) rfl rfl)
theorem b205_89 (l1 : Int32) (l2 : Int32) (l3 : Int32) (l4 : ma_V) (s0 : Int32) : rn xs L 205 89 [vR 44, vI l1, vI l2, vI l3, l4] [vI s0] (mw f a g) = if (f 44 26) = 0 then rn xs L 205 137 [vR 44, vI l1, vI l2, vI l3, vI s0] [] (mw f a g) else rn xs L 205 132 [vR 44, vI l1, vI l2, vI l3, vI s0] [] (mw f a g) :=
  (r_gto (pg_of mt_205 dX6_act_89 rfl)).trans <|
  (r_ist (pg_of mt_205 dX6_act_123 rfl) (Nat.le_of_ble_eq_true rfl) rfl).trans <|
  (r_ald (pg_of mt_205 dX6_act_125 rfl) rfl).trans <|
  (r_gti (pg_of mt_205 dX6_act_126 rfl) rfl).trans <|
  (r_eq0 (pg_of mt_205 dX6_act_129 rfl))
theorem b205_92 (l1 : Int32) (l2 : Int32) (l3 : Int32) (l4 : ma_V) : rn xs L 205 92 [vR 44, vI l1, vI l2, vI l3, l4] [] (mw f a g) = if l2 = (1 : Int32) then rn xs L 205 97 [vR 44, vI l1, vI l2, vI l3, l4] [] (mw f a g) else rn xs L 205 105 [vR 44, vI l1, vI l2, vI l3, l4] [] (mw f a g) :=
  (r_ild (pg_of mt_205 dX6_act_92 rfl) rfl).trans <|
  (r_con (pg_of mt_205 dX6_act_93 rfl) (v2 := (1 : Int32)) (by decide)).trans <|
  (r_ne (pg_of mt_205 dX6_act_94 rfl))
theorem b205_97 (l1 : Int32) (l2 : Int32) (l3 : Int32) (l4 : ma_V) : rn xs L 205 97 [vR 44, vI l1, vI l2, vI l3, l4] [] (mw f a g) = (ev xs L 210 3 [vR 44, vI l3] (mw f a g)).bind (fun b => rn xs L 205 102 [vR 44, vI l1, vI l2, vI l3, l4] (b.1.toList ++ []) b.2) :=
  (r_ald (pg_of mt_205 dX6_act_97 rfl) rfl).trans <|
  (r_ild (pg_of mt_205 dX6_act_98 rfl) rfl).trans <|
  (r_call (t := tt_205) (t2 := tt_210) (pg_of mt_205 dX6_act_99 rfl) mt_205 mt_210 rfl rfl (rcv1 rfl) rfl rfl)
theorem b205_102 (l1 : Int32) (l2 : Int32) (l3 : Int32) (l4 : ma_V) (s0 : Int32) : rn xs L 205 102 [vR 44, vI l1, vI l2, vI l3, l4] [vI s0] (mw f a g) = if (f 44 26) = 0 then rn xs L 205 137 [vR 44, vI l1, vI l2, vI l3, vI s0] [] (mw f a g) else rn xs L 205 132 [vR 44, vI l1, vI l2, vI l3, vI s0] [] (mw f a g) :=
  (r_gto (pg_of mt_205 dX6_act_102 rfl)).trans <|
  (r_ist (pg_of mt_205 dX6_act_123 rfl) (Nat.le_of_ble_eq_true rfl) rfl).trans <|
  (r_ald (pg_of mt_205 dX6_act_125 rfl) rfl).trans <|
  (r_gti (pg_of mt_205 dX6_act_126 rfl) rfl).trans <|
  (r_eq0 (pg_of mt_205 dX6_act_129 rfl))
theorem b205_105 (l1 : Int32) (l2 : Int32) (l3 : Int32) (l4 : ma_V) : rn xs L 205 105 [vR 44, vI l1, vI l2, vI l3, l4] [] (mw f a g) = if l2 = (2 : Int32) then rn xs L 205 110 [vR 44, vI l1, vI l2, vI l3, l4] [] (mw f a g) else rn xs L 205 118 [vR 44, vI l1, vI l2, vI l3, l4] [] (mw f a g) :=
  (r_ild (pg_of mt_205 dX6_act_105 rfl) rfl).trans <|
  (r_con (pg_of mt_205 dX6_act_106 rfl) (v2 := (2 : Int32)) (by decide)).trans <|
  (r_ne (pg_of mt_205 dX6_act_107 rfl))
theorem b205_110 (l1 : Int32) (l2 : Int32) (l3 : Int32) (l4 : ma_V) : rn xs L 205 110 [vR 44, vI l1, vI l2, vI l3, l4] [] (mw f a g) = (ev xs L 212 3 [vR 44, vI l3] (mw f a g)).bind (fun b => rn xs L 205 115 [vR 44, vI l1, vI l2, vI l3, l4] (b.1.toList ++ []) b.2) :=
  (r_ald (pg_of mt_205 dX6_act_110 rfl) rfl).trans <|
  (r_ild (pg_of mt_205 dX6_act_111 rfl) rfl).trans <|
  (r_call (t := tt_205) (t2 := tt_212) (pg_of mt_205 dX6_act_112 rfl) mt_205 mt_212 rfl rfl (rcv1 rfl) rfl rfl)
theorem b205_115 (l1 : Int32) (l2 : Int32) (l3 : Int32) (l4 : ma_V) (s0 : Int32) : rn xs L 205 115 [vR 44, vI l1, vI l2, vI l3, l4] [vI s0] (mw f a g) = if (f 44 26) = 0 then rn xs L 205 137 [vR 44, vI l1, vI l2, vI l3, vI s0] [] (mw f a g) else rn xs L 205 132 [vR 44, vI l1, vI l2, vI l3, vI s0] [] (mw f a g) :=
  (r_gto (pg_of mt_205 dX6_act_115 rfl)).trans <|
  (r_ist (pg_of mt_205 dX6_act_123 rfl) (Nat.le_of_ble_eq_true rfl) rfl).trans <|
  (r_ald (pg_of mt_205 dX6_act_125 rfl) rfl).trans <|
  (r_gti (pg_of mt_205 dX6_act_126 rfl) rfl).trans <|
  (r_eq0 (pg_of mt_205 dX6_act_129 rfl))
theorem b205_118 (l1 : Int32) (l2 : Int32) (l3 : Int32) (l4 : ma_V) : rn xs L 205 118 [vR 44, vI l1, vI l2, vI l3, l4] [] (mw f a g) = (ev xs L 214 3 [vR 44, vI l3] (mw f a g)).bind (fun b => rn xs L 205 123 [vR 44, vI l1, vI l2, vI l3, l4] (b.1.toList ++ []) b.2) :=
  (r_ald (pg_of mt_205 dX6_act_118 rfl) rfl).trans <|
  (r_ild (pg_of mt_205 dX6_act_119 rfl) rfl).trans <|
  (r_call (t := tt_205) (t2 := tt_214) (pg_of mt_205 dX6_act_120 rfl) mt_205 mt_214 rfl rfl (rcv1 rfl) rfl rfl)
theorem b205_123 (l1 : Int32) (l2 : Int32) (l3 : Int32) (l4 : ma_V) (s0 : Int32) : rn xs L 205 123 [vR 44, vI l1, vI l2, vI l3, l4] [vI s0] (mw f a g) = if (f 44 26) = 0 then rn xs L 205 137 [vR 44, vI l1, vI l2, vI l3, vI s0] [] (mw f a g) else rn xs L 205 132 [vR 44, vI l1, vI l2, vI l3, vI s0] [] (mw f a g) :=
  (r_ist (pg_of mt_205 dX6_act_123 rfl) (Nat.le_of_ble_eq_true rfl) rfl).trans <|
  (r_ald (pg_of mt_205 dX6_act_125 rfl) rfl).trans <|
  (r_gti (pg_of mt_205 dX6_act_126 rfl) rfl).trans <|
  (r_eq0 (pg_of mt_205 dX6_act_129 rfl))
theorem b205_132 (l1 : Int32) (l2 : Int32) (l3 : Int32) (l4 : Int32) : rn xs L 205 132 [vR 44, vI l1, vI l2, vI l3, vI l4] [] (mw f a g) = some (some (vI (-15 : Int32)), (mw f a g)) :=
  (r_con (pg_of mt_205 dX6_act_132 rfl) (v2 := (-15 : Int32)) (by decide)).trans <|
  (r_gto (pg_of mt_205 dX6_act_134 rfl)).trans <|
  (r_ri (pg_of mt_205 dX6_act_139 rfl) mt_205 rfl)
theorem b205_137 (l1 : Int32) (l2 : Int32) (l3 : Int32) (l4 : Int32) : rn xs L 205 137 [vR 44, vI l1, vI l2, vI l3, vI l4] [] (mw f a g) = some (some (vI l4), (mw f a g)) :=
  (r_ild (pg_of mt_205 dX6_act_137 rfl) rfl).trans <|
  (r_ri (pg_of mt_205 dX6_act_139 rfl) mt_205 rfl)
-- 206 LeafFallsModel.turns(I)I
theorem sw206_4 {ls st : List ma_V} {w : ma_W} {x : Int32} : rn xs L 206 4 ls (vI x :: st) w = if x = 2 then rn xs L 206 32 ls st w else if x = 3 then rn xs L 206 52 ls st w else if x = 4 then rn xs L 206 38 ls st w else rn xs L 206 69 ls st w := by
  by_cases h0 : x = 2
  · rw [if_pos h0, h0]; exact r_swi (t := 32) (pg_of mt_206 dX6_turns_4 rfl) (by decide)
  rw [if_neg h0]
  by_cases h1 : x = 3
  · rw [if_pos h1, h1]; exact r_swi (t := 52) (pg_of mt_206 dX6_turns_4 rfl) (by decide)
  rw [if_neg h1]
  by_cases h2 : x = 4
  · rw [if_pos h2, h2]; exact r_swi (t := 38) (pg_of mt_206 dX6_turns_4 rfl) (by decide)
  rw [if_neg h2]
  have e0 := i_nei (k := 2) (2 : Int32) (by decide) h0
  have e1 := i_nei (k := 3) (3 : Int32) (by decide) h1
  have e2 := i_nei (k := 4) (4 : Int32) (by decide) h2
  exact r_swi (t := 69) (pg_of mt_206 dX6_turns_4 rfl) (tsw_out (by omega) (by decide) (by decide))
theorem b206_0 (l1 : Int32) : rn xs L 206 0 [vR 44, vI l1] [] (mw f a g) = if (f 44 23) = 2 then rn xs L 206 32 [vR 44, vI l1] [] (mw f a g) else if (f 44 23) = 3 then rn xs L 206 52 [vR 44, vI l1] [] (mw f a g) else if (f 44 23) = 4 then rn xs L 206 38 [vR 44, vI l1] [] (mw f a g) else rn xs L 206 69 [vR 44, vI l1] [] (mw f a g) :=
  (r_ald (pg_of mt_206 dX6_turns_0 rfl) rfl).trans <|
  (r_gti (pg_of mt_206 dX6_turns_1 rfl) rfl).trans <|
  (sw206_4)
theorem b206_32 (l1 : Int32) : rn xs L 206 32 [vR 44, vI l1] [] (mw f a g) = (ev xs L 207 2 [vR 44, vI l1] (mw f a g)).bind (fun b => rn xs L 206 37 [vR 44, vI l1] (b.1.toList ++ []) b.2) :=
  (r_ald (pg_of mt_206 dX6_turns_32 rfl) rfl).trans <|
  (r_ild (pg_of mt_206 dX6_turns_33 rfl) rfl).trans <|
  (r_call (t := tt_206) (t2 := tt_207) (pg_of mt_206 dX6_turns_34 rfl) mt_206 mt_207 rfl rfl (rcv1 rfl) rfl rfl)
theorem b206_37 (l1 : Int32) (s0 : Int32) : rn xs L 206 37 [vR 44, vI l1] [vI s0] (mw f a g) = some (some (vI s0), (mw f a g)) :=
  (r_ri (pg_of mt_206 dX6_turns_37 rfl) mt_206 rfl)
theorem b206_38 (l1 : Int32) : rn xs L 206 38 [vR 44, vI l1] [] (mw f a g) = (ev xs L 208 2 [vR 44, vI (40 : Int32)] (mw f a g)).bind (fun b => rn xs L 206 44 [vR 44, vI l1] (b.1.toList ++ []) b.2) :=
  (r_ald (pg_of mt_206 dX6_turns_38 rfl) rfl).trans <|
  (r_con (pg_of mt_206 dX6_turns_39 rfl) (v2 := (40 : Int32)) (by decide)).trans <|
  (r_call (t := tt_206) (t2 := tt_208) (pg_of mt_206 dX6_turns_41 rfl) mt_206 mt_208 rfl rfl (rcv1 rfl) rfl rfl)
theorem b206_44 (l1 : Int32) : rn xs L 206 44 [vR 44, vI l1] [] (mw f a g) = (ev xs L 207 2 [vR 44, vI l1] (mw f a g)).bind (fun b => rn xs L 206 49 [vR 44, vI l1] (b.1.toList ++ []) b.2) :=
  (r_ald (pg_of mt_206 dX6_turns_44 rfl) rfl).trans <|
  (r_ild (pg_of mt_206 dX6_turns_45 rfl) rfl).trans <|
  (r_call (t := tt_206) (t2 := tt_207) (pg_of mt_206 dX6_turns_46 rfl) mt_206 mt_207 rfl rfl (rcv1 rfl) rfl rfl)
theorem b206_49 (l1 : Int32) (s0 : Int32) : rn xs L 206 49 [vR 44, vI l1] [vI s0] (mw f a g) = some (some (vI (s0 * (2 : Int32))), (mw f a g)) :=
  (r_con (pg_of mt_206 dX6_turns_49 rfl) (v2 := (2 : Int32)) (by decide)).trans <|
  (r_bin (pg_of mt_206 dX6_turns_50 rfl)).trans <|
  (r_ri (pg_of mt_206 dX6_turns_51 rfl) mt_206 rfl)
theorem b206_52 (l1 : Int32) : rn xs L 206 52 [vR 44, vI l1] [] (mw f a g) = (ev xs L 208 2 [vR 44, vI (51 : Int32)] (mw f a g)).bind (fun b => rn xs L 206 58 [vR 44, vI l1] (b.1.toList ++ []) b.2) :=
  (r_ald (pg_of mt_206 dX6_turns_52 rfl) rfl).trans <|
  (r_con (pg_of mt_206 dX6_turns_53 rfl) (v2 := (51 : Int32)) (by decide)).trans <|
  (r_call (t := tt_206) (t2 := tt_208) (pg_of mt_206 dX6_turns_55 rfl) mt_206 mt_208 rfl rfl (rcv1 rfl) rfl rfl)
theorem b206_58 (l1 : Int32) : rn xs L 206 58 [vR 44, vI l1] [] (mw f a g) = (ev xs L 209 2 [vR 44, vI l1] (mw f a g)).bind (fun b => rn xs L 206 63 [vR 44, vI l1] (b.1.toList ++ []) b.2) :=
  (r_ald (pg_of mt_206 dX6_turns_58 rfl) rfl).trans <|
  (r_ild (pg_of mt_206 dX6_turns_59 rfl) rfl).trans <|
  (r_call (t := tt_206) (t2 := tt_209) (pg_of mt_206 dX6_turns_60 rfl) mt_206 mt_209 rfl rfl (rcv1 rfl) rfl rfl)
theorem b206_63 (l1 : Int32) (s0 : Int32) : rn xs L 206 63 [vR 44, vI l1] [vI s0] (mw f a g) = some (some (vI (s0 + (f 44 25))), (mw f a g)) :=
  (r_ald (pg_of mt_206 dX6_turns_63 rfl) rfl).trans <|
  (r_gti (pg_of mt_206 dX6_turns_64 rfl) rfl).trans <|
  (r_bin (pg_of mt_206 dX6_turns_67 rfl)).trans <|
  (r_ri (pg_of mt_206 dX6_turns_68 rfl) mt_206 rfl)
theorem b206_69 (l1 : Int32) : rn xs L 206 69 [vR 44, vI l1] [] (mw f a g) = (ev xs L 209 2 [vR 44, vI l1] (mw f a g)).bind (fun b => rn xs L 206 74 [vR 44, vI l1] (b.1.toList ++ []) b.2) :=
  (r_ald (pg_of mt_206 dX6_turns_69 rfl) rfl).trans <|
  (r_ild (pg_of mt_206 dX6_turns_70 rfl) rfl).trans <|
  (r_call (t := tt_206) (t2 := tt_209) (pg_of mt_206 dX6_turns_71 rfl) mt_206 mt_209 rfl rfl (rcv1 rfl) rfl rfl)
theorem b206_74 (l1 : Int32) (s0 : Int32) : rn xs L 206 74 [vR 44, vI l1] [vI s0] (mw f a g) = some (some (vI s0), (mw f a g)) :=
  (r_ri (pg_of mt_206 dX6_turns_74 rfl) mt_206 rfl)
-- 207 LeafFallsModel.turnsOfYellow(I)I
theorem b207_0 (l1 : Int32) : rn xs L 207 0 [vR 44, vI l1] [] (mw f a g) = (ev xs L 208 2 [vR 44, vI (30 : Int32)] (mw f a g)).bind (fun b => rn xs L 207 6 [vR 44, vI l1] (b.1.toList ++ []) b.2) :=
  (r_ald (pg_of mt_207 dX6_turnsOfYellow_0 rfl) rfl).trans <|
  (r_con (pg_of mt_207 dX6_turnsOfYellow_1 rfl) (v2 := (30 : Int32)) (by decide)).trans <|
  (r_call (t := tt_207) (t2 := tt_208) (pg_of mt_207 dX6_turnsOfYellow_3 rfl) mt_207 mt_208 rfl rfl (rcv1 rfl) rfl rfl)
theorem b207_6 (l1 : Int32) : rn xs L 207 6 [vR 44, vI l1] [] (mw f a g) = (ev xs L 209 2 [vR 44, vI l1] (mw f a g)).bind (fun b => rn xs L 207 11 [vR 44, vI l1] (b.1.toList ++ []) b.2) :=
  (r_ald (pg_of mt_207 dX6_turnsOfYellow_6 rfl) rfl).trans <|
  (r_ild (pg_of mt_207 dX6_turnsOfYellow_7 rfl) rfl).trans <|
  (r_call (t := tt_207) (t2 := tt_209) (pg_of mt_207 dX6_turnsOfYellow_8 rfl) mt_207 mt_209 rfl rfl (rcv1 rfl) rfl rfl)
theorem b207_11 (l1 : Int32) (s0 : Int32) : rn xs L 207 11 [vR 44, vI l1] [vI s0] (mw f a g) = some (some (vI (s0 ^^^ (1 : Int32))), (mw f a g)) :=
  (r_con (pg_of mt_207 dX6_turnsOfYellow_11 rfl) (v2 := (1 : Int32)) (by decide)).trans <|
  (r_bin (pg_of mt_207 dX6_turnsOfYellow_12 rfl)).trans <|
  (r_ri (pg_of mt_207 dX6_turnsOfYellow_13 rfl) mt_207 rfl)
-- 208 LeafFallsModel.runs(I)V
theorem b208_0 (l1 : Int32) : rn xs L 208 0 [vR 44, vI l1] [] (mw f a g) = if (f 44 22) < (30 : Int32) then rn xs L 208 9 [vR 44, vI l1] [] (mw f a g) else rn xs L 208 29 [vR 44, vI l1] [] (mw f a g) :=
  (r_ald (pg_of mt_208 dX6_runs_0 rfl) rfl).trans <|
  (r_gti (pg_of mt_208 dX6_runs_1 rfl) rfl).trans <|
  (r_con (pg_of mt_208 dX6_runs_4 rfl) (v2 := (30 : Int32)) (by decide)).trans <|
  (r_ge (pg_of mt_208 dX6_runs_6 rfl))
theorem b208_9 (l1 : Int32) (h1 : ma_in ((f 44 22)) 30 = true) : rn xs L 208 9 [vR 44, vI l1] [] (mw f a g) = some (none, (mw ((ma_u2 f 44 22 (((f 44 22) + (1 : Int32))))) ((ma_u2 a 58 ((f 44 22)).toNatClampNeg l1)) g)) :=
  (r_ald (pg_of mt_208 dX6_runs_9 rfl) rfl).trans <|
  (r_gtr (a := 58) (pg_of mt_208 dX6_runs_10 rfl) rfl rfl).trans <|
  (r_ald (pg_of mt_208 dX6_runs_13 rfl) rfl).trans <|
  (r_gti (pg_of mt_208 dX6_runs_14 rfl) rfl).trans <|
  (r_ild (pg_of mt_208 dX6_runs_17 rfl) rfl).trans <|
  (r_iast (pg_of mt_208 dX6_runs_18 rfl) rfl h1).trans <|
  (r_ald (pg_of mt_208 dX6_runs_19 rfl) rfl).trans <|
  (r_dup (pg_of mt_208 dX6_runs_20 rfl) rfl).trans <|
  (r_gti (pg_of mt_208 dX6_runs_21 rfl) rfl).trans <|
  (r_con (pg_of mt_208 dX6_runs_24 rfl) (v2 := (1 : Int32)) (by decide)).trans <|
  (r_bin (pg_of mt_208 dX6_runs_25 rfl)).trans <|
  (r_pti (pg_of mt_208 dX6_runs_26 rfl) rfl rfl).trans <|
  (r_rv (pg_of mt_208 dX6_runs_29 rfl) mt_208 rfl)
theorem b208_29 (l1 : Int32) : rn xs L 208 29 [vR 44, vI l1] [] (mw f a g) = some (none, (mw f a g)) :=
  (r_rv (pg_of mt_208 dX6_runs_29 rfl) mt_208 rfl)
-- 209 LeafFallsModel.turnsPlain(I)I
theorem b209_0 (l1 : Int32) : rn xs L 209 0 [vR 44, vI l1] [] (mw f a g) = (ev xs L 208 2 [vR 44, vI (10 : Int32)] (mw f a g)).bind (fun b => rn xs L 209 6 [vR 44, vI l1] (b.1.toList ++ []) b.2) :=
  (r_ald (pg_of mt_209 dX6_turnsPlain_0 rfl) rfl).trans <|
  (r_con (pg_of mt_209 dX6_turnsPlain_1 rfl) (v2 := (10 : Int32)) (by decide)).trans <|
  (r_call (t := tt_209) (t2 := tt_208) (pg_of mt_209 dX6_turnsPlain_3 rfl) mt_209 mt_208 rfl rfl (rcv1 rfl) rfl rfl)
theorem b209_6 (l1 : Int32) : rn xs L 209 6 [vR 44, vI l1] [] (mw f a g) = some (some (vI ((l1 * (2 : Int32)) + ((f 44 24) * (5 : Int32)))), (mw f a g)) :=
  (r_ild (pg_of mt_209 dX6_turnsPlain_6 rfl) rfl).trans <|
  (r_con (pg_of mt_209 dX6_turnsPlain_7 rfl) (v2 := (2 : Int32)) (by decide)).trans <|
  (r_bin (pg_of mt_209 dX6_turnsPlain_8 rfl)).trans <|
  (r_ald (pg_of mt_209 dX6_turnsPlain_9 rfl) rfl).trans <|
  (r_gti (pg_of mt_209 dX6_turnsPlain_10 rfl) rfl).trans <|
  (r_con (pg_of mt_209 dX6_turnsPlain_13 rfl) (v2 := (5 : Int32)) (by decide)).trans <|
  (r_bin (pg_of mt_209 dX6_turnsPlain_14 rfl)).trans <|
  (r_bin (pg_of mt_209 dX6_turnsPlain_15 rfl)).trans <|
  (r_ri (pg_of mt_209 dX6_turnsPlain_16 rfl) mt_209 rfl)
-- 210 LeafFallsModel.names(I)I
theorem b210_0 (l1 : Int32) (l2 : ma_V) : rn xs L 210 0 [vR 44, vI l1, l2] [] (mw f a g) = if (f 44 23) = (1 : Int32) then rn xs L 210 16 [vR 44, vI l1, l2] [] (mw f a g) else rn xs L 210 8 [vR 44, vI l1, l2] [] (mw f a g) :=
  (r_ald (pg_of mt_210 dX6_names_0 rfl) rfl).trans <|
  (r_gti (pg_of mt_210 dX6_names_1 rfl) rfl).trans <|
  (r_con (pg_of mt_210 dX6_names_4 rfl) (v2 := (1 : Int32)) (by decide)).trans <|
  (r_eq (pg_of mt_210 dX6_names_5 rfl))
theorem b210_8 (l1 : Int32) (l2 : ma_V) : rn xs L 210 8 [vR 44, vI l1, l2] [] (mw f a g) = if (f 44 23) = (3 : Int32) then rn xs L 210 16 [vR 44, vI l1, l2] [] (mw f a g) else rn xs L 210 31 [vR 44, vI l1, l2] [] (mw f a g) :=
  (r_ald (pg_of mt_210 dX6_names_8 rfl) rfl).trans <|
  (r_gti (pg_of mt_210 dX6_names_9 rfl) rfl).trans <|
  (r_con (pg_of mt_210 dX6_names_12 rfl) (v2 := (3 : Int32)) (by decide)).trans <|
  (r_ne (pg_of mt_210 dX6_names_13 rfl))
theorem b210_16 (l1 : Int32) (l2 : ma_V) : rn xs L 210 16 [vR 44, vI l1, l2] [] (mw f a g) = (ev xs L 208 2 [vR 44, vI (20 : Int32)] (mw f a g)).bind (fun b => rn xs L 210 22 [vR 44, vI l1, l2] (b.1.toList ++ []) b.2) :=
  (r_ald (pg_of mt_210 dX6_names_16 rfl) rfl).trans <|
  (r_con (pg_of mt_210 dX6_names_17 rfl) (v2 := (20 : Int32)) (by decide)).trans <|
  (r_call (t := tt_210) (t2 := tt_208) (pg_of mt_210 dX6_names_19 rfl) mt_210 mt_208 rfl rfl (rcv1 rfl) rfl rfl)
theorem b210_22 (l1 : Int32) (l2 : ma_V) : rn xs L 210 22 [vR 44, vI l1, l2] [] (mw f a g) = (ev xs L 211 2 [vR 44, vI l1] (mw f a g)).bind (fun b => rn xs L 210 27 [vR 44, vI l1, l2] (b.1.toList ++ []) b.2) :=
  (r_ald (pg_of mt_210 dX6_names_22 rfl) rfl).trans <|
  (r_ild (pg_of mt_210 dX6_names_23 rfl) rfl).trans <|
  (r_call (t := tt_210) (t2 := tt_211) (pg_of mt_210 dX6_names_24 rfl) mt_210 mt_211 rfl rfl (rcv1 rfl) rfl rfl)
theorem b210_27 (l1 : Int32) (l2 : ma_V) (s0 : Int32) : rn xs L 210 27 [vR 44, vI l1, l2] [vI s0] (mw f a g) = some (some (vI (s0 + (7 : Int32))), (mw f a g)) :=
  (r_con (pg_of mt_210 dX6_names_27 rfl) (v2 := (7 : Int32)) (by decide)).trans <|
  (r_bin (pg_of mt_210 dX6_names_29 rfl)).trans <|
  (r_ri (pg_of mt_210 dX6_names_30 rfl) mt_210 rfl)
theorem b210_31 (l1 : Int32) (l2 : ma_V) : rn xs L 210 31 [vR 44, vI l1, l2] [] (mw f a g) = if (f 44 23) = (4 : Int32) then rn xs L 210 39 [vR 44, vI l1, l2] [] (mw f a g) else rn xs L 210 62 [vR 44, vI l1, l2] [] (mw f a g) :=
  (r_ald (pg_of mt_210 dX6_names_31 rfl) rfl).trans <|
  (r_gti (pg_of mt_210 dX6_names_32 rfl) rfl).trans <|
  (r_con (pg_of mt_210 dX6_names_35 rfl) (v2 := (4 : Int32)) (by decide)).trans <|
  (r_ne (pg_of mt_210 dX6_names_36 rfl))
theorem b210_39 (l1 : Int32) (l2 : ma_V) : rn xs L 210 39 [vR 44, vI l1, l2] [] (mw f a g) = (ev xs L 208 2 [vR 44, vI (41 : Int32)] (mw f a g)).bind (fun b => rn xs L 210 45 [vR 44, vI l1, l2] (b.1.toList ++ []) b.2) :=
  (r_ald (pg_of mt_210 dX6_names_39 rfl) rfl).trans <|
  (r_con (pg_of mt_210 dX6_names_40 rfl) (v2 := (41 : Int32)) (by decide)).trans <|
  (r_call (t := tt_210) (t2 := tt_208) (pg_of mt_210 dX6_names_42 rfl) mt_210 mt_208 rfl rfl (rcv1 rfl) rfl rfl)
theorem b210_45 (l1 : Int32) (l2 : ma_V) : rn xs L 210 45 [vR 44, vI l1, l2] [] (mw f a g) = (ev xs L 211 2 [vR 44, vI l1] (mw f a g)).bind (fun b => rn xs L 210 50 [vR 44, vI l1, l2] (b.1.toList ++ []) b.2) :=
  (r_ald (pg_of mt_210 dX6_names_45 rfl) rfl).trans <|
  (r_ild (pg_of mt_210 dX6_names_46 rfl) rfl).trans <|
  (r_call (t := tt_210) (t2 := tt_211) (pg_of mt_210 dX6_names_47 rfl) mt_210 mt_211 rfl rfl (rcv1 rfl) rfl rfl)
theorem b210_50 (l1 : Int32) (l2 : ma_V) (s0 : Int32) : rn xs L 210 50 [vR 44, vI l1, l2] [vI s0] (mw f a g) = (ev xs L 206 2 [vR 44, vI (f 44 25)] (mw f a g)).bind (fun b => rn xs L 210 60 [vR 44, vI l1, vI s0] (b.1.toList ++ [vI s0]) b.2) :=
  (r_ist (pg_of mt_210 dX6_names_50 rfl) (Nat.le_of_ble_eq_true rfl) rfl).trans <|
  (r_ild (pg_of mt_210 dX6_names_51 rfl) rfl).trans <|
  (r_ald (pg_of mt_210 dX6_names_52 rfl) rfl).trans <|
  (r_ald (pg_of mt_210 dX6_names_53 rfl) rfl).trans <|
  (r_gti (pg_of mt_210 dX6_names_54 rfl) rfl).trans <|
  (r_call (t := tt_210) (t2 := tt_206) (pg_of mt_210 dX6_names_57 rfl) mt_210 mt_206 rfl rfl (rcv1 rfl) rfl rfl)
theorem b210_60 (l1 : Int32) (l2 : Int32) (s0 : Int32) (s1 : Int32) : rn xs L 210 60 [vR 44, vI l1, vI l2] [vI s0, vI s1] (mw f a g) = some (some (vI (s1 - s0)), (mw f a g)) :=
  (r_bin (pg_of mt_210 dX6_names_60 rfl)).trans <|
  (r_ri (pg_of mt_210 dX6_names_61 rfl) mt_210 rfl)
theorem b210_62 (l1 : Int32) (l2 : ma_V) : rn xs L 210 62 [vR 44, vI l1, l2] [] (mw f a g) = (ev xs L 211 2 [vR 44, vI l1] (mw f a g)).bind (fun b => rn xs L 210 67 [vR 44, vI l1, l2] (b.1.toList ++ []) b.2) :=
  (r_ald (pg_of mt_210 dX6_names_62 rfl) rfl).trans <|
  (r_ild (pg_of mt_210 dX6_names_63 rfl) rfl).trans <|
  (r_call (t := tt_210) (t2 := tt_211) (pg_of mt_210 dX6_names_64 rfl) mt_210 mt_211 rfl rfl (rcv1 rfl) rfl rfl)
theorem b210_67 (l1 : Int32) (l2 : ma_V) (s0 : Int32) : rn xs L 210 67 [vR 44, vI l1, l2] [vI s0] (mw f a g) = some (some (vI s0), (mw f a g)) :=
  (r_ri (pg_of mt_210 dX6_names_67 rfl) mt_210 rfl)
-- 211 LeafFallsModel.namesPlain(I)I
theorem b211_0 (l1 : Int32) : rn xs L 211 0 [vR 44, vI l1] [] (mw f a g) = (ev xs L 208 2 [vR 44, vI (11 : Int32)] (mw f a g)).bind (fun b => rn xs L 211 6 [vR 44, vI l1] (b.1.toList ++ []) b.2) :=
  (r_ald (pg_of mt_211 dX6_namesPlain_0 rfl) rfl).trans <|
  (r_con (pg_of mt_211 dX6_namesPlain_1 rfl) (v2 := (11 : Int32)) (by decide)).trans <|
  (r_call (t := tt_211) (t2 := tt_208) (pg_of mt_211 dX6_namesPlain_3 rfl) mt_211 mt_208 rfl rfl (rcv1 rfl) rfl rfl)
theorem b211_6 (l1 : Int32) : rn xs L 211 6 [vR 44, vI l1] [] (mw f a g) = (ev xs L 206 2 [vR 44, vI l1] (mw f a g)).bind (fun b => rn xs L 211 11 [vR 44, vI l1] (b.1.toList ++ []) b.2) :=
  (r_ald (pg_of mt_211 dX6_namesPlain_6 rfl) rfl).trans <|
  (r_ild (pg_of mt_211 dX6_namesPlain_7 rfl) rfl).trans <|
  (r_call (t := tt_211) (t2 := tt_206) (pg_of mt_211 dX6_namesPlain_8 rfl) mt_211 mt_206 rfl rfl (rcv1 rfl) rfl rfl)
theorem b211_11 (l1 : Int32) (s0 : Int32) : rn xs L 211 11 [vR 44, vI l1] [vI s0] (mw f a g) = some (some (vI (s0 - (f 44 25))), (mw f a g)) :=
  (r_ald (pg_of mt_211 dX6_namesPlain_11 rfl) rfl).trans <|
  (r_gti (pg_of mt_211 dX6_namesPlain_12 rfl) rfl).trans <|
  (r_bin (pg_of mt_211 dX6_namesPlain_15 rfl)).trans <|
  (r_ri (pg_of mt_211 dX6_namesPlain_16 rfl) mt_211 rfl)
-- 212 LeafFallsModel.parts(I)I
theorem b212_0 (l1 : Int32) (l2 : ma_V) : rn xs L 212 0 [vR 44, vI l1, l2] [] (mw f a g) = if (f 44 23) = (3 : Int32) then rn xs L 212 8 [vR 44, vI l1, l2] [] (mw f a g) else rn xs L 212 24 [vR 44, vI l1, l2] [] (mw f a g) :=
  (r_ald (pg_of mt_212 dX6_parts_0 rfl) rfl).trans <|
  (r_gti (pg_of mt_212 dX6_parts_1 rfl) rfl).trans <|
  (r_con (pg_of mt_212 dX6_parts_4 rfl) (v2 := (3 : Int32)) (by decide)).trans <|
  (r_ne (pg_of mt_212 dX6_parts_5 rfl))
theorem b212_8 (l1 : Int32) (l2 : ma_V) : rn xs L 212 8 [vR 44, vI l1, l2] [] (mw f a g) = (ev xs L 208 2 [vR 44, vI (50 : Int32)] (mw f a g)).bind (fun b => rn xs L 212 14 [vR 44, vI l1, l2] (b.1.toList ++ []) b.2) :=
  (r_ald (pg_of mt_212 dX6_parts_8 rfl) rfl).trans <|
  (r_con (pg_of mt_212 dX6_parts_9 rfl) (v2 := (50 : Int32)) (by decide)).trans <|
  (r_call (t := tt_212) (t2 := tt_208) (pg_of mt_212 dX6_parts_11 rfl) mt_212 mt_208 rfl rfl (rcv1 rfl) rfl rfl)
theorem b212_14 (l1 : Int32) (l2 : ma_V) : rn xs L 212 14 [vR 44, vI l1, l2] [] (mw f a g) = (ev xs L 213 2 [vR 44, vI (l1 + (3 : Int32))] (mw f a g)).bind (fun b => rn xs L 212 22 [vR 44, vI l1, l2] (b.1.toList ++ [vI (0 : Int32)]) b.2) :=
  (r_con (pg_of mt_212 dX6_parts_14 rfl) (v2 := (0 : Int32)) (by decide)).trans <|
  (r_ald (pg_of mt_212 dX6_parts_15 rfl) rfl).trans <|
  (r_ild (pg_of mt_212 dX6_parts_16 rfl) rfl).trans <|
  (r_con (pg_of mt_212 dX6_parts_17 rfl) (v2 := (3 : Int32)) (by decide)).trans <|
  (r_bin (pg_of mt_212 dX6_parts_18 rfl)).trans <|
  (r_call (t := tt_212) (t2 := tt_213) (pg_of mt_212 dX6_parts_19 rfl) mt_212 mt_213 rfl rfl (rcv1 rfl) rfl rfl)
theorem b212_22 (l1 : Int32) (l2 : ma_V) (s0 : Int32) (s1 : Int32) : rn xs L 212 22 [vR 44, vI l1, l2] [vI s0, vI s1] (mw f a g) = some (some (vI (s1 - s0)), (mw f a g)) :=
  (r_bin (pg_of mt_212 dX6_parts_22 rfl)).trans <|
  (r_ri (pg_of mt_212 dX6_parts_23 rfl) mt_212 rfl)
theorem b212_24 (l1 : Int32) (l2 : ma_V) : rn xs L 212 24 [vR 44, vI l1, l2] [] (mw f a g) = if (f 44 23) = (5 : Int32) then rn xs L 212 32 [vR 44, vI l1, l2] [] (mw f a g) else rn xs L 212 66 [vR 44, vI l1, l2] [] (mw f a g) :=
  (r_ald (pg_of mt_212 dX6_parts_24 rfl) rfl).trans <|
  (r_gti (pg_of mt_212 dX6_parts_25 rfl) rfl).trans <|
  (r_con (pg_of mt_212 dX6_parts_28 rfl) (v2 := (5 : Int32)) (by decide)).trans <|
  (r_ne (pg_of mt_212 dX6_parts_29 rfl))
theorem b212_32 (l1 : Int32) (l2 : ma_V) : rn xs L 212 32 [vR 44, vI l1, l2] [] (mw f a g) = (ev xs L 208 2 [vR 44, vI (61 : Int32)] (mw f a g)).bind (fun b => rn xs L 212 38 [vR 44, vI l1, l2] (b.1.toList ++ []) b.2) :=
  (r_ald (pg_of mt_212 dX6_parts_32 rfl) rfl).trans <|
  (r_con (pg_of mt_212 dX6_parts_33 rfl) (v2 := (61 : Int32)) (by decide)).trans <|
  (r_call (t := tt_212) (t2 := tt_208) (pg_of mt_212 dX6_parts_35 rfl) mt_212 mt_208 rfl rfl (rcv1 rfl) rfl rfl)
theorem b212_38 (l1 : Int32) (l2 : ma_V) : rn xs L 212 38 [vR 44, vI l1, l2] [] (mw f a g) = (ev xs L 213 2 [vR 44, vI l1] (mw f a g)).bind (fun b => rn xs L 212 43 [vR 44, vI l1, l2] (b.1.toList ++ []) b.2) :=
  (r_ald (pg_of mt_212 dX6_parts_38 rfl) rfl).trans <|
  (r_ild (pg_of mt_212 dX6_parts_39 rfl) rfl).trans <|
  (r_call (t := tt_212) (t2 := tt_213) (pg_of mt_212 dX6_parts_40 rfl) mt_212 mt_213 rfl rfl (rcv1 rfl) rfl rfl)
theorem b212_43 (l1 : Int32) (l2 : ma_V) (s0 : Int32) : rn xs L 212 43 [vR 44, vI l1, l2] [vI s0] (mw f a g) = if (f 44 26) = 0 then rn xs L 212 55 [vR 44, vI l1, vI s0] [] (mw f a g) else rn xs L 212 51 [vR 44, vI l1, vI s0] [] (mw f a g) :=
  (r_ist (pg_of mt_212 dX6_parts_43 rfl) (Nat.le_of_ble_eq_true rfl) rfl).trans <|
  (r_ald (pg_of mt_212 dX6_parts_44 rfl) rfl).trans <|
  (r_gti (pg_of mt_212 dX6_parts_45 rfl) rfl).trans <|
  (r_eq0 (pg_of mt_212 dX6_parts_48 rfl))
theorem b212_51 (l1 : Int32) (l2 : Int32) : rn xs L 212 51 [vR 44, vI l1, vI l2] [] (mw f a g) = some (some (vI (0 : Int32)), (mw f a g)) :=
  (r_con (pg_of mt_212 dX6_parts_51 rfl) (v2 := (0 : Int32)) (by decide)).trans <|
  (r_gto (pg_of mt_212 dX6_parts_52 rfl)).trans <|
  (r_ri (pg_of mt_212 dX6_parts_65 rfl) mt_212 rfl)
theorem b212_55 (l1 : Int32) (l2 : Int32) : rn xs L 212 55 [vR 44, vI l1, vI l2] [] (mw f a g) = (ev xs L 206 2 [vR 44, vI (f 44 24)] (mw f a g)).bind (fun b => rn xs L 212 64 [vR 44, vI l1, vI l2] (b.1.toList ++ [vI l2]) b.2) :=
  (r_ild (pg_of mt_212 dX6_parts_55 rfl) rfl).trans <|
  (r_ald (pg_of mt_212 dX6_parts_56 rfl) rfl).trans <|
  (r_ald (pg_of mt_212 dX6_parts_57 rfl) rfl).trans <|
  (r_gti (pg_of mt_212 dX6_parts_58 rfl) rfl).trans <|
  (r_call (t := tt_212) (t2 := tt_206) (pg_of mt_212 dX6_parts_61 rfl) mt_212 mt_206 rfl rfl (rcv1 rfl) rfl rfl)
theorem b212_64 (l1 : Int32) (l2 : Int32) (s0 : Int32) (s1 : Int32) : rn xs L 212 64 [vR 44, vI l1, vI l2] [vI s0, vI s1] (mw f a g) = some (some (vI (s1 + s0)), (mw f a g)) :=
  (r_bin (pg_of mt_212 dX6_parts_64 rfl)).trans <|
  (r_ri (pg_of mt_212 dX6_parts_65 rfl) mt_212 rfl)
theorem b212_66 (l1 : Int32) (l2 : ma_V) : rn xs L 212 66 [vR 44, vI l1, l2] [] (mw f a g) = (ev xs L 213 2 [vR 44, vI l1] (mw f a g)).bind (fun b => rn xs L 212 71 [vR 44, vI l1, l2] (b.1.toList ++ []) b.2) :=
  (r_ald (pg_of mt_212 dX6_parts_66 rfl) rfl).trans <|
  (r_ild (pg_of mt_212 dX6_parts_67 rfl) rfl).trans <|
  (r_call (t := tt_212) (t2 := tt_213) (pg_of mt_212 dX6_parts_68 rfl) mt_212 mt_213 rfl rfl (rcv1 rfl) rfl rfl)
theorem b212_71 (l1 : Int32) (l2 : ma_V) (s0 : Int32) : rn xs L 212 71 [vR 44, vI l1, l2] [vI s0] (mw f a g) = some (some (vI s0), (mw f a g)) :=
  (r_ri (pg_of mt_212 dX6_parts_71 rfl) mt_212 rfl)
-- 213 LeafFallsModel.partsPlain(I)I
theorem b213_0 (l1 : Int32) : rn xs L 213 0 [vR 44, vI l1] [] (mw f a g) = (ev xs L 208 2 [vR 44, vI (12 : Int32)] (mw f a g)).bind (fun b => rn xs L 213 6 [vR 44, vI l1] (b.1.toList ++ []) b.2) :=
  (r_ald (pg_of mt_213 dX6_partsPlain_0 rfl) rfl).trans <|
  (r_con (pg_of mt_213 dX6_partsPlain_1 rfl) (v2 := (12 : Int32)) (by decide)).trans <|
  (r_call (t := tt_213) (t2 := tt_208) (pg_of mt_213 dX6_partsPlain_3 rfl) mt_213 mt_208 rfl rfl (rcv1 rfl) rfl rfl)
theorem b213_6 (l1 : Int32) : rn xs L 213 6 [vR 44, vI l1] [] (mw f a g) = if (f 44 26) = 0 then rn xs L 213 14 [vR 44, vI l1] [vR 44] (mw f a g) else rn xs L 213 25 [vR 44, vI l1] [vR 44] (mw f a g) :=
  (r_ald (pg_of mt_213 dX6_partsPlain_6 rfl) rfl).trans <|
  (r_ald (pg_of mt_213 dX6_partsPlain_7 rfl) rfl).trans <|
  (r_gti (pg_of mt_213 dX6_partsPlain_8 rfl) rfl).trans <|
  (r_ne0 (pg_of mt_213 dX6_partsPlain_11 rfl))
theorem b213_14 (l1 : Int32) : rn xs L 213 14 [vR 44, vI l1] [vR 44] (mw f a g) = if (f 44 24) = (f 44 25) then rn xs L 213 25 [vR 44, vI l1] [vR 44] (mw f a g) else rn xs L 213 29 [vR 44, vI l1] [vR 44] (mw f a g) :=
  (r_ald (pg_of mt_213 dX6_partsPlain_14 rfl) rfl).trans <|
  (r_gti (pg_of mt_213 dX6_partsPlain_15 rfl) rfl).trans <|
  (r_ald (pg_of mt_213 dX6_partsPlain_18 rfl) rfl).trans <|
  (r_gti (pg_of mt_213 dX6_partsPlain_19 rfl) rfl).trans <|
  (r_ne (pg_of mt_213 dX6_partsPlain_22 rfl))
theorem b213_25 (l1 : Int32) : rn xs L 213 25 [vR 44, vI l1] [vR 44] (mw f a g) = if (((ma_u2 f 44 26 ((1 : Int32)))) 44 26) = 0 then rn xs L 213 44 [vR 44, vI l1] [] (mw ((ma_u2 f 44 26 ((1 : Int32)))) a g) else rn xs L 213 40 [vR 44, vI l1] [] (mw ((ma_u2 f 44 26 ((1 : Int32)))) a g) :=
  (r_con (pg_of mt_213 dX6_partsPlain_25 rfl) (v2 := (1 : Int32)) (by decide)).trans <|
  (r_gto (pg_of mt_213 dX6_partsPlain_26 rfl)).trans <|
  (r_pti (pg_of mt_213 dX6_partsPlain_30 rfl) rfl (by decide)).trans <|
  (r_ald (pg_of mt_213 dX6_partsPlain_33 rfl) rfl).trans <|
  (r_gti (pg_of mt_213 dX6_partsPlain_34 rfl) rfl).trans <|
  (r_eq0 (pg_of mt_213 dX6_partsPlain_37 rfl))
theorem b213_29 (l1 : Int32) : rn xs L 213 29 [vR 44, vI l1] [vR 44] (mw f a g) = if (((ma_u2 f 44 26 ((0 : Int32)))) 44 26) = 0 then rn xs L 213 44 [vR 44, vI l1] [] (mw ((ma_u2 f 44 26 ((0 : Int32)))) a g) else rn xs L 213 40 [vR 44, vI l1] [] (mw ((ma_u2 f 44 26 ((0 : Int32)))) a g) :=
  (r_con (pg_of mt_213 dX6_partsPlain_29 rfl) (v2 := (0 : Int32)) (by decide)).trans <|
  (r_pti (pg_of mt_213 dX6_partsPlain_30 rfl) rfl (by decide)).trans <|
  (r_ald (pg_of mt_213 dX6_partsPlain_33 rfl) rfl).trans <|
  (r_gti (pg_of mt_213 dX6_partsPlain_34 rfl) rfl).trans <|
  (r_eq0 (pg_of mt_213 dX6_partsPlain_37 rfl))
theorem b213_40 (l1 : Int32) : rn xs L 213 40 [vR 44, vI l1] [] (mw f a g) = some (some (vI (0 : Int32)), (mw f a g)) :=
  (r_con (pg_of mt_213 dX6_partsPlain_40 rfl) (v2 := (0 : Int32)) (by decide)).trans <|
  (r_gto (pg_of mt_213 dX6_partsPlain_41 rfl)).trans <|
  (r_ri (pg_of mt_213 dX6_partsPlain_55 rfl) mt_213 rfl)
theorem b213_44 (l1 : Int32) (h1 : ¬ ((f 44 25) - (f 44 24)) = 0) : rn xs L 213 44 [vR 44, vI l1] [] (mw f a g) = some (some (vI (l1 / ((f 44 25) - (f 44 24)))), (mw f a g)) :=
  (r_ild (pg_of mt_213 dX6_partsPlain_44 rfl) rfl).trans <|
  (r_ald (pg_of mt_213 dX6_partsPlain_45 rfl) rfl).trans <|
  (r_gti (pg_of mt_213 dX6_partsPlain_46 rfl) rfl).trans <|
  (r_ald (pg_of mt_213 dX6_partsPlain_49 rfl) rfl).trans <|
  (r_gti (pg_of mt_213 dX6_partsPlain_50 rfl) rfl).trans <|
  (r_bin (pg_of mt_213 dX6_partsPlain_53 rfl)).trans <|
  (r_dvi (pg_of mt_213 dX6_partsPlain_54 rfl) h1).trans <|
  (r_ri (pg_of mt_213 dX6_partsPlain_55 rfl) mt_213 rfl)
-- 214 LeafFallsModel.lands(I)I
theorem b214_0 (l1 : Int32) (l2 : ma_V) : rn xs L 214 0 [vR 44, vI l1, l2] [] (mw f a g) = if (f 44 23) = (2 : Int32) then rn xs L 214 16 [vR 44, vI l1, l2] [] (mw f a g) else rn xs L 214 8 [vR 44, vI l1, l2] [] (mw f a g) :=
  (r_ald (pg_of mt_214 dX6_lands_0 rfl) rfl).trans <|
  (r_gti (pg_of mt_214 dX6_lands_1 rfl) rfl).trans <|
  (r_con (pg_of mt_214 dX6_lands_4 rfl) (v2 := (2 : Int32)) (by decide)).trans <|
  (r_eq (pg_of mt_214 dX6_lands_5 rfl))
theorem b214_8 (l1 : Int32) (l2 : ma_V) : rn xs L 214 8 [vR 44, vI l1, l2] [] (mw f a g) = if (f 44 23) = (4 : Int32) then rn xs L 214 16 [vR 44, vI l1, l2] [] (mw f a g) else rn xs L 214 39 [vR 44, vI l1, l2] [] (mw f a g) :=
  (r_ald (pg_of mt_214 dX6_lands_8 rfl) rfl).trans <|
  (r_gti (pg_of mt_214 dX6_lands_9 rfl) rfl).trans <|
  (r_con (pg_of mt_214 dX6_lands_12 rfl) (v2 := (4 : Int32)) (by decide)).trans <|
  (r_ne (pg_of mt_214 dX6_lands_13 rfl))
theorem b214_16 (l1 : Int32) (l2 : ma_V) : rn xs L 214 16 [vR 44, vI l1, l2] [] (mw f a g) = (ev xs L 208 2 [vR 44, vI (31 : Int32)] (mw f a g)).bind (fun b => rn xs L 214 22 [vR 44, vI l1, l2] (b.1.toList ++ []) b.2) :=
  (r_ald (pg_of mt_214 dX6_lands_16 rfl) rfl).trans <|
  (r_con (pg_of mt_214 dX6_lands_17 rfl) (v2 := (31 : Int32)) (by decide)).trans <|
  (r_call (t := tt_214) (t2 := tt_208) (pg_of mt_214 dX6_lands_19 rfl) mt_214 mt_208 rfl rfl (rcv1 rfl) rfl rfl)
theorem b214_22 (l1 : Int32) (l2 : ma_V) : rn xs L 214 22 [vR 44, vI l1, l2] [] (mw f a g) = (ev xs L 215 2 [vR 44, vI l1] (mw f a g)).bind (fun b => rn xs L 214 27 [vR 44, vI l1, l2] (b.1.toList ++ []) b.2) :=
  (r_ald (pg_of mt_214 dX6_lands_22 rfl) rfl).trans <|
  (r_ild (pg_of mt_214 dX6_lands_23 rfl) rfl).trans <|
  (r_call (t := tt_214) (t2 := tt_215) (pg_of mt_214 dX6_lands_24 rfl) mt_214 mt_215 rfl rfl (rcv1 rfl) rfl rfl)
theorem b214_27 (l1 : Int32) (l2 : ma_V) (s0 : Int32) : rn xs L 214 27 [vR 44, vI l1, l2] [vI s0] (mw f a g) = (ev xs L 212 3 [vR 44, vI (f 44 24)] (mw f a g)).bind (fun b => rn xs L 214 37 [vR 44, vI l1, vI s0] (b.1.toList ++ [vI s0]) b.2) :=
  (r_ist (pg_of mt_214 dX6_lands_27 rfl) (Nat.le_of_ble_eq_true rfl) rfl).trans <|
  (r_ild (pg_of mt_214 dX6_lands_28 rfl) rfl).trans <|
  (r_ald (pg_of mt_214 dX6_lands_29 rfl) rfl).trans <|
  (r_ald (pg_of mt_214 dX6_lands_30 rfl) rfl).trans <|
  (r_gti (pg_of mt_214 dX6_lands_31 rfl) rfl).trans <|
  (r_call (t := tt_214) (t2 := tt_212) (pg_of mt_214 dX6_lands_34 rfl) mt_214 mt_212 rfl rfl (rcv1 rfl) rfl rfl)
theorem b214_37 (l1 : Int32) (l2 : Int32) (s0 : Int32) (s1 : Int32) : rn xs L 214 37 [vR 44, vI l1, vI l2] [vI s0, vI s1] (mw f a g) = some (some (vI (s1 - s0)), (mw f a g)) :=
  (r_bin (pg_of mt_214 dX6_lands_37 rfl)).trans <|
  (r_ri (pg_of mt_214 dX6_lands_38 rfl) mt_214 rfl)
theorem b214_39 (l1 : Int32) (l2 : ma_V) : rn xs L 214 39 [vR 44, vI l1, l2] [] (mw f a g) = if (f 44 23) = (5 : Int32) then rn xs L 214 47 [vR 44, vI l1, l2] [] (mw f a g) else rn xs L 214 61 [vR 44, vI l1, l2] [] (mw f a g) :=
  (r_ald (pg_of mt_214 dX6_lands_39 rfl) rfl).trans <|
  (r_gti (pg_of mt_214 dX6_lands_40 rfl) rfl).trans <|
  (r_con (pg_of mt_214 dX6_lands_43 rfl) (v2 := (5 : Int32)) (by decide)).trans <|
  (r_ne (pg_of mt_214 dX6_lands_44 rfl))
theorem b214_47 (l1 : Int32) (l2 : ma_V) : rn xs L 214 47 [vR 44, vI l1, l2] [] (mw f a g) = (ev xs L 208 2 [vR 44, vI (60 : Int32)] (mw f a g)).bind (fun b => rn xs L 214 53 [vR 44, vI l1, l2] (b.1.toList ++ []) b.2) :=
  (r_ald (pg_of mt_214 dX6_lands_47 rfl) rfl).trans <|
  (r_con (pg_of mt_214 dX6_lands_48 rfl) (v2 := (60 : Int32)) (by decide)).trans <|
  (r_call (t := tt_214) (t2 := tt_208) (pg_of mt_214 dX6_lands_50 rfl) mt_214 mt_208 rfl rfl (rcv1 rfl) rfl rfl)
theorem b214_53 (l1 : Int32) (l2 : ma_V) : rn xs L 214 53 [vR 44, vI l1, l2] [] (mw f a g) = (ev xs L 215 2 [vR 44, vI l1] (mw f a g)).bind (fun b => rn xs L 214 58 [vR 44, vI l1, l2] (b.1.toList ++ []) b.2) :=
  (r_ald (pg_of mt_214 dX6_lands_53 rfl) rfl).trans <|
  (r_ild (pg_of mt_214 dX6_lands_54 rfl) rfl).trans <|
  (r_call (t := tt_214) (t2 := tt_215) (pg_of mt_214 dX6_lands_55 rfl) mt_214 mt_215 rfl rfl (rcv1 rfl) rfl rfl)
theorem b214_58 (l1 : Int32) (l2 : ma_V) (s0 : Int32) : rn xs L 214 58 [vR 44, vI l1, l2] [vI s0] (mw f a g) = some (some (vI (s0 ^^^ l1)), (mw f a g)) :=
  (r_ild (pg_of mt_214 dX6_lands_58 rfl) rfl).trans <|
  (r_bin (pg_of mt_214 dX6_lands_59 rfl)).trans <|
  (r_ri (pg_of mt_214 dX6_lands_60 rfl) mt_214 rfl)
theorem b214_61 (l1 : Int32) (l2 : ma_V) : rn xs L 214 61 [vR 44, vI l1, l2] [] (mw f a g) = (ev xs L 215 2 [vR 44, vI l1] (mw f a g)).bind (fun b => rn xs L 214 66 [vR 44, vI l1, l2] (b.1.toList ++ []) b.2) :=
  (r_ald (pg_of mt_214 dX6_lands_61 rfl) rfl).trans <|
  (r_ild (pg_of mt_214 dX6_lands_62 rfl) rfl).trans <|
  (r_call (t := tt_214) (t2 := tt_215) (pg_of mt_214 dX6_lands_63 rfl) mt_214 mt_215 rfl rfl (rcv1 rfl) rfl rfl)
theorem b214_66 (l1 : Int32) (l2 : ma_V) (s0 : Int32) : rn xs L 214 66 [vR 44, vI l1, l2] [vI s0] (mw f a g) = some (some (vI s0), (mw f a g)) :=
  (r_ri (pg_of mt_214 dX6_lands_66 rfl) mt_214 rfl)
-- 215 LeafFallsModel.landsPlain(I)I
theorem b215_0 (l1 : Int32) : rn xs L 215 0 [vR 44, vI l1] [] (mw f a g) = (ev xs L 208 2 [vR 44, vI (13 : Int32)] (mw f a g)).bind (fun b => rn xs L 215 6 [vR 44, vI l1] (b.1.toList ++ []) b.2) :=
  (r_ald (pg_of mt_215 dX6_landsPlain_0 rfl) rfl).trans <|
  (r_con (pg_of mt_215 dX6_landsPlain_1 rfl) (v2 := (13 : Int32)) (by decide)).trans <|
  (r_call (t := tt_215) (t2 := tt_208) (pg_of mt_215 dX6_landsPlain_3 rfl) mt_215 mt_208 rfl rfl (rcv1 rfl) rfl rfl)
theorem b215_6 (l1 : Int32) : rn xs L 215 6 [vR 44, vI l1] [] (mw f a g) = (ev xs L 210 3 [vR 44, vI l1] (mw f a g)).bind (fun b => rn xs L 215 11 [vR 44, vI l1] (b.1.toList ++ []) b.2) :=
  (r_ald (pg_of mt_215 dX6_landsPlain_6 rfl) rfl).trans <|
  (r_ild (pg_of mt_215 dX6_landsPlain_7 rfl) rfl).trans <|
  (r_call (t := tt_215) (t2 := tt_210) (pg_of mt_215 dX6_landsPlain_8 rfl) mt_215 mt_210 rfl rfl (rcv1 rfl) rfl rfl)
theorem b215_11 (l1 : Int32) (s0 : Int32) : rn xs L 215 11 [vR 44, vI l1] [vI s0] (mw f a g) = some (some (vI (s0 ^^^ (20 : Int32))), (mw f a g)) :=
  (r_con (pg_of mt_215 dX6_landsPlain_11 rfl) (v2 := (20 : Int32)) (by decide)).trans <|
  (r_bin (pg_of mt_215 dX6_landsPlain_13 rfl)).trans <|
  (r_ri (pg_of mt_215 dX6_landsPlain_14 rfl) mt_215 rfl)
-- 216 LeafFallsModel.trace(I)I
theorem b216_0 (l1 : Int32) : rn xs L 216 0 [vR 44, vI l1] [] (mw f a g) = (ev xs L 115 6 [vL (l1).toInt64, vL (0 : Int64), vL (((f 44 22) - (1 : Int32))).toInt64] (mw f a g)).bind (fun b => rn xs L 216 13 [vR 44, vI l1] (b.1.toList ++ []) b.2) :=
  (r_ild (pg_of mt_216 dX6_trace_0 rfl) rfl).trans <|
  (r_i2l (pg_of mt_216 dX6_trace_1 rfl)).trans <|
  (r_lcn (pg_of mt_216 dX6_trace_2 rfl) (v2 := (0 : Int64)) (by decide)).trans <|
  (r_ald (pg_of mt_216 dX6_trace_3 rfl) rfl).trans <|
  (r_gti (pg_of mt_216 dX6_trace_4 rfl) rfl).trans <|
  (r_con (pg_of mt_216 dX6_trace_7 rfl) (v2 := (1 : Int32)) (by decide)).trans <|
  (r_bin (pg_of mt_216 dX6_trace_8 rfl)).trans <|
  (r_i2l (pg_of mt_216 dX6_trace_9 rfl)).trans <|
  (r_call (t := tt_216) (t2 := tt_115) (pg_of mt_216 dX6_trace_10 rfl) mt_216 mt_115 rfl rfl rfl rfl rfl)
theorem b216_13 (l1 : Int32) (s0 : Int32) : rn xs L 216 13 [vR 44, vI l1] [vI s0] (mw f a g) = if s0 = 0 then rn xs L 216 25 [vR 44, vI l1] [] (mw f a g) else rn xs L 216 16 [vR 44, vI l1] [] (mw f a g) :=
  (r_eq0 (pg_of mt_216 dX6_trace_13 rfl))
theorem b216_16 (l1 : Int32) (h1 : ma_in l1 30 = true) : rn xs L 216 16 [vR 44, vI l1] [] (mw f a g) = some (some (vI (a 58 l1.toNatClampNeg)), (mw f a g)) :=
  (r_ald (pg_of mt_216 dX6_trace_16 rfl) rfl).trans <|
  (r_gtr (a := 58) (pg_of mt_216 dX6_trace_17 rfl) rfl rfl).trans <|
  (r_ild (pg_of mt_216 dX6_trace_20 rfl) rfl).trans <|
  (r_iald (pg_of mt_216 dX6_trace_21 rfl) rfl h1).trans <|
  (r_gto (pg_of mt_216 dX6_trace_22 rfl)).trans <|
  (r_ri (pg_of mt_216 dX6_trace_27 rfl) mt_216 rfl)
theorem b216_25 (l1 : Int32) : rn xs L 216 25 [vR 44, vI l1] [] (mw f a g) = some (some (vI (-3 : Int32)), (mw f a g)) :=
  (r_con (pg_of mt_216 dX6_trace_25 rfl) (v2 := (-3 : Int32)) (by decide)).trans <|
  (r_ri (pg_of mt_216 dX6_trace_27 rfl) mt_216 rfl)
-- 217 LeafFallsModel.many(I)I
theorem sw217_1 {ls st : List ma_V} {w : ma_W} {x : Int32} : rn xs L 217 1 ls (vI x :: st) w = if x = 0 then rn xs L 217 44 ls st w else if x = 1 then rn xs L 217 51 ls st w else if x = 2 then rn xs L 217 59 ls st w else if x = 3 then rn xs L 217 66 ls st w else if x = 4 then rn xs L 217 71 ls st w else if x = 5 then rn xs L 217 76 ls st w else if x = 6 then rn xs L 217 81 ls st w else rn xs L 217 86 ls st w := by
  by_cases h0 : x = 0
  · rw [if_pos h0, h0]; exact r_swi (t := 44) (pg_of mt_217 dX6_many_1 rfl) (by decide)
  rw [if_neg h0]
  by_cases h1 : x = 1
  · rw [if_pos h1, h1]; exact r_swi (t := 51) (pg_of mt_217 dX6_many_1 rfl) (by decide)
  rw [if_neg h1]
  by_cases h2 : x = 2
  · rw [if_pos h2, h2]; exact r_swi (t := 59) (pg_of mt_217 dX6_many_1 rfl) (by decide)
  rw [if_neg h2]
  by_cases h3 : x = 3
  · rw [if_pos h3, h3]; exact r_swi (t := 66) (pg_of mt_217 dX6_many_1 rfl) (by decide)
  rw [if_neg h3]
  by_cases h4 : x = 4
  · rw [if_pos h4, h4]; exact r_swi (t := 71) (pg_of mt_217 dX6_many_1 rfl) (by decide)
  rw [if_neg h4]
  by_cases h5 : x = 5
  · rw [if_pos h5, h5]; exact r_swi (t := 76) (pg_of mt_217 dX6_many_1 rfl) (by decide)
  rw [if_neg h5]
  by_cases h6 : x = 6
  · rw [if_pos h6, h6]; exact r_swi (t := 81) (pg_of mt_217 dX6_many_1 rfl) (by decide)
  rw [if_neg h6]
  have e0 := i_nei (k := 0) (0 : Int32) (by decide) h0
  have e1 := i_nei (k := 1) (1 : Int32) (by decide) h1
  have e2 := i_nei (k := 2) (2 : Int32) (by decide) h2
  have e3 := i_nei (k := 3) (3 : Int32) (by decide) h3
  have e4 := i_nei (k := 4) (4 : Int32) (by decide) h4
  have e5 := i_nei (k := 5) (5 : Int32) (by decide) h5
  have e6 := i_nei (k := 6) (6 : Int32) (by decide) h6
  exact r_swi (t := 86) (pg_of mt_217 dX6_many_1 rfl) (tsw_out (by omega) (by decide) (by decide))
theorem b217_0 (l1 : Int32) : rn xs L 217 0 [vR 44, vI l1] [] (mw f a g) = if l1 = 0 then rn xs L 217 44 [vR 44, vI l1] [] (mw f a g) else if l1 = 1 then rn xs L 217 51 [vR 44, vI l1] [] (mw f a g) else if l1 = 2 then rn xs L 217 59 [vR 44, vI l1] [] (mw f a g) else if l1 = 3 then rn xs L 217 66 [vR 44, vI l1] [] (mw f a g) else if l1 = 4 then rn xs L 217 71 [vR 44, vI l1] [] (mw f a g) else if l1 = 5 then rn xs L 217 76 [vR 44, vI l1] [] (mw f a g) else if l1 = 6 then rn xs L 217 81 [vR 44, vI l1] [] (mw f a g) else rn xs L 217 86 [vR 44, vI l1] [] (mw f a g) :=
  (r_ild (pg_of mt_217 dX6_many_0 rfl) rfl).trans <|
  (sw217_1)
theorem b217_44 (l1 : Int32) : rn xs L 217 44 [vR 44, vI l1] [] (mw f a g) = some (some (vI (a 45 0)), (mw f a g)) :=
  (r_ald (pg_of mt_217 dX6_many_44 rfl) rfl).trans <|
  (r_gtr (a := 45) (pg_of mt_217 dX6_many_45 rfl) rfl rfl).trans <|
  (r_con (pg_of mt_217 dX6_many_48 rfl) (v2 := (0 : Int32)) (by decide)).trans <|
  (r_ialc (j := 0) (pg_of mt_217 dX6_many_49 rfl) rfl (by decide) (by decide)).trans <|
  (r_ri (pg_of mt_217 dX6_many_50 rfl) mt_217 rfl)
theorem b217_51 (l1 : Int32) : rn xs L 217 51 [vR 44, vI l1] [] (mw f a g) = (ev xs L 153 3 [vR 44] (mw f a g)).bind (fun b => rn xs L 217 55 [vR 44, vI l1] (b.1.toList ++ []) b.2) :=
  (r_ald (pg_of mt_217 dX6_many_51 rfl) rfl).trans <|
  (r_call (t := tt_217) (t2 := tt_153) (pg_of mt_217 dX6_many_52 rfl) mt_217 mt_153 rfl rfl (rcv1 rfl) rfl rfl)
theorem b217_55 (l1 : Int32) (s0 : Int32) : rn xs L 217 55 [vR 44, vI l1] [vI s0] (mw f a g) = (ev xs L 144 3 [vI s0] (mw f a g)).bind (fun b => rn xs L 217 58 [vR 44, vI l1] (b.1.toList ++ []) b.2) :=
  (r_call (t := tt_217) (t2 := tt_144) (pg_of mt_217 dX6_many_55 rfl) mt_217 mt_144 rfl rfl rfl rfl rfl)
theorem b217_58 (l1 : Int32) (s0 : Int32) : rn xs L 217 58 [vR 44, vI l1] [vI s0] (mw f a g) = some (some (vI s0), (mw f a g)) :=
  (r_ri (pg_of mt_217 dX6_many_58 rfl) mt_217 rfl)
theorem b217_59 (l1 : Int32) : rn xs L 217 59 [vR 44, vI l1] [] (mw f a g) = some (some (vI (a 45 3)), (mw f a g)) :=
  (r_ald (pg_of mt_217 dX6_many_59 rfl) rfl).trans <|
  (r_gtr (a := 45) (pg_of mt_217 dX6_many_60 rfl) rfl rfl).trans <|
  (r_con (pg_of mt_217 dX6_many_63 rfl) (v2 := (3 : Int32)) (by decide)).trans <|
  (r_ialc (j := 3) (pg_of mt_217 dX6_many_64 rfl) rfl (by decide) (by decide)).trans <|
  (r_ri (pg_of mt_217 dX6_many_65 rfl) mt_217 rfl)
theorem b217_66 (l1 : Int32) : rn xs L 217 66 [vR 44, vI l1] [] (mw f a g) = (ev xs L 218 3 [vR 44] (mw f a g)).bind (fun b => rn xs L 217 70 [vR 44, vI l1] (b.1.toList ++ []) b.2) :=
  (r_ald (pg_of mt_217 dX6_many_66 rfl) rfl).trans <|
  (r_call (t := tt_217) (t2 := tt_218) (pg_of mt_217 dX6_many_67 rfl) mt_217 mt_218 rfl rfl (rcv1 rfl) rfl rfl)
theorem b217_70 (l1 : Int32) (s0 : Int32) : rn xs L 217 70 [vR 44, vI l1] [vI s0] (mw f a g) = some (some (vI s0), (mw f a g)) :=
  (r_ri (pg_of mt_217 dX6_many_70 rfl) mt_217 rfl)
theorem b217_71 (l1 : Int32) : rn xs L 217 71 [vR 44, vI l1] [] (mw f a g) = some (some (vI (f 44 14)), (mw f a g)) :=
  (r_ald (pg_of mt_217 dX6_many_71 rfl) rfl).trans <|
  (r_gti (pg_of mt_217 dX6_many_72 rfl) rfl).trans <|
  (r_ri (pg_of mt_217 dX6_many_75 rfl) mt_217 rfl)
theorem b217_76 (l1 : Int32) : rn xs L 217 76 [vR 44, vI l1] [] (mw f a g) = some (some (vI (f 44 6)), (mw f a g)) :=
  (r_ald (pg_of mt_217 dX6_many_76 rfl) rfl).trans <|
  (r_gti (pg_of mt_217 dX6_many_77 rfl) rfl).trans <|
  (r_ri (pg_of mt_217 dX6_many_80 rfl) mt_217 rfl)
theorem b217_81 (l1 : Int32) : rn xs L 217 81 [vR 44, vI l1] [] (mw f a g) = some (some (vI (f 44 22)), (mw f a g)) :=
  (r_ald (pg_of mt_217 dX6_many_81 rfl) rfl).trans <|
  (r_gti (pg_of mt_217 dX6_many_82 rfl) rfl).trans <|
  (r_ri (pg_of mt_217 dX6_many_85 rfl) mt_217 rfl)
theorem b217_86 (l1 : Int32) : rn xs L 217 86 [vR 44, vI l1] [] (mw f a g) = some (some (vI (-1 : Int32)), (mw f a g)) :=
  (r_con (pg_of mt_217 dX6_many_86 rfl) (v2 := (-1 : Int32)) (by decide)).trans <|
  (r_ri (pg_of mt_217 dX6_many_87 rfl) mt_217 rfl)
-- 218 LeafFallsModel.boughsInUse()I
theorem b218_0 (l1 : ma_V) (l2 : ma_V) : rn xs L 218 0 [vR 44, l1, l2] [] (mw f a g) = rn xs L 218 4 [vR 44, vI (0 : Int32), vI (0 : Int32)] [] (mw f a g) :=
  (r_con (pg_of mt_218 dX6_boughsInUse_0 rfl) (v2 := (0 : Int32)) (by decide)).trans <|
  (r_ist (pg_of mt_218 dX6_boughsInUse_1 rfl) (Nat.le_of_ble_eq_true rfl) rfl).trans <|
  (r_con (pg_of mt_218 dX6_boughsInUse_2 rfl) (v2 := (0 : Int32)) (by decide)).trans <|
  (r_ist (pg_of mt_218 dX6_boughsInUse_3 rfl) (Nat.le_of_ble_eq_true rfl) rfl)
theorem b218_4 (l1 : Int32) (l2 : Int32) : rn xs L 218 4 [vR 44, vI l1, vI l2] [] (mw f a g) = if l2 < (6 : Int32) then rn xs L 218 10 [vR 44, vI l1, vI l2] [] (mw f a g) else rn xs L 218 32 [vR 44, vI l1, vI l2] [] (mw f a g) :=
  (r_ild (pg_of mt_218 dX6_boughsInUse_4 rfl) rfl).trans <|
  (r_con (pg_of mt_218 dX6_boughsInUse_5 rfl) (v2 := (6 : Int32)) (by decide)).trans <|
  (r_ge (pg_of mt_218 dX6_boughsInUse_7 rfl))
theorem b218_10 (l1 : Int32) (l2 : Int32) : rn xs L 218 10 [vR 44, vI l1, vI l2] [] (mw f a g) = (ev xs L 143 4 [vR 44, vI l2] (mw f a g)).bind (fun b => rn xs L 218 16 [vR 44, vI l1, vI l2] (b.1.toList ++ [vI l1]) b.2) :=
  (r_ild (pg_of mt_218 dX6_boughsInUse_10 rfl) rfl).trans <|
  (r_ald (pg_of mt_218 dX6_boughsInUse_11 rfl) rfl).trans <|
  (r_ild (pg_of mt_218 dX6_boughsInUse_12 rfl) rfl).trans <|
  (r_call (t := tt_218) (t2 := tt_143) (pg_of mt_218 dX6_boughsInUse_13 rfl) mt_218 mt_143 rfl rfl (rcv1 rfl) rfl rfl)
theorem b218_16 (l1 : Int32) (l2 : Int32) (s0 : Int32) (s1 : Int32) : rn xs L 218 16 [vR 44, vI l1, vI l2] [vI s0, vI s1] (mw f a g) = if s0 = 0 then rn xs L 218 19 [vR 44, vI l1, vI l2] [vI s1] (mw f a g) else rn xs L 218 23 [vR 44, vI l1, vI l2] [vI s1] (mw f a g) :=
  (r_ne0 (pg_of mt_218 dX6_boughsInUse_16 rfl))
theorem b218_19 (l1 : Int32) (l2 : Int32) (s0 : Int32) : rn xs L 218 19 [vR 44, vI l1, vI l2] [vI s0] (mw f a g) = rn xs L 218 4 [vR 44, vI (s0 + (0 : Int32)), vI (l2 + (1 : Int32))] [] (mw f a g) :=
  (r_con (pg_of mt_218 dX6_boughsInUse_19 rfl) (v2 := (0 : Int32)) (by decide)).trans <|
  (r_gto (pg_of mt_218 dX6_boughsInUse_20 rfl)).trans <|
  (r_bin (pg_of mt_218 dX6_boughsInUse_24 rfl)).trans <|
  (r_ist (pg_of mt_218 dX6_boughsInUse_25 rfl) (Nat.le_of_ble_eq_true rfl) rfl).trans <|
  (r_inc (pg_of mt_218 dX6_boughsInUse_26 rfl) (y := (1 : Int32)) (by decide) rfl rfl).trans <|
  (r_gto (pg_of mt_218 dX6_boughsInUse_29 rfl))
theorem b218_23 (l1 : Int32) (l2 : Int32) (s0 : Int32) : rn xs L 218 23 [vR 44, vI l1, vI l2] [vI s0] (mw f a g) = rn xs L 218 4 [vR 44, vI (s0 + (1 : Int32)), vI (l2 + (1 : Int32))] [] (mw f a g) :=
  (r_con (pg_of mt_218 dX6_boughsInUse_23 rfl) (v2 := (1 : Int32)) (by decide)).trans <|
  (r_bin (pg_of mt_218 dX6_boughsInUse_24 rfl)).trans <|
  (r_ist (pg_of mt_218 dX6_boughsInUse_25 rfl) (Nat.le_of_ble_eq_true rfl) rfl).trans <|
  (r_inc (pg_of mt_218 dX6_boughsInUse_26 rfl) (y := (1 : Int32)) (by decide) rfl rfl).trans <|
  (r_gto (pg_of mt_218 dX6_boughsInUse_29 rfl))
theorem b218_32 (l1 : Int32) (l2 : Int32) : rn xs L 218 32 [vR 44, vI l1, vI l2] [] (mw f a g) = some (some (vI l1), (mw f a g)) :=
  (r_ild (pg_of mt_218 dX6_boughsInUse_32 rfl) rfl).trans <|
  (r_ri (pg_of mt_218 dX6_boughsInUse_33 rfl) mt_218 rfl)
-- 219 LeafFallsModel.keep()I
theorem b219_0 (l1 : ma_V) : rn xs L 219 0 [vR 44, l1] [] (mw f a g) = rn xs L 219 2 [vR 44, vI (0 : Int32)] [] (mw f a g) :=
  (r_con (pg_of mt_219 dX6_keep_0 rfl) (v2 := (0 : Int32)) (by decide)).trans <|
  (r_ist (pg_of mt_219 dX6_keep_1 rfl) (Nat.le_of_ble_eq_true rfl) rfl)
theorem b219_2 (l1 : Int32) : rn xs L 219 2 [vR 44, vI l1] [] (mw f a g) = if l1 < (62 : Int32) then rn xs L 219 8 [vR 44, vI l1] [] (mw f a g) else rn xs L 219 26 [vR 44, vI l1] [] (mw f a g) :=
  (r_ild (pg_of mt_219 dX6_keep_2 rfl) rfl).trans <|
  (r_con (pg_of mt_219 dX6_keep_3 rfl) (v2 := (62 : Int32)) (by decide)).trans <|
  (r_ge (pg_of mt_219 dX6_keep_5 rfl))
theorem b219_8 (l1 : Int32) (h1 : ma_in l1 62 = true) (h2 : ma_in l1 62 = true) : rn xs L 219 8 [vR 44, vI l1] [] (mw f a g) = rn xs L 219 2 [vR 44, vI (l1 + (1 : Int32))] [] (mw f ((ma_u2 a 46 l1.toNatClampNeg ((a 45 l1.toNatClampNeg)))) g) :=
  (r_ald (pg_of mt_219 dX6_keep_8 rfl) rfl).trans <|
  (r_gtr (a := 46) (pg_of mt_219 dX6_keep_9 rfl) rfl rfl).trans <|
  (r_ild (pg_of mt_219 dX6_keep_12 rfl) rfl).trans <|
  (r_ald (pg_of mt_219 dX6_keep_13 rfl) rfl).trans <|
  (r_gtr (a := 45) (pg_of mt_219 dX6_keep_14 rfl) rfl rfl).trans <|
  (r_ild (pg_of mt_219 dX6_keep_17 rfl) rfl).trans <|
  (r_iald (pg_of mt_219 dX6_keep_18 rfl) rfl h1).trans <|
  (r_iast (pg_of mt_219 dX6_keep_19 rfl) rfl h2).trans <|
  (r_inc (pg_of mt_219 dX6_keep_20 rfl) (y := (1 : Int32)) (by decide) rfl rfl).trans <|
  (r_gto (pg_of mt_219 dX6_keep_23 rfl))
theorem b219_26 (l1 : Int32) : rn xs L 219 26 [vR 44, vI l1] [] (mw f a g) = some (some (vI (1 : Int32)), (mw ((ma_u2 f 44 4 ((1 : Int32)))) a g)) :=
  (r_ald (pg_of mt_219 dX6_keep_26 rfl) rfl).trans <|
  (r_con (pg_of mt_219 dX6_keep_27 rfl) (v2 := (1 : Int32)) (by decide)).trans <|
  (r_pti (pg_of mt_219 dX6_keep_28 rfl) rfl (by decide)).trans <|
  (r_con (pg_of mt_219 dX6_keep_31 rfl) (v2 := (1 : Int32)) (by decide)).trans <|
  (r_ri (pg_of mt_219 dX6_keep_32 rfl) mt_219 rfl)
-- 220 LeafFallsModel.again()I
theorem b220_0 (l1 : ma_V) : rn xs L 220 0 [vR 44, l1] [] (mw f a g) = if (f 44 4) = 0 then rn xs L 220 7 [vR 44, l1] [] (mw f a g) else rn xs L 220 10 [vR 44, l1] [] (mw f a g) :=
  (r_ald (pg_of mt_220 dX6_again_0 rfl) rfl).trans <|
  (r_gti (pg_of mt_220 dX6_again_1 rfl) rfl).trans <|
  (r_ne0 (pg_of mt_220 dX6_again_4 rfl))
theorem b220_7 (l1 : ma_V) : rn xs L 220 7 [vR 44, l1] [] (mw f a g) = some (some (vI (-3 : Int32)), (mw f a g)) :=
  (r_con (pg_of mt_220 dX6_again_7 rfl) (v2 := (-3 : Int32)) (by decide)).trans <|
  (r_ri (pg_of mt_220 dX6_again_9 rfl) mt_220 rfl)
theorem b220_10 (l1 : ma_V) : rn xs L 220 10 [vR 44, l1] [] (mw f a g) = rn xs L 220 12 [vR 44, vI (0 : Int32)] [] (mw f a g) :=
  (r_con (pg_of mt_220 dX6_again_10 rfl) (v2 := (0 : Int32)) (by decide)).trans <|
  (r_ist (pg_of mt_220 dX6_again_11 rfl) (Nat.le_of_ble_eq_true rfl) rfl)
theorem b220_12 (l1 : Int32) : rn xs L 220 12 [vR 44, vI l1] [] (mw f a g) = if l1 < (62 : Int32) then rn xs L 220 18 [vR 44, vI l1] [] (mw f a g) else rn xs L 220 36 [vR 44, vI l1] [] (mw f a g) :=
  (r_ild (pg_of mt_220 dX6_again_12 rfl) rfl).trans <|
  (r_con (pg_of mt_220 dX6_again_13 rfl) (v2 := (62 : Int32)) (by decide)).trans <|
  (r_ge (pg_of mt_220 dX6_again_15 rfl))
theorem b220_18 (l1 : Int32) (h1 : ma_in l1 62 = true) (h2 : ma_in l1 62 = true) : rn xs L 220 18 [vR 44, vI l1] [] (mw f a g) = rn xs L 220 12 [vR 44, vI (l1 + (1 : Int32))] [] (mw f ((ma_u2 a 45 l1.toNatClampNeg ((a 46 l1.toNatClampNeg)))) g) :=
  (r_ald (pg_of mt_220 dX6_again_18 rfl) rfl).trans <|
  (r_gtr (a := 45) (pg_of mt_220 dX6_again_19 rfl) rfl rfl).trans <|
  (r_ild (pg_of mt_220 dX6_again_22 rfl) rfl).trans <|
  (r_ald (pg_of mt_220 dX6_again_23 rfl) rfl).trans <|
  (r_gtr (a := 46) (pg_of mt_220 dX6_again_24 rfl) rfl rfl).trans <|
  (r_ild (pg_of mt_220 dX6_again_27 rfl) rfl).trans <|
  (r_iald (pg_of mt_220 dX6_again_28 rfl) rfl h1).trans <|
  (r_iast (pg_of mt_220 dX6_again_29 rfl) rfl h2).trans <|
  (r_inc (pg_of mt_220 dX6_again_30 rfl) (y := (1 : Int32)) (by decide) rfl rfl).trans <|
  (r_gto (pg_of mt_220 dX6_again_33 rfl))
theorem b220_36 (l1 : Int32) : rn xs L 220 36 [vR 44, vI l1] [] (mw f a g) = some (some (vI (a 45 0)), (mw f a g)) :=
  (r_ald (pg_of mt_220 dX6_again_36 rfl) rfl).trans <|
  (r_gtr (a := 45) (pg_of mt_220 dX6_again_37 rfl) rfl rfl).trans <|
  (r_con (pg_of mt_220 dX6_again_40 rfl) (v2 := (0 : Int32)) (by decide)).trans <|
  (r_ialc (j := 0) (pg_of mt_220 dX6_again_41 rfl) rfl (by decide) (by decide)).trans <|
  (r_ri (pg_of mt_220 dX6_again_42 rfl) mt_220 rfl)
end
