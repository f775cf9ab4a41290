/-! ===== blocks (laid by a program: wip/whole/layblk.py) ===== -/
section
variable {xs : Nat → Int32} {L : Nat} {f a : Nat → Nat → Int32} {g : Nat → Nat → Int64}
-- 31 LeafFalls$Tree.clear()V
theorem b31_0 (t : Nat) (l1 : ma_V) (ht : is_tr t) : rn xs L 31 0 [vR t, l1] [] (mw f a g) = rn xs L 31 31 [vR t, vI (0 : Int32)] [] (mw f ((ma_u2 ((ma_u2 ((ma_u2 ((ma_u2 a ((t + 1)) 0 ((2 : Int32)))) ((t + 1)) 1 ((1 : Int32)))) ((t + 1)) 2 ((1 : Int32)))) ((t + 1)) 3 ((20 : Int32)))) g) :=
  (r_ald (pg_of mt_31 dX4_clear_0 rfl) rfl).trans <|
  (r_gtr (a := (t + 1)) (pg_of mt_31 dX4_clear_1 rfl) (mw_tr ht) (mw_tf ht (by decide))).trans <|
  (r_con (pg_of mt_31 dX4_clear_4 rfl) (v2 := (0 : Int32)) (by decide)).trans <|
  (r_con (pg_of mt_31 dX4_clear_5 rfl) (v2 := (2 : Int32)) (by decide)).trans <|
  (r_iasc (j := 0) (pg_of mt_31 dX4_clear_6 rfl) (mw_tr0 ht) (by decide) (by decide)).trans <|
  (r_ald (pg_of mt_31 dX4_clear_7 rfl) rfl).trans <|
  (r_gtr (a := (t + 1)) (pg_of mt_31 dX4_clear_8 rfl) (mw_tr ht) (mw_tf ht (by decide))).trans <|
  (r_con (pg_of mt_31 dX4_clear_11 rfl) (v2 := (1 : Int32)) (by decide)).trans <|
  (r_con (pg_of mt_31 dX4_clear_12 rfl) (v2 := (1 : Int32)) (by decide)).trans <|
  (r_iasc (j := 1) (pg_of mt_31 dX4_clear_13 rfl) (mw_tr0 ht) (by decide) (by decide)).trans <|
  (r_ald (pg_of mt_31 dX4_clear_14 rfl) rfl).trans <|
  (r_gtr (a := (t + 1)) (pg_of mt_31 dX4_clear_15 rfl) (mw_tr ht) (mw_tf ht (by decide))).trans <|
  (r_con (pg_of mt_31 dX4_clear_18 rfl) (v2 := (2 : Int32)) (by decide)).trans <|
  (r_con (pg_of mt_31 dX4_clear_19 rfl) (v2 := (1 : Int32)) (by decide)).trans <|
  (r_iasc (j := 2) (pg_of mt_31 dX4_clear_20 rfl) (mw_tr0 ht) (by decide) (by decide)).trans <|
  (r_ald (pg_of mt_31 dX4_clear_21 rfl) rfl).trans <|
  (r_gtr (a := (t + 1)) (pg_of mt_31 dX4_clear_22 rfl) (mw_tr ht) (mw_tf ht (by decide))).trans <|
  (r_con (pg_of mt_31 dX4_clear_25 rfl) (v2 := (3 : Int32)) (by decide)).trans <|
  (r_con (pg_of mt_31 dX4_clear_26 rfl) (v2 := (20 : Int32)) (by decide)).trans <|
  (r_iasc (j := 3) (pg_of mt_31 dX4_clear_28 rfl) (mw_tr0 ht) (by decide) (by decide)).trans <|
  (r_con (pg_of mt_31 dX4_clear_29 rfl) (v2 := (0 : Int32)) (by decide)).trans <|
  (r_ist (pg_of mt_31 dX4_clear_30 rfl) (Nat.le_of_ble_eq_true rfl) rfl)
theorem b31_31 (t : Nat) (l1 : Int32) (ht : is_tr t) : rn xs L 31 31 [vR t, vI l1] [] (mw f a g) = if l1 < (6 : Int32) then rn xs L 31 37 [vR t, vI l1] [] (mw f a g) else rn xs L 31 50 [vR t, vI l1] [] (mw f a g) :=
  (r_ild (pg_of mt_31 dX4_clear_31 rfl) rfl).trans <|
  (r_con (pg_of mt_31 dX4_clear_32 rfl) (v2 := (6 : Int32)) (by decide)).trans <|
  (r_ge (pg_of mt_31 dX4_clear_34 rfl))
theorem b31_37 (t : Nat) (l1 : Int32) (ht : is_tr t) (h1 : ma_in l1 6 = true) : rn xs L 31 37 [vR t, vI l1] [] (mw f a g) = rn xs L 31 31 [vR t, vI (l1 + (1 : Int32))] [] (mw f ((ma_u2 a ((t + 2)) l1.toNatClampNeg ((1 : Int32)))) g) :=
  (r_ald (pg_of mt_31 dX4_clear_37 rfl) rfl).trans <|
  (r_gtr (a := (t + 2)) (pg_of mt_31 dX4_clear_38 rfl) (mw_tr ht) (mw_tf ht (by decide))).trans <|
  (r_ild (pg_of mt_31 dX4_clear_41 rfl) rfl).trans <|
  (r_con (pg_of mt_31 dX4_clear_42 rfl) (v2 := (1 : Int32)) (by decide)).trans <|
  (r_iast (pg_of mt_31 dX4_clear_43 rfl) (mw_tr1 ht) h1).trans <|
  (r_inc (pg_of mt_31 dX4_clear_44 rfl) (y := (1 : Int32)) (by decide) rfl rfl).trans <|
  (r_gto (pg_of mt_31 dX4_clear_47 rfl))
theorem b31_50 (t : Nat) (l1 : Int32) (ht : is_tr t) : rn xs L 31 50 [vR t, vI l1] [] (mw f a g) = some (none, (mw ((ma_u2 ((ma_u2 ((ma_u2 ((ma_u2 f t 7 ((0 : Int32)))) t 8 ((0 : Int32)))) t 9 ((0 : Int32)))) t 11 ((0 : Int32)))) a g)) :=
  (r_ald (pg_of mt_31 dX4_clear_50 rfl) rfl).trans <|
  (r_con (pg_of mt_31 dX4_clear_51 rfl) (v2 := (0 : Int32)) (by decide)).trans <|
  (r_pti (pg_of mt_31 dX4_clear_52 rfl) (mw_tr ht) rfl).trans <|
  (r_ald (pg_of mt_31 dX4_clear_55 rfl) rfl).trans <|
  (r_con (pg_of mt_31 dX4_clear_56 rfl) (v2 := (0 : Int32)) (by decide)).trans <|
  (r_pti (pg_of mt_31 dX4_clear_57 rfl) (mw_tr ht) rfl).trans <|
  (r_ald (pg_of mt_31 dX4_clear_60 rfl) rfl).trans <|
  (r_con (pg_of mt_31 dX4_clear_61 rfl) (v2 := (0 : Int32)) (by decide)).trans <|
  (r_pti (pg_of mt_31 dX4_clear_62 rfl) (mw_tr ht) rfl).trans <|
  (r_ald (pg_of mt_31 dX4_clear_65 rfl) rfl).trans <|
  (r_con (pg_of mt_31 dX4_clear_66 rfl) (v2 := (0 : Int32)) (by decide)).trans <|
  (r_pti (pg_of mt_31 dX4_clear_67 rfl) (mw_tr ht) rfl).trans <|
  (r_rv (pg_of mt_31 dX4_clear_70 rfl) mt_31 rfl)
-- 32 LeafFalls$Tree.grow(IIII)V
theorem b32_0 (t : Nat) (l1 : Int32) (l2 : Int32) (l3 : Int32) (l4 : Int32) (ht : is_tr t) : rn xs L 32 0 [vR t, vI l1, vI l2, vI l3, vI l4] [] (mw f a g) = if (f t 7) < (8 : Int32) then rn xs L 32 10 [vR t, vI l1, vI l2, vI l3, vI l4] [] (mw f a g) else rn xs L 32 9 [vR t, vI l1, vI l2, vI l3, vI l4] [] (mw f a g) :=
  (r_ald (pg_of mt_32 dX4_grow_0 rfl) rfl).trans <|
  (r_gti (pg_of mt_32 dX4_grow_1 rfl) (mw_tr ht)).trans <|
  (r_con (pg_of mt_32 dX4_grow_4 rfl) (v2 := (8 : Int32)) (by decide)).trans <|
  (r_lt (pg_of mt_32 dX4_grow_6 rfl))
theorem b32_9 (t : Nat) (l1 : Int32) (l2 : Int32) (l3 : Int32) (l4 : Int32) (ht : is_tr t) : rn xs L 32 9 [vR t, vI l1, vI l2, vI l3, vI l4] [] (mw f a g) = some (none, (mw f a g)) :=
  (r_rv (pg_of mt_32 dX4_grow_9 rfl) mt_32 rfl)
theorem b32_10 (t : Nat) (l1 : Int32) (l2 : Int32) (l3 : Int32) (l4 : Int32) (ht : is_tr t) (h1 : ma_in ((f t 7)) 8 = true) (h2 : ma_in ((f t 7)) 8 = true) (h3 : ma_in ((f t 7)) 8 = true) (h4 : ma_in ((f t 7)) 8 = true) (h5 : ma_in ((f t 7)) 8 = true) : rn xs L 32 10 [vR t, vI l1, vI l2, vI l3, vI l4] [] (mw f a g) = some (none, (mw ((ma_u2 f t 7 (((f t 7) + (1 : Int32))))) ((ma_u2 ((ma_u2 ((ma_u2 ((ma_u2 ((ma_u2 a ((t + 3)) ((f t 7)).toNatClampNeg l1)) ((t + 4)) ((f t 7)).toNatClampNeg l2)) ((t + 5)) ((f t 7)).toNatClampNeg l3)) ((t + 6)) ((f t 7)).toNatClampNeg l4)) ((t + 7)) ((f t 7)).toNatClampNeg ((0 : Int32)))) g)) :=
  (r_ald (pg_of mt_32 dX4_grow_10 rfl) rfl).trans <|
  (r_gtr (a := (t + 3)) (pg_of mt_32 dX4_grow_11 rfl) (mw_tr ht) (mw_tf ht (by decide))).trans <|
  (r_ald (pg_of mt_32 dX4_grow_14 rfl) rfl).trans <|
  (r_gti (pg_of mt_32 dX4_grow_15 rfl) (mw_tr ht)).trans <|
  (r_ild (pg_of mt_32 dX4_grow_18 rfl) rfl).trans <|
  (r_iast (pg_of mt_32 dX4_grow_19 rfl) (mw_tr2 ht) h1).trans <|
  (r_ald (pg_of mt_32 dX4_grow_20 rfl) rfl).trans <|
  (r_gtr (a := (t + 4)) (pg_of mt_32 dX4_grow_21 rfl) (mw_tr ht) (mw_tf ht (by decide))).trans <|
  (r_ald (pg_of mt_32 dX4_grow_24 rfl) rfl).trans <|
  (r_gti (pg_of mt_32 dX4_grow_25 rfl) (mw_tr ht)).trans <|
  (r_ild (pg_of mt_32 dX4_grow_28 rfl) rfl).trans <|
  (r_iast (pg_of mt_32 dX4_grow_29 rfl) (mw_tr3 ht) h2).trans <|
  (r_ald (pg_of mt_32 dX4_grow_30 rfl) rfl).trans <|
  (r_gtr (a := (t + 5)) (pg_of mt_32 dX4_grow_31 rfl) (mw_tr ht) (mw_tf ht (by decide))).trans <|
  (r_ald (pg_of mt_32 dX4_grow_34 rfl) rfl).trans <|
  (r_gti (pg_of mt_32 dX4_grow_35 rfl) (mw_tr ht)).trans <|
  (r_ild (pg_of mt_32 dX4_grow_38 rfl) rfl).trans <|
  (r_iast (pg_of mt_32 dX4_grow_39 rfl) (mw_tr4 ht) h3).trans <|
  (r_ald (pg_of mt_32 dX4_grow_40 rfl) rfl).trans <|
  (r_gtr (a := (t + 6)) (pg_of mt_32 dX4_grow_41 rfl) (mw_tr ht) (mw_tf ht (by decide))).trans <|
  (r_ald (pg_of mt_32 dX4_grow_44 rfl) rfl).trans <|
  (r_gti (pg_of mt_32 dX4_grow_45 rfl) (mw_tr ht)).trans <|
  (r_ild (pg_of mt_32 dX4_grow_48 rfl) rfl).trans <|
  (r_iast (pg_of mt_32 dX4_grow_50 rfl) (mw_tr5 ht) h4).trans <|
  (r_ald (pg_of mt_32 dX4_grow_51 rfl) rfl).trans <|
  (r_gtr (a := (t + 7)) (pg_of mt_32 dX4_grow_52 rfl) (mw_tr ht) (mw_tf ht (by decide))).trans <|
  (r_ald (pg_of mt_32 dX4_grow_55 rfl) rfl).trans <|
  (r_gti (pg_of mt_32 dX4_grow_56 rfl) (mw_tr ht)).trans <|
  (r_con (pg_of mt_32 dX4_grow_59 rfl) (v2 := (0 : Int32)) (by decide)).trans <|
  (r_iast (pg_of mt_32 dX4_grow_60 rfl) (mw_tr6 ht) h5).trans <|
  (r_ald (pg_of mt_32 dX4_grow_61 rfl) rfl).trans <|
  (r_dup (pg_of mt_32 dX4_grow_62 rfl) rfl).trans <|
  (r_gti (pg_of mt_32 dX4_grow_63 rfl) (mw_tr ht)).trans <|
  (r_con (pg_of mt_32 dX4_grow_66 rfl) (v2 := (1 : Int32)) (by decide)).trans <|
  (r_bin (pg_of mt_32 dX4_grow_67 rfl)).trans <|
  (r_pti (pg_of mt_32 dX4_grow_68 rfl) (mw_tr ht) rfl).trans <|
  (r_rv (pg_of mt_32 dX4_grow_71 rfl) mt_32 rfl)
-- 33 LeafFalls$Tree.become(LLeafFalls$Tree;)V
theorem b33_0 (t : Nat) (l1 : Nat) (ht : is_tr t) (hl1 : is_tr l1) : rn xs L 33 0 [vR t, vR l1] [] (mw f a g) = some (none, (mw ((ma_u2 ((ma_u2 ((ma_u2 ((ma_u2 ((ma_u2 f t 7 ((f l1 7)))) t 8 ((((ma_u2 f t 7 ((f l1 7)))) l1 8)))) t 9 ((((ma_u2 ((ma_u2 f t 7 ((f l1 7)))) t 8 ((((ma_u2 f t 7 ((f l1 7)))) l1 8)))) l1 9)))) t 10 ((((ma_u2 ((ma_u2 ((ma_u2 f t 7 ((f l1 7)))) t 8 ((((ma_u2 f t 7 ((f l1 7)))) l1 8)))) t 9 ((((ma_u2 ((ma_u2 f t 7 ((f l1 7)))) t 8 ((((ma_u2 f t 7 ((f l1 7)))) l1 8)))) l1 9)))) l1 10)))) t 11 ((0 : Int32)))) ((ma_u1 ((ma_u1 ((ma_u1 ((ma_u1 ((ma_u1 ((ma_u1 ((ma_u1 a ((t + 1)) (va_cpy (a ((l1 + 1))) (a ((t + 1))) 0 0 4))) ((t + 2)) (va_cpy (((ma_u1 a ((t + 1)) (va_cpy (a ((l1 + 1))) (a ((t + 1))) 0 0 4))) ((l1 + 2))) (((ma_u1 a ((t + 1)) (va_cpy (a ((l1 + 1))) (a ((t + 1))) 0 0 4))) ((t + 2))) 0 0 6))) ((t + 3)) (va_cpy (((ma_u1 ((ma_u1 a ((t + 1)) (va_cpy (a ((l1 + 1))) (a ((t + 1))) 0 0 4))) ((t + 2)) (va_cpy (((ma_u1 a ((t + 1)) (va_cpy (a ((l1 + 1))) (a ((t + 1))) 0 0 4))) ((l1 + 2))) (((ma_u1 a ((t + 1)) (va_cpy (a ((l1 + 1))) (a ((t + 1))) 0 0 4))) ((t + 2))) 0 0 6))) ((l1 + 3))) (((ma_u1 ((ma_u1 a ((t + 1)) (va_cpy (a ((l1 + 1))) (a ((t + 1))) 0 0 4))) ((t + 2)) (va_cpy (((ma_u1 a ((t + 1)) (va_cpy (a ((l1 + 1))) (a ((t + 1))) 0 0 4))) ((l1 + 2))) (((ma_u1 a ((t + 1)) (va_cpy (a ((l1 + 1))) (a ((t + 1))) 0 0 4))) ((t + 2))) 0 0 6))) ((t + 3))) 0 0 8))) ((t + 4)) (va_cpy (((ma_u1 ((ma_u1 ((ma_u1 a ((t + 1)) (va_cpy (a ((l1 + 1))) (a ((t + 1))) 0 0 4))) ((t + 2)) (va_cpy (((ma_u1 a ((t + 1)) (va_cpy (a ((l1 + 1))) (a ((t + 1))) 0 0 4))) ((l1 + 2))) (((ma_u1 a ((t + 1)) (va_cpy (a ((l1 + 1))) (a ((t + 1))) 0 0 4))) ((t + 2))) 0 0 6))) ((t + 3)) (va_cpy (((ma_u1 ((ma_u1 a ((t + 1)) (va_cpy (a ((l1 + 1))) (a ((t + 1))) 0 0 4))) ((t + 2)) (va_cpy (((ma_u1 a ((t + 1)) (va_cpy (a ((l1 + 1))) (a ((t + 1))) 0 0 4))) ((l1 + 2))) (((ma_u1 a ((t + 1)) (va_cpy (a ((l1 + 1))) (a ((t + 1))) 0 0 4))) ((t + 2))) 0 0 6))) ((l1 + 3))) (((ma_u1 ((ma_u1 a ((t + 1)) (va_cpy (a ((l1 + 1))) (a ((t + 1))) 0 0 4))) ((t + 2)) (va_cpy (((ma_u1 a ((t + 1)) (va_cpy (a ((l1 + 1))) (a ((t + 1))) 0 0 4))) ((l1 + 2))) (((ma_u1 a ((t + 1)) (va_cpy (a ((l1 + 1))) (a ((t + 1))) 0 0 4))) ((t + 2))) 0 0 6))) ((t + 3))) 0 0 8))) ((l1 + 4))) (((ma_u1 ((ma_u1 ((ma_u1 a ((t + 1)) (va_cpy (a ((l1 + 1))) (a ((t + 1))) 0 0 4))) ((t + 2)) (va_cpy (((ma_u1 a ((t + 1)) (va_cpy (a ((l1 + 1))) (a ((t + 1))) 0 0 4))) ((l1 + 2))) (((ma_u1 a ((t + 1)) (va_cpy (a ((l1 + 1))) (a ((t + 1))) 0 0 4))) ((t + 2))) 0 0 6))) ((t + 3)) (va_cpy (((ma_u1 ((ma_u1 a ((t + 1)) (va_cpy (a ((l1 + 1))) (a ((t + 1))) 0 0 4))) ((t + 2)) (va_cpy (((ma_u1 a ((t + 1)) (va_cpy (a ((l1 + 1))) (a ((t + 1))) 0 0 4))) ((l1 + 2))) (((ma_u1 a ((t + 1)) (va_cpy (a ((l1 + 1))) (a ((t + 1))) 0 0 4))) ((t + 2))) 0 0 6))) ((l1 + 3))) (((ma_u1 ((ma_u1 a ((t + 1)) (va_cpy (a ((l1 + 1))) (a ((t + 1))) 0 0 4))) ((t + 2)) (va_cpy (((ma_u1 a ((t + 1)) (va_cpy (a ((l1 + 1))) (a ((t + 1))) 0 0 4))) ((l1 + 2))) (((ma_u1 a ((t + 1)) (va_cpy (a ((l1 + 1))) (a ((t + 1))) 0 0 4))) ((t + 2))) 0 0 6))) ((t + 3))) 0 0 8))) ((t + 4))) 0 0 8))) ((t + 5)) (va_cpy (((ma_u1 ((ma_u1 ((ma_u1 ((ma_u1 a ((t + 1)) (va_cpy (a ((l1 + 1))) (a ((t + 1))) 0 0 4))) ((t + 2)) (va_cpy (((ma_u1 a ((t + 1)) (va_cpy (a ((l1 + 1))) (a ((t + 1))) 0 0 4))) ((l1 + 2))) (((ma_u1 a ((t + 1)) (va_cpy (a ((l1 + 1))) (a ((t + 1))) 0 0 4))) ((t + 2))) 0 0 6))) ((t + 3)) (va_cpy (((ma_u1 ((ma_u1 a ((t + 1)) (va_cpy (a ((l1 + 1))) (a ((t + 1))) 0 0 4))) ((t + 2)) (va_cpy (((ma_u1 a ((t + 1)) (va_cpy (a ((l1 + 1))) (a ((t + 1))) 0 0 4))) ((l1 + 2))) (((ma_u1 a ((t + 1)) (va_cpy (a ((l1 + 1))) (a ((t + 1))) 0 0 4))) ((t + 2))) 0 0 6))) ((l1 + 3))) (((ma_u1 ((ma_u1 a ((t + 1)) (va_cpy (a ((l1 + 1))) (a ((t + 1))) 0 0 4))) ((t + 2)) (va_cpy (((ma_u1 a ((t + 1)) (va_cpy (a ((l1 + 1))) (a ((t + 1))) 0 0 4))) ((l1 + 2))) (((ma_u1 a ((t + 1)) (va_cpy (a ((l1 + 1))) (a ((t + 1))) 0 0 4))) ((t + 2))) 0 0 6))) ((t + 3))) 0 0 8))) ((t + 4)) (va_cpy (((ma_u1 ((ma_u1 ((ma_u1 a ((t + 1)) (va_cpy (a ((l1 + 1))) (a ((t + 1))) 0 0 4))) ((t + 2)) (va_cpy (((ma_u1 a ((t + 1)) (va_cpy (a ((l1 + 1))) (a ((t + 1))) 0 0 4))) ((l1 + 2))) (((ma_u1 a ((t + 1)) (va_cpy (a ((l1 + 1))) (a ((t + 1))) 0 0 4))) ((t + 2))) 0 0 6))) ((t + 3)) (va_cpy (((ma_u1 ((ma_u1 a ((t + 1)) (va_cpy (a ((l1 + 1))) (a ((t + 1))) 0 0 4))) ((t + 2)) (va_cpy (((ma_u1 a ((t + 1)) (va_cpy (a ((l1 + 1))) (a ((t + 1))) 0 0 4))) ((l1 + 2))) (((ma_u1 a ((t + 1)) (va_cpy (a ((l1 + 1))) (a ((t + 1))) 0 0 4))) ((t + 2))) 0 0 6))) ((l1 + 3))) (((ma_u1 ((ma_u1 a ((t + 1)) (va_cpy (a ((l1 + 1))) (a ((t + 1))) 0 0 4))) ((t + 2)) (va_cpy (((ma_u1 a ((t + 1)) (va_cpy (a ((l1 + 1))) (a ((t + 1))) 0 0 4))) ((l1 + 2))) (((ma_u1 a ((t + 1)) (va_cpy (a ((l1 + 1))) (a ((t + 1))) 0 0 4))) ((t + 2))) 0 0 6))) ((t + 3))) 0 0 8))) ((l1 + 4))) (((ma_u1 ((ma_u1 ((ma_u1 a ((t + 1)) (va_cpy (a ((l1 + 1))) (a ((t + 1))) 0 0 4))) ((t + 2)) (va_cpy (((ma_u1 a ((t + 1)) (va_cpy (a ((l1 + 1))) (a ((t + 1))) 0 0 4))) ((l1 + 2))) (((ma_u1 a ((t + 1)) (va_cpy (a ((l1 + 1))) (a ((t + 1))) 0 0 4))) ((t + 2))) 0 0 6))) ((t + 3)) (va_cpy (((ma_u1 ((ma_u1 a ((t + 1)) (va_cpy (a ((l1 + 1))) (a ((t + 1))) 0 0 4))) ((t + 2)) (va_cpy (((ma_u1 a ((t + 1)) (va_cpy (a ((l1 + 1))) (a ((t + 1))) 0 0 4))) ((l1 + 2))) (((ma_u1 a ((t + 1)) (va_cpy (a ((l1 + 1))) (a ((t + 1))) 0 0 4))) ((t + 2))) 0 0 6))) ((l1 + 3))) (((ma_u1 ((ma_u1 a ((t + 1)) (va_cpy (a ((l1 + 1))) (a ((t + 1))) 0 0 4))) ((t + 2)) (va_cpy (((ma_u1 a ((t + 1)) (va_cpy (a ((l1 + 1))) (a ((t + 1))) 0 0 4))) ((l1 + 2))) (((ma_u1 a ((t + 1)) (va_cpy (a ((l1 + 1))) (a ((t + 1))) 0 0 4))) ((t + 2))) 0 0 6))) ((t + 3))) 0 0 8))) ((t + 4))) 0 0 8))) ((l1 + 5))) (((ma_u1 ((ma_u1 ((ma_u1 ((ma_u1 a ((t + 1)) (va_cpy (a ((l1 + 1))) (a ((t + 1))) 0 0 4))) ((t + 2)) (va_cpy (((ma_u1 a ((t + 1)) (va_cpy (a ((l1 + 1))) (a ((t + 1))) 0 0 4))) ((l1 + 2))) (((ma_u1 a ((t + 1)) (va_cpy (a ((l1 + 1))) (a ((t + 1))) 0 0 4))) ((t + 2))) 0 0 6))) ((t + 3)) (va_cpy (((ma_u1 ((ma_u1 a ((t + 1)) (va_cpy (a ((l1 + 1))) (a ((t + 1))) 0 0 4))) ((t + 2)) (va_cpy (((ma_u1 a ((t + 1)) (va_cpy (a ((l1 + 1))) (a ((t + 1))) 0 0 4))) ((l1 + 2))) (((ma_u1 a ((t + 1)) (va_cpy (a ((l1 + 1))) (a ((t + 1))) 0 0 4))) ((t + 2))) 0 0 6))) ((l1 + 3))) (((ma_u1 ((ma_u1 a ((t + 1)) (va_cpy (a ((l1 + 1))) (a ((t + 1))) 0 0 4))) ((t + 2)) (va_cpy (((ma_u1 a ((t + 1)) (va_cpy (a ((l1 + 1))) (a ((t + 1))) 0 0 4))) ((l1 + 2))) (((ma_u1 a ((t + 1)) (va_cpy (a ((l1 + 1))) (a ((t + 1))) 0 0 4))) ((t + 2))) 0 0 6))) ((t + 3))) 0 0 8))) ((t + 4)) (va_cpy (((ma_u1 ((ma_u1 ((ma_u1 a ((t + 1)) (va_cpy (a ((l1 + 1))) (a ((t + 1))) 0 0 4))) ((t + 2)) (va_cpy (((ma_u1 a ((t + 1)) (va_cpy (a ((l1 + 1))) (a ((t + 1))) 0 0 4))) ((l1 + 2))) (((ma_u1 a ((t + 1)) (va_cpy (a ((l1 + 1))) (a ((t + 1))) 0 0 4))) ((t + 2))) 0 0 6))) ((t + 3)) (va_cpy (((ma_u1 ((ma_u1 a ((t + 1)) (va_cpy (a ((l1 + 1))) (a ((t + 1))) 0 0 4))) ((t + 2)) (va_cpy (((ma_u1 a ((t + 1)) (va_cpy (a ((l1 + 1))) (a ((t + 1))) 0 0 4))) ((l1 + 2))) (((ma_u1 a ((t + 1)) (va_cpy (a ((l1 + 1))) (a ((t + 1))) 0 0 4))) ((t + 2))) 0 0 6))) ((l1 + 3))) (((ma_u1 ((ma_u1 a ((t + 1)) (va_cpy (a ((l1 + 1))) (a ((t + 1))) 0 0 4))) ((t + 2)) (va_cpy (((ma_u1 a ((t + 1)) (va_cpy (a ((l1 + 1))) (a ((t + 1))) 0 0 4))) ((l1 + 2))) (((ma_u1 a ((t + 1)) (va_cpy (a ((l1 + 1))) (a ((t + 1))) 0 0 4))) ((t + 2))) 0 0 6))) ((t + 3))) 0 0 8))) ((l1 + 4))) (((ma_u1 ((ma_u1 ((ma_u1 a ((t + 1)) (va_cpy (a ((l1 + 1))) (a ((t + 1))) 0 0 4))) ((t + 2)) (va_cpy (((ma_u1 a ((t + 1)) (va_cpy (a ((l1 + 1))) (a ((t + 1))) 0 0 4))) ((l1 + 2))) (((ma_u1 a ((t + 1)) (va_cpy (a ((l1 + 1))) (a ((t + 1))) 0 0 4))) ((t + 2))) 0 0 6))) ((t + 3)) (va_cpy (((ma_u1 ((ma_u1 a ((t + 1)) (va_cpy (a ((l1 + 1))) (a ((t + 1))) 0 0 4))) ((t + 2)) (va_cpy (((ma_u1 a ((t + 1)) (va_cpy (a ((l1 + 1))) (a ((t + 1))) 0 0 4))) ((l1 + 2))) (((ma_u1 a ((t + 1)) (va_cpy (a ((l1 + 1))) (a ((t + 1))) 0 0 4))) ((t + 2))) 0 0 6))) ((l1 + 3))) (((ma_u1 ((ma_u1 a ((t + 1)) (va_cpy (a ((l1 + 1))) (a ((t + 1))) 0 0 4))) ((t + 2)) (va_cpy (((ma_u1 a ((t + 1)) (va_cpy (a ((l1 + 1))) (a ((t + 1))) 0 0 4))) ((l1 + 2))) (((ma_u1 a ((t + 1)) (va_cpy (a ((l1 + 1))) (a ((t + 1))) 0 0 4))) ((t + 2))) 0 0 6))) ((t + 3))) 0 0 8))) ((t + 4))) 0 0 8))) ((t + 5))) 0 0 8))) ((t + 6)) (va_cpy (((ma_u1 ((ma_u1 ((ma_u1 ((ma_u1 ((ma_u1 a ((t + 1)) (va_cpy (a ((l1 + 1))) (a ((t + 1))) 0 0 4))) ((t + 2)) (va_cpy (((ma_u1 a ((t + 1)) (va_cpy (a ((l1 + 1))) (a ((t + 1))) 0 0 4))) ((l1 + 2))) (((ma_u1 a ((t + 1)) (va_cpy (a ((l1 + 1))) (a ((t + 1))) 0 0 4))) ((t + 2))) 0 0 6))) ((t + 3)) (va_cpy (((ma_u1 ((ma_u1 a ((t + 1)) (va_cpy (a ((l1 + 1))) (a ((t + 1))) 0 0 4))) ((t + 2)) (va_cpy (((ma_u1 a ((t + 1)) (va_cpy (a ((l1 + 1))) (a ((t + 1))) 0 0 4))) ((l1 + 2))) (((ma_u1 a ((t + 1)) (va_cpy (a ((l1 + 1))) (a ((t + 1))) 0 0 4))) ((t + 2))) 0 0 6))) ((l1 + 3))) (((ma_u1 ((ma_u1 a ((t + 1)) (va_cpy (a ((l1 + 1))) (a ((t + 1))) 0 0 4))) ((t + 2)) (va_cpy (((ma_u1 a ((t + 1)) (va_cpy (a ((l1 + 1))) (a ((t + 1))) 0 0 4))) ((l1 + 2))) (((ma_u1 a ((t + 1)) (va_cpy (a ((l1 + 1))) (a ((t + 1))) 0 0 4))) ((t + 2))) 0 0 6))) ((t + 3))) 0 0 8))) ((t + 4)) (va_cpy (((ma_u1 ((ma_u1 ((ma_u1 a ((t + 1)) (va_cpy (a ((l1 + 1))) (a ((t + 1))) 0 0 4))) ((t + 2)) (va_cpy (((ma_u1 a ((t + 1)) (va_cpy (a ((l1 + 1))) (a ((t + 1))) 0 0 4))) ((l1 + 2))) (((ma_u1 a ((t + 1)) (va_cpy (a ((l1 + 1))) (a ((t + 1))) 0 0 4))) ((t + 2))) 0 0 6))) ((t + 3)) (va_cpy (((ma_u1 ((ma_u1 a ((t + 1)) (va_cpy (a ((l1 + 1))) (a ((t + 1))) 0 0 4))) ((t + 2)) (va_cpy (((ma_u1 a ((t + 1)) (va_cpy (a ((l1 + 1))) (a ((t + 1))) 0 0 4))) ((l1 + 2))) (((ma_u1 a ((t + 1)) (va_cpy (a ((l1 + 1))) (a ((t + 1))) 0 0 4))) ((t + 2))) 0 0 6))) ((l1 + 3))) (((ma_u1 ((ma_u1 a ((t + 1)) (va_cpy (a ((l1 + 1))) (a ((t + 1))) 0 0 4))) ((t + 2)) (va_cpy (((ma_u1 a ((t + 1)) (va_cpy (a ((l1 + 1))) (a ((t + 1))) 0 0 4))) ((l1 + 2))) (((ma_u1 a ((t + 1)) (va_cpy (a ((l1 + 1))) (a ((t + 1))) 0 0 4))) ((t + 2))) 0 0 6))) ((t + 3))) 0 0 8))) ((l1 + 4))) (((ma_u1 ((ma_u1 ((ma_u1 a ((t + 1)) (va_cpy (a ((l1 + 1))) (a ((t + 1))) 0 0 4))) ((t + 2)) (va_cpy (((ma_u1 a ((t + 1)) (va_cpy (a ((l1 + 1))) (a ((t + 1))) 0 0 4))) ((l1 + 2))) (((ma_u1 a ((t + 1)) (va_cpy (a ((l1 + 1))) (a ((t + 1))) 0 0 4))) ((t + 2))) 0 0 6))) ((t + 3)) (va_cpy (((ma_u1 ((ma_u1 a ((t + 1)) (va_cpy (a ((l1 + 1))) (a ((t + 1))) 0 0 4))) ((t + 2)) (va_cpy (((ma_u1 a ((t + 1)) (va_cpy (a ((l1 + 1))) (a ((t + 1))) 0 0 4))) ((l1 + 2))) (((ma_u1 a ((t + 1)) (va_cpy (a ((l1 + 1))) (a ((t + 1))) 0 0 4))) ((t + 2))) 0 0 6))) ((l1 + 3))) (((ma_u1 ((ma_u1 a ((t + 1)) (va_cpy (a ((l1 + 1))) (a ((t + 1))) 0 0 4))) ((t + 2)) (va_cpy (((ma_u1 a ((t + 1)) (va_cpy (a ((l1 + 1))) (a ((t + 1))) 0 0 4))) ((l1 + 2))) (((ma_u1 a ((t + 1)) (va_cpy (a ((l1 + 1))) (a ((t + 1))) 0 0 4))) ((t + 2))) 0 0 6))) ((t + 3))) 0 0 8))) ((t + 4))) 0 0 8))) ((t + 5)) (va_cpy (((ma_u1 ((ma_u1 ((ma_u1 ((ma_u1 a ((t + 1)) (va_cpy (a ((l1 + 1))) (a ((t + 1))) 0 0 4))) ((t + 2)) (va_cpy (((ma_u1 a ((t + 1)) (va_cpy (a ((l1 + 1))) (a ((t + 1))) 0 0 4))) ((l1 + 2))) (((ma_u1 a ((t + 1)) (va_cpy (a ((l1 + 1))) (a ((t + 1))) 0 0 4))) ((t + 2))) 0 0 6))) ((t + 3)) (va_cpy (((ma_u1 ((ma_u1 a ((t + 1)) (va_cpy (a ((l1 + 1))) (a ((t + 1))) 0 0 4))) ((t + 2)) (va_cpy (((ma_u1 a ((t + 1)) (va_cpy (a ((l1 + 1))) (a ((t + 1))) 0 0 4))) ((l1 + 2))) (((ma_u1 a ((t + 1)) (va_cpy (a ((l1 + 1))) (a ((t + 1))) 0 0 4))) ((t + 2))) 0 0 6))) ((l1 + 3))) (((ma_u1 ((ma_u1 a ((t + 1)) (va_cpy (a ((l1 + 1))) (a ((t + 1))) 0 0 4))) ((t + 2)) (va_cpy (((ma_u1 a ((t + 1)) (va_cpy (a ((l1 + 1))) (a ((t + 1))) 0 0 4))) ((l1 + 2))) (((ma_u1 a ((t + 1)) (va_cpy (a ((l1 + 1))) (a ((t + 1))) 0 0 4))) ((t + 2))) 0 0 6))) ((t + 3))) 0 0 8))) ((t + 4)) (va_cpy (((ma_u1 ((ma_u1 ((ma_u1 a ((t + 1)) (va_cpy (a ((l1 + 1))) (a ((t + 1))) 0 0 4))) ((t + 2)) (va_cpy (((ma_u1 a ((t + 1)) (va_cpy (a ((l1 + 1))) (a ((t + 1))) 0 0 4))) ((l1 + 2))) (((ma_u1 a ((t + 1)) (va_cpy (a ((l1 + 1))) (a ((t + 1))) 0 0 4))) ((t + 2))) 0 0 6))) ((t + 3)) (va_cpy (((ma_u1 ((ma_u1 a ((t + 1)) (va_cpy (a ((l1 + 1))) (a ((t + 1))) 0 0 4))) ((t + 2)) (va_cpy (((ma_u1 a ((t + 1)) (va_cpy (a ((l1 + 1))) (a ((t + 1))) 0 0 4))) ((l1 + 2))) (((ma_u1 a ((t + 1)) (va_cpy (a ((l1 + 1))) (a ((t + 1))) 0 0 4))) ((t + 2))) 0 0 6))) ((l1 + 3))) (((ma_u1 ((ma_u1 a ((t + 1)) (va_cpy (a ((l1 + 1))) (a ((t + 1))) 0 0 4))) ((t + 2)) (va_cpy (((ma_u1 a ((t + 1)) (va_cpy (a ((l1 + 1))) (a ((t + 1))) 0 0 4))) ((l1 + 2))) (((ma_u1 a ((t + 1)) (va_cpy (a ((l1 + 1))) (a ((t + 1))) 0 0 4))) ((t + 2))) 0 0 6))) ((t + 3))) 0 0 8))) ((l1 + 4))) (((ma_u1 ((ma_u1 ((ma_u1 a ((t + 1)) (va_cpy (a ((l1 + 1))) (a ((t + 1))) 0 0 4))) ((t + 2)) (va_cpy (((ma_u1 a ((t + 1)) (va_cpy (a ((l1 + 1))) (a ((t + 1))) 0 0 4))) ((l1 + 2))) (((ma_u1 a ((t + 1)) (va_cpy (a ((l1 + 1))) (a ((t + 1))) 0 0 4))) ((t + 2))) 0 0 6))) ((t + 3)) (va_cpy (((ma_u1 ((ma_u1 a ((t + 1)) (va_cpy (a ((l1 + 1))) (a ((t + 1))) 0 0 4))) ((t + 2)) (va_cpy (((ma_u1 a ((t + 1)) (va_cpy (a ((l1 + 1))) (a ((t + 1))) 0 0 4))) ((l1 + 2))) (((ma_u1 a ((t + 1)) (va_cpy (a ((l1 + 1))) (a ((t + 1))) 0 0 4))) ((t + 2))) 0 0 6))) ((l1 + 3))) (((ma_u1 ((ma_u1 a ((t + 1)) (va_cpy (a ((l1 + 1))) (a ((t + 1))) 0 0 4))) ((t + 2)) (va_cpy (((ma_u1 a ((t + 1)) (va_cpy (a ((l1 + 1))) (a ((t + 1))) 0 0 4))) ((l1 + 2))) (((ma_u1 a ((t + 1)) (va_cpy (a ((l1 + 1))) (a ((t + 1))) 0 0 4))) ((t + 2))) 0 0 6))) ((t + 3))) 0 0 8))) ((t + 4))) 0 0 8))) ((l1 + 5))) (((ma_u1 ((ma_u1 ((ma_u1 ((ma_u1 a ((t + 1)) (va_cpy (a ((l1 + 1))) (a ((t + 1))) 0 0 4))) ((t + 2)) (va_cpy (((ma_u1 a ((t + 1)) (va_cpy (a ((l1 + 1))) (a ((t + 1))) 0 0 4))) ((l1 + 2))) (((ma_u1 a ((t + 1)) (va_cpy (a ((l1 + 1))) (a ((t + 1))) 0 0 4))) ((t + 2))) 0 0 6))) ((t + 3)) (va_cpy (((ma_u1 ((ma_u1 a ((t + 1)) (va_cpy (a ((l1 + 1))) (a ((t + 1))) 0 0 4))) ((t + 2)) (va_cpy (((ma_u1 a ((t + 1)) (va_cpy (a ((l1 + 1))) (a ((t + 1))) 0 0 4))) ((l1 + 2))) (((ma_u1 a ((t + 1)) (va_cpy (a ((l1 + 1))) (a ((t + 1))) 0 0 4))) ((t + 2))) 0 0 6))) ((l1 + 3))) (((ma_u1 ((ma_u1 a ((t + 1)) (va_cpy (a ((l1 + 1))) (a ((t + 1))) 0 0 4))) ((t + 2)) (va_cpy (((ma_u1 a ((t + 1)) (va_cpy (a ((l1 + 1))) (a ((t + 1))) 0 0 4))) ((l1 + 2))) (((ma_u1 a ((t + 1)) (va_cpy (a ((l1 + 1))) (a ((t + 1))) 0 0 4))) ((t + 2))) 0 0 6))) ((t + 3))) 0 0 8))) ((t + 4)) (va_cpy (((ma_u1 ((ma_u1 ((ma_u1 a ((t + 1)) (va_cpy (a ((l1 + 1))) (a ((t + 1))) 0 0 4))) ((t + 2)) (va_cpy (((ma_u1 a ((t + 1)) (va_cpy (a ((l1 + 1))) (a ((t + 1))) 0 0 4))) ((l1 + 2))) (((ma_u1 a ((t + 1)) (va_cpy (a ((l1 + 1))) (a ((t + 1))) 0 0 4))) ((t + 2))) 0 0 6))) ((t + 3)) (va_cpy (((ma_u1 ((ma_u1 a ((t + 1)) (va_cpy (a ((l1 + 1))) (a ((t + 1))) 0 0 4))) ((t + 2)) (va_cpy (((ma_u1 a ((t + 1)) (va_cpy (a ((l1 + 1))) (a ((t + 1))) 0 0 4))) ((l1 + 2))) (((ma_u1 a ((t + 1)) (va_cpy (a ((l1 + 1))) (a ((t + 1))) 0 0 4))) ((t + 2))) 0 0 6))) ((l1 + 3))) (((ma_u1 ((ma_u1 a ((t + 1)) (va_cpy (a ((l1 + 1))) (a ((t + 1))) 0 0 4))) ((t + 2)) (va_cpy (((ma_u1 a ((t + 1)) (va_cpy (a ((l1 + 1))) (a ((t + 1))) 0 0 4))) ((l1 + 2))) (((ma_u1 a ((t + 1)) (va_cpy (a ((l1 + 1))) (a ((t + 1))) 0 0 4))) ((t + 2))) 0 0 6))) ((t + 3))) 0 0 8))) ((l1 + 4))) (((ma_u1 ((ma_u1 ((ma_u1 a ((t + 1)) (va_cpy (a ((l1 + 1))) (a ((t + 1))) 0 0 4))) ((t + 2)) (va_cpy (((ma_u1 a ((t + 1)) (va_cpy (a ((l1 + 1))) (a ((t + 1))) 0 0 4))) ((l1 + 2))) (((ma_u1 a ((t + 1)) (va_cpy (a ((l1 + 1))) (a ((t + 1))) 0 0 4))) ((t + 2))) 0 0 6))) ((t + 3)) (va_cpy (((ma_u1 ((ma_u1 a ((t + 1)) (va_cpy (a ((l1 + 1))) (a ((t + 1))) 0 0 4))) ((t + 2)) (va_cpy (((ma_u1 a ((t + 1)) (va_cpy (a ((l1 + 1))) (a ((t + 1))) 0 0 4))) ((l1 + 2))) (((ma_u1 a ((t + 1)) (va_cpy (a ((l1 + 1))) (a ((t + 1))) 0 0 4))) ((t + 2))) 0 0 6))) ((l1 + 3))) (((ma_u1 ((ma_u1 a ((t + 1)) (va_cpy (a ((l1 + 1))) (a ((t + 1))) 0 0 4))) ((t + 2)) (va_cpy (((ma_u1 a ((t + 1)) (va_cpy (a ((l1 + 1))) (a ((t + 1))) 0 0 4))) ((l1 + 2))) (((ma_u1 a ((t + 1)) (va_cpy (a ((l1 + 1))) (a ((t + 1))) 0 0 4))) ((t + 2))) 0 0 6))) ((t + 3))) 0 0 8))) ((t + 4))) 0 0 8))) ((t + 5))) 0 0 8))) ((l1 + 6))) (((ma_u1 ((ma_u1 ((ma_u1 ((ma_u1 ((ma_u1 a ((t + 1)) (va_cpy (a ((l1 + 1))) (a ((t + 1))) 0 0 4))) ((t + 2)) (va_cpy (((ma_u1 a ((t + 1)) (va_cpy (a ((l1 + 1))) (a ((t + 1))) 0 0 4))) ((l1 + 2))) (((ma_u1 a ((t + 1)) (va_cpy (a ((l1 + 1))) (a ((t + 1))) 0 0 4))) ((t + 2))) 0 0 6))) ((t + 3)) (va_cpy (((ma_u1 ((ma_u1 a ((t + 1)) (va_cpy (a ((l1 + 1))) (a ((t + 1))) 0 0 4))) ((t + 2)) (va_cpy (((ma_u1 a ((t + 1)) (va_cpy (a ((l1 + 1))) (a ((t + 1))) 0 0 4))) ((l1 + 2))) (((ma_u1 a ((t + 1)) (va_cpy (a ((l1 + 1))) (a ((t + 1))) 0 0 4))) ((t + 2))) 0 0 6))) ((l1 + 3))) (((ma_u1 ((ma_u1 a ((t + 1)) (va_cpy (a ((l1 + 1))) (a ((t + 1))) 0 0 4))) ((t + 2)) (va_cpy (((ma_u1 a ((t + 1)) (va_cpy (a ((l1 + 1))) (a ((t + 1))) 0 0 4))) ((l1 + 2))) (((ma_u1 a ((t + 1)) (va_cpy (a ((l1 + 1))) (a ((t + 1))) 0 0 4))) ((t + 2))) 0 0 6))) ((t + 3))) 0 0 8))) ((t + 4)) (va_cpy (((ma_u1 ((ma_u1 ((ma_u1 a ((t + 1)) (va_cpy (a ((l1 + 1))) (a ((t + 1))) 0 0 4))) ((t + 2)) (va_cpy (((ma_u1 a ((t + 1)) (va_cpy (a ((l1 + 1))) (a ((t + 1))) 0 0 4))) ((l1 + 2))) (((ma_u1 a ((t + 1)) (va_cpy (a ((l1 + 1))) (a ((t + 1))) 0 0 4))) ((t + 2))) 0 0 6))) ((t + 3)) (va_cpy (((ma_u1 ((ma_u1 a ((t + 1)) (va_cpy (a ((l1 + 1))) (a ((t + 1))) 0 0 4))) ((t + 2)) (va_cpy (((ma_u1 a ((t + 1)) (va_cpy (a ((l1 + 1))) (a ((t + 1))) 0 0 4))) ((l1 + 2))) (((ma_u1 a ((t + 1)) (va_cpy (a ((l1 + 1))) (a ((t + 1))) 0 0 4))) ((t + 2))) 0 0 6))) ((l1 + 3))) (((ma_u1 ((ma_u1 a ((t + 1)) (va_cpy (a ((l1 + 1))) (a ((t + 1))) 0 0 4))) ((t + 2)) (va_cpy (((ma_u1 a ((t + 1)) (va_cpy (a ((l1 + 1))) (a ((t + 1))) 0 0 4))) ((l1 + 2))) (((ma_u1 a ((t + 1)) (va_cpy (a ((l1 + 1))) (a ((t + 1))) 0 0 4))) ((t + 2))) 0 0 6))) ((t + 3))) 0 0 8))) ((l1 + 4))) (((ma_u1 ((ma_u1 ((ma_u1 a ((t + 1)) (va_cpy (a ((l1 + 1))) (a ((t + 1))) 0 0 4))) ((t + 2)) (va_cpy (((ma_u1 a ((t + 1)) (va_cpy (a ((l1 + 1))) (a ((t + 1))) 0 0 4))) ((l1 + 2))) (((ma_u1 a ((t + 1)) (va_cpy (a ((l1 + 1))) (a ((t + 1))) 0 0 4))) ((t + 2))) 0 0 6))) ((t + 3)) (va_cpy (((ma_u1 ((ma_u1 a ((t + 1)) (va_cpy (a ((l1 + 1))) (a ((t + 1))) 0 0 4))) ((t + 2)) (va_cpy (((ma_u1 a ((t + 1)) (va_cpy (a ((l1 + 1))) (a ((t + 1))) 0 0 4))) ((l1 + 2))) (((ma_u1 a ((t + 1)) (va_cpy (a ((l1 + 1))) (a ((t + 1))) 0 0 4))) ((t + 2))) 0 0 6))) ((l1 + 3))) (((ma_u1 ((ma_u1 a ((t + 1)) (va_cpy (a ((l1 + 1))) (a ((t + 1))) 0 0 4))) ((t + 2)) (va_cpy (((ma_u1 a ((t + 1)) (va_cpy (a ((l1 + 1))) (a ((t + 1))) 0 0 4))) ((l1 + 2))) (((ma_u1 a ((t + 1)) (va_cpy (a ((l1 + 1))) (a ((t + 1))) 0 0 4))) ((t + 2))) 0 0 6))) ((t + 3))) 0 0 8))) ((t + 4))) 0 0 8))) ((t + 5)) (va_cpy (((ma_u1 ((ma_u1 ((ma_u1 ((ma_u1 a ((t + 1)) (va_cpy (a ((l1 + 1))) (a ((t + 1))) 0 0 4))) ((t + 2)) (va_cpy (((ma_u1 a ((t + 1)) (va_cpy (a ((l1 + 1))) (a ((t + 1))) 0 0 4))) ((l1 + 2))) (((ma_u1 a ((t + 1)) (va_cpy (a ((l1 + 1))) (a ((t + 1))) 0 0 4))) ((t + 2))) 0 0 6))) ((t + 3)) (va_cpy (((ma_u1 ((ma_u1 a ((t + 1)) (va_cpy (a ((l1 + 1))) (a ((t + 1))) 0 0 4))) ((t + 2)) (va_cpy (((ma_u1 a ((t + 1)) (va_cpy (a ((l1 + 1))) (a ((t + 1))) 0 0 4))) ((l1 + 2))) (((ma_u1 a ((t + 1)) (va_cpy (a ((l1 + 1))) (a ((t + 1))) 0 0 4))) ((t + 2))) 0 0 6))) ((l1 + 3))) (((ma_u1 ((ma_u1 a ((t + 1)) (va_cpy (a ((l1 + 1))) (a ((t + 1))) 0 0 4))) ((t + 2)) (va_cpy (((ma_u1 a ((t + 1)) (va_cpy (a ((l1 + 1))) (a ((t + 1))) 0 0 4))) ((l1 + 2))) (((ma_u1 a ((t + 1)) (va_cpy (a ((l1 + 1))) (a ((t + 1))) 0 0 4))) ((t + 2))) 0 0 6))) ((t + 3))) 0 0 8))) ((t + 4)) (va_cpy (((ma_u1 ((ma_u1 ((ma_u1 a ((t + 1)) (va_cpy (a ((l1 + 1))) (a ((t + 1))) 0 0 4))) ((t + 2)) (va_cpy (((ma_u1 a ((t + 1)) (va_cpy (a ((l1 + 1))) (a ((t + 1))) 0 0 4))) ((l1 + 2))) (((ma_u1 a ((t + 1)) (va_cpy (a ((l1 + 1))) (a ((t + 1))) 0 0 4))) ((t + 2))) 0 0 6))) ((t + 3)) (va_cpy (((ma_u1 ((ma_u1 a ((t + 1)) (va_cpy (a ((l1 + 1))) (a ((t + 1))) 0 0 4))) ((t + 2)) (va_cpy (((ma_u1 a ((t + 1)) (va_cpy (a ((l1 + 1))) (a ((t + 1))) 0 0 4))) ((l1 + 2))) (((ma_u1 a ((t + 1)) (va_cpy (a ((l1 + 1))) (a ((t + 1))) 0 0 4))) ((t + 2))) 0 0 6))) ((l1 + 3))) (((ma_u1 ((ma_u1 a ((t + 1)) (va_cpy (a ((l1 + 1))) (a ((t + 1))) 0 0 4))) ((t + 2)) (va_cpy (((ma_u1 a ((t + 1)) (va_cpy (a ((l1 + 1))) (a ((t + 1))) 0 0 4))) ((l1 + 2))) (((ma_u1 a ((t + 1)) (va_cpy (a ((l1 + 1))) (a ((t + 1))) 0 0 4))) ((t + 2))) 0 0 6))) ((t + 3))) 0 0 8))) ((l1 + 4))) (((ma_u1 ((ma_u1 ((ma_u1 a ((t + 1)) (va_cpy (a ((l1 + 1))) (a ((t + 1))) 0 0 4))) ((t + 2)) (va_cpy (((ma_u1 a ((t + 1)) (va_cpy (a ((l1 + 1))) (a ((t + 1))) 0 0 4))) ((l1 + 2))) (((ma_u1 a ((t + 1)) (va_cpy (a ((l1 + 1))) (a ((t + 1))) 0 0 4))) ((t + 2))) 0 0 6))) ((t + 3)) (va_cpy (((ma_u1 ((ma_u1 a ((t + 1)) (va_cpy (a ((l1 + 1))) (a ((t + 1))) 0 0 4))) ((t + 2)) (va_cpy (((ma_u1 a ((t + 1)) (va_cpy (a ((l1 + 1))) (a ((t + 1))) 0 0 4))) ((l1 + 2))) (((ma_u1 a ((t + 1)) (va_cpy (a ((l1 + 1))) (a ((t + 1))) 0 0 4))) ((t + 2))) 0 0 6))) ((l1 + 3))) (((ma_u1 ((ma_u1 a ((t + 1)) (va_cpy (a ((l1 + 1))) (a ((t + 1))) 0 0 4))) ((t + 2)) (va_cpy (((ma_u1 a ((t + 1)) (va_cpy (a ((l1 + 1))) (a ((t + 1))) 0 0 4))) ((l1 + 2))) (((ma_u1 a ((t + 1)) (va_cpy (a ((l1 + 1))) (a ((t + 1))) 0 0 4))) ((t + 2))) 0 0 6))) ((t + 3))) 0 0 8))) ((t + 4))) 0 0 8))) ((l1 + 5))) (((ma_u1 ((ma_u1 ((ma_u1 ((ma_u1 a ((t + 1)) (va_cpy (a ((l1 + 1))) (a ((t + 1))) 0 0 4))) ((t + 2)) (va_cpy (((ma_u1 a ((t + 1)) (va_cpy (a ((l1 + 1))) (a ((t + 1))) 0 0 4))) ((l1 + 2))) (((ma_u1 a ((t + 1)) (va_cpy (a ((l1 + 1))) (a ((t + 1))) 0 0 4))) ((t + 2))) 0 0 6))) ((t + 3)) (va_cpy (((ma_u1 ((ma_u1 a ((t + 1)) (va_cpy (a ((l1 + 1))) (a ((t + 1))) 0 0 4))) ((t + 2)) (va_cpy (((ma_u1 a ((t + 1)) (va_cpy (a ((l1 + 1))) (a ((t + 1))) 0 0 4))) ((l1 + 2))) (((ma_u1 a ((t + 1)) (va_cpy (a ((l1 + 1))) (a ((t + 1))) 0 0 4))) ((t + 2))) 0 0 6))) ((l1 + 3))) (((ma_u1 ((ma_u1 a ((t + 1)) (va_cpy (a ((l1 + 1))) (a ((t + 1))) 0 0 4))) ((t + 2)) (va_cpy (((ma_u1 a ((t + 1)) (va_cpy (a ((l1 + 1))) (a ((t + 1))) 0 0 4))) ((l1 + 2))) (((ma_u1 a ((t + 1)) (va_cpy (a ((l1 + 1))) (a ((t + 1))) 0 0 4))) ((t + 2))) 0 0 6))) ((t + 3))) 0 0 8))) ((t + 4)) (va_cpy (((ma_u1 ((ma_u1 ((ma_u1 a ((t + 1)) (va_cpy (a ((l1 + 1))) (a ((t + 1))) 0 0 4))) ((t + 2)) (va_cpy (((ma_u1 a ((t + 1)) (va_cpy (a ((l1 + 1))) (a ((t + 1))) 0 0 4))) ((l1 + 2))) (((ma_u1 a ((t + 1)) (va_cpy (a ((l1 + 1))) (a ((t + 1))) 0 0 4))) ((t + 2))) 0 0 6))) ((t + 3)) (va_cpy (((ma_u1 ((ma_u1 a ((t + 1)) (va_cpy (a ((l1 + 1))) (a ((t + 1))) 0 0 4))) ((t + 2)) (va_cpy (((ma_u1 a ((t + 1)) (va_cpy (a ((l1 + 1))) (a ((t + 1))) 0 0 4))) ((l1 + 2))) (((ma_u1 a ((t + 1)) (va_cpy (a ((l1 + 1))) (a ((t + 1))) 0 0 4))) ((t + 2))) 0 0 6))) ((l1 + 3))) (((ma_u1 ((ma_u1 a ((t + 1)) (va_cpy (a ((l1 + 1))) (a ((t + 1))) 0 0 4))) ((t + 2)) (va_cpy (((ma_u1 a ((t + 1)) (va_cpy (a ((l1 + 1))) (a ((t + 1))) 0 0 4))) ((l1 + 2))) (((ma_u1 a ((t + 1)) (va_cpy (a ((l1 + 1))) (a ((t + 1))) 0 0 4))) ((t + 2))) 0 0 6))) ((t + 3))) 0 0 8))) ((l1 + 4))) (((ma_u1 ((ma_u1 ((ma_u1 a ((t + 1)) (va_cpy (a ((l1 + 1))) (a ((t + 1))) 0 0 4))) ((t + 2)) (va_cpy (((ma_u1 a ((t + 1)) (va_cpy (a ((l1 + 1))) (a ((t + 1))) 0 0 4))) ((l1 + 2))) (((ma_u1 a ((t + 1)) (va_cpy (a ((l1 + 1))) (a ((t + 1))) 0 0 4))) ((t + 2))) 0 0 6))) ((t + 3)) (va_cpy (((ma_u1 ((ma_u1 a ((t + 1)) (va_cpy (a ((l1 + 1))) (a ((t + 1))) 0 0 4))) ((t + 2)) (va_cpy (((ma_u1 a ((t + 1)) (va_cpy (a ((l1 + 1))) (a ((t + 1))) 0 0 4))) ((l1 + 2))) (((ma_u1 a ((t + 1)) (va_cpy (a ((l1 + 1))) (a ((t + 1))) 0 0 4))) ((t + 2))) 0 0 6))) ((l1 + 3))) (((ma_u1 ((ma_u1 a ((t + 1)) (va_cpy (a ((l1 + 1))) (a ((t + 1))) 0 0 4))) ((t + 2)) (va_cpy (((ma_u1 a ((t + 1)) (va_cpy (a ((l1 + 1))) (a ((t + 1))) 0 0 4))) ((l1 + 2))) (((ma_u1 a ((t + 1)) (va_cpy (a ((l1 + 1))) (a ((t + 1))) 0 0 4))) ((t + 2))) 0 0 6))) ((t + 3))) 0 0 8))) ((t + 4))) 0 0 8))) ((t + 5))) 0 0 8))) ((t + 6))) 0 0 8))) ((t + 7)) (va_cpy (((ma_u1 ((ma_u1 ((ma_u1 ((ma_u1 ((ma_u1 ((ma_u1 a ((t + 1)) (va_cpy (a ((l1 + 1))) (a ((t + 1))) 0 0 4))) ((t + 2)) (va_cpy (((ma_u1 a ((t + 1)) (va_cpy (a ((l1 + 1))) (a ((t + 1))) 0 0 4))) ((l1 + 2))) (((ma_u1 a ((t + 1)) (va_cpy (a ((l1 + 1))) (a ((t + 1))) 0 0 4))) ((t + 2))) 0 0 6))) ((t + 3)) (va_cpy (((ma_u1 ((ma_u1 a ((t + 1)) (va_cpy (a ((l1 + 1))) (a ((t + 1))) 0 0 4))) ((t + 2)) (va_cpy (((ma_u1 a ((t + 1)) (va_cpy (a ((l1 + 1))) (a ((t + 1))) 0 0 4))) ((l1 + 2))) (((ma_u1 a ((t + 1)) (va_cpy (a ((l1 + 1))) (a ((t + 1))) 0 0 4))) ((t + 2))) 0 0 6))) ((l1 + 3))) (((ma_u1 ((ma_u1 a ((t + 1)) (va_cpy (a ((l1 + 1))) (a ((t + 1))) 0 0 4))) ((t + 2)) (va_cpy (((ma_u1 a ((t + 1)) (va_cpy (a ((l1 + 1))) (a ((t + 1))) 0 0 4))) ((l1 + 2))) (((ma_u1 a ((t + 1)) (va_cpy (a ((l1 + 1))) (a ((t + 1))) 0 0 4))) ((t + 2))) 0 0 6))) ((t + 3))) 0 0 8))) ((t + 4)) (va_cpy (((ma_u1 ((ma_u1 ((ma_u1 a ((t + 1)) (va_cpy (a ((l1 + 1))) (a ((t + 1))) 0 0 4))) ((t + 2)) (va_cpy (((ma_u1 a ((t + 1)) (va_cpy (a ((l1 + 1))) (a ((t + 1))) 0 0 4))) ((l1 + 2))) (((ma_u1 a ((t + 1)) (va_cpy (a ((l1 + 1))) (a ((t + 1))) 0 0 4))) ((t + 2))) 0 0 6))) ((t + 3)) (va_cpy (((ma_u1 ((ma_u1 a ((t + 1)) (va_cpy (a ((l1 + 1))) (a ((t + 1))) 0 0 4))) ((t + 2)) (va_cpy (((ma_u1 a ((t + 1)) (va_cpy (a ((l1 + 1))) (a ((t + 1))) 0 0 4))) ((l1 + 2))) (((ma_u1 a ((t + 1)) (va_cpy (a ((l1 + 1))) (a ((t + 1))) 0 0 4))) ((t + 2))) 0 0 6))) ((l1 + 3))) (((ma_u1 ((ma_u1 a ((t + 1)) (va_cpy (a ((l1 + 1))) (a ((t + 1))) 0 0 4))) ((t + 2)) (va_cpy (((ma_u1 a ((t + 1)) (va_cpy (a ((l1 + 1))) (a ((t + 1))) 0 0 4))) ((l1 + 2))) (((ma_u1 a ((t + 1)) (va_cpy (a ((l1 + 1))) (a ((t + 1))) 0 0 4))) ((t + 2))) 0 0 6))) ((t + 3))) 0 0 8))) ((l1 + 4))) (((ma_u1 ((ma_u1 ((ma_u1 a ((t + 1)) (va_cpy (a ((l1 + 1))) (a ((t + 1))) 0 0 4))) ((t + 2)) (va_cpy (((ma_u1 a ((t + 1)) (va_cpy (a ((l1 + 1))) (a ((t + 1))) 0 0 4))) ((l1 + 2))) (((ma_u1 a ((t + 1)) (va_cpy (a ((l1 + 1))) (a ((t + 1))) 0 0 4))) ((t + 2))) 0 0 6))) ((t + 3)) (va_cpy (((ma_u1 ((ma_u1 a ((t + 1)) (va_cpy (a ((l1 + 1))) (a ((t + 1))) 0 0 4))) ((t + 2)) (va_cpy (((ma_u1 a ((t + 1)) (va_cpy (a ((l1 + 1))) (a ((t + 1))) 0 0 4))) ((l1 + 2))) (((ma_u1 a ((t + 1)) (va_cpy (a ((l1 + 1))) (a ((t + 1))) 0 0 4))) ((t + 2))) 0 0 6))) ((l1 + 3))) (((ma_u1 ((ma_u1 a ((t + 1)) (va_cpy (a ((l1 + 1))) (a ((t + 1))) 0 0 4))) ((t + 2)) (va_cpy (((ma_u1 a ((t + 1)) (va_cpy (a ((l1 + 1))) (a ((t + 1))) 0 0 4))) ((l1 + 2))) (((ma_u1 a ((t + 1)) (va_cpy (a ((l1 + 1))) (a ((t + 1))) 0 0 4))) ((t + 2))) 0 0 6))) ((t + 3))) 0 0 8))) ((t + 4))) 0 0 8))) ((t + 5)) (va_cpy (((ma_u1 ((ma_u1 ((ma_u1 ((ma_u1 a ((t + 1)) (va_cpy (a ((l1 + 1))) (a ((t + 1))) 0 0 4))) ((t + 2)) (va_cpy (((ma_u1 a ((t + 1)) (va_cpy (a ((l1 + 1))) (a ((t + 1))) 0 0 4))) ((l1 + 2))) (((ma_u1 a ((t + 1)) (va_cpy (a ((l1 + 1))) (a ((t + 1))) 0 0 4))) ((t + 2))) 0 0 6))) ((t + 3)) (va_cpy (((ma_u1 ((ma_u1 a ((t + 1)) (va_cpy (a ((l1 + 1))) (a ((t + 1))) 0 0 4))) ((t + 2)) (va_cpy (((ma_u1 a ((t + 1)) (va_cpy (a ((l1 + 1))) (a ((t + 1))) 0 0 4))) ((l1 + 2))) (((ma_u1 a ((t + 1)) (va_cpy (a ((l1 + 1))) (a ((t + 1))) 0 0 4))) ((t + 2))) 0 0 6))) ((l1 + 3))) (((ma_u1 ((ma_u1 a ((t + 1)) (va_cpy (a ((l1 + 1))) (a ((t + 1))) 0 0 4))) ((t + 2)) (va_cpy (((ma_u1 a ((t + 1)) (va_cpy (a ((l1 + 1))) (a ((t + 1))) 0 0 4))) ((l1 + 2))) (((ma_u1 a ((t + 1)) (va_cpy (a ((l1 + 1))) (a ((t + 1))) 0 0 4))) ((t + 2))) 0 0 6))) ((t + 3))) 0 0 8))) ((t + 4)) (va_cpy (((ma_u1 ((ma_u1 ((ma_u1 a ((t + 1)) (va_cpy (a ((l1 + 1))) (a ((t + 1))) 0 0 4))) ((t + 2)) (va_cpy (((ma_u1 a ((t + 1)) (va_cpy (a ((l1 + 1))) (a ((t + 1))) 0 0 4))) ((l1 + 2))) (((ma_u1 a ((t + 1)) (va_cpy (a ((l1 + 1))) (a ((t + 1))) 0 0 4))) ((t + 2))) 0 0 6))) ((t + 3)) (va_cpy (((ma_u1 ((ma_u1 a ((t + 1)) (va_cpy (a ((l1 + 1))) (a ((t + 1))) 0 0 4))) ((t + 2)) (va_cpy (((ma_u1 a ((t + 1)) (va_cpy (a ((l1 + 1))) (a ((t + 1))) 0 0 4))) ((l1 + 2))) (((ma_u1 a ((t + 1)) (va_cpy (a ((l1 + 1))) (a ((t + 1))) 0 0 4))) ((t + 2))) 0 0 6))) ((l1 + 3))) (((ma_u1 ((ma_u1 a ((t + 1)) (va_cpy (a ((l1 + 1))) (a ((t + 1))) 0 0 4))) ((t + 2)) (va_cpy (((ma_u1 a ((t + 1)) (va_cpy (a ((l1 + 1))) (a ((t + 1))) 0 0 4))) ((l1 + 2))) (((ma_u1 a ((t + 1)) (va_cpy (a ((l1 + 1))) (a ((t + 1))) 0 0 4))) ((t + 2))) 0 0 6))) ((t + 3))) 0 0 8))) ((l1 + 4))) (((ma_u1 ((ma_u1 ((ma_u1 a ((t + 1)) (va_cpy (a ((l1 + 1))) (a ((t + 1))) 0 0 4))) ((t + 2)) (va_cpy (((ma_u1 a ((t + 1)) (va_cpy (a ((l1 + 1))) (a ((t + 1))) 0 0 4))) ((l1 + 2))) (((ma_u1 a ((t + 1)) (va_cpy (a ((l1 + 1))) (a ((t + 1))) 0 0 4))) ((t + 2))) 0 0 6))) ((t + 3)) (va_cpy (((ma_u1 ((ma_u1 a ((t + 1)) (va_cpy (a ((l1 + 1))) (a ((t + 1))) 0 0 4))) ((t + 2)) (va_cpy (((ma_u1 a ((t + 1)) (va_cpy (a ((l1 + 1))) (a ((t + 1))) 0 0 4))) ((l1 + 2))) (((ma_u1 a ((t + 1)) (va_cpy (a ((l1 + 1))) (a ((t + 1))) 0 0 4))) ((t + 2))) 0 0 6))) ((l1 + 3))) (((ma_u1 ((ma_u1 a ((t + 1)) (va_cpy (a ((l1 + 1))) (a ((t + 1))) 0 0 4))) ((t + 2)) (va_cpy (((ma_u1 a ((t + 1)) (va_cpy (a ((l1 + 1))) (a ((t + 1))) 0 0 4))) ((l1 + 2))) (((ma_u1 a ((t + 1)) (va_cpy (a ((l1 + 1))) (a ((t + 1))) 0 0 4))) ((t + 2))) 0 0 6))) ((t + 3))) 0 0 8))) ((t + 4))) 0 0 8))) ((l1 + 5))) (((ma_u1 ((ma_u1 ((ma_u1 ((ma_u1 a ((t + 1)) (va_cpy (a ((l1 + 1))) (a ((t + 1))) 0 0 4))) ((t + 2)) (va_cpy (((ma_u1 a ((t + 1)) (va_cpy (a ((l1 + 1))) (a ((t + 1))) 0 0 4))) ((l1 + 2))) (((ma_u1 a ((t + 1)) (va_cpy (a ((l1 + 1))) (a ((t + 1))) 0 0 4))) ((t + 2))) 0 0 6))) ((t + 3)) (va_cpy (((ma_u1 ((ma_u1 a ((t + 1)) (va_cpy (a ((l1 + 1))) (a ((t + 1))) 0 0 4))) ((t + 2)) (va_cpy (((ma_u1 a ((t + 1)) (va_cpy (a ((l1 + 1))) (a ((t + 1))) 0 0 4))) ((l1 + 2))) (((ma_u1 a ((t + 1)) (va_cpy (a ((l1 + 1))) (a ((t + 1))) 0 0 4))) ((t + 2))) 0 0 6))) ((l1 + 3))) (((ma_u1 ((ma_u1 a ((t + 1)) (va_cpy (a ((l1 + 1))) (a ((t + 1))) 0 0 4))) ((t + 2)) (va_cpy (((ma_u1 a ((t + 1)) (va_cpy (a ((l1 + 1))) (a ((t + 1))) 0 0 4))) ((l1 + 2))) (((ma_u1 a ((t + 1)) (va_cpy (a ((l1 + 1))) (a ((t + 1))) 0 0 4))) ((t + 2))) 0 0 6))) ((t + 3))) 0 0 8))) ((t + 4)) (va_cpy (((ma_u1 ((ma_u1 ((ma_u1 a ((t + 1)) (va_cpy (a ((l1 + 1))) (a ((t + 1))) 0 0 4))) ((t + 2)) (va_cpy (((ma_u1 a ((t + 1)) (va_cpy (a ((l1 + 1))) (a ((t + 1))) 0 0 4))) ((l1 + 2))) (((ma_u1 a ((t + 1)) (va_cpy (a ((l1 + 1))) (a ((t + 1))) 0 0 4))) ((t + 2))) 0 0 6))) ((t + 3)) (va_cpy (((ma_u1 ((ma_u1 a ((t + 1)) (va_cpy (a ((l1 + 1))) (a ((t + 1))) 0 0 4))) ((t + 2)) (va_cpy (((ma_u1 a ((t + 1)) (va_cpy (a ((l1 + 1))) (a ((t + 1))) 0 0 4))) ((l1 + 2))) (((ma_u1 a ((t + 1)) (va_cpy (a ((l1 + 1))) (a ((t + 1))) 0 0 4))) ((t + 2))) 0 0 6))) ((l1 + 3))) (((ma_u1 ((ma_u1 a ((t + 1)) (va_cpy (a ((l1 + 1))) (a ((t + 1))) 0 0 4))) ((t + 2)) (va_cpy (((ma_u1 a ((t + 1)) (va_cpy (a ((l1 + 1))) (a ((t + 1))) 0 0 4))) ((l1 + 2))) (((ma_u1 a ((t + 1)) (va_cpy (a ((l1 + 1))) (a ((t + 1))) 0 0 4))) ((t + 2))) 0 0 6))) ((t + 3))) 0 0 8))) ((l1 + 4))) (((ma_u1 ((ma_u1 ((ma_u1 a ((t + 1)) (va_cpy (a ((l1 + 1))) (a ((t + 1))) 0 0 4))) ((t + 2)) (va_cpy (((ma_u1 a ((t + 1)) (va_cpy (a ((l1 + 1))) (a ((t + 1))) 0 0 4))) ((l1 + 2))) (((ma_u1 a ((t + 1)) (va_cpy (a ((l1 + 1))) (a ((t + 1))) 0 0 4))) ((t + 2))) 0 0 6))) ((t + 3)) (va_cpy (((ma_u1 ((ma_u1 a ((t + 1)) (va_cpy (a ((l1 + 1))) (a ((t + 1))) 0 0 4))) ((t + 2)) (va_cpy (((ma_u1 a ((t + 1)) (va_cpy (a ((l1 + 1))) (a ((t + 1))) 0 0 4))) ((l1 + 2))) (((ma_u1 a ((t + 1)) (va_cpy (a ((l1 + 1))) (a ((t + 1))) 0 0 4))) ((t + 2))) 0 0 6))) ((l1 + 3))) (((ma_u1 ((ma_u1 a ((t + 1)) (va_cpy (a ((l1 + 1))) (a ((t + 1))) 0 0 4))) ((t + 2)) (va_cpy (((ma_u1 a ((t + 1)) (va_cpy (a ((l1 + 1))) (a ((t + 1))) 0 0 4))) ((l1 + 2))) (((ma_u1 a ((t + 1)) (va_cpy (a ((l1 + 1))) (a ((t + 1))) 0 0 4))) ((t + 2))) 0 0 6))) ((t + 3))) 0 0 8))) ((t + 4))) 0 0 8))) ((t + 5))) 0 0 8))) ((t + 6)) (va_cpy (((ma_u1 ((ma_u1 ((ma_u1 ((ma_u1 ((ma_u1 a ((t + 1)) (va_cpy (a ((l1 + 1))) (a ((t + 1))) 0 0 4))) ((t + 2)) (va_cpy (((ma_u1 a ((t + 1)) (va_cpy (a ((l1 + 1))) (a ((t + 1))) 0 0 4))) ((l1 + 2))) (((ma_u1 a ((t + 1)) (va_cpy (a ((l1 + 1))) (a ((t + 1))) 0 0 4))) ((t + 2))) 0 0 6))) ((t + 3)) (va_cpy (((ma_u1 ((ma_u1 a ((t + 1)) (va_cpy (a ((l1 + 1))) (a ((t + 1))) 0 0 4))) ((t + 2)) (va_cpy (((ma_u1 a ((t + 1)) (va_cpy (a ((l1 + 1))) (a ((t + 1))) 0 0 4))) ((l1 + 2))) (((ma_u1 a ((t + 1)) (va_cpy (a ((l1 + 1))) (a ((t + 1))) 0 0 4))) ((t + 2))) 0 0 6))) ((l1 + 3))) (((ma_u1 ((ma_u1 a ((t + 1)) (va_cpy (a ((l1 + 1))) (a ((t + 1))) 0 0 4))) ((t + 2)) (va_cpy (((ma_u1 a ((t + 1)) (va_cpy (a ((l1 + 1))) (a ((t + 1))) 0 0 4))) ((l1 + 2))) (((ma_u1 a ((t + 1)) (va_cpy (a ((l1 + 1))) (a ((t + 1))) 0 0 4))) ((t + 2))) 0 0 6))) ((t + 3))) 0 0 8))) ((t + 4)) (va_cpy (((ma_u1 ((ma_u1 ((ma_u1 a ((t + 1)) (va_cpy (a ((l1 + 1))) (a ((t + 1))) 0 0 4))) ((t + 2)) (va_cpy (((ma_u1 a ((t + 1)) (va_cpy (a ((l1 + 1))) (a ((t + 1))) 0 0 4))) ((l1 + 2))) (((ma_u1 a ((t + 1)) (va_cpy (a ((l1 + 1))) (a ((t + 1))) 0 0 4))) ((t + 2))) 0 0 6))) ((t + 3)) (va_cpy (((ma_u1 ((ma_u1 a ((t + 1)) (va_cpy (a ((l1 + 1))) (a ((t + 1))) 0 0 4))) ((t + 2)) (va_cpy (((ma_u1 a ((t + 1)) (va_cpy (a ((l1 + 1))) (a ((t + 1))) 0 0 4))) ((l1 + 2))) (((ma_u1 a ((t + 1)) (va_cpy (a ((l1 + 1))) (a ((t + 1))) 0 0 4))) ((t + 2))) 0 0 6))) ((l1 + 3))) (((ma_u1 ((ma_u1 a ((t + 1)) (va_cpy (a ((l1 + 1))) (a ((t + 1))) 0 0 4))) ((t + 2)) (va_cpy (((ma_u1 a ((t + 1)) (va_cpy (a ((l1 + 1))) (a ((t + 1))) 0 0 4))) ((l1 + 2))) (((ma_u1 a ((t + 1)) (va_cpy (a ((l1 + 1))) (a ((t + 1))) 0 0 4))) ((t + 2))) 0 0 6))) ((t + 3))) 0 0 8))) ((l1 + 4))) (((ma_u1 ((ma_u1 ((ma_u1 a ((t + 1)) (va_cpy (a ((l1 + 1))) (a ((t + 1))) 0 0 4))) ((t + 2)) (va_cpy (((ma_u1 a ((t + 1)) (va_cpy (a ((l1 + 1))) (a ((t + 1))) 0 0 4))) ((l1 + 2))) (((ma_u1 a ((t + 1)) (va_cpy (a ((l1 + 1))) (a ((t + 1))) 0 0 4))) ((t + 2))) 0 0 6))) ((t + 3)) (va_cpy (((ma_u1 ((ma_u1 a ((t + 1)) (va_cpy (a ((l1 + 1))) (a ((t + 1))) 0 0 4))) ((t + 2)) (va_cpy (((ma_u1 a ((t + 1)) (va_cpy (a ((l1 + 1))) (a ((t + 1))) 0 0 4))) ((l1 + 2))) (((ma_u1 a ((t + 1)) (va_cpy (a ((l1 + 1))) (a ((t + 1))) 0 0 4))) ((t + 2))) 0 0 6))) ((l1 + 3))) (((ma_u1 ((ma_u1 a ((t + 1)) (va_cpy (a ((l1 + 1))) (a ((t + 1))) 0 0 4))) ((t + 2)) (va_cpy (((ma_u1 a ((t + 1)) (va_cpy (a ((l1 + 1))) (a ((t + 1))) 0 0 4))) ((l1 + 2))) (((ma_u1 a ((t + 1)) (va_cpy (a ((l1 + 1))) (a ((t + 1))) 0 0 4))) ((t + 2))) 0 0 6))) ((t + 3))) 0 0 8))) ((t + 4))) 0 0 8))) ((t + 5)) (va_cpy (((ma_u1 ((ma_u1 ((ma_u1 ((ma_u1 a ((t + 1)) (va_cpy (a ((l1 + 1))) (a ((t + 1))) 0 0 4))) ((t + 2)) (va_cpy (((ma_u1 a ((t + 1)) (va_cpy (a ((l1 + 1))) (a ((t + 1))) 0 0 4))) ((l1 + 2))) (((ma_u1 a ((t + 1)) (va_cpy (a ((l1 + 1))) (a ((t + 1))) 0 0 4))) ((t + 2))) 0 0 6))) ((t + 3)) (va_cpy (((ma_u1 ((ma_u1 a ((t + 1)) (va_cpy (a ((l1 + 1))) (a ((t + 1))) 0 0 4))) ((t + 2)) (va_cpy (((ma_u1 a ((t + 1)) (va_cpy (a ((l1 + 1))) (a ((t + 1))) 0 0 4))) ((l1 + 2))) (((ma_u1 a ((t + 1)) (va_cpy (a ((l1 + 1))) (a ((t + 1))) 0 0 4))) ((t + 2))) 0 0 6))) ((l1 + 3))) (((ma_u1 ((ma_u1 a ((t + 1)) (va_cpy (a ((l1 + 1))) (a ((t + 1))) 0 0 4))) ((t + 2)) (va_cpy (((ma_u1 a ((t + 1)) (va_cpy (a ((l1 + 1))) (a ((t + 1))) 0 0 4))) ((l1 + 2))) (((ma_u1 a ((t + 1)) (va_cpy (a ((l1 + 1))) (a ((t + 1))) 0 0 4))) ((t + 2))) 0 0 6))) ((t + 3))) 0 0 8))) ((t + 4)) (va_cpy (((ma_u1 ((ma_u1 ((ma_u1 a ((t + 1)) (va_cpy (a ((l1 + 1))) (a ((t + 1))) 0 0 4))) ((t + 2)) (va_cpy (((ma_u1 a ((t + 1)) (va_cpy (a ((l1 + 1))) (a ((t + 1))) 0 0 4))) ((l1 + 2))) (((ma_u1 a ((t + 1)) (va_cpy (a ((l1 + 1))) (a ((t + 1))) 0 0 4))) ((t + 2))) 0 0 6))) ((t + 3)) (va_cpy (((ma_u1 ((ma_u1 a ((t + 1)) (va_cpy (a ((l1 + 1))) (a ((t + 1))) 0 0 4))) ((t + 2)) (va_cpy (((ma_u1 a ((t + 1)) (va_cpy (a ((l1 + 1))) (a ((t + 1))) 0 0 4))) ((l1 + 2))) (((ma_u1 a ((t + 1)) (va_cpy (a ((l1 + 1))) (a ((t + 1))) 0 0 4))) ((t + 2))) 0 0 6))) ((l1 + 3))) (((ma_u1 ((ma_u1 a ((t + 1)) (va_cpy (a ((l1 + 1))) (a ((t + 1))) 0 0 4))) ((t + 2)) (va_cpy (((ma_u1 a ((t + 1)) (va_cpy (a ((l1 + 1))) (a ((t + 1))) 0 0 4))) ((l1 + 2))) (((ma_u1 a ((t + 1)) (va_cpy (a ((l1 + 1))) (a ((t + 1))) 0 0 4))) ((t + 2))) 0 0 6))) ((t + 3))) 0 0 8))) ((l1 + 4))) (((ma_u1 ((ma_u1 ((ma_u1 a ((t + 1)) (va_cpy (a ((l1 + 1))) (a ((t + 1))) 0 0 4))) ((t + 2)) (va_cpy (((ma_u1 a ((t + 1)) (va_cpy (a ((l1 + 1))) (a ((t + 1))) 0 0 4))) ((l1 + 2))) (((ma_u1 a ((t + 1)) (va_cpy (a ((l1 + 1))) (a ((t + 1))) 0 0 4))) ((t + 2))) 0 0 6))) ((t + 3)) (va_cpy (((ma_u1 ((ma_u1 a ((t + 1)) (va_cpy (a ((l1 + 1))) (a ((t + 1))) 0 0 4))) ((t + 2)) (va_cpy (((ma_u1 a ((t + 1)) (va_cpy (a ((l1 + 1))) (a ((t + 1))) 0 0 4))) ((l1 + 2))) (((ma_u1 a ((t + 1)) (va_cpy (a ((l1 + 1))) (a ((t + 1))) 0 0 4))) ((t + 2))) 0 0 6))) ((l1 + 3))) (((ma_u1 ((ma_u1 a ((t + 1)) (va_cpy (a ((l1 + 1))) (a ((t + 1))) 0 0 4))) ((t + 2)) (va_cpy (((ma_u1 a ((t + 1)) (va_cpy (a ((l1 + 1))) (a ((t + 1))) 0 0 4))) ((l1 + 2))) (((ma_u1 a ((t + 1)) (va_cpy (a ((l1 + 1))) (a ((t + 1))) 0 0 4))) ((t + 2))) 0 0 6))) ((t + 3))) 0 0 8))) ((t + 4))) 0 0 8))) ((l1 + 5))) (((ma_u1 ((ma_u1 ((ma_u1 ((ma_u1 a ((t + 1)) (va_cpy (a ((l1 + 1))) (a ((t + 1))) 0 0 4))) ((t + 2)) (va_cpy (((ma_u1 a ((t + 1)) (va_cpy (a ((l1 + 1))) (a ((t + 1))) 0 0 4))) ((l1 + 2))) (((ma_u1 a ((t + 1)) (va_cpy (a ((l1 + 1))) (a ((t + 1))) 0 0 4))) ((t + 2))) 0 0 6))) ((t + 3)) (va_cpy (((ma_u1 ((ma_u1 a ((t + 1)) (va_cpy (a ((l1 + 1))) (a ((t + 1))) 0 0 4))) ((t + 2)) (va_cpy (((ma_u1 a ((t + 1)) (va_cpy (a ((l1 + 1))) (a ((t + 1))) 0 0 4))) ((l1 + 2))) (((ma_u1 a ((t + 1)) (va_cpy (a ((l1 + 1))) (a ((t + 1))) 0 0 4))) ((t + 2))) 0 0 6))) ((l1 + 3))) (((ma_u1 ((ma_u1 a ((t + 1)) (va_cpy (a ((l1 + 1))) (a ((t + 1))) 0 0 4))) ((t + 2)) (va_cpy (((ma_u1 a ((t + 1)) (va_cpy (a ((l1 + 1))) (a ((t + 1))) 0 0 4))) ((l1 + 2))) (((ma_u1 a ((t + 1)) (va_cpy (a ((l1 + 1))) (a ((t + 1))) 0 0 4))) ((t + 2))) 0 0 6))) ((t + 3))) 0 0 8))) ((t + 4)) (va_cpy (((ma_u1 ((ma_u1 ((ma_u1 a ((t + 1)) (va_cpy (a ((l1 + 1))) (a ((t + 1))) 0 0 4))) ((t + 2)) (va_cpy (((ma_u1 a ((t + 1)) (va_cpy (a ((l1 + 1))) (a ((t + 1))) 0 0 4))) ((l1 + 2))) (((ma_u1 a ((t + 1)) (va_cpy (a ((l1 + 1))) (a ((t + 1))) 0 0 4))) ((t + 2))) 0 0 6))) ((t + 3)) (va_cpy (((ma_u1 ((ma_u1 a ((t + 1)) (va_cpy (a ((l1 + 1))) (a ((t + 1))) 0 0 4))) ((t + 2)) (va_cpy (((ma_u1 a ((t + 1)) (va_cpy (a ((l1 + 1))) (a ((t + 1))) 0 0 4))) ((l1 + 2))) (((ma_u1 a ((t + 1)) (va_cpy (a ((l1 + 1))) (a ((t + 1))) 0 0 4))) ((t + 2))) 0 0 6))) ((l1 + 3))) (((ma_u1 ((ma_u1 a ((t + 1)) (va_cpy (a ((l1 + 1))) (a ((t + 1))) 0 0 4))) ((t + 2)) (va_cpy (((ma_u1 a ((t + 1)) (va_cpy (a ((l1 + 1))) (a ((t + 1))) 0 0 4))) ((l1 + 2))) (((ma_u1 a ((t + 1)) (va_cpy (a ((l1 + 1))) (a ((t + 1))) 0 0 4))) ((t + 2))) 0 0 6))) ((t + 3))) 0 0 8))) ((l1 + 4))) (((ma_u1 ((ma_u1 ((ma_u1 a ((t + 1)) (va_cpy (a ((l1 + 1))) (a ((t + 1))) 0 0 4))) ((t + 2)) (va_cpy (((ma_u1 a ((t + 1)) (va_cpy (a ((l1 + 1))) (a ((t + 1))) 0 0 4))) ((l1 + 2))) (((ma_u1 a ((t + 1)) (va_cpy (a ((l1 + 1))) (a ((t + 1))) 0 0 4))) ((t + 2))) 0 0 6))) ((t + 3)) (va_cpy (((ma_u1 ((ma_u1 a ((t + 1)) (va_cpy (a ((l1 + 1))) (a ((t + 1))) 0 0 4))) ((t + 2)) (va_cpy (((ma_u1 a ((t + 1)) (va_cpy (a ((l1 + 1))) (a ((t + 1))) 0 0 4))) ((l1 + 2))) (((ma_u1 a ((t + 1)) (va_cpy (a ((l1 + 1))) (a ((t + 1))) 0 0 4))) ((t + 2))) 0 0 6))) ((l1 + 3))) (((ma_u1 ((ma_u1 a ((t + 1)) (va_cpy (a ((l1 + 1))) (a ((t + 1))) 0 0 4))) ((t + 2)) (va_cpy (((ma_u1 a ((t + 1)) (va_cpy (a ((l1 + 1))) (a ((t + 1))) 0 0 4))) ((l1 + 2))) (((ma_u1 a ((t + 1)) (va_cpy (a ((l1 + 1))) (a ((t + 1))) 0 0 4))) ((t + 2))) 0 0 6))) ((t + 3))) 0 0 8))) ((t + 4))) 0 0 8))) ((t + 5))) 0 0 8))) ((l1 + 6))) (((ma_u1 ((ma_u1 ((ma_u1 ((ma_u1 ((ma_u1 a ((t + 1)) (va_cpy (a ((l1 + 1))) (a ((t + 1))) 0 0 4))) ((t + 2)) (va_cpy (((ma_u1 a ((t + 1)) (va_cpy (a ((l1 + 1))) (a ((t + 1))) 0 0 4))) ((l1 + 2))) (((ma_u1 a ((t + 1)) (va_cpy (a ((l1 + 1))) (a ((t + 1))) 0 0 4))) ((t + 2))) 0 0 6))) ((t + 3)) (va_cpy (((ma_u1 ((ma_u1 a ((t + 1)) (va_cpy (a ((l1 + 1))) (a ((t + 1))) 0 0 4))) ((t + 2)) (va_cpy (((ma_u1 a ((t + 1)) (va_cpy (a ((l1 + 1))) (a ((t + 1))) 0 0 4))) ((l1 + 2))) (((ma_u1 a ((t + 1)) (va_cpy (a ((l1 + 1))) (a ((t + 1))) 0 0 4))) ((t + 2))) 0 0 6))) ((l1 + 3))) (((ma_u1 ((ma_u1 a ((t + 1)) (va_cpy (a ((l1 + 1))) (a ((t + 1))) 0 0 4))) ((t + 2)) (va_cpy (((ma_u1 a ((t + 1)) (va_cpy (a ((l1 + 1))) (a ((t + 1))) 0 0 4))) ((l1 + 2))) (((ma_u1 a ((t + 1)) (va_cpy (a ((l1 + 1))) (a ((t + 1))) 0 0 4))) ((t + 2))) 0 0 6))) ((t + 3))) 0 0 8))) ((t + 4)) (va_cpy (((ma_u1 ((ma_u1 ((ma_u1 a ((t + 1)) (va_cpy (a ((l1 + 1))) (a ((t + 1))) 0 0 4))) ((t + 2)) (va_cpy (((ma_u1 a ((t + 1)) (va_cpy (a ((l1 + 1))) (a ((t + 1))) 0 0 4))) ((l1 + 2))) (((ma_u1 a ((t + 1)) (va_cpy (a ((l1 + 1))) (a ((t + 1))) 0 0 4))) ((t + 2))) 0 0 6))) ((t + 3)) (va_cpy (((ma_u1 ((ma_u1 a ((t + 1)) (va_cpy (a ((l1 + 1))) (a ((t + 1))) 0 0 4))) ((t + 2)) (va_cpy (((ma_u1 a ((t + 1)) (va_cpy (a ((l1 + 1))) (a ((t + 1))) 0 0 4))) ((l1 + 2))) (((ma_u1 a ((t + 1)) (va_cpy (a ((l1 + 1))) (a ((t + 1))) 0 0 4))) ((t + 2))) 0 0 6))) ((l1 + 3))) (((ma_u1 ((ma_u1 a ((t + 1)) (va_cpy (a ((l1 + 1))) (a ((t + 1))) 0 0 4))) ((t + 2)) (va_cpy (((ma_u1 a ((t + 1)) (va_cpy (a ((l1 + 1))) (a ((t + 1))) 0 0 4))) ((l1 + 2))) (((ma_u1 a ((t + 1)) (va_cpy (a ((l1 + 1))) (a ((t + 1))) 0 0 4))) ((t + 2))) 0 0 6))) ((t + 3))) 0 0 8))) ((l1 + 4))) (((ma_u1 ((ma_u1 ((ma_u1 a ((t + 1)) (va_cpy (a ((l1 + 1))) (a ((t + 1))) 0 0 4))) ((t + 2)) (va_cpy (((ma_u1 a ((t + 1)) (va_cpy (a ((l1 + 1))) (a ((t + 1))) 0 0 4))) ((l1 + 2))) (((ma_u1 a ((t + 1)) (va_cpy (a ((l1 + 1))) (a ((t + 1))) 0 0 4))) ((t + 2))) 0 0 6))) ((t + 3)) (va_cpy (((ma_u1 ((ma_u1 a ((t + 1)) (va_cpy (a ((l1 + 1))) (a ((t + 1))) 0 0 4))) ((t + 2)) (va_cpy (((ma_u1 a ((t + 1)) (va_cpy (a ((l1 + 1))) (a ((t + 1))) 0 0 4))) ((l1 + 2))) (((ma_u1 a ((t + 1)) (va_cpy (a ((l1 + 1))) (a ((t + 1))) 0 0 4))) ((t + 2))) 0 0 6))) ((l1 + 3))) (((ma_u1 ((ma_u1 a ((t + 1)) (va_cpy (a ((l1 + 1))) (a ((t + 1))) 0 0 4))) ((t + 2)) (va_cpy (((ma_u1 a ((t + 1)) (va_cpy (a ((l1 + 1))) (a ((t + 1))) 0 0 4))) ((l1 + 2))) (((ma_u1 a ((t + 1)) (va_cpy (a ((l1 + 1))) (a ((t + 1))) 0 0 4))) ((t + 2))) 0 0 6))) ((t + 3))) 0 0 8))) ((t + 4))) 0 0 8))) ((t + 5)) (va_cpy (((ma_u1 ((ma_u1 ((ma_u1 ((ma_u1 a ((t + 1)) (va_cpy (a ((l1 + 1))) (a ((t + 1))) 0 0 4))) ((t + 2)) (va_cpy (((ma_u1 a ((t + 1)) (va_cpy (a ((l1 + 1))) (a ((t + 1))) 0 0 4))) ((l1 + 2))) (((ma_u1 a ((t + 1)) (va_cpy (a ((l1 + 1))) (a ((t + 1))) 0 0 4))) ((t + 2))) 0 0 6))) ((t + 3)) (va_cpy (((ma_u1 ((ma_u1 a ((t + 1)) (va_cpy (a ((l1 + 1))) (a ((t + 1))) 0 0 4))) ((t + 2)) (va_cpy (((ma_u1 a ((t + 1)) (va_cpy (a ((l1 + 1))) (a ((t + 1))) 0 0 4))) ((l1 + 2))) (((ma_u1 a ((t + 1)) (va_cpy (a ((l1 + 1))) (a ((t + 1))) 0 0 4))) ((t + 2))) 0 0 6))) ((l1 + 3))) (((ma_u1 ((ma_u1 a ((t + 1)) (va_cpy (a ((l1 + 1))) (a ((t + 1))) 0 0 4))) ((t + 2)) (va_cpy (((ma_u1 a ((t + 1)) (va_cpy (a ((l1 + 1))) (a ((t + 1))) 0 0 4))) ((l1 + 2))) (((ma_u1 a ((t + 1)) (va_cpy (a ((l1 + 1))) (a ((t + 1))) 0 0 4))) ((t + 2))) 0 0 6))) ((t + 3))) 0 0 8))) ((t + 4)) (va_cpy (((ma_u1 ((ma_u1 ((ma_u1 a ((t + 1)) (va_cpy (a ((l1 + 1))) (a ((t + 1))) 0 0 4))) ((t + 2)) (va_cpy (((ma_u1 a ((t + 1)) (va_cpy (a ((l1 + 1))) (a ((t + 1))) 0 0 4))) ((l1 + 2))) (((ma_u1 a ((t + 1)) (va_cpy (a ((l1 + 1))) (a ((t + 1))) 0 0 4))) ((t + 2))) 0 0 6))) ((t + 3)) (va_cpy (((ma_u1 ((ma_u1 a ((t + 1)) (va_cpy (a ((l1 + 1))) (a ((t + 1))) 0 0 4))) ((t + 2)) (va_cpy (((ma_u1 a ((t + 1)) (va_cpy (a ((l1 + 1))) (a ((t + 1))) 0 0 4))) ((l1 + 2))) (((ma_u1 a ((t + 1)) (va_cpy (a ((l1 + 1))) (a ((t + 1))) 0 0 4))) ((t + 2))) 0 0 6))) ((l1 + 3))) (((ma_u1 ((ma_u1 a ((t + 1)) (va_cpy (a ((l1 + 1))) (a ((t + 1))) 0 0 4))) ((t + 2)) (va_cpy (((ma_u1 a ((t + 1)) (va_cpy (a ((l1 + 1))) (a ((t + 1))) 0 0 4))) ((l1 + 2))) (((ma_u1 a ((t + 1)) (va_cpy (a ((l1 + 1))) (a ((t + 1))) 0 0 4))) ((t + 2))) 0 0 6))) ((t + 3))) 0 0 8))) ((l1 + 4))) (((ma_u1 ((ma_u1 ((ma_u1 a ((t + 1)) (va_cpy (a ((l1 + 1))) (a ((t + 1))) 0 0 4))) ((t + 2)) (va_cpy (((ma_u1 a ((t + 1)) (va_cpy (a ((l1 + 1))) (a ((t + 1))) 0 0 4))) ((l1 + 2))) (((ma_u1 a ((t + 1)) (va_cpy (a ((l1 + 1))) (a ((t + 1))) 0 0 4))) ((t + 2))) 0 0 6))) ((t + 3)) (va_cpy (((ma_u1 ((ma_u1 a ((t + 1)) (va_cpy (a ((l1 + 1))) (a ((t + 1))) 0 0 4))) ((t + 2)) (va_cpy (((ma_u1 a ((t + 1)) (va_cpy (a ((l1 + 1))) (a ((t + 1))) 0 0 4))) ((l1 + 2))) (((ma_u1 a ((t + 1)) (va_cpy (a ((l1 + 1))) (a ((t + 1))) 0 0 4))) ((t + 2))) 0 0 6))) ((l1 + 3))) (((ma_u1 ((ma_u1 a ((t + 1)) (va_cpy (a ((l1 + 1))) (a ((t + 1))) 0 0 4))) ((t + 2)) (va_cpy (((ma_u1 a ((t + 1)) (va_cpy (a ((l1 + 1))) (a ((t + 1))) 0 0 4))) ((l1 + 2))) (((ma_u1 a ((t + 1)) (va_cpy (a ((l1 + 1))) (a ((t + 1))) 0 0 4))) ((t + 2))) 0 0 6))) ((t + 3))) 0 0 8))) ((t + 4))) 0 0 8))) ((l1 + 5))) (((ma_u1 ((ma_u1 ((ma_u1 ((ma_u1 a ((t + 1)) (va_cpy (a ((l1 + 1))) (a ((t + 1))) 0 0 4))) ((t + 2)) (va_cpy (((ma_u1 a ((t + 1)) (va_cpy (a ((l1 + 1))) (a ((t + 1))) 0 0 4))) ((l1 + 2))) (((ma_u1 a ((t + 1)) (va_cpy (a ((l1 + 1))) (a ((t + 1))) 0 0 4))) ((t + 2))) 0 0 6))) ((t + 3)) (va_cpy (((ma_u1 ((ma_u1 a ((t + 1)) (va_cpy (a ((l1 + 1))) (a ((t + 1))) 0 0 4))) ((t + 2)) (va_cpy (((ma_u1 a ((t + 1)) (va_cpy (a ((l1 + 1))) (a ((t + 1))) 0 0 4))) ((l1 + 2))) (((ma_u1 a ((t + 1)) (va_cpy (a ((l1 + 1))) (a ((t + 1))) 0 0 4))) ((t + 2))) 0 0 6))) ((l1 + 3))) (((ma_u1 ((ma_u1 a ((t + 1)) (va_cpy (a ((l1 + 1))) (a ((t + 1))) 0 0 4))) ((t + 2)) (va_cpy (((ma_u1 a ((t + 1)) (va_cpy (a ((l1 + 1))) (a ((t + 1))) 0 0 4))) ((l1 + 2))) (((ma_u1 a ((t + 1)) (va_cpy (a ((l1 + 1))) (a ((t + 1))) 0 0 4))) ((t + 2))) 0 0 6))) ((t + 3))) 0 0 8))) ((t + 4)) (va_cpy (((ma_u1 ((ma_u1 ((ma_u1 a ((t + 1)) (va_cpy (a ((l1 + 1))) (a ((t + 1))) 0 0 4))) ((t + 2)) (va_cpy (((ma_u1 a ((t + 1)) (va_cpy (a ((l1 + 1))) (a ((t + 1))) 0 0 4))) ((l1 + 2))) (((ma_u1 a ((t + 1)) (va_cpy (a ((l1 + 1))) (a ((t + 1))) 0 0 4))) ((t + 2))) 0 0 6))) ((t + 3)) (va_cpy (((ma_u1 ((ma_u1 a ((t + 1)) (va_cpy (a ((l1 + 1))) (a ((t + 1))) 0 0 4))) ((t + 2)) (va_cpy (((ma_u1 a ((t + 1)) (va_cpy (a ((l1 + 1))) (a ((t + 1))) 0 0 4))) ((l1 + 2))) (((ma_u1 a ((t + 1)) (va_cpy (a ((l1 + 1))) (a ((t + 1))) 0 0 4))) ((t + 2))) 0 0 6))) ((l1 + 3))) (((ma_u1 ((ma_u1 a ((t + 1)) (va_cpy (a ((l1 + 1))) (a ((t + 1))) 0 0 4))) ((t + 2)) (va_cpy (((ma_u1 a ((t + 1)) (va_cpy (a ((l1 + 1))) (a ((t + 1))) 0 0 4))) ((l1 + 2))) (((ma_u1 a ((t + 1)) (va_cpy (a ((l1 + 1))) (a ((t + 1))) 0 0 4))) ((t + 2))) 0 0 6))) ((t + 3))) 0 0 8))) ((l1 + 4))) (((ma_u1 ((ma_u1 ((ma_u1 a ((t + 1)) (va_cpy (a ((l1 + 1))) (a ((t + 1))) 0 0 4))) ((t + 2)) (va_cpy (((ma_u1 a ((t + 1)) (va_cpy (a ((l1 + 1))) (a ((t + 1))) 0 0 4))) ((l1 + 2))) (((ma_u1 a ((t + 1)) (va_cpy (a ((l1 + 1))) (a ((t + 1))) 0 0 4))) ((t + 2))) 0 0 6))) ((t + 3)) (va_cpy (((ma_u1 ((ma_u1 a ((t + 1)) (va_cpy (a ((l1 + 1))) (a ((t + 1))) 0 0 4))) ((t + 2)) (va_cpy (((ma_u1 a ((t + 1)) (va_cpy (a ((l1 + 1))) (a ((t + 1))) 0 0 4))) ((l1 + 2))) (((ma_u1 a ((t + 1)) (va_cpy (a ((l1 + 1))) (a ((t + 1))) 0 0 4))) ((t + 2))) 0 0 6))) ((l1 + 3))) (((ma_u1 ((ma_u1 a ((t + 1)) (va_cpy (a ((l1 + 1))) (a ((t + 1))) 0 0 4))) ((t + 2)) (va_cpy (((ma_u1 a ((t + 1)) (va_cpy (a ((l1 + 1))) (a ((t + 1))) 0 0 4))) ((l1 + 2))) (((ma_u1 a ((t + 1)) (va_cpy (a ((l1 + 1))) (a ((t + 1))) 0 0 4))) ((t + 2))) 0 0 6))) ((t + 3))) 0 0 8))) ((t + 4))) 0 0 8))) ((t + 5))) 0 0 8))) ((t + 6))) 0 0 8))) ((l1 + 7))) (((ma_u1 ((ma_u1 ((ma_u1 ((ma_u1 ((ma_u1 ((ma_u1 a ((t + 1)) (va_cpy (a ((l1 + 1))) (a ((t + 1))) 0 0 4))) ((t + 2)) (va_cpy (((ma_u1 a ((t + 1)) (va_cpy (a ((l1 + 1))) (a ((t + 1))) 0 0 4))) ((l1 + 2))) (((ma_u1 a ((t + 1)) (va_cpy (a ((l1 + 1))) (a ((t + 1))) 0 0 4))) ((t + 2))) 0 0 6))) ((t + 3)) (va_cpy (((ma_u1 ((ma_u1 a ((t + 1)) (va_cpy (a ((l1 + 1))) (a ((t + 1))) 0 0 4))) ((t + 2)) (va_cpy (((ma_u1 a ((t + 1)) (va_cpy (a ((l1 + 1))) (a ((t + 1))) 0 0 4))) ((l1 + 2))) (((ma_u1 a ((t + 1)) (va_cpy (a ((l1 + 1))) (a ((t + 1))) 0 0 4))) ((t + 2))) 0 0 6))) ((l1 + 3))) (((ma_u1 ((ma_u1 a ((t + 1)) (va_cpy (a ((l1 + 1))) (a ((t + 1))) 0 0 4))) ((t + 2)) (va_cpy (((ma_u1 a ((t + 1)) (va_cpy (a ((l1 + 1))) (a ((t + 1))) 0 0 4))) ((l1 + 2))) (((ma_u1 a ((t + 1)) (va_cpy (a ((l1 + 1))) (a ((t + 1))) 0 0 4))) ((t + 2))) 0 0 6))) ((t + 3))) 0 0 8))) ((t + 4)) (va_cpy (((ma_u1 ((ma_u1 ((ma_u1 a ((t + 1)) (va_cpy (a ((l1 + 1))) (a ((t + 1))) 0 0 4))) ((t + 2)) (va_cpy (((ma_u1 a ((t + 1)) (va_cpy (a ((l1 + 1))) (a ((t + 1))) 0 0 4))) ((l1 + 2))) (((ma_u1 a ((t + 1)) (va_cpy (a ((l1 + 1))) (a ((t + 1))) 0 0 4))) ((t + 2))) 0 0 6))) ((t + 3)) (va_cpy (((ma_u1 ((ma_u1 a ((t + 1)) (va_cpy (a ((l1 + 1))) (a ((t + 1))) 0 0 4))) ((t + 2)) (va_cpy (((ma_u1 a ((t + 1)) (va_cpy (a ((l1 + 1))) (a ((t + 1))) 0 0 4))) ((l1 + 2))) (((ma_u1 a ((t + 1)) (va_cpy (a ((l1 + 1))) (a ((t + 1))) 0 0 4))) ((t + 2))) 0 0 6))) ((l1 + 3))) (((ma_u1 ((ma_u1 a ((t + 1)) (va_cpy (a ((l1 + 1))) (a ((t + 1))) 0 0 4))) ((t + 2)) (va_cpy (((ma_u1 a ((t + 1)) (va_cpy (a ((l1 + 1))) (a ((t + 1))) 0 0 4))) ((l1 + 2))) (((ma_u1 a ((t + 1)) (va_cpy (a ((l1 + 1))) (a ((t + 1))) 0 0 4))) ((t + 2))) 0 0 6))) ((t + 3))) 0 0 8))) ((l1 + 4))) (((ma_u1 ((ma_u1 ((ma_u1 a ((t + 1)) (va_cpy (a ((l1 + 1))) (a ((t + 1))) 0 0 4))) ((t + 2)) (va_cpy (((ma_u1 a ((t + 1)) (va_cpy (a ((l1 + 1))) (a ((t + 1))) 0 0 4))) ((l1 + 2))) (((ma_u1 a ((t + 1)) (va_cpy (a ((l1 + 1))) (a ((t + 1))) 0 0 4))) ((t + 2))) 0 0 6))) ((t + 3)) (va_cpy (((ma_u1 ((ma_u1 a ((t + 1)) (va_cpy (a ((l1 + 1))) (a ((t + 1))) 0 0 4))) ((t + 2)) (va_cpy (((ma_u1 a ((t + 1)) (va_cpy (a ((l1 + 1))) (a ((t + 1))) 0 0 4))) ((l1 + 2))) (((ma_u1 a ((t + 1)) (va_cpy (a ((l1 + 1))) (a ((t + 1))) 0 0 4))) ((t + 2))) 0 0 6))) ((l1 + 3))) (((ma_u1 ((ma_u1 a ((t + 1)) (va_cpy (a ((l1 + 1))) (a ((t + 1))) 0 0 4))) ((t + 2)) (va_cpy (((ma_u1 a ((t + 1)) (va_cpy (a ((l1 + 1))) (a ((t + 1))) 0 0 4))) ((l1 + 2))) (((ma_u1 a ((t + 1)) (va_cpy (a ((l1 + 1))) (a ((t + 1))) 0 0 4))) ((t + 2))) 0 0 6))) ((t + 3))) 0 0 8))) ((t + 4))) 0 0 8))) ((t + 5)) (va_cpy (((ma_u1 ((ma_u1 ((ma_u1 ((ma_u1 a ((t + 1)) (va_cpy (a ((l1 + 1))) (a ((t + 1))) 0 0 4))) ((t + 2)) (va_cpy (((ma_u1 a ((t + 1)) (va_cpy (a ((l1 + 1))) (a ((t + 1))) 0 0 4))) ((l1 + 2))) (((ma_u1 a ((t + 1)) (va_cpy (a ((l1 + 1))) (a ((t + 1))) 0 0 4))) ((t + 2))) 0 0 6))) ((t + 3)) (va_cpy (((ma_u1 ((ma_u1 a ((t + 1)) (va_cpy (a ((l1 + 1))) (a ((t + 1))) 0 0 4))) ((t + 2)) (va_cpy (((ma_u1 a ((t + 1)) (va_cpy (a ((l1 + 1))) (a ((t + 1))) 0 0 4))) ((l1 + 2))) (((ma_u1 a ((t + 1)) (va_cpy (a ((l1 + 1))) (a ((t + 1))) 0 0 4))) ((t + 2))) 0 0 6))) ((l1 + 3))) (((ma_u1 ((ma_u1 a ((t + 1)) (va_cpy (a ((l1 + 1))) (a ((t + 1))) 0 0 4))) ((t + 2)) (va_cpy (((ma_u1 a ((t + 1)) (va_cpy (a ((l1 + 1))) (a ((t + 1))) 0 0 4))) ((l1 + 2))) (((ma_u1 a ((t + 1)) (va_cpy (a ((l1 + 1))) (a ((t + 1))) 0 0 4))) ((t + 2))) 0 0 6))) ((t + 3))) 0 0 8))) ((t + 4)) (va_cpy (((ma_u1 ((ma_u1 ((ma_u1 a ((t + 1)) (va_cpy (a ((l1 + 1))) (a ((t + 1))) 0 0 4))) ((t + 2)) (va_cpy (((ma_u1 a ((t + 1)) (va_cpy (a ((l1 + 1))) (a ((t + 1))) 0 0 4))) ((l1 + 2))) (((ma_u1 a ((t + 1)) (va_cpy (a ((l1 + 1))) (a ((t + 1))) 0 0 4))) ((t + 2))) 0 0 6))) ((t + 3)) (va_cpy (((ma_u1 ((ma_u1 a ((t + 1)) (va_cpy (a ((l1 + 1))) (a ((t + 1))) 0 0 4))) ((t + 2)) (va_cpy (((ma_u1 a ((t + 1)) (va_cpy (a ((l1 + 1))) (a ((t + 1))) 0 0 4))) ((l1 + 2))) (((ma_u1 a ((t + 1)) (va_cpy (a ((l1 + 1))) (a ((t + 1))) 0 0 4))) ((t + 2))) 0 0 6))) ((l1 + 3))) (((ma_u1 ((ma_u1 a ((t + 1)) (va_cpy (a ((l1 + 1))) (a ((t + 1))) 0 0 4))) ((t + 2)) (va_cpy (((ma_u1 a ((t + 1)) (va_cpy (a ((l1 + 1))) (a ((t + 1))) 0 0 4))) ((l1 + 2))) (((ma_u1 a ((t + 1)) (va_cpy (a ((l1 + 1))) (a ((t + 1))) 0 0 4))) ((t + 2))) 0 0 6))) ((t + 3))) 0 0 8))) ((l1 + 4))) (((ma_u1 ((ma_u1 ((ma_u1 a ((t + 1)) (va_cpy (a ((l1 + 1))) (a ((t + 1))) 0 0 4))) ((t + 2)) (va_cpy (((ma_u1 a ((t + 1)) (va_cpy (a ((l1 + 1))) (a ((t + 1))) 0 0 4))) ((l1 + 2))) (((ma_u1 a ((t + 1)) (va_cpy (a ((l1 + 1))) (a ((t + 1))) 0 0 4))) ((t + 2))) 0 0 6))) ((t + 3)) (va_cpy (((ma_u1 ((ma_u1 a ((t + 1)) (va_cpy (a ((l1 + 1))) (a ((t + 1))) 0 0 4))) ((t + 2)) (va_cpy (((ma_u1 a ((t + 1)) (va_cpy (a ((l1 + 1))) (a ((t + 1))) 0 0 4))) ((l1 + 2))) (((ma_u1 a ((t + 1)) (va_cpy (a ((l1 + 1))) (a ((t + 1))) 0 0 4))) ((t + 2))) 0 0 6))) ((l1 + 3))) (((ma_u1 ((ma_u1 a ((t + 1)) (va_cpy (a ((l1 + 1))) (a ((t + 1))) 0 0 4))) ((t + 2)) (va_cpy (((ma_u1 a ((t + 1)) (va_cpy (a ((l1 + 1))) (a ((t + 1))) 0 0 4))) ((l1 + 2))) (((ma_u1 a ((t + 1)) (va_cpy (a ((l1 + 1))) (a ((t + 1))) 0 0 4))) ((t + 2))) 0 0 6))) ((t + 3))) 0 0 8))) ((t + 4))) 0 0 8))) ((l1 + 5))) (((ma_u1 ((ma_u1 ((ma_u1 ((ma_u1 a ((t + 1)) (va_cpy (a ((l1 + 1))) (a ((t + 1))) 0 0 4))) ((t + 2)) (va_cpy (((ma_u1 a ((t + 1)) (va_cpy (a ((l1 + 1))) (a ((t + 1))) 0 0 4))) ((l1 + 2))) (((ma_u1 a ((t + 1)) (va_cpy (a ((l1 + 1))) (a ((t + 1))) 0 0 4))) ((t + 2))) 0 0 6))) ((t + 3)) (va_cpy (((ma_u1 ((ma_u1 a ((t + 1)) (va_cpy (a ((l1 + 1))) (a ((t + 1))) 0 0 4))) ((t + 2)) (va_cpy (((ma_u1 a ((t + 1)) (va_cpy (a ((l1 + 1))) (a ((t + 1))) 0 0 4))) ((l1 + 2))) (((ma_u1 a ((t + 1)) (va_cpy (a ((l1 + 1))) (a ((t + 1))) 0 0 4))) ((t + 2))) 0 0 6))) ((l1 + 3))) (((ma_u1 ((ma_u1 a ((t + 1)) (va_cpy (a ((l1 + 1))) (a ((t + 1))) 0 0 4))) ((t + 2)) (va_cpy (((ma_u1 a ((t + 1)) (va_cpy (a ((l1 + 1))) (a ((t + 1))) 0 0 4))) ((l1 + 2))) (((ma_u1 a ((t + 1)) (va_cpy (a ((l1 + 1))) (a ((t + 1))) 0 0 4))) ((t + 2))) 0 0 6))) ((t + 3))) 0 0 8))) ((t + 4)) (va_cpy (((ma_u1 ((ma_u1 ((ma_u1 a ((t + 1)) (va_cpy (a ((l1 + 1))) (a ((t + 1))) 0 0 4))) ((t + 2)) (va_cpy (((ma_u1 a ((t + 1)) (va_cpy (a ((l1 + 1))) (a ((t + 1))) 0 0 4))) ((l1 + 2))) (((ma_u1 a ((t + 1)) (va_cpy (a ((l1 + 1))) (a ((t + 1))) 0 0 4))) ((t + 2))) 0 0 6))) ((t + 3)) (va_cpy (((ma_u1 ((ma_u1 a ((t + 1)) (va_cpy (a ((l1 + 1))) (a ((t + 1))) 0 0 4))) ((t + 2)) (va_cpy (((ma_u1 a ((t + 1)) (va_cpy (a ((l1 + 1))) (a ((t + 1))) 0 0 4))) ((l1 + 2))) (((ma_u1 a ((t + 1)) (va_cpy (a ((l1 + 1))) (a ((t + 1))) 0 0 4))) ((t + 2))) 0 0 6))) ((l1 + 3))) (((ma_u1 ((ma_u1 a ((t + 1)) (va_cpy (a ((l1 + 1))) (a ((t + 1))) 0 0 4))) ((t + 2)) (va_cpy (((ma_u1 a ((t + 1)) (va_cpy (a ((l1 + 1))) (a ((t + 1))) 0 0 4))) ((l1 + 2))) (((ma_u1 a ((t + 1)) (va_cpy (a ((l1 + 1))) (a ((t + 1))) 0 0 4))) ((t + 2))) 0 0 6))) ((t + 3))) 0 0 8))) ((l1 + 4))) (((ma_u1 ((ma_u1 ((ma_u1 a ((t + 1)) (va_cpy (a ((l1 + 1))) (a ((t + 1))) 0 0 4))) ((t + 2)) (va_cpy (((ma_u1 a ((t + 1)) (va_cpy (a ((l1 + 1))) (a ((t + 1))) 0 0 4))) ((l1 + 2))) (((ma_u1 a ((t + 1)) (va_cpy (a ((l1 + 1))) (a ((t + 1))) 0 0 4))) ((t + 2))) 0 0 6))) ((t + 3)) (va_cpy (((ma_u1 ((ma_u1 a ((t + 1)) (va_cpy (a ((l1 + 1))) (a ((t + 1))) 0 0 4))) ((t + 2)) (va_cpy (((ma_u1 a ((t + 1)) (va_cpy (a ((l1 + 1))) (a ((t + 1))) 0 0 4))) ((l1 + 2))) (((ma_u1 a ((t + 1)) (va_cpy (a ((l1 + 1))) (a ((t + 1))) 0 0 4))) ((t + 2))) 0 0 6))) ((l1 + 3))) (((ma_u1 ((ma_u1 a ((t + 1)) (va_cpy (a ((l1 + 1))) (a ((t + 1))) 0 0 4))) ((t + 2)) (va_cpy (((ma_u1 a ((t + 1)) (va_cpy (a ((l1 + 1))) (a ((t + 1))) 0 0 4))) ((l1 + 2))) (((ma_u1 a ((t + 1)) (va_cpy (a ((l1 + 1))) (a ((t + 1))) 0 0 4))) ((t + 2))) 0 0 6))) ((t + 3))) 0 0 8))) ((t + 4))) 0 0 8))) ((t + 5))) 0 0 8))) ((t + 6)) (va_cpy (((ma_u1 ((ma_u1 ((ma_u1 ((ma_u1 ((ma_u1 a ((t + 1)) (va_cpy (a ((l1 + 1))) (a ((t + 1))) 0 0 4))) ((t + 2)) (va_cpy (((ma_u1 a ((t + 1)) (va_cpy (a ((l1 + 1))) (a ((t + 1))) 0 0 4))) ((l1 + 2))) (((ma_u1 a ((t + 1)) (va_cpy (a ((l1 + 1))) (a ((t + 1))) 0 0 4))) ((t + 2))) 0 0 6))) ((t + 3)) (va_cpy (((ma_u1 ((ma_u1 a ((t + 1)) (va_cpy (a ((l1 + 1))) (a ((t + 1))) 0 0 4))) ((t + 2)) (va_cpy (((ma_u1 a ((t + 1)) (va_cpy (a ((l1 + 1))) (a ((t + 1))) 0 0 4))) ((l1 + 2))) (((ma_u1 a ((t + 1)) (va_cpy (a ((l1 + 1))) (a ((t + 1))) 0 0 4))) ((t + 2))) 0 0 6))) ((l1 + 3))) (((ma_u1 ((ma_u1 a ((t + 1)) (va_cpy (a ((l1 + 1))) (a ((t + 1))) 0 0 4))) ((t + 2)) (va_cpy (((ma_u1 a ((t + 1)) (va_cpy (a ((l1 + 1))) (a ((t + 1))) 0 0 4))) ((l1 + 2))) (((ma_u1 a ((t + 1)) (va_cpy (a ((l1 + 1))) (a ((t + 1))) 0 0 4))) ((t + 2))) 0 0 6))) ((t + 3))) 0 0 8))) ((t + 4)) (va_cpy (((ma_u1 ((ma_u1 ((ma_u1 a ((t + 1)) (va_cpy (a ((l1 + 1))) (a ((t + 1))) 0 0 4))) ((t + 2)) (va_cpy (((ma_u1 a ((t + 1)) (va_cpy (a ((l1 + 1))) (a ((t + 1))) 0 0 4))) ((l1 + 2))) (((ma_u1 a ((t + 1)) (va_cpy (a ((l1 + 1))) (a ((t + 1))) 0 0 4))) ((t + 2))) 0 0 6))) ((t + 3)) (va_cpy (((ma_u1 ((ma_u1 a ((t + 1)) (va_cpy (a ((l1 + 1))) (a ((t + 1))) 0 0 4))) ((t + 2)) (va_cpy (((ma_u1 a ((t + 1)) (va_cpy (a ((l1 + 1))) (a ((t + 1))) 0 0 4))) ((l1 + 2))) (((ma_u1 a ((t + 1)) (va_cpy (a ((l1 + 1))) (a ((t + 1))) 0 0 4))) ((t + 2))) 0 0 6))) ((l1 + 3))) (((ma_u1 ((ma_u1 a ((t + 1)) (va_cpy (a ((l1 + 1))) (a ((t + 1))) 0 0 4))) ((t + 2)) (va_cpy (((ma_u1 a ((t + 1)) (va_cpy (a ((l1 + 1))) (a ((t + 1))) 0 0 4))) ((l1 + 2))) (((ma_u1 a ((t + 1)) (va_cpy (a ((l1 + 1))) (a ((t + 1))) 0 0 4))) ((t + 2))) 0 0 6))) ((t + 3))) 0 0 8))) ((l1 + 4))) (((ma_u1 ((ma_u1 ((ma_u1 a ((t + 1)) (va_cpy (a ((l1 + 1))) (a ((t + 1))) 0 0 4))) ((t + 2)) (va_cpy (((ma_u1 a ((t + 1)) (va_cpy (a ((l1 + 1))) (a ((t + 1))) 0 0 4))) ((l1 + 2))) (((ma_u1 a ((t + 1)) (va_cpy (a ((l1 + 1))) (a ((t + 1))) 0 0 4))) ((t + 2))) 0 0 6))) ((t + 3)) (va_cpy (((ma_u1 ((ma_u1 a ((t + 1)) (va_cpy (a ((l1 + 1))) (a ((t + 1))) 0 0 4))) ((t + 2)) (va_cpy (((ma_u1 a ((t + 1)) (va_cpy (a ((l1 + 1))) (a ((t + 1))) 0 0 4))) ((l1 + 2))) (((ma_u1 a ((t + 1)) (va_cpy (a ((l1 + 1))) (a ((t + 1))) 0 0 4))) ((t + 2))) 0 0 6))) ((l1 + 3))) (((ma_u1 ((ma_u1 a ((t + 1)) (va_cpy (a ((l1 + 1))) (a ((t + 1))) 0 0 4))) ((t + 2)) (va_cpy (((ma_u1 a ((t + 1)) (va_cpy (a ((l1 + 1))) (a ((t + 1))) 0 0 4))) ((l1 + 2))) (((ma_u1 a ((t + 1)) (va_cpy (a ((l1 + 1))) (a ((t + 1))) 0 0 4))) ((t + 2))) 0 0 6))) ((t + 3))) 0 0 8))) ((t + 4))) 0 0 8))) ((t + 5)) (va_cpy (((ma_u1 ((ma_u1 ((ma_u1 ((ma_u1 a ((t + 1)) (va_cpy (a ((l1 + 1))) (a ((t + 1))) 0 0 4))) ((t + 2)) (va_cpy (((ma_u1 a ((t + 1)) (va_cpy (a ((l1 + 1))) (a ((t + 1))) 0 0 4))) ((l1 + 2))) (((ma_u1 a ((t + 1)) (va_cpy (a ((l1 + 1))) (a ((t + 1))) 0 0 4))) ((t + 2))) 0 0 6))) ((t + 3)) (va_cpy (((ma_u1 ((ma_u1 a ((t + 1)) (va_cpy (a ((l1 + 1))) (a ((t + 1))) 0 0 4))) ((t + 2)) (va_cpy (((ma_u1 a ((t + 1)) (va_cpy (a ((l1 + 1))) (a ((t + 1))) 0 0 4))) ((l1 + 2))) (((ma_u1 a ((t + 1)) (va_cpy (a ((l1 + 1))) (a ((t + 1))) 0 0 4))) ((t + 2))) 0 0 6))) ((l1 + 3))) (((ma_u1 ((ma_u1 a ((t + 1)) (va_cpy (a ((l1 + 1))) (a ((t + 1))) 0 0 4))) ((t + 2)) (va_cpy (((ma_u1 a ((t + 1)) (va_cpy (a ((l1 + 1))) (a ((t + 1))) 0 0 4))) ((l1 + 2))) (((ma_u1 a ((t + 1)) (va_cpy (a ((l1 + 1))) (a ((t + 1))) 0 0 4))) ((t + 2))) 0 0 6))) ((t + 3))) 0 0 8))) ((t + 4)) (va_cpy (((ma_u1 ((ma_u1 ((ma_u1 a ((t + 1)) (va_cpy (a ((l1 + 1))) (a ((t + 1))) 0 0 4))) ((t + 2)) (va_cpy (((ma_u1 a ((t + 1)) (va_cpy (a ((l1 + 1))) (a ((t + 1))) 0 0 4))) ((l1 + 2))) (((ma_u1 a ((t + 1)) (va_cpy (a ((l1 + 1))) (a ((t + 1))) 0 0 4))) ((t + 2))) 0 0 6))) ((t + 3)) (va_cpy (((ma_u1 ((ma_u1 a ((t + 1)) (va_cpy (a ((l1 + 1))) (a ((t + 1))) 0 0 4))) ((t + 2)) (va_cpy (((ma_u1 a ((t + 1)) (va_cpy (a ((l1 + 1))) (a ((t + 1))) 0 0 4))) ((l1 + 2))) (((ma_u1 a ((t + 1)) (va_cpy (a ((l1 + 1))) (a ((t + 1))) 0 0 4))) ((t + 2))) 0 0 6))) ((l1 + 3))) (((ma_u1 ((ma_u1 a ((t + 1)) (va_cpy (a ((l1 + 1))) (a ((t + 1))) 0 0 4))) ((t + 2)) (va_cpy (((ma_u1 a ((t + 1)) (va_cpy (a ((l1 + 1))) (a ((t + 1))) 0 0 4))) ((l1 + 2))) (((ma_u1 a ((t + 1)) (va_cpy (a ((l1 + 1))) (a ((t + 1))) 0 0 4))) ((t + 2))) 0 0 6))) ((t + 3))) 0 0 8))) ((l1 + 4))) (((ma_u1 ((ma_u1 ((ma_u1 a ((t + 1)) (va_cpy (a ((l1 + 1))) (a ((t + 1))) 0 0 4))) ((t + 2)) (va_cpy (((ma_u1 a ((t + 1)) (va_cpy (a ((l1 + 1))) (a ((t + 1))) 0 0 4))) ((l1 + 2))) (((ma_u1 a ((t + 1)) (va_cpy (a ((l1 + 1))) (a ((t + 1))) 0 0 4))) ((t + 2))) 0 0 6))) ((t + 3)) (va_cpy (((ma_u1 ((ma_u1 a ((t + 1)) (va_cpy (a ((l1 + 1))) (a ((t + 1))) 0 0 4))) ((t + 2)) (va_cpy (((ma_u1 a ((t + 1)) (va_cpy (a ((l1 + 1))) (a ((t + 1))) 0 0 4))) ((l1 + 2))) (((ma_u1 a ((t + 1)) (va_cpy (a ((l1 + 1))) (a ((t + 1))) 0 0 4))) ((t + 2))) 0 0 6))) ((l1 + 3))) (((ma_u1 ((ma_u1 a ((t + 1)) (va_cpy (a ((l1 + 1))) (a ((t + 1))) 0 0 4))) ((t + 2)) (va_cpy (((ma_u1 a ((t + 1)) (va_cpy (a ((l1 + 1))) (a ((t + 1))) 0 0 4))) ((l1 + 2))) (((ma_u1 a ((t + 1)) (va_cpy (a ((l1 + 1))) (a ((t + 1))) 0 0 4))) ((t + 2))) 0 0 6))) ((t + 3))) 0 0 8))) ((t + 4))) 0 0 8))) ((l1 + 5))) (((ma_u1 ((ma_u1 ((ma_u1 ((ma_u1 a ((t + 1)) (va_cpy (a ((l1 + 1))) (a ((t + 1))) 0 0 4))) ((t + 2)) (va_cpy (((ma_u1 a ((t + 1)) (va_cpy (a ((l1 + 1))) (a ((t + 1))) 0 0 4))) ((l1 + 2))) (((ma_u1 a ((t + 1)) (va_cpy (a ((l1 + 1))) (a ((t + 1))) 0 0 4))) ((t + 2))) 0 0 6))) ((t + 3)) (va_cpy (((ma_u1 ((ma_u1 a ((t + 1)) (va_cpy (a ((l1 + 1))) (a ((t + 1))) 0 0 4))) ((t + 2)) (va_cpy (((ma_u1 a ((t + 1)) (va_cpy (a ((l1 + 1))) (a ((t + 1))) 0 0 4))) ((l1 + 2))) (((ma_u1 a ((t + 1)) (va_cpy (a ((l1 + 1))) (a ((t + 1))) 0 0 4))) ((t + 2))) 0 0 6))) ((l1 + 3))) (((ma_u1 ((ma_u1 a ((t + 1)) (va_cpy (a ((l1 + 1))) (a ((t + 1))) 0 0 4))) ((t + 2)) (va_cpy (((ma_u1 a ((t + 1)) (va_cpy (a ((l1 + 1))) (a ((t + 1))) 0 0 4))) ((l1 + 2))) (((ma_u1 a ((t + 1)) (va_cpy (a ((l1 + 1))) (a ((t + 1))) 0 0 4))) ((t + 2))) 0 0 6))) ((t + 3))) 0 0 8))) ((t + 4)) (va_cpy (((ma_u1 ((ma_u1 ((ma_u1 a ((t + 1)) (va_cpy (a ((l1 + 1))) (a ((t + 1))) 0 0 4))) ((t + 2)) (va_cpy (((ma_u1 a ((t + 1)) (va_cpy (a ((l1 + 1))) (a ((t + 1))) 0 0 4))) ((l1 + 2))) (((ma_u1 a ((t + 1)) (va_cpy (a ((l1 + 1))) (a ((t + 1))) 0 0 4))) ((t + 2))) 0 0 6))) ((t + 3)) (va_cpy (((ma_u1 ((ma_u1 a ((t + 1)) (va_cpy (a ((l1 + 1))) (a ((t + 1))) 0 0 4))) ((t + 2)) (va_cpy (((ma_u1 a ((t + 1)) (va_cpy (a ((l1 + 1))) (a ((t + 1))) 0 0 4))) ((l1 + 2))) (((ma_u1 a ((t + 1)) (va_cpy (a ((l1 + 1))) (a ((t + 1))) 0 0 4))) ((t + 2))) 0 0 6))) ((l1 + 3))) (((ma_u1 ((ma_u1 a ((t + 1)) (va_cpy (a ((l1 + 1))) (a ((t + 1))) 0 0 4))) ((t + 2)) (va_cpy (((ma_u1 a ((t + 1)) (va_cpy (a ((l1 + 1))) (a ((t + 1))) 0 0 4))) ((l1 + 2))) (((ma_u1 a ((t + 1)) (va_cpy (a ((l1 + 1))) (a ((t + 1))) 0 0 4))) ((t + 2))) 0 0 6))) ((t + 3))) 0 0 8))) ((l1 + 4))) (((ma_u1 ((ma_u1 ((ma_u1 a ((t + 1)) (va_cpy (a ((l1 + 1))) (a ((t + 1))) 0 0 4))) ((t + 2)) (va_cpy (((ma_u1 a ((t + 1)) (va_cpy (a ((l1 + 1))) (a ((t + 1))) 0 0 4))) ((l1 + 2))) (((ma_u1 a ((t + 1)) (va_cpy (a ((l1 + 1))) (a ((t + 1))) 0 0 4))) ((t + 2))) 0 0 6))) ((t + 3)) (va_cpy (((ma_u1 ((ma_u1 a ((t + 1)) (va_cpy (a ((l1 + 1))) (a ((t + 1))) 0 0 4))) ((t + 2)) (va_cpy (((ma_u1 a ((t + 1)) (va_cpy (a ((l1 + 1))) (a ((t + 1))) 0 0 4))) ((l1 + 2))) (((ma_u1 a ((t + 1)) (va_cpy (a ((l1 + 1))) (a ((t + 1))) 0 0 4))) ((t + 2))) 0 0 6))) ((l1 + 3))) (((ma_u1 ((ma_u1 a ((t + 1)) (va_cpy (a ((l1 + 1))) (a ((t + 1))) 0 0 4))) ((t + 2)) (va_cpy (((ma_u1 a ((t + 1)) (va_cpy (a ((l1 + 1))) (a ((t + 1))) 0 0 4))) ((l1 + 2))) (((ma_u1 a ((t + 1)) (va_cpy (a ((l1 + 1))) (a ((t + 1))) 0 0 4))) ((t + 2))) 0 0 6))) ((t + 3))) 0 0 8))) ((t + 4))) 0 0 8))) ((t + 5))) 0 0 8))) ((l1 + 6))) (((ma_u1 ((ma_u1 ((ma_u1 ((ma_u1 ((ma_u1 a ((t + 1)) (va_cpy (a ((l1 + 1))) (a ((t + 1))) 0 0 4))) ((t + 2)) (va_cpy (((ma_u1 a ((t + 1)) (va_cpy (a ((l1 + 1))) (a ((t + 1))) 0 0 4))) ((l1 + 2))) (((ma_u1 a ((t + 1)) (va_cpy (a ((l1 + 1))) (a ((t + 1))) 0 0 4))) ((t + 2))) 0 0 6))) ((t + 3)) (va_cpy (((ma_u1 ((ma_u1 a ((t + 1)) (va_cpy (a ((l1 + 1))) (a ((t + 1))) 0 0 4))) ((t + 2)) (va_cpy (((ma_u1 a ((t + 1)) (va_cpy (a ((l1 + 1))) (a ((t + 1))) 0 0 4))) ((l1 + 2))) (((ma_u1 a ((t + 1)) (va_cpy (a ((l1 + 1))) (a ((t + 1))) 0 0 4))) ((t + 2))) 0 0 6))) ((l1 + 3))) (((ma_u1 ((ma_u1 a ((t + 1)) (va_cpy (a ((l1 + 1))) (a ((t + 1))) 0 0 4))) ((t + 2)) (va_cpy (((ma_u1 a ((t + 1)) (va_cpy (a ((l1 + 1))) (a ((t + 1))) 0 0 4))) ((l1 + 2))) (((ma_u1 a ((t + 1)) (va_cpy (a ((l1 + 1))) (a ((t + 1))) 0 0 4))) ((t + 2))) 0 0 6))) ((t + 3))) 0 0 8))) ((t + 4)) (va_cpy (((ma_u1 ((ma_u1 ((ma_u1 a ((t + 1)) (va_cpy (a ((l1 + 1))) (a ((t + 1))) 0 0 4))) ((t + 2)) (va_cpy (((ma_u1 a ((t + 1)) (va_cpy (a ((l1 + 1))) (a ((t + 1))) 0 0 4))) ((l1 + 2))) (((ma_u1 a ((t + 1)) (va_cpy (a ((l1 + 1))) (a ((t + 1))) 0 0 4))) ((t + 2))) 0 0 6))) ((t + 3)) (va_cpy (((ma_u1 ((ma_u1 a ((t + 1)) (va_cpy (a ((l1 + 1))) (a ((t + 1))) 0 0 4))) ((t + 2)) (va_cpy (((ma_u1 a ((t + 1)) (va_cpy (a ((l1 + 1))) (a ((t + 1))) 0 0 4))) ((l1 + 2))) (((ma_u1 a ((t + 1)) (va_cpy (a ((l1 + 1))) (a ((t + 1))) 0 0 4))) ((t + 2))) 0 0 6))) ((l1 + 3))) (((ma_u1 ((ma_u1 a ((t + 1)) (va_cpy (a ((l1 + 1))) (a ((t + 1))) 0 0 4))) ((t + 2)) (va_cpy (((ma_u1 a ((t + 1)) (va_cpy (a ((l1 + 1))) (a ((t + 1))) 0 0 4))) ((l1 + 2))) (((ma_u1 a ((t + 1)) (va_cpy (a ((l1 + 1))) (a ((t + 1))) 0 0 4))) ((t + 2))) 0 0 6))) ((t + 3))) 0 0 8))) ((l1 + 4))) (((ma_u1 ((ma_u1 ((ma_u1 a ((t + 1)) (va_cpy (a ((l1 + 1))) (a ((t + 1))) 0 0 4))) ((t + 2)) (va_cpy (((ma_u1 a ((t + 1)) (va_cpy (a ((l1 + 1))) (a ((t + 1))) 0 0 4))) ((l1 + 2))) (((ma_u1 a ((t + 1)) (va_cpy (a ((l1 + 1))) (a ((t + 1))) 0 0 4))) ((t + 2))) 0 0 6))) ((t + 3)) (va_cpy (((ma_u1 ((ma_u1 a ((t + 1)) (va_cpy (a ((l1 + 1))) (a ((t + 1))) 0 0 4))) ((t + 2)) (va_cpy (((ma_u1 a ((t + 1)) (va_cpy (a ((l1 + 1))) (a ((t + 1))) 0 0 4))) ((l1 + 2))) (((ma_u1 a ((t + 1)) (va_cpy (a ((l1 + 1))) (a ((t + 1))) 0 0 4))) ((t + 2))) 0 0 6))) ((l1 + 3))) (((ma_u1 ((ma_u1 a ((t + 1)) (va_cpy (a ((l1 + 1))) (a ((t + 1))) 0 0 4))) ((t + 2)) (va_cpy (((ma_u1 a ((t + 1)) (va_cpy (a ((l1 + 1))) (a ((t + 1))) 0 0 4))) ((l1 + 2))) (((ma_u1 a ((t + 1)) (va_cpy (a ((l1 + 1))) (a ((t + 1))) 0 0 4))) ((t + 2))) 0 0 6))) ((t + 3))) 0 0 8))) ((t + 4))) 0 0 8))) ((t + 5)) (va_cpy (((ma_u1 ((ma_u1 ((ma_u1 ((ma_u1 a ((t + 1)) (va_cpy (a ((l1 + 1))) (a ((t + 1))) 0 0 4))) ((t + 2)) (va_cpy (((ma_u1 a ((t + 1)) (va_cpy (a ((l1 + 1))) (a ((t + 1))) 0 0 4))) ((l1 + 2))) (((ma_u1 a ((t + 1)) (va_cpy (a ((l1 + 1))) (a ((t + 1))) 0 0 4))) ((t + 2))) 0 0 6))) ((t + 3)) (va_cpy (((ma_u1 ((ma_u1 a ((t + 1)) (va_cpy (a ((l1 + 1))) (a ((t + 1))) 0 0 4))) ((t + 2)) (va_cpy (((ma_u1 a ((t + 1)) (va_cpy (a ((l1 + 1))) (a ((t + 1))) 0 0 4))) ((l1 + 2))) (((ma_u1 a ((t + 1)) (va_cpy (a ((l1 + 1))) (a ((t + 1))) 0 0 4))) ((t + 2))) 0 0 6))) ((l1 + 3))) (((ma_u1 ((ma_u1 a ((t + 1)) (va_cpy (a ((l1 + 1))) (a ((t + 1))) 0 0 4))) ((t + 2)) (va_cpy (((ma_u1 a ((t + 1)) (va_cpy (a ((l1 + 1))) (a ((t + 1))) 0 0 4))) ((l1 + 2))) (((ma_u1 a ((t + 1)) (va_cpy (a ((l1 + 1))) (a ((t + 1))) 0 0 4))) ((t + 2))) 0 0 6))) ((t + 3))) 0 0 8))) ((t + 4)) (va_cpy (((ma_u1 ((ma_u1 ((ma_u1 a ((t + 1)) (va_cpy (a ((l1 + 1))) (a ((t + 1))) 0 0 4))) ((t + 2)) (va_cpy (((ma_u1 a ((t + 1)) (va_cpy (a ((l1 + 1))) (a ((t + 1))) 0 0 4))) ((l1 + 2))) (((ma_u1 a ((t + 1)) (va_cpy (a ((l1 + 1))) (a ((t + 1))) 0 0 4))) ((t + 2))) 0 0 6))) ((t + 3)) (va_cpy (((ma_u1 ((ma_u1 a ((t + 1)) (va_cpy (a ((l1 + 1))) (a ((t + 1))) 0 0 4))) ((t + 2)) (va_cpy (((ma_u1 a ((t + 1)) (va_cpy (a ((l1 + 1))) (a ((t + 1))) 0 0 4))) ((l1 + 2))) (((ma_u1 a ((t + 1)) (va_cpy (a ((l1 + 1))) (a ((t + 1))) 0 0 4))) ((t + 2))) 0 0 6))) ((l1 + 3))) (((ma_u1 ((ma_u1 a ((t + 1)) (va_cpy (a ((l1 + 1))) (a ((t + 1))) 0 0 4))) ((t + 2)) (va_cpy (((ma_u1 a ((t + 1)) (va_cpy (a ((l1 + 1))) (a ((t + 1))) 0 0 4))) ((l1 + 2))) (((ma_u1 a ((t + 1)) (va_cpy (a ((l1 + 1))) (a ((t + 1))) 0 0 4))) ((t + 2))) 0 0 6))) ((t + 3))) 0 0 8))) ((l1 + 4))) (((ma_u1 ((ma_u1 ((ma_u1 a ((t + 1)) (va_cpy (a ((l1 + 1))) (a ((t + 1))) 0 0 4))) ((t + 2)) (va_cpy (((ma_u1 a ((t + 1)) (va_cpy (a ((l1 + 1))) (a ((t + 1))) 0 0 4))) ((l1 + 2))) (((ma_u1 a ((t + 1)) (va_cpy (a ((l1 + 1))) (a ((t + 1))) 0 0 4))) ((t + 2))) 0 0 6))) ((t + 3)) (va_cpy (((ma_u1 ((ma_u1 a ((t + 1)) (va_cpy (a ((l1 + 1))) (a ((t + 1))) 0 0 4))) ((t + 2)) (va_cpy (((ma_u1 a ((t + 1)) (va_cpy (a ((l1 + 1))) (a ((t + 1))) 0 0 4))) ((l1 + 2))) (((ma_u1 a ((t + 1)) (va_cpy (a ((l1 + 1))) (a ((t + 1))) 0 0 4))) ((t + 2))) 0 0 6))) ((l1 + 3))) (((ma_u1 ((ma_u1 a ((t + 1)) (va_cpy (a ((l1 + 1))) (a ((t + 1))) 0 0 4))) ((t + 2)) (va_cpy (((ma_u1 a ((t + 1)) (va_cpy (a ((l1 + 1))) (a ((t + 1))) 0 0 4))) ((l1 + 2))) (((ma_u1 a ((t + 1)) (va_cpy (a ((l1 + 1))) (a ((t + 1))) 0 0 4))) ((t + 2))) 0 0 6))) ((t + 3))) 0 0 8))) ((t + 4))) 0 0 8))) ((l1 + 5))) (((ma_u1 ((ma_u1 ((ma_u1 ((ma_u1 a ((t + 1)) (va_cpy (a ((l1 + 1))) (a ((t + 1))) 0 0 4))) ((t + 2)) (va_cpy (((ma_u1 a ((t + 1)) (va_cpy (a ((l1 + 1))) (a ((t + 1))) 0 0 4))) ((l1 + 2))) (((ma_u1 a ((t + 1)) (va_cpy (a ((l1 + 1))) (a ((t + 1))) 0 0 4))) ((t + 2))) 0 0 6))) ((t + 3)) (va_cpy (((ma_u1 ((ma_u1 a ((t + 1)) (va_cpy (a ((l1 + 1))) (a ((t + 1))) 0 0 4))) ((t + 2)) (va_cpy (((ma_u1 a ((t + 1)) (va_cpy (a ((l1 + 1))) (a ((t + 1))) 0 0 4))) ((l1 + 2))) (((ma_u1 a ((t + 1)) (va_cpy (a ((l1 + 1))) (a ((t + 1))) 0 0 4))) ((t + 2))) 0 0 6))) ((l1 + 3))) (((ma_u1 ((ma_u1 a ((t + 1)) (va_cpy (a ((l1 + 1))) (a ((t + 1))) 0 0 4))) ((t + 2)) (va_cpy (((ma_u1 a ((t + 1)) (va_cpy (a ((l1 + 1))) (a ((t + 1))) 0 0 4))) ((l1 + 2))) (((ma_u1 a ((t + 1)) (va_cpy (a ((l1 + 1))) (a ((t + 1))) 0 0 4))) ((t + 2))) 0 0 6))) ((t + 3))) 0 0 8))) ((t + 4)) (va_cpy (((ma_u1 ((ma_u1 ((ma_u1 a ((t + 1)) (va_cpy (a ((l1 + 1))) (a ((t + 1))) 0 0 4))) ((t + 2)) (va_cpy (((ma_u1 a ((t + 1)) (va_cpy (a ((l1 + 1))) (a ((t + 1))) 0 0 4))) ((l1 + 2))) (((ma_u1 a ((t + 1)) (va_cpy (a ((l1 + 1))) (a ((t + 1))) 0 0 4))) ((t + 2))) 0 0 6))) ((t + 3)) (va_cpy (((ma_u1 ((ma_u1 a ((t + 1)) (va_cpy (a ((l1 + 1))) (a ((t + 1))) 0 0 4))) ((t + 2)) (va_cpy (((ma_u1 a ((t + 1)) (va_cpy (a ((l1 + 1))) (a ((t + 1))) 0 0 4))) ((l1 + 2))) (((ma_u1 a ((t + 1)) (va_cpy (a ((l1 + 1))) (a ((t + 1))) 0 0 4))) ((t + 2))) 0 0 6))) ((l1 + 3))) (((ma_u1 ((ma_u1 a ((t + 1)) (va_cpy (a ((l1 + 1))) (a ((t + 1))) 0 0 4))) ((t + 2)) (va_cpy (((ma_u1 a ((t + 1)) (va_cpy (a ((l1 + 1))) (a ((t + 1))) 0 0 4))) ((l1 + 2))) (((ma_u1 a ((t + 1)) (va_cpy (a ((l1 + 1))) (a ((t + 1))) 0 0 4))) ((t + 2))) 0 0 6))) ((t + 3))) 0 0 8))) ((l1 + 4))) (((ma_u1 ((ma_u1 ((ma_u1 a ((t + 1)) (va_cpy (a ((l1 + 1))) (a ((t + 1))) 0 0 4))) ((t + 2)) (va_cpy (((ma_u1 a ((t + 1)) (va_cpy (a ((l1 + 1))) (a ((t + 1))) 0 0 4))) ((l1 + 2))) (((ma_u1 a ((t + 1)) (va_cpy (a ((l1 + 1))) (a ((t + 1))) 0 0 4))) ((t + 2))) 0 0 6))) ((t + 3)) (va_cpy (((ma_u1 ((ma_u1 a ((t + 1)) (va_cpy (a ((l1 + 1))) (a ((t + 1))) 0 0 4))) ((t + 2)) (va_cpy (((ma_u1 a ((t + 1)) (va_cpy (a ((l1 + 1))) (a ((t + 1))) 0 0 4))) ((l1 + 2))) (((ma_u1 a ((t + 1)) (va_cpy (a ((l1 + 1))) (a ((t + 1))) 0 0 4))) ((t + 2))) 0 0 6))) ((l1 + 3))) (((ma_u1 ((ma_u1 a ((t + 1)) (va_cpy (a ((l1 + 1))) (a ((t + 1))) 0 0 4))) ((t + 2)) (va_cpy (((ma_u1 a ((t + 1)) (va_cpy (a ((l1 + 1))) (a ((t + 1))) 0 0 4))) ((l1 + 2))) (((ma_u1 a ((t + 1)) (va_cpy (a ((l1 + 1))) (a ((t + 1))) 0 0 4))) ((t + 2))) 0 0 6))) ((t + 3))) 0 0 8))) ((t + 4))) 0 0 8))) ((t + 5))) 0 0 8))) ((t + 6))) 0 0 8))) ((t + 7))) 0 0 8))) g)) :=
  (r_ald (pg_of mt_33 dX4_become_0 rfl) rfl).trans <|
  (r_gtr (a := (l1 + 1)) (pg_of mt_33 dX4_become_1 rfl) (mw_tr hl1) (mw_tf hl1 (by decide))).trans <|
  (r_con (pg_of mt_33 dX4_become_4 rfl) (v2 := (0 : Int32)) (by decide)).trans <|
  (r_ald (pg_of mt_33 dX4_become_5 rfl) rfl).trans <|
  (r_gtr (a := (t + 1)) (pg_of mt_33 dX4_become_6 rfl) (mw_tr ht) (mw_tf ht (by decide))).trans <|
  (r_con (pg_of mt_33 dX4_become_9 rfl) (v2 := (0 : Int32)) (by decide)).trans <|
  (r_con (pg_of mt_33 dX4_become_10 rfl) (v2 := (4 : Int32)) (by decide)).trans <|
  (r_cpyc (k := 4) (pg_of mt_33 dX4_become_11 rfl) (Nat.le_of_ble_eq_true rfl) (mw_tr0 ht) (mw_tr0 hl1) (by decide) (by decide) ⟨Nat.le_of_ble_eq_true rfl, Nat.le_of_ble_eq_true rfl⟩).trans <|
  (r_ald (pg_of mt_33 dX4_become_14 rfl) rfl).trans <|
  (r_gtr (a := (l1 + 2)) (pg_of mt_33 dX4_become_15 rfl) (mw_tr hl1) (mw_tf hl1 (by decide))).trans <|
  (r_con (pg_of mt_33 dX4_become_18 rfl) (v2 := (0 : Int32)) (by decide)).trans <|
  (r_ald (pg_of mt_33 dX4_become_19 rfl) rfl).trans <|
  (r_gtr (a := (t + 2)) (pg_of mt_33 dX4_become_20 rfl) (mw_tr ht) (mw_tf ht (by decide))).trans <|
  (r_con (pg_of mt_33 dX4_become_23 rfl) (v2 := (0 : Int32)) (by decide)).trans <|
  (r_con (pg_of mt_33 dX4_become_24 rfl) (v2 := (6 : Int32)) (by decide)).trans <|
  (r_cpyc (k := 6) (pg_of mt_33 dX4_become_26 rfl) (Nat.le_of_ble_eq_true rfl) (mw_tr1 ht) (mw_tr1 hl1) (by decide) (by decide) ⟨Nat.le_of_ble_eq_true rfl, Nat.le_of_ble_eq_true rfl⟩).trans <|
  (r_ald (pg_of mt_33 dX4_become_29 rfl) rfl).trans <|
  (r_gtr (a := (l1 + 3)) (pg_of mt_33 dX4_become_30 rfl) (mw_tr hl1) (mw_tf hl1 (by decide))).trans <|
  (r_con (pg_of mt_33 dX4_become_33 rfl) (v2 := (0 : Int32)) (by decide)).trans <|
  (r_ald (pg_of mt_33 dX4_become_34 rfl) rfl).trans <|
  (r_gtr (a := (t + 3)) (pg_of mt_33 dX4_become_35 rfl) (mw_tr ht) (mw_tf ht (by decide))).trans <|
  (r_con (pg_of mt_33 dX4_become_38 rfl) (v2 := (0 : Int32)) (by decide)).trans <|
  (r_con (pg_of mt_33 dX4_become_39 rfl) (v2 := (8 : Int32)) (by decide)).trans <|
  (r_cpyc (k := 8) (pg_of mt_33 dX4_become_41 rfl) (Nat.le_of_ble_eq_true rfl) (mw_tr2 ht) (mw_tr2 hl1) (by decide) (by decide) ⟨Nat.le_of_ble_eq_true rfl, Nat.le_of_ble_eq_true rfl⟩).trans <|
  (r_ald (pg_of mt_33 dX4_become_44 rfl) rfl).trans <|
  (r_gtr (a := (l1 + 4)) (pg_of mt_33 dX4_become_45 rfl) (mw_tr hl1) (mw_tf hl1 (by decide))).trans <|
  (r_con (pg_of mt_33 dX4_become_48 rfl) (v2 := (0 : Int32)) (by decide)).trans <|
  (r_ald (pg_of mt_33 dX4_become_49 rfl) rfl).trans <|
  (r_gtr (a := (t + 4)) (pg_of mt_33 dX4_become_50 rfl) (mw_tr ht) (mw_tf ht (by decide))).trans <|
  (r_con (pg_of mt_33 dX4_become_53 rfl) (v2 := (0 : Int32)) (by decide)).trans <|
  (r_con (pg_of mt_33 dX4_become_54 rfl) (v2 := (8 : Int32)) (by decide)).trans <|
  (r_cpyc (k := 8) (pg_of mt_33 dX4_become_56 rfl) (Nat.le_of_ble_eq_true rfl) (mw_tr3 ht) (mw_tr3 hl1) (by decide) (by decide) ⟨Nat.le_of_ble_eq_true rfl, Nat.le_of_ble_eq_true rfl⟩).trans <|
  (r_ald (pg_of mt_33 dX4_become_59 rfl) rfl).trans <|
  (r_gtr (a := (l1 + 5)) (pg_of mt_33 dX4_become_60 rfl) (mw_tr hl1) (mw_tf hl1 (by decide))).trans <|
  (r_con (pg_of mt_33 dX4_become_63 rfl) (v2 := (0 : Int32)) (by decide)).trans <|
  (r_ald (pg_of mt_33 dX4_become_64 rfl) rfl).trans <|
  (r_gtr (a := (t + 5)) (pg_of mt_33 dX4_become_65 rfl) (mw_tr ht) (mw_tf ht (by decide))).trans <|
  (r_con (pg_of mt_33 dX4_become_68 rfl) (v2 := (0 : Int32)) (by decide)).trans <|
  (r_con (pg_of mt_33 dX4_become_69 rfl) (v2 := (8 : Int32)) (by decide)).trans <|
  (r_cpyc (k := 8) (pg_of mt_33 dX4_become_71 rfl) (Nat.le_of_ble_eq_true rfl) (mw_tr4 ht) (mw_tr4 hl1) (by decide) (by decide) ⟨Nat.le_of_ble_eq_true rfl, Nat.le_of_ble_eq_true rfl⟩).trans <|
  (r_ald (pg_of mt_33 dX4_become_74 rfl) rfl).trans <|
  (r_gtr (a := (l1 + 6)) (pg_of mt_33 dX4_become_75 rfl) (mw_tr hl1) (mw_tf hl1 (by decide))).trans <|
  (r_con (pg_of mt_33 dX4_become_78 rfl) (v2 := (0 : Int32)) (by decide)).trans <|
  (r_ald (pg_of mt_33 dX4_become_79 rfl) rfl).trans <|
  (r_gtr (a := (t + 6)) (pg_of mt_33 dX4_become_80 rfl) (mw_tr ht) (mw_tf ht (by decide))).trans <|
  (r_con (pg_of mt_33 dX4_become_83 rfl) (v2 := (0 : Int32)) (by decide)).trans <|
  (r_con (pg_of mt_33 dX4_become_84 rfl) (v2 := (8 : Int32)) (by decide)).trans <|
  (r_cpyc (k := 8) (pg_of mt_33 dX4_become_86 rfl) (Nat.le_of_ble_eq_true rfl) (mw_tr5 ht) (mw_tr5 hl1) (by decide) (by decide) ⟨Nat.le_of_ble_eq_true rfl, Nat.le_of_ble_eq_true rfl⟩).trans <|
  (r_ald (pg_of mt_33 dX4_become_89 rfl) rfl).trans <|
  (r_gtr (a := (l1 + 7)) (pg_of mt_33 dX4_become_90 rfl) (mw_tr hl1) (mw_tf hl1 (by decide))).trans <|
  (r_con (pg_of mt_33 dX4_become_93 rfl) (v2 := (0 : Int32)) (by decide)).trans <|
  (r_ald (pg_of mt_33 dX4_become_94 rfl) rfl).trans <|
  (r_gtr (a := (t + 7)) (pg_of mt_33 dX4_become_95 rfl) (mw_tr ht) (mw_tf ht (by decide))).trans <|
  (r_con (pg_of mt_33 dX4_become_98 rfl) (v2 := (0 : Int32)) (by decide)).trans <|
  (r_con (pg_of mt_33 dX4_become_99 rfl) (v2 := (8 : Int32)) (by decide)).trans <|
  (r_cpyc (k := 8) (pg_of mt_33 dX4_become_101 rfl) (Nat.le_of_ble_eq_true rfl) (mw_tr6 ht) (mw_tr6 hl1) (by decide) (by decide) ⟨Nat.le_of_ble_eq_true rfl, Nat.le_of_ble_eq_true rfl⟩).trans <|
  (r_ald (pg_of mt_33 dX4_become_104 rfl) rfl).trans <|
  (r_ald (pg_of mt_33 dX4_become_105 rfl) rfl).trans <|
  (r_gti (pg_of mt_33 dX4_become_106 rfl) (mw_tr hl1)).trans <|
  (r_pti (pg_of mt_33 dX4_become_109 rfl) (mw_tr ht) rfl).trans <|
  (r_ald (pg_of mt_33 dX4_become_112 rfl) rfl).trans <|
  (r_ald (pg_of mt_33 dX4_become_113 rfl) rfl).trans <|
  (r_gti (pg_of mt_33 dX4_become_114 rfl) (mw_tr hl1)).trans <|
  (r_pti (pg_of mt_33 dX4_become_117 rfl) (mw_tr ht) rfl).trans <|
  (r_ald (pg_of mt_33 dX4_become_120 rfl) rfl).trans <|
  (r_ald (pg_of mt_33 dX4_become_121 rfl) rfl).trans <|
  (r_gti (pg_of mt_33 dX4_become_122 rfl) (mw_tr hl1)).trans <|
  (r_pti (pg_of mt_33 dX4_become_125 rfl) (mw_tr ht) rfl).trans <|
  (r_ald (pg_of mt_33 dX4_become_128 rfl) rfl).trans <|
  (r_ald (pg_of mt_33 dX4_become_129 rfl) rfl).trans <|
  (r_gti (pg_of mt_33 dX4_become_130 rfl) (mw_tr hl1)).trans <|
  (r_pti (pg_of mt_33 dX4_become_133 rfl) (mw_tr ht) rfl).trans <|
  (r_ald (pg_of mt_33 dX4_become_136 rfl) rfl).trans <|
  (r_con (pg_of mt_33 dX4_become_137 rfl) (v2 := (0 : Int32)) (by decide)).trans <|
  (r_pti (pg_of mt_33 dX4_become_138 rfl) (mw_tr ht) rfl).trans <|
  (r_rv (pg_of mt_33 dX4_become_141 rfl) mt_33 rfl)
-- 34 LeafFalls$Tree.has(I)Z
theorem b34_0 (t : Nat) (l1 : Int32) (ht : is_tr t) : rn xs L 34 0 [vR t, vI l1] [] (mw f a g) = if l1 < 0 then rn xs L 34 16 [vR t, vI l1] [] (mw f a g) else rn xs L 34 4 [vR t, vI l1] [] (mw f a g) :=
  (r_ild (pg_of mt_34 dX4_has_0 rfl) rfl).trans <|
  (r_lt0 (pg_of mt_34 dX4_has_1 rfl))
theorem b34_4 (t : Nat) (l1 : Int32) (ht : is_tr t) : rn xs L 34 4 [vR t, vI l1] [] (mw f a g) = if l1 < (f t 7) then rn xs L 34 12 [vR t, vI l1] [] (mw f a g) else rn xs L 34 16 [vR t, vI l1] [] (mw f a g) :=
  (r_ild (pg_of mt_34 dX4_has_4 rfl) rfl).trans <|
  (r_ald (pg_of mt_34 dX4_has_5 rfl) rfl).trans <|
  (r_gti (pg_of mt_34 dX4_has_6 rfl) (mw_tr ht)).trans <|
  (r_ge (pg_of mt_34 dX4_has_9 rfl))
theorem b34_12 (t : Nat) (l1 : Int32) (ht : is_tr t) : rn xs L 34 12 [vR t, vI l1] [] (mw f a g) = some (some (vI (1 : Int32)), (mw f a g)) :=
  (r_con (pg_of mt_34 dX4_has_12 rfl) (v2 := (1 : Int32)) (by decide)).trans <|
  (r_gto (pg_of mt_34 dX4_has_13 rfl)).trans <|
  (r_rz (pg_of mt_34 dX4_has_17 rfl) mt_34 rfl (Or.inr rfl))
theorem b34_16 (t : Nat) (l1 : Int32) (ht : is_tr t) : rn xs L 34 16 [vR t, vI l1] [] (mw f a g) = some (some (vI (0 : Int32)), (mw f a g)) :=
  (r_con (pg_of mt_34 dX4_has_16 rfl) (v2 := (0 : Int32)) (by decide)).trans <|
  (r_rz (pg_of mt_34 dX4_has_17 rfl) mt_34 rfl (Or.inl rfl))
-- 35 LeafFalls$Tree.hangs(I)Z
theorem b35_0 (t : Nat) (l1 : Int32) (ht : is_tr t) (h1 : ma_in l1 8 = true) : rn xs L 35 0 [vR t, vI l1] [] (mw f a g) = if (a ((t + 7)) l1.toNatClampNeg) = 0 then rn xs L 35 9 [vR t, vI l1] [] (mw f a g) else rn xs L 35 13 [vR t, vI l1] [] (mw f a g) :=
  (r_ald (pg_of mt_35 dX4_hangs_0 rfl) rfl).trans <|
  (r_gtr (a := (t + 7)) (pg_of mt_35 dX4_hangs_1 rfl) (mw_tr ht) (mw_tf ht (by decide))).trans <|
  (r_ild (pg_of mt_35 dX4_hangs_4 rfl) rfl).trans <|
  (r_iald (pg_of mt_35 dX4_hangs_5 rfl) (mw_tr6 ht) h1).trans <|
  (r_ne0 (pg_of mt_35 dX4_hangs_6 rfl))
theorem b35_9 (t : Nat) (l1 : Int32) (ht : is_tr t) : rn xs L 35 9 [vR t, vI l1] [] (mw f a g) = some (some (vI (1 : Int32)), (mw f a g)) :=
  (r_con (pg_of mt_35 dX4_hangs_9 rfl) (v2 := (1 : Int32)) (by decide)).trans <|
  (r_gto (pg_of mt_35 dX4_hangs_10 rfl)).trans <|
  (r_rz (pg_of mt_35 dX4_hangs_14 rfl) mt_35 rfl (Or.inr rfl))
theorem b35_13 (t : Nat) (l1 : Int32) (ht : is_tr t) : rn xs L 35 13 [vR t, vI l1] [] (mw f a g) = some (some (vI (0 : Int32)), (mw f a g)) :=
  (r_con (pg_of mt_35 dX4_hangs_13 rfl) (v2 := (0 : Int32)) (by decide)).trans <|
  (r_rz (pg_of mt_35 dX4_hangs_14 rfl) mt_35 rfl (Or.inl rfl))
-- 36 LeafFalls$Tree.mates(I)I
theorem b36_0 (t : Nat) (l1 : Int32) (ht : is_tr t) (h1 : ma_in l1 8 = true) : rn xs L 36 0 [vR t, vI l1] [] (mw f a g) = (ev xs L 37 4 [vR t, vI (a ((t + 4)) l1.toNatClampNeg)] (mw f a g)).bind (fun b => rn xs L 36 10 [vR t, vI l1] (b.1.toList ++ []) b.2) :=
  (r_ald (pg_of mt_36 dX4_mates_0 rfl) rfl).trans <|
  (r_ald (pg_of mt_36 dX4_mates_1 rfl) rfl).trans <|
  (r_gtr (a := (t + 4)) (pg_of mt_36 dX4_mates_2 rfl) (mw_tr ht) (mw_tf ht (by decide))).trans <|
  (r_ild (pg_of mt_36 dX4_mates_5 rfl) rfl).trans <|
  (r_iald (pg_of mt_36 dX4_mates_6 rfl) (mw_tr3 ht) h1).trans <|
  (r_call (t := tt_36) (t2 := tt_37) (pg_of mt_36 dX4_mates_7 rfl) mt_36 mt_37 rfl rfl (rcv1 (mw_tr ht)) rfl rfl)
theorem b36_10 (t : Nat) (l1 : Int32) (s0 : Int32) (ht : is_tr t) : rn xs L 36 10 [vR t, vI l1] [vI s0] (mw f a g) = (ev xs L 232 1 [vI (s0 &&& (((1 : Int32) <<< (l1 &&& 31)) ^^^ (-1 : Int32)))] (mw f a g)).bind (fun b => rn xs L 36 19 [vR t, vI l1] (b.1.toList ++ []) b.2) :=
  (r_con (pg_of mt_36 dX4_mates_10 rfl) (v2 := (1 : Int32)) (by decide)).trans <|
  (r_ild (pg_of mt_36 dX4_mates_11 rfl) rfl).trans <|
  (r_bin (pg_of mt_36 dX4_mates_12 rfl)).trans <|
  (r_con (pg_of mt_36 dX4_mates_13 rfl) (v2 := (-1 : Int32)) (by decide)).trans <|
  (r_bin (pg_of mt_36 dX4_mates_14 rfl)).trans <|
  (r_bin (pg_of mt_36 dX4_mates_15 rfl)).trans <|
  (r_call (t := tt_36) (t2 := tt_232) (pg_of mt_36 dX4_mates_16 rfl) mt_36 mt_232 rfl rfl rfl rfl rfl)
theorem b36_19 (t : Nat) (l1 : Int32) (s0 : Int32) (ht : is_tr t) : rn xs L 36 19 [vR t, vI l1] [vI s0] (mw f a g) = some (some (vI s0), (mw f a g)) :=
  (r_ri (pg_of mt_36 dX4_mates_19 rfl) mt_36 rfl)
-- 37 LeafFalls$Tree.hangingOn(I)I
theorem b37_0 (t : Nat) (l1 : Int32) (l2 : ma_V) (l3 : ma_V) (ht : is_tr t) : rn xs L 37 0 [vR t, vI l1, l2, l3] [] (mw f a g) = rn xs L 37 4 [vR t, vI l1, vI (0 : Int32), vI (0 : Int32)] [] (mw f a g) :=
  (r_con (pg_of mt_37 dX4_hangingOn_0 rfl) (v2 := (0 : Int32)) (by decide)).trans <|
  (r_ist (pg_of mt_37 dX4_hangingOn_1 rfl) (Nat.le_of_ble_eq_true rfl) rfl).trans <|
  (r_con (pg_of mt_37 dX4_hangingOn_2 rfl) (v2 := (0 : Int32)) (by decide)).trans <|
  (r_ist (pg_of mt_37 dX4_hangingOn_3 rfl) (Nat.le_of_ble_eq_true rfl) rfl)
theorem b37_4 (t : Nat) (l1 : Int32) (l2 : Int32) (l3 : Int32) (ht : is_tr t) : rn xs L 37 4 [vR t, vI l1, vI l2, vI l3] [] (mw f a g) = if l3 < (f t 7) then rn xs L 37 12 [vR t, vI l1, vI l2, vI l3] [] (mw f a g) else rn xs L 37 42 [vR t, vI l1, vI l2, vI l3] [] (mw f a g) :=
  (r_ild (pg_of mt_37 dX4_hangingOn_4 rfl) rfl).trans <|
  (r_ald (pg_of mt_37 dX4_hangingOn_5 rfl) rfl).trans <|
  (r_gti (pg_of mt_37 dX4_hangingOn_6 rfl) (mw_tr ht)).trans <|
  (r_ge (pg_of mt_37 dX4_hangingOn_9 rfl))
theorem b37_12 (t : Nat) (l1 : Int32) (l2 : Int32) (l3 : Int32) (ht : is_tr t) : rn xs L 37 12 [vR t, vI l1, vI l2, vI l3] [] (mw f a g) = (ev xs L 35 2 [vR t, vI l3] (mw f a g)).bind (fun b => rn xs L 37 17 [vR t, vI l1, vI l2, vI l3] (b.1.toList ++ []) b.2) :=
  (r_ald (pg_of mt_37 dX4_hangingOn_12 rfl) rfl).trans <|
  (r_ild (pg_of mt_37 dX4_hangingOn_13 rfl) rfl).trans <|
  (r_call (t := tt_37) (t2 := tt_35) (pg_of mt_37 dX4_hangingOn_14 rfl) mt_37 mt_35 rfl rfl (rcv1 (mw_tr ht)) rfl rfl)
theorem b37_17 (t : Nat) (l1 : Int32) (l2 : Int32) (l3 : Int32) (s0 : Int32) (ht : is_tr t) : rn xs L 37 17 [vR t, vI l1, vI l2, vI l3] [vI s0] (mw f a g) = if s0 = 0 then rn xs L 37 36 [vR t, vI l1, vI l2, vI l3] [] (mw f a g) else rn xs L 37 20 [vR t, vI l1, vI l2, vI l3] [] (mw f a g) :=
  (r_eq0 (pg_of mt_37 dX4_hangingOn_17 rfl))
theorem b37_20 (t : Nat) (l1 : Int32) (l2 : Int32) (l3 : Int32) (ht : is_tr t) (h1 : ma_in l3 8 = true) : rn xs L 37 20 [vR t, vI l1, vI l2, vI l3] [] (mw f a g) = if (a ((t + 4)) l3.toNatClampNeg) = l1 then rn xs L 37 30 [vR t, vI l1, vI l2, vI l3] [] (mw f a g) else rn xs L 37 36 [vR t, vI l1, vI l2, vI l3] [] (mw f a g) :=
  (r_ald (pg_of mt_37 dX4_hangingOn_20 rfl) rfl).trans <|
  (r_gtr (a := (t + 4)) (pg_of mt_37 dX4_hangingOn_21 rfl) (mw_tr ht) (mw_tf ht (by decide))).trans <|
  (r_ild (pg_of mt_37 dX4_hangingOn_24 rfl) rfl).trans <|
  (r_iald (pg_of mt_37 dX4_hangingOn_25 rfl) (mw_tr3 ht) h1).trans <|
  (r_ild (pg_of mt_37 dX4_hangingOn_26 rfl) rfl).trans <|
  (r_ne (pg_of mt_37 dX4_hangingOn_27 rfl))
theorem b37_30 (t : Nat) (l1 : Int32) (l2 : Int32) (l3 : Int32) (ht : is_tr t) : rn xs L 37 30 [vR t, vI l1, vI l2, vI l3] [] (mw f a g) = rn xs L 37 4 [vR t, vI l1, vI (l2 ||| ((1 : Int32) <<< (l3 &&& 31))), vI (l3 + (1 : Int32))] [] (mw f a g) :=
  (r_ild (pg_of mt_37 dX4_hangingOn_30 rfl) rfl).trans <|
  (r_con (pg_of mt_37 dX4_hangingOn_31 rfl) (v2 := (1 : Int32)) (by decide)).trans <|
  (r_ild (pg_of mt_37 dX4_hangingOn_32 rfl) rfl).trans <|
  (r_bin (pg_of mt_37 dX4_hangingOn_33 rfl)).trans <|
  (r_bin (pg_of mt_37 dX4_hangingOn_34 rfl)).trans <|
  (r_ist (pg_of mt_37 dX4_hangingOn_35 rfl) (Nat.le_of_ble_eq_true rfl) rfl).trans <|
  (r_inc (pg_of mt_37 dX4_hangingOn_36 rfl) (y := (1 : Int32)) (by decide) rfl rfl).trans <|
  (r_gto (pg_of mt_37 dX4_hangingOn_39 rfl))
theorem b37_36 (t : Nat) (l1 : Int32) (l2 : Int32) (l3 : Int32) (ht : is_tr t) : rn xs L 37 36 [vR t, vI l1, vI l2, vI l3] [] (mw f a g) = rn xs L 37 4 [vR t, vI l1, vI l2, vI (l3 + (1 : Int32))] [] (mw f a g) :=
  (r_inc (pg_of mt_37 dX4_hangingOn_36 rfl) (y := (1 : Int32)) (by decide) rfl rfl).trans <|
  (r_gto (pg_of mt_37 dX4_hangingOn_39 rfl))
theorem b37_42 (t : Nat) (l1 : Int32) (l2 : Int32) (l3 : Int32) (ht : is_tr t) : rn xs L 37 42 [vR t, vI l1, vI l2, vI l3] [] (mw f a g) = some (some (vI l2), (mw f a g)) :=
  (r_ild (pg_of mt_37 dX4_hangingOn_42 rfl) rfl).trans <|
  (r_ri (pg_of mt_37 dX4_hangingOn_43 rfl) mt_37 rfl)
-- 38 LeafFalls$Tree.loses(I)I
theorem sw38_27 {ls st : List ma_V} {w : ma_W} {x : Int32} : rn xs L 38 27 ls (vI x :: st) w = if x = 1 then rn xs L 38 60 ls st w else if x = 2 then rn xs L 38 80 ls st w else if x = 3 then rn xs L 38 69 ls st w else if x = 4 then rn xs L 38 88 ls st w else if x = 5 then rn xs L 38 116 ls st w else rn xs L 38 131 ls st w := by
  by_cases h0 : x = 1
  · rw [if_pos h0, h0]; exact r_swi (t := 60) (pg_of mt_38 dX4_loses_27 rfl) (by decide)
  rw [if_neg h0]
  by_cases h1 : x = 2
  · rw [if_pos h1, h1]; exact r_swi (t := 80) (pg_of mt_38 dX4_loses_27 rfl) (by decide)
  rw [if_neg h1]
  by_cases h2 : x = 3
  · rw [if_pos h2, h2]; exact r_swi (t := 69) (pg_of mt_38 dX4_loses_27 rfl) (by decide)
  rw [if_neg h2]
  by_cases h3 : x = 4
  · rw [if_pos h3, h3]; exact r_swi (t := 88) (pg_of mt_38 dX4_loses_27 rfl) (by decide)
  rw [if_neg h3]
  by_cases h4 : x = 5
  · rw [if_pos h4, h4]; exact r_swi (t := 116) (pg_of mt_38 dX4_loses_27 rfl) (by decide)
  rw [if_neg h4]
  have e0 := i_nei (k := 1) (1 : Int32) (by decide) h0
  have e1 := i_nei (k := 2) (2 : Int32) (by decide) h1
  have e2 := i_nei (k := 3) (3 : Int32) (by decide) h2
  have e3 := i_nei (k := 4) (4 : Int32) (by decide) h3
  have e4 := i_nei (k := 5) (5 : Int32) (by decide) h4
  exact r_swi (t := 131) (pg_of mt_38 dX4_loses_27 rfl) (tsw_out (by omega) (by decide) (by decide))
theorem b38_0 (t : Nat) (l1 : Int32) (l2 : ma_V) (ht : is_tr t) (h1 : ma_in l1 8 = true) (h2 : ma_in ((a ((t + 4)) l1.toNatClampNeg)) 6 = true) (h3 : ma_in l1 8 = true) : rn xs L 38 0 [vR t, vI l1, l2] [] (mw f a g) = if (a ((t + 3)) l1.toNatClampNeg) = 1 then rn xs L 38 60 [vR t, vI l1, vI (((1 : Int32) + (a ((t + 1)) 0)) + (a ((t + 2)) ((a ((t + 4)) l1.toNatClampNeg)).toNatClampNeg))] [] (mw f a g) else if (a ((t + 3)) l1.toNatClampNeg) = 2 then rn xs L 38 80 [vR t, vI l1, vI (((1 : Int32) + (a ((t + 1)) 0)) + (a ((t + 2)) ((a ((t + 4)) l1.toNatClampNeg)).toNatClampNeg))] [] (mw f a g) else if (a ((t + 3)) l1.toNatClampNeg) = 3 then rn xs L 38 69 [vR t, vI l1, vI (((1 : Int32) + (a ((t + 1)) 0)) + (a ((t + 2)) ((a ((t + 4)) l1.toNatClampNeg)).toNatClampNeg))] [] (mw f a g) else if (a ((t + 3)) l1.toNatClampNeg) = 4 then rn xs L 38 88 [vR t, vI l1, vI (((1 : Int32) + (a ((t + 1)) 0)) + (a ((t + 2)) ((a ((t + 4)) l1.toNatClampNeg)).toNatClampNeg))] [] (mw f a g) else if (a ((t + 3)) l1.toNatClampNeg) = 5 then rn xs L 38 116 [vR t, vI l1, vI (((1 : Int32) + (a ((t + 1)) 0)) + (a ((t + 2)) ((a ((t + 4)) l1.toNatClampNeg)).toNatClampNeg))] [] (mw f a g) else rn xs L 38 131 [vR t, vI l1, vI (((1 : Int32) + (a ((t + 1)) 0)) + (a ((t + 2)) ((a ((t + 4)) l1.toNatClampNeg)).toNatClampNeg))] [] (mw f a g) :=
  (r_con (pg_of mt_38 dX4_loses_0 rfl) (v2 := (1 : Int32)) (by decide)).trans <|
  (r_ald (pg_of mt_38 dX4_loses_1 rfl) rfl).trans <|
  (r_gtr (a := (t + 1)) (pg_of mt_38 dX4_loses_2 rfl) (mw_tr ht) (mw_tf ht (by decide))).trans <|
  (r_con (pg_of mt_38 dX4_loses_5 rfl) (v2 := (0 : Int32)) (by decide)).trans <|
  (r_ialc (j := 0) (pg_of mt_38 dX4_loses_6 rfl) (mw_tr0 ht) (by decide) (by decide)).trans <|
  (r_bin (pg_of mt_38 dX4_loses_7 rfl)).trans <|
  (r_ald (pg_of mt_38 dX4_loses_8 rfl) rfl).trans <|
  (r_gtr (a := (t + 2)) (pg_of mt_38 dX4_loses_9 rfl) (mw_tr ht) (mw_tf ht (by decide))).trans <|
  (r_ald (pg_of mt_38 dX4_loses_12 rfl) rfl).trans <|
  (r_gtr (a := (t + 4)) (pg_of mt_38 dX4_loses_13 rfl) (mw_tr ht) (mw_tf ht (by decide))).trans <|
  (r_ild (pg_of mt_38 dX4_loses_16 rfl) rfl).trans <|
  (r_iald (pg_of mt_38 dX4_loses_17 rfl) (mw_tr3 ht) h1).trans <|
  (r_iald (pg_of mt_38 dX4_loses_18 rfl) (mw_tr1 ht) h2).trans <|
  (r_bin (pg_of mt_38 dX4_loses_19 rfl)).trans <|
  (r_ist (pg_of mt_38 dX4_loses_20 rfl) (Nat.le_of_ble_eq_true rfl) rfl).trans <|
  (r_ald (pg_of mt_38 dX4_loses_21 rfl) rfl).trans <|
  (r_gtr (a := (t + 3)) (pg_of mt_38 dX4_loses_22 rfl) (mw_tr ht) (mw_tf ht (by decide))).trans <|
  (r_ild (pg_of mt_38 dX4_loses_25 rfl) rfl).trans <|
  (r_iald (pg_of mt_38 dX4_loses_26 rfl) (mw_tr2 ht) h3).trans <|
  (sw38_27)
theorem b38_60 (t : Nat) (l1 : Int32) (l2 : Int32) (ht : is_tr t) : rn xs L 38 60 [vR t, vI l1, vI l2] [] (mw f a g) = some (some (vI (l2 + (a ((t + 1)) 1))), (mw f a g)) :=
  (r_ild (pg_of mt_38 dX4_loses_60 rfl) rfl).trans <|
  (r_ald (pg_of mt_38 dX4_loses_61 rfl) rfl).trans <|
  (r_gtr (a := (t + 1)) (pg_of mt_38 dX4_loses_62 rfl) (mw_tr ht) (mw_tf ht (by decide))).trans <|
  (r_con (pg_of mt_38 dX4_loses_65 rfl) (v2 := (1 : Int32)) (by decide)).trans <|
  (r_ialc (j := 1) (pg_of mt_38 dX4_loses_66 rfl) (mw_tr0 ht) (by decide) (by decide)).trans <|
  (r_bin (pg_of mt_38 dX4_loses_67 rfl)).trans <|
  (r_ri (pg_of mt_38 dX4_loses_68 rfl) mt_38 rfl)
theorem b38_69 (t : Nat) (l1 : Int32) (l2 : Int32) (ht : is_tr t) : rn xs L 38 69 [vR t, vI l1, vI l2] [] (mw f a g) = some (some (vI ((2 : Int32) * (l2 + (a ((t + 1)) 1)))), (mw f a g)) :=
  (r_con (pg_of mt_38 dX4_loses_69 rfl) (v2 := (2 : Int32)) (by decide)).trans <|
  (r_ild (pg_of mt_38 dX4_loses_70 rfl) rfl).trans <|
  (r_ald (pg_of mt_38 dX4_loses_71 rfl) rfl).trans <|
  (r_gtr (a := (t + 1)) (pg_of mt_38 dX4_loses_72 rfl) (mw_tr ht) (mw_tf ht (by decide))).trans <|
  (r_con (pg_of mt_38 dX4_loses_75 rfl) (v2 := (1 : Int32)) (by decide)).trans <|
  (r_ialc (j := 1) (pg_of mt_38 dX4_loses_76 rfl) (mw_tr0 ht) (by decide) (by decide)).trans <|
  (r_bin (pg_of mt_38 dX4_loses_77 rfl)).trans <|
  (r_bin (pg_of mt_38 dX4_loses_78 rfl)).trans <|
  (r_ri (pg_of mt_38 dX4_loses_79 rfl) mt_38 rfl)
theorem b38_80 (t : Nat) (l1 : Int32) (l2 : Int32) (ht : is_tr t) : rn xs L 38 80 [vR t, vI l1, vI l2] [] (mw f a g) = (ev xs L 36 2 [vR t, vI l1] (mw f a g)).bind (fun b => rn xs L 38 86 [vR t, vI l1, vI l2] (b.1.toList ++ [vI l2]) b.2) :=
  (r_ild (pg_of mt_38 dX4_loses_80 rfl) rfl).trans <|
  (r_ald (pg_of mt_38 dX4_loses_81 rfl) rfl).trans <|
  (r_ild (pg_of mt_38 dX4_loses_82 rfl) rfl).trans <|
  (r_call (t := tt_38) (t2 := tt_36) (pg_of mt_38 dX4_loses_83 rfl) mt_38 mt_36 rfl rfl (rcv1 (mw_tr ht)) rfl rfl)
theorem b38_86 (t : Nat) (l1 : Int32) (l2 : Int32) (s0 : Int32) (s1 : Int32) (ht : is_tr t) : rn xs L 38 86 [vR t, vI l1, vI l2] [vI s0, vI s1] (mw f a g) = some (some (vI (s1 - s0)), (mw f a g)) :=
  (r_bin (pg_of mt_38 dX4_loses_86 rfl)).trans <|
  (r_ri (pg_of mt_38 dX4_loses_87 rfl) mt_38 rfl)
theorem b38_88 (t : Nat) (l1 : Int32) (l2 : Int32) (ht : is_tr t) : rn xs L 38 88 [vR t, vI l1, vI l2] [] (mw f a g) = (ev xs L 36 2 [vR t, vI l1] (mw f a g)).bind (fun b => rn xs L 38 94 [vR t, vI l1, vI l2] (b.1.toList ++ [vI l2]) b.2) :=
  (r_ild (pg_of mt_38 dX4_loses_88 rfl) rfl).trans <|
  (r_ald (pg_of mt_38 dX4_loses_89 rfl) rfl).trans <|
  (r_ild (pg_of mt_38 dX4_loses_90 rfl) rfl).trans <|
  (r_call (t := tt_38) (t2 := tt_36) (pg_of mt_38 dX4_loses_91 rfl) mt_38 mt_36 rfl rfl (rcv1 (mw_tr ht)) rfl rfl)
theorem b38_94 (t : Nat) (l1 : Int32) (l2 : Int32) (s0 : Int32) (s1 : Int32) (ht : is_tr t) : rn xs L 38 94 [vR t, vI l1, vI l2] [vI s0, vI s1] (mw f a g) = if ((f t 9) - (f t 9) / (2 : Int32) * (2 : Int32)) = 0 then rn xs L 38 104 [vR t, vI l1, vI l2] [vI (s1 - s0)] (mw f a g) else rn xs L 38 113 [vR t, vI l1, vI l2] [vI (s1 - s0)] (mw f a g) :=
  (r_bin (pg_of mt_38 dX4_loses_94 rfl)).trans <|
  (r_ald (pg_of mt_38 dX4_loses_95 rfl) rfl).trans <|
  (r_gti (pg_of mt_38 dX4_loses_96 rfl) (mw_tr ht)).trans <|
  (r_con (pg_of mt_38 dX4_loses_99 rfl) (v2 := (2 : Int32)) (by decide)).trans <|
  (r_dvi (pg_of mt_38 dX4_loses_100 rfl) (by decide)).trans <|
  (r_ne0 (pg_of mt_38 dX4_loses_101 rfl))
theorem b38_104 (t : Nat) (l1 : Int32) (l2 : Int32) (s0 : Int32) (ht : is_tr t) : rn xs L 38 104 [vR t, vI l1, vI l2] [vI s0] (mw f a g) = some (some (vI (s0 + (a ((t + 1)) 2))), (mw f a g)) :=
  (r_ald (pg_of mt_38 dX4_loses_104 rfl) rfl).trans <|
  (r_gtr (a := (t + 1)) (pg_of mt_38 dX4_loses_105 rfl) (mw_tr ht) (mw_tf ht (by decide))).trans <|
  (r_con (pg_of mt_38 dX4_loses_108 rfl) (v2 := (2 : Int32)) (by decide)).trans <|
  (r_ialc (j := 2) (pg_of mt_38 dX4_loses_109 rfl) (mw_tr0 ht) (by decide) (by decide)).trans <|
  (r_gto (pg_of mt_38 dX4_loses_110 rfl)).trans <|
  (r_bin (pg_of mt_38 dX4_loses_114 rfl)).trans <|
  (r_ri (pg_of mt_38 dX4_loses_115 rfl) mt_38 rfl)
theorem b38_113 (t : Nat) (l1 : Int32) (l2 : Int32) (s0 : Int32) (ht : is_tr t) : rn xs L 38 113 [vR t, vI l1, vI l2] [vI s0] (mw f a g) = some (some (vI (s0 + (0 : Int32))), (mw f a g)) :=
  (r_con (pg_of mt_38 dX4_loses_113 rfl) (v2 := (0 : Int32)) (by decide)).trans <|
  (r_bin (pg_of mt_38 dX4_loses_114 rfl)).trans <|
  (r_ri (pg_of mt_38 dX4_loses_115 rfl) mt_38 rfl)
theorem b38_116 (t : Nat) (l1 : Int32) (l2 : Int32) (ht : is_tr t) : rn xs L 38 116 [vR t, vI l1, vI l2] [] (mw f a g) = if ((f t 9) - (f t 9) / (5 : Int32) * (5 : Int32)) = 0 then rn xs L 38 125 [vR t, vI l1, vI l2] [] (mw f a g) else rn xs L 38 129 [vR t, vI l1, vI l2] [] (mw f a g) :=
  (r_ald (pg_of mt_38 dX4_loses_116 rfl) rfl).trans <|
  (r_gti (pg_of mt_38 dX4_loses_117 rfl) (mw_tr ht)).trans <|
  (r_con (pg_of mt_38 dX4_loses_120 rfl) (v2 := (5 : Int32)) (by decide)).trans <|
  (r_dvi (pg_of mt_38 dX4_loses_121 rfl) (by decide)).trans <|
  (r_ne0 (pg_of mt_38 dX4_loses_122 rfl))
theorem b38_125 (t : Nat) (l1 : Int32) (l2 : Int32) (ht : is_tr t) : rn xs L 38 125 [vR t, vI l1, vI l2] [] (mw f a g) = some (some (vI l2), (mw f a g)) :=
  (r_ild (pg_of mt_38 dX4_loses_125 rfl) rfl).trans <|
  (r_gto (pg_of mt_38 dX4_loses_126 rfl)).trans <|
  (r_ri (pg_of mt_38 dX4_loses_130 rfl) mt_38 rfl)
theorem b38_129 (t : Nat) (l1 : Int32) (l2 : Int32) (ht : is_tr t) : rn xs L 38 129 [vR t, vI l1, vI l2] [] (mw f a g) = some (some (vI (0 : Int32)), (mw f a g)) :=
  (r_con (pg_of mt_38 dX4_loses_129 rfl) (v2 := (0 : Int32)) (by decide)).trans <|
  (r_ri (pg_of mt_38 dX4_loses_130 rfl) mt_38 rfl)
theorem b38_131 (t : Nat) (l1 : Int32) (l2 : Int32) (ht : is_tr t) : rn xs L 38 131 [vR t, vI l1, vI l2] [] (mw f a g) = some (some (vI l2), (mw f a g)) :=
  (r_ild (pg_of mt_38 dX4_loses_131 rfl) rfl).trans <|
  (r_ri (pg_of mt_38 dX4_loses_132 rfl) mt_38 rfl)
-- 39 LeafFalls$Tree.rank(I)I
theorem sw39_13 {ls st : List ma_V} {w : ma_W} {x : Int32} : rn xs L 39 13 ls (vI x :: st) w = if x = 1 then rn xs L 39 48 ls st w else if x = 2 then rn xs L 39 63 ls st w else if x = 3 then rn xs L 39 52 ls st w else if x = 4 then rn xs L 39 68 ls st w else if x = 5 then rn xs L 39 75 ls st w else rn xs L 39 78 ls st w := by
  by_cases h0 : x = 1
  · rw [if_pos h0, h0]; exact r_swi (t := 48) (pg_of mt_39 dX4_rank_13 rfl) (by decide)
  rw [if_neg h0]
  by_cases h1 : x = 2
  · rw [if_pos h1, h1]; exact r_swi (t := 63) (pg_of mt_39 dX4_rank_13 rfl) (by decide)
  rw [if_neg h1]
  by_cases h2 : x = 3
  · rw [if_pos h2, h2]; exact r_swi (t := 52) (pg_of mt_39 dX4_rank_13 rfl) (by decide)
  rw [if_neg h2]
  by_cases h3 : x = 4
  · rw [if_pos h3, h3]; exact r_swi (t := 68) (pg_of mt_39 dX4_rank_13 rfl) (by decide)
  rw [if_neg h3]
  by_cases h4 : x = 5
  · rw [if_pos h4, h4]; exact r_swi (t := 75) (pg_of mt_39 dX4_rank_13 rfl) (by decide)
  rw [if_neg h4]
  have e0 := i_nei (k := 1) (1 : Int32) (by decide) h0
  have e1 := i_nei (k := 2) (2 : Int32) (by decide) h1
  have e2 := i_nei (k := 3) (3 : Int32) (by decide) h2
  have e3 := i_nei (k := 4) (4 : Int32) (by decide) h3
  have e4 := i_nei (k := 5) (5 : Int32) (by decide) h4
  exact r_swi (t := 78) (pg_of mt_39 dX4_rank_13 rfl) (tsw_out (by omega) (by decide) (by decide))
theorem b39_0 (t : Nat) (l1 : Int32) (l2 : ma_V) (ht : is_tr t) (h1 : ma_in l1 8 = true) (h2 : ma_in l1 8 = true) : rn xs L 39 0 [vR t, vI l1, l2] [] (mw f a g) = if (a ((t + 3)) l1.toNatClampNeg) = 1 then rn xs L 39 48 [vR t, vI l1, vI (a ((t + 6)) l1.toNatClampNeg)] [] (mw f a g) else if (a ((t + 3)) l1.toNatClampNeg) = 2 then rn xs L 39 63 [vR t, vI l1, vI (a ((t + 6)) l1.toNatClampNeg)] [] (mw f a g) else if (a ((t + 3)) l1.toNatClampNeg) = 3 then rn xs L 39 52 [vR t, vI l1, vI (a ((t + 6)) l1.toNatClampNeg)] [] (mw f a g) else if (a ((t + 3)) l1.toNatClampNeg) = 4 then rn xs L 39 68 [vR t, vI l1, vI (a ((t + 6)) l1.toNatClampNeg)] [] (mw f a g) else if (a ((t + 3)) l1.toNatClampNeg) = 5 then rn xs L 39 75 [vR t, vI l1, vI (a ((t + 6)) l1.toNatClampNeg)] [] (mw f a g) else rn xs L 39 78 [vR t, vI l1, vI (a ((t + 6)) l1.toNatClampNeg)] [] (mw f a g) :=
  (r_ald (pg_of mt_39 dX4_rank_0 rfl) rfl).trans <|
  (r_gtr (a := (t + 6)) (pg_of mt_39 dX4_rank_1 rfl) (mw_tr ht) (mw_tf ht (by decide))).trans <|
  (r_ild (pg_of mt_39 dX4_rank_4 rfl) rfl).trans <|
  (r_iald (pg_of mt_39 dX4_rank_5 rfl) (mw_tr5 ht) h1).trans <|
  (r_ist (pg_of mt_39 dX4_rank_6 rfl) (Nat.le_of_ble_eq_true rfl) rfl).trans <|
  (r_ald (pg_of mt_39 dX4_rank_7 rfl) rfl).trans <|
  (r_gtr (a := (t + 3)) (pg_of mt_39 dX4_rank_8 rfl) (mw_tr ht) (mw_tf ht (by decide))).trans <|
  (r_ild (pg_of mt_39 dX4_rank_11 rfl) rfl).trans <|
  (r_iald (pg_of mt_39 dX4_rank_12 rfl) (mw_tr2 ht) h2).trans <|
  (sw39_13)
theorem b39_48 (t : Nat) (l1 : Int32) (l2 : Int32) (ht : is_tr t) : rn xs L 39 48 [vR t, vI l1, vI l2] [] (mw f a g) = some (some (vI (l2 + (3 : Int32))), (mw f a g)) :=
  (r_ild (pg_of mt_39 dX4_rank_48 rfl) rfl).trans <|
  (r_con (pg_of mt_39 dX4_rank_49 rfl) (v2 := (3 : Int32)) (by decide)).trans <|
  (r_bin (pg_of mt_39 dX4_rank_50 rfl)).trans <|
  (r_ri (pg_of mt_39 dX4_rank_51 rfl) mt_39 rfl)
theorem b39_52 (t : Nat) (l1 : Int32) (l2 : Int32) (ht : is_tr t) (h1 : ma_in l1 8 = true) : rn xs L 39 52 [vR t, vI l1, vI l2] [] (mw f a g) = some (some (vI ((l2 + (3 : Int32)) + (a ((t + 4)) l1.toNatClampNeg))), (mw f a g)) :=
  (r_ild (pg_of mt_39 dX4_rank_52 rfl) rfl).trans <|
  (r_con (pg_of mt_39 dX4_rank_53 rfl) (v2 := (3 : Int32)) (by decide)).trans <|
  (r_bin (pg_of mt_39 dX4_rank_54 rfl)).trans <|
  (r_ald (pg_of mt_39 dX4_rank_55 rfl) rfl).trans <|
  (r_gtr (a := (t + 4)) (pg_of mt_39 dX4_rank_56 rfl) (mw_tr ht) (mw_tf ht (by decide))).trans <|
  (r_ild (pg_of mt_39 dX4_rank_59 rfl) rfl).trans <|
  (r_iald (pg_of mt_39 dX4_rank_60 rfl) (mw_tr3 ht) h1).trans <|
  (r_bin (pg_of mt_39 dX4_rank_61 rfl)).trans <|
  (r_ri (pg_of mt_39 dX4_rank_62 rfl) mt_39 rfl)
theorem b39_63 (t : Nat) (l1 : Int32) (l2 : Int32) (ht : is_tr t) : rn xs L 39 63 [vR t, vI l1, vI l2] [] (mw f a g) = some (some (vI ((10 : Int32) - l2)), (mw f a g)) :=
  (r_con (pg_of mt_39 dX4_rank_63 rfl) (v2 := (10 : Int32)) (by decide)).trans <|
  (r_ild (pg_of mt_39 dX4_rank_65 rfl) rfl).trans <|
  (r_bin (pg_of mt_39 dX4_rank_66 rfl)).trans <|
  (r_ri (pg_of mt_39 dX4_rank_67 rfl) mt_39 rfl)
theorem b39_68 (t : Nat) (l1 : Int32) (l2 : Int32) (ht : is_tr t) : rn xs L 39 68 [vR t, vI l1, vI l2] [] (mw f a g) = some (some (vI ((2 : Int32) * ((10 : Int32) - l2))), (mw f a g)) :=
  (r_con (pg_of mt_39 dX4_rank_68 rfl) (v2 := (2 : Int32)) (by decide)).trans <|
  (r_con (pg_of mt_39 dX4_rank_69 rfl) (v2 := (10 : Int32)) (by decide)).trans <|
  (r_ild (pg_of mt_39 dX4_rank_71 rfl) rfl).trans <|
  (r_bin (pg_of mt_39 dX4_rank_72 rfl)).trans <|
  (r_bin (pg_of mt_39 dX4_rank_73 rfl)).trans <|
  (r_ri (pg_of mt_39 dX4_rank_74 rfl) mt_39 rfl)
theorem b39_75 (t : Nat) (l1 : Int32) (l2 : Int32) (ht : is_tr t) : rn xs L 39 75 [vR t, vI l1, vI l2] [] (mw f a g) = some (some (vI (-l2)), (mw f a g)) :=
  (r_ild (pg_of mt_39 dX4_rank_75 rfl) rfl).trans <|
  (r_una (pg_of mt_39 dX4_rank_76 rfl)).trans <|
  (r_ri (pg_of mt_39 dX4_rank_77 rfl) mt_39 rfl)
theorem b39_78 (t : Nat) (l1 : Int32) (l2 : Int32) (ht : is_tr t) : rn xs L 39 78 [vR t, vI l1, vI l2] [] (mw f a g) = some (some (vI l2), (mw f a g)) :=
  (r_ild (pg_of mt_39 dX4_rank_78 rfl) rfl).trans <|
  (r_ri (pg_of mt_39 dX4_rank_79 rfl) mt_39 rfl)
-- 40 LeafFalls$Tree.fell(I)V
theorem b40_0 (t : Nat) (l1 : Int32) (ht : is_tr t) (h1 : ma_in l1 8 = true) : rn xs L 40 0 [vR t, vI l1] [] (mw f a g) = some (none, (mw ((ma_u2 f t 8 (((f t 8) + (1 : Int32))))) ((ma_u2 a ((t + 7)) l1.toNatClampNeg ((((ma_u2 f t 8 (((f t 8) + (1 : Int32))))) t 8)))) g)) :=
  (r_ald (pg_of mt_40 dX4_fell_0 rfl) rfl).trans <|
  (r_dup (pg_of mt_40 dX4_fell_1 rfl) rfl).trans <|
  (r_gti (pg_of mt_40 dX4_fell_2 rfl) (mw_tr ht)).trans <|
  (r_con (pg_of mt_40 dX4_fell_5 rfl) (v2 := (1 : Int32)) (by decide)).trans <|
  (r_bin (pg_of mt_40 dX4_fell_6 rfl)).trans <|
  (r_pti (pg_of mt_40 dX4_fell_7 rfl) (mw_tr ht) rfl).trans <|
  (r_ald (pg_of mt_40 dX4_fell_10 rfl) rfl).trans <|
  (r_gtr (a := (t + 7)) (pg_of mt_40 dX4_fell_11 rfl) (mw_tr ht) (mw_tf ht (by decide))).trans <|
  (r_ild (pg_of mt_40 dX4_fell_14 rfl) rfl).trans <|
  (r_ald (pg_of mt_40 dX4_fell_15 rfl) rfl).trans <|
  (r_gti (pg_of mt_40 dX4_fell_16 rfl) (mw_tr ht)).trans <|
  (r_iast (pg_of mt_40 dX4_fell_19 rfl) (mw_tr6 ht) h1).trans <|
  (r_rv (pg_of mt_40 dX4_fell_20 rfl) mt_40 rfl)
-- 41 LeafFalls$Tree.hanging()I
theorem b41_0 (t : Nat) (ht : is_tr t) : rn xs L 41 0 [vR t] [] (mw f a g) = some (some (vI ((f t 7) - (f t 8))), (mw f a g)) :=
  (r_ald (pg_of mt_41 dX4_hanging_0 rfl) rfl).trans <|
  (r_gti (pg_of mt_41 dX4_hanging_1 rfl) (mw_tr ht)).trans <|
  (r_ald (pg_of mt_41 dX4_hanging_4 rfl) rfl).trans <|
  (r_gti (pg_of mt_41 dX4_hanging_5 rfl) (mw_tr ht)).trans <|
  (r_bin (pg_of mt_41 dX4_hanging_8 rfl)).trans <|
  (r_ri (pg_of mt_41 dX4_hanging_9 rfl) mt_41 rfl)
-- 42 LeafFalls$Tree.passDay()I
theorem b42_0 (t : Nat) (l1 : ma_V) (ht : is_tr t) : rn xs L 42 0 [vR t, l1] [] (mw f a g) = rn xs L 42 2 [vR t, vI (0 : Int32)] [] (mw f a g) :=
  (r_con (pg_of mt_42 dX4_passDay_0 rfl) (v2 := (0 : Int32)) (by decide)).trans <|
  (r_ist (pg_of mt_42 dX4_passDay_1 rfl) (Nat.le_of_ble_eq_true rfl) rfl)
theorem b42_2 (t : Nat) (l1 : Int32) (ht : is_tr t) : rn xs L 42 2 [vR t, vI l1] [] (mw f a g) = if l1 < (f t 7) then rn xs L 42 10 [vR t, vI l1] [] (mw f a g) else rn xs L 42 53 [vR t, vI l1] [] (mw f a g) :=
  (r_ild (pg_of mt_42 dX4_passDay_2 rfl) rfl).trans <|
  (r_ald (pg_of mt_42 dX4_passDay_3 rfl) rfl).trans <|
  (r_gti (pg_of mt_42 dX4_passDay_4 rfl) (mw_tr ht)).trans <|
  (r_ge (pg_of mt_42 dX4_passDay_7 rfl))
theorem b42_10 (t : Nat) (l1 : Int32) (ht : is_tr t) : rn xs L 42 10 [vR t, vI l1] [] (mw f a g) = (ev xs L 35 2 [vR t, vI l1] (mw f a g)).bind (fun b => rn xs L 42 15 [vR t, vI l1] (b.1.toList ++ []) b.2) :=
  (r_ald (pg_of mt_42 dX4_passDay_10 rfl) rfl).trans <|
  (r_ild (pg_of mt_42 dX4_passDay_11 rfl) rfl).trans <|
  (r_call (t := tt_42) (t2 := tt_35) (pg_of mt_42 dX4_passDay_12 rfl) mt_42 mt_35 rfl rfl (rcv1 (mw_tr ht)) rfl rfl)
theorem b42_15 (t : Nat) (l1 : Int32) (s0 : Int32) (ht : is_tr t) : rn xs L 42 15 [vR t, vI l1] [vI s0] (mw f a g) = if s0 = 0 then rn xs L 42 47 [vR t, vI l1] [] (mw f a g) else rn xs L 42 18 [vR t, vI l1] [] (mw f a g) :=
  (r_eq0 (pg_of mt_42 dX4_passDay_15 rfl))
theorem b42_18 (t : Nat) (l1 : Int32) (ht : is_tr t) : rn xs L 42 18 [vR t, vI l1] [] (mw f a g) = (ev xs L 43 2 [vR t, vI l1] (mw f a g)).bind (fun b => rn xs L 42 23 [vR t, vI l1] (b.1.toList ++ []) b.2) :=
  (r_ald (pg_of mt_42 dX4_passDay_18 rfl) rfl).trans <|
  (r_ild (pg_of mt_42 dX4_passDay_19 rfl) rfl).trans <|
  (r_call (t := tt_42) (t2 := tt_43) (pg_of mt_42 dX4_passDay_20 rfl) mt_42 mt_43 rfl rfl (rcv1 (mw_tr ht)) rfl rfl)
theorem b42_23 (t : Nat) (l1 : Int32) (s0 : Int32) (ht : is_tr t) : rn xs L 42 23 [vR t, vI l1] [vI s0] (mw f a g) = if s0 = 0 then rn xs L 42 26 [vR t, vI l1] [] (mw f a g) else rn xs L 42 47 [vR t, vI l1] [] (mw f a g) :=
  (r_ne0 (pg_of mt_42 dX4_passDay_23 rfl))
theorem b42_26 (t : Nat) (l1 : Int32) (ht : is_tr t) (h1 : ma_in l1 8 = true) : rn xs L 42 26 [vR t, vI l1] [] (mw f a g) = (ev xs L 38 3 [vR t, vI l1] (mw f a g)).bind (fun b => rn xs L 42 42 [vR t, vI l1] (b.1.toList ++ [vI (a ((t + 5)) l1.toNatClampNeg), vI l1, vR (t + 5)]) b.2) :=
  (r_ald (pg_of mt_42 dX4_passDay_26 rfl) rfl).trans <|
  (r_gtr (a := (t + 5)) (pg_of mt_42 dX4_passDay_27 rfl) (mw_tr ht) (mw_tf ht (by decide))).trans <|
  (r_ild (pg_of mt_42 dX4_passDay_30 rfl) rfl).trans <|
  (r_ald (pg_of mt_42 dX4_passDay_31 rfl) rfl).trans <|
  (r_gtr (a := (t + 5)) (pg_of mt_42 dX4_passDay_32 rfl) (mw_tr ht) (mw_tf ht (by decide))).trans <|
  (r_ild (pg_of mt_42 dX4_passDay_35 rfl) rfl).trans <|
  (r_iald (pg_of mt_42 dX4_passDay_36 rfl) (mw_tr4 ht) h1).trans <|
  (r_ald (pg_of mt_42 dX4_passDay_37 rfl) rfl).trans <|
  (r_ild (pg_of mt_42 dX4_passDay_38 rfl) rfl).trans <|
  (r_call (t := tt_42) (t2 := tt_38) (pg_of mt_42 dX4_passDay_39 rfl) mt_42 mt_38 rfl rfl (rcv1 (mw_tr ht)) rfl rfl)
theorem b42_42 (t : Nat) (l1 : Int32) (s0 : Int32) (s1 : Int32) (s2 : Int32) (ht : is_tr t) : rn xs L 42 42 [vR t, vI l1] [vI s0, vI s1, vI s2, vR (t + 5)] (mw f a g) = (ev xs L 71 1 [vI (s1 - s0)] (mw f a g)).bind (fun b => rn xs L 42 46 [vR t, vI l1] (b.1.toList ++ [vI s2, vR (t + 5)]) b.2) :=
  (r_bin (pg_of mt_42 dX4_passDay_42 rfl)).trans <|
  (r_call (t := tt_42) (t2 := tt_71) (pg_of mt_42 dX4_passDay_43 rfl) mt_42 mt_71 rfl rfl rfl rfl rfl)
theorem b42_46 (t : Nat) (l1 : Int32) (s0 : Int32) (s1 : Int32) (ht : is_tr t) (h1 : ma_in s1 8 = true) : rn xs L 42 46 [vR t, vI l1] [vI s0, vI s1, vR (t + 5)] (mw f a g) = rn xs L 42 2 [vR t, vI (l1 + (1 : Int32))] [] (mw f ((ma_u2 a ((t + 5)) s1.toNatClampNeg s0)) g) :=
  (r_iast (pg_of mt_42 dX4_passDay_46 rfl) (mw_tr4 ht) h1).trans <|
  (r_inc (pg_of mt_42 dX4_passDay_47 rfl) (y := (1 : Int32)) (by decide) rfl rfl).trans <|
  (r_gto (pg_of mt_42 dX4_passDay_50 rfl))
theorem b42_47 (t : Nat) (l1 : Int32) (ht : is_tr t) : rn xs L 42 47 [vR t, vI l1] [] (mw f a g) = rn xs L 42 2 [vR t, vI (l1 + (1 : Int32))] [] (mw f a g) :=
  (r_inc (pg_of mt_42 dX4_passDay_47 rfl) (y := (1 : Int32)) (by decide) rfl rfl).trans <|
  (r_gto (pg_of mt_42 dX4_passDay_50 rfl))
theorem b42_53 (t : Nat) (l1 : Int32) (ht : is_tr t) : rn xs L 42 53 [vR t, vI l1] [] (mw f a g) = (ev xs L 44 3 [vR t] (mw f a g)).bind (fun b => rn xs L 42 57 [vR t, vI l1] (b.1.toList ++ []) b.2) :=
  (r_ald (pg_of mt_42 dX4_passDay_53 rfl) rfl).trans <|
  (r_call (t := tt_42) (t2 := tt_44) (pg_of mt_42 dX4_passDay_54 rfl) mt_42 mt_44 rfl rfl (rcv1 (mw_tr ht)) rfl rfl)
theorem b42_57 (t : Nat) (l1 : Int32) (s0 : Int32) (ht : is_tr t) : rn xs L 42 57 [vR t, vI l1] [vI s0] (mw f a g) = if s0 < 0 then rn xs L 42 67 [vR t, vI s0] [] (mw f a g) else rn xs L 42 62 [vR t, vI s0] [] (mw f a g) :=
  (r_ist (pg_of mt_42 dX4_passDay_57 rfl) (Nat.le_of_ble_eq_true rfl) rfl).trans <|
  (r_ild (pg_of mt_42 dX4_passDay_58 rfl) rfl).trans <|
  (r_lt0 (pg_of mt_42 dX4_passDay_59 rfl))
theorem b42_62 (t : Nat) (l1 : Int32) (ht : is_tr t) : rn xs L 42 62 [vR t, vI l1] [] (mw f a g) = (ev xs L 40 2 [vR t, vI l1] (mw f a g)).bind (fun b => rn xs L 42 67 [vR t, vI l1] (b.1.toList ++ []) b.2) :=
  (r_ald (pg_of mt_42 dX4_passDay_62 rfl) rfl).trans <|
  (r_ild (pg_of mt_42 dX4_passDay_63 rfl) rfl).trans <|
  (r_call (t := tt_42) (t2 := tt_40) (pg_of mt_42 dX4_passDay_64 rfl) mt_42 mt_40 rfl rfl (rcv1 (mw_tr ht)) rfl rfl)
theorem b42_67 (t : Nat) (l1 : Int32) (ht : is_tr t) : rn xs L 42 67 [vR t, vI l1] [] (mw f a g) = some (some (vI l1), (mw ((ma_u2 f t 9 (((f t 9) + (1 : Int32))))) a g)) :=
  (r_ald (pg_of mt_42 dX4_passDay_67 rfl) rfl).trans <|
  (r_dup (pg_of mt_42 dX4_passDay_68 rfl) rfl).trans <|
  (r_gti (pg_of mt_42 dX4_passDay_69 rfl) (mw_tr ht)).trans <|
  (r_con (pg_of mt_42 dX4_passDay_72 rfl) (v2 := (1 : Int32)) (by decide)).trans <|
  (r_bin (pg_of mt_42 dX4_passDay_73 rfl)).trans <|
  (r_pti (pg_of mt_42 dX4_passDay_74 rfl) (mw_tr ht) rfl).trans <|
  (r_ild (pg_of mt_42 dX4_passDay_77 rfl) rfl).trans <|
  (r_ri (pg_of mt_42 dX4_passDay_78 rfl) mt_42 rfl)
-- 43 LeafFalls$Tree.isTied(I)Z
theorem b43_0 (t : Nat) (l1 : Int32) (ht : is_tr t) : rn xs L 43 0 [vR t, vI l1] [] (mw f a g) = if (((f t 11) >>> (l1 &&& 31)) &&& (1 : Int32)) = 0 then rn xs L 43 15 [vR t, vI l1] [] (mw f a g) else rn xs L 43 11 [vR t, vI l1] [] (mw f a g) :=
  (r_ald (pg_of mt_43 dX4_isTied_0 rfl) rfl).trans <|
  (r_gti (pg_of mt_43 dX4_isTied_1 rfl) (mw_tr ht)).trans <|
  (r_ild (pg_of mt_43 dX4_isTied_4 rfl) rfl).trans <|
  (r_bin (pg_of mt_43 dX4_isTied_5 rfl)).trans <|
  (r_con (pg_of mt_43 dX4_isTied_6 rfl) (v2 := (1 : Int32)) (by decide)).trans <|
  (r_bin (pg_of mt_43 dX4_isTied_7 rfl)).trans <|
  (r_eq0 (pg_of mt_43 dX4_isTied_8 rfl))
theorem b43_11 (t : Nat) (l1 : Int32) (ht : is_tr t) : rn xs L 43 11 [vR t, vI l1] [] (mw f a g) = some (some (vI (1 : Int32)), (mw f a g)) :=
  (r_con (pg_of mt_43 dX4_isTied_11 rfl) (v2 := (1 : Int32)) (by decide)).trans <|
  (r_gto (pg_of mt_43 dX4_isTied_12 rfl)).trans <|
  (r_rz (pg_of mt_43 dX4_isTied_16 rfl) mt_43 rfl (Or.inr rfl))
theorem b43_15 (t : Nat) (l1 : Int32) (ht : is_tr t) : rn xs L 43 15 [vR t, vI l1] [] (mw f a g) = some (some (vI (0 : Int32)), (mw f a g)) :=
  (r_con (pg_of mt_43 dX4_isTied_15 rfl) (v2 := (0 : Int32)) (by decide)).trans <|
  (r_rz (pg_of mt_43 dX4_isTied_16 rfl) mt_43 rfl (Or.inl rfl))
-- 44 LeafFalls$Tree.faller()I
theorem b44_0 (t : Nat) (l1 : ma_V) (l2 : ma_V) (ht : is_tr t) : rn xs L 44 0 [vR t, l1, l2] [] (mw f a g) = rn xs L 44 4 [vR t, vI (-1 : Int32), vI (0 : Int32)] [] (mw f a g) :=
  (r_con (pg_of mt_44 dX4_faller_0 rfl) (v2 := (-1 : Int32)) (by decide)).trans <|
  (r_ist (pg_of mt_44 dX4_faller_1 rfl) (Nat.le_of_ble_eq_true rfl) rfl).trans <|
  (r_con (pg_of mt_44 dX4_faller_2 rfl) (v2 := (0 : Int32)) (by decide)).trans <|
  (r_ist (pg_of mt_44 dX4_faller_3 rfl) (Nat.le_of_ble_eq_true rfl) rfl)
theorem b44_4 (t : Nat) (l1 : Int32) (l2 : Int32) (ht : is_tr t) : rn xs L 44 4 [vR t, vI l1, vI l2] [] (mw f a g) = if l2 < (f t 7) then rn xs L 44 12 [vR t, vI l1, vI l2] [] (mw f a g) else rn xs L 44 62 [vR t, vI l1, vI l2] [] (mw f a g) :=
  (r_ild (pg_of mt_44 dX4_faller_4 rfl) rfl).trans <|
  (r_ald (pg_of mt_44 dX4_faller_5 rfl) rfl).trans <|
  (r_gti (pg_of mt_44 dX4_faller_6 rfl) (mw_tr ht)).trans <|
  (r_ge (pg_of mt_44 dX4_faller_9 rfl))
theorem b44_12 (t : Nat) (l1 : Int32) (l2 : Int32) (ht : is_tr t) : rn xs L 44 12 [vR t, vI l1, vI l2] [] (mw f a g) = (ev xs L 35 2 [vR t, vI l2] (mw f a g)).bind (fun b => rn xs L 44 17 [vR t, vI l1, vI l2] (b.1.toList ++ []) b.2) :=
  (r_ald (pg_of mt_44 dX4_faller_12 rfl) rfl).trans <|
  (r_ild (pg_of mt_44 dX4_faller_13 rfl) rfl).trans <|
  (r_call (t := tt_44) (t2 := tt_35) (pg_of mt_44 dX4_faller_14 rfl) mt_44 mt_35 rfl rfl (rcv1 (mw_tr ht)) rfl rfl)
theorem b44_17 (t : Nat) (l1 : Int32) (l2 : Int32) (s0 : Int32) (ht : is_tr t) : rn xs L 44 17 [vR t, vI l1, vI l2] [vI s0] (mw f a g) = if s0 = 0 then rn xs L 44 56 [vR t, vI l1, vI l2] [] (mw f a g) else rn xs L 44 20 [vR t, vI l1, vI l2] [] (mw f a g) :=
  (r_eq0 (pg_of mt_44 dX4_faller_17 rfl))
theorem b44_20 (t : Nat) (l1 : Int32) (l2 : Int32) (ht : is_tr t) (h1 : ma_in l2 8 = true) : rn xs L 44 20 [vR t, vI l1, vI l2] [] (mw f a g) = if (a ((t + 5)) l2.toNatClampNeg) = 0 then rn xs L 44 29 [vR t, vI l1, vI l2] [] (mw f a g) else rn xs L 44 56 [vR t, vI l1, vI l2] [] (mw f a g) :=
  (r_ald (pg_of mt_44 dX4_faller_20 rfl) rfl).trans <|
  (r_gtr (a := (t + 5)) (pg_of mt_44 dX4_faller_21 rfl) (mw_tr ht) (mw_tf ht (by decide))).trans <|
  (r_ild (pg_of mt_44 dX4_faller_24 rfl) rfl).trans <|
  (r_iald (pg_of mt_44 dX4_faller_25 rfl) (mw_tr4 ht) h1).trans <|
  (r_ne0 (pg_of mt_44 dX4_faller_26 rfl))
theorem b44_29 (t : Nat) (l1 : Int32) (l2 : Int32) (ht : is_tr t) : rn xs L 44 29 [vR t, vI l1, vI l2] [] (mw f a g) = (ev xs L 43 2 [vR t, vI l2] (mw f a g)).bind (fun b => rn xs L 44 34 [vR t, vI l1, vI l2] (b.1.toList ++ []) b.2) :=
  (r_ald (pg_of mt_44 dX4_faller_29 rfl) rfl).trans <|
  (r_ild (pg_of mt_44 dX4_faller_30 rfl) rfl).trans <|
  (r_call (t := tt_44) (t2 := tt_43) (pg_of mt_44 dX4_faller_31 rfl) mt_44 mt_43 rfl rfl (rcv1 (mw_tr ht)) rfl rfl)
theorem b44_34 (t : Nat) (l1 : Int32) (l2 : Int32) (s0 : Int32) (ht : is_tr t) : rn xs L 44 34 [vR t, vI l1, vI l2] [vI s0] (mw f a g) = if s0 = 0 then rn xs L 44 37 [vR t, vI l1, vI l2] [] (mw f a g) else rn xs L 44 56 [vR t, vI l1, vI l2] [] (mw f a g) :=
  (r_ne0 (pg_of mt_44 dX4_faller_34 rfl))
theorem b44_37 (t : Nat) (l1 : Int32) (l2 : Int32) (ht : is_tr t) : rn xs L 44 37 [vR t, vI l1, vI l2] [] (mw f a g) = if l1 < 0 then rn xs L 44 54 [vR t, vI l1, vI l2] [] (mw f a g) else rn xs L 44 41 [vR t, vI l1, vI l2] [] (mw f a g) :=
  (r_ild (pg_of mt_44 dX4_faller_37 rfl) rfl).trans <|
  (r_lt0 (pg_of mt_44 dX4_faller_38 rfl))
theorem b44_41 (t : Nat) (l1 : Int32) (l2 : Int32) (ht : is_tr t) : rn xs L 44 41 [vR t, vI l1, vI l2] [] (mw f a g) = (ev xs L 39 3 [vR t, vI l2] (mw f a g)).bind (fun b => rn xs L 44 46 [vR t, vI l1, vI l2] (b.1.toList ++ []) b.2) :=
  (r_ald (pg_of mt_44 dX4_faller_41 rfl) rfl).trans <|
  (r_ild (pg_of mt_44 dX4_faller_42 rfl) rfl).trans <|
  (r_call (t := tt_44) (t2 := tt_39) (pg_of mt_44 dX4_faller_43 rfl) mt_44 mt_39 rfl rfl (rcv1 (mw_tr ht)) rfl rfl)
theorem b44_46 (t : Nat) (l1 : Int32) (l2 : Int32) (s0 : Int32) (ht : is_tr t) : rn xs L 44 46 [vR t, vI l1, vI l2] [vI s0] (mw f a g) = (ev xs L 39 3 [vR t, vI l1] (mw f a g)).bind (fun b => rn xs L 44 51 [vR t, vI l1, vI l2] (b.1.toList ++ [vI s0]) b.2) :=
  (r_ald (pg_of mt_44 dX4_faller_46 rfl) rfl).trans <|
  (r_ild (pg_of mt_44 dX4_faller_47 rfl) rfl).trans <|
  (r_call (t := tt_44) (t2 := tt_39) (pg_of mt_44 dX4_faller_48 rfl) mt_44 mt_39 rfl rfl (rcv1 (mw_tr ht)) rfl rfl)
theorem b44_51 (t : Nat) (l1 : Int32) (l2 : Int32) (s0 : Int32) (s1 : Int32) (ht : is_tr t) : rn xs L 44 51 [vR t, vI l1, vI l2] [vI s0, vI s1] (mw f a g) = if s0 < s1 then rn xs L 44 54 [vR t, vI l1, vI l2] [] (mw f a g) else rn xs L 44 56 [vR t, vI l1, vI l2] [] (mw f a g) :=
  (r_le (pg_of mt_44 dX4_faller_51 rfl))
theorem b44_54 (t : Nat) (l1 : Int32) (l2 : Int32) (ht : is_tr t) : rn xs L 44 54 [vR t, vI l1, vI l2] [] (mw f a g) = rn xs L 44 4 [vR t, vI l2, vI (l2 + (1 : Int32))] [] (mw f a g) :=
  (r_ild (pg_of mt_44 dX4_faller_54 rfl) rfl).trans <|
  (r_ist (pg_of mt_44 dX4_faller_55 rfl) (Nat.le_of_ble_eq_true rfl) rfl).trans <|
  (r_inc (pg_of mt_44 dX4_faller_56 rfl) (y := (1 : Int32)) (by decide) rfl rfl).trans <|
  (r_gto (pg_of mt_44 dX4_faller_59 rfl))
theorem b44_56 (t : Nat) (l1 : Int32) (l2 : Int32) (ht : is_tr t) : rn xs L 44 56 [vR t, vI l1, vI l2] [] (mw f a g) = rn xs L 44 4 [vR t, vI l1, vI (l2 + (1 : Int32))] [] (mw f a g) :=
  (r_inc (pg_of mt_44 dX4_faller_56 rfl) (y := (1 : Int32)) (by decide) rfl rfl).trans <|
  (r_gto (pg_of mt_44 dX4_faller_59 rfl))
theorem b44_62 (t : Nat) (l1 : Int32) (l2 : Int32) (ht : is_tr t) : rn xs L 44 62 [vR t, vI l1, vI l2] [] (mw f a g) = some (some (vI l1), (mw f a g)) :=
  (r_ild (pg_of mt_44 dX4_faller_62 rfl) rfl).trans <|
  (r_ri (pg_of mt_44 dX4_faller_63 rfl) mt_44 rfl)
-- 45 LeafFalls$Tree.passDayByDraws()I
theorem b45_0 (t : Nat) (l1 : ma_V) (ht : is_tr t) : rn xs L 45 0 [vR t, l1] [] (mw f a g) = if 0 < (f t 7) then rn xs L 45 7 [vR t, l1] [] (mw f a g) else rn xs L 45 43 [vR t, l1] [] (mw f a g) :=
  (r_ald (pg_of mt_45 dX4_passDayByDraws_0 rfl) rfl).trans <|
  (r_gti (pg_of mt_45 dX4_passDayByDraws_1 rfl) (mw_tr ht)).trans <|
  (r_le0 (pg_of mt_45 dX4_passDayByDraws_4 rfl))
theorem b45_7 (t : Nat) (l1 : ma_V) (ht : is_tr t) : rn xs L 45 7 [vR t, l1] [] (mw f a g) = (ev xs L 46 1 [vR t] (mw f a g)).bind (fun b => rn xs L 45 11 [vR t, l1] (b.1.toList ++ []) b.2) :=
  (r_ald (pg_of mt_45 dX4_passDayByDraws_7 rfl) rfl).trans <|
  (r_call (t := tt_45) (t2 := tt_46) (pg_of mt_45 dX4_passDayByDraws_8 rfl) mt_45 mt_46 rfl rfl (rcv1 (mw_tr ht)) rfl rfl)
theorem b45_11 (t : Nat) (l1 : ma_V) (s0 : Int32) (ht : is_tr t) (h1 : ¬ (f t 7) = 0) : rn xs L 45 11 [vR t, l1] [vI s0] (mw f a g) = (ev xs L 46 1 [vR t] (mw f a g)).bind (fun b => rn xs L 45 21 [vR t, vI (s0 - s0 / (f t 7) * (f t 7))] (b.1.toList ++ []) b.2) :=
  (r_ald (pg_of mt_45 dX4_passDayByDraws_11 rfl) rfl).trans <|
  (r_gti (pg_of mt_45 dX4_passDayByDraws_12 rfl) (mw_tr ht)).trans <|
  (r_dvi (pg_of mt_45 dX4_passDayByDraws_15 rfl) h1).trans <|
  (r_ist (pg_of mt_45 dX4_passDayByDraws_16 rfl) (Nat.le_of_ble_eq_true rfl) rfl).trans <|
  (r_ald (pg_of mt_45 dX4_passDayByDraws_17 rfl) rfl).trans <|
  (r_call (t := tt_45) (t2 := tt_46) (pg_of mt_45 dX4_passDayByDraws_18 rfl) mt_45 mt_46 rfl rfl (rcv1 (mw_tr ht)) rfl rfl)
theorem b45_21 (t : Nat) (l1 : Int32) (s0 : Int32) (ht : is_tr t) : rn xs L 45 21 [vR t, vI l1] [vI s0] (mw f a g) = if (s0 - s0 / (100 : Int32) * (100 : Int32)) < (a ((t + 1)) 3) then rn xs L 45 33 [vR t, vI l1] [] (mw f a g) else rn xs L 45 43 [vR t, vI l1] [] (mw f a g) :=
  (r_con (pg_of mt_45 dX4_passDayByDraws_21 rfl) (v2 := (100 : Int32)) (by decide)).trans <|
  (r_dvi (pg_of mt_45 dX4_passDayByDraws_23 rfl) (by decide)).trans <|
  (r_ald (pg_of mt_45 dX4_passDayByDraws_24 rfl) rfl).trans <|
  (r_gtr (a := (t + 1)) (pg_of mt_45 dX4_passDayByDraws_25 rfl) (mw_tr ht) (mw_tf ht (by decide))).trans <|
  (r_con (pg_of mt_45 dX4_passDayByDraws_28 rfl) (v2 := (3 : Int32)) (by decide)).trans <|
  (r_ialc (j := 3) (pg_of mt_45 dX4_passDayByDraws_29 rfl) (mw_tr0 ht) (by decide) (by decide)).trans <|
  (r_ge (pg_of mt_45 dX4_passDayByDraws_30 rfl))
theorem b45_33 (t : Nat) (l1 : Int32) (ht : is_tr t) (h1 : ma_in l1 8 = true) (h2 : ma_in l1 8 = true) : rn xs L 45 33 [vR t, vI l1] [] (mw f a g) = (ev xs L 42 2 [vR t] (mw f ((ma_u2 a ((t + 5)) l1.toNatClampNeg (((a ((t + 5)) l1.toNatClampNeg) / (3 : Int32))))) g)).bind (fun b => rn xs L 45 47 [vR t, vI l1] (b.1.toList ++ []) b.2) :=
  (r_ald (pg_of mt_45 dX4_passDayByDraws_33 rfl) rfl).trans <|
  (r_gtr (a := (t + 5)) (pg_of mt_45 dX4_passDayByDraws_34 rfl) (mw_tr ht) (mw_tf ht (by decide))).trans <|
  (r_ild (pg_of mt_45 dX4_passDayByDraws_37 rfl) rfl).trans <|
  (r_du2 (pg_of mt_45 dX4_passDayByDraws_38 rfl) rfl).trans <|
  (r_iald (pg_of mt_45 dX4_passDayByDraws_39 rfl) (mw_tr4 ht) h1).trans <|
  (r_con (pg_of mt_45 dX4_passDayByDraws_40 rfl) (v2 := (3 : Int32)) (by decide)).trans <|
  (r_dvi (pg_of mt_45 dX4_passDayByDraws_41 rfl) (by decide)).trans <|
  (r_iast (pg_of mt_45 dX4_passDayByDraws_42 rfl) (mw_tr4 ht) h2).trans <|
  (r_ald (pg_of mt_45 dX4_passDayByDraws_43 rfl) rfl).trans <|
  (r_call (t := tt_45) (t2 := tt_42) (pg_of mt_45 dX4_passDayByDraws_44 rfl) mt_45 mt_42 rfl rfl (rcv1 (mw_tr ht)) rfl rfl)
theorem b45_43 (t : Nat) (l1 : ma_V) (ht : is_tr t) : rn xs L 45 43 [vR t, l1] [] (mw f a g) = (ev xs L 42 2 [vR t] (mw f a g)).bind (fun b => rn xs L 45 47 [vR t, l1] (b.1.toList ++ []) b.2) :=
  (r_ald (pg_of mt_45 dX4_passDayByDraws_43 rfl) rfl).trans <|
  (r_call (t := tt_45) (t2 := tt_42) (pg_of mt_45 dX4_passDayByDraws_44 rfl) mt_45 mt_42 rfl rfl (rcv1 (mw_tr ht)) rfl rfl)
theorem b45_47 (t : Nat) (l1 : ma_V) (s0 : Int32) (ht : is_tr t) : rn xs L 45 47 [vR t, l1] [vI s0] (mw f a g) = some (some (vI s0), (mw f a g)) :=
  (r_ri (pg_of mt_45 dX4_passDayByDraws_47 rfl) mt_45 rfl)
-- 46 LeafFalls$Tree.drawn()I
theorem b46_0 (t : Nat) (ht : is_tr t) : rn xs L 46 0 [vR t] [] (mw f a g) = some (some (vI ((((((ma_u2 f t 10 ((((f t 10) * (1103515245 : Int32)) + (12345 : Int32))))) t 10)).toUInt32 >>> (((16 : Int32)).toUInt32 &&& Int32.toUInt32 31)).toInt32)), (mw ((ma_u2 f t 10 ((((f t 10) * (1103515245 : Int32)) + (12345 : Int32))))) a g)) :=
  (r_ald (pg_of mt_46 dX4_drawn_0 rfl) rfl).trans <|
  (r_ald (pg_of mt_46 dX4_drawn_1 rfl) rfl).trans <|
  (r_gti (pg_of mt_46 dX4_drawn_2 rfl) (mw_tr ht)).trans <|
  (r_con (pg_of mt_46 dX4_drawn_5 rfl) (v2 := (1103515245 : Int32)) rfl).trans <|
  (r_bin (pg_of mt_46 dX4_drawn_7 rfl)).trans <|
  (r_con (pg_of mt_46 dX4_drawn_8 rfl) (v2 := (12345 : Int32)) (by decide)).trans <|
  (r_bin (pg_of mt_46 dX4_drawn_11 rfl)).trans <|
  (r_pti (pg_of mt_46 dX4_drawn_12 rfl) (mw_tr ht) rfl).trans <|
  (r_ald (pg_of mt_46 dX4_drawn_15 rfl) rfl).trans <|
  (r_gti (pg_of mt_46 dX4_drawn_16 rfl) (mw_tr ht)).trans <|
  (r_con (pg_of mt_46 dX4_drawn_19 rfl) (v2 := (16 : Int32)) (by decide)).trans <|
  (r_bin (pg_of mt_46 dX4_drawn_21 rfl)).trans <|
  (r_ri (pg_of mt_46 dX4_drawn_22 rfl) mt_46 rfl)
-- 47 LeafFalls$Tree.signWritten(I)I
theorem b47_0 (t : Nat) (l1 : Int32) (l2 : ma_V) (ht : is_tr t) : rn xs L 47 0 [vR t, vI l1, l2] [] (mw f a g) = rn xs L 47 2 [vR t, vI l1, vI (0 : Int32)] [] (mw f a g) :=
  (r_con (pg_of mt_47 dX4_signWritten_0 rfl) (v2 := (0 : Int32)) (by decide)).trans <|
  (r_ist (pg_of mt_47 dX4_signWritten_1 rfl) (Nat.le_of_ble_eq_true rfl) rfl)
theorem b47_2 (t : Nat) (l1 : Int32) (l2 : Int32) (ht : is_tr t) : rn xs L 47 2 [vR t, vI l1, vI l2] [] (mw f a g) = if l2 < (f t 7) then rn xs L 47 10 [vR t, vI l1, vI l2] [] (mw f a g) else rn xs L 47 35 [vR t, vI l1, vI l2] [] (mw f a g) :=
  (r_ild (pg_of mt_47 dX4_signWritten_2 rfl) rfl).trans <|
  (r_ald (pg_of mt_47 dX4_signWritten_3 rfl) rfl).trans <|
  (r_gti (pg_of mt_47 dX4_signWritten_4 rfl) (mw_tr ht)).trans <|
  (r_ge (pg_of mt_47 dX4_signWritten_7 rfl))
theorem b47_10 (t : Nat) (l1 : Int32) (l2 : Int32) (ht : is_tr t) (h1 : ma_in l2 8 = true) : rn xs L 47 10 [vR t, vI l1, vI l2] [] (mw f a g) = if (a ((t + 7)) l2.toNatClampNeg) = (l1 + (1 : Int32)) then rn xs L 47 22 [vR t, vI l1, vI l2] [] (mw f a g) else rn xs L 47 29 [vR t, vI l1, vI l2] [] (mw f a g) :=
  (r_ald (pg_of mt_47 dX4_signWritten_10 rfl) rfl).trans <|
  (r_gtr (a := (t + 7)) (pg_of mt_47 dX4_signWritten_11 rfl) (mw_tr ht) (mw_tf ht (by decide))).trans <|
  (r_ild (pg_of mt_47 dX4_signWritten_14 rfl) rfl).trans <|
  (r_iald (pg_of mt_47 dX4_signWritten_15 rfl) (mw_tr6 ht) h1).trans <|
  (r_ild (pg_of mt_47 dX4_signWritten_16 rfl) rfl).trans <|
  (r_con (pg_of mt_47 dX4_signWritten_17 rfl) (v2 := (1 : Int32)) (by decide)).trans <|
  (r_bin (pg_of mt_47 dX4_signWritten_18 rfl)).trans <|
  (r_ne (pg_of mt_47 dX4_signWritten_19 rfl))
theorem b47_22 (t : Nat) (l1 : Int32) (l2 : Int32) (ht : is_tr t) (h1 : ma_in l2 8 = true) : rn xs L 47 22 [vR t, vI l1, vI l2] [] (mw f a g) = some (some (vI (a ((t + 6)) l2.toNatClampNeg)), (mw f a g)) :=
  (r_ald (pg_of mt_47 dX4_signWritten_22 rfl) rfl).trans <|
  (r_gtr (a := (t + 6)) (pg_of mt_47 dX4_signWritten_23 rfl) (mw_tr ht) (mw_tf ht (by decide))).trans <|
  (r_ild (pg_of mt_47 dX4_signWritten_26 rfl) rfl).trans <|
  (r_iald (pg_of mt_47 dX4_signWritten_27 rfl) (mw_tr5 ht) h1).trans <|
  (r_ri (pg_of mt_47 dX4_signWritten_28 rfl) mt_47 rfl)
theorem b47_29 (t : Nat) (l1 : Int32) (l2 : Int32) (ht : is_tr t) : rn xs L 47 29 [vR t, vI l1, vI l2] [] (mw f a g) = rn xs L 47 2 [vR t, vI l1, vI (l2 + (1 : Int32))] [] (mw f a g) :=
  (r_inc (pg_of mt_47 dX4_signWritten_29 rfl) (y := (1 : Int32)) (by decide) rfl rfl).trans <|
  (r_gto (pg_of mt_47 dX4_signWritten_32 rfl))
theorem b47_35 (t : Nat) (l1 : Int32) (l2 : Int32) (ht : is_tr t) : rn xs L 47 35 [vR t, vI l1, vI l2] [] (mw f a g) = some (some (vI (-3 : Int32)), (mw f a g)) :=
  (r_con (pg_of mt_47 dX4_signWritten_35 rfl) (v2 := (-3 : Int32)) (by decide)).trans <|
  (r_ri (pg_of mt_47 dX4_signWritten_37 rfl) mt_47 rfl)
-- 48 LeafFalls$Tree.hangingSet()I
theorem b48_0 (t : Nat) (l1 : ma_V) (l2 : ma_V) (ht : is_tr t) : rn xs L 48 0 [vR t, l1, l2] [] (mw f a g) = rn xs L 48 4 [vR t, vI (0 : Int32), vI (0 : Int32)] [] (mw f a g) :=
  (r_con (pg_of mt_48 dX4_hangingSet_0 rfl) (v2 := (0 : Int32)) (by decide)).trans <|
  (r_ist (pg_of mt_48 dX4_hangingSet_1 rfl) (Nat.le_of_ble_eq_true rfl) rfl).trans <|
  (r_con (pg_of mt_48 dX4_hangingSet_2 rfl) (v2 := (0 : Int32)) (by decide)).trans <|
  (r_ist (pg_of mt_48 dX4_hangingSet_3 rfl) (Nat.le_of_ble_eq_true rfl) rfl)
theorem b48_4 (t : Nat) (l1 : Int32) (l2 : Int32) (ht : is_tr t) : rn xs L 48 4 [vR t, vI l1, vI l2] [] (mw f a g) = if l2 < (f t 7) then rn xs L 48 12 [vR t, vI l1, vI l2] [] (mw f a g) else rn xs L 48 32 [vR t, vI l1, vI l2] [] (mw f a g) :=
  (r_ild (pg_of mt_48 dX4_hangingSet_4 rfl) rfl).trans <|
  (r_ald (pg_of mt_48 dX4_hangingSet_5 rfl) rfl).trans <|
  (r_gti (pg_of mt_48 dX4_hangingSet_6 rfl) (mw_tr ht)).trans <|
  (r_ge (pg_of mt_48 dX4_hangingSet_9 rfl))
theorem b48_12 (t : Nat) (l1 : Int32) (l2 : Int32) (ht : is_tr t) : rn xs L 48 12 [vR t, vI l1, vI l2] [] (mw f a g) = (ev xs L 35 2 [vR t, vI l2] (mw f a g)).bind (fun b => rn xs L 48 17 [vR t, vI l1, vI l2] (b.1.toList ++ []) b.2) :=
  (r_ald (pg_of mt_48 dX4_hangingSet_12 rfl) rfl).trans <|
  (r_ild (pg_of mt_48 dX4_hangingSet_13 rfl) rfl).trans <|
  (r_call (t := tt_48) (t2 := tt_35) (pg_of mt_48 dX4_hangingSet_14 rfl) mt_48 mt_35 rfl rfl (rcv1 (mw_tr ht)) rfl rfl)
theorem b48_17 (t : Nat) (l1 : Int32) (l2 : Int32) (s0 : Int32) (ht : is_tr t) : rn xs L 48 17 [vR t, vI l1, vI l2] [vI s0] (mw f a g) = if s0 = 0 then rn xs L 48 26 [vR t, vI l1, vI l2] [] (mw f a g) else rn xs L 48 20 [vR t, vI l1, vI l2] [] (mw f a g) :=
  (r_eq0 (pg_of mt_48 dX4_hangingSet_17 rfl))
theorem b48_20 (t : Nat) (l1 : Int32) (l2 : Int32) (ht : is_tr t) : rn xs L 48 20 [vR t, vI l1, vI l2] [] (mw f a g) = rn xs L 48 4 [vR t, vI (l1 ||| ((1 : Int32) <<< (l2 &&& 31))), vI (l2 + (1 : Int32))] [] (mw f a g) :=
  (r_ild (pg_of mt_48 dX4_hangingSet_20 rfl) rfl).trans <|
  (r_con (pg_of mt_48 dX4_hangingSet_21 rfl) (v2 := (1 : Int32)) (by decide)).trans <|
  (r_ild (pg_of mt_48 dX4_hangingSet_22 rfl) rfl).trans <|
  (r_bin (pg_of mt_48 dX4_hangingSet_23 rfl)).trans <|
  (r_bin (pg_of mt_48 dX4_hangingSet_24 rfl)).trans <|
  (r_ist (pg_of mt_48 dX4_hangingSet_25 rfl) (Nat.le_of_ble_eq_true rfl) rfl).trans <|
  (r_inc (pg_of mt_48 dX4_hangingSet_26 rfl) (y := (1 : Int32)) (by decide) rfl rfl).trans <|
  (r_gto (pg_of mt_48 dX4_hangingSet_29 rfl))
theorem b48_26 (t : Nat) (l1 : Int32) (l2 : Int32) (ht : is_tr t) : rn xs L 48 26 [vR t, vI l1, vI l2] [] (mw f a g) = rn xs L 48 4 [vR t, vI l1, vI (l2 + (1 : Int32))] [] (mw f a g) :=
  (r_inc (pg_of mt_48 dX4_hangingSet_26 rfl) (y := (1 : Int32)) (by decide) rfl rfl).trans <|
  (r_gto (pg_of mt_48 dX4_hangingSet_29 rfl))
theorem b48_32 (t : Nat) (l1 : Int32) (l2 : Int32) (ht : is_tr t) : rn xs L 48 32 [vR t, vI l1, vI l2] [] (mw f a g) = some (some (vI l1), (mw f a g)) :=
  (r_ild (pg_of mt_48 dX4_hangingSet_32 rfl) rfl).trans <|
  (r_ri (pg_of mt_48 dX4_hangingSet_33 rfl) mt_48 rfl)
-- 49 LeafFalls$Tree.holdTogether()I
theorem b49_0 (t : Nat) (l1 : ma_V) (l2 : ma_V) (ht : is_tr t) : rn xs L 49 0 [vR t, l1, l2] [] (mw f a g) = rn xs L 49 4 [vR t, vI (0 : Int32), vI (0 : Int32)] [] (mw f a g) :=
  (r_con (pg_of mt_49 dX4_holdTogether_0 rfl) (v2 := (0 : Int32)) (by decide)).trans <|
  (r_ist (pg_of mt_49 dX4_holdTogether_1 rfl) (Nat.le_of_ble_eq_true rfl) rfl).trans <|
  (r_con (pg_of mt_49 dX4_holdTogether_2 rfl) (v2 := (0 : Int32)) (by decide)).trans <|
  (r_ist (pg_of mt_49 dX4_holdTogether_3 rfl) (Nat.le_of_ble_eq_true rfl) rfl)
theorem b49_4 (t : Nat) (l1 : Int32) (l2 : Int32) (ht : is_tr t) : rn xs L 49 4 [vR t, vI l1, vI l2] [] (mw f a g) = if l2 < (f t 7) then rn xs L 49 12 [vR t, vI l1, vI l2] [] (mw f a g) else rn xs L 49 35 [vR t, vI l1, vI l2] [] (mw f a g) :=
  (r_ild (pg_of mt_49 dX4_holdTogether_4 rfl) rfl).trans <|
  (r_ald (pg_of mt_49 dX4_holdTogether_5 rfl) rfl).trans <|
  (r_gti (pg_of mt_49 dX4_holdTogether_6 rfl) (mw_tr ht)).trans <|
  (r_ge (pg_of mt_49 dX4_holdTogether_9 rfl))
theorem b49_12 (t : Nat) (l1 : Int32) (l2 : Int32) (ht : is_tr t) : rn xs L 49 12 [vR t, vI l1, vI l2] [] (mw f a g) = (ev xs L 35 2 [vR t, vI l2] (mw f a g)).bind (fun b => rn xs L 49 17 [vR t, vI l1, vI l2] (b.1.toList ++ []) b.2) :=
  (r_ald (pg_of mt_49 dX4_holdTogether_12 rfl) rfl).trans <|
  (r_ild (pg_of mt_49 dX4_holdTogether_13 rfl) rfl).trans <|
  (r_call (t := tt_49) (t2 := tt_35) (pg_of mt_49 dX4_holdTogether_14 rfl) mt_49 mt_35 rfl rfl (rcv1 (mw_tr ht)) rfl rfl)
theorem b49_17 (t : Nat) (l1 : Int32) (l2 : Int32) (s0 : Int32) (ht : is_tr t) : rn xs L 49 17 [vR t, vI l1, vI l2] [vI s0] (mw f a g) = if s0 = 0 then rn xs L 49 29 [vR t, vI l1, vI l2] [] (mw f a g) else rn xs L 49 20 [vR t, vI l1, vI l2] [] (mw f a g) :=
  (r_eq0 (pg_of mt_49 dX4_holdTogether_17 rfl))
theorem b49_20 (t : Nat) (l1 : Int32) (l2 : Int32) (ht : is_tr t) (h1 : ma_in l2 8 = true) : rn xs L 49 20 [vR t, vI l1, vI l2] [] (mw f a g) = rn xs L 49 4 [vR t, vI (l1 + (a ((t + 5)) l2.toNatClampNeg)), vI (l2 + (1 : Int32))] [] (mw f a g) :=
  (r_ild (pg_of mt_49 dX4_holdTogether_20 rfl) rfl).trans <|
  (r_ald (pg_of mt_49 dX4_holdTogether_21 rfl) rfl).trans <|
  (r_gtr (a := (t + 5)) (pg_of mt_49 dX4_holdTogether_22 rfl) (mw_tr ht) (mw_tf ht (by decide))).trans <|
  (r_ild (pg_of mt_49 dX4_holdTogether_25 rfl) rfl).trans <|
  (r_iald (pg_of mt_49 dX4_holdTogether_26 rfl) (mw_tr4 ht) h1).trans <|
  (r_bin (pg_of mt_49 dX4_holdTogether_27 rfl)).trans <|
  (r_ist (pg_of mt_49 dX4_holdTogether_28 rfl) (Nat.le_of_ble_eq_true rfl) rfl).trans <|
  (r_inc (pg_of mt_49 dX4_holdTogether_29 rfl) (y := (1 : Int32)) (by decide) rfl rfl).trans <|
  (r_gto (pg_of mt_49 dX4_holdTogether_32 rfl))
theorem b49_29 (t : Nat) (l1 : Int32) (l2 : Int32) (ht : is_tr t) : rn xs L 49 29 [vR t, vI l1, vI l2] [] (mw f a g) = rn xs L 49 4 [vR t, vI l1, vI (l2 + (1 : Int32))] [] (mw f a g) :=
  (r_inc (pg_of mt_49 dX4_holdTogether_29 rfl) (y := (1 : Int32)) (by decide) rfl rfl).trans <|
  (r_gto (pg_of mt_49 dX4_holdTogether_32 rfl))
theorem b49_35 (t : Nat) (l1 : Int32) (l2 : Int32) (ht : is_tr t) : rn xs L 49 35 [vR t, vI l1, vI l2] [] (mw f a g) = some (some (vI l1), (mw f a g)) :=
  (r_ild (pg_of mt_49 dX4_holdTogether_35 rfl) rfl).trans <|
  (r_ri (pg_of mt_49 dX4_holdTogether_36 rfl) mt_49 rfl)
-- 50 LeafFalls$Tree.rhymes()I
theorem b50_0 (t : Nat) (l1 : ma_V) (l2 : ma_V) (ht : is_tr t) : rn xs L 50 0 [vR t, l1, l2] [] (mw f a g) = rn xs L 50 4 [vR t, vI (0 : Int32), vI (1 : Int32)] [] (mw f a g) :=
  (r_con (pg_of mt_50 dX4_rhymes_0 rfl) (v2 := (0 : Int32)) (by decide)).trans <|
  (r_ist (pg_of mt_50 dX4_rhymes_1 rfl) (Nat.le_of_ble_eq_true rfl) rfl).trans <|
  (r_con (pg_of mt_50 dX4_rhymes_2 rfl) (v2 := (1 : Int32)) (by decide)).trans <|
  (r_ist (pg_of mt_50 dX4_rhymes_3 rfl) (Nat.le_of_ble_eq_true rfl) rfl)
theorem b50_4 (t : Nat) (l1 : Int32) (l2 : Int32) (ht : is_tr t) : rn xs L 50 4 [vR t, vI l1, vI l2] [] (mw f a g) = if l2 < (f t 8) then rn xs L 50 12 [vR t, vI l1, vI l2] [] (mw f a g) else rn xs L 50 36 [vR t, vI l1, vI l2] [] (mw f a g) :=
  (r_ild (pg_of mt_50 dX4_rhymes_4 rfl) rfl).trans <|
  (r_ald (pg_of mt_50 dX4_rhymes_5 rfl) rfl).trans <|
  (r_gti (pg_of mt_50 dX4_rhymes_6 rfl) (mw_tr ht)).trans <|
  (r_ge (pg_of mt_50 dX4_rhymes_9 rfl))
theorem b50_12 (t : Nat) (l1 : Int32) (l2 : Int32) (ht : is_tr t) : rn xs L 50 12 [vR t, vI l1, vI l2] [] (mw f a g) = (ev xs L 47 3 [vR t, vI l2] (mw f a g)).bind (fun b => rn xs L 50 17 [vR t, vI l1, vI l2] (b.1.toList ++ []) b.2) :=
  (r_ald (pg_of mt_50 dX4_rhymes_12 rfl) rfl).trans <|
  (r_ild (pg_of mt_50 dX4_rhymes_13 rfl) rfl).trans <|
  (r_call (t := tt_50) (t2 := tt_47) (pg_of mt_50 dX4_rhymes_14 rfl) mt_50 mt_47 rfl rfl (rcv1 (mw_tr ht)) rfl rfl)
theorem b50_17 (t : Nat) (l1 : Int32) (l2 : Int32) (s0 : Int32) (ht : is_tr t) : rn xs L 50 17 [vR t, vI l1, vI l2] [vI s0] (mw f a g) = (ev xs L 47 3 [vR t, vI (l2 - (1 : Int32))] (mw f a g)).bind (fun b => rn xs L 50 24 [vR t, vI l1, vI l2] (b.1.toList ++ [vI s0]) b.2) :=
  (r_ald (pg_of mt_50 dX4_rhymes_17 rfl) rfl).trans <|
  (r_ild (pg_of mt_50 dX4_rhymes_18 rfl) rfl).trans <|
  (r_con (pg_of mt_50 dX4_rhymes_19 rfl) (v2 := (1 : Int32)) (by decide)).trans <|
  (r_bin (pg_of mt_50 dX4_rhymes_20 rfl)).trans <|
  (r_call (t := tt_50) (t2 := tt_47) (pg_of mt_50 dX4_rhymes_21 rfl) mt_50 mt_47 rfl rfl (rcv1 (mw_tr ht)) rfl rfl)
theorem b50_24 (t : Nat) (l1 : Int32) (l2 : Int32) (s0 : Int32) (s1 : Int32) (ht : is_tr t) : rn xs L 50 24 [vR t, vI l1, vI l2] [vI s0, vI s1] (mw f a g) = if s1 = s0 then rn xs L 50 27 [vR t, vI l1, vI l2] [] (mw f a g) else rn xs L 50 30 [vR t, vI l1, vI l2] [] (mw f a g) :=
  (r_ne (pg_of mt_50 dX4_rhymes_24 rfl))
theorem b50_27 (t : Nat) (l1 : Int32) (l2 : Int32) (ht : is_tr t) : rn xs L 50 27 [vR t, vI l1, vI l2] [] (mw f a g) = rn xs L 50 4 [vR t, vI (l1 + (1 : Int32)), vI (l2 + (1 : Int32))] [] (mw f a g) :=
  (r_inc (pg_of mt_50 dX4_rhymes_27 rfl) (y := (1 : Int32)) (by decide) rfl rfl).trans <|
  (r_inc (pg_of mt_50 dX4_rhymes_30 rfl) (y := (1 : Int32)) (by decide) rfl rfl).trans <|
  (r_gto (pg_of mt_50 dX4_rhymes_33 rfl))
theorem b50_30 (t : Nat) (l1 : Int32) (l2 : Int32) (ht : is_tr t) : rn xs L 50 30 [vR t, vI l1, vI l2] [] (mw f a g) = rn xs L 50 4 [vR t, vI l1, vI (l2 + (1 : Int32))] [] (mw f a g) :=
  (r_inc (pg_of mt_50 dX4_rhymes_30 rfl) (y := (1 : Int32)) (by decide) rfl rfl).trans <|
  (r_gto (pg_of mt_50 dX4_rhymes_33 rfl))
theorem b50_36 (t : Nat) (l1 : Int32) (l2 : Int32) (ht : is_tr t) : rn xs L 50 36 [vR t, vI l1, vI l2] [] (mw f a g) = some (some (vI l1), (mw f a g)) :=
  (r_ild (pg_of mt_50 dX4_rhymes_36 rfl) rfl).trans <|
  (r_ri (pg_of mt_50 dX4_rhymes_37 rfl) mt_50 rfl)
-- 51 LeafFalls$Tree.spelled()I
theorem b51_0 (t : Nat) (l1 : ma_V) (l2 : ma_V) (ht : is_tr t) : rn xs L 51 0 [vR t, l1, l2] [] (mw f a g) = rn xs L 51 4 [vR t, vI (0 : Int32), vI (0 : Int32)] [] (mw f a g) :=
  (r_con (pg_of mt_51 dX4_spelled_0 rfl) (v2 := (0 : Int32)) (by decide)).trans <|
  (r_ist (pg_of mt_51 dX4_spelled_1 rfl) (Nat.le_of_ble_eq_true rfl) rfl).trans <|
  (r_con (pg_of mt_51 dX4_spelled_2 rfl) (v2 := (0 : Int32)) (by decide)).trans <|
  (r_ist (pg_of mt_51 dX4_spelled_3 rfl) (Nat.le_of_ble_eq_true rfl) rfl)
theorem b51_4 (t : Nat) (l1 : Int32) (l2 : Int32) (ht : is_tr t) : rn xs L 51 4 [vR t, vI l1, vI l2] [] (mw f a g) = if l2 < (f t 8) then rn xs L 51 12 [vR t, vI l1, vI l2] [] (mw f a g) else rn xs L 51 29 [vR t, vI l1, vI l2] [] (mw f a g) :=
  (r_ild (pg_of mt_51 dX4_spelled_4 rfl) rfl).trans <|
  (r_ald (pg_of mt_51 dX4_spelled_5 rfl) rfl).trans <|
  (r_gti (pg_of mt_51 dX4_spelled_6 rfl) (mw_tr ht)).trans <|
  (r_ge (pg_of mt_51 dX4_spelled_9 rfl))
theorem b51_12 (t : Nat) (l1 : Int32) (l2 : Int32) (ht : is_tr t) : rn xs L 51 12 [vR t, vI l1, vI l2] [] (mw f a g) = (ev xs L 47 3 [vR t, vI l2] (mw f a g)).bind (fun b => rn xs L 51 21 [vR t, vI l1, vI l2] (b.1.toList ++ [vI (l1 * (10 : Int32))]) b.2) :=
  (r_ild (pg_of mt_51 dX4_spelled_12 rfl) rfl).trans <|
  (r_con (pg_of mt_51 dX4_spelled_13 rfl) (v2 := (10 : Int32)) (by decide)).trans <|
  (r_bin (pg_of mt_51 dX4_spelled_15 rfl)).trans <|
  (r_ald (pg_of mt_51 dX4_spelled_16 rfl) rfl).trans <|
  (r_ild (pg_of mt_51 dX4_spelled_17 rfl) rfl).trans <|
  (r_call (t := tt_51) (t2 := tt_47) (pg_of mt_51 dX4_spelled_18 rfl) mt_51 mt_47 rfl rfl (rcv1 (mw_tr ht)) rfl rfl)
theorem b51_21 (t : Nat) (l1 : Int32) (l2 : Int32) (s0 : Int32) (s1 : Int32) (ht : is_tr t) : rn xs L 51 21 [vR t, vI l1, vI l2] [vI s0, vI s1] (mw f a g) = rn xs L 51 4 [vR t, vI (s1 + s0), vI (l2 + (1 : Int32))] [] (mw f a g) :=
  (r_bin (pg_of mt_51 dX4_spelled_21 rfl)).trans <|
  (r_ist (pg_of mt_51 dX4_spelled_22 rfl) (Nat.le_of_ble_eq_true rfl) rfl).trans <|
  (r_inc (pg_of mt_51 dX4_spelled_23 rfl) (y := (1 : Int32)) (by decide) rfl rfl).trans <|
  (r_gto (pg_of mt_51 dX4_spelled_26 rfl))
theorem b51_29 (t : Nat) (l1 : Int32) (l2 : Int32) (ht : is_tr t) : rn xs L 51 29 [vR t, vI l1, vI l2] [] (mw f a g) = some (some (vI l1), (mw f a g)) :=
  (r_ild (pg_of mt_51 dX4_spelled_29 rfl) rfl).trans <|
  (r_ri (pg_of mt_51 dX4_spelled_30 rfl) mt_51 rfl)
-- 52 LeafFalls$Tree.swayTogether()I
theorem b52_0 (t : Nat) (l1 : ma_V) (l2 : ma_V) (ht : is_tr t) : rn xs L 52 0 [vR t, l1, l2] [] (mw f a g) = rn xs L 52 4 [vR t, vI (0 : Int32), vI (0 : Int32)] [] (mw f a g) :=
  (r_con (pg_of mt_52 dX4_swayTogether_0 rfl) (v2 := (0 : Int32)) (by decide)).trans <|
  (r_ist (pg_of mt_52 dX4_swayTogether_1 rfl) (Nat.le_of_ble_eq_true rfl) rfl).trans <|
  (r_con (pg_of mt_52 dX4_swayTogether_2 rfl) (v2 := (0 : Int32)) (by decide)).trans <|
  (r_ist (pg_of mt_52 dX4_swayTogether_3 rfl) (Nat.le_of_ble_eq_true rfl) rfl)
theorem b52_4 (t : Nat) (l1 : Int32) (l2 : Int32) (ht : is_tr t) : rn xs L 52 4 [vR t, vI l1, vI l2] [] (mw f a g) = if l2 < (6 : Int32) then rn xs L 52 10 [vR t, vI l1, vI l2] [] (mw f a g) else rn xs L 52 25 [vR t, vI l1, vI l2] [] (mw f a g) :=
  (r_ild (pg_of mt_52 dX4_swayTogether_4 rfl) rfl).trans <|
  (r_con (pg_of mt_52 dX4_swayTogether_5 rfl) (v2 := (6 : Int32)) (by decide)).trans <|
  (r_ge (pg_of mt_52 dX4_swayTogether_7 rfl))
theorem b52_10 (t : Nat) (l1 : Int32) (l2 : Int32) (ht : is_tr t) (h1 : ma_in l2 6 = true) : rn xs L 52 10 [vR t, vI l1, vI l2] [] (mw f a g) = rn xs L 52 4 [vR t, vI (l1 + (a ((t + 2)) l2.toNatClampNeg)), vI (l2 + (1 : Int32))] [] (mw f a g) :=
  (r_ild (pg_of mt_52 dX4_swayTogether_10 rfl) rfl).trans <|
  (r_ald (pg_of mt_52 dX4_swayTogether_11 rfl) rfl).trans <|
  (r_gtr (a := (t + 2)) (pg_of mt_52 dX4_swayTogether_12 rfl) (mw_tr ht) (mw_tf ht (by decide))).trans <|
  (r_ild (pg_of mt_52 dX4_swayTogether_15 rfl) rfl).trans <|
  (r_iald (pg_of mt_52 dX4_swayTogether_16 rfl) (mw_tr1 ht) h1).trans <|
  (r_bin (pg_of mt_52 dX4_swayTogether_17 rfl)).trans <|
  (r_ist (pg_of mt_52 dX4_swayTogether_18 rfl) (Nat.le_of_ble_eq_true rfl) rfl).trans <|
  (r_inc (pg_of mt_52 dX4_swayTogether_19 rfl) (y := (1 : Int32)) (by decide) rfl rfl).trans <|
  (r_gto (pg_of mt_52 dX4_swayTogether_22 rfl))
theorem b52_25 (t : Nat) (l1 : Int32) (l2 : Int32) (ht : is_tr t) : rn xs L 52 25 [vR t, vI l1, vI l2] [] (mw f a g) = some (some (vI l1), (mw f a g)) :=
  (r_ild (pg_of mt_52 dX4_swayTogether_25 rfl) rfl).trans <|
  (r_ri (pg_of mt_52 dX4_swayTogether_26 rfl) mt_52 rfl)
-- 53 LeafFalls$Tree.boughsHungOn()I
theorem b53_0 (t : Nat) (l1 : ma_V) (l2 : ma_V) (ht : is_tr t) : rn xs L 53 0 [vR t, l1, l2] [] (mw f a g) = rn xs L 53 4 [vR t, vI (0 : Int32), vI (0 : Int32)] [] (mw f a g) :=
  (r_con (pg_of mt_53 dX4_boughsHungOn_0 rfl) (v2 := (0 : Int32)) (by decide)).trans <|
  (r_ist (pg_of mt_53 dX4_boughsHungOn_1 rfl) (Nat.le_of_ble_eq_true rfl) rfl).trans <|
  (r_con (pg_of mt_53 dX4_boughsHungOn_2 rfl) (v2 := (0 : Int32)) (by decide)).trans <|
  (r_ist (pg_of mt_53 dX4_boughsHungOn_3 rfl) (Nat.le_of_ble_eq_true rfl) rfl)
theorem b53_4 (t : Nat) (l1 : Int32) (l2 : Int32) (ht : is_tr t) : rn xs L 53 4 [vR t, vI l1, vI l2] [] (mw f a g) = if l2 < (6 : Int32) then rn xs L 53 10 [vR t, vI l1, vI l2] [] (mw f a g) else rn xs L 53 27 [vR t, vI l1, vI l2] [] (mw f a g) :=
  (r_ild (pg_of mt_53 dX4_boughsHungOn_4 rfl) rfl).trans <|
  (r_con (pg_of mt_53 dX4_boughsHungOn_5 rfl) (v2 := (6 : Int32)) (by decide)).trans <|
  (r_ge (pg_of mt_53 dX4_boughsHungOn_7 rfl))
theorem b53_10 (t : Nat) (l1 : Int32) (l2 : Int32) (ht : is_tr t) : rn xs L 53 10 [vR t, vI l1, vI l2] [] (mw f a g) = (ev xs L 37 4 [vR t, vI l2] (mw f a g)).bind (fun b => rn xs L 53 15 [vR t, vI l1, vI l2] (b.1.toList ++ []) b.2) :=
  (r_ald (pg_of mt_53 dX4_boughsHungOn_10 rfl) rfl).trans <|
  (r_ild (pg_of mt_53 dX4_boughsHungOn_11 rfl) rfl).trans <|
  (r_call (t := tt_53) (t2 := tt_37) (pg_of mt_53 dX4_boughsHungOn_12 rfl) mt_53 mt_37 rfl rfl (rcv1 (mw_tr ht)) rfl rfl)
theorem b53_15 (t : Nat) (l1 : Int32) (l2 : Int32) (s0 : Int32) (ht : is_tr t) : rn xs L 53 15 [vR t, vI l1, vI l2] [vI s0] (mw f a g) = if s0 = 0 then rn xs L 53 21 [vR t, vI l1, vI l2] [] (mw f a g) else rn xs L 53 18 [vR t, vI l1, vI l2] [] (mw f a g) :=
  (r_eq0 (pg_of mt_53 dX4_boughsHungOn_15 rfl))
theorem b53_18 (t : Nat) (l1 : Int32) (l2 : Int32) (ht : is_tr t) : rn xs L 53 18 [vR t, vI l1, vI l2] [] (mw f a g) = rn xs L 53 4 [vR t, vI (l1 + (1 : Int32)), vI (l2 + (1 : Int32))] [] (mw f a g) :=
  (r_inc (pg_of mt_53 dX4_boughsHungOn_18 rfl) (y := (1 : Int32)) (by decide) rfl rfl).trans <|
  (r_inc (pg_of mt_53 dX4_boughsHungOn_21 rfl) (y := (1 : Int32)) (by decide) rfl rfl).trans <|
  (r_gto (pg_of mt_53 dX4_boughsHungOn_24 rfl))
theorem b53_21 (t : Nat) (l1 : Int32) (l2 : Int32) (ht : is_tr t) : rn xs L 53 21 [vR t, vI l1, vI l2] [] (mw f a g) = rn xs L 53 4 [vR t, vI l1, vI (l2 + (1 : Int32))] [] (mw f a g) :=
  (r_inc (pg_of mt_53 dX4_boughsHungOn_21 rfl) (y := (1 : Int32)) (by decide) rfl rfl).trans <|
  (r_gto (pg_of mt_53 dX4_boughsHungOn_24 rfl))
theorem b53_27 (t : Nat) (l1 : Int32) (l2 : Int32) (ht : is_tr t) : rn xs L 53 27 [vR t, vI l1, vI l2] [] (mw f a g) = some (some (vI l1), (mw f a g)) :=
  (r_ild (pg_of mt_53 dX4_boughsHungOn_27 rfl) rfl).trans <|
  (r_ri (pg_of mt_53 dX4_boughsHungOn_28 rfl) mt_53 rfl)
end
