/-! ===== what each instruction of a method is, and runs ===== -/
def ma_cat (v : ma_V) : Nat := match v with
  | .inr (.inl _) => 2
  | _ => 1
def ma_g (b : Bool) (f : ma_F) : Option ma_I := if b then some (.inl f) else none
def ma_j (pc : Nat) (off : Int) (F : Nat → ma_F) (b : Bool) : Option ma_I := if b && decide (0 ≤ (pc : Int) + off) then some (.inl (F (ma_tgt pc off))) else none
def ma_tsw (pc : Nat) (dflt lo hi : Int) (offs : Array Int) (x : Int32) : Option Nat :=
  match (if x.toInt < lo ∨ hi < x.toInt then some dflt else offs[(x.toInt - lo).toNat]?) with
  | some off => if 0 ≤ (pc : Int) + off then some (ma_tgt pc off) else none
  | none => none
def ma_lsw (pc : Nat) (dflt : Int) (ps : Array (Int × Int)) (x : Int32) : Option Nat :=
  if 0 ≤ (pc : Int) + Op.lookupswitch.offset ps.toList dflt x.toInt then some (ma_tgt pc (Op.lookupswitch.offset ps.toList dflt x.toInt)) else none
/-- a step of the JDK's own: there must be room for it -/
def i_lim (k : Nat) (f : ma_F) : ma_F := fun c => if ((c.2.1.drop k).map ma_cat).sum ≤ 8 then f c else none
def ma_inv (own lv pc sort idx : Nat) : Option ma_I := match ma_lk (ma_mls own) idx with
  | some q => match sort, q.1 with
    | 0, 6 => ma_g (decide (1 ≤ lv)) (i_lim 2 (i_bin (fun x y => if x < y then y else x) (pc + 3)))
    | 0, 7 => ma_g (decide (1 ≤ lv)) (i_lim 2 (i_bin (fun x y => if y < x then y else x) (pc + 3)))
    | 0, 8 => ma_g (decide (1 ≤ lv)) (i_lim 5 (i_cpy (pc + 3)))
    | 0, 0 => some (.inr (.inl (0, q.2.1, q.2.2.1, q.2.2.2.1, pc + 3)))
    | 0, 4 => some (.inr (.inl (4, q.2.1, q.2.2.1, q.2.2.2.1, pc + 3)))
    | 1, 1 => some (.inr (.inl (1, q.2.1, q.2.2.1, q.2.2.2.1, pc + 3)))
    | 1, 2 => some (.inr (.inl (2, q.2.1, q.2.2.1, q.2.2.2.1, pc + 3)))
    | 2, 3 => some (.inr (.inl (3, q.2.1, q.2.2.1, q.2.2.2.1, pc + 3)))
    | 2, 5 => some (.inr (.inl (5, q.2.1, q.2.2.1, q.2.2.2.1, pc + 3)))
    | 2, 9 => ma_g (decide (1 ≤ lv)) (i_lim 1 (i_oin (pc + 3)))
    | _, _ => none
  | none => none
def ma_sem (xs : Nat → Int32) (L own lv : Nat) (ini : Bool) (pc : Nat) (ins : Instr) (len : Nat) : Option ma_I := match ins with
  | .aload_n k => ma_g (len == 1) (i_ald k.val (pc + 1))
  | .aload k => ma_g (len == 2) (i_ald k (pc + 2))
  | .iload_n k => ma_g (len == 1) (i_ild k.val (pc + 1))
  | .iload k => ma_g (len == 2) (i_ild k (pc + 2))
  | .lload_n k => ma_g (len == 1) (i_lld k.val (pc + 1))
  | .lload k => ma_g (len == 2) (i_lld k (pc + 2))
  | .istore_n k => ma_g (len == 1) (i_ist k.val (pc + 1))
  | .istore k => ma_g (len == 2) (i_ist k (pc + 2))
  | .lstore_n k => ma_g (len == 1) (i_lst k.val (pc + 1))
  | .lstore k => ma_g (len == 2) (i_lst k (pc + 2))
  | .astore_n k => ma_g (len == 1) (i_ast k.val (pc + 1))
  | .astore k => ma_g (len == 2) (i_ast k (pc + 2))
  | .iinc k d => ma_g (len == 3) (i_inc k d (pc + 3))
  | .iconst n => ma_g (len == 1) (i_con (Int32.ofInt n) (pc + 1))
  | .bipush n => ma_g (len == 2) (i_con (Int8.ofInt n).toInt32 (pc + 2))
  | .sipush n => ma_g (len == 3) (i_con (Int16.ofInt n).toInt32 (pc + 3))
  | .lconst n => ma_g (len == 1) (i_lcn (Int64.ofNat n.val) (pc + 1))
  | .ldc i => match ma_lk (ma_ccs own) i with
    | some q => ma_g (len == 2) (i_con q.1 (pc + 2))
    | none => match ma_lk (ma_sts own) i with
      | some q => ma_g (len == 2) (i_spc (3 + 2 * q.1) (pc + 2))
      | none => none
  | .ldc_w i => match ma_lk (ma_ccs own) i with
    | some q => ma_g (len == 3) (i_con q.1 (pc + 3))
    | none => none
  | .ldc2_w i => match ma_lk (ma_lcs own) i with
    | some q => ma_g (len == 3) (i_lcn q.1 (pc + 3))
    | none => none
  | .iadd => ma_g (len == 1) (i_bin (fun x y => x + y) (pc + 1))
  | .isub => ma_g (len == 1) (i_bin (fun x y => x - y) (pc + 1))
  | .imul => ma_g (len == 1) (i_bin (fun x y => x * y) (pc + 1))
  | .iand => ma_g (len == 1) (i_bin (fun x y => x &&& y) (pc + 1))
  | .ior => ma_g (len == 1) (i_bin (fun x y => x ||| y) (pc + 1))
  | .ixor => ma_g (len == 1) (i_bin (fun x y => x ^^^ y) (pc + 1))
  | .ishl => ma_g (len == 1) (i_bin (fun x y => x <<< (y &&& 31)) (pc + 1))
  | .ishr => ma_g (len == 1) (i_bin (fun x y => x >>> (y &&& 31)) (pc + 1))
  | .iushr => ma_g (len == 1) (i_bin (fun x y => (x.toUInt32 >>> (y.toUInt32 &&& Int32.toUInt32 31)).toInt32) (pc + 1))
  | .idiv => ma_g (len == 1) (i_dvi (fun x y => x / y) (pc + 1))
  | .irem => ma_g (len == 1) (i_dvi (fun x y => x - x / y * y) (pc + 1))
  | .ladd => ma_g (len == 1) (i_lbn (fun x y => x + y) (pc + 1))
  | .lsub => ma_g (len == 1) (i_lbn (fun x y => x - y) (pc + 1))
  | .lmul => ma_g (len == 1) (i_lbn (fun x y => x * y) (pc + 1))
  | .land => ma_g (len == 1) (i_lbn (fun x y => x &&& y) (pc + 1))
  | .lor => ma_g (len == 1) (i_lbn (fun x y => x ||| y) (pc + 1))
  | .ldiv => ma_g (len == 1) (i_ldv (fun x y => x / y) (pc + 1))
  | .lrem => ma_g (len == 1) (i_ldv (fun x y => x - x / y * y) (pc + 1))
  | .lshl => ma_g (len == 1) (i_lsh (fun x y => x <<< (y.toInt64 &&& 63)) (pc + 1))
  | .lshr => ma_g (len == 1) (i_lsh (fun x y => x >>> (y.toInt64 &&& 63)) (pc + 1))
  | .lushr => ma_g (len == 1) (i_lsh (fun x y => (x.toUInt64 >>> (y.toInt64.toUInt64 &&& Int64.toUInt64 63)).toInt64) (pc + 1))
  | .lcmp => ma_g (len == 1) (i_lcp (pc + 1))
  | .ineg => ma_g (len == 1) (i_una (fun x => -x) (pc + 1))
  | .i2b => ma_g (len == 1) (i_una (fun x => x.toInt8.toInt32) (pc + 1))
  | .i2s => ma_g (len == 1) (i_una (fun x => x.toInt16.toInt32) (pc + 1))
  | .i2c => ma_g (len == 1) (i_una (fun x => (x.toUInt32 % 65536).toInt32) (pc + 1))
  | .i2l => ma_g (len == 1) (i_i2l (pc + 1))
  | .l2i => ma_g (len == 1) (i_l2i (pc + 1))
  | .dup => ma_g (len == 1) (i_dup (pc + 1))
  | .pop => ma_g (len == 1) (i_pop (pc + 1))
  | .dup2 => ma_g (len == 1) (i_du2 (pc + 1))
  | .if_icmp k off => ma_j pc off (fun t => i_if2 (ma_cmp k) t (pc + 3)) (len == 3)
  | .ifCond k off => ma_j pc off (fun t => i_if1 (ma_cm0 k) t (pc + 3)) (len == 3)
  | .goto off => ma_j pc off i_gto (len == 3)
  | .tableswitch dflt lo hi offs => some (.inl (i_swi (ma_tsw pc dflt lo hi offs)))
  | .lookupswitch dflt ps => ma_g ((ps.toList.zip (ps.toList.drop 1)).all (fun q => decide (q.1.1 < q.2.1))) (i_swi (ma_lsw pc dflt ps))
  | .getfield i => match ma_lk (ma_fls own) i with
    | some q => ma_g (len == 3) (if ma_isr (ma_ty q.1 q.2.1) then i_gtr q.1 q.2.1 (pc + 3) else i_gti q.1 q.2.1 (pc + 3))
    | none => if own = 10 ∧ (i = 9 ∨ i = 15) then ma_g (len == 3) (i_gts (if i = 9 then 0 else 1) (pc + 3)) else none
  | .putfield i => match ma_lk (ma_fls own) i with
    | some q => ma_g (len == 3 && (!(ma_tx q.1 q.2.1).2.2.2 || (ini && q.1 == own))) (if ma_isr (ma_ty q.1 q.2.1) then i_ptr q.1 q.2.1 (pc + 3) else i_pti q.1 q.2.1 (pc + 3))
    | none => none
  | .getstatic i => if own = 10 ∧ i = 38 then ma_g (len == 3) (i_con 1 (pc + 3)) else if own = 10 ∧ i = 1053 then ma_g (len == 3) (i_spc 2 (pc + 3)) else none
  | .iaload => ma_g (len == 1) (if own = 7 then i_sld xs L (pc + 1) else i_iald (pc + 1))
  | .baload => ma_g (len == 1) (i_bald (pc + 1))
  | .laload => ma_g (len == 1) (i_lald (pc + 1))
  | .aaload => ma_g (len == 1) (i_aald (pc + 1))
  | .iastore => ma_g (len == 1) (i_iast (pc + 1))
  | .bastore => ma_g (len == 1) (i_bast (pc + 1))
  | .lastore => ma_g (len == 1) (i_last (pc + 1))
  | .aastore => ma_g (len == 1) (i_aast (pc + 1))
  | .arraylength => ma_g (len == 1) (if own = 7 then i_sln L (pc + 1) else i_alen (pc + 1))
  | .new i => match ma_lk (ma_cls own) i with
    | some q => ma_g (len == 3) (i_new q.1 (pc + 3))
    | none => none
  | .newarray t => match t with
    | .int => ma_g (len == 2) (i_nwa 0 (pc + 2))
    | .byte => ma_g (len == 2) (i_nwa 1 (pc + 2))
    | .long => ma_g (len == 2) (i_nwa 2 (pc + 2))
    | _ => none
  | .anewarray i => if own = 5 ∧ i = 33 then ma_g (len == 3) (i_nwa 3 (pc + 3)) else if own = 5 ∧ i = 39 then ma_g (len == 3) (i_nwa 4 (pc + 3)) else none
  | .invokestatic i => if len = 3 then ma_inv own lv pc 0 i else none
  | .invokevirtual i => if len = 3 then ma_inv own lv pc 1 i else none
  | .invokespecial i => if len = 3 then ma_inv own lv pc 2 i else none
  | .return_ => if len = 1 then some (.inr (.inr 0)) else none
  | .ireturn => if len = 1 then some (.inr (.inr 1)) else none
  | .lreturn => if len = 1 then some (.inr (.inr 2)) else none
  | .areturn => if len = 1 then some (.inr (.inr 3)) else none
  | _ => none
def ma_pg (xs : Nat → Int32) (L m pc : Nat) : Option ma_I := match ma_mts m with
  | none => none
  | some q => match decode q.2.1 pc with
    | .ok r => ma_sem xs L q.1 q.2.2.2.2.2.1 (q.2.2.2.2.1.name == "<init>") pc r.1 r.2
    | .error _ => none
def ma_arg : List ma_V → List ma_V
  | [] => []
  | v :: r => match v with
    | .inr (.inl x) => vL x :: vS 0 :: ma_arg r
    | v => v :: ma_arg r
/-- the locals with which a method begins -/
def ma_ent (maxL : Nat) (as : List ma_V) : List ma_V := ma_arg as ++ List.replicate (maxL - (ma_arg as).length) (vS 0)
/-- is the receiver as this kind of call wants it? -/
def ma_rcv (w : ma_W) (kind ci : Nat) (as : List ma_V) : Bool := match kind with
  | 0 => true
  | 4 => true
  | 1 => match as with
    | .inr (.inr (.inl (some o))) :: _ => decide ((ma_sh w)[o]? = some (.inl ci))
    | _ => false
  | 2 => match as with
    | .inr (.inr (.inr a)) :: _ => decide (3 ≤ a ∧ a < 33 ∧ a % 2 = 1)
    | _ => false
  | _ => match as with
    | .inr (.inr (.inl (some _))) :: _ => true
    | _ => false
/-- a call's values (the receiver first), and what lies below them -/
def ma_call (w : ma_W) (lv : Nat) (q : Nat × Nat × Nat × Nat × Nat) (st : List ma_V) : Option (ma_M × List ma_V × List ma_V) := match ma_mts q.2.2.1 with
  | none => none
  | some t => if decide (q.2.2.2.1 ≤ st.length) && decide (t.2.2.2.2.2.1 < lv) && decide (((st.drop q.2.2.2.1).map ma_cat).sum ≤ 8) && decide ((ma_arg (st.take q.2.2.2.1).reverse).length ≤ t.2.2.1) && ma_rcv w q.1 q.2.1 (st.take q.2.2.2.1).reverse then some (t, (st.take q.2.2.2.1).reverse, st.drop q.2.2.2.1) else none
def ma_ret (k : Nat) (ret : Option FieldType) (st : List ma_V) : Option (Option ma_V) := match k, st with
  | 0, [] => if ret = none then some none else none
  | 1, [.inl x] => match ret with
    | some .int => some (some (vI x))
    | some .boolean => if decide (vp_nar .boolean x = x) then some (some (vI x)) else none
    | some .char => if decide (vp_nar .char x = x) then some (some (vI x)) else none
    | some .byte => if decide (vp_nar .byte x = x) then some (some (vI x)) else none
    | _ => none
  | 2, [.inr (.inl x)] => if ret = some .long then some (some (vL x)) else none
  | 3, [.inr (.inr (.inr a))] => if ret = some (.object "java/lang/String") ∧ 3 ≤ a ∧ a < 33 ∧ a % 2 = 1 then some (some (vS a)) else none
  | _, _ => none
def ma_run (xs : Nat → Int32) (L : Nat) : Nat → Nat → Nat → List ma_V → List ma_V → ma_W → Option (Option ma_V × ma_W)
  | 0, _, _, _, _, _ => none
  | n + 1, m, pc, ls, st, w => match ma_mts m with
    | none => none
    | some t => match ma_pg xs L m pc with
      | none => none
      | some (.inl f) => match f (ls, st, w) with
        | none => none
        | some c => ma_run xs L n m c.1 c.2.1 c.2.2.1 c.2.2.2
      | some (.inr (.inl q)) => match ma_call w t.2.2.2.2.2.1 q st with
        | none => none
        | some r => match ma_run xs L n q.2.2.1 0 (ma_ent r.1.2.2.1 r.2.1) [] w with
          | none => none
          | some b => ma_run xs L n m q.2.2.2.2 ls (b.1.toList ++ r.2.2) b.2
      | some (.inr (.inr k)) => match ma_ret k t.2.2.2.1 st with
        | none => none
        | some v => some (v, w)
