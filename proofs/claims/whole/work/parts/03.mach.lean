/-! ===== A small machine over indices: values, worlds, instructions (all that follows is said in its words) ===== -/
/-- a value: an int, a long, a reference to the world's cell of that index (or null), a thing of outside (0: not set, 1: the script, 2: a static of the JDK's, 3 + 2 i: a String constant, 4 + 2 i: its bytes) -/
abbrev ma_V : Type := Int32 ⊕ Int64 ⊕ Option Nat ⊕ Nat
abbrev vI (x : Int32) : ma_V := Sum.inl x
abbrev vL (x : Int64) : ma_V := Sum.inr (Sum.inl x)
abbrev vQ (x : Option Nat) : ma_V := Sum.inr (Sum.inr (Sum.inl x))
abbrev vR (k : Nat) : ma_V := Sum.inr (Sum.inr (Sum.inl (some k)))
abbrev vS (k : Nat) : ma_V := Sum.inr (Sum.inr (Sum.inr k))
/-- a cell's shape: an object of the class of that number, or an array of a kind (0 int, 1 byte, 2 long, 3 Sheet, 4 Shelf) and a length -/
abbrev ma_Sh : Type := Nat ⊕ Nat × Nat
/-- the world: shapes; int fields, reference fields, ints of arrays, longs of arrays, references of arrays -/
abbrev ma_W : Type := List ma_Sh × (Nat → Nat → Int32) × (Nat → Nat → Option Nat) × (Nat → Nat → Int32) × (Nat → Nat → Int64) × (Nat → Nat → Option Nat)
def ma_sh (w : ma_W) : List ma_Sh := w.1
def ma_fi (w : ma_W) : Nat → Nat → Int32 := w.2.1
def ma_fr (w : ma_W) : Nat → Nat → Option Nat := w.2.2.1
def ma_ai (w : ma_W) : Nat → Nat → Int32 := w.2.2.2.1
def ma_al (w : ma_W) : Nat → Nat → Int64 := w.2.2.2.2.1
def ma_ar (w : ma_W) : Nat → Nat → Option Nat := w.2.2.2.2.2
def ma_u2 {α : Type} (f : Nat → Nat → α) (a b : Nat) (v : α) : Nat → Nat → α := fun i j => if i = a ∧ j = b then v else f i j
def ma_u1 {α : Type} (f : Nat → Nat → α) (a : Nat) (g : Nat → α) : Nat → Nat → α := fun i => if i = a then g else f i
def pu_fi (w : ma_W) (o k : Nat) (v : Int32) : ma_W := (w.1, ma_u2 w.2.1 o k v, w.2.2)
def pu_fr (w : ma_W) (o k : Nat) (v : Option Nat) : ma_W := (w.1, w.2.1, ma_u2 w.2.2.1 o k v, w.2.2.2)
def pu_ai (w : ma_W) (o k : Nat) (v : Int32) : ma_W := (w.1, w.2.1, w.2.2.1, ma_u2 w.2.2.2.1 o k v, w.2.2.2.2)
def pu_al (w : ma_W) (o k : Nat) (v : Int64) : ma_W := (w.1, w.2.1, w.2.2.1, w.2.2.2.1, ma_u2 w.2.2.2.2.1 o k v, w.2.2.2.2.2)
def pu_ar (w : ma_W) (o k : Nat) (v : Option Nat) : ma_W := (w.1, w.2.1, w.2.2.1, w.2.2.2.1, w.2.2.2.2.1, ma_u2 w.2.2.2.2.2 o k v)
def pu_ax (w : ma_W) (o : Nat) (g : Nat → Int32) : ma_W := (w.1, w.2.1, w.2.2.1, ma_u1 w.2.2.2.1 o g, w.2.2.2.2)
def ma_add (w : ma_W) (x : ma_Sh) : ma_W := (w.1 ++ [x], ma_u1 w.2.1 w.1.length (fun _ => 0), ma_u1 w.2.2.1 w.1.length (fun _ => none), ma_u1 w.2.2.2.1 w.1.length (fun _ => 0), ma_u1 w.2.2.2.2.1 w.1.length (fun _ => 0), ma_u1 w.2.2.2.2.2 w.1.length (fun _ => none))
/-- classes by number, their fields -/
def ma_nf (ci : Nat) : Nat := match ci with | 0 => 6 | 1 => 3 | 2 => 3 | 3 => 6 | 4 => 12 | 5 => 10 | 6 => 27 | _ => 0
def ma_ty (ci : Nat) : Nat → FieldType := match ci with | 0 => tyX0 | 1 => tyX1 | 2 => tyX2 | 3 => tyX3 | 4 => tyX4 | 5 => tyX5 | _ => tyX6
def ma_tx (ci : Nat) : u_T := match ci with | 0 => TX0 | 1 => TX1 | 2 => TX2 | 3 => TX3 | 4 => TX4 | 5 => TX5 | _ => TX6
def ma_rx (ci : Nat) : String := match ci with | 0 => RX0 | 1 => RX1 | 2 => RX2 | 3 => RX3 | 4 => RX4 | 5 => RX5 | _ => RX6
def ma_isr (t : FieldType) : Bool := match t with | .object _ => true | .array _ => true | _ => false
/-- the slots that a cell takes -/
def ma_sz (x : ma_Sh) : Nat := match x with | .inl ci => ma_nf ci | .inr q => q.2
def ma_szs (l : List ma_Sh) : Nat := (l.map ma_sz).sum
/-- String constants: lengths and bytes -/
def ma_tx1 : List (List Nat) := [[119, 105, 110, 100], [99, 111, 108, 100], [119, 101, 116], [103, 97, 108, 101], [114, 101, 100], [121, 101, 108, 108, 111, 119], [115, 99, 97, 114, 108, 101, 116], [103, 111, 108, 100], [101, 118, 101, 114, 103, 114, 101, 101, 110], [108, 101, 97, 102], [115, 119, 97, 121], [105, 115], [111, 110], [104, 111, 108, 100], [115, 105, 103, 110]]
def ma_len (i : Nat) : Nat := (ma_tx1.getD i []).length
def ma_chr (i j : Nat) : Int32 := Int32.ofNat ((ma_tx1.getD i []).getD j 0)
def ma_in (i : Int32) (n : Nat) : Bool := !decide (i < 0) && decide (i.toNatClampNeg < n)
/-- locals, stack, world -/
abbrev ma_C : Type := List ma_V × List ma_V × ma_W
abbrev ma_F : Type := ma_C → Option (Nat × ma_C)
/-- an instruction: a step; a call (kind, class of the receiver, method, how many values it takes, what comes next); a return (kind) -/
abbrev ma_I : Type := ma_F ⊕ (Nat × Nat × Nat × Nat × Nat) ⊕ Nat
def ma_kill (ls : List ma_V) (k : Nat) : List ma_V := match k with
  | 0 => ls
  | j + 1 => match ls[j]? with
    | some (.inr (.inl _)) => ls.set j (vS 0)
    | _ => ls
def i_ild (k n : Nat) : ma_F := fun c => match c.1[k]? with
  | some (.inl x) => some (n, c.1, vI x :: c.2.1, c.2.2)
  | _ => none
def i_lld (k n : Nat) : ma_F := fun c => match c.1[k]? with
  | some (.inr (.inl x)) => some (n, c.1, vL x :: c.2.1, c.2.2)
  | _ => none
def i_ald (k n : Nat) : ma_F := fun c => match c.1[k]? with
  | some (.inr (.inr (.inl (some a)))) => some (n, c.1, vR a :: c.2.1, c.2.2)
  | some (.inr (.inr (.inr a))) => if a = 1 ∨ 3 ≤ a then some (n, c.1, vS a :: c.2.1, c.2.2) else none
  | _ => none
def i_ist (k n : Nat) : ma_F := fun c => match c.2.1 with
  | .inl x :: st => if k < c.1.length then some (n, (ma_kill c.1 k).set k (vI x), st, c.2.2) else none
  | _ => none
def i_lst (k n : Nat) : ma_F := fun c => match c.2.1 with
  | .inr (.inl x) :: st => if k + 1 < c.1.length then some (n, ((ma_kill c.1 k).set k (vL x)).set (k + 1) (vS 0), st, c.2.2) else none
  | _ => none
def i_ast (k n : Nat) : ma_F := fun c => match c.2.1 with
  | .inr (.inr (.inl (some a))) :: st => if k < c.1.length then some (n, (ma_kill c.1 k).set k (vR a), st, c.2.2) else none
  | .inr (.inr (.inr a)) :: st => if k < c.1.length ∧ (a = 1 ∨ 3 ≤ a) then some (n, (ma_kill c.1 k).set k (vS a), st, c.2.2) else none
  | _ => none
def i_inc (k : Nat) (d : Int) (n : Nat) : ma_F := fun c => match c.1[k]? with
  | some (.inl x) => some (n, (ma_kill c.1 k).set k (vI (x + Int32.ofInt d)), c.2.1, c.2.2)
  | _ => none
def i_con (v : Int32) (n : Nat) : ma_F := fun c => some (n, c.1, vI v :: c.2.1, c.2.2)
def i_lcn (v : Int64) (n : Nat) : ma_F := fun c => some (n, c.1, vL v :: c.2.1, c.2.2)
def i_spc (k : Nat) (n : Nat) : ma_F := fun c => some (n, c.1, vS k :: c.2.1, c.2.2)
def i_bin (f : Int32 → Int32 → Int32) (n : Nat) : ma_F := fun c => match c.2.1 with
  | .inl y :: .inl x :: st => some (n, c.1, vI (f x y) :: st, c.2.2)
  | _ => none
def i_dvi (f : Int32 → Int32 → Int32) (n : Nat) : ma_F := fun c => match c.2.1 with
  | .inl y :: .inl x :: st => if y = 0 then none else some (n, c.1, vI (f x y) :: st, c.2.2)
  | _ => none
def i_lbn (f : Int64 → Int64 → Int64) (n : Nat) : ma_F := fun c => match c.2.1 with
  | .inr (.inl y) :: .inr (.inl x) :: st => some (n, c.1, vL (f x y) :: st, c.2.2)
  | _ => none
def i_ldv (f : Int64 → Int64 → Int64) (n : Nat) : ma_F := fun c => match c.2.1 with
  | .inr (.inl y) :: .inr (.inl x) :: st => if y = 0 then none else some (n, c.1, vL (f x y) :: st, c.2.2)
  | _ => none
def i_lsh (f : Int64 → Int32 → Int64) (n : Nat) : ma_F := fun c => match c.2.1 with
  | .inl y :: .inr (.inl x) :: st => some (n, c.1, vL (f x y) :: st, c.2.2)
  | _ => none
def i_lcp (n : Nat) : ma_F := fun c => match c.2.1 with
  | .inr (.inl y) :: .inr (.inl x) :: st => some (n, c.1, vI (lg_cmp x y) :: st, c.2.2)
  | _ => none
def i_una (f : Int32 → Int32) (n : Nat) : ma_F := fun c => match c.2.1 with
  | .inl x :: st => some (n, c.1, vI (f x) :: st, c.2.2)
  | _ => none
def i_i2l (n : Nat) : ma_F := fun c => match c.2.1 with
  | .inl x :: st => some (n, c.1, vL x.toInt64 :: st, c.2.2)
  | _ => none
def i_l2i (n : Nat) : ma_F := fun c => match c.2.1 with
  | .inr (.inl x) :: st => some (n, c.1, vI x.toInt32 :: st, c.2.2)
  | _ => none
def ma_c1 (v : ma_V) : Bool := match v with
  | .inl _ => true
  | .inr (.inl _) => false
  | .inr (.inr (.inl (some _))) => true
  | .inr (.inr (.inl none)) => false
  | .inr (.inr (.inr _)) => false
def i_dup (n : Nat) : ma_F := fun c => match c.2.1 with
  | v :: st => if ma_c1 v then some (n, c.1, v :: v :: st, c.2.2) else none
  | _ => none
def i_pop (n : Nat) : ma_F := fun c => match c.2.1 with
  | v :: st => if ma_c1 v then some (n, c.1, st, c.2.2) else none
  | _ => none
def i_du2 (n : Nat) : ma_F := fun c => match c.2.1 with
  | v :: u :: st => if ma_c1 v && ma_c1 u then some (n, c.1, v :: u :: v :: u :: st, c.2.2) else none
  | _ => none
def i_if2 (p : Int32 → Int32 → Bool) (t n : Nat) : ma_F := fun c => match c.2.1 with
  | .inl y :: .inl x :: st => some (if p x y then t else n, c.1, st, c.2.2)
  | _ => none
def i_if1 (p : Int32 → Bool) (t n : Nat) : ma_F := fun c => match c.2.1 with
  | .inl x :: st => some (if p x then t else n, c.1, st, c.2.2)
  | _ => none
def i_gto (t : Nat) : ma_F := fun c => some (t, c.1, c.2.1, c.2.2)
def i_swi (g : Int32 → Option Nat) : ma_F := fun c => match c.2.1 with
  | .inl x :: st => match g x with
    | some t => some (t, c.1, st, c.2.2)
    | none => none
  | _ => none
def i_gti (ci k n : Nat) : ma_F := fun c => match c.2.1 with
  | .inr (.inr (.inl (some o))) :: st => if (ma_sh c.2.2)[o]? = some (.inl ci) then some (n, c.1, vI (ma_fi c.2.2 o k) :: st, c.2.2) else none
  | _ => none
def i_gtr (ci k n : Nat) : ma_F := fun c => match c.2.1 with
  | .inr (.inr (.inl (some o))) :: st => if (ma_sh c.2.2)[o]? = some (.inl ci) then some (n, c.1, vQ (ma_fr c.2.2 o k) :: st, c.2.2) else none
  | _ => none
/-- what a field of ints of that type can hold -/
def ma_nar (t : FieldType) (x : Int32) : Bool := match t with
  | .int => true
  | t => decide (vp_nar t x = x) && fits t (.int x)
def i_pti (ci k n : Nat) : ma_F := fun c => match c.2.1 with
  | .inl x :: .inr (.inr (.inl (some o))) :: st => if (ma_sh c.2.2)[o]? = some (.inl ci) ∧ ma_nar (ma_ty ci k) x = true then some (n, c.1, st, pu_fi c.2.2 o k x) else none
  | _ => none
def i_ptr (ci k n : Nat) : ma_F := fun c => match c.2.1 with
  | .inr (.inr (.inl (some a))) :: .inr (.inr (.inl (some o))) :: st => if (ma_sh c.2.2)[o]? = some (.inl ci) then some (n, c.1, st, pu_fr c.2.2 o k (some a)) else none
  | _ => none
/-- is it an array of that kind, and the place in it? -/
def ma_ok (w : ma_W) (a t : Nat) (i : Int32) : Bool := match (ma_sh w)[a]? with
  | some (.inr q) => decide (q.1 = t) && ma_in i q.2
  | _ => false
def i_iald (n : Nat) : ma_F := fun c => match c.2.1 with
  | .inl i :: .inr (.inr (.inl (some a))) :: st => if ma_ok c.2.2 a 0 i then some (n, c.1, vI (ma_ai c.2.2 a i.toNatClampNeg) :: st, c.2.2) else none
  | _ => none
def i_bald (n : Nat) : ma_F := fun c => match c.2.1 with
  | .inl i :: .inr (.inr (.inl (some a))) :: st => if ma_ok c.2.2 a 1 i then some (n, c.1, vI (ma_ai c.2.2 a i.toNatClampNeg) :: st, c.2.2) else none
  | .inl i :: .inr (.inr (.inr a)) :: st => if 3 ≤ a ∧ a < 33 ∧ a % 2 = 0 ∧ ma_in i (ma_len ((a - 4) / 2)) = true then some (n, c.1, vI (ma_chr ((a - 4) / 2) i.toNatClampNeg) :: st, c.2.2) else none
  | _ => none
def i_lald (n : Nat) : ma_F := fun c => match c.2.1 with
  | .inl i :: .inr (.inr (.inl (some a))) :: st => if ma_ok c.2.2 a 2 i then some (n, c.1, vL (ma_al c.2.2 a i.toNatClampNeg) :: st, c.2.2) else none
  | _ => none
def i_aald (n : Nat) : ma_F := fun c => match c.2.1 with
  | .inl i :: .inr (.inr (.inl (some a))) :: st => if ma_ok c.2.2 a 3 i || ma_ok c.2.2 a 4 i then some (n, c.1, vQ (ma_ar c.2.2 a i.toNatClampNeg) :: st, c.2.2) else none
  | _ => none
def i_iast (n : Nat) : ma_F := fun c => match c.2.1 with
  | .inl x :: .inl i :: .inr (.inr (.inl (some a))) :: st => if ma_ok c.2.2 a 0 i then some (n, c.1, st, pu_ai c.2.2 a i.toNatClampNeg x) else none
  | _ => none
def i_bast (n : Nat) : ma_F := fun c => match c.2.1 with
  | .inl x :: .inl i :: .inr (.inr (.inl (some a))) :: st => if ma_ok c.2.2 a 1 i then some (n, c.1, st, pu_ai c.2.2 a i.toNatClampNeg (vp_nar .byte x)) else none
  | _ => none
def i_last (n : Nat) : ma_F := fun c => match c.2.1 with
  | .inr (.inl x) :: .inl i :: .inr (.inr (.inl (some a))) :: st => if ma_ok c.2.2 a 2 i then some (n, c.1, st, pu_al c.2.2 a i.toNatClampNeg x) else none
  | _ => none
/-- the class whose objects an array of references of that kind holds -/
def ma_el (t : Nat) : Nat := if t = 3 then 1 else 2
def i_aast (n : Nat) : ma_F := fun c => match c.2.1 with
  | .inr (.inr (.inl (some v))) :: .inl i :: .inr (.inr (.inl (some a))) :: st => if (ma_ok c.2.2 a 3 i && decide ((ma_sh c.2.2)[v]? = some (.inl 1))) || (ma_ok c.2.2 a 4 i && decide ((ma_sh c.2.2)[v]? = some (.inl 2))) then some (n, c.1, st, pu_ar c.2.2 a i.toNatClampNeg (some v)) else none
  | _ => none
def i_alen (n : Nat) : ma_F := fun c => match c.2.1 with
  | .inr (.inr (.inr a)) :: st => if 3 ≤ a ∧ a < 33 ∧ a % 2 = 0 then some (n, c.1, vI (Int32.ofNat (ma_len ((a - 4) / 2))) :: st, c.2.2) else none
  | _ => none
/-- the script's own: xs, L -/
def i_sld (xs : Nat → Int32) (L n : Nat) : ma_F := fun c => match c.2.1 with
  | .inl i :: .inr (.inr (.inr 1)) :: st => if ma_in i L then some (n, c.1, vI (xs i.toNatClampNeg) :: st, c.2.2) else none
  | _ => none
def i_sln (L n : Nat) : ma_F := fun c => match c.2.1 with
  | .inr (.inr (.inr 1)) :: st => some (n, c.1, vI (Int32.ofNat L) :: st, c.2.2)
  | _ => none
def i_or (f g : ma_F) : ma_F := fun c => match f c with
  | some r => some r
  | none => g c
/-- a field of a String constant: k 0 its bytes, 1 its coder -/
def i_gts (k n : Nat) : ma_F := fun c => match c.2.1 with
  | .inr (.inr (.inr a)) :: st => if 3 ≤ a ∧ a < 33 ∧ a % 2 = 1 then some (n, c.1, (if k = 0 then vS (a + 1) else vI 0) :: st, c.2.2) else none
  | _ => none
def i_cpy (n : Nat) : ma_F := fun c => match c.2.1 with
  | .inl m :: .inl dp :: .inr (.inr (.inl (some a))) :: .inl sp :: .inr (.inr (.inl (some a0))) :: st => match (ma_sh c.2.2)[a]?, (ma_sh c.2.2)[a0]? with
    | some (.inr q), some (.inr q0) => if q.1 = 0 ∧ q0.1 = 0 ∧ ¬ sp < 0 ∧ ¬ dp < 0 ∧ ¬ m < 0 ∧ sp.toNatClampNeg + m.toNatClampNeg ≤ q0.2 ∧ dp.toNatClampNeg + m.toNatClampNeg ≤ q.2 then some (n, c.1, st, pu_ax c.2.2 a (va_cpy (ma_ai c.2.2 a0) (ma_ai c.2.2 a) sp.toNatClampNeg dp.toNatClampNeg m.toNatClampNeg)) else none
    | _, _ => none
  | _ => none
def i_oin (n : Nat) : ma_F := fun c => match c.2.1 with
  | .inr (.inr (.inl (some _))) :: st => some (n, c.1, st, c.2.2)
  | _ => none
def i_new (ci n : Nat) : ma_F := fun c => some (n, c.1, vR (ma_sh c.2.2).length :: c.2.1, ma_add c.2.2 (.inl ci))
def i_nwa (t n : Nat) : ma_F := fun c => match c.2.1 with
  | .inl x :: st => if ¬ x < 0 ∧ x.toNatClampNeg ≤ 60000 then some (n, c.1, vR (ma_sh c.2.2).length :: st, ma_add c.2.2 (.inr (t, x.toNatClampNeg))) else none
  | _ => none
def ma_cmp (k : Jvm.ClassFile.Cond) (x y : Int32) : Bool := match k with
  | .eq => decide (x = y)
  | .ne => decide (¬ x = y)
  | .lt => decide (x < y)
  | .ge => decide (y ≤ x)
  | .gt => decide (y < x)
  | .le => decide (x ≤ y)
def ma_cm0 (k : Jvm.ClassFile.Cond) (x : Int32) : Bool := match k with
  | .eq => decide (x = 0)
  | .ne => decide (¬ x = 0)
  | .lt => decide (x < 0)
  | .ge => decide (0 ≤ x)
  | .gt => decide (0 < x)
  | .le => decide (x ≤ 0)
def ma_tgt (pc : Nat) (off : Int) : Nat := ((pc : Int) + off).toNat
