/-! ===== the world as it is once all is made: constant shapes, constant references ===== -/
def SH : List ma_Sh := [.inl 5,
  .inl 4, .inr (0, 4), .inr (0, 6), .inr (0, 8), .inr (0, 8), .inr (0, 8), .inr (0, 8), .inr (0, 8),
  .inl 4, .inr (0, 4), .inr (0, 6), .inr (0, 8), .inr (0, 8), .inr (0, 8), .inr (0, 8), .inr (0, 8),
  .inl 4, .inr (0, 4), .inr (0, 6), .inr (0, 8), .inr (0, 8), .inr (0, 8), .inr (0, 8), .inr (0, 8),
  .inl 3, .inr (1, 200), .inr (0, 30), .inr (3, 4), .inr (4, 4), .inl 0, .inr (0, 30),
  .inl 1, .inr (2, 40), .inl 1, .inr (2, 40), .inl 1, .inr (2, 40), .inl 1, .inr (2, 40),
  .inl 2, .inl 2, .inl 2, .inl 2,
  .inl 6, .inr (0, 62), .inr (0, 62), .inr (0, 62), .inr (0, 62), .inr (0, 200), .inr (0, 8), .inr (0, 30), .inr (0, 4), .inr (0, 4), .inr (0, 160), .inr (0, 4), .inr (0, 4), .inr (0, 4), .inr (0, 30)]
def FR (o k : Nat) : Option Nat := match o with
  | 0 => match k with | 0 => some 1 | 1 => some 9 | 2 => some 17 | 4 => some 25 | 5 => some 27 | 7 => some 28 | 8 => some 29 | 9 => some 30 | _ => none
  | 1 => if k < 7 then some (2 + k) else none
  | 9 => if k < 7 then some (10 + k) else none
  | 17 => if k < 7 then some (18 + k) else none
  | 25 => if k = 0 then some 26 else none
  | 30 => if k = 3 then some 31 else none
  | 32 => if k = 0 then some 33 else none
  | 34 => if k = 0 then some 35 else none
  | 36 => if k = 0 then some 37 else none
  | 38 => if k = 0 then some 39 else none
  | 44 => match k with | 0 => some 45 | 1 => some 46 | 2 => some 47 | 3 => some 48 | 5 => some 49 | 12 => some 50 | 13 => some 51 | 15 => some 52 | 16 => some 53 | 17 => some 54 | 18 => some 55 | 19 => some 56 | 20 => some 57 | 21 => some 58 | _ => none
  | _ => none
def AR (a i : Nat) : Option Nat := match a with
  | 28 => if i < 4 then some (32 + 2 * i) else none
  | 29 => if i < 4 then some (40 + i) else none
  | _ => none
/-- the world with these fields, ints, longs -/
def mw (f : Nat → Nat → Int32) (a : Nat → Nat → Int32) (g : Nat → Nat → Int64) : ma_W := (SH, f, FR, a, g, AR)
/-- a tree; a sheet; a shelf -/
def is_tr (t : Nat) : Prop := t = 1 ∨ t = 9 ∨ t = 17
def is_sh (q : Nat) : Prop := q = 32 ∨ q = 34 ∨ q = 36 ∨ q = 38
def is_sf (q : Nat) : Prop := q = 40 ∨ q = 41 ∨ q = 42 ∨ q = 43
section MW
variable {f a : Nat → Nat → Int32} {g : Nat → Nat → Int64}
theorem mw_tr {t : Nat} (h : is_tr t) : (ma_sh (mw f a g))[t]? = some (.inl 4) := by rcases h with rfl | rfl | rfl <;> rfl
theorem mw_tr0 {t : Nat} (h : is_tr t) : (ma_sh (mw f a g))[t + 1]? = some (.inr (0, 4)) := by rcases h with rfl | rfl | rfl <;> rfl
theorem mw_tr1 {t : Nat} (h : is_tr t) : (ma_sh (mw f a g))[t + 2]? = some (.inr (0, 6)) := by rcases h with rfl | rfl | rfl <;> rfl
theorem mw_tr2 {t : Nat} (h : is_tr t) : (ma_sh (mw f a g))[t + 3]? = some (.inr (0, 8)) := by rcases h with rfl | rfl | rfl <;> rfl
theorem mw_tr3 {t : Nat} (h : is_tr t) : (ma_sh (mw f a g))[t + 4]? = some (.inr (0, 8)) := by rcases h with rfl | rfl | rfl <;> rfl
theorem mw_tr4 {t : Nat} (h : is_tr t) : (ma_sh (mw f a g))[t + 5]? = some (.inr (0, 8)) := by rcases h with rfl | rfl | rfl <;> rfl
theorem mw_tr5 {t : Nat} (h : is_tr t) : (ma_sh (mw f a g))[t + 6]? = some (.inr (0, 8)) := by rcases h with rfl | rfl | rfl <;> rfl
theorem mw_tr6 {t : Nat} (h : is_tr t) : (ma_sh (mw f a g))[t + 7]? = some (.inr (0, 8)) := by rcases h with rfl | rfl | rfl <;> rfl
theorem mw_tf {t k : Nat} (h : is_tr t) (hk : k < 7) : ma_fr (mw f a g) t k = some (t + 1 + k) := by
  rcases h with rfl | rfl | rfl
  · show (if k < 7 then some (2 + k) else none) = _; rw [if_pos hk]
  · show (if k < 7 then some (10 + k) else none) = _; rw [if_pos hk]
  · show (if k < 7 then some (18 + k) else none) = _; rw [if_pos hk]
theorem mw_sh {q : Nat} (h : is_sh q) : (ma_sh (mw f a g))[q]? = some (.inl 1) := by rcases h with rfl | rfl | rfl | rfl <;> rfl
theorem mw_sh0 {q : Nat} (h : is_sh q) : (ma_sh (mw f a g))[q + 1]? = some (.inr (2, 40)) := by rcases h with rfl | rfl | rfl | rfl <;> rfl
theorem mw_shf {q : Nat} (h : is_sh q) : ma_fr (mw f a g) q 0 = some (q + 1) := by rcases h with rfl | rfl | rfl | rfl <;> rfl
theorem mw_sf {q : Nat} (h : is_sf q) : (ma_sh (mw f a g))[q]? = some (.inl 2) := by rcases h with rfl | rfl | rfl | rfl <;> rfl
theorem ma_in_lt {i : Int32} {n : Nat} (h : ma_in i n = true) : i.toNatClampNeg < n := by
  unfold ma_in at h
  rw [Bool.and_eq_true, decide_eq_true_eq] at h
  exact h.2
theorem mw_a28 {i : Int32} (h : ma_in i 4 = true) : ma_ar (mw f a g) 28 i.toNatClampNeg = some (32 + 2 * i.toNatClampNeg) := by
  show (if i.toNatClampNeg < 4 then some (32 + 2 * i.toNatClampNeg) else none) = _
  rw [if_pos (ma_in_lt h)]
theorem mw_a29 {i : Int32} (h : ma_in i 4 = true) : ma_ar (mw f a g) 29 i.toNatClampNeg = some (40 + i.toNatClampNeg) := by
  show (if i.toNatClampNeg < 4 then some (40 + i.toNatClampNeg) else none) = _
  rw [if_pos (ma_in_lt h)]
theorem sh_of {i : Int32} (h : ma_in i 4 = true) : is_sh (32 + 2 * i.toNatClampNeg) := by
  have := ma_in_lt h
  unfold is_sh
  omega
theorem sf_of {i : Int32} (h : ma_in i 4 = true) : is_sf (40 + i.toNatClampNeg) := by
  have := ma_in_lt h
  unfold is_sf
  omega
end MW
