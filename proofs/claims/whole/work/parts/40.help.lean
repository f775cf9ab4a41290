/-! ===== small helpers, both sides ===== -/
def bI (b : Bool) : Int32 := if b then 1 else 0
theorem bI_0 {b : Bool} : (bI b = 0) ↔ b = false := by cases b <;> decide
theorem bI_01 {b : Bool} : bI b = 0 ∨ bI b = 1 := by cases b <;> decide
/-- lo ≤ v ≤ hi -/
def isw (lo hi v : Int32) : Bool := !decide (v < lo) && !decide (hi < v)
def isl (lo hi v : Int64) : Bool := !decide (v < lo) && !decide (hi < v)
theorem l_lt {x y : Int32} : (x.toInt64 < y.toInt64) ↔ x < y := by
  simp [Int64.lt_iff_toInt_lt, Int32.lt_iff_toInt_lt]
theorem isl_w {lo hi : Int32} {l h : Int64} {x : Int32} (hl : lo.toInt64 = l) (hh : hi.toInt64 = h) : isl l h x.toInt64 = isw lo hi x := by
  subst hl; subst hh
  unfold isl isw
  simp only [l_lt]
theorem lc_lt {x y : Int64} : (lg_cmp x y < 0) ↔ x < y := by
  have h := lg_cmp_ge x y
  rw [← Int32.not_le, h, Int64.not_le]
theorem lc_gt {x y : Int64} : (0 < lg_cmp x y) ↔ y < x := by
  unfold lg_cmp
  by_cases h : x > y
  · rw [if_pos h]; exact ⟨fun _ => h, fun _ => by decide⟩
  · rw [if_neg h]
    by_cases h2 : x = y
    · rw [if_pos h2]; exact ⟨fun q => absurd q (by decide), fun q => absurd q h⟩
    · rw [if_neg h2]; exact ⟨fun q => absurd q (by decide), fun q => absurd q h⟩
section H40
variable {xs : Nat → Int32} {L : Nat} {f a : Nat → Nat → Int32} {g : Nat → Nat → Int64}
theorem e_within {v lo hi : Int32} : ev xs L 56 3 [vI v, vI lo, vI hi] (mw f a g) = some (some (vI (bI (isw lo hi v))), mw f a g) := by
  show rn xs L 56 0 [vI v, vI lo, vI hi] [] (mw f a g) = _
  unfold bI isw
  by_cases h1 : v < lo
  · simp [b56_0, b56_5, b56_10, b56_14, h1]
  · by_cases h2 : hi < v
    · simp [b56_0, b56_5, b56_10, b56_14, h1, h2]
    · simp [b56_0, b56_5, b56_10, b56_14, h1, h2]
theorem e_isIn {v lo hi : Int64} : ev xs L 115 6 [vL v, vL lo, vL hi] (mw f a g) = some (some (vI (bI (isl lo hi v))), mw f a g) := by
  show rn xs L 115 0 [vL v, vS 0, vL lo, vS 0, vL hi, vS 0] [] (mw f a g) = _
  unfold bI isl
  by_cases h1 : v < lo
  · simp [b115_0, b115_6, b115_13, b115_17, lc_lt, lc_gt, h1]
  · by_cases h2 : hi < v
    · simp [b115_0, b115_6, b115_13, b115_17, lc_lt, lc_gt, h1, h2]
    · simp [b115_0, b115_6, b115_13, b115_17, lc_lt, lc_gt, h1, h2]
theorem e_hangs {t : Nat} {i : Int32} (ht : is_tr t) (hi : ma_in i 8 = true) : ev xs L 35 2 [vR t, vI i] (mw f a g) = some (some (vI (bI (decide (a (t + 7) i.toNatClampNeg = 0)))), mw f a g) := by
  show rn xs L 35 0 [vR t, vI i] [] (mw f a g) = _
  unfold bI
  by_cases h : a (t + 7) i.toNatClampNeg = 0
  · simp [b35_0, b35_9, b35_13, ht, hi, h]
  · simp [b35_0, b35_9, b35_13, ht, hi, h]
theorem e_its {o k : Int32} (h : ma_in (14 + 6 * o + k) 62 = true) : ev xs L 142 3 [vR 44, vI o, vI k] (mw f a g) = some (some (vI (a 45 (14 + 6 * o + k).toNatClampNeg)), mw f a g) := by
  show rn xs L 142 0 [vR 44, vI o, vI k] [] (mw f a g) = _
  simp [b142_0, h]
theorem e_isTied {t : Nat} {i : Int32} (ht : is_tr t) : ev xs L 43 2 [vR t, vI i] (mw f a g) = some (some (vI (bI (!decide ((f t 11 >>> (i &&& 31)) &&& 1 = 0)))), mw f a g) := by
  show rn xs L 43 0 [vR t, vI i] [] (mw f a g) = _
  unfold bI
  by_cases h : (f t 11 >>> (i &&& 31)) &&& 1 = 0
  · simp [b43_0, b43_11, b43_15, ht, h]
  · simp [b43_0, b43_11, b43_15, ht, h]
end H40
