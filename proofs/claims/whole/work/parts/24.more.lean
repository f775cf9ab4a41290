def is_si (q : Nat) : Prop := q = 33 ∨ q = 35 ∨ q = 37 ∨ q = 39
def is_rw (q : Nat) : Prop := q = 45 ∨ q = 46 ∨ q = 47 ∨ q = 48
theorem mw_si {f a : Nat → Nat → Int32} {g : Nat → Nat → Int64} {q : Nat} (h : is_si q) : (ma_sh (mw f a g))[q]? = some (.inr (2, 40)) := by rcases h with rfl | rfl | rfl | rfl <;> rfl
theorem mw_rw {f a : Nat → Nat → Int32} {g : Nat → Nat → Int64} {q : Nat} (h : is_rw q) : (ma_sh (mw f a g))[q]? = some (.inr (0, 62)) := by rcases h with rfl | rfl | rfl | rfl <;> rfl
theorem si_of {q : Nat} (h : is_sh q) : is_si (q + 1) := by
  unfold is_sh at h
  unfold is_si
  omega
theorem lsw_out2 {pc : Nat} {dflt k0 t0 k1 t1 : Int} {T : Nat} {x : Int32} (h0 : 0 ≤ (pc : Int) + dflt) (hT : ma_tgt pc dflt = T) (e0 : x.toInt ≠ k0) (e1 : x.toInt ≠ k1) : ma_lsw pc dflt #[(k0, t0), (k1, t1)] x = some T := by
  have h : Op.lookupswitch.offset [(k0, t0), (k1, t1)] dflt x.toInt = dflt := by
    simp [Op.lookupswitch.offset, Ne.symm e0, Ne.symm e1]
  unfold ma_lsw
  show (if 0 ≤ (pc : Int) + Op.lookupswitch.offset [(k0, t0), (k1, t1)] dflt x.toInt then some (ma_tgt pc (Op.lookupswitch.offset [(k0, t0), (k1, t1)] dflt x.toInt)) else none) = _
  rw [h, if_pos h0, hT]
