/-! ===== sets, both sides ===== -/
theorem up1_at {S : Row} {k j : Nat} {v : Int32} : up1 S k v j = if j = k then v else S j := rfl
theorem bI_t : bI true = 1 := rfl
theorem bI_f : bI false = 0 := rfl
theorem WF.hg_iff {S : Row} {n i : Nat} (W : WF S n) (hi : i < n) : hg S i = decide (lf S i 5 = 0) := by
  unfold hg
  rw [W.hgs i hi]
  by_cases h : lf S i 5 = 0
  · simp [h]
  · simp [h]
theorem setOf_succ {p : Nat → Bool} {i : Nat} (hi : i < 8) : setOf p (i + 1) = if p i then setOf p i ||| bit i else setOf p i := by
  unfold setOf
  rw [or_bit hi (bs_lt i)]
  show nI (bs p i + if p i then 2 ^ i else 0) = _
  cases p i <;> rfl
theorem set_lt {p : Nat → Bool} {n : Nat} {y : Int32} (h : n ≤ 8) : ∃ k, k < 256 ∧ setOf p n &&& y = nI k := and_lt (bs_lt8 h) (by decide)
section S43
variable {xs : Nat → Int32} {L : Nat} {f a : Nat → Nat → Int32} {g : Nat → Nat → Int64} {S : Row} {n : Nat}
theorem c_hangs {t i : Nat} (ht : is_tr t) (W : WF S n) (hL : isL t f a S n) (hi : i < n) : ev xs L 35 2 [vR t, vI (nI i)] (mw f a g) = some (some (vI (bI (hg S i))), mw f a g) := by
  have h8 := W.n8
  rw [e_hangs ht (by rw [nn_in (by omega)]; simp; omega), nn_nat (by omega), hL.nth i hi, W.hg_iff hi]
theorem c_hangingOn {t : Nat} {b : Int32} (ht : is_tr t) (W : WF S n) (hL : isL t f a S n) : ev xs L 37 4 [vR t, vI b] (mw f a g) = some (some (vI (setOf (hgB S b) n)), mw f a g) := by
  have h8 := W.n8
  have key : ∀ k i, i + k = n → rn xs L 37 4 [vR t, vI b, vI (setOf (hgB S b) i), vI (nI i)] [] (mw f a g) = some (some (vI (setOf (hgB S b) n)), mw f a g) := by
    intro k
    induction k with
    | zero =>
      intro i hi
      rw [b37_4 _ _ _ _ ht, hL.cnt, if_neg (by rw [nn_lt (by omega) (by omega)]; omega), b37_42 _ _ _ _ ht, show i = n by omega]
    | succ k ih =>
      intro i hi
      have h1 : ma_in (nI i) 8 = true := by rw [nn_in (by omega)]; simp; omega
      have hn : (nI i).toNatClampNeg = i := nn_nat (by omega)
      have hb := hL.bgh i (by omega)
      have := ih (i + 1) (by omega)
      rw [setOf_succ (by omega)] at this
      rw [b37_4 _ _ _ _ ht, hL.cnt, if_pos (by rw [nn_lt (by omega) (by omega)]; omega), b37_12 _ _ _ _ ht, c_hangs ht W hL (by omega)]
      unfold hgB hg at *
      by_cases h2 : lf S i 4 = 1
      · by_cases h3 : lf S i 1 = b
        · simp [h2, h3] at this
          simp [b37_0, b37_12, b37_17, b37_20, b37_30, b37_36, b37_42, ht, bI, h2, h1, hn, hb, h3, nn_add1]
          exact this
        · simp [h2, h3] at this
          simp [b37_0, b37_12, b37_17, b37_20, b37_30, b37_36, b37_42, ht, bI, h2, h1, hn, hb, h3, nn_add1]
          exact this
      · simp [h2] at this
        simp [b37_0, b37_12, b37_17, b37_20, b37_30, b37_36, b37_42, ht, bI, h2, nn_add1]
        exact this
  exact (b37_0 _ _ _ _ ht).trans (key n 0 (by omega))
end S43
