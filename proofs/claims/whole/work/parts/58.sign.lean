/-! ===== the sign of the one that fell as the k-th ===== -/
def sgnK (S : Row) (k : Nat) : Nat → Int32
  | 0 => 0
  | m + 1 => if lf S m 5 = nI (k + 1) then lf S m 3 else sgnK S k m
theorem WF.uniq {S : Row} {n k i j : Nat} (W : WF S n) (hi : i < n) (hj : j < n) (hk : k < 100) (h1 : lf S i 5 = nI (k + 1)) (h2 : lf S j 5 = nI (k + 1)) : i = j := by
  rcases W.one i j hi hj (h1.trans h2.symm) with h | h
  · rw [h1] at h
    exact absurd h (nI_ne0 (by omega) (by omega))
  · exact h
theorem sgnK_at {S : Row} {n k o : Nat} (W : WF S n) (ho : o < n) (hk : k < 100) (h : lf S o 5 = nI (k + 1)) : ∀ m, m ≤ n → o < m → sgnK S k m = lf S o 3
  | 0, _, h2 => by omega
  | m + 1, h1, h2 => by
    unfold sgnK
    by_cases e : m = o
    · rw [e, if_pos h]
    · rw [if_neg (fun q => e (W.uniq (by omega) ho hk q h)), sgnK_at W ho hk h m (by omega) (by omega)]
section S58
variable {xs : Nat → Int32} {L : Nat} {f a : Nat → Nat → Int32} {g : Nat → Nat → Int64} {S : Row} {n : Nat}
theorem c_signOf {t k o : Nat} (ht : is_tr t) (W : WF S n) (hL : isL t f a S n) (ho : o < n) (hk : k < 100) (h : lf S o 5 = nI (k + 1)) : ev xs L 47 3 [vR t, vI (nI k)] (mw f a g) = some (some (vI (sgnK S k n)), mw f a g) := by
  have h8 := W.n8
  have key : ∀ d i, i + d = o → rn xs L 47 2 [vR t, vI (nI k), vI (nI i)] [] (mw f a g) = some (some (vI (lf S o 3)), mw f a g) := by
    intro d
    induction d with
    | zero =>
      intro i hi
      have e : i = o := by omega
      subst e
      have hin : ma_in (nI i) 8 = true := in_of (by omega) (by decide)
      rw [b47_2 _ _ _ ht, hL.cnt, if_pos (by rw [nn_lt (by omega) (by omega)]; omega), b47_10 _ _ _ ht hin, nn_nat (by omega), hL.nth i ho, nn_add1, if_pos h, b47_22 _ _ _ ht hin, nn_nat (by omega), hL.sgn i ho]
    | succ d ih =>
      intro i hi
      have hin : ma_in (nI i) 8 = true := in_of (by omega) (by decide)
      rw [b47_2 _ _ _ ht, hL.cnt, if_pos (by rw [nn_lt (by omega) (by omega)]; omega), b47_10 _ _ _ ht hin, nn_nat (by omega), hL.nth i (by omega), nn_add1, if_neg (fun q => by have := W.uniq (by omega) ho hk q h; omega), b47_29 _ _ _ ht, nn_add1]
      exact ih (i + 1) (by omega)
  rw [sgnK_at W ho hk h n (by omega) ho]
  exact (b47_0 _ _ _ ht).trans (key o 0 (by omega))
theorem m_signOf {k : Nat} (hM : isM a 45 S) (W : WF S n) : ev xs L 165 4 [vR 44, vI (nI k)] (mw f a g) = some (some (vI (sgnK S k n)), mw f a g) := by
  have h8 := W.n8
  have hc : a 45 0 = nI n := (hM 0 (by decide)).trans W.cn
  have key : ∀ d i, i + d = n → rn xs L 165 4 [vR 44, vI (nI k), vI (sgnK S k i), vI (nI i)] [] (mw f a g) = some (some (vI (sgnK S k n)), mw f a g) := by
    intro d
    induction d with
    | zero =>
      intro i hi
      rw [b165_4, hc, if_neg (by rw [nn_lt (by omega) (by omega)]; omega), b165_43, show i = n by omega]
    | succ d ih =>
      intro i hi
      have h0 : i < 8 := by omega
      have this := ih (i + 1) (by omega)
      rw [show sgnK S k (i + 1) = if lf S i 5 = nI (k + 1) then lf S i 3 else sgnK S k i from rfl] at this
      rw [b165_4, hc, if_pos (by rw [nn_lt (by omega) (by omega)]; omega), b165_14, m_its5 hM h0]
      by_cases h2 : lf S i 5 = nI (k + 1)
      · rw [if_pos h2] at this
        simp [b165_0, b165_14, b165_20, b165_26, b165_32, b165_35, b165_43, nn_add1, h2, m_its3 hM h0]
        exact this
      · rw [if_neg h2] at this
        simp [b165_0, b165_14, b165_20, b165_26, b165_32, b165_35, b165_43, nn_add1, h2]
        exact this
  exact (b165_0 _ _ _).trans (key n 0 (by omega))
end S58
