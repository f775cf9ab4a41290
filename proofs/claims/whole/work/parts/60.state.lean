/-! ===== state: sums ===== -/
def holdSum (S : Row) : Nat → Int32
  | 0 => 0
  | m + 1 => if hg S m then holdSum S m + lf S m 2 else holdSum S m
def swaySum (S : Row) : Nat → Int32
  | 0 => 0
  | m + 1 => swaySum S m + S (8 + m)
section S60
variable {xs : Nat → Int32} {L : Nat} {f a : Nat → Nat → Int32} {g : Nat → Nat → Int64} {S : Row} {n : Nat} {ti : Int32}
theorem c_holdSum {t : Nat} (ht : is_tr t) (W : WF S n) (hT : isT t f a S n ti) : ev xs L 49 3 [vR t] (mw f a g) = some (some (vI (holdSum S n)), mw f a g) := by
  have h8 := W.n8
  have key : ∀ d i, i + d = n → rn xs L 49 4 [vR t, vI (holdSum S i), vI (nI i)] [] (mw f a g) = some (some (vI (holdSum S n)), mw f a g) := by
    intro d
    induction d with
    | zero =>
      intro i hi
      rw [b49_4 _ _ _ ht, hT.L.cnt, if_neg (by rw [nn_lt (by omega) (by omega)]; omega), b49_35 _ _ _ ht, show i = n by omega]
    | succ d ih =>
      intro i hi
      have hin : ma_in (nI i) 8 = true := in_of (by omega) (by decide)
      have hn : (nI i).toNatClampNeg = i := nn_nat (by omega)
      have hl := hT.hol i (by omega)
      have this := ih (i + 1) (by omega)
      rw [show holdSum S (i + 1) = if hg S i then holdSum S i + lf S i 2 else holdSum S i from rfl] at this
      rw [b49_4 _ _ _ ht, hT.L.cnt, if_pos (by rw [nn_lt (by omega) (by omega)]; omega), b49_12 _ _ _ ht, c_hangs ht W hT.L (by omega)]
      by_cases h2 : hg S i = true
      · rw [if_pos h2] at this
        simp [b49_0, b49_12, b49_17, b49_20, b49_29, b49_35, ht, bI, h2, nn_add1, hin, hn, hl]
        exact this
      · rw [if_neg h2] at this
        simp [b49_0, b49_12, b49_17, b49_20, b49_29, b49_35, ht, bI, h2, nn_add1]
        exact this
  exact (b49_0 _ _ _ ht).trans (key n 0 (by omega))
theorem m_holdSum (hM : isM a 45 S) (W : WF S n) : ev xs L 167 3 [vR 44] (mw f a g) = some (some (vI (holdSum S n)), mw f a g) := by
  have h8 := W.n8
  have hc : a 45 0 = nI n := (hM 0 (by decide)).trans W.cn
  have key : ∀ d i, i + d = n → rn xs L 167 4 [vR 44, vI (holdSum S i), vI (nI i)] [] (mw f a g) = some (some (vI (holdSum S n)), mw f a g) := by
    intro d
    induction d with
    | zero =>
      intro i hi
      rw [b167_4, hc, if_neg (by rw [nn_lt (by omega) (by omega)]; omega), b167_36, show i = n by omega]
    | succ d ih =>
      intro i hi
      have h0 : i < 8 := by omega
      have this := ih (i + 1) (by omega)
      rw [show holdSum S (i + 1) = if hg S i then holdSum S i + lf S i 2 else holdSum S i from rfl] at this
      have hgs := W.hgs i (by omega)
      rw [W.hg_iff (by omega)] at this
      rw [b167_4, hc, if_pos (by rw [nn_lt (by omega) (by omega)]; omega), b167_14, m_its4 hM h0]
      simp only [Option.bind_some, Option.toList_some, List.cons_append, List.nil_append]
      rw [b167_21, m_its2 hM h0]
      simp only [Option.bind_some, Option.toList_some, List.cons_append, List.nil_append]
      rw [b167_27, nn_add1, hgs]
      by_cases h2 : lf S i 5 = 0
      · simp [h2] at this ⊢
        exact this
      · simp [h2] at this ⊢
        exact this
  exact (b167_0 _ _).trans (key n 0 (by omega))
theorem c_swaySum {t : Nat} (ht : is_tr t) (hL : isL t f a S n) : ev xs L 52 3 [vR t] (mw f a g) = some (some (vI (swaySum S 6)), mw f a g) := by
  have key : ∀ d i, i + d = 6 → rn xs L 52 4 [vR t, vI (swaySum S i), vI (nI i)] [] (mw f a g) = some (some (vI (swaySum S 6)), mw f a g) := by
    intro d
    induction d with
    | zero =>
      intro i hi
      have e : i = 6 := by omega
      subst e
      rw [b52_4 _ _ _ ht, if_neg (by decide), b52_25 _ _ _ ht]
    | succ d ih =>
      intro i hi
      have hin : ma_in (nI i) 6 = true := in_of (by omega) (by decide)
      rw [b52_4 _ _ _ ht, if_pos (by rw [show (6 : Int32) = nI 6 from rfl, nn_lt (by omega) (by omega)]; omega), b52_10 _ _ _ ht hin, nn_nat (by omega), hL.swy i (by omega), nn_add1]
      exact ih (i + 1) (by omega)
  exact (b52_0 _ _ _ ht).trans (key 6 0 (by omega))
theorem m_swaySum (hM : isM a 45 S) : ev xs L 170 3 [vR 44] (mw f a g) = some (some (vI (swaySum S 6)), mw f a g) := by
  have key : ∀ d i, i + d = 6 → rn xs L 170 4 [vR 44, vI (swaySum S i), vI (nI i)] [] (mw f a g) = some (some (vI (swaySum S 6)), mw f a g) := by
    intro d
    induction d with
    | zero =>
      intro i hi
      have e : i = 6 := by omega
      subst e
      rw [b170_4, if_neg (by decide), b170_28]
    | succ d ih =>
      intro i hi
      have e8 : (8 : Int32) + nI i = nI (8 + i) := by rw [show (8 : Int32) = nI 8 from rfl, nn_add]
      have hin : ma_in (nI (8 + i)) 62 = true := in_of (by omega) (by decide)
      rw [b170_4, if_pos (by rw [show (6 : Int32) = nI 6 from rfl, nn_lt (by omega) (by omega)]; omega), b170_10 _ _ (by rw [e8]; exact hin), e8, nn_nat (by omega), hM _ (by omega), nn_add1]
      exact ih (i + 1) (by omega)
  exact (b170_0 _ _).trans (key 6 0 (by omega))
end S60
