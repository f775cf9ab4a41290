/-! ===== sets and numbers of a leaf: the model's, and the rest of the class's ===== -/
def hasR (n : Nat) (i : Int32) : Bool := !decide (i < 0) && decide (i < nI n)
theorem hasR_to {n : Nat} {i : Int32} (hn : n ≤ 8) (h : hasR n i = true) : ∃ o, o < n ∧ i = nI o := by
  unfold hasR at h
  rw [Bool.and_eq_true] at h
  have h1 : ¬ i < 0 := by simpa using h.1
  have h2 : i < nI n := by simpa using h.2
  refine ⟨_, ?_, nn_of h1⟩
  rw [nn_of h1, nn_lt clamp_lt (by omega)] at h2
  exact h2
theorem hasR_nn {n o : Nat} (hn : n ≤ 8) (ho : o < n) : hasR n (nI o) = true := by
  unfold hasR
  simp [nn_neg (i := o) (by omega), nn_lt (i := o) (j := n) (by omega) (by omega), ho]
theorem bitCount_all : ∀ x, x < 256 → ∀ (xs : Nat → Int32) (L : Nat) (f a : Nat → Nat → Int32) (g : Nat → Nat → Int64), ev xs L 232 1 [vI (nI x)] (mw f a g) = some (some (vI (nI (pN x))), mw f a g) := by
  intro x hx xs L f a g
  refine (b232_0 _).trans ?_
  refine congrArg (fun v => some (some (vI v), mw f a g)) ?_
  clear xs L f a g
  revert x
  decide +kernel
def nxt (x : Nat) : Nat := x &&& (x - 1)
theorem nxt_all : ∀ x, x < 256 → (pN x = 0 → x = 0) ∧ (x ≠ 0 → nI x &&& (nI x - 1) = nI (nxt x) ∧ nxt x < 256 ∧ pN x = pN (nxt x) + 1) := by decide +kernel
theorem szI_nn {x : Nat} (hx : x < 256) : szI (nI x) = nI (pN x) := by
  unfold szI
  rw [nn_nat (by omega)]
theorem clp_held (l0 : Int32) : (if (0 : Int32) < (if l0 < (99 : Int32) then l0 else (99 : Int32)) then (if l0 < (99 : Int32) then l0 else (99 : Int32)) else (0 : Int32)) = clp l0 := by
  unfold clp
  simp only [Int32.lt_iff_toInt_lt, Int32.reduceToInt]
  by_cases h1 : l0.toInt < 99
  · by_cases h2 : 0 < l0.toInt
    · simp only [h1, h2, if_true, if_pos]
      rw [if_neg (by omega), if_neg (by omega)]
    · simp only [h1, h2, if_true, if_false]
      by_cases h3 : l0.toInt < 0
      · rw [if_pos h3]
      · rw [if_neg h3, if_neg (by omega)]
        apply Int32.toInt_inj.mp
        have : (0 : Int32).toInt = 0 := by decide
        omega
  · simp only [h1, if_false]
    rw [if_pos (by decide), if_neg (by omega)]
    by_cases h4 : 99 < l0.toInt
    · rw [if_pos h4]
    · rw [if_neg h4]
      apply Int32.toInt_inj.mp
      have : (99 : Int32).toInt = 99 := by decide
      omega
theorem bgh_i {S : Row} {n i : Nat} (W : WF S n) (hi : i < n) : ∃ v, v ≤ 5 ∧ lf S i 1 = nI v ∧ ma_in (lf S i 1) 6 = true ∧ (8 : Int32) + lf S i 1 = nI (8 + v) ∧ (lf S i 1).toNatClampNeg = v := by
  obtain ⟨v, hv, h⟩ := W.bgh i hi
  refine ⟨v, hv, h, ?_, ?_, ?_⟩
  · rw [h, nn_in (by omega)]; simp; omega
  · rw [h, show (8 : Int32) = nI 8 from rfl, nn_add]
  · rw [h, nn_nat (by omega)]
section S44
variable {xs : Nat → Int32} {L : Nat} {f a : Nat → Nat → Int32} {g : Nat → Nat → Int64} {S : Row} {n : Nat}
theorem e_size {x : Nat} (hx : x < 256) : ev xs L 144 3 [vI (nI x)] (mw f a g) = some (some (vI (nI (pN x))), mw f a g) := by
  have key : ∀ k x c l0, x < 256 → pN x = k → rn xs L 144 4 [vI l0, vI (nI c), vI (nI x)] [] (mw f a g) = some (some (vI (nI (c + k))), mw f a g) := by
    intro k
    induction k with
    | zero =>
      intro x c l0 hx hp
      have h0 := (nxt_all x hx).1 hp
      subst h0
      rw [b144_4, if_pos (show nI 0 = 0 from rfl), b144_20]
      rfl
    | succ k ih =>
      intro x c l0 hx hp
      have h0 : x ≠ 0 := fun q => by subst q; rw [show pN 0 = 0 from rfl] at hp; omega
      obtain ⟨h1, h2, h3⟩ := (nxt_all x hx).2 h0
      rw [b144_4, if_neg (by rw [show (0 : Int32) = nI 0 from rfl, nn_eq (by omega) (by omega)]; exact h0), b144_8, h1, nn_add1, ih _ _ _ h2 (by omega), show c + 1 + k = c + (k + 1) by omega]
  have := key _ x 0 (nI x) hx rfl
  rw [Nat.zero_add] at this
  exact (b144_0 _ _ _).trans this
theorem m_its {o c : Nat} (hM : isM a 45 S) (ho : o < 8) (hc : c < 6) : ev xs L 142 3 [vR 44, vI (nI o), vI (nI c)] (mw f a g) = some (some (vI (lf S o c)), mw f a g) := by
  have h1 : (14 : Int32) + 6 * nI o + nI c = nI (14 + 6 * o + c) := by
    rw [show (14 : Int32) = nI 14 from rfl, show (6 : Int32) = nI 6 from rfl, nn_mul, nn_add, nn_add]
  have h2 : ma_in (nI (14 + 6 * o + c)) 62 = true := by rw [nn_in (by omega)]; simp; omega
  rw [e_its (by rw [h1]; exact h2), h1, nn_nat (by omega), hM _ (by omega)]
  rfl
theorem m_its0 {o : Nat} (hM : isM a 45 S) (ho : o < 8) : ev xs L 142 3 [vR 44, vI (nI o), vI (0 : Int32)] (mw f a g) = some (some (vI (lf S o 0)), mw f a g) := m_its (c := 0) hM ho (by decide)
theorem m_its1 {o : Nat} (hM : isM a 45 S) (ho : o < 8) : ev xs L 142 3 [vR 44, vI (nI o), vI (1 : Int32)] (mw f a g) = some (some (vI (lf S o 1)), mw f a g) := m_its (c := 1) hM ho (by decide)
theorem m_its2 {o : Nat} (hM : isM a 45 S) (ho : o < 8) : ev xs L 142 3 [vR 44, vI (nI o), vI (2 : Int32)] (mw f a g) = some (some (vI (lf S o 2)), mw f a g) := m_its (c := 2) hM ho (by decide)
theorem m_its3 {o : Nat} (hM : isM a 45 S) (ho : o < 8) : ev xs L 142 3 [vR 44, vI (nI o), vI (3 : Int32)] (mw f a g) = some (some (vI (lf S o 3)), mw f a g) := m_its (c := 3) hM ho (by decide)
theorem m_its4 {o : Nat} (hM : isM a 45 S) (ho : o < 8) : ev xs L 142 3 [vR 44, vI (nI o), vI (4 : Int32)] (mw f a g) = some (some (vI (lf S o 4)), mw f a g) := m_its (c := 4) hM ho (by decide)
theorem m_its5 {o : Nat} (hM : isM a 45 S) (ho : o < 8) : ev xs L 142 3 [vR 44, vI (nI o), vI (5 : Int32)] (mw f a g) = some (some (vI (lf S o 5)), mw f a g) := m_its (c := 5) hM ho (by decide)
theorem m_has {i : Int32} (hM : isM a 45 S) (W : WF S n) : ev xs L 140 2 [vR 44, vI i] (mw f a g) = some (some (vI (bI (hasR n i))), mw f a g) := by
  show rn xs L 140 0 [vR 44, vI i] [] (mw f a g) = _
  have hc : a 45 0 = nI n := (hM 0 (by decide)).trans W.cn
  unfold hasR
  by_cases h1 : i < 0
  · simp [b140_0, b140_4, b140_14, b140_18, h1, bI]
  · by_cases h2 : i < nI n
    · simp [b140_0, b140_4, b140_14, b140_18, h1, hc, h2, bI]
    · simp [b140_0, b140_4, b140_14, b140_18, h1, hc, h2, bI]
theorem c_has {t : Nat} {i : Int32} (ht : is_tr t) (hL : isL t f a S n) : ev xs L 34 2 [vR t, vI i] (mw f a g) = some (some (vI (bI (hasR n i))), mw f a g) := by
  show rn xs L 34 0 [vR t, vI i] [] (mw f a g) = _
  have hc := hL.cnt
  unfold hasR
  by_cases h1 : i < 0
  · simp [b34_0, b34_4, b34_12, b34_16, ht, h1, bI]
  · by_cases h2 : i < nI n
    · simp [b34_0, b34_4, b34_12, b34_16, ht, h1, hc, h2, bI]
    · simp [b34_0, b34_4, b34_12, b34_16, ht, h1, hc, h2, bI]
theorem m_hangingOn {b : Int32} (hM : isM a 45 S) (W : WF S n) : ev xs L 143 4 [vR 44, vI b] (mw f a g) = some (some (vI (setOf (hgB S b) n)), mw f a g) := by
  have h8 := W.n8
  have hc : a 45 0 = nI n := (hM 0 (by decide)).trans W.cn
  have key : ∀ k i, i + k = n → rn xs L 143 4 [vR 44, vI b, vI (setOf (hgB S b) i), vI (nI i)] [] (mw f a g) = some (some (vI (setOf (hgB S b) n)), mw f a g) := by
    intro k
    induction k with
    | zero =>
      intro i hi
      rw [b143_4, hc, if_neg (by rw [nn_lt (by omega) (by omega)]; omega), b143_50, show i = n by omega]
    | succ k ih =>
      intro i hi
      have h0 : i < 8 := by omega
      have := ih (i + 1) (by omega)
      rw [setOf_succ (by omega)] at this
      rw [b143_4, hc, if_pos (by rw [nn_lt (by omega) (by omega)]; omega), b143_14, m_its4 hM h0]
      unfold hgB at *
      by_cases h2 : lf S i 4 = 1
      · by_cases h3 : lf S i 1 = b
        · simp [h2, h3] at this
          simp [b143_0, b143_14, b143_21, b143_25, b143_31, b143_35, b143_41, b143_50, m_its1 hM h0, h2, h3, nn_add1]
          exact this
        · simp [h2, h3] at this
          simp [b143_0, b143_14, b143_21, b143_25, b143_31, b143_35, b143_41, b143_50, m_its1 hM h0, h2, h3, nn_add1]
          exact this
      · simp [h2] at this
        simp [b143_0, b143_14, b143_21, b143_25, b143_31, b143_35, b143_41, b143_50, h2, nn_add1]
        exact this
  exact (b143_0 _ _ _).trans (key n 0 (by omega))
theorem c_mates {t o : Nat} (ht : is_tr t) (W : WF S n) (hL : isL t f a S n) (ho : o < n) : ev xs L 36 2 [vR t, vI (nI o)] (mw f a g) = some (some (vI (matesR S n o)), mw f a g) := by
  show rn xs L 36 0 [vR t, vI (nI o)] [] (mw f a g) = _
  have h8 := W.n8
  have h1 : ma_in (nI o) 8 = true := by rw [nn_in (by omega)]; simp; omega
  unfold matesR noBit bit
  obtain ⟨k, hk, hs⟩ := set_lt (p := hgB S (lf S o 1)) (n := n) (y := ((1 : Int32) <<< (nI o &&& 31)) ^^^ (-1 : Int32)) h8
  rw [hs, szI_nn hk, b36_0 _ _ ht h1, nn_nat (by omega), hL.bgh o ho, c_hangingOn ht W hL]
  simp only [Option.bind_some, Option.toList_some, List.cons_append, List.nil_append]
  rw [b36_10 _ _ _ ht, hs, bitCount_all k hk]
  simp only [Option.bind_some, Option.toList_some, List.cons_append, List.nil_append]
  rw [b36_19 _ _ _ ht]
theorem m_mates {o : Nat} (hM : isM a 45 S) (W : WF S n) (ho : o < n) : ev xs L 141 2 [vR 44, vI (nI o)] (mw f a g) = some (some (vI (matesR S n o)), mw f a g) := by
  show rn xs L 141 0 [vR 44, vI (nI o)] [] (mw f a g) = _
  have h8 := W.n8
  unfold matesR noBit bit
  obtain ⟨k, hk, hs⟩ := set_lt (p := hgB S (lf S o 1)) (n := n) (y := ((1 : Int32) <<< (nI o &&& 31)) ^^^ (-1 : Int32)) h8
  rw [hs, szI_nn hk, b141_0, m_its1 hM (by omega)]
  simp only [Option.bind_some, Option.toList_some, List.cons_append, List.nil_append]
  rw [b141_7, m_hangingOn hM W]
  simp only [Option.bind_some, Option.toList_some, List.cons_append, List.nil_append]
  rw [b141_10, hs, e_size hk]
  simp only [Option.bind_some, Option.toList_some, List.cons_append, List.nil_append]
  rw [b141_19]
theorem e_held {v : Int32} : ev xs L 71 1 [vI v] (mw f a g) = some (some (vI (clp v)), mw f a g) := by
  rw [← clp_held]
  exact b71_0 _
theorem e_clp {v : Int32} : ev xs L 158 1 [vI v] (mw f a g) = some (some (vI (clp v)), mw f a g) := by
  show rn xs L 158 0 [vI v] [] (mw f a g) = _
  unfold clp
  by_cases h1 : v < 0
  · simp [b158_0, b158_4, b158_8, b158_14, b158_19, h1]
  · by_cases h2 : 99 < v
    · simp [b158_0, b158_4, b158_8, b158_14, b158_19, h1, h2]
    · simp [b158_0, b158_4, b158_8, b158_14, b158_19, h1, h2]
end S44
