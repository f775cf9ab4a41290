/-! ===== what a leaf loses, its rank; the set that hangs ===== -/
section S45
variable {xs : Nat → Int32} {L : Nat} {f a : Nat → Nat → Int32} {g : Nat → Nat → Int64} {S : Row} {n : Nat}
theorem c_loses {t o : Nat} (ht : is_tr t) (W : WF S n) (hL : isL t f a S n) (ho : o < n) : ev xs L 38 3 [vR t, vI (nI o)] (mw f a g) = some (some (vI (losR S n o)), mw f a g) := by
  show rn xs L 38 0 [vR t, vI (nI o), vS 0] [] (mw f a g) = _
  have h8 := W.n8
  have h1 : ma_in (nI o) 8 = true := by rw [nn_in (by omega)]; simp; omega
  have hn : (nI o).toNatClampNeg = o := nn_nat (by omega)
  have hk := hL.knd o ho
  have hb := hL.bgh o ho
  obtain ⟨v, hv, e1, e2, e3, e4⟩ := bgh_i W ho
  have hs := hL.swy v (by omega)
  have l0 := hL.law 0 (by decide)
  have l1 := hL.law 1 (by decide)
  have l2 := hL.law 2 (by decide)
  have hd := hL.day
  have hm := c_mates (xs := xs) (L := L) (g := g) ht W hL ho
  unfold losR
  rw [b38_0 _ _ _ ht h1 (by rw [hn, hb]; exact e2) h1, hn, hk, hb, e4, hs, l0]
  simp only [b38_60, b38_69, b38_80, b38_86, b38_88, b38_94, b38_104, b38_113, b38_116, b38_125, b38_129, b38_131, ht, l1, l2, hd, hm, Option.bind_some, Option.toList_some, List.cons_append, List.nil_append]
  split
  · rfl
  · split
    · rfl
    · split
      · rfl
      · split
        · split <;> rfl
        · split
          · split <;> rfl
          · rfl
theorem m_loses {o : Nat} (hM : isM a 45 S) (W : WF S n) (ho : o < n) : ev xs L 146 3 [vR 44, vI (nI o)] (mw f a g) = some (some (vI (losR S n o)), mw f a g) := by
  show rn xs L 146 0 [vR 44, vI (nI o), vS 0] [] (mw f a g) = _
  have h8 := W.n8
  have h0 : o < 8 := by omega
  obtain ⟨v, hv, e1, e2, e3, e4⟩ := bgh_i W ho
  have e5 : ma_in (8 + lf S o 1) 62 = true := by rw [e3, nn_in (by omega)]; simp; omega
  have e6 : ((8 : Int32) + lf S o 1).toNatClampNeg = 8 + v := by rw [e3, nn_nat (by omega)]
  have hs := hM (8 + v) (by omega)
  have l0 := hM 4 (by decide)
  have l1 := hM 5 (by decide)
  have l2 := hM 6 (by decide)
  have hd := hM 1 (by decide)
  have hm := m_mates (xs := xs) (L := L) (f := f) (g := g) hM W ho
  unfold losR
  rw [b146_0, m_its1 hM h0]
  simp only [Option.bind_some, Option.toList_some, List.cons_append, List.nil_append]
  rw [b146_20 _ _ _ _ _ e5, m_its0 hM h0]
  simp only [Option.bind_some, Option.toList_some, List.cons_append, List.nil_append]
  rw [b146_30, e6, hs, l0, e4]
  simp only [b146_64, b146_73, b146_79, b146_81, b146_92, b146_98, b146_110, b146_120, b146_123, b146_134, b146_138, b146_140, l1, l2, hd, hm, Option.bind_some, Option.toList_some, List.cons_append, List.nil_append]
  split
  · rfl
  · split
    · rfl
    · split
      · rfl
      · split
        · split <;> rfl
        · split
          · split <;> rfl
          · rfl
theorem c_rank {t o : Nat} (ht : is_tr t) (W : WF S n) (hL : isL t f a S n) (ho : o < n) : ev xs L 39 3 [vR t, vI (nI o)] (mw f a g) = some (some (vI (rankR S o)), mw f a g) := by
  show rn xs L 39 0 [vR t, vI (nI o), vS 0] [] (mw f a g) = _
  have h8 := W.n8
  have h1 : ma_in (nI o) 8 = true := by rw [nn_in (by omega)]; simp; omega
  have hn : (nI o).toNatClampNeg = o := nn_nat (by omega)
  have hk := hL.knd o ho
  have hb := hL.bgh o ho
  have hs := hL.sgn o ho
  unfold rankR
  rw [b39_0 _ _ _ ht h1 h1, hn, hk, hs]
  simp only [b39_48, b39_52, b39_63, b39_68, b39_75, b39_78, ht, h1, hn, hb, Int32.zero_sub]
  split
  · rfl
  · split
    · rfl
    · split
      · rfl
      · split
        · rfl
        · split <;> rfl
theorem m_rank {o : Nat} (hM : isM a 45 S) (ho : o < 8) : ev xs L 147 3 [vR 44, vI (nI o)] (mw f a g) = some (some (vI (rankR S o)), mw f a g) := by
  show rn xs L 147 0 [vR 44, vI (nI o), vS 0] [] (mw f a g) = _
  unfold rankR
  rw [b147_0, m_its3 hM ho]
  simp only [Option.bind_some, Option.toList_some, List.cons_append, List.nil_append]
  rw [b147_6, m_its0 hM ho]
  simp only [Option.bind_some, Option.toList_some, List.cons_append, List.nil_append]
  rw [b147_13]
  simp only [b147_48, b147_52, b147_57, b147_66, b147_68, b147_75, b147_79, m_its1 hM ho, Option.bind_some, Option.toList_some, List.cons_append, List.nil_append]
  split
  · rfl
  · split
    · rfl
    · split
      · rfl
      · split
        · rfl
        · split <;> rfl
theorem c_hangSet {t : Nat} (ht : is_tr t) (W : WF S n) (hL : isL t f a S n) : ev xs L 48 3 [vR t] (mw f a g) = some (some (vI (setOf (hg S) n)), mw f a g) := by
  have h8 := W.n8
  have key : ∀ k i, i + k = n → rn xs L 48 4 [vR t, vI (setOf (hg S) i), vI (nI i)] [] (mw f a g) = some (some (vI (setOf (hg S) n)), mw f a g) := by
    intro k
    induction k with
    | zero =>
      intro i hi
      rw [b48_4 _ _ _ ht, hL.cnt, if_neg (by rw [nn_lt (by omega) (by omega)]; omega), b48_32 _ _ _ ht, show i = n by omega]
    | succ k ih =>
      intro i hi
      have := ih (i + 1) (by omega)
      rw [setOf_succ (by omega)] at this
      rw [b48_4 _ _ _ ht, hL.cnt, if_pos (by rw [nn_lt (by omega) (by omega)]; omega), b48_12 _ _ _ ht, c_hangs ht W hL (by omega)]
      by_cases h2 : hg S i = true
      · simp [h2] at this
        simp [b48_0, b48_12, b48_17, b48_20, b48_26, b48_32, ht, bI, h2, nn_add1]
        exact this
      · simp [h2] at this
        simp [b48_0, b48_12, b48_17, b48_20, b48_26, b48_32, ht, bI, h2, nn_add1]
        exact this
  exact (b48_0 _ _ _ ht).trans (key n 0 (by omega))
theorem zero_shl : ∀ i, i < 8 → (0 : Int32) <<< (nI i &&& 31) = 0 := by decide
theorem m_hanging (hM : isM a 45 S) (W : WF S n) : ev xs L 153 3 [vR 44] (mw f a g) = some (some (vI (setOf (hg S) n)), mw f a g) := by
  have h8 := W.n8
  have hc : a 45 0 = nI n := (hM 0 (by decide)).trans W.cn
  have key : ∀ k i, i + k = n → rn xs L 153 4 [vR 44, vI (setOf (hg S) i), vI (nI i)] [] (mw f a g) = some (some (vI (setOf (hg S) n)), mw f a g) := by
    intro k
    induction k with
    | zero =>
      intro i hi
      rw [b153_4, hc, if_neg (by rw [nn_lt (by omega) (by omega)]; omega), b153_31, show i = n by omega]
    | succ k ih =>
      intro i hi
      have h0 : i < 8 := by omega
      have := ih (i + 1) (by omega)
      rw [setOf_succ (by omega)] at this
      rw [b153_4, hc, if_pos (by rw [nn_lt (by omega) (by omega)]; omega), b153_14, m_its4 hM h0]
      have hgs := W.hgs i (by omega)
      unfold hg at *
      by_cases h2 : lf S i 5 = 0
      · rw [if_pos h2] at hgs
        simp [hgs] at this
        simp [b153_0, b153_14, b153_21, b153_31, hgs, nn_add1]
        exact this
      · rw [if_neg h2] at hgs
        simp [hgs] at this
        simp [b153_0, b153_14, b153_21, b153_31, hgs, nn_add1, zero_shl i h0]
        exact this
  exact (b153_0 _ _).trans (key n 0 (by omega))
end S45
