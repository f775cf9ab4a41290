/-! ===== sheet, put, item ===== -/
theorem l_back (x : Int32) : x.toInt64.toInt32 = x := by simp
theorem isw_m1 {x : Int32} (h : isw (-1) 3 x = true) : x = -1 ∨ ∃ j, j < 4 ∧ x = nI j := by
  unfold isw at h
  rw [Bool.and_eq_true] at h
  have h1 : ¬ x < -1 := by simpa using h.1
  have h2 : ¬ 3 < x := by simpa using h.2
  by_cases h0 : x < 0
  · left
    apply Int32.toInt_inj.mp
    rw [Int32.lt_iff_toInt_lt] at h0 h1
    have e1 : (-1 : Int32).toInt = -1 := by decide
    have e0 : (0 : Int32).toInt = 0 := by decide
    omega
  · right
    have : isw 0 3 x = true := by unfold isw; simp [h0, h2]
    obtain ⟨k, hk, e⟩ := isw_nn 3 rfl (by decide) this
    exact ⟨k, by omega, e⟩
theorem nI_nm1 {k : Nat} (hk : k < 2147483648) : ¬ nI k = -1 := fun q => by
  have := m1_lt hk
  rw [q] at this
  exact absurd this (by decide)
theorem is_sh_q {q : Nat} (h : q < 4) : is_sh (32 + 2 * q) := by unfold is_sh; omega
theorem is_sf_q {q : Nat} (h : q < 4) : is_sf (40 + q) := by unfold is_sf; omega
theorem is_si_q {q : Nat} (h : q < 4) : is_si (32 + 2 * q + 1) := by unfold is_si; omega
theorem ST.sht {f a f' a' : Nat → Nat → Int32} {g g' : Nat → Nat → Int64} {q : Nat} (hs : ST f a g) (hq : q < 4) (hff : ∀ p, p ≠ 32 + 2 * q → f' p = f p) (haa : ∀ p, p ≠ 52 → p ≠ 53 → p ≠ 54 → a' p = a p) (hgg : ∀ p, p ≠ 32 + 2 * q + 1 → g' p = g p) (h52 : ∀ k, k ≠ q → a' 52 k = a 52 k ∧ a' 53 k = a 53 k) (h54 : ∀ k, k < 40 * q ∨ 40 * q + 40 ≤ k → a' 54 k = a 54 k) (new : SHT f' a' g' q) : ST f' a' g' := by
  obtain ⟨S, n, W, hT, hM⟩ := hs.tree
  refine ST.mk ⟨S, n, W, hT.keep (fun p h1 h2 => ⟨hff p (by omega), haa p (by omega) (by omega) (by omega)⟩), hM.of (haa 45 (by decide) (by decide) (by decide))⟩
    (hs.kept.of (by rw [hff 0 (by omega)]) (by rw [hff 44 (by omega)]) (fun p h1 h2 => ⟨hff p (by omega), haa p (by omega) (by omega) (by omega)⟩) (haa 46 (by decide) (by decide) (by decide)))
    (hs.tape.of (by rw [hff 25 (by omega)]) (by rw [hff 44 (by omega)]) (haa 49 (by decide) (by decide) (by decide)) (haa 26 (by decide) (by decide) (by decide)))
    (hs.rows.of (by rw [hff 0 (by omega)]) (by rw [hff 44 (by omega)]) (haa 27 (by decide) (by decide) (by decide)) (haa 51 (by decide) (by decide) (by decide)))
    (fun p hp => ?_)
    (fun p hp => (hs.shls p hp).of (hff _ (by omega)) (by rw [haa 55 (by decide) (by decide) (by decide)]) (by rw [haa 56 (by decide) (by decide) (by decide)]) (by rw [haa 57 (by decide) (by decide) (by decide)]))
    (hs.acts.of (by rw [hff 30 (by omega)]) (by rw [hff 44 (by omega)]) (haa 31 (by decide) (by decide) (by decide)) (haa 58 (by decide) (by decide) (by decide)))
  by_cases e : p = q
  · rw [e]; exact new
  · exact (hs.shts p hp).of (hff _ (by omega)) (h52 p e).1 (h52 p e).2 (fun i hi => h54 _ (by omega)) (hgg _ (by omega))
section S76
variable {xs : Nat → Int32} {L : Nat} {f : Nat → Nat → Int32} {g : Nat → Nat → Int64}
theorem m_zero0 {q : Nat} {l2 l3 : Int32} (hq : q < 4) : ∀ (r i : Nat) (a : Nat → Nat → Int32), i + r = 40 → (∀ j, j < i → a 54 (40 * q + j) = 0) → ∃ a1, rn xs L 195 69 [vR 44, vI (nI q), vI l2, vI l3, vI (nI i)] [] (mw f a g) = some (some (vI 1), mw f a1 g) ∧ (∀ j, j < 40 → a1 54 (40 * q + j) = 0) ∧ (∀ k, k < 40 * q ∨ 40 * q + 40 ≤ k → a1 54 k = a 54 k) ∧ (∀ p, p ≠ 54 → a1 p = a p)
  | 0, i, a, hi, h0 => by
    have e : i = 40 := by omega
    subst e
    refine ⟨a, ?_, h0, fun _ _ => rfl, fun _ _ => rfl⟩
    rw [b195_69, if_neg (by decide), b195_95]
  | r + 1, i, a, hi, h0 => by
    have e40 : (40 : Int32) * nI q + nI i = nI (40 * q + i) := by rw [show (40 : Int32) = nI 40 from rfl, nn_mul, nn_add]
    have hin : ma_in (nI (40 * q + i)) 160 = true := in_of (by omega) (by decide)
    obtain ⟨a1, e1, h1, h2, h3⟩ := m_zero0 (l2 := l2) (l3 := l3) hq r (i + 1) (ma_u2 a 54 (40 * q + i) 0) (by omega) (fun j hj => by
      rw [u2_at]
      by_cases e : j = i
      · rw [if_pos ⟨rfl, by omega⟩]
      · rw [if_neg (by omega)]; exact h0 j (by omega))
    refine ⟨a1, ?_, h1, fun k hk => by rw [h2 k hk, u2_at, if_neg (by omega)], fun p hp => by rw [h3 p hp, u2_ne hp]⟩
    rw [b195_69, if_pos (by rw [show (40 : Int32) = nI 40 from rfl, nn_lt (by omega) (by omega)]; omega), b195_76 _ _ _ _ (by rw [e40]; exact hin), e40, nn_nat (by omega), nn_add1]
    exact e1
theorem c_begin0 {t : Nat} {l1 l2 : Int32} {a : Nat → Nat → Int32} (ht : is_sh t) : ∀ (r i : Nat) (g : Nat → Nat → Int64), i + r = 40 → (∀ j, j < i → g (t + 1) j = 0) → ∃ g1, rn xs L 9 12 [vR t, vI l1, vI l2, vI (nI i)] [] (mw f a g) = some (none, mw f a g1) ∧ (∀ j, j < 40 → g1 (t + 1) j = 0) ∧ (∀ p, p ≠ t + 1 → g1 p = g p)
  | 0, i, g, hi, h0 => by
    have e : i = 40 := by omega
    subst e
    refine ⟨g, ?_, h0, fun _ _ => rfl⟩
    rw [b9_12 _ _ _ _ ht, if_neg (by decide), b9_31 _ _ _ _ ht]
  | r + 1, i, g, hi, h0 => by
    have hin : ma_in (nI i) 40 = true := in_of (by omega) (by decide)
    obtain ⟨g1, e1, h1, h2⟩ := c_begin0 (l1 := l1) (l2 := l2) (a := a) ht r (i + 1) (ma_u2 g (t + 1) i 0) (by omega) (fun j hj => by
      rw [u2_at]
      by_cases e : j = i
      · rw [if_pos ⟨rfl, e⟩]
      · rw [if_neg (fun q => e q.2)]; exact h0 j (by omega))
    refine ⟨g1, ?_, h1, fun p hp => by rw [h2 p hp, u2_ne hp]⟩
    rw [b9_12 _ _ _ _ ht, if_pos (by rw [show (40 : Int32) = nI 40 from rfl, nn_lt (by omega) (by omega)]; omega), b9_18 _ _ _ _ ht hin, nn_nat (by omega), nn_add1]
    exact e1
theorem m_isSheet {x : Int32} {a : Nat → Nat → Int32} : ev xs L 184 1 [vI x] (mw f a g) = some (some (vI (bI (isw 0 3 x))), mw f a g) := by
  show rn xs L 184 0 [vI x] [] (mw f a g) = _
  rw [b184_0, m_in_0_3]
  simp only [Option.bind_some, Option.toList_some, List.cons_append, List.nil_append]
  rw [b184_9 _ _ bI_01]
theorem c_missing {t : Nat} {a : Nat → Nat → Int32} (ht : is_sh t) : ev xs L 8 1 [vR t] (mw f a g) = some (some (vI (bI (decide (f t 1 = -1)))), mw f a g) := by
  show rn xs L 8 0 [vR t] [] (mw f a g) = _
  rw [b8_0 _ ht]
  by_cases h : f t 1 = -1
  · rw [if_pos h, b8_8 _ ht, decide_eq_true h]; rfl
  · rw [if_neg h, b8_12 _ ht, decide_eq_false h]; rfl
theorem m_lacks {q : Nat} {s : Int32} {a : Nat → Nat → Int32} (hq : q < 4) : ev xs L 198 3 [vR 44, vI (nI q), vI s] (mw f a g) = some (some (vI (if a 52 q < 0 then -11 else if a 52 q = s then 0 else -13)), mw f a g) := by
  have hin : ma_in (nI q) 4 = true := in_of hq (by decide)
  show rn xs L 198 0 [vR 44, vI (nI q), vI s] [] (mw f a g) = _
  rw [b198_0 _ _ hin, nn_nat (by omega)]
  by_cases h : a 52 q < 0
  · rw [if_pos h, if_pos h, b198_9]
  · rw [if_neg h, if_neg h, b198_14 _ _ hin, nn_nat (by omega)]
    by_cases h2 : a 52 q = s
    · rw [if_pos h2, if_pos h2, b198_29]
    · rw [if_neg h2, if_neg h2, b198_24]
def narR (s : Nat) (v : Int32) : Int32 := if s = 0 then v.toInt8.toInt32 else if s = 1 then v.toInt16.toInt32 else v
theorem c_narrowed {t s : Nat} {v : Int32} {a : Nat → Nat → Int32} (ht : is_sh t) (hs : s < 4) (h : f t 1 = nI s) : ev xs L 10 2 [vR t, vI v] (mw f a g) = some (some (vL (narR s v).toInt64), mw f a g) := by
  show rn xs L 10 0 [vR t, vI v] [] (mw f a g) = _
  unfold narR
  rw [b10_0 _ _ ht, h]
  by_cases h0 : s = 0
  · rw [if_pos (by rw [h0]; rfl), if_pos h0, b10_7 _ _ ht]
  · rw [if_neg (nI_ne0 (by omega) (by omega)), if_neg h0, b10_13 _ _ ht, h]
    by_cases h1 : s = 1
    · rw [if_pos (by rw [h1]; rfl), if_pos h1, b10_21 _ _ ht]
    · rw [if_neg (by rw [show (1 : Int32) = nI 1 from rfl, nn_eq (by omega) (by omega)]; exact h1), if_neg h1, b10_27 _ _ ht]
end S76
theorem op_sheet {t s n : Int32} : OPS 100 4 195 5 [vI t, vI s, vI n] := by
  intro xs L f a g hs
  by_cases h1 : isw 0 3 t = true
  rotate_left
  · refine ⟨vI (-1), f, a, g, f, a, g, ?_, ?_, hs⟩
    · show rn xs L 100 0 [vR 0, vI t, vI s, vI n] [] (mw f a g) = _
      simp [b100_0, b100_6, b100_9, b100_15, b100_18, b100_20, b100_25, b100_37, b100_43, b100_45, b100_49, b100_52, b100_63, e_within, h1, bI]
    · show rn xs L 195 0 [vR 44, vI t, vI s, vI n, vS 0] [] (mw f a g) = _
      simp [b195_0, b195_4, b195_7, b195_18, b195_21, b195_25, b195_31, b195_33, b195_37, b195_41, b195_44, b195_60, b195_64, b195_76, b195_95, m_isSheet, h1, bI]
  obtain ⟨q, hq', rfl⟩ := isw_nn 3 rfl (by decide) h1
  have hq : q < 4 := by omega
  have hin : ma_in (nI q) 4 = true := in_of hq (by decide)
  have hnq : (nI q).toNatClampNeg = q := nn_nat (by omega)
  by_cases h2 : isw (-1) 3 s = true
  rotate_left
  · refine ⟨vI (-1), f, a, g, f, a, g, ?_, ?_, hs⟩
    · show rn xs L 100 0 [vR 0, vI (nI q), vI s, vI n] [] (mw f a g) = _
      simp [b100_0, b100_6, b100_9, b100_15, b100_18, b100_20, b100_25, b100_37, b100_43, b100_45, b100_49, b100_52, b100_63, e_within, h1, h2, bI]
    · show rn xs L 195 0 [vR 44, vI (nI q), vI s, vI n, vS 0] [] (mw f a g) = _
      simp [b195_0, b195_4, b195_7, b195_18, b195_21, b195_25, b195_31, b195_33, b195_37, b195_41, b195_44, b195_60, b195_64, b195_76, b195_95, m_isSheet, m_in_m1_3, h1, h2, bI]
  have hms : ∀ (f a : Nat → Nat → Int32) (g : Nat → Nat → Int64), rn xs L 195 0 [vR 44, vI (nI q), vI s, vI n, vS 0] [] (mw f a g) = rn xs L 195 21 [vR 44, vI (nI q), vI s, vI n, vS 0] [] (mw f a g) := fun f a g => by
    rw [b195_0, m_isSheet, h1]
    simp only [Option.bind_some, Option.toList_some, List.cons_append, List.nil_append]
    rw [b195_4, if_neg (by decide), b195_7, m_in_m1_3, h2]
    simp only [Option.bind_some, Option.toList_some, List.cons_append, List.nil_append]
    rw [b195_18, if_neg (by decide)]
  have hcs : rn xs L 100 0 [vR 0, vI (nI q), vI s, vI n] [] (mw f a g) = rn xs L 100 20 [vR 0, vI (nI q), vI s, vI n] [] (mw f a g) := by
    rw [b100_0, e_within, h1]
    simp only [Option.bind_some, Option.toList_some, List.cons_append, List.nil_append]
    rw [b100_6, if_neg (by decide), b100_9, e_within, h2]
    simp only [Option.bind_some, Option.toList_some, List.cons_append, List.nil_append]
    rw [b100_15, if_neg (by decide)]
  rcases isw_m1 h2 with rfl | ⟨j, hj, rfl⟩
  · obtain ⟨a2, e2, k1, k2, k3⟩ := m_zero0 (xs := xs) (L := L) (f := ma_u2 f (32 + 2 * q) 1 (-1)) (g := g) (l2 := -1) (l3 := n) hq 40 0 (ma_u2 (ma_u2 a 52 q (-1)) 53 q 0) (by omega) (fun j hj => by omega)
    refine ⟨vI 1, ma_u2 f (32 + 2 * q) 1 (-1), a, g, ma_u2 f (32 + 2 * q) 1 (-1), a2, g, ?_, ?_, ?_⟩
    · show rn xs L 100 0 [vR 0, vI (nI q), vI (-1), vI n] [] (mw f a g) = _
      rw [hcs, b100_20, if_pos rfl, b100_25 _ _ _ hin, hnq]
    · show rn xs L 195 0 [vR 44, vI (nI q), vI (-1), vI n, vS 0] [] (mw _ a g) = _
      rw [hms, b195_21, if_pos (by decide), b195_33, if_pos (by decide), b195_44 _ _ _ _ hin, if_pos (by decide), hnq, b195_60 _ _ _ _ _ hin, hnq]
      exact e2
    · refine hs.sht hq (fun p hp => u2_ne hp) (fun p p1 p2 p3 => by rw [k3 p p3, u2_ne p2, u2_ne p1]) (fun _ _ => rfl) (fun k hk => ?_) (fun k hk => ?_) (Or.inl ⟨?_, ?_⟩)
      · rw [k3 52 (by decide), k3 53 (by decide), u2_ne (by decide), u2_at, if_neg (fun x => hk x.2), u2_at, if_neg (fun x => hk x.2), u2_ne (by decide)]
        exact ⟨rfl, rfl⟩
      · rw [k2 k hk, u2_ne (by decide), u2_ne (by decide)]
      · rw [u2_at, if_pos ⟨rfl, rfl⟩]
      · rw [k3 52 (by decide), u2_ne (by decide), u2_at, if_pos ⟨rfl, rfl⟩]
  · have hsn : ¬ nI j < 0 := nI_pos (by omega)
    by_cases h3 : (40 : Int32) < n
    · refine ⟨vI (-1), f, a, g, f, a, g, ?_, ?_, hs⟩
      · show rn xs L 100 0 [vR 0, vI (nI q), vI (nI j), vI n] [] (mw f a g) = _
        rw [hcs, b100_20, if_neg (nI_nm1 (by omega)), b100_37, if_pos h3, b100_43]
      · show rn xs L 195 0 [vR 44, vI (nI q), vI (nI j), vI n, vS 0] [] (mw f a g) = _
        rw [hms, b195_21, if_neg hsn, b195_25, if_pos h3, b195_31]
    · by_cases h4 : n < 0
      · refine ⟨vI (-14), f, a, g, f, a, g, ?_, ?_, hs⟩
        · show rn xs L 100 0 [vR 0, vI (nI q), vI (nI j), vI n] [] (mw f a g) = _
          rw [hcs, b100_20, if_neg (nI_nm1 (by omega)), b100_37, if_neg h3, b100_45, if_pos h4, b100_49]
        · show rn xs L 195 0 [vR 44, vI (nI q), vI (nI j), vI n, vS 0] [] (mw f a g) = _
          rw [hms, b195_21, if_neg hsn, b195_25, if_neg h3, b195_33, if_neg hsn, b195_37, if_pos h4, b195_41]
      · obtain ⟨l, hl, rfl⟩ : ∃ l, l ≤ 40 ∧ n = nI l := by
          have : isw 0 40 n = true := by unfold isw; simp [h3, h4]
          exact isw_nn 40 rfl (by decide) this
        obtain ⟨g1, e1, c1, c2⟩ := c_begin0 (xs := xs) (L := L) (f := ma_u2 (ma_u2 f (32 + 2 * q) 1 (nI j)) (32 + 2 * q) 2 (nI l)) (l1 := nI j) (l2 := nI l) (a := a) (is_sh_q hq) 40 0 g (by omega) (fun j hj => by omega)
        obtain ⟨a2, e2, k1, k2, k3⟩ := m_zero0 (xs := xs) (L := L) (f := ma_u2 (ma_u2 f (32 + 2 * q) 1 (nI j)) (32 + 2 * q) 2 (nI l)) (g := g1) (l2 := nI j) (l3 := nI l) hq 40 0 (ma_u2 (ma_u2 a 52 q (nI j)) 53 q (nI l)) (by omega) (fun j hj => by omega)
        refine ⟨vI 1, ma_u2 (ma_u2 f (32 + 2 * q) 1 (nI j)) (32 + 2 * q) 2 (nI l), a, g1, ma_u2 (ma_u2 f (32 + 2 * q) 1 (nI j)) (32 + 2 * q) 2 (nI l), a2, g1, ?_, ?_, ?_⟩
        · have eb : ev xs L 9 4 [vR (32 + 2 * q), vI (nI j), vI (nI l)] (mw f a g) = some (none, mw (ma_u2 (ma_u2 f (32 + 2 * q) 1 (nI j)) (32 + 2 * q) 2 (nI l)) a g1) := by
            show rn xs L 9 0 [vR (32 + 2 * q), vI (nI j), vI (nI l), vS 0] [] (mw f a g) = _
            rw [b9_0 _ _ _ _ (is_sh_q hq)]
            exact e1
          show rn xs L 100 0 [vR 0, vI (nI q), vI (nI j), vI (nI l)] [] (mw f a g) = _
          rw [hcs, b100_20, if_neg (nI_nm1 (by omega)), b100_37, if_neg h3, b100_45, if_neg h4, b100_52 _ _ _ hin, hnq, eb]
          simp only [Option.bind_some, Option.toList_none, List.nil_append]
          rw [b100_63]
        · show rn xs L 195 0 [vR 44, vI (nI q), vI (nI j), vI (nI l), vS 0] [] (mw _ a g1) = _
          rw [hms, b195_21, if_neg hsn, b195_25, if_neg h3, b195_33, if_neg hsn, b195_37, if_neg h4, b195_44 _ _ _ _ hin, if_neg hsn, hnq, b195_64 _ _ _ _ _ hin, hnq]
          exact e2
        · refine hs.sht hq (fun p hp => by rw [u2_ne hp, u2_ne hp]) (fun p p1 p2 p3 => by rw [k3 p p3, u2_ne p2, u2_ne p1]) (fun p hp => c2 p hp) (fun k hk => ?_) (fun k hk => ?_) (Or.inr ⟨j, l, hj, hl, ?_, ?_, ?_, ?_, fun i hi => ?_⟩)
          · rw [k3 52 (by decide), k3 53 (by decide), u2_ne (by decide), u2_at, if_neg (fun x => hk x.2), u2_at, if_neg (fun x => hk x.2), u2_ne (by decide)]
            exact ⟨rfl, rfl⟩
          · rw [k2 k hk, u2_ne (by decide), u2_ne (by decide)]
          · rw [u2_at, if_neg (by omega), u2_at, if_pos ⟨rfl, rfl⟩]
          · rw [k3 52 (by decide), u2_ne (by decide), u2_at, if_pos ⟨rfl, rfl⟩]
          · rw [u2_at, if_pos ⟨rfl, rfl⟩]
          · rw [k3 53 (by decide), u2_at, if_pos ⟨rfl, rfl⟩]
          · rw [c1 i hi, k1 i hi]; rfl
theorem op_put {t i v : Int32} : OPS 101 5 196 4 [vI t, vI i, vI v] := by
  intro xs L f a g hs
  by_cases h1 : isw 0 3 t = true
  rotate_left
  · refine ⟨vI (-1), f, a, g, f, a, g, ?_, ?_, hs⟩
    · show rn xs L 101 0 [vR 0, vI t, vI i, vI v, vS 0] [] (mw f a g) = _
      simp [b101_0, b101_6, b101_9, b101_11, b101_24, b101_27, b101_30, b101_42, b101_45, b101_48, b101_60, e_within, h1, bI]
    · show rn xs L 196 0 [vR 44, vI t, vI i, vI v] [] (mw f a g) = _
      simp [b196_0, b196_4, b196_7, b196_9, b196_18, b196_21, b196_36, b196_39, b196_42, b196_61, b196_66, b196_76, b196_81, m_isSheet, h1, bI]
  obtain ⟨q, hq', rfl⟩ := isw_nn 3 rfl (by decide) h1
  have hq : q < 4 := by omega
  have hin : ma_in (nI q) 4 = true := in_of hq (by decide)
  have hnq : (nI q).toNatClampNeg = q := nn_nat (by omega)
  have hsh := is_sh_q hq
  have hms : ∀ (f a : Nat → Nat → Int32) (g : Nat → Nat → Int64), rn xs L 196 0 [vR 44, vI (nI q), vI i, vI v] [] (mw f a g) = rn xs L 196 9 [vR 44, vI (nI q), vI i, vI v] [] (mw f a g) := fun f a g => by
    rw [b196_0, m_isSheet, h1]
    simp only [Option.bind_some, Option.toList_some, List.cons_append, List.nil_append]
    rw [b196_4, if_neg (by decide)]
  have hcs : rn xs L 101 0 [vR 0, vI (nI q), vI i, vI v, vS 0] [] (mw f a g) = rn xs L 101 24 [vR 0, vI (nI q), vI i, vI v, vR (32 + 2 * q)] [vI (bI (decide (f (32 + 2 * q) 1 = -1)))] (mw f a g) := by
    rw [b101_0, e_within, h1]
    simp only [Option.bind_some, Option.toList_some, List.cons_append, List.nil_append]
    rw [b101_6, if_neg (by decide), b101_11 _ _ _ _ hin, hnq, c_missing hsh]
    simp only [Option.bind_some, Option.toList_some, List.cons_append, List.nil_append]
  rcases hs.shts q hq with ⟨d1, d2⟩ | ⟨s, l, hs4, hl, d1, d2, d3, d4, d5⟩
  · refine ⟨vI (-11), f, a, g, f, a, g, ?_, ?_, hs⟩
    · show rn xs L 101 0 [vR 0, vI (nI q), vI i, vI v, vS 0] [] (mw f a g) = _
      rw [hcs, d1, b101_24 _ _ _ _ _ hsh, if_neg (by decide), b101_27 _ _ _ _ hsh]
    · show rn xs L 196 0 [vR 44, vI (nI q), vI i, vI v] [] (mw f a g) = _
      rw [hms, b196_9 _ _ _ hin, hnq, d2, if_pos (by decide), b196_18]
  · have hcs2 : rn xs L 101 0 [vR 0, vI (nI q), vI i, vI v, vS 0] [] (mw f a g) = rn xs L 101 42 [vR 0, vI (nI q), vI i, vI v, vR (32 + 2 * q)] [vI (bI (isw 0 (nI l - 1) i))] (mw f a g) := by
      rw [hcs, d1, decide_eq_false (nI_nm1 (by omega)), b101_24 _ _ _ _ _ hsh, if_pos (by decide), b101_30 _ _ _ _ hsh, d3, e_within]
      simp only [Option.bind_some, Option.toList_some, List.cons_append, List.nil_append]
    have hms2 : rn xs L 196 0 [vR 44, vI (nI q), vI i, vI v] [] (mw f a g) = rn xs L 196 36 [vR 44, vI (nI q), vI i, vI v] [vI (bI (isw 0 (nI l - 1) i))] (mw f a g) := by
      rw [hms, b196_9 _ _ _ hin, hnq, d2, if_neg (nI_pos (by omega)), b196_21 _ _ _ hin, hnq, d4, m_inR]
      simp only [Option.bind_some, Option.toList_some, List.cons_append, List.nil_append]
    by_cases h2 : isw 0 (nI l - 1) i = true
    · obtain ⟨k, hk, rfl⟩ := isw_pred (by omega) h2
      have hink : ma_in (nI k) 40 = true := in_of (by omega) (by decide)
      have e40 : (40 : Int32) * nI q + nI k = nI (40 * q + k) := by rw [show (40 : Int32) = nI 40 from rfl, nn_mul, nn_add]
      have hin4 : ma_in (nI (40 * q + k)) 160 = true := in_of (by omega) (by decide)
      have hn4 : (nI (40 * q + k)).toNatClampNeg = 40 * q + k := nn_nat (by omega)
      refine ⟨vI 1, f, a, ma_u2 g (32 + 2 * q + 1) k (narR s v).toInt64, f, ma_u2 a 54 (40 * q + k) (narR s v), ma_u2 g (32 + 2 * q + 1) k (narR s v).toInt64, ?_, ?_, ?_⟩
      · show rn xs L 101 0 [vR 0, vI (nI q), vI (nI k), vI v, vS 0] [] (mw f a g) = _
        rw [hcs2, h2, b101_42 _ _ _ _ _ hsh, if_neg (by decide), b101_48 _ _ _ _ hsh, c_narrowed hsh hs4 d1]
        simp only [Option.bind_some, Option.toList_some, List.cons_append, List.nil_append]
        rw [b101_60 _ _ _ _ _ _ _ hsh (is_si_q hq) hink, nn_nat (by omega)]
      · have hms3 : ∀ (g : Nat → Nat → Int64), rn xs L 196 0 [vR 44, vI (nI q), vI (nI k), vI v] [] (mw f a g) = rn xs L 196 36 [vR 44, vI (nI q), vI (nI k), vI v] [vI (bI (isw 0 (nI l - 1) (nI k)))] (mw f a g) := fun g => by
          rw [hms, b196_9 _ _ _ hin, hnq, d2, if_neg (nI_pos (by omega)), b196_21 _ _ _ hin, hnq, d4, m_inR]
          simp only [Option.bind_some, Option.toList_some, List.cons_append, List.nil_append]
        show rn xs L 196 0 [vR 44, vI (nI q), vI (nI k), vI v] [] (mw f a _) = _
        rw [hms3, h2, b196_36, if_neg (by decide), b196_42 _ _ _ hin, hnq, d2, e40]
        unfold narR
        by_cases s0 : s = 0
        · rw [if_pos (by rw [s0]; rfl), if_pos s0, b196_61 _ _ _ _ hin4, hn4]
        · rw [if_neg (nI_ne0 (by omega) (by omega)), if_neg s0, b196_66 _ _ _ _ hin, hnq, d2]
          by_cases s1 : s = 1
          · rw [if_pos (by rw [s1]; rfl), if_pos s1, b196_76 _ _ _ _ hin4, hn4]
          · rw [if_neg (by rw [show (1 : Int32) = nI 1 from rfl, nn_eq (by omega) (by omega)]; exact s1), if_neg s1, b196_81 _ _ _ _ hin4, hn4]
      · refine hs.sht hq (fun _ _ => rfl) (fun p _ _ p3 => u2_ne p3) (fun p hp => u2_ne hp) (fun p _ => ⟨by rw [u2_ne (by decide)], by rw [u2_ne (by decide)]⟩) (fun p hp => by rw [u2_at, if_neg (by omega)]) (Or.inr ⟨s, l, hs4, hl, d1, by rw [u2_ne (by decide)]; exact d2, d3, by rw [u2_ne (by decide)]; exact d4, fun p hp => ?_⟩)
        rw [u2_at, u2_at]
        by_cases e : p = k
        · rw [if_pos ⟨rfl, e⟩, if_pos ⟨rfl, by omega⟩]
        · rw [if_neg (fun x => e x.2), if_neg (by omega)]
          exact d5 p hp
    · have hf : isw 0 (nI l - 1) i = false := by simpa using h2
      refine ⟨vI (-12), f, a, g, f, a, g, ?_, ?_, hs⟩
      · show rn xs L 101 0 [vR 0, vI (nI q), vI i, vI v, vS 0] [] (mw f a g) = _
        rw [hcs2, hf, b101_42 _ _ _ _ _ hsh, if_pos (by decide), b101_45 _ _ _ _ hsh]
      · show rn xs L 196 0 [vR 44, vI (nI q), vI i, vI v] [] (mw f a g) = _
        rw [hms2, hf, b196_36, if_pos (by decide), b196_39]
theorem op_item {t s i : Int32} : OPS 102 5 197 4 [vI t, vI s, vI i] := by
  refine OPS.rd (fun xs L f a g hs => ?_)
  by_cases h1 : isw 0 3 t = true
  rotate_left
  · refine ⟨vI (-1), ?_, ?_⟩
    · show rn xs L 102 0 [vR 0, vI t, vI s, vI i, vS 0] [] (mw f a g) = _
      simp [b102_0, b102_6, b102_9, b102_15, b102_18, b102_20, b102_33, b102_36, b102_39, b102_48, b102_51, b102_63, b102_66, b102_69, e_within, h1, bI]
    · show rn xs L 197 0 [vR 44, vI t, vI s, vI i] [] (mw f a g) = _
      simp [b197_0, b197_4, b197_7, b197_16, b197_19, b197_21, b197_27, b197_30, b197_36, b197_37, b197_52, b197_55, b197_69, m_isSheet, h1, bI]
  obtain ⟨q, hq', rfl⟩ := isw_nn 3 rfl (by decide) h1
  have hq : q < 4 := by omega
  have hin : ma_in (nI q) 4 = true := in_of hq (by decide)
  have hnq : (nI q).toNatClampNeg = q := nn_nat (by omega)
  have hsh := is_sh_q hq
  by_cases h2 : isw 0 3 s = true
  rotate_left
  · refine ⟨vI (-1), ?_, ?_⟩
    · show rn xs L 102 0 [vR 0, vI (nI q), vI s, vI i, vS 0] [] (mw f a g) = _
      simp [b102_0, b102_6, b102_9, b102_15, b102_18, b102_20, b102_33, b102_36, b102_39, b102_48, b102_51, b102_63, b102_66, b102_69, e_within, h1, h2, bI]
    · show rn xs L 197 0 [vR 44, vI (nI q), vI s, vI i] [] (mw f a g) = _
      simp [b197_0, b197_4, b197_7, b197_16, b197_19, b197_21, b197_27, b197_30, b197_36, b197_37, b197_52, b197_55, b197_69, m_isSheet, m_in_0_3, h1, h2, bI]
  obtain ⟨j, hj, rfl⟩ := isw_nn 3 rfl (by decide) h2
  have hms : rn xs L 197 0 [vR 44, vI (nI q), vI (nI j), vI i] [] (mw f a g) = rn xs L 197 27 [vR 44, vI (nI q), vI (nI j), vI i] [vI (if a 52 q < 0 then -11 else if a 52 q = nI j then 0 else -13)] (mw f a g) := by
    rw [b197_0, m_isSheet, h1]
    simp only [Option.bind_some, Option.toList_some, List.cons_append, List.nil_append]
    rw [b197_4, if_neg (by decide), b197_7, m_in_0_3, h2]
    simp only [Option.bind_some, Option.toList_some, List.cons_append, List.nil_append]
    rw [b197_16, if_neg (by decide), b197_21, m_lacks hq]
    simp only [Option.bind_some, Option.toList_some, List.cons_append, List.nil_append]
  have hms2 : rn xs L 197 30 [vR 44, vI (nI q), vI (nI j), vI i] [] (mw f a g) = some (some (vI (if a 52 q < 0 then -11 else if a 52 q = nI j then 0 else -13)), mw f a g) := by
    rw [b197_30, m_lacks hq]
    simp only [Option.bind_some, Option.toList_some, List.cons_append, List.nil_append]
    rw [b197_36]
  have hcs : rn xs L 102 0 [vR 0, vI (nI q), vI (nI j), vI i, vS 0] [] (mw f a g) = rn xs L 102 33 [vR 0, vI (nI q), vI (nI j), vI i, vR (32 + 2 * q)] [vI (bI (decide (f (32 + 2 * q) 1 = -1)))] (mw f a g) := by
    rw [b102_0, e_within, h1]
    simp only [Option.bind_some, Option.toList_some, List.cons_append, List.nil_append]
    rw [b102_6, if_neg (by decide), b102_9, e_within, h2]
    simp only [Option.bind_some, Option.toList_some, List.cons_append, List.nil_append]
    rw [b102_15, if_neg (by decide), b102_20 _ _ _ _ hin, hnq, c_missing hsh]
    simp only [Option.bind_some, Option.toList_some, List.cons_append, List.nil_append]
  rcases hs.shts q hq with ⟨d1, d2⟩ | ⟨s, l, hs4, hl, d1, d2, d3, d4, d5⟩
  · rw [d2, if_pos (by decide)] at hms hms2
    refine ⟨vI (-11), ?_, ?_⟩
    · show rn xs L 102 0 [vR 0, vI (nI q), vI (nI j), vI i, vS 0] [] (mw f a g) = _
      rw [hcs, d1, b102_33 _ _ _ _ _ hsh, if_neg (by decide), b102_36 _ _ _ _ hsh]
    · show rn xs L 197 0 [vR 44, vI (nI q), vI (nI j), vI i] [] (mw f a g) = _
      rw [hms, b197_27, if_neg (by decide), hms2]
  · rw [d2, if_neg (nI_pos (by omega))] at hms hms2
    rw [d1, decide_eq_false (nI_nm1 (by omega)), b102_33 _ _ _ _ _ hsh, if_pos (by decide), b102_39 _ _ _ _ hsh, d1] at hcs
    by_cases h3 : nI s = nI j
    · rw [if_pos h3] at hms hms2 hcs
      rw [b102_51 _ _ _ _ hsh, d3, e_within] at hcs
      simp only [Option.bind_some, Option.toList_some, List.cons_append, List.nil_append] at hcs
      rw [b197_27, if_pos rfl, b197_37 _ _ _ hin, hnq, d4, m_inR] at hms
      simp only [Option.bind_some, Option.toList_some, List.cons_append, List.nil_append] at hms
      by_cases h4 : isw 0 (nI l - 1) i = true
      · obtain ⟨k, hk, rfl⟩ := isw_pred (by omega) h4
        have hink : ma_in (nI k) 40 = true := in_of (by omega) (by decide)
        have e40 : (40 : Int32) * nI q + nI k = nI (40 * q + k) := by rw [show (40 : Int32) = nI 40 from rfl, nn_mul, nn_add]
        have hin4 : ma_in (nI (40 * q + k)) 160 = true := in_of (by omega) (by decide)
        have hn4 : (nI (40 * q + k)).toNatClampNeg = 40 * q + k := nn_nat (by omega)
        refine ⟨vI (a 54 (40 * q + k)), ?_, ?_⟩
        · show rn xs L 102 0 [vR 0, vI (nI q), vI (nI j), vI (nI k), vS 0] [] (mw f a g) = _
          rw [hcs, h4, b102_63 _ _ _ _ _ hsh, if_neg (by decide), b102_69 _ _ _ _ hsh hink, nn_nat (by omega), d5 k (by omega), l_back]
        · show rn xs L 197 0 [vR 44, vI (nI q), vI (nI j), vI (nI k)] [] (mw f a g) = _
          rw [hms, h4, b197_52, if_neg (by decide), b197_55 _ _ _ (by rw [e40]; exact hin4), e40, hn4]
      · have hf : isw 0 (nI l - 1) i = false := by simpa using h4
        refine ⟨vI (-12), ?_, ?_⟩
        · show rn xs L 102 0 [vR 0, vI (nI q), vI (nI j), vI i, vS 0] [] (mw f a g) = _
          rw [hcs, hf, b102_63 _ _ _ _ _ hsh, if_pos (by decide), b102_66 _ _ _ _ hsh]
        · show rn xs L 197 0 [vR 44, vI (nI q), vI (nI j), vI i] [] (mw f a g) = _
          rw [hms, hf, b197_52, if_pos (by decide), b197_69]
    · rw [if_neg h3] at hms hms2 hcs
      refine ⟨vI (-13), ?_, ?_⟩
      · show rn xs L 102 0 [vR 0, vI (nI q), vI (nI j), vI i, vS 0] [] (mw f a g) = _
        rw [hcs, b102_48 _ _ _ _ hsh]
      · show rn xs L 197 0 [vR 44, vI (nI q), vI (nI j), vI i] [] (mw f a g) = _
        rw [hms, b197_27, if_neg (by decide), hms2]
