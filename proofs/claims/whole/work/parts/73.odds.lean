/-! ===== odds, hope ===== -/
theorem lc_eq {x y : Int64} : (lg_cmp x y = 0) ↔ x = y := by
  unfold lg_cmp
  by_cases h : x > y
  · rw [if_pos h]
    refine ⟨fun q => absurd q (by decide), fun q => ?_⟩
    subst q
    exact absurd h (Int64.lt_irrefl)
  · rw [if_neg h]
    by_cases h2 : x = y
    · rw [if_pos h2]; exact ⟨fun _ => h2, fun _ => rfl⟩
    · rw [if_neg h2]; exact ⟨fun q => absurd q (by decide), fun q => absurd q h2⟩
def gP : Nat → Nat × Nat
  | 0 => (1, 2)
  | r + 1 => ((gP r).2, (gP r).1 + (gP r).2)
def ends : Nat → Nat → Nat → Prop
  | 0, _, b => b = 0
  | r + 1, a, b => b = 0 ∨ ends r b (a % b)
theorem ends_up : ∀ (r a b : Nat), ends r a b → ends (r + 1) a b
  | 0, a, b, h => Or.inl h
  | r + 1, a, b, h => by
    rcases h with h | h
    · exact Or.inl h
    · exact Or.inr (ends_up r _ _ h)
theorem gP_succ (r : Nat) : (gP (r + 1)).1 = (gP r).2 := rfl
theorem gP_two (r : Nat) : (gP (r + 2)).1 = (gP r).1 + (gP (r + 1)).1 := rfl
theorem ends_gP : ∀ (r a b : Nat), (b ≤ a → a < (gP r).1 → ends r a b) ∧ (b ≤ a → a < (gP (r + 1)).1 → ends (r + 1) a b)
  | 0, a, b => by
    refine ⟨fun h1 h2 => ?_, fun h1 h2 => ?_⟩
    · have : (gP 0).1 = 1 := rfl
      show b = 0
      omega
    · have : (gP (0 + 1)).1 = 2 := rfl
      by_cases h : b = 0
      · exact Or.inl h
      · refine Or.inr ?_
        show a % b = 0
        have e1 : a = 1 := by omega
        have e2 : b = 1 := by omega
        subst e1; subst e2; rfl
  | r + 1, a, b => by
    refine ⟨fun h1 h2 => (ends_gP r a b).2 h1 h2, fun h1 h2 => ?_⟩
    have h3 := gP_two r
    by_cases h : b = 0
    · exact Or.inl h
    · have hm : a % b < b := Nat.mod_lt _ (by omega)
      have hd := Nat.div_add_mod a b
      have hq : 1 ≤ a / b := (Nat.one_le_div_iff (by omega)).mpr h1
      have hb : b ≤ b * (a / b) := Nat.le_mul_of_pos_right b hq
      refine Or.inr ?_
      by_cases h4 : b < (gP (r + 1)).1
      · exact (ends_gP r b (a % b)).2 (by omega) h4
      · have h5 : a % b < (gP r).1 := by
          have : (gP (r + 1 + 1)).1 = (gP (r + 2)).1 := rfl
          omega
        by_cases h6 : a % b = 0
        · exact Or.inl h6
        · refine Or.inr ?_
          have hm2 : b % (a % b) < a % b := Nat.mod_lt _ (by omega)
          exact (ends_gP r (a % b) (b % (a % b))).1 (by omega) h5
theorem gP_99 : 2 ^ 63 ≤ (gP 99).1 := by decide +kernel
theorem ends_100 {a b : Nat} (ha : a < 2 ^ 63) (hb : b < 2 ^ 63) : ends 100 a b := by
  have h99 := gP_99
  by_cases h : b = 0
  · exact Or.inl h
  · have hm : a % b < b := Nat.mod_lt _ (by omega)
    exact Or.inr ((ends_gP 99 b (a % b)).1 (by omega) (by omega))
def prtN (A B : Nat) (part : Int32) : Int64 := if part = 0 then lN (A / Nat.gcd A B) else lN (B / Nat.gcd A B)
section S73
variable {xs : Nat → Int32} {L : Nat} {f a : Nat → Nat → Int32} {g : Nat → Nat → Int64}
theorem c_part0 {l0 l2 : Int64} {p : Int32} : ∀ (r x y i : Nat) (l10 l11 : ma_V), i + r = 100 → x < 2 ^ 63 → y < 2 ^ 63 → ends r x y → ∃ q k10 k11, rn xs L 91 9 [vL l0, vS 0, vL l2, vS 0, vI p, vL (lN x), vS 0, vL (lN y), vS 0, vI (nI i), l10, l11] [] (mw f a g) = rn xs L 91 44 [vL l0, vS 0, vL l2, vS 0, vI p, vL (lN (Nat.gcd y x)), vS 0, vL (lN 0), vS 0, vI q, k10, k11] [] (mw f a g)
  | 0, x, y, i, l10, l11, hi, hx, hy, he => by
    have e : i = 100 := by omega
    subst e
    have he2 : y = 0 := he
    subst he2
    refine ⟨nI 100, l10, l11, ?_⟩
    rw [b91_9, if_neg (by decide), Nat.gcd_zero_left]
  | r + 1, x, y, i, l10, l11, hi, hx, hy, he => by
    have hlt : nI i < (100 : Int32) := by rw [show (100 : Int32) = nI 100 from rfl, nn_lt (by omega) (by omega)]; omega
    by_cases h : y = 0
    · subst h
      refine ⟨nI i, l10, l11, ?_⟩
      rw [b91_9, if_pos hlt, b91_16, if_pos (show lg_cmp (lN 0) 0 = 0 from lc_eq.mpr rfl), Nat.gcd_zero_left]
    · have hy0 : ¬ lN y = 0 := by
        rw [show (0 : Int64) = lN 0 from rfl, pk_lEQ hy (by decide)]
        exact h
      have hm : x % y < y := Nat.mod_lt _ (by omega)
      have he2 : ends r y (x % y) := by
        rcases he with h2 | h2
        · exact absurd h2 h
        · exact h2
      obtain ⟨q, k10, k11, e3⟩ := c_part0 (l0 := l0) (l2 := l2) (p := p) r y (x % y) (i + 1) (vL (lN (x % y))) (vS 0) (by omega) hy (by omega) he2
      refine ⟨q, k10, k11, ?_⟩
      rw [b91_9, if_pos hlt, b91_16, if_neg (fun q => hy0 (lc_eq.mp q)), b91_23 _ _ _ _ _ _ _ _ hy0, pk_lRem hx (by omega) hy, nn_add1, e3, Nat.gcd_rec y x]
theorem m_part0 {l0 l2 : Int64} {p : Int32} : ∀ (r x y : Nat) (l9 l10 : ma_V), x < 2 ^ 63 → y < 2 ^ 63 → ends r x y → ∃ k9 k10, rn xs L 188 6 [vL l0, vS 0, vL l2, vS 0, vI p, vL (lN x), vS 0, vL (lN y), vS 0, l9, l10] [] (mw f a g) = rn xs L 188 31 [vL l0, vS 0, vL l2, vS 0, vI p, vL (lN (Nat.gcd y x)), vS 0, vL (lN 0), vS 0, k9, k10] [] (mw f a g)
  | 0, x, y, l9, l10, hx, hy, he => by
    have he2 : y = 0 := he
    subst he2
    refine ⟨l9, l10, ?_⟩
    rw [b188_6, if_pos (show lg_cmp (lN 0) 0 = 0 from lc_eq.mpr rfl), Nat.gcd_zero_left]
  | r + 1, x, y, l9, l10, hx, hy, he => by
    by_cases h : y = 0
    · subst h
      refine ⟨l9, l10, ?_⟩
      rw [b188_6, if_pos (show lg_cmp (lN 0) 0 = 0 from lc_eq.mpr rfl), Nat.gcd_zero_left]
    · have hy0 : ¬ lN y = 0 := by
        rw [show (0 : Int64) = lN 0 from rfl, pk_lEQ hy (by decide)]
        exact h
      have hm : x % y < y := Nat.mod_lt _ (by omega)
      have he2 : ends r y (x % y) := by
        rcases he with h2 | h2
        · exact absurd h2 h
        · exact h2
      obtain ⟨k9, k10, e3⟩ := m_part0 (l0 := l0) (l2 := l2) (p := p) r y (x % y) (vL (lN (x % y))) (vS 0) hy (by omega) he2
      refine ⟨k9, k10, ?_⟩
      rw [b188_6, if_neg (fun q => hy0 (lc_eq.mp q)), b188_13 _ _ _ _ _ _ _ hy0, pk_lRem hx (by omega) hy, e3, Nat.gcd_rec y x]
theorem c_part {A B : Nat} {p : Int32} (hA : A < 2 ^ 63) (hB : B < 2 ^ 63) (h0 : 0 < B) : ev xs L 91 12 [vL (lN A), vL (lN B), vI p] (mw f a g) = some (some (vL (prtN A B p)), mw f a g) := by
  have hg0 : 0 < Nat.gcd A B := Nat.gcd_pos_of_pos_right A h0
  have hgB : Nat.gcd A B ≤ B := Nat.gcd_le_right A h0
  have hn0 : ¬ lN (Nat.gcd A B) = 0 := by
    rw [show (0 : Int64) = lN 0 from rfl, pk_lEQ (by omega) (by decide)]
    omega
  have hgt : 0 < lg_cmp (lN (Nat.gcd A B)) 0 := by
    rw [lc_gt, show (0 : Int64) = lN 0 from rfl, pk_lLT (by decide) (by omega)]
    exact hg0
  obtain ⟨q, k10, k11, e3⟩ := c_part0 (xs := xs) (L := L) (f := f) (a := a) (g := g) (l0 := lN A) (l2 := lN B) (p := p) 100 B A 0 (vS 0) (vS 0) (by omega) hB hA (ends_100 hB hA)
  show rn xs L 91 0 [vL (lN A), vS 0, vL (lN B), vS 0, vI p, vS 0, vS 0, vS 0, vS 0, vS 0, vS 0, vS 0] [] (mw f a g) = _
  rw [b91_0, show vI (0 : Int32) = vI (nI 0) from rfl, e3, b91_44, if_pos hgt, b91_55]
  unfold prtN
  by_cases h : p = 0
  · rw [if_pos h, if_pos h, b91_60 _ _ _ _ _ _ _ _ hn0, pk_lDiv hA hg0 (by omega)]
  · rw [if_neg h, if_neg h, b91_67 _ _ _ _ _ _ _ _ hn0, pk_lDiv hB hg0 (by omega)]
theorem m_part {A B : Nat} {p : Int32} (hA : A < 2 ^ 63) (hB : B < 2 ^ 63) (h0 : 0 < B) : ev xs L 188 11 [vL (lN A), vL (lN B), vI p] (mw f a g) = some (some (vL (prtN A B p)), mw f a g) := by
  have hg0 : 0 < Nat.gcd A B := Nat.gcd_pos_of_pos_right A h0
  have hgB : Nat.gcd A B ≤ B := Nat.gcd_le_right A h0
  have hn0 : ¬ lN (Nat.gcd A B) = 0 := by
    rw [show (0 : Int64) = lN 0 from rfl, pk_lEQ (by omega) (by decide)]
    omega
  obtain ⟨k9, k10, e3⟩ := m_part0 (xs := xs) (L := L) (f := f) (a := a) (g := g) (l0 := lN A) (l2 := lN B) (p := p) 100 B A (vS 0) (vS 0) hB hA (ends_100 hB hA)
  show rn xs L 188 0 [vL (lN A), vS 0, vL (lN B), vS 0, vI p, vS 0, vS 0, vS 0, vS 0, vS 0, vS 0] [] (mw f a g) = _
  rw [b188_0, e3, b188_31]
  unfold prtN
  by_cases h : p = 0
  · rw [if_pos h, if_pos h, b188_36 _ _ _ _ _ _ _ hn0, pk_lDiv hA hg0 (by omega)]
  · rw [if_neg h, if_neg h, b188_43 _ _ _ _ _ _ _ hn0, pk_lDiv hB hg0 (by omega)]
end S73
theorem op_hope {v p : Int32} : TOP 92 3 189 3 [vI v, vI p] := by
  refine TOP.rd (fun xs L S n W => ?_)
  obtain ⟨u, hu, hgale⟩ := W.gale
  by_cases h : isw 0 99 v = true
  · obtain ⟨k, hk, rfl⟩ := isw_nn 99 rfl (by decide) h
    have hku : k * u ≤ 99 * 99 := Nat.mul_le_mul hk hu
    have hv : (nI k).toInt64 * (S 7).toInt64 = lN (k * u) := by rw [hgale, nI_l (by omega), nI_l (by omega), lN_mul]
    by_cases h2 : isw 0 1 p = true
    · refine ⟨vL (prtN (k * u) 100 p), fun f a g hT => ?_, fun f a g hM => ?_⟩
      · have hl := hT.L.law 3 (by decide)
        show rn xs L 92 0 [vR 0, vI (nI k), vI p] [] (mw f a g) = _
        rw [b92_0, e_within, h]
        simp only [Option.bind_some, Option.toList_some, List.cons_append, List.nil_append]
        rw [b92_7, if_neg (by decide), b92_10, e_within, h2]
        simp only [Option.bind_some, Option.toList_some, List.cons_append, List.nil_append]
        rw [b92_16, if_neg (by decide), b92_23, hl, show S (4 + 3) = S 7 from rfl, hv, show (100 : Int64) = lN 100 from rfl, c_part (by omega) (by decide) (by decide)]
        simp only [Option.bind_some, Option.toList_some, List.cons_append, List.nil_append]
        rw [b92_43]
      · have hl := hM 7 (by decide)
        show rn xs L 189 0 [vR 44, vI (nI k), vI p] [] (mw f a g) = _
        rw [b189_0, m_in_0_99, h]
        simp only [Option.bind_some, Option.toList_some, List.cons_append, List.nil_append]
        rw [b189_9, if_neg (by decide), b189_12, m_in_0_1, h2]
        simp only [Option.bind_some, Option.toList_some, List.cons_append, List.nil_append]
        rw [b189_19, if_neg (by decide), b189_22, hl, hv, show (100 : Int64) = lN 100 from rfl, m_part (by omega) (by decide) (by decide)]
        simp only [Option.bind_some, Option.toList_some, List.cons_append, List.nil_append]
        rw [b189_40]
    · refine ⟨vL (-1), fun f a g hT => ?_, fun f a g hM => ?_⟩
      · show rn xs L 92 0 [vR 0, vI (nI k), vI p] [] (mw f a g) = _
        simp [b92_0, b92_7, b92_10, b92_16, b92_19, b92_43, e_within, h, h2, bI]
      · show rn xs L 189 0 [vR 44, vI (nI k), vI p] [] (mw f a g) = _
        simp [b189_0, b189_9, b189_12, b189_19, b189_40, b189_43, m_in_0_99, m_in_0_1, h, h2, bI]
  · refine ⟨vL (-1), fun f a g hT => ?_, fun f a g hM => ?_⟩
    · show rn xs L 92 0 [vR 0, vI v, vI p] [] (mw f a g) = _
      simp [b92_0, b92_7, b92_10, b92_16, b92_19, b92_43, e_within, h, bI]
    · show rn xs L 189 0 [vR 44, vI v, vI p] [] (mw f a g) = _
      simp [b189_0, b189_9, b189_12, b189_19, b189_40, b189_43, m_in_0_99, h, bI]
/-! ways -/
def wayR (n k : Nat) : Nat → Nat → Int64 → Int64
  | 0, _, w => w
  | r + 1, i, w => wayR n k r (i + 1) ((w * (nI n - nI k + nI i).toInt64) / (nI i).toInt64)
def proR : Nat → Nat → Int64 → Int64
  | 0, _, v => v
  | r + 1, i, v => proR r (i + 1) (v * (nI i).toInt64)
def choN : Nat → Nat → Nat
  | _, 0 => 1
  | 0, _ + 1 => 0
  | n + 1, k + 1 => choN n k + choN n (k + 1)
theorem way_all : ∀ n, n < 9 → ∀ k, k < 9 → k ≤ n → wayR n k k 1 1 = lN (choN n k) ∧ proR (n - 1) 2 1 / proR (k - 1) 2 1 / proR (n - k - 1) 2 1 = lN (choN n k) ∧ choN n k ≤ 70 ∧ ¬ proR (k - 1) 2 1 = 0 ∧ ¬ proR (n - k - 1) 2 1 = 0 := by decide +kernel
section S73b
variable {xs : Nat → Int32} {L : Nat} {f a : Nat → Nat → Int32} {g : Nat → Nat → Int64}
theorem c_ways0 {n k : Nat} (hn : n < 9) (hk : k ≤ n) : ∀ (r i : Nat) (w : Int64), i + r = k + 1 → 1 ≤ i → rn xs L 90 5 [vI (nI n), vI (nI k), vL w, vS 0, vI (nI i)] [] (mw f a g) = some (some (vL (wayR n k r i w)), mw f a g)
  | 0, i, w, hi, h1 => by
    rw [b90_5, if_pos (by rw [nn_lt (by omega) (by omega)]; omega), b90_31]
    rfl
  | r + 1, i, w, hi, h1 => by
    have hi0 : ¬ (nI i).toInt64 = 0 := by
      rw [nI_l (by omega), show (0 : Int64) = lN 0 from rfl, pk_lEQ (by omega) (by decide)]
      omega
    rw [b90_5, if_neg (by rw [nn_lt (by omega) (by omega)]; omega), b90_11 _ _ _ _ hi0, nn_add1, c_ways0 hn hk r (i + 1) _ (by omega) (by omega)]
    rfl
theorem c_ways {n k : Nat} (hn : n < 9) (hk : k ≤ n) : ev xs L 90 5 [vI (nI n), vI (nI k)] (mw f a g) = some (some (vL (lN (choN n k))), mw f a g) := by
  show rn xs L 90 0 [vI (nI n), vI (nI k), vS 0, vS 0, vS 0] [] (mw f a g) = _
  rw [b90_0, show vI (1 : Int32) = vI (nI 1) from rfl, c_ways0 hn hk k 1 1 (by omega) (by omega), (way_all n hn k (by omega) hk).1]
theorem m_prod0 {m : Nat} (hm : m < 9) : ∀ (r i : Nat) (v : Int64), 2 ≤ i → (i + r = m + 1 ∨ (r = 0 ∧ i = 2 ∧ m < 2)) → rn xs L 187 4 [vI (nI m), vL v, vS 0, vI (nI i)] [] (mw f a g) = some (some (vL (proR r i v)), mw f a g)
  | 0, i, v, h2, hi => by
    rw [b187_4, if_pos (by rw [nn_lt (by omega) (by omega)]; omega), b187_20]
    rfl
  | r + 1, i, v, h2, hi => by
    rw [b187_4, if_neg (by rw [nn_lt (by omega) (by omega)]; omega), b187_9, nn_add1, m_prod0 hm r (i + 1) _ (by omega) (by omega)]
    rfl
theorem m_prod {m : Nat} (hm : m < 9) : ev xs L 187 4 [vI (nI m)] (mw f a g) = some (some (vL (proR (m - 1) 2 1)), mw f a g) := by
  show rn xs L 187 0 [vI (nI m), vS 0, vS 0, vS 0] [] (mw f a g) = _
  rw [b187_0, show vI (2 : Int32) = vI (nI 2) from rfl, m_prod0 hm (m - 1) 2 1 (by omega) (by omega)]
def aboN (w u k : Nat) : Nat → Nat
  | 0 => w
  | i + 1 => aboN w u k i * (if i < k then u else 100 - u)
theorem aboN_le {w u k : Nat} (hu : u ≤ 100) : ∀ i, aboN w u k i ≤ w * 100 ^ i
  | 0 => by rw [Nat.pow_zero, Nat.mul_one]; exact Nat.le_refl _
  | i + 1 => by
    have ih := aboN_le (w := w) (k := k) hu i
    show aboN w u k i * (if i < k then u else 100 - u) ≤ _
    rw [Nat.pow_succ, ← Nat.mul_assoc]
    exact Nat.mul_le_mul ih (by split <;> omega)
theorem c_odds0 {n k u w : Nat} {p : Int32} (hn : n < 9) (hk : k ≤ n) (hu : u ≤ 99) : ∀ (r i : Nat), i + r = n → rn xs L 89 57 [vR 0, vI (nI n), vI (nI k), vI p, vL (lN u), vS 0, vL (lN (aboN w u k i)), vS 0, vL (lN (100 ^ i)), vS 0, vI (nI i)] [] (mw f a g) = rn xs L 89 99 [vR 0, vI (nI n), vI (nI k), vI p, vL (lN u), vS 0, vL (lN (aboN w u k n)), vS 0, vL (lN (100 ^ n)), vS 0, vI (nI n)] [] (mw f a g)
  | 0, i, hi => by
    have e : i = n := by omega
    subst e
    rw [b89_57, if_neg (by rw [nn_lt (by omega) (by omega)]; omega)]
  | r + 1, i, hi => by
    have e3 := c_odds0 (w := w) (p := p) hn hk hu r (i + 1) (by omega)
    have h100 : lN (100 ^ i) * (100 : Int64) = lN (100 ^ (i + 1)) := by rw [show (100 : Int64) = lN 100 from rfl, lN_mul, Nat.pow_succ]
    rw [b89_57, if_pos (by rw [nn_lt (by omega) (by omega)]; omega), b89_63]
    by_cases h : i < k
    · have ha : lN (aboN w u k i) * lN u = lN (aboN w u k (i + 1)) := by
        rw [lN_mul, show aboN w u k (i + 1) = aboN w u k i * (if i < k then u else 100 - u) from rfl, if_pos h]
      rw [if_pos (by rw [nn_lt (by omega) (by omega)]; exact h), b89_71, ha, h100, nn_add1]
      exact e3
    · have ha : lN (aboN w u k i) * ((100 : Int64) - lN u) = lN (aboN w u k (i + 1)) := by
        rw [show (100 : Int64) = lN 100 from rfl, lN_sub (by omega), lN_mul, show aboN w u k (i + 1) = aboN w u k i * (if i < k then u else 100 - u) from rfl, if_neg h]
      rw [if_neg (by rw [nn_lt (by omega) (by omega)]; exact h), b89_76, ha, h100, nn_add1]
      exact e3
theorem m_odds0 {n k u w : Nat} {p : Int32} (hn : n < 9) (hk : k ≤ n) (hu : u ≤ 99) (hg : a 45 7 = nI u) : ∀ (r i : Nat), i + r = n → rn xs L 186 61 [vR 44, vI (nI n), vI (nI k), vI p, vL (lN (aboN w u k i)), vS 0, vL (lN (100 ^ i)), vS 0, vI (nI i)] [] (mw f a g) = rn xs L 186 114 [vR 44, vI (nI n), vI (nI k), vI p, vL (lN (aboN w u k n)), vS 0, vL (lN (100 ^ n)), vS 0, vI (nI n)] [] (mw f a g)
  | 0, i, hi => by
    have e : i = n := by omega
    subst e
    rw [b186_61, if_neg (by rw [nn_lt (by omega) (by omega)]; omega)]
  | r + 1, i, hi => by
    have e3 := m_odds0 (w := w) (p := p) hn hk hu hg r (i + 1) (by omega)
    have h100 : lN (100 ^ i) * (100 : Int64) = lN (100 ^ (i + 1)) := by rw [show (100 : Int64) = lN 100 from rfl, lN_mul, Nat.pow_succ]
    rw [b186_61, if_pos (by rw [nn_lt (by omega) (by omega)]; omega), b186_67]
    by_cases h : i < k
    · have ha : lN (aboN w u k i) * (nI u).toInt64 = lN (aboN w u k (i + 1)) := by
        rw [nI_l (by omega), lN_mul, show aboN w u k (i + 1) = aboN w u k i * (if i < k then u else 100 - u) from rfl, if_pos h]
      rw [if_pos (by rw [nn_lt (by omega) (by omega)]; exact h), b186_75, hg, ha, h100, nn_add1]
      exact e3
    · have ha : lN (aboN w u k i) * ((100 : Int32) - nI u).toInt64 = lN (aboN w u k (i + 1)) := by
        rw [show (100 : Int32) = nI 100 from rfl, pk_sub (by omega), nI_l (by omega), lN_mul, show aboN w u k (i + 1) = aboN w u k i * (if i < k then u else 100 - u) from rfl, if_neg h]
      rw [if_neg (by rw [nn_lt (by omega) (by omega)]; exact h), b186_86, hg, ha, h100, nn_add1]
      exact e3
end S73b
theorem op_odds {v q p : Int32} : TOP 89 11 186 9 [vI v, vI q, vI p] := by
  refine TOP.rd (fun xs L S n W => ?_)
  obtain ⟨u, hu, hgale⟩ := W.gale
  by_cases h : isw 0 8 v = true
  · obtain ⟨m, hm, rfl⟩ := isw_nn 8 rfl (by decide) h
    have hin : ∀ (f a : Nat → Nat → Int32) (g : Nat → Nat → Int64), ev xs L 115 6 [vL q.toInt64, vL (0 : Int64), vL (nI m).toInt64] (mw f a g) = some (some (vI (bI (isw 0 (nI m) q))), mw f a g) := fun f a g => e_isIn.trans (by rw [isl_w (lo := 0) (hi := nI m) (by decide) rfl])
    by_cases h2 : isw 0 (nI m) q = true
    · obtain ⟨k, hk, rfl⟩ := isw_nn m rfl (by omega) h2
      by_cases h3 : isw 0 1 p = true
      · obtain ⟨w1, w2, w3, w4, w5⟩ := way_all m (by omega) k (by omega) hk
        have hB : 100 ^ m ≤ 100 ^ 8 := Nat.pow_le_pow_right (by decide) hm
        have hA := aboN_le (w := choN m k) (u := u) (k := k) (by omega) m
        have hA2 : choN m k * 100 ^ m ≤ 70 * 100 ^ 8 := Nat.mul_le_mul w3 hB
        have hx : (70 : Nat) * 100 ^ 8 < 2 ^ 63 := by decide
        have hy : (100 : Nat) ^ 8 < 2 ^ 63 := by decide
        have hz : 0 < 100 ^ m := Nat.pow_pos (by decide)
        refine ⟨vL (prtN (aboN (choN m k) u k m) (100 ^ m) p), fun f a g hT => ?_, fun f a g hM => ?_⟩
        · have hl := hT.L.law 3 (by decide)
          show rn xs L 89 0 [vR 0, vI (nI m), vI (nI k), vI p, vS 0, vS 0, vS 0, vS 0, vS 0, vS 0, vS 0] [] (mw f a g) = _
          rw [b89_0, e_within, h]
          simp only [Option.bind_some, Option.toList_some, List.cons_append, List.nil_append]
          rw [b89_7, if_neg (by decide), b89_10, e_within, h2]
          simp only [Option.bind_some, Option.toList_some, List.cons_append, List.nil_append]
          rw [b89_16, if_neg (by decide), b89_19, e_within, h3]
          simp only [Option.bind_some, Option.toList_some, List.cons_append, List.nil_append]
          rw [b89_25, if_neg (by decide), b89_32, hl, show S (4 + 3) = S 7 from rfl, hgale, nI_l (by omega), c_ways (by omega) hk]
          simp only [Option.bind_some, Option.toList_some, List.cons_append, List.nil_append]
          rw [b89_49, show vI (0 : Int32) = vI (nI 0) from rfl]
          have e3 := c_odds0 (xs := xs) (L := L) (f := f) (a := a) (g := g) (w := choN m k) (p := p) (show m < 9 by omega) hk hu m 0 (by omega)
          rw [show aboN (choN m k) u k 0 = choN m k from rfl, show lN (100 ^ 0) = (1 : Int64) from rfl] at e3
          rw [e3, b89_99, c_part (by omega) (by omega) hz]
          simp only [Option.bind_some, Option.toList_some, List.cons_append, List.nil_append]
          rw [b89_107]
        · have hl := (hM 7 (by decide)).trans hgale
          show rn xs L 186 0 [vR 44, vI (nI m), vI (nI k), vI p, vS 0, vS 0, vS 0, vS 0, vS 0] [] (mw f a g) = _
          have hi8 : ev xs L 115 6 [vL (nI m).toInt64, vL (0 : Int64), vL (8 : Int64)] (mw f a g) = some (some (vI (bI (isw 0 8 (nI m)))), mw f a g) := m_in_0_8
          rw [b186_0, hi8, h]
          simp only [Option.bind_some, Option.toList_some, List.cons_append, List.nil_append]
          rw [b186_9, if_neg (by decide), b186_12, hin, h2]
          simp only [Option.bind_some, Option.toList_some, List.cons_append, List.nil_append]
          rw [b186_20, if_neg (by decide), b186_23, m_in_0_1, h3]
          simp only [Option.bind_some, Option.toList_some, List.cons_append, List.nil_append]
          rw [b186_30, if_neg (by decide), b186_37, m_prod (by omega)]
          simp only [Option.bind_some, Option.toList_some, List.cons_append, List.nil_append]
          rw [b186_41, m_prod (by omega)]
          simp only [Option.bind_some, Option.toList_some, List.cons_append, List.nil_append]
          rw [b186_45 _ _ _ _ _ _ _ _ _ _ w4, pk_sub hk, m_prod (by omega)]
          simp only [Option.bind_some, Option.toList_some, List.cons_append, List.nil_append]
          rw [b186_52 _ _ _ _ _ _ _ _ _ _ w5, w2, show vI (0 : Int32) = vI (nI 0) from rfl]
          have e3 := m_odds0 (xs := xs) (L := L) (f := f) (a := a) (g := g) (w := choN m k) (p := p) (show m < 9 by omega) hk hu hl m 0 (by omega)
          rw [show aboN (choN m k) u k 0 = choN m k from rfl, show lN (100 ^ 0) = (1 : Int64) from rfl] at e3
          rw [e3, b186_114, m_part (by omega) (by omega) hz]
          simp only [Option.bind_some, Option.toList_some, List.cons_append, List.nil_append]
          rw [b186_122]
      · refine ⟨vL (-1), fun f a g hT => ?_, fun f a g hM => ?_⟩
        · show rn xs L 89 0 [vR 0, vI (nI m), vI (nI k), vI p, vS 0, vS 0, vS 0, vS 0, vS 0, vS 0, vS 0] [] (mw f a g) = _
          simp [b89_0, b89_7, b89_10, b89_16, b89_19, b89_25, b89_28, b89_49, b89_63, b89_71, b89_76, b89_99, b89_107, e_within, h, h2, h3, bI]
        · show rn xs L 186 0 [vR 44, vI (nI m), vI (nI k), vI p, vS 0, vS 0, vS 0, vS 0, vS 0] [] (mw f a g) = _
          simp [b186_0, b186_9, b186_12, b186_20, b186_23, b186_30, b186_33, b186_41, b186_45, b186_52, b186_67, b186_75, b186_86, b186_114, b186_122, m_in_0_8, hin, m_in_0_1, h, h2, h3, bI]
    · refine ⟨vL (-1), fun f a g hT => ?_, fun f a g hM => ?_⟩
      · show rn xs L 89 0 [vR 0, vI (nI m), vI q, vI p, vS 0, vS 0, vS 0, vS 0, vS 0, vS 0, vS 0] [] (mw f a g) = _
        simp [b89_0, b89_7, b89_10, b89_16, b89_19, b89_25, b89_28, b89_49, b89_63, b89_71, b89_76, b89_99, b89_107, e_within, h, h2, bI]
      · show rn xs L 186 0 [vR 44, vI (nI m), vI q, vI p, vS 0, vS 0, vS 0, vS 0, vS 0] [] (mw f a g) = _
        simp [b186_0, b186_9, b186_12, b186_20, b186_23, b186_30, b186_33, b186_41, b186_45, b186_52, b186_67, b186_75, b186_86, b186_114, b186_122, m_in_0_8, hin, h, h2, bI]
  · refine ⟨vL (-1), fun f a g hT => ?_, fun f a g hM => ?_⟩
    · show rn xs L 89 0 [vR 0, vI v, vI q, vI p, vS 0, vS 0, vS 0, vS 0, vS 0, vS 0, vS 0] [] (mw f a g) = _
      simp [b89_0, b89_7, b89_10, b89_16, b89_19, b89_25, b89_28, b89_49, b89_63, b89_71, b89_76, b89_99, b89_107, e_within, h, bI]
    · show rn xs L 186 0 [vR 44, vI v, vI q, vI p, vS 0, vS 0, vS 0, vS 0, vS 0] [] (mw f a g) = _
      simp [b186_0, b186_9, b186_12, b186_20, b186_23, b186_30, b186_33, b186_41, b186_45, b186_52, b186_67, b186_75, b186_86, b186_114, b186_122, m_in_0_8, h, bI]
