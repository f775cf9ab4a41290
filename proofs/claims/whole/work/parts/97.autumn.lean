/-! ===== autumn: a text read into a tree ===== -/
def rdR (B : Nat → Nat) (l : Nat) : Nat → Nat → Row → Nat → (Row × Nat) ⊕ Nat
  | 0, p, _, _ => Sum.inr p
  | r + 1, p, S, n => if sgm B l p = 0 then Sum.inl (S, n) else match itR B l p S n with
    | Sum.inl (S', n', q) => rdR B l r q S' n'
    | Sum.inr x => Sum.inr x
def baseR (z : Int32) : Row := fun j => if j = 2 then z else if j = 4 then 2 else if j = 5 then 1 else if j = 6 then 1 else if j = 7 then 20 else if 8 ≤ j ∧ j < 14 then 1 else 0
theorem baseR_lo {z : Int32} {j : Nat} (h : 14 ≤ j) : baseR z j = 0 := by
  unfold baseR
  rw [if_neg (by omega), if_neg (by omega), if_neg (by omega), if_neg (by omega), if_neg (by omega), if_neg (by omega)]
theorem baseR_sw {z : Int32} {j : Nat} (h : 8 ≤ j ∧ j < 14) : baseR z j = 1 := by
  unfold baseR
  rw [if_neg (by omega), if_neg (by omega), if_neg (by omega), if_neg (by omega), if_neg (by omega), if_pos h]
theorem Zt.base {z : Int32} : Zt (baseR z) 0 := fun j h1 _ => baseR_lo (by omega)
theorem WF.base {z : Int32} : WF (baseR z) 0 := by
  refine WF.mk (by omega) rfl (fun k hk => ?_) ⟨20, by omega, rfl⟩ (fun i hi => absurd hi (by omega)) (fun i hi => absurd hi (by omega)) (fun i hi => absurd hi (by omega)) (fun i hi => absurd hi (by omega)) (fun i hi => absurd hi (by omega)) ⟨0, rfl, rfl⟩ (fun i hi => absurd hi (by omega)) (fun i j hi => absurd hi (by omega)) (fun k hk => absurd hk (by omega))
  by_cases k0 : k = 0
  · exact ⟨2, by omega, by subst k0; rfl⟩
  · by_cases k1 : k = 1
    · exact ⟨1, by omega, by subst k1; rfl⟩
    · exact ⟨1, by omega, by rw [show k = 2 by omega]; rfl⟩
section S97
variable {xs : Nat → Int32} {L : Nat} {g : Nat → Nat → Int64} {B : Nat → Nat} {l : Nat}
theorem c_clear0 {f : Nat → Nat → Int32} : ∀ (r i : Nat) (a : Nat → Nat → Int32), i + r = 6 → ∃ a', rn xs L 31 31 [vR 9, vI (nI i)] [] (mw f a g) = some (none, mw (ma_u2 (ma_u2 (ma_u2 (ma_u2 f 9 7 0) 9 8 0) 9 9 0) 9 11 0) a' g) ∧ (∀ j, i ≤ j → j < 6 → a' 11 j = 1) ∧ (∀ j, j < i → a' 11 j = a 11 j) ∧ (∀ q, q ≠ 11 → a' q = a q)
  | 0, i, a, hi => by
    refine ⟨a, ?_, fun j h1 h2 => absurd h1 (by omega), fun _ _ => rfl, fun _ _ => rfl⟩
    rw [b31_31 _ _ tr9, if_neg (by rw [show (6 : Int32) = nI 6 from rfl, nn_lt (by omega) (by omega)]; omega), b31_50 _ _ tr9]
  | r + 1, i, a, hi => by
    have hin : ma_in (nI i) 6 = true := in_of (by omega) (by decide)
    obtain ⟨a', e1, h1, h2, h3⟩ := c_clear0 r (i + 1) (ma_u2 a 11 i 1) (by omega)
    refine ⟨a', ?_, fun j h4 h5 => ?_, fun j h4 => ?_, fun q hq => (h3 q hq).trans (u2_ne hq)⟩
    · rw [b31_31 _ _ tr9, if_pos (by rw [show (6 : Int32) = nI 6 from rfl, nn_lt (by omega) (by omega)]; omega), b31_37 _ _ tr9 hin, nn_nat (by omega), nn_add1]
      exact e1
    · by_cases q : j = i
      · rw [h2 j (by omega), u2_at, if_pos ⟨rfl, q⟩]
      · exact h1 j (by omega) h5
    · rw [h2 j (by omega), u2_at, if_neg (by omega)]
theorem c_clear {f a : Nat → Nat → Int32} : ∃ f' a', ev xs L 31 2 [vR 9] (mw f a g) = some (none, mw f' a' g) ∧ (∀ z, isT 9 (ma_u2 f' 9 10 z) a' (baseR z) 0 0) ∧ (∀ q, q ≠ 9 → f' q = f q) ∧ (∀ q, q < 9 ∨ 17 ≤ q → a' q = a q) := by
  obtain ⟨a', e1, h1, h2, h3⟩ := c_clear0 (xs := xs) (L := L) (g := g) (f := f) 6 0 (ma_u2 (ma_u2 (ma_u2 (ma_u2 a 10 0 2) 10 1 1) 10 2 1) 10 3 20) rfl
  refine ⟨ma_u2 (ma_u2 (ma_u2 (ma_u2 f 9 7 0) 9 8 0) 9 9 0) 9 11 0, a', ?_, fun z => ?_, fun q hq => ?_, fun q hq => ?_⟩
  · show rn xs L 31 0 [vR 9, vS 0] [] (mw f a g) = _
    rw [b31_0 _ _ tr9]
    exact e1
  · refine isT.mk (isL.mk ?_ ?_ (fun k hk => ?_) (fun k hk => ?_) (fun i hi => absurd hi (by omega)) (fun i hi => absurd hi (by omega)) (fun i hi => absurd hi (by omega)) (fun i hi => absurd hi (by omega))) ?_ ?_ ?_ (fun i hi => absurd hi (by omega))
    · simp only [u2_at]; rfl
    · simp only [u2_at]; rfl
    · rw [h3 10 (by decide)]
      by_cases k0 : k = 0
      · subst k0; simp only [u2_at]; rfl
      · by_cases k1 : k = 1
        · subst k1; simp only [u2_at]; rfl
        · by_cases k2 : k = 2
          · subst k2; simp only [u2_at]; rfl
          · have k3 : k = 3 := by omega
            subst k3; simp only [u2_at]; rfl
    · rw [baseR_sw (by omega)]
      exact h1 k (by omega) hk
    · simp only [u2_at]; rfl
    · simp only [u2_at]; rfl
    · simp only [u2_at]; rfl
  · rw [u2_ne hq, u2_ne hq, u2_ne hq, u2_ne hq]
  · rw [h3 q (by omega), u2_ne (by omega), u2_ne (by omega), u2_ne (by omega), u2_ne (by omega)]
theorem m_beg0 {z : Int32} {f : Nat → Nat → Int32} : ∀ (r i : Nat) (a : Nat → Nat → Int32), i + r = 62 → (∀ j, j < i → a 45 j = 0) → ∃ a', rn xs L 113 9 [vR 44, vI z, vI (nI i)] [] (mw f a g) = rn xs L 113 28 [vR 44, vI z, vI (nI 62)] [] (mw f a' g) ∧ (∀ j, j < 62 → a' 45 j = 0) ∧ (∀ q, q ≠ 45 → a' q = a q)
  | 0, i, a, hi, h => by
    refine ⟨a, ?_, fun j hj => h j (by omega), fun _ _ => rfl⟩
    rw [b113_9, if_neg (by rw [show (62 : Int32) = nI 62 from rfl, nn_lt (by omega) (by omega)]; omega), show i = 62 by omega]
  | r + 1, i, a, hi, h => by
    have hin : ma_in (nI i) 62 = true := in_of (by omega) (by decide)
    obtain ⟨a', e1, h1, h2⟩ := m_beg0 (z := z) (f := f) r (i + 1) (ma_u2 a 45 i 0) (by omega) (fun j hj => by
      rw [u2_at]
      by_cases q : j = i
      · rw [if_pos ⟨rfl, q⟩]
      · rw [if_neg (fun x => q x.2)]; exact h j (by omega))
    refine ⟨a', ?_, h1, fun q hq => (h2 q hq).trans (u2_ne hq)⟩
    rw [b113_9, if_pos (by rw [show (62 : Int32) = nI 62 from rfl, nn_lt (by omega) (by omega)]; omega), b113_15 _ _ hin, nn_nat (by omega), nn_add1]
    exact e1
theorem m_beg1 {z : Int32} {f : Nat → Nat → Int32} : ∀ (r i : Nat) (a : Nat → Nat → Int32), i + r = 6 → (∀ j, j < 62 → a 45 j = if 8 + i ≤ j ∧ j < 14 then 0 else baseR z j) → ∃ a', rn xs L 113 68 [vR 44, vI z, vI (nI i)] [] (mw f a g) = some (none, mw f a' g) ∧ isM a' 45 (baseR z) ∧ (∀ q, q ≠ 45 → a' q = a q)
  | 0, i, a, hi, h => by
    refine ⟨a, ?_, fun j hj => ?_, fun _ _ => rfl⟩
    · rw [b113_68, if_neg (by rw [show (6 : Int32) = nI 6 from rfl, nn_lt (by omega) (by omega)]; omega), b113_90]
    · rw [h j hj, if_neg (by omega)]
  | r + 1, i, a, hi, h => by
    have x8 : (8 : Int32) + nI i = nI (8 + i) := by rw [show (8 : Int32) = nI 8 from rfl, nn_add]
    have hin : ma_in ((8 : Int32) + nI i) 62 = true := by rw [x8]; exact in_of (by omega) (by decide)
    obtain ⟨a', e1, h1, h2⟩ := m_beg1 (z := z) (f := f) r (i + 1) (ma_u2 a 45 (8 + i) 1) (by omega) (fun j hj => by
      rw [u2_at]
      by_cases q : j = 8 + i
      · rw [if_pos ⟨rfl, q⟩, if_neg (by omega), baseR_sw (by omega)]
      · rw [if_neg (fun x => q x.2), h j hj]
        by_cases q2 : 8 + i ≤ j ∧ j < 14
        · rw [if_pos q2, if_pos (by omega)]
        · rw [if_neg q2, if_neg (by omega)])
    refine ⟨a', ?_, h1, fun q hq => (h2 q hq).trans (u2_ne hq)⟩
    rw [b113_68, if_pos (by rw [show (6 : Int32) = nI 6 from rfl, nn_lt (by omega) (by omega)]; omega), b113_74 _ _ hin, x8, nn_nat (by omega), nn_add1]
    exact e1
theorem m_begins {f a : Nat → Nat → Int32} : ∃ a', ev xs L 113 3 [vR 44] (mw f a g) = some (none, mw f a' g) ∧ isM a' 45 (baseR (a 45 2)) ∧ (∀ q, q ≠ 45 → a' q = a q) := by
  obtain ⟨a1, e1, h1, h2⟩ := m_beg0 (xs := xs) (L := L) (g := g) (f := f) (z := a 45 2) 62 0 a rfl (fun j hj => absurd hj (by omega))
  obtain ⟨a2, e2, h3, h4⟩ := m_beg1 (xs := xs) (L := L) (g := g) (f := f) (z := a 45 2) 6 0 (ma_u2 (ma_u2 (ma_u2 (ma_u2 (ma_u2 a1 45 2 (a 45 2)) 45 4 2) 45 5 1) 45 6 1) 45 7 20) rfl (fun j hj => by
    simp only [u2_at, h1 j hj]
    by_cases q2 : j = 2
    · subst q2; rfl
    · by_cases q4 : j = 4
      · subst q4; rfl
      · by_cases q5 : j = 5
        · subst q5; rfl
        · by_cases q6 : j = 6
          · subst q6; rfl
          · by_cases q7 : j = 7
            · subst q7; rfl
            · unfold baseR
              rw [if_neg (by omega), if_neg (by omega), if_neg (by omega), if_neg (by omega), if_neg (by omega), if_neg q2, if_neg q4, if_neg q5, if_neg q6, if_neg q7]
              by_cases q8 : 8 ≤ j ∧ j < 14
              · rw [if_pos (by omega)]
              · rw [if_neg (by omega), if_neg q8])
  refine ⟨a2, ?_, h3, fun q hq => by rw [h4 q hq, u2_ne hq, u2_ne hq, u2_ne hq, u2_ne hq, u2_ne hq]; exact h2 q hq⟩
  show rn xs L 113 0 [vR 44, vS 0, vS 0] [] (mw f a g) = _
  rw [b113_0]
  refine e1.trans ?_
  rw [b113_28]
  exact e2
theorem itR_out {S : Row} {n p x : Nat} (W : WF S n) (hp : p ≤ l) (hr : itR B l p S n = Sum.inr x) : x ≤ l := by
  have p1 := enn_l (B := B) hp
  have p2 := enn_l (B := B) p1
  unfold itR at hr
  cases ek : kOf B l p with
  | some k =>
    rw [ek] at hr
    simp only at hr
    by_cases hn : n < 8
    · rw [if_pos hn] at hr
      cases eq : lfR B l p with
      | inr y =>
        rw [eq] at hr
        have := Sum.inr.inj hr
        have := lfR_out hp eq
        omega
      | inl r =>
        obtain ⟨b, hh, s, q5⟩ := r
        rw [eq] at hr
        cases hr
    · rw [if_neg hn] at hr
      have := Sum.inr.inj hr
      omega
  | none =>
    rw [ek] at hr
    simp only at hr
    cases eo : lOf B l p with
    | some k =>
      rw [eo] at hr
      simp only at hr
      cases en : numO B l (enn B l p) (mxL k) with
      | none =>
        rw [en] at hr
        have := Sum.inr.inj hr
        omega
      | some v =>
        rw [en] at hr
        simp only at hr
        split at hr
        · cases hr
        · have := Sum.inr.inj hr
          omega
    | none =>
      rw [eo] at hr
      simp only at hr
      split at hr
      · cases eq : swQ B l p with
        | inr y =>
          rw [eq] at hr
          have := Sum.inr.inj hr
          have := swQ_out hp eq
          omega
        | inl r =>
          obtain ⟨b, v, q5⟩ := r
          have hs := swQ_in hp eq
          rw [eq] at hr
          simp only at hr
          split at hr
          · cases hr
          · have := Sum.inr.inj hr
            omega
      · have := Sum.inr.inj hr
        omega
theorem byC.of {a a' : Nat → Nat → Int32} (h : byC a B l) (e : a' 26 = a 26) : byC a' B l := fun i hi => by rw [e]; exact h i hi
theorem c_done {i : Nat} {f a : Nat → Nat → Int32} {l3 l4 : ma_V} (h : ¬ (nI i < 200) ∨ f 25 2 = 0 ∨ ¬ (f 25 5 < 0)) : rn xs L 15 16 [vR 25, vR 9, vI (nI i), l3, l4] [] (mw f a g) = some (some (vI (f 25 5)), mw f a g) := by
  rw [b15_16 _ _ _ _ tr9]
  by_cases h1 : nI i < 200
  · rw [if_pos h1, b15_23 _ _ _ _ tr9]
    by_cases h2 : f 25 2 = 0
    · rw [if_pos h2, b15_116 _ _ _ _ tr9]
    · rw [if_neg h2, b15_30 _ _ _ _ tr9]
      by_cases h3 : f 25 5 < 0
      · rcases h with h | h | h
        · exact absurd h1 h
        · exact absurd h h2
        · exact absurd h3 h
      · rw [if_neg h3, b15_116 _ _ _ _ tr9]
  · rw [if_neg h1, b15_116 _ _ _ _ tr9]
theorem c_loop (hl : l ≤ 200) : ∀ (r i p n : Nat) (S : Row) (f a : Nat → Nat → Int32) (l3 l4 : ma_V), l - p < r → i ≤ p → p ≤ l → WF S n → Zt S n → byC a B l → cS f B l p (-1) → isT 9 f a S n 0 →
    (∀ S' n', rdR B l r p S n = Sum.inl (S', n') → ∃ f' a', rn xs L 15 16 [vR 25, vR 9, vI (nI i), l3, l4] [] (mw f a g) = some (some (vI (-1)), mw f' a' g) ∧ WF S' n' ∧ isT 9 f' a' S' n' 0 ∧ frI f a f' a') ∧
    (∀ x, rdR B l r p S n = Sum.inr x → ∃ f' a', rn xs L 15 16 [vR 25, vR 9, vI (nI i), l3, l4] [] (mw f a g) = some (some (vI (nI (stt B l x))), mw f' a' g) ∧ x ≤ l ∧ frI f a f' a')
  | 0, i, p, n, S, f, a, l3, l4, hr, hi, hp, W, hz, hB, h, hT => absurd hr (by omega)
  | r + 1, i, p, n, S, f, a, l3, l4, hr, hi, hp, W, hz, hB, h, hT => by
    have h' : cX f l (sgm B l p) (stt B l p) (enn B l p) (-1) := h
    unfold rdR
    by_cases h0 : sgm B l p = 0
    · rw [if_pos h0]
      refine ⟨fun S' n' hq => ?_, fun x hq => (by cases hq)⟩
      have hq := Sum.inl.inj hq
      simp only [Prod.mk.injEq] at hq
      obtain ⟨q1, q2⟩ := hq
      subst q1
      subst q2
      refine ⟨f, a, ?_, W, hT, frI.rf⟩
      rw [c_done (Or.inr (Or.inl (by rw [h'.srt, h0]; rfl))), h'.flt]
    · have hpl : p < l := by
        have h1 := stt_le (B := B) hp
        have h2 := (enn_le (B := B) hp).2.2 h0
        omega
      have s1 : rn xs L 15 16 [vR 25, vR 9, vI (nI i), l3, l4] [] (mw f a g) = rn xs L 15 37 [vR 25, vR 9, vI (nI i), l3, l4] [] (mw f a g) := by
        have hsi : sgm B l p = 0 ∨ sgm B l p = 1 ∨ sgm B l p = 2 ∨ sgm B l p = 3 := srt_in _
        rw [b15_16 _ _ _ _ tr9, if_pos (by rw [show (200 : Int32) = nI 200 from rfl, nn_lt (by omega) (by omega)]; omega), b15_23 _ _ _ _ tr9, h'.srt, if_neg (nI_ne0 (by omega) (by omega)), b15_30 _ _ _ _ tr9, h'.flt, if_pos (by decide)]
      obtain ⟨c1, c2⟩ := c_item (xs := xs) (L := L) (g := g) (i := nI i) (l3 := l3) (l4 := l4) W hB hl hp h hT
      rw [if_neg h0]
      cases eq : itR B l p S n with
      | inr y =>
        have hy := itR_out W hp eq
        obtain ⟨f1, a1, m3, m4, e1, h1, r1⟩ := c2 y eq
        refine ⟨fun S' n' hq => (by cases hq), fun x hq => ?_⟩
        have := Sum.inr.inj hq
        subst this
        have hyl := stt_le (B := B) hy
        refine ⟨f1, a1, ?_, hy, r1⟩
        rw [s1, e1, nn_add1, c_done (Or.inr (Or.inr (by rw [h1.2]; exact nI_pos (by omega)))), h1.2]
      | inl w =>
        obtain ⟨S1, n1, q⟩ := w
        obtain ⟨f1, a1, m3, m4, e1, h1, hT1, r1⟩ := c1 S1 n1 q eq
        obtain ⟨i1, i2, i3, i4⟩ := itR_in W hz hp h0 eq
        obtain ⟨d1, d2⟩ := c_loop hl r (i + 1) q n1 S1 f1 a1 (vI m3) (vI m4) (by omega) (by omega) i2 i3 i4 (hB.of (r1.2 26 (by unfold oT; omega))) h1 hT1
        simp only
        refine ⟨fun S' n' hq => ?_, fun x hq => ?_⟩
        · obtain ⟨f2, a2, e2, W2, hT2, r2⟩ := d1 S' n' hq
          refine ⟨f2, a2, ?_, W2, hT2, r1.tr r2⟩
          rw [s1, e1, nn_add1]
          exact e2
        · obtain ⟨f2, a2, e2, x2, r2⟩ := d2 x hq
          refine ⟨f2, a2, ?_, x2, r1.tr r2⟩
          rw [s1, e1, nn_add1]
          exact e2
theorem m_loop (hl : l ≤ 200) : ∀ (r p n : Nat) (S : Row) (f a : Nat → Nat → Int32), l - p < r → p ≤ l → WF S n → Zt S n → byM a B l → mS f B l p 0 → isM a 45 S →
    (∀ S' n', rdR B l r p S n = Sum.inl (S', n') → ∃ f' a', rn xs L 116 29 [vR 44] [] (mw f a g) = rn xs L 116 50 [vR 44] [] (mw f' a' g) ∧ f' 44 11 = 0 ∧ isM a' 45 S' ∧ frX f f' ∧ (∀ q, q ≠ 45 → a' q = a q)) ∧
    (∀ x, rdR B l r p S n = Sum.inr x → ∃ f' a', rn xs L 116 29 [vR 44] [] (mw f a g) = rn xs L 116 50 [vR 44] [] (mw f' a' g) ∧ f' 44 11 = 1 ∧ f' 44 8 = nI (stt B l x) ∧ frX f f' ∧ (∀ q, q ≠ 45 → a' q = a q))
  | 0, p, n, S, f, a, hr, hp, W, hz, hB, h, hM => absurd hr (by omega)
  | r + 1, p, n, S, f, a, hr, hp, W, hz, hB, h, hM => by
    have h' : mX f l (sgm B l p) (stt B l p) (enn B l p) (vll B l p) 0 := h
    unfold rdR
    by_cases h0 : sgm B l p = 0
    · rw [if_pos h0]
      refine ⟨fun S' n' hq => ?_, fun x hq => (by cases hq)⟩
      have hq := Sum.inl.inj hq
      simp only [Prod.mk.injEq] at hq
      obtain ⟨q1, q2⟩ := hq
      subst q1
      subst q2
      refine ⟨f, a, ?_, h'.wr, hM, frX.rf, fun _ _ => rfl⟩
      rw [b116_29, h'.wr, if_pos rfl, b116_36, h'.srt, if_pos (by rw [h0]; rfl)]
    · have hsi : sgm B l p = 0 ∨ sgm B l p = 1 ∨ sgm B l p = 2 ∨ sgm B l p = 3 := srt_in _
      have s1 : rn xs L 116 29 [vR 44] [] (mw f a g) = (ev xs L 122 3 [vR 44] (mw f a g)).bind (fun c => rn xs L 116 47 [vR 44] (c.1.toList ++ []) c.2) := by
        rw [b116_29, h'.wr, if_pos rfl, b116_36, h'.srt, if_neg (nI_ne0 (by omega) (by omega)), b116_43]
      obtain ⟨c1, c2⟩ := m_item (xs := xs) (L := L) (g := g) W hz hB hl hp h hM
      rw [if_neg h0]
      cases eq : itR B l p S n with
      | inr y =>
        obtain ⟨f1, a1, e1, h1, r1, k1⟩ := c2 y eq
        have h1' : mX f1 l (sgm B l y) (stt B l y) (enn B l y) (vll B l y) 1 := h1
        refine ⟨fun S' n' hq => (by cases hq), fun x hq => ?_⟩
        have := Sum.inr.inj hq
        subst this
        refine ⟨f1, a1, ?_, h1'.wr, h1'.st, r1, k1⟩
        rw [s1, e1]
        simp only [Option.bind_some, Option.toList_none, List.nil_append]
        rw [b116_47, b116_29, h1'.wr, if_neg (by decide)]
      | inl w =>
        obtain ⟨S1, n1, q⟩ := w
        obtain ⟨f1, a1, e1, h1, hM1, r1, k1⟩ := c1 S1 n1 q eq
        obtain ⟨i1, i2, i3, i4⟩ := itR_in W hz hp h0 eq
        obtain ⟨d1, d2⟩ := m_loop hl r q n1 S1 f1 a1 (by omega) i2 i3 i4 (hB.of (k1 49 (by decide))) h1 hM1
        simp only
        refine ⟨fun S' n' hq => ?_, fun x hq => ?_⟩
        · obtain ⟨f2, a2, e2, w2, hM2, r2, k2⟩ := d1 S' n' hq
          refine ⟨f2, a2, ?_, w2, hM2, r1.tr r2, fun q hq => (k2 q hq).trans (k1 q hq)⟩
          rw [s1, e1]
          simp only [Option.bind_some, Option.toList_none, List.nil_append]
          rw [b116_47]
          exact e2
        · obtain ⟨f2, a2, e2, w2, t2, r2, k2⟩ := d2 x hq
          refine ⟨f2, a2, ?_, w2, t2, r1.tr r2, fun q hq => (k2 q hq).trans (k1 q hq)⟩
          rw [s1, e1]
          simp only [Option.bind_some, Option.toList_none, List.nil_append]
          rw [b116_47]
          exact e2
end S97
