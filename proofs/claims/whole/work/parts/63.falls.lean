/-! ===== falls: the model's side, the call ===== -/
theorem rw45 : is_rw 45 := Or.inl rfl
theorem rw47 : is_rw 47 := Or.inr (Or.inr (Or.inl rfl))
theorem hg4 {S : Row} {n i : Nat} (W : WF S n) (hi : i < n) (h : ¬ hg S i = true) : lf S i 4 = 0 := by
  have hgs := W.hgs i hi
  rw [W.hg_iff hi] at h
  have h5 : ¬ lf S i 5 = 0 := by simpa using h
  rw [if_neg h5] at hgs
  exact hgs
theorem hg41 {S : Row} {i : Nat} (h : hg S i = true) : lf S i 4 = 1 := by simpa [hg] using h
section S63
variable {xs : Nat → Int32} {L : Nat} {g : Nat → Nat → Int64} {S : Row} {n o : Nat}
theorem m_fallsBy0 (ho : o < n) : ∀ (r i : Nat) (T : Row) (f a : Nat → Nat → Int32) (l : ma_V), i + r = 61 → WF T n → isM a 45 T → ∃ a1 l1, rn xs L 172 13 [vR 44, vI (nI o), vI (nI i), l] [] (mw f a g) = rn xs L 172 41 [vR 44, vI (nI o), vI (nI (i + fb T n o r)), l1] [] (mw f a1 g) ∧ (∀ q, q ≠ 45 → q ≠ 50 → a1 q = a q)
  | 0, i, T, f, a, l, hi, W, hM => by
    refine ⟨a, l, ?_, fun _ _ _ => rfl⟩
    have e : i = 61 := by omega
    subst e
    rw [b172_13, if_pos (by decide)]
    rfl
  | r + 1, i, T, f, a, l, hi, W, hM => by
    have h8 := W.n8
    have hlt : ¬ (60 : Int32) < nI i := by
      rw [show (60 : Int32) = nI 60 from rfl, nn_lt (by omega) (by omega)]
      omega
    rw [b172_13, if_neg hlt, b172_19, m_its4 hM (by omega)]
    by_cases h : hg T o = true
    · obtain ⟨a1, e1, hM1, ha1⟩ := m_goesBy (xs := xs) (L := L) (f := f) (g := g) (ti := 0) hM W
      obtain ⟨a2, l2, e2, ha2⟩ := m_fallsBy0 ho r (i + 1) _ f a1 (vI (encO (whoS T n 0))) (by omega) W.pass hM1
      refine ⟨a2, l2, ?_, fun q h1 h2 => (ha2 q h1 h2).trans (ha1 q h1 h2)⟩
      have hf : fb T n o (r + 1) = fb (passS T n 0) n o r + 1 := by rw [fb, if_pos h]
      rw [show i + 1 + fb (passS T n 0) n o r = i + fb T n o (r + 1) by omega] at e2
      simp [b172_11, b172_19, b172_25, b172_29, b172_34, b172_52, hg41 h, e1, nn_add1]
      exact e2
    · refine ⟨a, l, ?_, fun _ _ _ => rfl⟩
      have hf : fb T n o (r + 1) = 0 := by rw [fb, if_neg h]
      simp [b172_11, b172_19, b172_25, b172_29, b172_34, b172_52, hg4 W ho h, hf]
theorem m_fallsBy {f a : Nat → Nat → Int32} (hM : isM a 45 S) (W : WF S n) (ho : o < n) : ∃ a1, ev xs L 172 4 [vR 44, vI (nI o)] (mw f a g) = some (some (vI (nI (fb S n o 61))), mw f a1 g) ∧ isM a1 45 S ∧ (∀ q, q ≠ 45 → q ≠ 47 → q ≠ 50 → a1 q = a q) := by
  obtain ⟨a1, e1, hM1, ha1⟩ := m_copy (xs := xs) (L := L) (f := f) (g := g) rw45 rw47 (by decide) hM
  obtain ⟨a2, l2, e2, ha2⟩ := m_fallsBy0 (xs := xs) (L := L) (g := g) ho 61 0 S f a1 (vS 0) (by omega) W (hM.of (ha1 45 (by decide)))
  obtain ⟨a3, e3, hM3, ha3⟩ := m_copy (xs := xs) (L := L) (f := f) (a := a2) (g := g) rw47 rw45 (by decide) (hM1.of (ha2 47 (by decide) (by decide)))
  refine ⟨a3, ?_, hM3, fun q h1 h2 h3 => (ha3 q h1).trans ((ha2 q h1 h3).trans (ha1 q h2))⟩
  rw [Nat.zero_add] at e2
  show rn xs L 172 0 [vR 44, vI (nI o), vS 0, vS 0] [] (mw f a g) = _
  rw [b172_0, e1]
  simp only [Option.bind_some, Option.toList_none, List.nil_append]
  rw [b172_11, show vI (0 : Int32) = vI (nI 0) from rfl, e2, b172_41, e3]
  simp only [Option.bind_some, Option.toList_none, List.nil_append]
  rw [b172_52]
end S63
theorem op_falls {leaf : Int32} : TOP 77 3 171 3 [vI leaf] := by
  intro xs L S n W
  have h8 := W.n8
  by_cases h : hasR n leaf = true
  · obtain ⟨o, ho, rfl⟩ := hasR_to h8 h
    have hle := fb_le (n := n) (o := o) 61 S
    refine ⟨vI (if fb S n o 61 = 61 then -3 else nI (fb S n o 61)), S, n, W, fun f a g hT => ?_, fun f a g hM => ?_⟩
    · obtain ⟨f1, a1, e1, hT1, hs1⟩ := c_become (xs := xs) (L := L) (g := g) tr9 tr1 (by decide) W hT
      obtain ⟨f2, a2, e2, hs2⟩ := c_toFall (xs := xs) (L := L) (g := g) ho W hT1
      refine ⟨f2, a2, ?_, hT.keep9 (hs1.trans hs2), same_tree9 (hs1.trans hs2)⟩
      show rn xs L 77 0 [vR 0, vI (nI o), vS 0] [] (mw f a g) = _
      have h61 : (nI (fb S n o 61) = 61) ↔ fb S n o 61 = 61 := by
        rw [show (61 : Int32) = nI 61 from rfl, nn_eq (by omega) (by decide)]
      by_cases hx : fb S n o 61 = 61
      · rw [if_pos hx]
        simp [b77_0, b77_8, b77_11, b77_13, b77_24, b77_29, b77_36, b77_41, c_has tr1 hT.L, h, bI, e1, e2, h61.mpr hx]
      · simp [b77_0, b77_8, b77_11, b77_13, b77_24, b77_29, b77_36, b77_41, c_has tr1 hT.L, h, bI, e1, e2, h61, hx]
    · obtain ⟨a1, e1, hM1, ha1⟩ := m_fallsBy (xs := xs) (L := L) (f := f) (g := g) hM W ho
      refine ⟨a1, ?_, hM1, fun q h1 h2 _ h4 => ha1 q h1 h2 h4⟩
      show rn xs L 171 0 [vR 44, vI (nI o), vS 0] [] (mw f a g) = _
      have h60 : ((60 : Int32) < nI (fb S n o 61)) ↔ fb S n o 61 = 61 := by
        rw [show (60 : Int32) = nI 60 from rfl, nn_lt (by decide) (by omega)]
        omega
      by_cases hx : fb S n o 61 = 61
      · rw [if_pos hx]
        have hlt : ¬ nI (fb S n o 61) ≤ 60 := fun q => absurd (h60.mpr hx) (Int32.not_lt.mpr q)
        simp [b171_0, b171_5, b171_8, b171_10, b171_15, b171_22, b171_26, m_has hM W, h, bI, e1, h60.mpr hx, hlt]
      · simp [b171_0, b171_5, b171_8, b171_10, b171_15, b171_22, b171_26, m_has hM W, h, bI, e1, h60, hx]
  · refine ⟨vI (-1), S, n, W, fun f a g hT => ⟨f, a, ?_, hT, same.refl⟩, fun f a g hM => ⟨a, ?_, hM, fun _ _ _ _ _ => rfl⟩⟩
    · show rn xs L 77 0 [vR 0, vI leaf, vS 0] [] (mw f a g) = _
      simp [b77_0, b77_8, b77_11, b77_13, b77_24, b77_29, b77_36, b77_41, c_has tr1 hT.L, h, bI]
    · show rn xs L 171 0 [vR 44, vI leaf, vS 0] [] (mw f a g) = _
      simp [b171_0, b171_5, b171_8, b171_10, b171_15, b171_22, b171_26, m_has hM W, h, bI]
