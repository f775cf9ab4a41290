/-! ===== lost ===== -/
def lostR (S : Row) (n : Nat) (p : Int32) : Nat → Int32 → Int32 → Int32
  | 0, _, c => c
  | r + 1, z, c => lostR S n p r (dayS (up1 S 2 z) n 2) (if encO (dayW (up1 S 2 z) n) = p then c else c + 1)
section S68
variable {xs : Nat → Int32} {L : Nat} {g : Nat → Nat → Int64} {S : Row} {n : Nat} {p : Int32}
theorem c_lost0 {m : Nat} (hm : m < 2147483648) (W : WF S n) : ∀ (r i : Nat) (z c : Int32) (f a : Nat → Nat → Int32), i + r = m → isT 1 f a S n 0 → ∃ f1 a1, rn xs L 74 45 [vR 0, vI (nI m), vI p, vI z, vI c, vI (nI i)] [] (mw f a g) = some (some (vI (lostR S n p r z c)), mw f1 a1 g) ∧ same (oT 9) f a g f1 a1 g
  | 0, i, z, c, f, a, hi, hT => by
    refine ⟨f, a, ?_, same.refl⟩
    rw [b74_45, if_neg (by rw [nn_lt (by omega) (by omega)]; omega), b74_98]
    rfl
  | r + 1, i, z, c, f, a, hi, hT => by
    obtain ⟨f1, a1, e1, hT1, hs1⟩ := c_become (xs := xs) (L := L) (g := g) tr9 tr1 (by decide) W hT
    obtain ⟨f2, a2, e2, hT2, hs2⟩ := c_day (xs := xs) (L := L) (g := g) tr9 (W.z (v := z)) (c_setZ (v := z) hT1)
    have hsz : same (oT 9) f1 a1 g (ma_u2 f1 9 10 z) a1 g := fun q hq => ⟨u2_ne (by unfold oT at hq; omega), rfl, rfl⟩
    have hs := hs1.trans (hsz.trans hs2)
    obtain ⟨f3, a3, e3, hs3⟩ := c_lost0 hm W r (i + 1) (dayS (up1 S 2 z) n 2) (if encO (dayW (up1 S 2 z) n) = p then c else c + 1) f2 a2 (by omega) (hT.keep9 hs)
    refine ⟨f3, a3, ?_, hs.trans hs3⟩
    have hz := hT2.z
    rw [b74_45, if_pos (by rw [nn_lt (by omega) (by omega)]; omega), b74_51, e1]
    simp only [Option.bind_some, Option.toList_none, List.nil_append]
    rw [b74_62, e2]
    simp only [Option.bind_some, Option.toList_some, List.cons_append, List.nil_append]
    rw [b74_77]
    by_cases h : encO (dayW (up1 S 2 z) n) = p
    · rw [if_pos h] at e3
      rw [if_pos h, b74_84, hz, nn_add1, e3, lostR, if_pos h]
    · rw [if_neg h] at e3
      rw [if_neg h, b74_81, hz, nn_add1, e3, lostR, if_neg h]
theorem m_lost0 {m : Nat} (hm : m < 2147483648) (W : WF S n) : ∀ (r i : Nat) (z c : Int32) (f a : Nat → Nat → Int32), i + r = m → isM a 47 S → ∃ a1, rn xs L 163 44 [vR 44, vI (nI m), vI p, vI z, vI c, vI (nI i)] [] (mw f a g) = some (some (vI (lostR S n p r z c)), mw f a1 g) ∧ isM a1 45 S ∧ (∀ q, q ≠ 45 → q ≠ 50 → a1 q = a q)
  | 0, i, z, c, f, a, hi, hM => by
    obtain ⟨a1, e1, hM1, ha1⟩ := m_copy (xs := xs) (L := L) (f := f) (g := g) rw47 rw45 (by decide) hM
    refine ⟨a1, ?_, hM1, fun q h1 _ => ha1 q h1⟩
    rw [b163_44, if_neg (by rw [nn_lt (by omega) (by omega)]; omega), b163_99, e1]
    simp only [Option.bind_some, Option.toList_none, List.nil_append]
    rw [b163_110]
    rfl
  | r + 1, i, z, c, f, a, hi, hM => by
    obtain ⟨a1, e1, hM1, ha1⟩ := m_copy (xs := xs) (L := L) (f := f) (g := g) rw47 rw45 (by decide) hM
    obtain ⟨a2, e2, hM2, ha2⟩ := m_day (xs := xs) (L := L) (f := f) (g := g) (hM1.up (k := 2) (v := z)) (W.z (v := z))
    have h47 : isM a2 47 S := hM.of (by rw [ha2 47 (by decide) (by decide), u2_ne (by decide), ha1 47 (by decide)])
    obtain ⟨a3, e3, hM3, ha3⟩ := m_lost0 hm W r (i + 1) (dayS (up1 S 2 z) n 2) (if encO (dayW (up1 S 2 z) n) = p then c else c + 1) f a2 (by omega) h47
    refine ⟨a3, ?_, hM3, fun q h1 h2 => by rw [ha3 q h1 h2, ha2 q h1 h2, u2_ne h1, ha1 q h1]⟩
    have hz := hM2 2 (by decide)
    rw [b163_44, if_pos (by rw [nn_lt (by omega) (by omega)]; omega), b163_50, e1]
    simp only [Option.bind_some, Option.toList_none, List.nil_append]
    rw [b163_61, e2]
    simp only [Option.bind_some, Option.toList_some, List.cons_append, List.nil_append]
    rw [b163_74]
    by_cases h : encO (dayW (up1 S 2 z) n) = p
    · rw [if_pos h] at e3
      rw [if_pos h, b163_78, hz, nn_add1, Int32.add_zero, e3, lostR, if_pos h]
    · rw [if_neg h] at e3
      rw [if_neg h, b163_82, hz, nn_add1, e3, lostR, if_neg h]
end S68
theorem isw_pos {lo hi v : Int32} (h : isw lo hi v = true) (hl : 0 ≤ lo) : ¬ v < 0 := fun q => by
  unfold isw at h
  rw [Bool.and_eq_true] at h
  have h1 : ¬ v < lo := by simpa using h.1
  rw [Int32.lt_iff_toInt_lt] at h1 q
  rw [Int32.le_iff_toInt_le] at hl
  omega
theorem op_lost {v : Int32} : TOP 74 6 163 6 [vI v] := by
  intro xs L S n W
  by_cases h : isw 1 30 v = true
  · have h0 := isw_pos h (by decide)
    have hm : v.toNatClampNeg < 2147483648 := clamp_lt
    have hv := nn_of h0
    refine ⟨vI (lostR S n (encO (whoS S n 0)) v.toNatClampNeg (S 2) 0), S, n, W, fun f a g hT => ?_, fun f a g hM => ?_⟩
    · obtain ⟨f1, a1, e1, hT1, hs1⟩ := c_become (xs := xs) (L := L) (g := g) tr9 tr1 (by decide) W hT
      obtain ⟨f2, a2, e2, hT2, hs2⟩ := c_passDay (xs := xs) (L := L) (g := g) tr9 W hT1
      have hTn := hT.keep9 (hs1.trans hs2)
      obtain ⟨f3, a3, e3, hs3⟩ := c_lost0 (xs := xs) (L := L) (g := g) (p := encO (whoS S n 0)) hm W v.toNatClampNeg 0 (S 2) 0 f2 a2 (by omega) hTn
      have hs := (hs1.trans hs2).trans hs3
      refine ⟨f3, a3, ?_, hT.keep9 hs, same_tree9 hs⟩
      have hz := hTn.z
      rw [← hv] at e3
      show rn xs L 74 0 [vR 0, vI v, vS 0, vS 0, vS 0, vS 0] [] (mw f a g) = _
      simp [b74_0, b74_7, b74_10, b74_12, b74_23, b74_30, e_within, h, bI, e1, e2, hz]
      exact e3
    · obtain ⟨a1, e1, hM1, ha1⟩ := m_copy (xs := xs) (L := L) (f := f) (g := g) rw45 rw47 (by decide) hM
      obtain ⟨a2, e2, hM2, ha2⟩ := m_goesBy (xs := xs) (L := L) (f := f) (g := g) (ti := 0) (hM.of (ha1 45 (by decide))) W
      have h47 : isM a2 47 S := hM1.of (ha2 47 (by decide) (by decide))
      obtain ⟨a3, e3, hM3, ha3⟩ := m_lost0 (xs := xs) (L := L) (g := g) (p := encO (whoS S n 0)) hm W v.toNatClampNeg 0 (S 2) 0 f a2 (by omega) h47
      refine ⟨a3, ?_, hM3, fun q h1 h2 _ h4 => by rw [ha3 q h1 h4, ha2 q h1 h4, ha1 q h2]⟩
      have hz := h47 2 (by decide)
      rw [← hv] at e3
      show rn xs L 163 0 [vR 44, vI v, vS 0, vS 0, vS 0, vS 0] [] (mw f a g) = _
      simp [b163_0, b163_9, b163_12, b163_14, b163_25, b163_30, m_in_1_30, h, bI, e1, e2, hz]
      exact e3
  · refine ⟨vI (-1), S, n, W, fun f a g hT => ⟨f, a, ?_, hT, same.refl⟩, fun f a g hM => ⟨a, ?_, hM, fun _ _ _ _ _ => rfl⟩⟩
    · show rn xs L 74 0 [vR 0, vI v, vS 0, vS 0, vS 0, vS 0] [] (mw f a g) = _
      simp [b74_0, b74_7, b74_10, b74_12, b74_23, b74_30, b74_51, b74_62, b74_77, b74_81, b74_84, b74_98, e_within, h, bI]
    · show rn xs L 163 0 [vR 44, vI v, vS 0, vS 0, vS 0, vS 0] [] (mw f a g) = _
      simp [b163_0, b163_9, b163_12, b163_14, b163_25, b163_30, b163_50, b163_61, b163_74, b163_78, b163_82, b163_99, b163_110, m_in_1_30, h, bI]
