/-! ===== next: the call ===== -/
theorem op_next : TOP 80 3 174 3 [] := by
  intro xs L S n W
  have h8 := W.n8
  refine ⟨vI (match nx S n 60 with | none => -3 | some b => nI b), S, n, W, fun f a g hT => ?_, fun f a g hM => ?_⟩
  · obtain ⟨f1, a1, e1, hT1, hs1⟩ := c_become (xs := xs) (L := L) (g := g) tr9 tr1 (by decide) W hT
    obtain ⟨f2, a2, e2, hs2⟩ := c_next0 (xs := xs) (L := L) (g := g) 60 0 S f1 a1 (vS 0) (by omega) W hT1
    refine ⟨f2, a2, ?_, hT.keep9 (hs1.trans hs2), same_tree9 (hs1.trans hs2)⟩
    show rn xs L 80 0 [vR 0, vS 0, vS 0] [] (mw f a g) = _
    rw [b80_0, e1]
    simp only [Option.bind_some, Option.toList_none, List.nil_append]
    rw [b80_11]
    exact e2
  · obtain ⟨a1, e1, hM1, ha1⟩ := m_copy (xs := xs) (L := L) (f := f) (g := g) rw45 rw47 (by decide) hM
    obtain ⟨a2, l2, e2, ha2⟩ := m_next0 (xs := xs) (L := L) (g := g) 60 0 S f a1 (by omega) W (hM.of (ha1 45 (by decide)))
    obtain ⟨a3, e3, hM3, ha3⟩ := m_copy (xs := xs) (L := L) (f := f) (a := a2) (g := g) rw47 rw45 (by decide) (hM1.of (ha2 47 (by decide) (by decide)))
    refine ⟨a3, ?_, hM3, fun q h1 h2 _ h4 => (ha3 q h1).trans ((ha2 q h1 h4).trans (ha1 q h2))⟩
    show rn xs L 174 0 [vR 44, vS 0, vS 0] [] (mw f a g) = _
    rw [b174_0, e1]
    simp only [Option.bind_some, Option.toList_none, List.nil_append]
    rw [b174_11, show vI (0 : Int32) = vI (nI 0) from rfl, e2]
    cases e : nx S n 60 with
    | none =>
      simp [b174_21, b174_25, b174_30, b174_37, b174_48, b174_52, b174_57, encO, e3]
    | some b =>
      have hb := nx_lt 60 S e
      have hp : ¬ nI b < 0 := nI_pos (by omega)
      simp [b174_21, b174_25, b174_30, b174_37, b174_48, b174_52, b174_57, encO, e3, hp]
