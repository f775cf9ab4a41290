/-! ===== hold, move, mind, does, seed ===== -/
theorem has_of {n o : Nat} (h : o < n) (h8 : n ≤ 8) : hasR n (nI o) = true := hasR_nn h8 h
theorem op_hold {leaf v : Int32} : TOP 65 4 149 3 [vI leaf, vI v] := by
  intro xs L S n W
  have h8 := W.n8
  by_cases h : hasR n leaf = true
  · obtain ⟨o, ho, rfl⟩ := hasR_to h8 h
    have hn : (nI o).toNatClampNeg = o := nn_nat (by omega)
    have hin : ma_in (nI o) 8 = true := in_of (by omega) (by decide)
    have e2 : (14 : Int32) + 6 * nI o + 2 = nI (14 + 6 * o + 2) := ixN (c := 2)
    by_cases h2 : isw 0 99 v = true
    · obtain ⟨u, hu, e⟩ := isw_nn 99 rfl (by decide) h2
      refine ⟨vI (lf S o 2), up1 S (14 + 6 * o + 2) v, n, W.hi (by decide) hu e, fun f a g hT => ⟨f, ma_u2 a 6 o v, ?_, c_setLf (c := 2) hT (by decide), same_u2 (t := 0) (fun o ho => by omega)⟩, fun f a g hM => ⟨ma_u2 a 45 (14 + 6 * o + 2) v, ?_, hM.up, fun q hq _ _ _ => u2_ne hq⟩⟩
      · show rn xs L 65 0 [vR 0, vI (nI o), vI v, vS 0] [] (mw f a g) = _
        have hl := hT.hol o ho
        simp [b65_0, b65_8, b65_11, b65_18, b65_21, b65_23, c_has tr1 hT.L, e_within, h, h2, bI, hin, hn, hl]
      · show rn xs L 149 0 [vR 44, vI (nI o), vI v] [] (mw f a g) = _
        have hb := m_becomes (xs := xs) (L := L) (f := f) (g := g) (v := v) hM (k := 14 + 6 * o + 2) (by omega)
        simp [b149_0, b149_5, b149_8, b149_17, b149_20, b149_34, b149_37, m_has hM W, m_in_0_99, h, h2, bI, e2, hb]
        rfl
    · refine ⟨vI (-1), S, n, W, fun f a g hT => ⟨f, a, ?_, hT, same.refl⟩, fun f a g hM => ⟨a, ?_, hM, fun _ _ _ _ _ => rfl⟩⟩
      · show rn xs L 65 0 [vR 0, vI (nI o), vI v, vS 0] [] (mw f a g) = _
        simp [b65_0, b65_8, b65_11, b65_18, b65_21, b65_23, c_has tr1 hT.L, e_within, h, h2, bI]
      · show rn xs L 149 0 [vR 44, vI (nI o), vI v] [] (mw f a g) = _
        simp [b149_0, b149_5, b149_8, b149_17, b149_20, b149_34, b149_37, m_has hM W, m_in_0_99, h, h2, bI]
  · refine ⟨vI (-1), S, n, W, fun f a g hT => ⟨f, a, ?_, hT, same.refl⟩, fun f a g hM => ⟨a, ?_, hM, fun _ _ _ _ _ => rfl⟩⟩
    · show rn xs L 65 0 [vR 0, vI leaf, vI v, vS 0] [] (mw f a g) = _
      simp [b65_0, b65_8, b65_11, b65_18, b65_21, b65_23, c_has tr1 hT.L, h, bI]
    · show rn xs L 149 0 [vR 44, vI leaf, vI v] [] (mw f a g) = _
      simp [b149_0, b149_5, b149_8, b149_17, b149_20, b149_34, b149_37, m_has hM W, h, bI]
theorem op_does {leaf what : Int32} : TOP 63 3 145 3 [vI leaf, vI what] := by
  refine TOP.rd (fun xs L S n W => ?_)
  have h8 := W.n8
  by_cases h : hasR n leaf = true
  · obtain ⟨o, ho, rfl⟩ := hasR_to h8 h
    by_cases h2 : isw 0 1 what = true
    · by_cases h3 : what = 0
      · subst h3
        refine ⟨vI (1000 + losR S n o), fun f a g hT => ?_, fun f a g hM => ?_⟩
        · show rn xs L 63 0 [vR 0, vI (nI o), vI 0] [] (mw f a g) = _
          simp [b63_0, b63_8, b63_11, b63_17, b63_20, b63_22, b63_29, b63_37, b63_40, b63_48, c_has tr1 hT.L, e_within, h, h2, bI, c_loses tr1 W hT.L ho]
        · show rn xs L 145 0 [vR 44, vI (nI o), vI 0] [] (mw f a g) = _
          have hi := m_in_0_1 (xs := xs) (L := L) (f := f) (a := a) (g := g) (x := 0)
          simp at hi
          simp [b145_0, b145_5, b145_8, b145_15, b145_18, b145_20, b145_27, b145_32, b145_35, b145_40, m_has hM W, hi, h, h2, bI, m_loses hM W ho]
      · refine ⟨vI (1000 + rankR S o), fun f a g hT => ?_, fun f a g hM => ?_⟩
        · show rn xs L 63 0 [vR 0, vI (nI o), vI what] [] (mw f a g) = _
          simp [b63_0, b63_8, b63_11, b63_17, b63_20, b63_22, b63_29, b63_37, b63_40, b63_48, c_has tr1 hT.L, e_within, h, h2, h3, bI, c_rank tr1 W hT.L ho]
        · show rn xs L 145 0 [vR 44, vI (nI o), vI what] [] (mw f a g) = _
          simp [b145_0, b145_5, b145_8, b145_15, b145_18, b145_20, b145_27, b145_32, b145_35, b145_40, m_has hM W, m_in_0_1, h, h2, h3, bI, m_rank hM (show o < 8 by omega)]
    · refine ⟨vI (-1), fun f a g hT => ?_, fun f a g hM => ?_⟩
      · show rn xs L 63 0 [vR 0, vI (nI o), vI what] [] (mw f a g) = _
        simp [b63_0, b63_8, b63_11, b63_17, b63_20, b63_22, b63_29, b63_37, b63_40, b63_48, c_has tr1 hT.L, e_within, h, h2, bI]
      · show rn xs L 145 0 [vR 44, vI (nI o), vI what] [] (mw f a g) = _
        simp [b145_0, b145_5, b145_8, b145_15, b145_18, b145_20, b145_27, b145_32, b145_35, b145_40, m_has hM W, m_in_0_1, h, h2, bI]
  · refine ⟨vI (-1), fun f a g hT => ?_, fun f a g hM => ?_⟩
    · show rn xs L 63 0 [vR 0, vI leaf, vI what] [] (mw f a g) = _
      simp [b63_0, b63_8, b63_11, b63_17, b63_20, b63_22, b63_29, b63_37, b63_40, b63_48, c_has tr1 hT.L, h, bI]
    · show rn xs L 145 0 [vR 44, vI leaf, vI what] [] (mw f a g) = _
      simp [b145_0, b145_5, b145_8, b145_15, b145_18, b145_20, b145_27, b145_32, b145_35, b145_40, m_has hM W, h, bI]
theorem op_seed {v : Int32} : TOP 72 3 159 2 [vI v] := by
  intro xs L S n W
  refine ⟨vI (S 2), up1 S 2 v, n, W.z, fun f a g hT => ⟨ma_u2 f 1 10 v, a, ?_, c_setZ hT, fun o ho => ⟨u2_ne (by omega), rfl, rfl⟩⟩, fun f a g hM => ⟨ma_u2 a 45 2 v, ?_, hM.up, fun q hq _ _ _ => u2_ne hq⟩⟩
  · show rn xs L 72 0 [vR 0, vI v, vS 0] [] (mw f a g) = _
    have hz := hT.z
    simp [b72_0, hz]
  · show rn xs L 159 0 [vR 44, vI v] [] (mw f a g) = _
    have hb := m_becomes (xs := xs) (L := L) (f := f) (g := g) (v := v) hM (k := 2) (by omega)
    rw [show nI 2 = 2 from rfl] at hb
    simp [b159_0, b159_6, hb]
