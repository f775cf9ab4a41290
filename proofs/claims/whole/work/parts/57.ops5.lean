/-! ===== of ===== -/
section S57
variable {xs : Nat → Int32} {L : Nat} {f a : Nat → Nat → Int32} {g : Nat → Nat → Int64} {S : Row} {n : Nat}
theorem k_in6 : ev xs L 115 6 [vL (6 : Int64), vL (0 : Int64), vL (6 : Int64)] (mw f a g) = some (some (vI 1), mw f a g) := e_isIn.trans (by rw [show isl 0 6 6 = true by decide]; rfl)
theorem m_of {o k : Nat} (hM : isM a 45 S) (W : WF S n) (ho : o < n) (hk : k < 6) : rn xs L 139 0 [vR 44, vI (nI o), vI (nI k)] [] (mw f a g) = some (some (vI (lf S o k)), mw f a g) := by
  have h8 := W.n8
  have h2 : isw 0 6 (nI k) = true := by
    unfold isw
    rw [show (6 : Int32) = nI 6 from rfl]
    simp [nn_neg (i := k) (by omega), nn_lt (i := 6) (j := k) (by omega) (by omega)]
    omega
  have h6 : ¬ nI k = 6 := by
    rw [show (6 : Int32) = nI 6 from rfl, nn_eq (by omega) (by omega)]
    omega
  simp [b139_0, b139_5, b139_8, b139_17, b139_20, b139_22, b139_28, b139_33, b139_36, b139_42, m_has hM W, m_in_0_6, has_of ho h8, h2, h6, bI, m_its hM (show o < 8 by omega) hk]
end S57
theorem op_of {leaf what : Int32} : TOP 62 3 139 3 [vI leaf, vI what] := by
  refine TOP.rd (fun xs L S n W => ?_)
  have h8 := W.n8
  by_cases h : hasR n leaf = true
  · obtain ⟨o, ho, rfl⟩ := hasR_to h8 h
    have hn : (nI o).toNatClampNeg = o := nn_nat (by omega)
    have hin : ma_in (nI o) 8 = true := in_of (by omega) (by decide)
    by_cases h2 : isw 0 6 what = true
    · obtain ⟨k, hk, rfl⟩ := isw_nn 6 rfl (by decide) h2
      by_cases h6 : k = 6
      · subst h6
        refine ⟨vI (matesR S n o), fun f a g hT => ?_, fun f a g hM => ?_⟩
        · show rn xs L 62 0 [vR 0, vI (nI o), vI 6] [] (mw f a g) = _
          simp [b62_0, b62_8, b62_11, b62_13, b62_56, b62_66, b62_76, b62_86, b62_96, b62_104, b62_107, b62_111, b62_113, b62_123, b62_131, b62_132, c_has tr1 hT.L, h, bI, c_mates tr1 W hT.L ho]
        · show rn xs L 139 0 [vR 44, vI (nI o), vI 6] [] (mw f a g) = _
          simp [b139_0, b139_5, b139_8, b139_17, b139_20, b139_22, b139_28, b139_33, b139_36, b139_42, m_has hM W, k_in6, h, bI, m_mates hM W ho]
      · refine ⟨vI (lf S o k), fun f a g hT => ?_, fun f a g hM => m_of hM W ho (by omega)⟩
        have hg := c_hangs (xs := xs) (L := L) (g := g) tr1 W hT.L ho
        have l0 := hT.L.knd o ho
        have l1 := hT.L.bgh o ho
        have l2 := hT.hol o ho
        have l3 := hT.L.sgn o ho
        have l5 := hT.L.nth o ho
        have hgs := W.hgs o ho
        have : k = 0 ∨ k = 1 ∨ k = 2 ∨ k = 3 ∨ k = 4 ∨ k = 5 := by omega
        rcases this with rfl | rfl | rfl | rfl | rfl | rfl
        · show rn xs L 62 0 [vR 0, vI (nI o), vI 0] [] (mw f a g) = _
          simp [b62_0, b62_8, b62_11, b62_13, b62_56, b62_66, b62_76, b62_86, b62_96, b62_104, b62_107, b62_111, b62_113, b62_123, b62_131, b62_132, c_has tr1 hT.L, h, bI, hin, hn, l0]
        · show rn xs L 62 0 [vR 0, vI (nI o), vI 1] [] (mw f a g) = _
          simp [b62_0, b62_8, b62_11, b62_13, b62_56, b62_66, b62_76, b62_86, b62_96, b62_104, b62_107, b62_111, b62_113, b62_123, b62_131, b62_132, c_has tr1 hT.L, h, bI, hin, hn, l1]
        · show rn xs L 62 0 [vR 0, vI (nI o), vI 2] [] (mw f a g) = _
          simp [b62_0, b62_8, b62_11, b62_13, b62_56, b62_66, b62_76, b62_86, b62_96, b62_104, b62_107, b62_111, b62_113, b62_123, b62_131, b62_132, c_has tr1 hT.L, h, bI, hin, hn, l2]
        · show rn xs L 62 0 [vR 0, vI (nI o), vI 3] [] (mw f a g) = _
          simp [b62_0, b62_8, b62_11, b62_13, b62_56, b62_66, b62_76, b62_86, b62_96, b62_104, b62_107, b62_111, b62_113, b62_123, b62_131, b62_132, c_has tr1 hT.L, h, bI, hin, hn, l3]
        · show rn xs L 62 0 [vR 0, vI (nI o), vI 4] [] (mw f a g) = _
          by_cases h5 : lf S o 5 = 0
          · rw [if_pos h5] at hgs
            simp [b62_0, b62_8, b62_11, b62_13, b62_56, b62_66, b62_76, b62_86, b62_96, b62_104, b62_107, b62_111, b62_113, b62_123, b62_131, b62_132, c_has tr1 hT.L, h, bI, hg, W.hg_iff ho, h5, hgs]
          · rw [if_neg h5] at hgs
            simp [b62_0, b62_8, b62_11, b62_13, b62_56, b62_66, b62_76, b62_86, b62_96, b62_104, b62_107, b62_111, b62_113, b62_123, b62_131, b62_132, c_has tr1 hT.L, h, bI, hg, W.hg_iff ho, h5, hgs]
        · show rn xs L 62 0 [vR 0, vI (nI o), vI 5] [] (mw f a g) = _
          simp [b62_0, b62_8, b62_11, b62_13, b62_56, b62_66, b62_76, b62_86, b62_96, b62_104, b62_107, b62_111, b62_113, b62_123, b62_131, b62_132, c_has tr1 hT.L, h, bI, hin, hn, l5]
    · have hx : ∀ m : Nat, m ≤ 6 → ¬ what = nI m := fun m hm e => h2 (by
        subst e
        unfold isw
        rw [show (6 : Int32) = nI 6 from rfl]
        simp [nn_neg (i := m) (by omega), nn_lt (i := 6) (j := m) (by omega) (by omega)]
        omega)
      have x0 : ¬ what = 0 := hx 0 (by omega)
      have x1 : ¬ what = 1 := hx 1 (by omega)
      have x2 : ¬ what = 2 := hx 2 (by omega)
      have x3 : ¬ what = 3 := hx 3 (by omega)
      have x4 : ¬ what = 4 := hx 4 (by omega)
      have x5 : ¬ what = 5 := hx 5 (by omega)
      have x6 : ¬ what = 6 := hx 6 (by omega)
      refine ⟨vI (-1), fun f a g hT => ?_, fun f a g hM => ?_⟩
      · show rn xs L 62 0 [vR 0, vI (nI o), vI what] [] (mw f a g) = _
        simp [b62_0, b62_8, b62_11, b62_13, b62_56, b62_66, b62_76, b62_86, b62_96, b62_104, b62_107, b62_111, b62_113, b62_123, b62_131, b62_132, c_has tr1 hT.L, h, bI, x0, x1, x2, x3, x4, x5, x6]
      · show rn xs L 139 0 [vR 44, vI (nI o), vI what] [] (mw f a g) = _
        simp [b139_0, b139_5, b139_8, b139_17, b139_20, b139_22, b139_28, b139_33, b139_36, b139_42, m_has hM W, m_in_0_6, h, h2, bI]
  · refine ⟨vI (-1), fun f a g hT => ?_, fun f a g hM => ?_⟩
    · show rn xs L 62 0 [vR 0, vI leaf, vI what] [] (mw f a g) = _
      simp [b62_0, b62_8, b62_11, b62_13, b62_56, b62_66, b62_76, b62_86, b62_96, b62_104, b62_107, b62_111, b62_113, b62_123, b62_131, b62_132, c_has tr1 hT.L, h, bI]
    · show rn xs L 139 0 [vR 44, vI leaf, vI what] [] (mw f a g) = _
      simp [b139_0, b139_5, b139_8, b139_17, b139_20, b139_22, b139_28, b139_33, b139_36, b139_42, m_has hM W, h, bI]
