/-! ===== mind, days ===== -/
theorem u2_comm {α : Type} {f : Nat → Nat → α} {q i r j : Nat} {v u : α} (h : q ≠ r) : ma_u2 (ma_u2 f q i v) r j u = ma_u2 (ma_u2 f r j u) q i v := by
  funext x y
  rw [u2_at, u2_at, u2_at, u2_at]
  by_cases h1 : x = r ∧ y = j
  · rw [if_pos h1, if_neg (fun z => h (z.1.symm.trans h1.1)), if_pos h1]
  · rw [if_neg h1, if_neg h1]
theorem ix0 {o : Nat} : (14 : Int32) + 6 * nI o = nI (14 + 6 * o + 0) := by
  rw [show (14 : Int32) = nI 14 from rfl, show (6 : Int32) = nI 6 from rfl, nn_mul, nn_add]
  rfl
theorem op_mind {leaf v u : Int32} : TOP 64 5 148 4 [vI leaf, vI v, vI u] := by
  intro xs L S n W
  have h8 := W.n8
  by_cases h : hasR n leaf = true
  · obtain ⟨o, ho, rfl⟩ := hasR_to h8 h
    have hn : (nI o).toNatClampNeg = o := nn_nat (by omega)
    have hin : ma_in (nI o) 8 = true := in_of (by omega) (by decide)
    have e3 : (14 : Int32) + 6 * nI o + 3 = nI (14 + 6 * o + 3) := ixN (c := 3)
    have hin3 : ma_in (nI (14 + 6 * o + 3)) 62 = true := in_of (by omega) (by decide)
    have hn3 : (nI (14 + 6 * o + 3)).toNatClampNeg = 14 + 6 * o + 3 := nn_nat (by omega)
    by_cases h2 : isw 0 5 v = true
    · by_cases h3 : isw 0 9 u = true
      · obtain ⟨v', hv, ev'⟩ := isw_nn 5 rfl (by decide) h2
        obtain ⟨u', hu, eu'⟩ := isw_nn 9 rfl (by decide) h3
        have W1 : WF (up1 S (14 + 6 * o + 3) u) n := W.hi (by decide) hu eu'
        refine ⟨vI (lf S o 0), up1 (up1 S (14 + 6 * o + 3) u) (14 + 6 * o + 0) v, n, W1.hi (by decide) hv ev', fun f a g hT => ⟨f, ma_u2 (ma_u2 a 7 o u) 4 o v, ?_, c_setLf (c := 0) (c_setLf (c := 3) hT (by decide)) (by decide), fun q hq => ⟨rfl, by rw [u2_ne (by omega), u2_ne (by omega)], rfl⟩⟩, fun f a g hM => ⟨ma_u2 (ma_u2 a 45 (14 + 6 * o + 3) u) 45 (14 + 6 * o + 0) v, ?_, hM.up.up, fun q hq _ _ _ => by rw [u2_ne hq, u2_ne hq]⟩⟩
        · show rn xs L 64 0 [vR 0, vI (nI o), vI v, vI u, vS 0] [] (mw f a g) = _
          have hl := hT.L.knd o ho
          rw [u2_comm (q := 7) (r := 4) (by decide)]
          simp [b64_0, b64_8, b64_11, b64_17, b64_20, b64_27, b64_30, b64_32, c_has tr1 hT.L, e_within, h, h2, h3, bI, hin, hn, hl]
        · show rn xs L 148 0 [vR 44, vI (nI o), vI v, vI u] [] (mw f a g) = _
          have hM1 : isM (ma_u2 a 45 (14 + 6 * o + 3) u) 45 (up1 S (14 + 6 * o + 3) u) := hM.up
          have hb := m_becomes (xs := xs) (L := L) (f := f) (g := g) (v := v) hM1 (k := 14 + 6 * o + 0) (by omega)
          rw [up1_at, if_neg (by omega), ← ix0] at hb
          simp [b148_0, b148_5, b148_8, b148_17, b148_20, b148_29, b148_32, b148_34, b148_61, m_has hM W, m_in_0_5, m_in_0_9, h, h2, h3, bI, e3, hin3, hn3, hb]
          rfl
      · refine ⟨vI (-1), S, n, W, fun f a g hT => ⟨f, a, ?_, hT, same.refl⟩, fun f a g hM => ⟨a, ?_, hM, fun _ _ _ _ _ => rfl⟩⟩
        · show rn xs L 64 0 [vR 0, vI (nI o), vI v, vI u, vS 0] [] (mw f a g) = _
          simp [b64_0, b64_8, b64_11, b64_17, b64_20, b64_27, b64_30, b64_32, c_has tr1 hT.L, e_within, h, h2, h3, bI]
        · show rn xs L 148 0 [vR 44, vI (nI o), vI v, vI u] [] (mw f a g) = _
          simp [b148_0, b148_5, b148_8, b148_17, b148_20, b148_29, b148_32, b148_34, b148_61, m_has hM W, m_in_0_5, m_in_0_9, h, h2, h3, bI]
    · refine ⟨vI (-1), S, n, W, fun f a g hT => ⟨f, a, ?_, hT, same.refl⟩, fun f a g hM => ⟨a, ?_, hM, fun _ _ _ _ _ => rfl⟩⟩
      · show rn xs L 64 0 [vR 0, vI (nI o), vI v, vI u, vS 0] [] (mw f a g) = _
        simp [b64_0, b64_8, b64_11, b64_17, b64_20, b64_27, b64_30, b64_32, c_has tr1 hT.L, e_within, h, h2, bI]
      · show rn xs L 148 0 [vR 44, vI (nI o), vI v, vI u] [] (mw f a g) = _
        simp [b148_0, b148_5, b148_8, b148_17, b148_20, b148_29, b148_32, b148_34, b148_61, m_has hM W, m_in_0_5, h, h2, bI]
  · refine ⟨vI (-1), S, n, W, fun f a g hT => ⟨f, a, ?_, hT, same.refl⟩, fun f a g hM => ⟨a, ?_, hM, fun _ _ _ _ _ => rfl⟩⟩
    · show rn xs L 64 0 [vR 0, vI leaf, vI v, vI u, vS 0] [] (mw f a g) = _
      simp [b64_0, b64_8, b64_11, b64_17, b64_20, b64_27, b64_30, b64_32, c_has tr1 hT.L, h, bI]
    · show rn xs L 148 0 [vR 44, vI leaf, vI v, vI u] [] (mw f a g) = _
      simp [b148_0, b148_5, b148_8, b148_17, b148_20, b148_29, b148_32, b148_34, b148_61, m_has hM W, h, bI]
/-- k days, a set tied -/
def daysS (S : Row) (n : Nat) (ti : Int32) : Nat → Row
  | 0 => S
  | k + 1 => passS (daysS S n ti k) n ti
theorem WF.days {S : Row} {n : Nat} {ti : Int32} (W : WF S n) : ∀ k, WF (daysS S n ti k) n
  | 0 => W
  | k + 1 => (WF.days W k).pass
theorem days_pass {T : Row} {n : Nat} {ti : Int32} : ∀ k, daysS T n ti (k + 1) = daysS (passS T n ti) n ti k
  | 0 => rfl
  | k + 1 => by
    show passS (daysS T n ti (k + 1)) n ti = passS (daysS (passS T n ti) n ti k) n ti
    rw [days_pass k]
section S56
variable {xs : Nat → Int32} {L : Nat} {g : Nat → Nat → Int64} {S : Row} {n : Nat}
/-- the loops of days -/
theorem c_days {m : Nat} (hm : m < 2147483648) : ∀ (k i : Nat) (T : Row) (f a : Nat → Nat → Int32), i + k = m → WF T n → isT 1 f a T n 0 → ∃ f1 a1, rn xs L 70 14 [vR 0, vI (nI m), vI (nI i)] [] (mw f a g) = some (some (vI (cntH (daysS T n 0 k) n)), mw f1 a1 g) ∧ isT 1 f1 a1 (daysS T n 0 k) n 0 ∧ same (fun o => o < 1 ∨ 17 ≤ o) f a g f1 a1 g
  | 0, i, T, f, a, hi, W, hT => by
    refine ⟨f, a, ?_, hT, same.refl⟩
    rw [b70_14, if_neg (by rw [nn_lt (by omega) (by omega)]; omega)]
    simp [b70_0, b70_7, b70_10, b70_12, b70_19, b70_26, b70_33, b70_40, c_hanging tr1 W hT, daysS]
  | k + 1, i, T, f, a, hi, W, hT => by
    obtain ⟨f1, a1, e1, hT1, hs1⟩ := c_passDay (xs := xs) (L := L) (g := g) tr1 W hT
    obtain ⟨f2, a2, e2, hT2, hs2⟩ := c_days hm k (i + 1) _ f1 a1 (by omega) W.pass hT1
    refine ⟨f2, a2, ?_, ?_, (same_tree hs1).trans hs2⟩
    · rw [b70_14, if_pos (by rw [nn_lt (by omega) (by omega)]; omega), b70_19, e1]
      simp only [Option.bind_some, Option.toList_some, List.cons_append, List.nil_append]
      rw [b70_26, nn_add1, e2, days_pass]
    · rw [days_pass]; exact hT2
theorem m_days {m : Nat} (hm : m < 2147483648) : ∀ (k i : Nat) (T : Row) (f a : Nat → Nat → Int32) (l : ma_V), i + k = m → WF T n → isM a 45 T → ∃ a1, rn xs L 156 16 [vR 44, vI (nI m), vI (nI i), l] [] (mw f a g) = some (some (vI (cntH (daysS T n 0 k) n)), mw f a1 g) ∧ isM a1 45 (daysS T n 0 k) ∧ (∀ q, q ≠ 45 → q ≠ 47 → q ≠ 48 → q ≠ 50 → a1 q = a q)
  | 0, i, T, f, a, l, hi, W, hM => by
    refine ⟨a, ?_, hM, fun _ _ _ _ _ => rfl⟩
    rw [b156_16, if_neg (by rw [nn_lt (by omega) (by omega)]; omega)]
    simp [b156_0, b156_9, b156_12, b156_14, b156_21, b156_26, b156_33, b156_37, b156_40, m_hanging hM W, m_sizeH W, daysS]
  | k + 1, i, T, f, a, l, hi, W, hM => by
    obtain ⟨a1, e1, hM1, ha1⟩ := m_goesBy (xs := xs) (L := L) (f := f) (g := g) (ti := 0) hM W
    obtain ⟨a2, e2, hM2, ha2⟩ := m_days hm k (i + 1) _ f a1 (vI (encO (whoS T n 0))) (by omega) W.pass hM1
    refine ⟨a2, ?_, ?_, fun q h1 h2 h3 h4 => (ha2 q h1 h2 h3 h4).trans (ha1 q h1 h4)⟩
    · rw [b156_16, if_pos (by rw [nn_lt (by omega) (by omega)]; omega), b156_21, e1]
      simp only [Option.bind_some, Option.toList_some, List.cons_append, List.nil_append]
      rw [b156_26, nn_add1, e2, days_pass]
    · rw [days_pass]; exact hM2
end S56
theorem op_days {v : Int32} : TOP 70 3 156 4 [vI v] := by
  intro xs L S n W
  by_cases h : isw 1 60 v = true
  · have h0 : ¬ v < 0 := fun q => by
      unfold isw at h
      rw [Bool.and_eq_true] at h
      have h1 : ¬ v < 1 := by simpa using h.1
      exact h1 (Int32.lt_trans q (by decide))
    have hm : v.toNatClampNeg < 2147483648 := clamp_lt
    have hv := nn_of h0
    refine ⟨vI (cntH (daysS S n 0 v.toNatClampNeg) n), daysS S n 0 v.toNatClampNeg, n, W.days _, fun f a g hT => ?_, fun f a g hM => ?_⟩
    · obtain ⟨f1, a1, e1, hT1, hs1⟩ := c_days (xs := xs) (L := L) (g := g) hm v.toNatClampNeg 0 S f a (by omega) W hT
      refine ⟨f1, a1, ?_, hT1, hs1⟩
      show rn xs L 70 0 [vR 0, vI v, vS 0] [] (mw f a g) = _
      rw [← hv] at e1
      simp [b70_0, b70_7, b70_10, b70_12, b70_19, b70_26, b70_33, b70_40, e_within, h, bI]
      exact e1
    · obtain ⟨a1, e1, hM1, ha1⟩ := m_days (xs := xs) (L := L) (g := g) hm v.toNatClampNeg 0 S f a (vS 0) (by omega) W hM
      refine ⟨a1, ?_, hM1, ha1⟩
      show rn xs L 156 0 [vR 44, vI v, vS 0, vS 0] [] (mw f a g) = _
      rw [← hv] at e1
      simp [b156_0, b156_9, b156_12, b156_14, b156_21, b156_26, b156_33, b156_37, b156_40, m_in_1_60, h, bI]
      exact e1
  · refine ⟨vI (-1), S, n, W, fun f a g hT => ⟨f, a, ?_, hT, same.refl⟩, fun f a g hM => ⟨a, ?_, hM, fun _ _ _ _ _ => rfl⟩⟩
    · show rn xs L 70 0 [vR 0, vI v, vS 0] [] (mw f a g) = _
      simp [b70_0, b70_7, b70_10, b70_12, b70_19, b70_26, b70_33, b70_40, e_within, h, bI]
    · show rn xs L 156 0 [vR 44, vI v, vS 0, vS 0] [] (mw f a g) = _
      simp [b156_0, b156_9, b156_12, b156_14, b156_21, b156_26, b156_33, b156_37, b156_40, m_in_1_60, h, bI]
