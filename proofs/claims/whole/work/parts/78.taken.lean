/-! ===== taken: the call ===== -/
theorem tk_rng (x : Int32) : (isw 10 13 x || isw 0 5 x) = (isw 0 13 x && !isw 6 9 x) := by
  have h10 : (10 : Int32).toInt = 10 := by decide
  have h13 : (13 : Int32).toInt = 13 := by decide
  have h0 : (0 : Int32).toInt = 0 := by decide
  have h5 : (5 : Int32).toInt = 5 := by decide
  have h6 : (6 : Int32).toInt = 6 := by decide
  have h9 : (9 : Int32).toInt = 9 := by decide
  rw [Bool.eq_iff_iff]
  unfold isw
  simp [Int32.lt_iff_toInt_lt, h10, h13, h0, h5, h6, h9]
  omega
theorem tk_und : ∀ v, v < 6 → ∀ k, k < 14 → 10 ≤ k → undR (nI v) (nI k) = false := by decide
theorem tk_row : ∀ s, s < 4 → ∀ k, k < 6 → ¬ nI s = nI k - 10 := by decide
theorem op_taken {h x : Int32} : OPS 104 5 202 4 [vI h, vI x] := by
  refine OPS.rd (fun xs L f a g hs => ?_)
  obtain ⟨S, n, W, hT, hM⟩ := hs.tree
  have h8 := W.n8
  have hmx : ∀ l3, rn xs L 202 7 [vR 44, vI h, vI x, l3] [] (mw f a g) = if (isw 0 13 x && !isw 6 9 x) = true then rn xs L 202 35 [vR 44, vI h, vI x, l3] [] (mw f a g) else some (some (vI (-1)), mw f a g) := fun l3 => by
    rw [b202_7, m_in_0_13]
    simp only [Option.bind_some, Option.toList_some, List.cons_append, List.nil_append]
    rw [b202_16]
    cases e : isw 0 13 x with
    | false => rw [if_pos (by decide), b202_33, if_neg (by simp)]
    | true =>
      rw [if_neg (by decide), b202_19, m_in_6_9]
      simp only [Option.bind_some, Option.toList_some, List.cons_append, List.nil_append]
      rw [b202_30]
      cases e2 : isw 6 9 x with
      | false => rw [if_pos (by decide), if_pos (by decide)]
      | true => rw [if_neg (by decide), b202_33, if_neg (by decide)]
  by_cases h1 : isw 0 3 h = true
  rotate_left
  · have h1f : isw 0 3 h = false := by simpa using h1
    refine ⟨vI (-1), ?_, ?_⟩
    · show rn xs L 104 0 [vR 0, vI h, vI x, vS 0, vS 0] [] (mw f a g) = _
      rw [b104_0, e_within]
      simp only [Option.bind_some, Option.toList_some, List.cons_append, List.nil_append]
      rw [b104_8, e_within, h1f]
      simp only [Option.bind_some, Option.toList_some, List.cons_append, List.nil_append]
      rw [b104_15, if_pos (by decide), b104_31]
    · show rn xs L 202 0 [vR 44, vI h, vI x, vS 0] [] (mw f a g) = _
      rw [b202_0, m_isShelf, h1f]
      simp only [Option.bind_some, Option.toList_some, List.cons_append, List.nil_append]
      rw [b202_4, if_pos (by decide), b202_33]
  obtain ⟨q, hq', rfl⟩ := isw_nn 3 rfl (by decide) h1
  have hq : q < 4 := by omega
  have hin : ma_in (nI q) 4 = true := in_of hq (by decide)
  have hnq : (nI q).toNatClampNeg = q := nn_nat (by omega)
  have hsf := is_sf_q hq
  have hcs : rn xs L 104 0 [vR 0, vI (nI q), vI x, vS 0, vS 0] [] (mw f a g) = if (isw 10 13 x || isw 0 5 x) = true then rn xs L 104 33 [vR 0, vI (nI q), vI x, vI (bI (isw 10 13 x)), vS 0] [] (mw f a g) else some (some (vI (-1)), mw f a g) := by
    rw [b104_0, e_within]
    simp only [Option.bind_some, Option.toList_some, List.cons_append, List.nil_append]
    rw [b104_8, e_within, h1]
    simp only [Option.bind_some, Option.toList_some, List.cons_append, List.nil_append]
    rw [b104_15, if_neg (by decide), b104_18]
    cases e : isw 10 13 x with
    | true => rw [if_neg (by decide), if_pos (by simp)]
    | false =>
      rw [if_pos (by decide), b104_22, e_within]
      simp only [Option.bind_some, Option.toList_some, List.cons_append, List.nil_append]
      rw [b104_28]
      cases e2 : isw 0 5 x with
      | true => rw [if_neg (by decide), if_pos (by decide)]
      | false => rw [if_pos (by decide), b104_31, if_neg (by decide)]
  have hms : rn xs L 202 0 [vR 44, vI (nI q), vI x, vS 0] [] (mw f a g) = rn xs L 202 7 [vR 44, vI (nI q), vI x, vS 0] [] (mw f a g) := by
    rw [b202_0, m_isShelf, h1]
    simp only [Option.bind_some, Option.toList_some, List.cons_append, List.nil_append]
    rw [b202_4, if_neg (by decide)]
  by_cases h2 : (isw 10 13 x || isw 0 5 x) = true
  rotate_left
  · refine ⟨vI (-1), ?_, ?_⟩
    · show rn xs L 104 0 [vR 0, vI (nI q), vI x, vS 0, vS 0] [] (mw f a g) = _
      rw [hcs, if_neg h2]
    · show rn xs L 202 0 [vR 44, vI (nI q), vI x, vS 0] [] (mw f a g) = _
      rw [hms, hmx, ← tk_rng, if_neg h2]
  obtain ⟨k, hk, rfl⟩ : ∃ k, (k < 6 ∨ (10 ≤ k ∧ k < 14)) ∧ x = nI k := by
    have h3 := h2
    rw [tk_rng, Bool.and_eq_true] at h3
    obtain ⟨k, hk, rfl⟩ := isw_nn 13 rfl (by decide) h3.1
    refine ⟨k, ?_, rfl⟩
    have h6 : isw 6 9 (nI k) = (decide (6 ≤ k) && decide (k ≤ 9)) := isw_lt0 (by omega) rfl (lo := 6) (hi := 9) (by decide) (by decide)
    rw [h6] at h3
    simp at h3
    omega
  rw [if_pos h2] at hcs
  have hmx2 := hmx (vS 0)
  rw [← tk_rng, if_pos h2] at hmx2
  rw [hmx2, b202_35, m_heldOn hq hM W] at hms
  simp only [Option.bind_some, Option.toList_some, List.cons_append, List.nil_append] at hms
  rw [b104_33 _ _ _ _ hin, hnq, c_nothing hq hT] at hcs
  simp only [Option.bind_some, Option.toList_some, List.cons_append, List.nil_append] at hcs
  have hlt10 : (nI k < (10 : Int32)) ↔ k < 10 := by rw [show (10 : Int32) = nI 10 from rfl, nn_lt (by omega) (by omega)]
  rcases hs.shls q hq with ⟨d1, d2⟩ | ⟨o, ho, d1, d2, d3, d4⟩ | ⟨s, hs4, d1, d2, d3, d4, d5⟩
  · refine ⟨vI (-11), ?_, ?_⟩
    · show rn xs L 104 0 [vR 0, vI (nI q), vI (nI k), vS 0, vS 0] [] (mw f a g) = _
      rw [hcs, d1, show (decide ((2 : Int32) = 2) || decide ((2 : Int32) = 0) && !hasR n (f (40 + q) 1)) = true from rfl, b104_47 _ _ _ _ _ hsf, if_neg (by decide), b104_50 _ _ _ _ hsf]
    · show rn xs L 202 0 [vR 44, vI (nI q), vI (nI k), vS 0] [] (mw f a g) = _
      rw [hms, d2, if_neg (by decide), b202_40, if_pos rfl, b202_45]
  · by_cases hh : hasR n (nI o) = true
    · obtain ⟨o2, ho2, e2⟩ := hasR_to h8 hh
      have e3 : o = o2 := (nn_eq (by omega) (by omega)).mp e2
      have hon : o < n := by omega
      obtain ⟨v, hv, hkd⟩ := W.knd o hon
      have hino : ma_in (nI o) 8 = true := in_of (by omega) (by decide)
      have hno : (nI o).toNatClampNeg = o := nn_nat (by omega)
      have ht4 : a 4 o = lf S o 0 := hT.L.knd o hon
      rw [d1, d3, hh, b104_47 _ _ _ _ _ hsf, if_pos (by decide), b104_53 _ _ _ _ hsf, d1, if_neg (by decide), b104_85 _ _ _ _ hsf (by rw [d3]; exact hino), d3, hno, ht4, c_under] at hcs
      simp only [Option.bind_some, Option.toList_some, List.cons_append, List.nil_append] at hcs
      rw [b104_102 _ _ _ _ _ hsf] at hcs
      rw [d2, if_pos rfl, d4, hh, if_pos rfl, b202_40, if_neg (by decide), b202_48] at hms
      rcases hk with hk | ⟨hk, hk2⟩
      · rw [if_pos (hlt10.mpr (by omega)), b202_54, if_pos rfl, b202_59 _ _ _ hin, hnq, d4, m_its0 hM (by omega)] at hms
        simp only [Option.bind_some, Option.toList_some, List.cons_append, List.nil_append] at hms
        rw [b202_70, m_under] at hms
        simp only [Option.bind_some, Option.toList_some, List.cons_append, List.nil_append] at hms
        rw [b202_74] at hms
        cases e : undR (lf S o 0) (nI k) with
        | true =>
          rw [e, if_neg (by decide)] at hms hcs
          refine ⟨vI (nI o), ?_, ?_⟩
          · show rn xs L 104 0 [vR 0, vI (nI q), vI (nI k), vS 0, vS 0] [] (mw f a g) = _
            rw [hcs, b104_105 _ _ _ _ hsf, d3]
          · show rn xs L 202 0 [vR 44, vI (nI q), vI (nI k), vS 0] [] (mw f a g) = _
            rw [hms, b202_77 _ _ _ hin, hnq, d4]
        | false =>
          rw [e, if_pos (by decide)] at hms hcs
          refine ⟨vI (-13), ?_, ?_⟩
          · show rn xs L 104 0 [vR 0, vI (nI q), vI (nI k), vS 0, vS 0] [] (mw f a g) = _
            rw [hcs, b104_113 _ _ _ _ hsf]
          · show rn xs L 202 0 [vR 44, vI (nI q), vI (nI k), vS 0] [] (mw f a g) = _
            rw [hms, b202_86]
      · rw [if_neg (fun z => absurd (hlt10.mp z) (by omega)), b202_89, if_neg (by decide), b202_116] at hms
        rw [hkd, tk_und v (by omega) k hk2 hk, if_pos (by decide), b104_113 _ _ _ _ hsf] at hcs
        exact ⟨vI (-13), hcs, hms⟩
    · have hf : hasR n (nI o) = false := by simpa using hh
      refine ⟨vI (-11), ?_, ?_⟩
      · show rn xs L 104 0 [vR 0, vI (nI q), vI (nI k), vS 0, vS 0] [] (mw f a g) = _
        rw [hcs, d1, d3, hf, b104_47 _ _ _ _ _ hsf, if_neg (by decide), b104_50 _ _ _ _ hsf]
      · show rn xs L 202 0 [vR 44, vI (nI q), vI (nI k), vS 0] [] (mw f a g) = _
        rw [hms, d2, if_pos rfl, d4, hf, if_neg (by decide), b202_40, if_pos rfl, b202_45]
  · rw [d1, show (decide ((1 : Int32) = 2) || decide ((1 : Int32) = 0) && !hasR n (f (40 + q) 1)) = false from rfl, b104_47 _ _ _ _ _ hsf, if_pos (by decide), b104_53 _ _ _ _ hsf, d1, if_pos rfl, b104_62 _ _ _ _ hsf, d3] at hcs
    rw [d2, if_neg (by decide), b202_40, if_neg (by decide), b202_48] at hms
    rcases hk with hk | ⟨hk, hk2⟩
    · rw [if_pos (hlt10.mpr (by omega)), b202_54, if_neg (by decide), b202_86] at hms
      rw [if_neg (tk_row s hs4 k hk), b104_82 _ _ _ _ hsf] at hcs
      exact ⟨vI (-13), hcs, hms⟩
    · rw [if_neg (fun z => absurd (hlt10.mp z) (by omega)), b202_89, if_pos rfl, b202_94 _ _ _ hin, hnq, d4] at hms
      by_cases e : nI s = nI k - 10
      · rw [if_pos e] at hms hcs
        rw [b104_74 _ _ _ _ hsf, d5] at hcs
        rw [b202_107 _ _ _ hin, hnq] at hms
        exact ⟨vI (a 57 q), hcs, hms⟩
      · rw [if_neg e] at hms hcs
        rw [b104_82 _ _ _ _ hsf] at hcs
        rw [b202_116] at hms
        exact ⟨vI (-13), hcs, hms⟩
