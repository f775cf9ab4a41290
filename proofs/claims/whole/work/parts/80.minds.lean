/-! ===== minds ===== -/
def mndS (S : Row) (o k : Nat) (it : Nat → Int32) : Nat → Row
  | 0 => S
  | j + 1 => up1 (mndS S o k it j) (14 + 6 * (o + j) + 2) (clp (it (k + j)))
theorem WF.mnd {S : Row} {n o k : Nat} {it : Nat → Int32} (W : WF S n) : ∀ j, WF (mndS S o k it j) n
  | 0 => W
  | j + 1 => by
    obtain ⟨u, hu, e⟩ := clp_in (it (k + j))
    exact (WF.mnd W j).hi (c := 2) (u := u) (by decide) hu e
section S80
variable {xs : Nat → Int32} {L : Nat} {g : Nat → Nat → Int64} {S : Row} {n o k m l : Nat} {it : Nat → Int32}
theorem c_minds0 {t : Nat} {l1 : Int32} (ht : is_sh t) (hn : n ≤ 8) (hom : o + m ≤ n) (hk : k + m ≤ 40) (hg : ∀ i, i < 40 → g (t + 1) i = (it i).toInt64) : ∀ (r j : Nat) (f a : Nat → Nat → Int32), j + r = m → isT 1 f a (mndS S o k it j) n 0 → ∃ a1, rn xs L 99 108 [vR 0, vI l1, vI (nI k), vI (nI o), vI (nI m), vR t, vI (nI j)] [] (mw f a g) = some (some (vI (nI m)), mw f a1 g) ∧ isT 1 f a1 (mndS S o k it m) n 0 ∧ (∀ q, q ≠ 6 → a1 q = a q)
  | 0, j, f, a, hj, hT => by
    have e : j = m := by omega
    subst e
    refine ⟨a, ?_, hT, fun _ _ => rfl⟩
    rw [b99_108 _ _ _ _ _ _ ht, if_neg (by rw [nn_lt (by omega) (by omega)]; omega), b99_147 _ _ _ _ _ _ ht]
  | r + 1, j, f, a, hj, hT => by
    have hin1 : ma_in (nI (k + j)) 40 = true := in_of (by omega) (by decide)
    have hin2 : ma_in (nI (o + j)) 8 = true := in_of (by omega) (by decide)
    have hT2 : isT 1 f (ma_u2 a 6 (o + j) (clp (it (k + j)))) (mndS S o k it (j + 1)) n 0 := c_setLf (c := 2) hT (by decide)
    obtain ⟨a1, e1, hT1, ha1⟩ := c_minds0 (l1 := l1) ht hn hom hk hg r (j + 1) f _ (by omega) hT2
    refine ⟨a1, ?_, hT1, fun q hq => by rw [ha1 q hq, u2_ne hq]⟩
    rw [b99_108 _ _ _ _ _ _ ht, if_pos (by rw [nn_lt (by omega) (by omega)]; omega), b99_115 _ _ _ _ _ _ ht (by rw [nn_add]; exact hin1), nn_add, nn_add, nn_nat (by omega), hg _ (by omega), l_back, e_held]
    simp only [Option.bind_some, Option.toList_some, List.cons_append, List.nil_append]
    rw [b99_140 _ _ _ _ _ _ _ _ ht hin2, nn_nat (by omega), nn_add1]
    exact e1
theorem m_minds0 {q : Nat} (hq : q < 4) (hn : n ≤ 8) (hom : o + m ≤ n) (hk : k + m ≤ 40) : ∀ (r j : Nat) (f a : Nat → Nat → Int32), j + r = m → isM a 45 (mndS S o k it j) → (∀ i, i < 40 → a 54 (40 * q + i) = it i) → ∃ a1, rn xs L 199 98 [vR 44, vI (nI q), vI (nI k), vI (nI o), vI (nI m), vI (nI j)] [] (mw f a g) = some (some (vI (nI m)), mw f a1 g) ∧ isM a1 45 (mndS S o k it m) ∧ (∀ p, p ≠ 45 → a1 p = a p)
  | 0, j, f, a, hj, hM, h54 => by
    have e : j = m := by omega
    subst e
    refine ⟨a, ?_, hM, fun _ _ => rfl⟩
    rw [b199_98, if_neg (by rw [nn_lt (by omega) (by omega)]; omega), b199_145]
  | r + 1, j, f, a, hj, hM, h54 => by
    have e1x : (40 : Int32) * nI q + nI k + nI j = nI (40 * q + (k + j)) := by rw [show (40 : Int32) = nI 40 from rfl, nn_mul, nn_add, nn_add, Nat.add_assoc]
    have hin1 : ma_in (nI (40 * q + (k + j))) 160 = true := in_of (by omega) (by decide)
    have e2x : (14 : Int32) + 6 * (nI o + nI j) + 2 = nI (14 + 6 * (o + j) + 2) := by rw [nn_add]; exact ixN (c := 2)
    have hin2 : ma_in (nI (14 + 6 * (o + j) + 2)) 62 = true := by rw [nn_in (by omega)]; simp; omega
    obtain ⟨a1, e1, hM1, ha1⟩ := m_minds0 hq hn hom hk r (j + 1) f (ma_u2 a 45 (14 + 6 * (o + j) + 2) (clp (it (k + j)))) (by omega) hM.up (fun i hi => by rw [u2_ne (by decide)]; exact h54 i hi)
    refine ⟨a1, ?_, hM1, fun p hp => by rw [ha1 p hp, u2_ne hp]⟩
    rw [b199_98, if_pos (by rw [nn_lt (by omega) (by omega)]; omega), b199_105 _ _ _ _ _ (by rw [e1x]; exact hin1), e1x, nn_nat (by omega), h54 _ (by omega), e_clp]
    simp only [Option.bind_some, Option.toList_some, List.cons_append, List.nil_append]
    rw [e2x, b199_138 _ _ _ _ _ _ _ hin2, nn_nat (by omega), nn_add1]
    exact e1
end S80
theorem op_minds {t i leaf v : Int32} : OPS 99 7 199 6 [vI t, vI i, vI leaf, vI v] := by
  intro xs L f a g hs
  obtain ⟨S, n, W, hT, hM⟩ := hs.tree
  have h8 := W.n8
  by_cases h1 : isw 0 3 t = true
  rotate_left
  · refine ⟨vI (-1), f, a, g, f, a, g, ?_, ?_, hs⟩
    · show rn xs L 99 0 [vR 0, vI t, vI i, vI leaf, vI v, vS 0, vS 0] [] (mw f a g) = _
      simp [b99_0, b99_6, b99_9, b99_17, b99_20, b99_28, b99_31, b99_45, b99_47, b99_60, b99_63, b99_66, b99_74, b99_77, b99_87, b99_90, b99_102, b99_105, b99_115, b99_140, b99_147, e_within, h1, bI]
    · show rn xs L 199 0 [vR 44, vI t, vI i, vI leaf, vI v, vS 0] [] (mw f a g) = _
      simp [b199_0, b199_4, b199_7, b199_12, b199_15, b199_25, b199_28, b199_41, b199_43, b199_49, b199_52, b199_58, b199_59, b199_72, b199_75, b199_92, b199_95, b199_105, b199_138, b199_145, m_isSheet, h1, bI]
  by_cases h2 : hasR n leaf = true
  rotate_left
  · refine ⟨vI (-1), f, a, g, f, a, g, ?_, ?_, hs⟩
    · show rn xs L 99 0 [vR 0, vI t, vI i, vI leaf, vI v, vS 0, vS 0] [] (mw f a g) = _
      simp [b99_0, b99_6, b99_9, b99_17, b99_20, b99_28, b99_31, b99_45, b99_47, b99_60, b99_63, b99_66, b99_74, b99_77, b99_87, b99_90, b99_102, b99_105, b99_115, b99_140, b99_147, e_within, h1, c_has tr1 hT.L, h2, bI]
    · show rn xs L 199 0 [vR 44, vI t, vI i, vI leaf, vI v, vS 0] [] (mw f a g) = _
      simp [b199_0, b199_4, b199_7, b199_12, b199_15, b199_25, b199_28, b199_41, b199_43, b199_49, b199_52, b199_58, b199_59, b199_72, b199_75, b199_92, b199_95, b199_105, b199_138, b199_145, m_isSheet, m_has hM W, h1, h2, bI]
  by_cases h3 : isw 0 8 v = true
  rotate_left
  · refine ⟨vI (-1), f, a, g, f, a, g, ?_, ?_, hs⟩
    · show rn xs L 99 0 [vR 0, vI t, vI i, vI leaf, vI v, vS 0, vS 0] [] (mw f a g) = _
      simp [b99_0, b99_6, b99_9, b99_17, b99_20, b99_28, b99_31, b99_45, b99_47, b99_60, b99_63, b99_66, b99_74, b99_77, b99_87, b99_90, b99_102, b99_105, b99_115, b99_140, b99_147, e_within, h1, c_has tr1 hT.L, h2, h3, bI]
    · show rn xs L 199 0 [vR 44, vI t, vI i, vI leaf, vI v, vS 0] [] (mw f a g) = _
      simp [b199_0, b199_4, b199_7, b199_12, b199_15, b199_25, b199_28, b199_41, b199_43, b199_49, b199_52, b199_58, b199_59, b199_72, b199_75, b199_92, b199_95, b199_105, b199_138, b199_145, m_isSheet, m_has hM W, m_in_0_8, h1, h2, h3, bI]
  obtain ⟨q, hq', rfl⟩ := isw_nn 3 rfl (by decide) h1
  obtain ⟨o, ho, rfl⟩ := hasR_to h8 h2
  obtain ⟨m, hm, rfl⟩ := isw_nn 8 rfl (by decide) h3
  have hq : q < 4 := by omega
  have hin : ma_in (nI q) 4 = true := in_of hq (by decide)
  have hnq : (nI q).toNatClampNeg = q := nn_nat (by omega)
  have hsh := is_sh_q hq
  have hgt : (nI n < nI o + nI m) ↔ n < o + m := by rw [nn_add, nn_lt (by omega) (by omega)]
  have hcn := hT.L.cnt
  have hmn : a 45 0 = nI n := (hM 0 (by decide)).trans W.cn
  have hcs : rn xs L 99 0 [vR 0, vI (nI q), vI i, vI (nI o), vI (nI m), vS 0, vS 0] [] (mw f a g) = rn xs L 99 31 [vR 0, vI (nI q), vI i, vI (nI o), vI (nI m), vS 0, vS 0] [] (mw f a g) := by
    rw [b99_0, e_within, h1]
    simp only [Option.bind_some, Option.toList_some, List.cons_append, List.nil_append]
    rw [b99_6, if_neg (by decide), b99_9, c_has tr1 hT.L, h2]
    simp only [Option.bind_some, Option.toList_some, List.cons_append, List.nil_append]
    rw [b99_17, if_neg (by decide), b99_20, e_within, h3]
    simp only [Option.bind_some, Option.toList_some, List.cons_append, List.nil_append]
    rw [b99_28, if_neg (by decide)]
  have hms : ∀ (a : Nat → Nat → Int32), isM a 45 S → rn xs L 199 0 [vR 44, vI (nI q), vI i, vI (nI o), vI (nI m), vS 0] [] (mw f a g) = rn xs L 199 28 [vR 44, vI (nI q), vI i, vI (nI o), vI (nI m), vS 0] [] (mw f a g) := fun a hM => by
    rw [b199_0, m_isSheet, h1]
    simp only [Option.bind_some, Option.toList_some, List.cons_append, List.nil_append]
    rw [b199_4, if_neg (by decide), b199_7, m_has hM W, h2]
    simp only [Option.bind_some, Option.toList_some, List.cons_append, List.nil_append]
    rw [b199_12, if_neg (by decide), b199_15, m_in_0_8, h3]
    simp only [Option.bind_some, Option.toList_some, List.cons_append, List.nil_append]
    rw [b199_25, if_neg (by decide)]
  by_cases h4 : n < o + m
  · refine ⟨vI (-1), f, a, g, f, a, g, ?_, ?_, hs⟩
    · show rn xs L 99 0 [vR 0, vI (nI q), vI i, vI (nI o), vI (nI m), vS 0, vS 0] [] (mw f a g) = _
      rw [hcs, b99_31, hcn, if_pos (hgt.mpr h4), b99_45]
    · show rn xs L 199 0 [vR 44, vI (nI q), vI i, vI (nI o), vI (nI m), vS 0] [] (mw f a g) = _
      rw [hms a hM, b199_28, hmn, if_pos (hgt.mpr h4), b199_41]
  have hcs2 : rn xs L 99 0 [vR 0, vI (nI q), vI i, vI (nI o), vI (nI m), vS 0, vS 0] [] (mw f a g) = rn xs L 99 60 [vR 0, vI (nI q), vI i, vI (nI o), vI (nI m), vR (32 + 2 * q), vS 0] [vI (bI (decide (f (32 + 2 * q) 1 = -1)))] (mw f a g) := by
    rw [hcs, b99_31, hcn, if_neg (fun z => h4 (hgt.mp z)), b99_47 _ _ _ _ _ _ hin, hnq, c_missing hsh]
    simp only [Option.bind_some, Option.toList_some, List.cons_append, List.nil_append]
  have hms2 : ∀ (a1 : Nat → Nat → Int32), isM a1 45 S → rn xs L 199 0 [vR 44, vI (nI q), vI i, vI (nI o), vI (nI m), vS 0] [] (mw f a1 g) = rn xs L 199 49 [vR 44, vI (nI q), vI i, vI (nI o), vI (nI m), vS 0] [vI (if a1 52 q < 0 then -11 else if a1 52 q = 0 then 0 else -13)] (mw f a1 g) := fun a1 hM1 => by
    have hmn1 : a1 45 0 = nI n := (hM1 0 (by decide)).trans W.cn
    rw [hms a1 hM1, b199_28, hmn1, if_neg (fun z => h4 (hgt.mp z)), b199_43, m_lacks hq]
    simp only [Option.bind_some, Option.toList_some, List.cons_append, List.nil_append]
  have hms3 : rn xs L 199 52 [vR 44, vI (nI q), vI i, vI (nI o), vI (nI m), vS 0] [] (mw f a g) = some (some (vI (if a 52 q < 0 then -11 else if a 52 q = 0 then 0 else -13)), mw f a g) := by
    rw [b199_52, m_lacks hq]
    simp only [Option.bind_some, Option.toList_some, List.cons_append, List.nil_append]
    rw [b199_58]
  rcases hs.shts q hq with ⟨d1, d2⟩ | ⟨s, l, hs4, hl, d1, d2, d3, d4, d5⟩
  · have hmm := hms2 a hM
    rw [d2, if_pos (by decide)] at hmm hms3
    refine ⟨vI (-11), f, a, g, f, a, g, ?_, ?_, hs⟩
    · show rn xs L 99 0 [vR 0, vI (nI q), vI i, vI (nI o), vI (nI m), vS 0, vS 0] [] (mw f a g) = _
      rw [hcs2, d1, b99_60 _ _ _ _ _ _ _ hsh, if_neg (by decide), b99_63 _ _ _ _ _ _ hsh]
    · show rn xs L 199 0 [vR 44, vI (nI q), vI i, vI (nI o), vI (nI m), vS 0] [] (mw f a g) = _
      rw [hmm, b199_49, if_neg (by decide), hms3]
  · rw [d1, decide_eq_false (nI_nm1 (by omega)), b99_60 _ _ _ _ _ _ _ hsh, if_pos (by decide), b99_66 _ _ _ _ _ _ hsh, d1] at hcs2
    by_cases hs0 : s = 0
    · subst hs0
      rw [if_pos (show nI 0 = 0 from rfl), b99_77 _ _ _ _ _ _ hsh, d3, e_within] at hcs2
      simp only [Option.bind_some, Option.toList_some, List.cons_append, List.nil_append] at hcs2
      have hms4 : ∀ (a1 : Nat → Nat → Int32), isM a1 45 S → a1 52 = a 52 → a1 53 = a 53 → rn xs L 199 0 [vR 44, vI (nI q), vI i, vI (nI o), vI (nI m), vS 0] [] (mw f a1 g) = rn xs L 199 72 [vR 44, vI (nI q), vI i, vI (nI o), vI (nI m), vS 0] [vI (bI (isw 0 (nI l) i))] (mw f a1 g) := fun a1 hM1 x52 x53 => by
        rw [hms2 a1 hM1, x52, d2, if_neg (by decide), if_pos (show nI 0 = 0 from rfl), b199_49, if_pos rfl, b199_59 _ _ _ _ _ hin, hnq, x53, d4, m_inR]
        simp only [Option.bind_some, Option.toList_some, List.cons_append, List.nil_append]
      by_cases h5 : isw 0 (nI l) i = true
      · obtain ⟨k, hk, rfl⟩ := isw_nn l rfl (by omega) h5
        have hlc : (0 < lg_cmp ((nI k).toInt64 + (nI m).toInt64) (nI l).toInt64) ↔ l < k + m := by
          rw [lc_gt, nI_l (by omega), nI_l (by omega), nI_l (by omega), lN_add, pk_lLT (by omega) (by omega)]
        have hcc : (nI l - nI k < nI m) ↔ l < k + m := by
          rw [pk_sub hk, nn_lt (by omega) (by omega)]
          omega
        rw [h5, b99_87 _ _ _ _ _ _ _ hsh, if_neg (by decide), b99_90 _ _ _ _ _ _ hsh, d3] at hcs2
        by_cases h6 : l < k + m
        · refine ⟨vI (-12), f, a, g, f, a, g, ?_, ?_, hs⟩
          · show rn xs L 99 0 [vR 0, vI (nI q), vI (nI k), vI (nI o), vI (nI m), vS 0, vS 0] [] (mw f a g) = _
            rw [hcs2, if_pos (hcc.mpr h6), b99_102 _ _ _ _ _ _ hsh]
          · show rn xs L 199 0 [vR 44, vI (nI q), vI (nI k), vI (nI o), vI (nI m), vS 0] [] (mw f a g) = _
            rw [hms4 a hM rfl rfl, h5, b199_72, if_neg (by decide), b199_75 _ _ _ _ _ hin, hnq, d4, if_pos (hlc.mpr h6), b199_92]
        · obtain ⟨a1, e1, hT1, ha1⟩ := c_minds0 (xs := xs) (L := L) (S := S) (it := fun i => a 54 (40 * q + i)) (m := m) (l1 := nI q) hsh h8 (show o + m ≤ n by omega) (show k + m ≤ 40 by omega) d5 m 0 f a (by omega) hT
          have x45 : isM a1 45 S := hM.of (ha1 45 (by decide))
          obtain ⟨a2, e2, hM2, ha2⟩ := m_minds0 (xs := xs) (L := L) (g := g) (S := S) (it := fun i => a 54 (40 * q + i)) (m := m) hq h8 (show o + m ≤ n by omega) (show k + m ≤ 40 by omega) m 0 f a1 (by omega) x45 (fun i hi => by rw [ha1 54 (by decide)])
          refine ⟨vI (nI m), f, a1, g, f, a2, g, ?_, ?_, hs.of ⟨_, n, W.mnd m, hT1.keep (fun p h1 h2 => ⟨rfl, ha2 p (by omega)⟩), hM2⟩ (fun _ _ => rfl) (fun p p0 p1 _ _ _ => by rw [ha2 p p1, ha1 p (by omega)]) (fun _ => rfl)⟩
          · show rn xs L 99 0 [vR 0, vI (nI q), vI (nI k), vI (nI o), vI (nI m), vS 0, vS 0] [] (mw f a g) = _
            rw [hcs2, if_neg (fun z => h6 (hcc.mp z)), b99_105 _ _ _ _ _ _ hsh]
            exact e1
          · show rn xs L 199 0 [vR 44, vI (nI q), vI (nI k), vI (nI o), vI (nI m), vS 0] [] (mw f a1 g) = _
            rw [hms4 a1 x45 (ha1 52 (by decide)) (ha1 53 (by decide)), h5, b199_72, if_neg (by decide), b199_75 _ _ _ _ _ hin, hnq, ha1 53 (by decide), d4, if_neg (fun z => h6 (hlc.mp z)), b199_95]
            exact e2
      · have h5f : isw 0 (nI l) i = false := by simpa using h5
        refine ⟨vI (-12), f, a, g, f, a, g, ?_, ?_, hs⟩
        · show rn xs L 99 0 [vR 0, vI (nI q), vI i, vI (nI o), vI (nI m), vS 0, vS 0] [] (mw f a g) = _
          rw [hcs2, h5f, b99_87 _ _ _ _ _ _ _ hsh, if_pos (by decide), b99_102 _ _ _ _ _ _ hsh]
        · show rn xs L 199 0 [vR 44, vI (nI q), vI i, vI (nI o), vI (nI m), vS 0] [] (mw f a g) = _
          rw [hms4 a hM rfl rfl, h5f, b199_72, if_pos (by decide), b199_92]
    · have hne : ¬ nI s = 0 := nI_ne0 (by omega) (by omega)
      have hmm := hms2 a hM
      rw [d2, if_neg (nI_pos (by omega)), if_neg hne] at hmm hms3
      refine ⟨vI (-13), f, a, g, f, a, g, ?_, ?_, hs⟩
      · show rn xs L 99 0 [vR 0, vI (nI q), vI i, vI (nI o), vI (nI m), vS 0, vS 0] [] (mw f a g) = _
        rw [hcs2, if_neg hne, b99_74 _ _ _ _ _ _ hsh]
      · show rn xs L 199 0 [vR 44, vI (nI q), vI i, vI (nI o), vI (nI m), vS 0] [] (mw f a g) = _
        rw [hmm, b199_49, if_neg (by decide), hms3]
