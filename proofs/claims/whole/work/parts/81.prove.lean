/-! ===== prove, judge ===== -/
/-- part c of one's row -/
def prt (T : Row) (o c : Nat) : Int32 := if c = 0 then lf T o 2 else if c = 1 then lf T o 4 else T 3
theorem hg_bI {S : Row} {n i : Nat} (W : WF S n) (hi : i < n) : bI (hg S i) = lf S i 4 := by
  by_cases h : hg S i = true
  · rw [h, hg41 h]; rfl
  · have hf : hg S i = false := by simpa using h
    rw [hf, hg4 W hi h]; rfl
theorem isT.row27 {f a : Nat → Nat → Int32} {T : Row} {n j : Nat} {v : Int32} (h : isT 9 f a T n 0) : isT 9 f (ma_u2 a 27 j v) T n 0 := h.keep (fun q _ h2 => ⟨rfl, u2_ne (by omega)⟩)
def rowv (S : Row) (n o j : Nat) : Int32 := prt (daysS S n 0 (j / 3 + 1)) o (j % 3)
theorem days_add {T : Row} {n : Nat} : ∀ k i, daysS (daysS T n 0 i) n 0 k = daysS T n 0 (i + k)
  | 0, _ => rfl
  | k + 1, i => by
    show passS (daysS (daysS T n 0 i) n 0 k) n 0 = passS (daysS T n 0 (i + k)) n 0
    rw [days_add k i]
section S81
variable {xs : Nat → Int32} {L : Nat} {g : Nat → Nat → Int64} {S : Row} {n o : Nat}
theorem c_rowPart {T : Row} {f a : Nat → Nat → Int32} {c : Nat} (W : WF T n) (ho : o < n) (hT : isT 9 f a T n 0) (hc : c < 3) : ev xs L 94 3 [vR 0, vI (nI o), vI (nI c)] (mw f a g) = some (some (vI (prt T o c)), mw f a g) := by
  have h8 := W.n8
  have hin : ma_in (nI o) 8 = true := in_of (by omega) (by decide)
  have hh := hT.hol o ho
  have hf := hT.fel
  show rn xs L 94 0 [vR 0, vI (nI o), vI (nI c)] [] (mw f a g) = _
  have hx : c = 0 ∨ c = 1 ∨ c = 2 := by omega
  rcases hx with rfl | rfl | rfl
  · rw [b94_0, if_pos (show nI 0 = 0 from rfl), b94_28 _ _ hin, nn_nat (by omega), hh]
    rfl
  · rw [b94_0, if_neg (show ¬ nI 1 = 0 by decide), if_pos (show nI 1 = 1 from rfl), b94_38, c_hangs tr9 W hT.L ho]
    simp only [Option.bind_some, Option.toList_some, List.cons_append, List.nil_append]
    rw [b94_46]
    show _ = some (some (vI (lf T o 4)), mw f a g)
    rw [← hg_bI W ho]
    cases e : hg T o with
    | true => rw [if_neg (by decide), b94_49]; rfl
    | false => rw [if_pos (by decide), b94_53]; rfl
  · rw [b94_0, if_neg (show ¬ nI 2 = 0 by decide), if_neg (show ¬ nI 2 = 1 by decide), b94_55, hf]
    rfl
theorem c_prove1 {T : Row} {f a : Nat → Nat → Int32} {c i m : Nat} (W : WF T n) (ho : o < n) (hT : isT 9 f a T n 0) (hc : c < 3) (hi : i < 10) : rn xs L 93 52 [vR 0, vI (nI o), vI (nI m), vI (nI i), vI (nI c)] [] (mw f a g) = rn xs L 93 52 [vR 0, vI (nI o), vI (nI m), vI (nI i), vI (nI (c + 1))] [] (mw f (ma_u2 a 27 (3 * i + c) (prt T o c)) g) := by
  have hin : ma_in (nI (3 * i + c)) 30 = true := in_of (by omega) (by decide)
  rw [b93_52, if_pos (by rw [show (3 : Int32) = nI 3 from rfl, nn_lt (by omega) (by omega)]; omega), b93_58, c_rowPart W ho hT hc]
  simp only [Option.bind_some, Option.toList_some, List.cons_append, List.nil_append]
  rw [ix3', b93_75 _ _ _ _ _ _ hin, nn_nat (by omega), nn_add1]
theorem c_prove0 {m : Nat} (W : WF S n) (ho : o < n) (hm : m ≤ 10) : ∀ (r i : Nat) (f a : Nat → Nat → Int32) (l4 : ma_V), i + r = m → isT 9 f a (daysS S n 0 i) n 0 → ∃ f1 a1, rn xs L 93 36 [vR 0, vI (nI o), vI (nI m), vI (nI i), l4] [] (mw f a g) = some (some (vI (nI m)), mw (ma_u2 f1 0 6 (nI m)) a1 g) ∧ (∀ j, a1 27 j = if 3 * i ≤ j ∧ j < 3 * m then rowv S n o j else a 27 j) ∧ same (fun q => oT 9 q ∧ q ≠ 27) f a g f1 a1 g
  | 0, i, f, a, l4, hi, hT => by
    have e : i = m := by omega
    subst e
    refine ⟨f, a, ?_, fun j => by rw [if_neg (by omega)], same.refl⟩
    rw [b93_36, if_neg (by rw [nn_lt (by omega) (by omega)]; omega), b93_88]
  | r + 1, i, f, a, l4, hi, hT => by
    have Wi := W.days (ti := 0) i
    obtain ⟨f1, a1, e1, hT1, hs1⟩ := c_passDay (xs := xs) (L := L) (g := g) tr9 Wi hT
    have hT1' : isT 9 f1 a1 (daysS S n 0 (i + 1)) n 0 := hT1
    have W1 := W.days (ti := 0) (i + 1)
    have p0 := c_prove1 (xs := xs) (L := L) (g := g) (c := 0) (m := m) W1 ho hT1' (by decide) (show i < 10 by omega)
    have hTa := hT1'.row27 (j := 3 * i + 0) (v := prt (daysS S n 0 (i + 1)) o 0)
    have p1 := c_prove1 (xs := xs) (L := L) (g := g) (c := 1) (m := m) W1 ho hTa (by decide) (show i < 10 by omega)
    have hTb := hTa.row27 (j := 3 * i + 1) (v := prt (daysS S n 0 (i + 1)) o 1)
    have p2 := c_prove1 (xs := xs) (L := L) (g := g) (c := 2) (m := m) W1 ho hTb (by decide) (show i < 10 by omega)
    have hTc := hTb.row27 (j := 3 * i + 2) (v := prt (daysS S n 0 (i + 1)) o 2)
    obtain ⟨f2, a2, e2, h27, hs2⟩ := c_prove0 W ho hm r (i + 1) f1 _ (vI (nI 3)) (by omega) hTc
    refine ⟨f2, a2, ?_, fun j => ?_, ?_⟩
    · rw [b93_36, if_pos (by rw [nn_lt (by omega) (by omega)]; omega), b93_41, e1]
      simp only [Option.bind_some, Option.toList_some, List.cons_append, List.nil_append]
      rw [b93_48, show vI (0 : Int32) = vI (nI 0) from rfl, p0, p1, p2, b93_52, if_neg (by decide), b93_82, nn_add1]
      exact e2
    · have hq0 : ∀ j, a1 27 j = a 27 j := fun j => congrFun (hs1 27 (Or.inr (by decide))).2.1 j
      have hdm : ∀ c, c < 3 → rowv S n o (3 * i + c) = prt (daysS S n 0 (i + 1)) o c := fun c hc => by
        unfold rowv
        rw [show (3 * i + c) / 3 = i by omega, show (3 * i + c) % 3 = c by omega]
      rw [h27 j]
      by_cases c1 : 3 * (i + 1) ≤ j ∧ j < 3 * m
      · rw [if_pos c1, if_pos (by omega)]
      · rw [if_neg c1, u2_at, u2_at, u2_at, hq0]
        by_cases j0 : j = 3 * i + 0
        · rw [if_neg (by omega), if_neg (by omega), if_pos ⟨rfl, j0⟩, if_pos (by omega), j0, hdm 0 (by decide)]
        · by_cases j1 : j = 3 * i + 1
          · rw [if_neg (by omega), if_pos ⟨rfl, j1⟩, if_pos (by omega), j1, hdm 1 (by decide)]
          · by_cases j2 : j = 3 * i + 2
            · rw [if_pos ⟨rfl, j2⟩, if_pos (by omega), j2, hdm 2 (by decide)]
            · rw [if_neg (by omega), if_neg (by omega), if_neg (by omega), if_neg (by omega)]
    · refine same.trans (hs1.mono (fun q hq => hq.1)) (same.trans (fun q hq => ⟨rfl, ?_, rfl⟩) hs2)
      rw [u2_ne hq.2, u2_ne hq.2, u2_ne hq.2]
theorem m_prove0 {m : Nat} (W : WF S n) (ho : o < n) (hm : m ≤ 10) : ∀ (r i : Nat) (f a : Nat → Nat → Int32) (l4 : ma_V), i + r = m → isM a 45 (daysS S n 0 i) → isM a 47 S → ∃ a1, rn xs L 190 35 [vR 44, vI (nI o), vI (nI m), vI (nI i), l4] [] (mw f a g) = some (some (vI (nI m)), mw (ma_u2 f 44 14 (nI m)) a1 g) ∧ (∀ j, a1 51 j = if 3 * i ≤ j ∧ j < 3 * m then rowv S n o j else a 51 j) ∧ isM a1 45 S ∧ (∀ q, q ≠ 45 → q ≠ 47 → q ≠ 50 → q ≠ 51 → a1 q = a q)
  | 0, i, f, a, l4, hi, hM, h47 => by
    have e : i = m := by omega
    subst e
    obtain ⟨a1, e1, hM1, ha1⟩ := m_copy (xs := xs) (L := L) (f := f) (g := g) rw47 rw45 (by decide) h47
    refine ⟨a1, ?_, fun j => by rw [if_neg (by omega), ha1 51 (by decide)], hM1, fun q h1 _ _ _ => ha1 q h1⟩
    rw [b190_35, if_neg (by rw [nn_lt (by omega) (by omega)]; omega), b190_99, e1]
    simp only [Option.bind_some, Option.toList_none, List.nil_append]
    rw [b190_110]
  | r + 1, i, f, a, l4, hi, hM, h47 => by
    have h8 := W.n8
    have h0 : o < 8 := by omega
    have Wi := W.days (ti := 0) i
    obtain ⟨a1, e1, hM1, ha1⟩ := m_goesBy (xs := xs) (L := L) (f := f) (g := g) (ti := 0) hM Wi
    have hM1' : isM a1 45 (daysS S n 0 (i + 1)) := hM1
    have i0 : ma_in (nI (3 * i + 0)) 30 = true := in_of (by omega) (by decide)
    have i1 : ma_in (nI (3 * i + 1)) 30 = true := in_of (by omega) (by decide)
    have i2 : ma_in (nI (3 * i + 2)) 30 = true := in_of (by omega) (by decide)
    have x0 : (3 : Int32) * nI i = nI (3 * i + 0) := by rw [show (3 : Int32) = nI 3 from rfl, nn_mul]; rfl
    have x1 : (3 : Int32) * nI i + 1 = nI (3 * i + 1) := ix3 (j := 1)
    have x2 : (3 : Int32) * nI i + 2 = nI (3 * i + 2) := ix3 (j := 2)
    have hA : isM (ma_u2 a1 51 (3 * i + 0) (lf (daysS S n 0 (i + 1)) o 2)) 45 (daysS S n 0 (i + 1)) := hM1'.of (u2_ne (by decide))
    have hB : isM (ma_u2 (ma_u2 a1 51 (3 * i + 0) (lf (daysS S n 0 (i + 1)) o 2)) 51 (3 * i + 1) (lf (daysS S n 0 (i + 1)) o 4)) 45 (daysS S n 0 (i + 1)) := hA.of (u2_ne (by decide))
    have h3 := hB 3 (by decide)
    have hC : isM (ma_u2 (ma_u2 (ma_u2 a1 51 (3 * i + 0) (lf (daysS S n 0 (i + 1)) o 2)) 51 (3 * i + 1) (lf (daysS S n 0 (i + 1)) o 4)) 51 (3 * i + 2) (daysS S n 0 (i + 1) 3)) 45 (daysS S n 0 (i + 1)) := hB.of (u2_ne (by decide))
    have h47c : isM (ma_u2 (ma_u2 (ma_u2 a1 51 (3 * i + 0) (lf (daysS S n 0 (i + 1)) o 2)) 51 (3 * i + 1) (lf (daysS S n 0 (i + 1)) o 4)) 51 (3 * i + 2) (daysS S n 0 (i + 1) 3)) 47 S := h47.of (by rw [u2_ne (by decide), u2_ne (by decide), u2_ne (by decide), ha1 47 (by decide) (by decide)])
    obtain ⟨a2, e2, h51, hM2, ha2⟩ := m_prove0 W ho hm r (i + 1) f _ (vI (encO (whoS (daysS S n 0 i) n 0))) (by omega) hC h47c
    refine ⟨a2, ?_, fun j => ?_, hM2, fun q q1 q2 q3 q4 => by rw [ha2 q q1 q2 q3 q4, u2_ne q4, u2_ne q4, u2_ne q4, ha1 q q1 q3]⟩
    · rw [b190_35, if_pos (by rw [nn_lt (by omega) (by omega)]; omega), b190_40, e1]
      simp only [Option.bind_some, Option.toList_some, List.cons_append, List.nil_append]
      rw [b190_45, m_its2 hM1' h0]
      simp only [Option.bind_some, Option.toList_some, List.cons_append, List.nil_append]
      rw [x0, b190_60 _ _ _ _ _ _ i0, nn_nat (by omega), m_its4 hA h0]
      simp only [Option.bind_some, Option.toList_some, List.cons_append, List.nil_append]
      rw [x1, b190_76 _ _ _ _ _ _ i1 (by rw [x2]; exact i2), x2, nn_nat (by omega), nn_nat (by omega), h3, nn_add1]
      exact e2
    · have hq0 : ∀ j, a1 51 j = a 51 j := fun j => congrFun (ha1 51 (by decide) (by decide)) j
      have hdm : ∀ c, c < 3 → rowv S n o (3 * i + c) = prt (daysS S n 0 (i + 1)) o c := fun c hc => by
        unfold rowv
        rw [show (3 * i + c) / 3 = i by omega, show (3 * i + c) % 3 = c by omega]
      rw [h51 j]
      by_cases c1 : 3 * (i + 1) ≤ j ∧ j < 3 * m
      · rw [if_pos c1, if_pos (by omega)]
      · rw [if_neg c1, u2_at, u2_at, u2_at, hq0]
        by_cases j0 : j = 3 * i + 0
        · rw [if_neg (by omega), if_neg (by omega), if_pos ⟨rfl, j0⟩, if_pos (by omega), j0, hdm 0 (by decide)]; rfl
        · by_cases j1 : j = 3 * i + 1
          · rw [if_neg (by omega), if_pos ⟨rfl, j1⟩, if_pos (by omega), j1, hdm 1 (by decide)]; rfl
          · by_cases j2 : j = 3 * i + 2
            · rw [if_pos ⟨rfl, j2⟩, if_pos (by omega), j2, hdm 2 (by decide)]; rfl
            · rw [if_neg (by omega), if_neg (by omega), if_neg (by omega), if_neg (by omega)]
end S81
theorem op_prove {leaf v : Int32} : OPS 93 5 190 5 [vI leaf, vI v] := by
  intro xs L f a g hs
  obtain ⟨S, n, W, hT, hM⟩ := hs.tree
  have h8 := W.n8
  by_cases h1 : hasR n leaf = true
  rotate_left
  · refine ⟨vI (-1), f, a, g, f, a, g, ?_, ?_, hs⟩
    · show rn xs L 93 0 [vR 0, vI leaf, vI v, vS 0, vS 0] [] (mw f a g) = _
      simp [b93_0, b93_8, b93_11, b93_18, b93_21, b93_23, b93_34, b93_41, b93_48, b93_58, b93_75, b93_82, b93_88, c_has tr1 hT.L, h1, bI]
    · show rn xs L 190 0 [vR 44, vI leaf, vI v, vS 0, vS 0] [] (mw f a g) = _
      simp [b190_0, b190_5, b190_8, b190_17, b190_20, b190_22, b190_33, b190_40, b190_45, b190_60, b190_76, b190_99, b190_110, m_has hM W, h1, bI]
  by_cases h2 : isw 1 10 v = true
  rotate_left
  · refine ⟨vI (-1), f, a, g, f, a, g, ?_, ?_, hs⟩
    · show rn xs L 93 0 [vR 0, vI leaf, vI v, vS 0, vS 0] [] (mw f a g) = _
      simp [b93_0, b93_8, b93_11, b93_18, b93_21, b93_23, b93_34, b93_41, b93_48, b93_58, b93_75, b93_82, b93_88, e_within, c_has tr1 hT.L, h1, h2, bI]
    · show rn xs L 190 0 [vR 44, vI leaf, vI v, vS 0, vS 0] [] (mw f a g) = _
      simp [b190_0, b190_5, b190_8, b190_17, b190_20, b190_22, b190_33, b190_40, b190_45, b190_60, b190_76, b190_99, b190_110, m_has hM W, m_in_1_10, h1, h2, bI]
  obtain ⟨o, ho, rfl⟩ := hasR_to h8 h1
  obtain ⟨m, hm, rfl⟩ : ∃ m, m ≤ 10 ∧ v = nI m := by
    have h0 := isw_pos h2 (by decide)
    have : isw 0 10 v = true := by
      unfold isw at h2 ⊢
      rw [Bool.and_eq_true] at h2
      simp [h0]
      simpa using h2.2
    exact isw_nn 10 rfl (by decide) this
  obtain ⟨f1, a1, e1, hT1, hs1⟩ := c_become (xs := xs) (L := L) (g := g) tr9 tr1 (by decide) W hT
  obtain ⟨f2, a2, e2, h27, hs2⟩ := c_prove0 (xs := xs) (L := L) (g := g) (m := m) W ho hm m 0 f1 a1 (vS 0) (by omega) hT1
  have hs12 : same (fun q => oT 9 q ∧ q ≠ 27) f a g f2 a2 g := (hs1.mono (fun q hq => hq.1)).trans hs2
  have x45 : isM a2 45 S := hM.of (hs12 45 ⟨Or.inr (by decide), by decide⟩).2.1
  obtain ⟨a3, e3, hM3, ha3⟩ := m_copy (xs := xs) (L := L) (f := ma_u2 f2 0 6 (nI m)) (g := g) rw45 rw47 (by decide) x45
  obtain ⟨a4, e4, h51, hM4, ha4⟩ := m_prove0 (xs := xs) (L := L) (g := g) (m := m) W ho hm m 0 (ma_u2 f2 0 6 (nI m)) a3 (vS 0) (by omega) (x45.of (ha3 45 (by decide))) hM3
  have hff : ∀ q, oT 9 q → q ≠ 0 → q ≠ 27 → q ≠ 44 → ma_u2 (ma_u2 f2 0 6 (nI m)) 44 14 (nI m) q = f q := fun q q1 q2 q4 q3 => by rw [u2_ne q3, u2_ne q2]; exact (hs12 q ⟨q1, q4⟩).1
  have h0k : ∀ k, k ≠ 6 → ma_u2 (ma_u2 f2 0 6 (nI m)) 44 14 (nI m) 0 k = f 0 k := fun k hk => by rw [u2_ne (by decide), u2_at, if_neg (fun q => hk q.2)]; exact congrFun (hs12 0 ⟨Or.inl (by decide), by decide⟩).1 k
  have h4k : ∀ k, k ≠ 14 → ma_u2 (ma_u2 f2 0 6 (nI m)) 44 14 (nI m) 44 k = f 44 k := fun k hk => by rw [u2_at, if_neg (fun q => hk q.2), u2_ne (by decide)]; exact congrFun (hs12 44 ⟨Or.inr (by decide), by decide⟩).1 k
  have haa : ∀ q, oT 9 q → q ≠ 27 → q ≠ 45 → q ≠ 47 → q ≠ 50 → q ≠ 51 → a4 q = a q := fun q q1 q2 q3 q4 q5 q6 => (ha4 q q3 q4 q5 q6).trans ((ha3 q q4).trans (hs12 q ⟨q1, q2⟩).2.1)
  refine ⟨vI (nI m), ma_u2 f2 0 6 (nI m), a2, g, ma_u2 (ma_u2 f2 0 6 (nI m)) 44 14 (nI m), a4, g, ?_, ?_, ?_⟩
  · show rn xs L 93 0 [vR 0, vI (nI o), vI (nI m), vS 0, vS 0] [] (mw f a g) = _
    rw [b93_0, c_has tr1 hT.L, h1]
    simp only [Option.bind_some, Option.toList_some, List.cons_append, List.nil_append]
    rw [b93_8, if_neg (by decide), b93_11, e_within, h2]
    simp only [Option.bind_some, Option.toList_some, List.cons_append, List.nil_append]
    rw [b93_18, if_neg (by decide), b93_23, e1]
    simp only [Option.bind_some, Option.toList_none, List.nil_append]
    rw [b93_34]
    exact e2
  · show rn xs L 190 0 [vR 44, vI (nI o), vI (nI m), vS 0, vS 0] [] (mw _ a2 g) = _
    rw [b190_0, m_has x45 W, h1]
    simp only [Option.bind_some, Option.toList_some, List.cons_append, List.nil_append]
    rw [b190_5, if_neg (by decide), b190_8, m_in_1_10, h2]
    simp only [Option.bind_some, Option.toList_some, List.cons_append, List.nil_append]
    rw [b190_17, if_neg (by decide), b190_22, e3]
    simp only [Option.bind_some, Option.toList_none, List.nil_append]
    rw [b190_33]
    exact e4
  · obtain ⟨r, hr, h0, h1, hq⟩ := hs.rows
    refine ST.mk ⟨S, n, W, hT.keep (fun q h1 h2 => ⟨hff q (Or.inl (by omega)) (by omega) (by omega) (by omega), haa q (Or.inl (by omega)) (by omega) (by omega) (by omega) (by omega) (by omega)⟩), hM4⟩
      (hs.kept.of (h0k 3 (by decide)) (h4k 4 (by decide)) (fun q h1 h2 => ⟨hff q (Or.inr (by omega)) (by omega) (by omega) (by omega), haa q (Or.inr (by omega)) (by omega) (by omega) (by omega) (by omega) (by omega)⟩) (haa 46 (Or.inr (by decide)) (by decide) (by decide) (by decide) (by decide) (by decide)))
      (hs.tape.of (by rw [hff 25 (Or.inr (by decide)) (by decide) (by decide) (by decide)]) (h4k 6 (by decide)) (haa 49 (Or.inr (by decide)) (by decide) (by decide) (by decide) (by decide) (by decide)) (haa 26 (Or.inr (by decide)) (by decide) (by decide) (by decide) (by decide) (by decide)))
      ⟨m, hm, ?_, ?_, fun i hi => ?_⟩
      (fun q hq => (hs.shts q hq).of (hff _ (Or.inr (by omega)) (by omega) (by omega) (by omega)) (by rw [haa 52 (Or.inr (by decide)) (by decide) (by decide) (by decide) (by decide) (by decide)]) (by rw [haa 53 (Or.inr (by decide)) (by decide) (by decide) (by decide) (by decide) (by decide)]) (fun i _ => by rw [haa 54 (Or.inr (by decide)) (by decide) (by decide) (by decide) (by decide) (by decide)]) rfl)
      (fun q hq => (hs.shls q hq).of (hff _ (Or.inr (by omega)) (by omega) (by omega) (by omega)) (by rw [haa 55 (Or.inr (by decide)) (by decide) (by decide) (by decide) (by decide) (by decide)]) (by rw [haa 56 (Or.inr (by decide)) (by decide) (by decide) (by decide) (by decide) (by decide)]) (by rw [haa 57 (Or.inr (by decide)) (by decide) (by decide) (by decide) (by decide) (by decide)]))
      (hs.acts.of (by rw [hff 30 (Or.inr (by decide)) (by decide) (by decide) (by decide)]) (h4k 22 (by decide)) (haa 31 (Or.inr (by decide)) (by decide) (by decide) (by decide) (by decide) (by decide)) (haa 58 (Or.inr (by decide)) (by decide) (by decide) (by decide) (by decide) (by decide)))
    · rw [u2_ne (by decide), u2_at, if_pos ⟨rfl, rfl⟩]
    · rw [u2_at, if_pos ⟨rfl, rfl⟩]
    · have y27 : a4 27 = a2 27 := (ha4 27 (by decide) (by decide) (by decide) (by decide)).trans (ha3 27 (by decide))
      have z27 : a1 27 = a 27 := (hs1 27 (Or.inr (by decide))).2.1
      have z51 : a3 51 = a 51 := (ha3 51 (by decide)).trans (hs12 51 ⟨Or.inr (by decide), by decide⟩).2.1
      rw [y27, h27, h51, z27, z51, hq i hi]
/-! judge -/
def judR (R : Nat → Int32) (n o : Nat) : Nat → Nat → Row → Int32
  | 0, _, _ => 0
  | r + 1, i, T => if R (3 * i + 0) = prt (passS T n 0) o 0 ∧ R (3 * i + 1) = prt (passS T n 0) o 1 ∧ R (3 * i + 2) = prt (passS T n 0) o 2 then judR R n o r (i + 1) (passS T n 0) else nI (i + 1)
section S81b
variable {xs : Nat → Int32} {L : Nat} {g : Nat → Nat → Int64} {S : Row} {n o m : Nat} {R : Nat → Int32}
theorem c_judge1 {T : Row} {f a : Nat → Nat → Int32} {c i : Nat} (W : WF T n) (ho : o < n) (hT : isT 9 f a T n 0) (hc : c < 3) (hi : i < 10) (hR : ∀ j, j < 30 → a 27 j = R j) : rn xs L 98 44 [vR 0, vI (nI o), vI (nI i), vI (nI c)] [] (mw f a g) = if R (3 * i + c) = prt T o c then rn xs L 98 44 [vR 0, vI (nI o), vI (nI i), vI (nI (c + 1))] [] (mw f a g) else some (some (vI (nI (i + 1))), mw f a g) := by
  have hin : ma_in (nI (3 * i + c)) 30 = true := in_of (by omega) (by decide)
  rw [b98_44, if_pos (by rw [show (3 : Int32) = nI 3 from rfl, nn_lt (by omega) (by omega)]; omega), b98_49 _ _ _ (by rw [ix3']; exact hin), ix3', nn_nat (by omega), hR _ (by omega), c_rowPart W ho hT hc]
  simp only [Option.bind_some, Option.toList_some, List.cons_append, List.nil_append]
  rw [b98_65]
  by_cases h : R (3 * i + c) = prt T o c
  · rw [if_pos h, if_pos h, b98_72, nn_add1]
  · rw [if_neg h, if_neg h, b98_68, nn_add1]
theorem c_judge0 (ho : o < n) (hm : m ≤ 10) : ∀ (r i : Nat) (T : Row) (f a : Nat → Nat → Int32) (l3 : ma_V), i + r = m → WF T n → isT 9 f a T n 0 → f 0 6 = nI m → (∀ j, j < 30 → a 27 j = R j) → ∃ f1 a1, rn xs L 98 26 [vR 0, vI (nI o), vI (nI i), l3] [] (mw f a g) = some (some (vI (judR R n o r i T)), mw f1 a1 g) ∧ same (oT 9) f a g f1 a1 g
  | 0, i, T, f, a, l3, hi, W, hT, h6, hR => by
    refine ⟨f, a, ?_, same.refl⟩
    rw [b98_26, h6, if_neg (by rw [nn_lt (by omega) (by omega)]; omega), b98_84]
    rfl
  | r + 1, i, T, f, a, l3, hi, W, hT, h6, hR => by
    obtain ⟨f1, a1, e1, hT1, hs1⟩ := c_passDay (xs := xs) (L := L) (g := g) tr9 W hT
    have h61 : f1 0 6 = nI m := by rw [(hs1 0 (Or.inl (by decide))).1]; exact h6
    have hR1 : ∀ j, j < 30 → a1 27 j = R j := fun j hj => by rw [(hs1 27 (Or.inr (by decide))).2.1]; exact hR j hj
    have p := fun c (hc : c < 3) => c_judge1 (xs := xs) (L := L) (g := g) (c := c) W.pass ho hT1 hc (show i < 10 by omega) hR1
    obtain ⟨f2, a2, e2, hs2⟩ := c_judge0 ho hm r (i + 1) _ f1 a1 (vI (nI 3)) (by omega) W.pass hT1 h61 hR1
    rw [b98_26, h6, if_pos (by rw [nn_lt (by omega) (by omega)]; omega), b98_34, e1]
    simp only [Option.bind_some, Option.toList_some, List.cons_append, List.nil_append]
    rw [b98_41, show vI (0 : Int32) = vI (nI 0) from rfl, p 0 (by decide), judR]
    by_cases q0 : R (3 * i + 0) = prt (passS T n 0) o 0
    · rw [if_pos q0, p 1 (by decide)]
      by_cases q1 : R (3 * i + 1) = prt (passS T n 0) o 1
      · rw [if_pos q1, p 2 (by decide)]
        by_cases q2 : R (3 * i + 2) = prt (passS T n 0) o 2
        · refine ⟨f2, a2, ?_, hs1.trans hs2⟩
          rw [if_pos q2, b98_44, if_neg (by decide), b98_78, nn_add1, if_pos ⟨q0, q1, q2⟩]
          exact e2
        · refine ⟨f1, a1, ?_, hs1⟩
          rw [if_neg q2, if_neg (fun q => q2 q.2.2)]
      · refine ⟨f1, a1, ?_, hs1⟩
        rw [if_neg q1, if_neg (fun q => q1 q.2.1)]
    · refine ⟨f1, a1, ?_, hs1⟩
      rw [if_neg q0, if_neg (fun q => q0 q.1)]
theorem m_judge0 (ho : o < n) (hm : m ≤ 10) : ∀ (r i : Nat) (T : Row) (f a : Nat → Nat → Int32) (l4 : ma_V), i + r = m → WF T n → isM a 45 T → isM a 47 S → f 44 14 = nI m → (∀ j, j < 30 → a 51 j = R j) → ∃ a1, rn xs L 194 25 [vR 44, vI (nI o), vI (nI i), vI 1, l4] [] (mw f a g) = some (some (vI (judR R n o r i T)), mw f a1 g) ∧ isM a1 45 S ∧ (∀ q, q ≠ 45 → q ≠ 50 → a1 q = a q)
  | 0, i, T, f, a, l4, hi, W, hM, h47, h14, hR => by
    obtain ⟨a1, e1, hM1, ha1⟩ := m_copy (xs := xs) (L := L) (f := f) (g := g) rw47 rw45 (by decide) h47
    refine ⟨a1, ?_, hM1, fun q h1 _ => ha1 q h1⟩
    rw [b194_25, h14, if_neg (by rw [nn_lt (by omega) (by omega)]; omega), b194_111, e1]
    simp only [Option.bind_some, Option.toList_none, List.nil_append]
    rw [b194_122, if_neg (by decide), b194_126]
    rfl
  | r + 1, i, T, f, a, l4, hi, W, hM, h47, h14, hR => by
    have h8 := W.n8
    have h0 : o < 8 := by omega
    obtain ⟨a1, e1, hM1, ha1⟩ := m_goesBy (xs := xs) (L := L) (f := f) (g := g) (ti := 0) hM W
    have x47 : isM a1 47 S := h47.of (ha1 47 (by decide) (by decide))
    have xR : ∀ j, j < 30 → a1 51 j = R j := fun j hj => by rw [ha1 51 (by decide) (by decide)]; exact hR j hj
    have i0 : ma_in (nI (3 * i + 0)) 30 = true := in_of (by omega) (by decide)
    have i1 : ma_in (nI (3 * i + 1)) 30 = true := in_of (by omega) (by decide)
    have i2 : ma_in (nI (3 * i + 2)) 30 = true := in_of (by omega) (by decide)
    have x0 : (3 : Int32) * nI i = nI (3 * i + 0) := by rw [show (3 : Int32) = nI 3 from rfl, nn_mul]; rfl
    have x1 : (3 : Int32) * nI i + 1 = nI (3 * i + 1) := ix3 (j := 1)
    have x2 : (3 : Int32) * nI i + 2 = nI (3 * i + 2) := ix3 (j := 2)
    have r0 := xR (3 * i + 0) (by omega)
    have r1 := xR (3 * i + 1) (by omega)
    have r2 := xR (3 * i + 2) (by omega)
    have p3 := hM1 3 (by decide)
    obtain ⟨a2, e2, hM2, ha2⟩ := m_judge0 ho hm r (i + 1) _ f a1 (vI (encO (whoS T n 0))) (by omega) W.pass hM1 x47 h14 xR
    obtain ⟨a3, e3, hM3, ha3⟩ := m_copy (xs := xs) (L := L) (f := f) (g := g) rw47 rw45 (by decide) x47
    have bad : ∀ (l4 : Int32), rn xs L 194 103 [vR 44, vI (nI o), vI (nI i), vI 1, vI l4] [] (mw f a1 g) = some (some (vI (nI (i + 1))), mw f a3 g) := fun l4 => by
      have hout : rn xs L 194 25 [vR 44, vI (nI o), vI (nI (i + 1)), vI 0, vI l4] [] (mw f a1 g) = rn xs L 194 111 [vR 44, vI (nI o), vI (nI (i + 1)), vI 0, vI l4] [] (mw f a1 g) := by
        rw [b194_25]
        by_cases hx : nI (i + 1) < f 44 14
        · rw [if_pos hx, b194_33, if_pos rfl]
        · rw [if_neg hx]
      rw [b194_103, nn_add1, hout, b194_111, e3]
      simp only [Option.bind_some, Option.toList_none, List.nil_append]
      rw [b194_122, if_pos rfl, b194_130]
    rw [b194_25, h14, if_pos (by rw [nn_lt (by omega) (by omega)]; omega), b194_33, if_neg (by decide), b194_37, e1]
    simp only [Option.bind_some, Option.toList_some, List.cons_append, List.nil_append]
    rw [b194_42 _ _ _ _ _ (by rw [x0]; exact i0), x0, nn_nat (by omega), r0, m_its2 hM1 h0]
    simp only [Option.bind_some, Option.toList_some, List.cons_append, List.nil_append]
    rw [b194_58, judR]
    show ∃ a1_1, (if R (3 * i + 0) = prt (passS T n 0) o 0 then _ else _) = _ ∧ _
    by_cases q0 : R (3 * i + 0) = prt (passS T n 0) o 0
    · rw [if_pos q0, b194_61 _ _ _ _ (by rw [x1]; exact i1), x1, nn_nat (by omega), r1, m_its4 hM1 h0]
      simp only [Option.bind_some, Option.toList_some, List.cons_append, List.nil_append]
      rw [b194_77]
      show ∃ a1_1, (if R (3 * i + 1) = prt (passS T n 0) o 1 then _ else _) = _ ∧ _
      by_cases q1 : R (3 * i + 1) = prt (passS T n 0) o 1
      · rw [if_pos q1, b194_80 _ _ _ _ (by rw [x2]; exact i2), x2, nn_nat (by omega), r2, p3]
        show ∃ a1_1, (if R (3 * i + 2) = prt (passS T n 0) o 2 then _ else _) = _ ∧ _
        by_cases q2 : R (3 * i + 2) = prt (passS T n 0) o 2
        · refine ⟨a2, ?_, hM2, fun p h1 h2 => (ha2 p h1 h2).trans (ha1 p h1 h2)⟩
          rw [if_pos q2, b194_99, nn_add1, if_pos ⟨q0, q1, q2⟩]
          exact e2
        · refine ⟨a3, ?_, hM3, fun p h1 h2 => (ha3 p h1).trans (ha1 p h1 h2)⟩
          rw [if_neg q2, if_neg (fun q => q2 q.2.2), bad]
      · refine ⟨a3, ?_, hM3, fun p h1 h2 => (ha3 p h1).trans (ha1 p h1 h2)⟩
        rw [if_neg q1, if_neg (fun q => q1 q.2.1), bad]
    · refine ⟨a3, ?_, hM3, fun p h1 h2 => (ha3 p h1).trans (ha1 p h1 h2)⟩
      rw [if_neg q0, if_neg (fun q => q0 q.1), bad]
end S81b
theorem op_judge {leaf : Int32} : OPS 98 4 194 5 [vI leaf] := by
  intro xs L f a g hs
  obtain ⟨S, n, W, hT, hM⟩ := hs.tree
  have h8 := W.n8
  by_cases h1 : hasR n leaf = true
  rotate_left
  · refine ⟨vI (-1), f, a, g, f, a, g, ?_, ?_, hs⟩
    · show rn xs L 98 0 [vR 0, vI leaf, vS 0, vS 0] [] (mw f a g) = _
      simp [b98_0, b98_8, b98_11, b98_13, b98_24, b98_34, b98_41, b98_49, b98_65, b98_68, b98_72, b98_78, b98_84, c_has tr1 hT.L, h1, bI]
    · show rn xs L 194 0 [vR 44, vI leaf, vS 0, vS 0, vS 0] [] (mw f a g) = _
      simp [b194_0, b194_5, b194_8, b194_10, b194_21, b194_33, b194_37, b194_42, b194_58, b194_61, b194_77, b194_80, b194_99, b194_103, b194_111, b194_122, b194_126, b194_130, m_has hM W, h1, bI]
  obtain ⟨o, ho, rfl⟩ := hasR_to h8 h1
  obtain ⟨m, hm, r0, r1, hq⟩ := hs.rows
  obtain ⟨f1, a1, e1, hT1, hs1⟩ := c_become (xs := xs) (L := L) (g := g) tr9 tr1 (by decide) W hT
  have z6 : f1 0 6 = nI m := by rw [(hs1 0 (Or.inl (by decide))).1]; exact r0
  obtain ⟨f2, a2, e2, hs2⟩ := c_judge0 (xs := xs) (L := L) (g := g) (R := a 51) ho hm m 0 S f1 a1 (vS 0) (by omega) W hT1 z6 (fun j hj => by rw [(hs1 27 (Or.inr (by decide))).2.1]; exact hq j hj)
  have hs12 := hs1.trans hs2
  have x45 : isM a2 45 S := hM.of (hs12 45 (Or.inr (by decide))).2.1
  have x14 : f2 44 14 = nI m := by rw [(hs12 44 (Or.inr (by decide))).1]; exact r1
  obtain ⟨a3, e3, hM3, ha3⟩ := m_copy (xs := xs) (L := L) (f := f2) (g := g) rw45 rw47 (by decide) x45
  obtain ⟨a4, e4, hM4, ha4⟩ := m_judge0 (xs := xs) (L := L) (g := g) (R := a 51) ho hm m 0 S f2 a3 (vS 0) (by omega) W (x45.of (ha3 45 (by decide))) hM3 x14 (fun j _ => by rw [ha3 51 (by decide), (hs12 51 (Or.inr (by decide))).2.1])
  have ef : ∀ p, p = 0 ∨ 17 ≤ p → f2 p = f p := fun p hp => (hs12 p (by unfold oT; omega)).1
  have ea : ∀ p, 17 ≤ p → p ≠ 45 → p ≠ 47 → p ≠ 48 → p ≠ 50 → a4 p = a p := fun p h0 h1 h2 h3 h4 => (ha4 p h1 h4).trans ((ha3 p h2).trans (hs12 p (by unfold oT; omega)).2.1)
  refine ⟨vI (judR (a 51) n o m 0 S), f2, a2, g, f2, a4, g, ?_, ?_, hs.of ⟨S, n, W, (hT.keep9 hs12).keep (fun p h1 h2 => ⟨rfl, (ha4 p (by omega) (by omega)).trans (ha3 p (by omega))⟩), hM4⟩ ef ea (fun _ => rfl)⟩
  · show rn xs L 98 0 [vR 0, vI (nI o), vS 0, vS 0] [] (mw f a g) = _
    rw [b98_0, c_has tr1 hT.L, h1]
    simp only [Option.bind_some, Option.toList_some, List.cons_append, List.nil_append]
    rw [b98_8, if_neg (by decide), b98_13, e1]
    simp only [Option.bind_some, Option.toList_none, List.nil_append]
    rw [b98_24]
    exact e2
  · show rn xs L 194 0 [vR 44, vI (nI o), vS 0, vS 0, vS 0] [] (mw f2 a2 g) = _
    rw [b194_0, m_has x45 W, h1]
    simp only [Option.bind_some, Option.toList_some, List.cons_append, List.nil_append]
    rw [b194_5, if_neg (by decide), b194_10, e3]
    simp only [Option.bind_some, Option.toList_none, List.nil_append]
    rw [b194_21]
    exact e4
