/-! ===== names, parts, lands ===== -/
def trN (k : Int32) (p : Tr) : Tr := let q := trT k (addT (addB (addB p (decide (k = 4)) 41) (undR k 1) 20) 11); if k = 4 then trT k q else q
def vaN (k n s x : Int32) : Int32 :=
  let v := if undR k 1 then vaT k n s x - s + 7 else vaT k n s x - s
  if k = 4 then v - vaT k n s s else v
def ptd (n s : Int32) : Int32 := if s - n = 0 then 1 else 0
def trP (k n s : Int32) (p : Tr) : Tr := let q := addT (addB (addB p (decide (k = 3)) 50) (decide (k = 5)) 61) 12; if s - n = 0 then q else if k = 5 then trT k q else q
def vaP (k n s x : Int32) : Int32 := if s - n = 0 then 0 else
  let v := if k = 3 then (x + 3) / (s - n) else x / (s - n)
  if k = 5 then v + vaT k n s n else if k = 3 then 0 - v else v
section S83
variable {xs : Nat → Int32} {L : Nat} {g : Nat → Nat → Int64} {f a : Nat → Nat → Int32} {k n s pt : Int32} {p : Tr}
theorem c_names {x : Int32} (h : cA f a k n s p pt) : ∃ f' a', ev xs L 4 3 [vR 30, vI x] (mw f a g) = some (some (vI (vaN k n s x)), mw f' a' g) ∧ cA f' a' k n s (trN k p) pt ∧ frC f a f' a' := by
  obtain ⟨f1, a1, e1, h1, r1⟩ := c_bg (xs := xs) (L := L) (g := g) (b := 41) (decide (k = 4)) h
  obtain ⟨f2, a2, e2, h2, r2⟩ := c_bg (xs := xs) (L := L) (g := g) (b := 20) (undR k 1) h1
  obtain ⟨f4, a4, e4, h4, r4⟩ := c_bg (xs := xs) (L := L) (g := g) (b := 11) true h2
  obtain ⟨f5, a5, e5, h5, r5⟩ := c_turns (xs := xs) (L := L) (g := g) (x := x) h4
  obtain ⟨f6, a6, e6, h6, r6⟩ := c_turns (xs := xs) (L := L) (g := g) (x := s) h5
  have rr := ((r1.tr r2).tr r4).tr r5
  have s1 : rn xs L 4 0 [vR 30, vI x, vS 0] [] (mw f a g) = rn xs L 4 19 [vR 30, vI x, vS 0] [] (mw f1 a1 g) := by
    rw [b4_0, h.knd]
    by_cases q : k = 4
    · rw [decide_eq_true q, bI_t] at e1
      rw [if_pos q, b4_11, e1]
      simp only [Option.bind_some, Option.toList_none, List.nil_append]
    · rw [decide_eq_false q, bI_f] at e1
      rw [if_neg q, b4_15, e1]
      simp only [Option.bind_some, Option.toList_none, List.nil_append]
  rw [bI_t] at e4
  have s2 : rn xs L 4 0 [vR 30, vI x, vS 0] [] (mw f a g) = rn xs L 4 59 [vR 30, vI x, vI (vaT k n s x - s)] [vI (bI (undR k 1))] (mw f5 a5 g) := by
    rw [s1, b4_19, h1.knd, c_under]
    simp only [Option.bind_some, Option.toList_some, List.cons_append, List.nil_append]
    rw [b4_30, e2]
    simp only [Option.bind_some, Option.toList_none, List.nil_append]
    rw [b4_33, e4]
    simp only [Option.bind_some, Option.toList_none, List.nil_append]
    rw [b4_40, e5]
    simp only [Option.bind_some, Option.toList_some, List.cons_append, List.nil_append]
    rw [b4_45, h5.knd, h5.sgn, c_under]
    simp only [Option.bind_some, Option.toList_some, List.cons_append, List.nil_append]
  have s3 : ∀ v, rn xs L 4 59 [vR 30, vI x, vI v] [vI (bI (undR k 1))] (mw f5 a5 g) = if k = 4 then rn xs L 4 73 [vR 30, vI x, vI (if undR k 1 then v + 7 else v)] [] (mw f5 a5 g) else rn xs L 4 86 [vR 30, vI x, vI (if undR k 1 then v + 7 else v)] [] (mw f5 a5 g) := fun v => by
    rw [b4_59]
    cases e : undR k 1 with
    | true => rw [if_neg (by decide), b4_62, h5.knd, if_pos rfl]
    | false => rw [if_pos (by decide), b4_65, h5.knd, if_neg (show ¬ (false = true) by decide)]
  show ∃ f' a', rn xs L 4 0 [vR 30, vI x, vS 0] [] (mw f a g) = _ ∧ _
  rw [s2, s3]
  unfold vaN trN
  by_cases q : k = 4
  · refine ⟨f6, a6, ?_, ?_, rr.tr r6⟩
    · rw [if_pos q, b4_73, h5.sgn, e6]
      simp only [Option.bind_some, Option.toList_some, List.cons_append, List.nil_append]
      rw [b4_82, if_pos q]
    · show cA f6 a6 k n s (if k = 4 then _ else _) pt
      rw [if_pos q]; exact h6
  · refine ⟨f5, a5, ?_, ?_, rr⟩
    · rw [if_neg q, b4_86, if_neg q]
    · show cA f5 a5 k n s (if k = 4 then _ else _) pt
      rw [if_neg q]; exact h5
theorem m_nplain {x : Int32} (h : mA f a k n s p pt) : ∃ f' a', ev xs L 211 2 [vR 44, vI x] (mw f a g) = some (some (vI (vaT k n s x - s)), mw f' a' g) ∧ mA f' a' k n s (trT k (addT p 11)) pt ∧ frM f a f' a' := by
  obtain ⟨f1, a1, e1, h1, r1⟩ := m_run (xs := xs) (L := L) (g := g) (b := 11) h
  obtain ⟨f2, a2, e2, h2, r2⟩ := m_turns (xs := xs) (L := L) (g := g) (x := x) h1
  refine ⟨f2, a2, ?_, h2, r1.tr r2⟩
  show rn xs L 211 0 [vR 44, vI x] [] (mw f a g) = _
  rw [b211_0, e1]
  simp only [Option.bind_some, Option.toList_none, List.nil_append]
  rw [b211_6, e2]
  simp only [Option.bind_some, Option.toList_some, List.cons_append, List.nil_append]
  rw [b211_11, h2.sgn]
theorem m_names {x : Int32} (h : mA f a k n s p pt) : ∃ f' a', ev xs L 210 3 [vR 44, vI x] (mw f a g) = some (some (vI (vaN k n s x)), mw f' a' g) ∧ mA f' a' k n s (trN k p) pt ∧ frM f a f' a' := by
  show ∃ f' a', rn xs L 210 0 [vR 44, vI x, vS 0] [] (mw f a g) = _ ∧ _
  rw [b210_0, h.knd]
  by_cases q13 : k = 1 ∨ k = 3
  · obtain ⟨f1, a1, e1, h1, r1⟩ := m_run (xs := xs) (L := L) (g := g) (b := 20) h
    obtain ⟨f2, a2, e2, h2, r2⟩ := m_nplain (xs := xs) (L := L) (g := g) (x := x) h1
    have hu : undR k 1 = true := by unfold undR; rcases q13 with rfl | rfl <;> rfl
    have q4 : ¬ k = 4 := by rcases q13 with rfl | rfl <;> decide
    refine ⟨f2, a2, ?_, ?_, r1.tr r2⟩
    · have s1 : (if k = 1 then rn xs L 210 16 [vR 44, vI x, vS 0] [] (mw f a g) else rn xs L 210 8 [vR 44, vI x, vS 0] [] (mw f a g)) = rn xs L 210 16 [vR 44, vI x, vS 0] [] (mw f a g) := by
        by_cases q1 : k = 1
        · rw [if_pos q1]
        · have q3 : k = 3 := by
            rcases q13 with q | q
            · exact absurd q q1
            · exact q
          rw [if_neg q1, b210_8, h.knd, if_pos q3]
      rw [s1, b210_16, e1]
      simp only [Option.bind_some, Option.toList_none, List.nil_append]
      rw [b210_22, e2]
      simp only [Option.bind_some, Option.toList_some, List.cons_append, List.nil_append]
      rw [b210_27]
      unfold vaN
      rw [hu]
      simp [q4]
    · unfold trN
      rw [hu, decide_eq_false q4]
      simp [q4]
      exact h2
  · have q1 : ¬ k = 1 := fun q => q13 (Or.inl q)
    have q3 : ¬ k = 3 := fun q => q13 (Or.inr q)
    rw [if_neg q1, b210_8, h.knd, if_neg q3, b210_31, h.knd]
    by_cases q4 : k = 4
    · subst q4
      obtain ⟨f1, a1, e1, h1, r1⟩ := m_run (xs := xs) (L := L) (g := g) (b := 41) h
      obtain ⟨f2, a2, e2, h2, r2⟩ := m_nplain (xs := xs) (L := L) (g := g) (x := x) h1
      obtain ⟨f3, a3, e3, h3, r3⟩ := m_turns (xs := xs) (L := L) (g := g) (x := s) h2
      have ht : trN 4 p = trT 4 (trT 4 (addT (addT p 41) 11)) := by simp [trN, addB, undR]
      refine ⟨f3, a3, ?_, by rw [ht]; exact h3, (r1.tr r2).tr r3⟩
      rw [if_pos rfl, b210_39, e1]
      simp only [Option.bind_some, Option.toList_none, List.nil_append]
      rw [b210_45, e2]
      simp only [Option.bind_some, Option.toList_some, List.cons_append, List.nil_append]
      rw [b210_50, h2.sgn, e3]
      simp only [Option.bind_some, Option.toList_some, List.cons_append, List.nil_append]
      rw [b210_60]
      simp [vaN, undR]
    · obtain ⟨f2, a2, e2, h2, r2⟩ := m_nplain (xs := xs) (L := L) (g := g) (x := x) h
      have hu : undR k 1 = false := by unfold undR; simp [q1, q3]
      refine ⟨f2, a2, ?_, ?_, r2⟩
      · rw [if_neg q4, b210_62, e2]
        simp only [Option.bind_some, Option.toList_some, List.cons_append, List.nil_append]
        rw [b210_67]
        unfold vaN
        rw [hu]
        simp [q4]
      · unfold trN
        rw [hu, decide_eq_false q4]
        simp [q4]
        exact h2
theorem c_setPt {v : Int32} (h : cA f a k n s p pt) : cA (ma_u2 f 30 5 v) a k n s p v ∧ frC f a (ma_u2 f 30 5 v) a := by
  have hu : ∀ j, j ≠ 5 → ma_u2 f 30 5 v 30 j = f 30 j := fun j hj => by rw [u2_at, if_neg (fun q => hj q.2)]
  refine ⟨cA.mk ?_ ?_ ?_ ?_ h.le ?_ h.ran, fun q hq => u2_ne hq, fun _ _ => rfl⟩
  · rw [hu _ (by decide)]; exact h.knd
  · rw [hu _ (by decide)]; exact h.num
  · rw [hu _ (by decide)]; exact h.sgn
  · rw [u2_at, if_pos ⟨rfl, rfl⟩]
  · rw [hu _ (by decide)]; exact h.cnt
theorem m_setPt {v : Int32} (h : mA f a k n s p pt) : mA (ma_u2 f 44 26 v) a k n s p v ∧ frM f a (ma_u2 f 44 26 v) a := by
  have hu : ∀ j, j ≠ 26 → ma_u2 f 44 26 v 44 j = f 44 j := fun j hj => by rw [u2_at, if_neg (fun q => hj q.2)]
  refine ⟨mA.mk ?_ ?_ ?_ ?_ h.le ?_ h.ran, fun q hq => u2_ne hq, fun j _ hj => hu j hj, fun _ _ => rfl⟩
  · rw [hu _ (by decide)]; exact h.knd
  · rw [hu _ (by decide)]; exact h.num
  · rw [hu _ (by decide)]; exact h.sgn
  · rw [u2_at, if_pos ⟨rfl, rfl⟩]
  · rw [hu _ (by decide)]; exact h.cnt
theorem c_parts {x : Int32} (h : cA f a k n s p 0) : ∃ f' a', ev xs L 5 4 [vR 30, vI x] (mw f a g) = some (some (vI (vaP k n s x)), mw f' a' g) ∧ cA f' a' k n s (trP k n s p) (ptd n s) ∧ frC f a f' a' := by
  obtain ⟨f1, a1, e1, h1, r1⟩ := c_bg (xs := xs) (L := L) (g := g) (b := 50) (decide (k = 3)) h
  obtain ⟨f2, a2, e2, h2, r2⟩ := c_bg (xs := xs) (L := L) (g := g) (b := 61) (decide (k = 5)) h1
  obtain ⟨f4, a4, e4, h4, r4⟩ := c_bg (xs := xs) (L := L) (g := g) (b := 12) true h2
  have rr := (r1.tr r2).tr r4
  rw [bI_t] at e4
  have s1 : rn xs L 5 0 [vR 30, vI x, vS 0, vS 0] [] (mw f a g) = rn xs L 5 19 [vR 30, vI x, vS 0, vS 0] [] (mw f1 a1 g) := by
    rw [b5_0, h.knd]
    by_cases q : k = 3
    · rw [decide_eq_true q, bI_t] at e1
      rw [if_pos q, b5_11, e1]
      simp only [Option.bind_some, Option.toList_none, List.nil_append]
    · rw [decide_eq_false q, bI_f] at e1
      rw [if_neg q, b5_15, e1]
      simp only [Option.bind_some, Option.toList_none, List.nil_append]
  have s2 : rn xs L 5 19 [vR 30, vI x, vS 0, vS 0] [] (mw f1 a1 g) = rn xs L 5 38 [vR 30, vI x, vS 0, vS 0] [] (mw f2 a2 g) := by
    rw [b5_19, h1.knd]
    by_cases q : k = 5
    · rw [decide_eq_true q, bI_t] at e2
      rw [if_pos q, b5_30, e2]
      simp only [Option.bind_some, Option.toList_none, List.nil_append]
    · rw [decide_eq_false q, bI_f] at e2
      rw [if_neg q, b5_34, e2]
      simp only [Option.bind_some, Option.toList_none, List.nil_append]
  show ∃ f' a', rn xs L 5 0 [vR 30, vI x, vS 0, vS 0] [] (mw f a g) = _ ∧ _
  rw [s1, s2, b5_38, e4]
  simp only [Option.bind_some, Option.toList_none, List.nil_append]
  rw [b5_45, h4.sgn, h4.num]
  by_cases q0 : s - n = 0
  · obtain ⟨h5, r5⟩ := c_setPt (v := 1) h4
    refine ⟨ma_u2 f4 30 5 1, a4, ?_, ?_, rr.tr r5⟩
    · rw [if_pos q0, b5_59]
      unfold vaP
      rw [if_pos q0]
    · unfold trP ptd
      rw [if_pos q0]
      simp only [q0, if_true]
      exact h5
  · rw [if_neg q0, b5_66, h4.knd]
    have hpt : ptd n s = 0 := by unfold ptd; rw [if_neg q0]
    by_cases q3 : k = 3
    · have q5 : ¬ k = 5 := fun q => absurd (q3.symm.trans q) (by decide)
      refine ⟨f4, a4, ?_, ?_, rr⟩
      · rw [if_pos q3, b5_74 _ _ _ q0, h4.knd, if_neg q5, b5_103, h4.knd, if_pos q3, b5_111]
        unfold vaP
        simp [q0, q3]
      · rw [hpt]
        unfold trP
        show cA f4 a4 k n s (if s - n = 0 then _ else if k = 5 then _ else _) 0
        rw [if_neg q0, if_neg q5]
        exact h4
    · by_cases q5 : k = 5
      · obtain ⟨f5, a5, e5, h5, r5⟩ := c_turns (xs := xs) (L := L) (g := g) (x := n) h4
        refine ⟨f5, a5, ?_, ?_, rr.tr r5⟩
        · rw [if_neg q3, b5_80 _ _ _ q0, h4.knd, if_pos q5, b5_92, h4.num, e5]
          simp only [Option.bind_some, Option.toList_some, List.cons_append, List.nil_append]
          rw [b5_101]
          unfold vaP
          rw [if_neg q0]
          show _ = some (some (vI (if k = 5 then (if k = 3 then _ else _) + _ else _)), _)
          rw [if_pos q5, if_neg q3]
        · rw [hpt]
          unfold trP
          show cA f5 a5 k n s (if s - n = 0 then _ else if k = 5 then _ else _) 0
          rw [if_neg q0, if_pos q5]
          exact h5
      · refine ⟨f4, a4, ?_, ?_, rr⟩
        · rw [if_neg q3, b5_80 _ _ _ q0, h4.knd, if_neg q5, b5_103, h4.knd, if_neg q3, b5_117]
          unfold vaP
          simp [q0, q3, q5]
        · rw [hpt]
          unfold trP
          show cA f4 a4 k n s (if s - n = 0 then _ else if k = 5 then _ else _) 0
          rw [if_neg q0, if_neg q5]
          exact h4
theorem m_pplain {x : Int32} (h : mA f a k n s p 0) : ∃ f' a', ev xs L 213 2 [vR 44, vI x] (mw f a g) = some (some (vI (if s - n = 0 then 0 else x / (s - n))), mw f' a' g) ∧ mA f' a' k n s (addT p 12) (ptd n s) ∧ frM f a f' a' := by
  obtain ⟨f1, a1, e1, h1, r1⟩ := m_run (xs := xs) (L := L) (g := g) (b := 12) h
  show ∃ f' a', rn xs L 213 0 [vR 44, vI x] [] (mw f a g) = _ ∧ _
  rw [b213_0, e1]
  simp only [Option.bind_some, Option.toList_none, List.nil_append]
  rw [b213_6, h1.prt, if_pos rfl, b213_14, h1.num, h1.sgn]
  unfold ptd
  by_cases q0 : s - n = 0
  · obtain ⟨h5, r5⟩ := m_setPt (v := 1) h1
    have e26 : ma_u2 f1 44 26 1 44 26 = 1 := by rw [u2_at, if_pos ⟨rfl, rfl⟩]
    refine ⟨ma_u2 f1 44 26 1, a1, ?_, ?_, r1.tr r5⟩
    · rw [if_pos (i_sub0.mp q0), b213_25, e26, if_neg (by decide), b213_40, if_pos q0]
    · rw [if_pos q0]; exact h5
  · obtain ⟨h5, r5⟩ := m_setPt (v := 0) h1
    have hnum := h5.num
    have hsgn := h5.sgn
    have e26 : ma_u2 f1 44 26 0 44 26 = 0 := by rw [u2_at, if_pos ⟨rfl, rfl⟩]
    refine ⟨ma_u2 f1 44 26 0, a1, ?_, ?_, r1.tr r5⟩
    · rw [if_neg (fun q => q0 (i_sub0.mpr q)), b213_29, e26, if_pos rfl, b213_44 _ (by rw [hnum, hsgn]; exact q0), hnum, hsgn, if_neg q0]
    · rw [if_neg q0]; exact h5
theorem m_parts {x : Int32} (h : mA f a k n s p 0) : ∃ f' a', ev xs L 212 3 [vR 44, vI x] (mw f a g) = some (some (vI (vaP k n s x)), mw f' a' g) ∧ mA f' a' k n s (trP k n s p) (ptd n s) ∧ frM f a f' a' := by
  show ∃ f' a', rn xs L 212 0 [vR 44, vI x, vS 0] [] (mw f a g) = _ ∧ _
  rw [b212_0, h.knd]
  by_cases q3 : k = 3
  · subst q3
    obtain ⟨f1, a1, e1, h1, r1⟩ := m_run (xs := xs) (L := L) (g := g) (b := 50) h
    obtain ⟨f2, a2, e2, h2, r2⟩ := m_pplain (xs := xs) (L := L) (g := g) (x := x + 3) h1
    refine ⟨f2, a2, ?_, ?_, r1.tr r2⟩
    · rw [if_pos rfl, b212_8, e1]
      simp only [Option.bind_some, Option.toList_none, List.nil_append]
      rw [b212_14, e2]
      simp only [Option.bind_some, Option.toList_some, List.cons_append, List.nil_append]
      rw [b212_22]
      unfold vaP
      by_cases q0 : s - n = 0
      · simp [q0]
      · simp [q0]
    · unfold trP
      show mA f2 a2 3 n s (if s - n = 0 then _ else if (3 : Int32) = 5 then _ else _) _
      by_cases q0 : s - n = 0
      · rw [if_pos q0]; exact h2
      · rw [if_neg q0, if_neg (by decide)]; exact h2
  · rw [if_neg q3, b212_24, h.knd]
    by_cases q5 : k = 5
    · subst q5
      obtain ⟨f1, a1, e1, h1, r1⟩ := m_run (xs := xs) (L := L) (g := g) (b := 61) h
      obtain ⟨f2, a2, e2, h2, r2⟩ := m_pplain (xs := xs) (L := L) (g := g) (x := x) h1
      rw [if_pos rfl, b212_32, e1]
      simp only [Option.bind_some, Option.toList_none, List.nil_append]
      rw [b212_38, e2]
      simp only [Option.bind_some, Option.toList_some, List.cons_append, List.nil_append]
      rw [b212_43, h2.prt]
      by_cases q0 : s - n = 0
      · refine ⟨f2, a2, ?_, ?_, r1.tr r2⟩
        · rw [show ptd n s = 1 by unfold ptd; rw [if_pos q0], if_neg (by decide), b212_51]
          unfold vaP
          rw [if_pos q0]
        · unfold trP
          show mA f2 a2 5 n s (if s - n = 0 then _ else _) _
          rw [if_pos q0]; exact h2
      · obtain ⟨f3, a3, e3, h3, r3⟩ := m_turns (xs := xs) (L := L) (g := g) (x := n) h2
        refine ⟨f3, a3, ?_, ?_, (r1.tr r2).tr r3⟩
        · rw [show ptd n s = 0 by unfold ptd; rw [if_neg q0], if_pos rfl, b212_55, h2.num, e3]
          simp only [Option.bind_some, Option.toList_some, List.cons_append, List.nil_append]
          rw [b212_64, if_neg q0]
          unfold vaP
          rw [if_neg q0]
          rfl
        · unfold trP
          show mA f3 a3 5 n s (if s - n = 0 then _ else if (5 : Int32) = 5 then _ else _) _
          rw [if_neg q0, if_pos rfl]; exact h3
    · obtain ⟨f2, a2, e2, h2, r2⟩ := m_pplain (xs := xs) (L := L) (g := g) (x := x) h
      refine ⟨f2, a2, ?_, ?_, r2⟩
      · rw [if_neg q5, b212_66, e2]
        simp only [Option.bind_some, Option.toList_some, List.cons_append, List.nil_append]
        rw [b212_71]
        unfold vaP
        by_cases q0 : s - n = 0
        · simp [q0]
        · simp [q0, q3, q5]
      · unfold trP
        rw [decide_eq_false q3, decide_eq_false q5]
        show mA f2 a2 k n s (if s - n = 0 then _ else if k = 5 then _ else _) _
        by_cases q0 : s - n = 0
        · rw [if_pos q0]; exact h2
        · rw [if_neg q0, if_neg q5]; exact h2
end S83
def trL (k n s : Int32) (p : Tr) : Tr := let q := trN k (addT (addB (addB p (undR k 2) 31) (decide (k = 5)) 60) 13); if undR k 2 then trP k n s q else q
def vaL (k n s x : Int32) : Int32 := if undR k 2 then (vaN k n s x ^^^ 20) - vaP k n s n else if k = 5 then (vaN k n s x ^^^ 20) ^^^ x else vaN k n s x ^^^ 20
def ptL (k n s : Int32) : Int32 := if undR k 2 then ptd n s else 0
section S83b
variable {xs : Nat → Int32} {L : Nat} {g : Nat → Nat → Int64} {f a : Nat → Nat → Int32} {k n s pt : Int32} {p : Tr}
theorem und25 (q : undR k 2 = true) : ¬ k = 5 := fun e => by
  subst e
  exact absurd q (by decide)
theorem c_lands {x : Int32} (h : cA f a k n s p 0) : ∃ f' a', ev xs L 6 3 [vR 30, vI x] (mw f a g) = some (some (vI (vaL k n s x)), mw f' a' g) ∧ cA f' a' k n s (trL k n s p) (ptL k n s) ∧ frC f a f' a' := by
  obtain ⟨f1, a1, e1, h1, r1⟩ := c_bg (xs := xs) (L := L) (g := g) (b := 31) (undR k 2) h
  obtain ⟨f2, a2, e2, h2, r2⟩ := c_bg (xs := xs) (L := L) (g := g) (b := 60) (decide (k = 5)) h1
  obtain ⟨f4, a4, e4, h4, r4⟩ := c_bg (xs := xs) (L := L) (g := g) (b := 13) true h2
  obtain ⟨f5, a5, e5, h5, r5⟩ := c_names (xs := xs) (L := L) (g := g) (x := x) h4
  have rr := ((r1.tr r2).tr r4).tr r5
  rw [bI_t] at e4
  have s2 : rn xs L 6 14 [vR 30, vI x, vS 0] [] (mw f1 a1 g) = rn xs L 6 33 [vR 30, vI x, vS 0] [] (mw f2 a2 g) := by
    rw [b6_14, h1.knd]
    by_cases q : k = 5
    · rw [decide_eq_true q, bI_t] at e2
      rw [if_pos q, b6_25, e2]
      simp only [Option.bind_some, Option.toList_none, List.nil_append]
    · rw [decide_eq_false q, bI_f] at e2
      rw [if_neg q, b6_29, e2]
      simp only [Option.bind_some, Option.toList_none, List.nil_append]
  show ∃ f' a', rn xs L 6 0 [vR 30, vI x, vS 0] [] (mw f a g) = _ ∧ _
  rw [b6_0, h.knd, c_under]
  simp only [Option.bind_some, Option.toList_some, List.cons_append, List.nil_append]
  rw [b6_11, e1]
  simp only [Option.bind_some, Option.toList_none, List.nil_append]
  rw [s2, b6_33, e4]
  simp only [Option.bind_some, Option.toList_none, List.nil_append]
  rw [b6_40, e5]
  simp only [Option.bind_some, Option.toList_some, List.cons_append, List.nil_append]
  rw [b6_45, h5.knd, c_under]
  simp only [Option.bind_some, Option.toList_some, List.cons_append, List.nil_append]
  rw [b6_57]
  unfold vaL trL ptL
  cases e : undR k 2 with
  | true =>
    have h5' := h5
    obtain ⟨f6, a6, e6, h6, r6⟩ := c_parts (xs := xs) (L := L) (g := g) (x := n) h5'
    refine ⟨f6, a6, ?_, ?_, rr.tr r6⟩
    · rw [if_neg (by decide), b6_60, h5.num, e6]
      simp only [Option.bind_some, Option.toList_some, List.cons_append, List.nil_append]
      rw [b6_69]
      rfl
    · rw [e] at h6
      exact h6
  | false =>
    rw [e] at h5
    refine ⟨f5, a5, ?_, h5, rr⟩
    rw [if_pos (by decide), b6_71, h5.knd]
    by_cases q : k = 5
    · rw [if_pos q, b6_79]
      simp [q]
    · rw [if_neg q, b6_85]
      simp [q]
theorem m_lplain {x : Int32} (h : mA f a k n s p pt) : ∃ f' a', ev xs L 215 2 [vR 44, vI x] (mw f a g) = some (some (vI (vaN k n s x ^^^ 20)), mw f' a' g) ∧ mA f' a' k n s (trN k (addT p 13)) pt ∧ frM f a f' a' := by
  obtain ⟨f1, a1, e1, h1, r1⟩ := m_run (xs := xs) (L := L) (g := g) (b := 13) h
  obtain ⟨f2, a2, e2, h2, r2⟩ := m_names (xs := xs) (L := L) (g := g) (x := x) h1
  refine ⟨f2, a2, ?_, h2, r1.tr r2⟩
  show rn xs L 215 0 [vR 44, vI x] [] (mw f a g) = _
  rw [b215_0, e1]
  simp only [Option.bind_some, Option.toList_none, List.nil_append]
  rw [b215_6, e2]
  simp only [Option.bind_some, Option.toList_some, List.cons_append, List.nil_append]
  rw [b215_11]
theorem m_lands {x : Int32} (h : mA f a k n s p 0) : ∃ f' a', ev xs L 214 3 [vR 44, vI x] (mw f a g) = some (some (vI (vaL k n s x)), mw f' a' g) ∧ mA f' a' k n s (trL k n s p) (ptL k n s) ∧ frM f a f' a' := by
  show ∃ f' a', rn xs L 214 0 [vR 44, vI x, vS 0] [] (mw f a g) = _ ∧ _
  rw [b214_0, h.knd]
  by_cases q24 : k = 2 ∨ k = 4
  · have hu : undR k 2 = true := by unfold undR; rcases q24 with rfl | rfl <;> rfl
    have q5 := und25 hu
    obtain ⟨f1, a1, e1, h1, r1⟩ := m_run (xs := xs) (L := L) (g := g) (b := 31) h
    obtain ⟨f2, a2, e2, h2, r2⟩ := m_lplain (xs := xs) (L := L) (g := g) (x := x) h1
    obtain ⟨f3, a3, e3, h3, r3⟩ := m_parts (xs := xs) (L := L) (g := g) (x := n) h2
    refine ⟨f3, a3, ?_, ?_, (r1.tr r2).tr r3⟩
    · have s1 : (if k = 2 then rn xs L 214 16 [vR 44, vI x, vS 0] [] (mw f a g) else rn xs L 214 8 [vR 44, vI x, vS 0] [] (mw f a g)) = rn xs L 214 16 [vR 44, vI x, vS 0] [] (mw f a g) := by
        by_cases q2 : k = 2
        · rw [if_pos q2]
        · have q4 : k = 4 := by
            rcases q24 with q | q
            · exact absurd q q2
            · exact q
          rw [if_neg q2, b214_8, h.knd, if_pos q4]
      rw [s1, b214_16, e1]
      simp only [Option.bind_some, Option.toList_none, List.nil_append]
      rw [b214_22, e2]
      simp only [Option.bind_some, Option.toList_some, List.cons_append, List.nil_append]
      rw [b214_27, h2.num, e3]
      simp only [Option.bind_some, Option.toList_some, List.cons_append, List.nil_append]
      rw [b214_37]
      unfold vaL
      rw [hu]
      rfl
    · unfold trL ptL
      rw [hu, decide_eq_false q5]
      exact h3
  · have q2 : ¬ k = 2 := fun q => q24 (Or.inl q)
    have q4 : ¬ k = 4 := fun q => q24 (Or.inr q)
    have hu : undR k 2 = false := by unfold undR; simp [q2, q4]
    rw [if_neg q2, b214_8, h.knd, if_neg q4, b214_39, h.knd]
    by_cases q5 : k = 5
    · obtain ⟨f1, a1, e1, h1, r1⟩ := m_run (xs := xs) (L := L) (g := g) (b := 60) h
      obtain ⟨f2, a2, e2, h2, r2⟩ := m_lplain (xs := xs) (L := L) (g := g) (x := x) h1
      refine ⟨f2, a2, ?_, ?_, r1.tr r2⟩
      · rw [if_pos q5, b214_47, e1]
        simp only [Option.bind_some, Option.toList_none, List.nil_append]
        rw [b214_53, e2]
        simp only [Option.bind_some, Option.toList_some, List.cons_append, List.nil_append]
        rw [b214_58]
        unfold vaL
        rw [hu]
        simp [q5]
      · unfold trL ptL
        rw [hu, decide_eq_true q5]
        exact h2
    · obtain ⟨f2, a2, e2, h2, r2⟩ := m_lplain (xs := xs) (L := L) (g := g) (x := x) h
      refine ⟨f2, a2, ?_, ?_, r2⟩
      · rw [if_neg q5, b214_61, e2]
        simp only [Option.bind_some, Option.toList_some, List.cons_append, List.nil_append]
        rw [b214_66]
        unfold vaL
        rw [hu]
        simp [q5]
      · unfold trL ptL
        rw [hu, decide_eq_false q5]
        exact h2
end S83b
