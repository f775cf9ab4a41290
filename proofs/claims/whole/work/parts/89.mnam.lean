/-! ===== the model's names, needs, numbers ===== -/
section S89
variable {xs : Nat → Int32} {L : Nat} {f a : Nat → Nat → Int32} {g : Nat → Nat → Int64} {B : Nat → Nat} {l p : Nat}
theorem m_at {i c : Nat} {w : Int32} (hB : byM a B l) (hl : l ≤ 200) (h : mS f B l p w) (hi : i < l) (hc : c < 1000) : ev xs L 119 2 [vR 44, vI (nI i)] (mw f a g) = some (some (vI (nI (B i))), mw f a g) ∧ ((nI (B i) = nI c) ↔ B i = c) := by
  have h' : mX f l (sgm B l p) (stt B l p) (enn B l p) (vll B l p) w := h
  have hb := (hB i hi).1
  refine ⟨?_, by rw [nn_eq (by omega) (by omega)]⟩
  rw [m_byteAt hB hl h'.len (by omega)]
  unfold bt
  rw [if_pos hi]
theorem m_isName {n c1 c2 c3 c4 : Nat} {w : Int32} (hB : byM a B l) (hl : l ≤ 200) (hp : p ≤ l) (h : mS f B l p w) (hn : 3 ≤ n ∧ n < 100) (hc : c1 < 1000 ∧ c2 < 1000 ∧ c3 < 1000 ∧ c4 < 1000) : ev xs L 125 6 [vR 44, vI (nI n), vI (nI c1), vI (nI c2), vI (nI c3), vI (nI c4)] (mw f a g) = some (some (vI (bI (decide (sgm B l p = 1) && decide (enn B l p - stt B l p = n) && (decide (B (stt B l p) = c1) && (decide (B (stt B l p + 1) = c2) && (decide (B (stt B l p + 2) = c3) && decide (B (enn B l p - 1) = c4))))))), mw f a g) := by
  have h' : mX f l (sgm B l p) (stt B l p) (enn B l p) (vll B l p) w := h
  have hst := stt_le (B := B) hp
  have hen := enn_le (B := B) hp
  have hsi : sgm B l p = 0 ∨ sgm B l p = 1 ∨ sgm B l p = 2 ∨ sgm B l p = 3 := srt_in _
  show rn xs L 125 0 [vR 44, vI (nI n), vI (nI c1), vI (nI c2), vI (nI c3), vI (nI c4)] [] (mw f a g) = _
  have no : rn xs L 125 81 [vR 44, vI (nI n), vI (nI c1), vI (nI c2), vI (nI c3), vI (nI c4)] [] (mw f a g) = some (some (vI 0), mw f a g) := b125_81 _ _ _ _ _
  rw [b125_0, h'.srt]
  by_cases z1 : sgm B l p = 1
  · rw [if_pos (by rw [z1]; rfl), b125_8, h'.en, h'.st, pk_sub hen.1, decide_eq_true z1, Bool.true_and]
    by_cases z2 : enn B l p - stt B l p = n
    · obtain ⟨e1, q1⟩ := m_at (xs := xs) (L := L) (g := g) (i := stt B l p) (c := c1) hB hl h (by omega) hc.1
      obtain ⟨e2, q2⟩ := m_at (xs := xs) (L := L) (g := g) (i := stt B l p + 1) (c := c2) hB hl h (by omega) hc.2.1
      obtain ⟨e3, q3⟩ := m_at (xs := xs) (L := L) (g := g) (i := stt B l p + 2) (c := c3) hB hl h (by omega) hc.2.2.1
      obtain ⟨e4, q4⟩ := m_at (xs := xs) (L := L) (g := g) (i := enn B l p - 1) (c := c4) hB hl h (by omega) hc.2.2.2
      have x2 : nI (stt B l p) + 1 = nI (stt B l p + 1) := nn_add1
      have x3 : nI (stt B l p) + 2 = nI (stt B l p + 2) := by rw [show (2 : Int32) = nI 2 from rfl, nn_add]
      have x4 : nI (enn B l p) - 1 = nI (enn B l p - 1) := by rw [show (1 : Int32) = nI 1 from rfl, pk_sub (by omega)]
      rw [if_pos (by rw [nn_eq (by omega) (by omega)]; exact z2), b125_21, h'.st, e1, decide_eq_true z2, Bool.true_and]
      simp only [Option.bind_some, Option.toList_some, List.cons_append, List.nil_append]
      rw [b125_29]
      by_cases y1 : B (stt B l p) = c1
      · rw [if_pos (q1.mpr y1), b125_33, h'.st, x2, e2, decide_eq_true y1, Bool.true_and]
        simp only [Option.bind_some, Option.toList_some, List.cons_append, List.nil_append]
        rw [b125_43]
        by_cases y2 : B (stt B l p + 1) = c2
        · rw [if_pos (q2.mpr y2), b125_47, h'.st, x3, e3, decide_eq_true y2, Bool.true_and]
          simp only [Option.bind_some, Option.toList_some, List.cons_append, List.nil_append]
          rw [b125_57]
          by_cases y3 : B (stt B l p + 2) = c3
          · rw [if_pos (q3.mpr y3), b125_62, h'.en, x4, e4, decide_eq_true y3, Bool.true_and]
            simp only [Option.bind_some, Option.toList_some, List.cons_append, List.nil_append]
            rw [b125_72]
            by_cases y4 : B (enn B l p - 1) = c4
            · rw [if_pos (q4.mpr y4), b125_77, decide_eq_true y4]; rfl
            · rw [if_neg (fun z => y4 (q4.mp z)), no, decide_eq_false y4]; rfl
          · rw [if_neg (fun z => y3 (q3.mp z)), no, decide_eq_false y3]; rfl
        · rw [if_neg (fun z => y2 (q2.mp z)), no, decide_eq_false y2]; rfl
      · rw [if_neg (fun z => y1 (q1.mp z)), no, decide_eq_false y1]; rfl
    · rw [if_neg (by rw [nn_eq (by omega) (by omega)]; exact z2), no, decide_eq_false z2]; rfl
  · rw [if_neg (by rw [show (1 : Int32) = nI 1 from rfl, nn_eq (by omega) (by omega)]; exact z1), no, decide_eq_false z1]; rfl
theorem m_isSame {i c1 c2 c3 : Nat} {w : Int32} (hB : byM a B l) (hl : l ≤ 200) (h : mS f B l p w) (hi : stt B l p + i + 2 < l) (hc : c1 < 1000 ∧ c2 < 1000 ∧ c3 < 1000) : ev xs L 126 5 [vR 44, vI (nI i), vI (nI c1), vI (nI c2), vI (nI c3)] (mw f a g) = some (some (vI (bI (decide (B (stt B l p + i) = c1) && (decide (B (stt B l p + i + 1) = c2) && decide (B (stt B l p + i + 2) = c3))))), mw f a g) := by
  have h' : mX f l (sgm B l p) (stt B l p) (enn B l p) (vll B l p) w := h
  show rn xs L 126 0 [vR 44, vI (nI i), vI (nI c1), vI (nI c2), vI (nI c3)] [] (mw f a g) = _
  obtain ⟨e1, q1⟩ := m_at (xs := xs) (L := L) (g := g) (i := stt B l p + i) (c := c1) hB hl h (by omega) hc.1
  obtain ⟨e2, q2⟩ := m_at (xs := xs) (L := L) (g := g) (i := stt B l p + i + 1) (c := c2) hB hl h (by omega) hc.2.1
  obtain ⟨e3, q3⟩ := m_at (xs := xs) (L := L) (g := g) (i := stt B l p + i + 2) (c := c3) hB hl h (by omega) hc.2.2
  have x2 : nI (stt B l p + i) + 1 = nI (stt B l p + i + 1) := nn_add1
  have x3 : nI (stt B l p + i) + 2 = nI (stt B l p + i + 2) := by rw [show (2 : Int32) = nI 2 from rfl, nn_add]
  have no : rn xs L 126 51 [vR 44, vI (nI i), vI (nI c1), vI (nI c2), vI (nI c3)] [] (mw f a g) = some (some (vI 0), mw f a g) := b126_51 _ _ _ _
  rw [b126_0, h'.st, nn_add, e1]
  simp only [Option.bind_some, Option.toList_some, List.cons_append, List.nil_append]
  rw [b126_10]
  by_cases y1 : B (stt B l p + i) = c1
  · rw [if_pos (q1.mpr y1), b126_14, h'.st, nn_add, x2, e2, decide_eq_true y1, Bool.true_and]
    simp only [Option.bind_some, Option.toList_some, List.cons_append, List.nil_append]
    rw [b126_26]
    by_cases y2 : B (stt B l p + i + 1) = c2
    · rw [if_pos (q2.mpr y2), b126_30, h'.st, nn_add, x3, e3, decide_eq_true y2, Bool.true_and]
      simp only [Option.bind_some, Option.toList_some, List.cons_append, List.nil_append]
      rw [b126_42]
      by_cases y3 : B (stt B l p + i + 2) = c3
      · rw [if_pos (q3.mpr y3), b126_47, decide_eq_true y3]; rfl
      · rw [if_neg (fun z => y3 (q3.mp z)), no, decide_eq_false y3]; rfl
    · rw [if_neg (fun z => y2 (q2.mp z)), no, decide_eq_false y2]; rfl
  · rw [if_neg (fun z => y1 (q1.mp z)), no, decide_eq_false y1]; rfl
theorem m_isTwo {c1 c2 : Nat} {w : Int32} (hB : byM a B l) (hl : l ≤ 200) (hp : p ≤ l) (h : mS f B l p w) (hc : c1 < 1000 ∧ c2 < 1000) : ev xs L 130 3 [vR 44, vI (nI c1), vI (nI c2)] (mw f a g) = some (some (vI (bI (nmB B l p [c1, c2]))), mw f a g) := by
  have h' : mX f l (sgm B l p) (stt B l p) (enn B l p) (vll B l p) w := h
  have hst := stt_le (B := B) hp
  have hen := enn_le (B := B) hp
  have hsi : sgm B l p = 0 ∨ sgm B l p = 1 ∨ sgm B l p = 2 ∨ sgm B l p = 3 := srt_in _
  show rn xs L 130 0 [vR 44, vI (nI c1), vI (nI c2)] [] (mw f a g) = _
  have no : rn xs L 130 51 [vR 44, vI (nI c1), vI (nI c2)] [] (mw f a g) = some (some (vI 0), mw f a g) := b130_51 _ _
  unfold nmB
  rw [b130_0, h'.srt]
  by_cases z1 : sgm B l p = 1
  · rw [if_pos (by rw [z1]; rfl), b130_8, h'.en, h'.st, pk_sub hen.1, decide_eq_true z1, Bool.true_and]
    by_cases z2 : enn B l p - stt B l p = 2
    · obtain ⟨e1, q1⟩ := m_at (xs := xs) (L := L) (g := g) (i := stt B l p) (c := c1) hB hl h (by omega) hc.1
      obtain ⟨e2, q2⟩ := m_at (xs := xs) (L := L) (g := g) (i := stt B l p + 1) (c := c2) hB hl h (by omega) hc.2
      have x2 : nI (stt B l p) + 1 = nI (stt B l p + 1) := nn_add1
      rw [if_pos (by rw [show (2 : Int32) = nI 2 from rfl, nn_eq (by omega) (by omega)]; exact z2), b130_21, h'.st, e1, decide_eq_true (show enn B l p - stt B l p = [c1, c2].length from z2), Bool.true_and]
      simp only [Option.bind_some, Option.toList_some, List.cons_append, List.nil_append]
      rw [b130_29]
      show _ = some (some (vI (bI (decide (B (stt B l p) = c1) && (decide (B (stt B l p + 1) = c2) && true)))), mw f a g)
      by_cases y1 : B (stt B l p) = c1
      · rw [if_pos (q1.mpr y1), b130_33, h'.st, x2, e2, decide_eq_true y1, Bool.true_and]
        simp only [Option.bind_some, Option.toList_some, List.cons_append, List.nil_append]
        rw [b130_43]
        by_cases y2 : B (stt B l p + 1) = c2
        · rw [if_pos (q2.mpr y2), b130_47, decide_eq_true y2]; rfl
        · rw [if_neg (fun z => y2 (q2.mp z)), no, decide_eq_false y2]; rfl
      · rw [if_neg (fun z => y1 (q1.mp z)), no, decide_eq_false y1]; rfl
    · rw [if_neg (by rw [show (2 : Int32) = nI 2 from rfl, nn_eq (by omega) (by omega)]; exact z2), no, decide_eq_false (show ¬ enn B l p - stt B l p = [c1, c2].length from z2)]; rfl
  · rw [if_neg (by rw [show (1 : Int32) = nI 1 from rfl, nn_eq (by omega) (by omega)]; exact z1), no, decide_eq_false z1]; rfl
theorem m_nm3 {c1 c2 c3 : Nat} {w : Int32} (hB : byM a B l) (hl : l ≤ 200) (hp : p ≤ l) (h : mS f B l p w) (hc : c1 < 1000 ∧ c2 < 1000 ∧ c3 < 1000) : ev xs L 125 6 [vR 44, vI (nI 3), vI (nI c1), vI (nI c2), vI (nI c3), vI (nI c3)] (mw f a g) = some (some (vI (bI (nmB B l p [c1, c2, c3]))), mw f a g) := by
  rw [m_isName hB hl hp h (by omega) ⟨hc.1, hc.2.1, hc.2.2, hc.2.2⟩]
  unfold nmB
  have e : (decide (sgm B l p = 1) && decide (enn B l p - stt B l p = 3) && (decide (B (stt B l p) = c1) && (decide (B (stt B l p + 1) = c2) && (decide (B (stt B l p + 2) = c3) && decide (B (enn B l p - 1) = c3))))) = (decide (sgm B l p = 1) && decide (enn B l p - stt B l p = [c1, c2, c3].length) && eqW B (stt B l p) [c1, c2, c3]) := by
    show _ = (decide (sgm B l p = 1) && decide (enn B l p - stt B l p = 3) && (decide (B (stt B l p) = c1) && (decide (B (stt B l p + 1) = c2) && (decide (B (stt B l p + 2) = c3) && true))))
    by_cases z2 : enn B l p - stt B l p = 3
    · rw [show enn B l p - 1 = stt B l p + 2 by omega, Bool.and_true, Bool.and_self]
    · rw [decide_eq_false z2, Bool.and_false, Bool.false_and, Bool.false_and]
  rw [e]
theorem m_nm4 {c1 c2 c3 c4 : Nat} {w : Int32} (hB : byM a B l) (hl : l ≤ 200) (hp : p ≤ l) (h : mS f B l p w) (hc : c1 < 1000 ∧ c2 < 1000 ∧ c3 < 1000 ∧ c4 < 1000) : ev xs L 124 5 [vR 44, vI (nI c1), vI (nI c2), vI (nI c3), vI (nI c4)] (mw f a g) = some (some (vI (bI (nmB B l p [c1, c2, c3, c4]))), mw f a g) := by
  show rn xs L 124 0 [vR 44, vI (nI c1), vI (nI c2), vI (nI c3), vI (nI c4)] [] (mw f a g) = _
  have e0 := m_isName (xs := xs) (L := L) (g := g) (n := 4) hB hl hp h (by omega) hc
  rw [b124_0, show vI (4 : Int32) = vI (nI 4) from rfl, e0]
  simp only [Option.bind_some, Option.toList_some, List.cons_append, List.nil_append]
  rw [b124_10 _ _ _ _ _ bI_01]
  unfold nmB
  have e : (decide (sgm B l p = 1) && decide (enn B l p - stt B l p = 4) && (decide (B (stt B l p) = c1) && (decide (B (stt B l p + 1) = c2) && (decide (B (stt B l p + 2) = c3) && decide (B (enn B l p - 1) = c4))))) = (decide (sgm B l p = 1) && decide (enn B l p - stt B l p = [c1, c2, c3, c4].length) && eqW B (stt B l p) [c1, c2, c3, c4]) := by
    show _ = (decide (sgm B l p = 1) && decide (enn B l p - stt B l p = 4) && (decide (B (stt B l p) = c1) && (decide (B (stt B l p + 1) = c2) && (decide (B (stt B l p + 2) = c3) && (decide (B (stt B l p + 3) = c4) && true)))))
    by_cases z2 : enn B l p - stt B l p = 4
    · rw [show enn B l p - 1 = stt B l p + 3 by omega, Bool.and_true]
    · rw [decide_eq_false z2, Bool.and_false, Bool.false_and, Bool.false_and]
  rw [e]
theorem m_needs {b : Bool} {w : Int32} (hB : byM a B l) (hl : l ≤ 200) (hp : p ≤ l) (h : mS f B l p w) (hw : w = 0 ∨ w = 1) :
    (w = 0 → b = true → ∃ f', ev xs L 129 2 [vR 44, vI (bI b)] (mw f a g) = some (none, mw f' a g) ∧ mS f' B l (enn B l p) 0 ∧ frX f f') ∧
    (w = 1 ∨ b = false → ∃ f', ev xs L 129 2 [vR 44, vI (bI b)] (mw f a g) = some (none, mw f' a g) ∧ mS f' B l p 1 ∧ frX f f') := by
  have h' : mX f l (sgm B l p) (stt B l p) (enn B l p) (vll B l p) w := h
  have bad : rn xs L 129 12 [vR 44, vI (bI b)] [vR 44] (mw f a g) = some (none, mw (ma_u2 f 44 11 1) a g) := by
    rw [b129_12, show ma_u2 f 44 11 1 44 11 = 1 by rw [u2_at, if_pos ⟨rfl, rfl⟩], if_neg (by decide), b129_31]
  constructor
  · intro w0 hb
    subst w0
    subst hb
    have h0 : mX (ma_u2 f 44 11 0) l (sgm B l p) (stt B l p) (enn B l p) (vll B l p) 0 := h'.wr'
    obtain ⟨f', e1, h1, r1⟩ := m_step (xs := xs) (L := L) (g := g) hB hl h0.len h0.en h0.wr (enn_le (B := B) hp).2.1
    refine ⟨f', ?_, h1, (frX.u (by omega)).tr r1⟩
    show rn xs L 129 0 [vR 44, vI (bI true)] [] (mw f a g) = _
    rw [b129_0, h'.wr, if_pos rfl, b129_8, if_neg (by decide), b129_16, h0.wr, if_pos rfl, b129_27, e1]
    simp only [Option.bind_some, Option.toList_none, List.nil_append]
    rw [b129_31]
  · intro hor
    refine ⟨ma_u2 f 44 11 1, ?_, h'.wr', frX.u (by omega)⟩
    show rn xs L 129 0 [vR 44, vI (bI b)] [] (mw f a g) = _
    rw [b129_0, h'.wr]
    rcases hor with w1 | hb
    · rw [if_neg (by rw [w1]; decide), bad]
    · rcases hw with w0 | w1
      · rw [if_pos w0, b129_8, if_pos (by rw [hb]; rfl), bad]
      · rw [if_neg (by rw [w1]; decide), bad]
/-- a number comes here -/
theorem m_numTo {k m : Nat} {w : Int32} (hm : m ≤ 99) (hB : byM a B l) (hl : l ≤ 200) (hp : p ≤ l) (h : mS f B l p w) (hw : w = 0 ∨ w = 1) :
    (∀ v, w = 0 → k < 62 → numO B l p m = some v → ∃ f', ev xs L 131 4 [vR 44, vI (nI k), vI (nI m)] (mw f a g) = some (none, mw f' (ma_u2 a 45 k (nI v)) g) ∧ mS f' B l (enn B l p) 0 ∧ frX f f') ∧
    (w = 1 ∨ numO B l p m = none → ∃ f', ev xs L 131 4 [vR 44, vI (nI k), vI (nI m)] (mw f a g) = some (none, mw f' a g) ∧ mS f' B l p 1 ∧ frX f f') := by
  have h' : mX f l (sgm B l p) (stt B l p) (enn B l p) (vll B l p) w := h
  have hst := stt_le (B := B) hp
  have hen := enn_le (B := B) hp
  have hsi : sgm B l p = 0 ∨ sgm B l p = 1 ∨ sgm B l p = 2 ∨ sgm B l p = 3 := srt_in _
  have hvl : vll B l p ≤ 9999 := by
    unfold vll
    by_cases z2 : sgm B l p = 2
    · rw [if_pos z2]
      exact vC_le _ _ _ (fun j h1 h2 => tok_2 z2 h1 (by omega)) (by omega)
    · rw [if_neg z2]; omega
  have main : rn xs L 131 0 [vR 44, vI (nI k), vI (nI m), vS 0] [] (mw f a g) = if (numO B l p m).isSome = true then rn xs L 131 39 [vR 44, vI (nI k), vI (nI m), vI 1] [] (mw f a g) else rn xs L 131 56 [vR 44, vI (nI k), vI (nI m), vI 0] [] (mw f a g) := by
    unfold numO
    rw [b131_0, h'.srt]
    by_cases z2 : sgm B l p = 2
    · rw [if_pos (by rw [z2]; rfl), b131_8, h'.en, h'.st, pk_sub hen.1]
      by_cases z3 : enn B l p - stt B l p ≤ 3
      · rw [if_neg (by rw [show (3 : Int32) = nI 3 from rfl, nn_lt (by omega) (by omega)]; omega), b131_21, h'.val]
        by_cases z4 : vll B l p ≤ m
        · rw [if_neg (by rw [nn_lt (by omega) (by omega)]; omega), b131_29, if_neg (by decide), if_pos (show sgm B l p = 2 ∧ enn B l p - stt B l p ≤ 3 ∧ vll B l p ≤ m from ⟨z2, z3, z4⟩), if_pos (show (some (vll B l p)).isSome = true from rfl)]
        · rw [if_pos (by rw [nn_lt (by omega) (by omega)]; omega), b131_33, if_pos rfl, if_neg (show ¬ (sgm B l p = 2 ∧ enn B l p - stt B l p ≤ 3 ∧ vll B l p ≤ m) from fun z => z4 z.2.2), if_neg (by decide)]
      · rw [if_pos (by rw [show (3 : Int32) = nI 3 from rfl, nn_lt (by omega) (by omega)]; omega), b131_33, if_pos rfl, if_neg (show ¬ (sgm B l p = 2 ∧ enn B l p - stt B l p ≤ 3 ∧ vll B l p ≤ m) from fun z => z3 z.2.1), if_neg (by decide)]
    · rw [if_neg (by rw [show (2 : Int32) = nI 2 from rfl, nn_eq (by omega) (by omega)]; exact z2), b131_33, if_pos rfl, if_neg (show ¬ (sgm B l p = 2 ∧ enn B l p - stt B l p ≤ 3 ∧ vll B l p ≤ m) from fun z => z2 z.1), if_neg (by decide)]
  constructor
  · intro v w0 hk hv
    have hvv : v = vll B l p := by
      unfold numO at hv
      split at hv
      · exact (Option.some.inj hv).symm
      · cases hv
    subst hvv
    have hin : ma_in (nI k) 62 = true := in_of hk (by decide)
    have hB' : byM (ma_u2 a 45 k (nI (vll B l p))) B l := fun i hi => by rw [u2_ne (by decide)]; exact hB i hi
    obtain ⟨f', e1, h1, r1⟩ := (m_needs (xs := xs) (L := L) (g := g) (b := true) hB' hl hp h hw).1 w0 rfl
    refine ⟨f', ?_, h1, r1⟩
    show rn xs L 131 0 [vR 44, vI (nI k), vI (nI m), vS 0] [] (mw f a g) = _
    rw [bI_t] at e1
    rw [main, hv, if_pos (show (some (vll B l p)).isSome = true from rfl), b131_39, h'.wr, if_pos w0, b131_46 _ _ _ hin, nn_nat (by omega), h'.val, e1]
    simp only [Option.bind_some, Option.toList_none, List.nil_append]
    rw [b131_61]
  · intro hor
    cases e : numO B l p m with
    | none =>
      obtain ⟨f', e1, h1, r1⟩ := (m_needs (xs := xs) (L := L) (g := g) (b := false) hB hl hp h hw).2 (Or.inr rfl)
      refine ⟨f', ?_, h1, r1⟩
      show rn xs L 131 0 [vR 44, vI (nI k), vI (nI m), vS 0] [] (mw f a g) = _
      rw [bI_f] at e1
      rw [main, e, if_neg (show ¬ (none : Option Nat).isSome = true by decide), b131_56, e1]
      simp only [Option.bind_some, Option.toList_none, List.nil_append]
      rw [b131_61]
    | some v =>
      have w1 : w = 1 := by
        rcases hor with z | z
        · exact z
        · rw [e] at z; cases z
      obtain ⟨f', e1, h1, r1⟩ := (m_needs (xs := xs) (L := L) (g := g) (b := true) hB hl hp h hw).2 (Or.inl w1)
      refine ⟨f', ?_, h1, r1⟩
      show rn xs L 131 0 [vR 44, vI (nI k), vI (nI m), vS 0] [] (mw f a g) = _
      rw [bI_t] at e1
      rw [main, e, if_pos (show (some v).isSome = true from rfl), b131_39, h'.wr, if_neg (by rw [w1]; decide), b131_56, e1]
      simp only [Option.bind_some, Option.toList_none, List.nil_append]
      rw [b131_61]
end S89
