/-! ===== acts: the bodies, both sides ===== -/
abbrev Tr := Nat × (Nat → Int32)
def addT (p : Tr) (b : Int32) : Tr := if p.1 < 30 then (p.1 + 1, fun j => if j = p.1 then b else p.2 j) else p
def addB (p : Tr) (c : Bool) (b : Int32) : Tr := if c then addT p b else p
def cA (f : Nat → Nat → Int32) (a : Nat → Nat → Int32) (k : Int32) (n : Int32) (s : Int32) (p : Tr) (pt : Int32) : Prop := (f 30 0 = k) ∧ (f 30 1 = n) ∧ (f 30 2 = s) ∧ (f 30 5 = pt) ∧ (p.1 ≤ 30) ∧ (f 30 4 = nI p.1) ∧ (∀ i, i < p.1 → a 31 i = p.2 i)
theorem cA.knd {f : Nat → Nat → Int32} {a : Nat → Nat → Int32} {k : Int32} {n : Int32} {s : Int32} {p : Tr} {pt : Int32} (h : cA f a k n s p pt) : f 30 0 = k := h.1
theorem cA.num {f : Nat → Nat → Int32} {a : Nat → Nat → Int32} {k : Int32} {n : Int32} {s : Int32} {p : Tr} {pt : Int32} (h : cA f a k n s p pt) : f 30 1 = n := h.2.1
theorem cA.sgn {f : Nat → Nat → Int32} {a : Nat → Nat → Int32} {k : Int32} {n : Int32} {s : Int32} {p : Tr} {pt : Int32} (h : cA f a k n s p pt) : f 30 2 = s := h.2.2.1
theorem cA.prt {f : Nat → Nat → Int32} {a : Nat → Nat → Int32} {k : Int32} {n : Int32} {s : Int32} {p : Tr} {pt : Int32} (h : cA f a k n s p pt) : f 30 5 = pt := h.2.2.2.1
theorem cA.le {f : Nat → Nat → Int32} {a : Nat → Nat → Int32} {k : Int32} {n : Int32} {s : Int32} {p : Tr} {pt : Int32} (h : cA f a k n s p pt) : p.1 ≤ 30 := h.2.2.2.2.1
theorem cA.cnt {f : Nat → Nat → Int32} {a : Nat → Nat → Int32} {k : Int32} {n : Int32} {s : Int32} {p : Tr} {pt : Int32} (h : cA f a k n s p pt) : f 30 4 = nI p.1 := h.2.2.2.2.2.1
theorem cA.ran {f : Nat → Nat → Int32} {a : Nat → Nat → Int32} {k : Int32} {n : Int32} {s : Int32} {p : Tr} {pt : Int32} (h : cA f a k n s p pt) : ∀ i, i < p.1 → a 31 i = p.2 i := h.2.2.2.2.2.2
theorem cA.mk {f : Nat → Nat → Int32} {a : Nat → Nat → Int32} {k : Int32} {n : Int32} {s : Int32} {p : Tr} {pt : Int32} (knd : f 30 0 = k) (num : f 30 1 = n) (sgn : f 30 2 = s) (prt : f 30 5 = pt) (le : p.1 ≤ 30) (cnt : f 30 4 = nI p.1) (ran : ∀ i, i < p.1 → a 31 i = p.2 i) : cA f a k n s p pt := ⟨knd, num, sgn, prt, le, cnt, ran⟩
def mA (f : Nat → Nat → Int32) (a : Nat → Nat → Int32) (k : Int32) (n : Int32) (s : Int32) (p : Tr) (pt : Int32) : Prop := (f 44 23 = k) ∧ (f 44 24 = n) ∧ (f 44 25 = s) ∧ (f 44 26 = pt) ∧ (p.1 ≤ 30) ∧ (f 44 22 = nI p.1) ∧ (∀ i, i < p.1 → a 58 i = p.2 i)
theorem mA.knd {f : Nat → Nat → Int32} {a : Nat → Nat → Int32} {k : Int32} {n : Int32} {s : Int32} {p : Tr} {pt : Int32} (h : mA f a k n s p pt) : f 44 23 = k := h.1
theorem mA.num {f : Nat → Nat → Int32} {a : Nat → Nat → Int32} {k : Int32} {n : Int32} {s : Int32} {p : Tr} {pt : Int32} (h : mA f a k n s p pt) : f 44 24 = n := h.2.1
theorem mA.sgn {f : Nat → Nat → Int32} {a : Nat → Nat → Int32} {k : Int32} {n : Int32} {s : Int32} {p : Tr} {pt : Int32} (h : mA f a k n s p pt) : f 44 25 = s := h.2.2.1
theorem mA.prt {f : Nat → Nat → Int32} {a : Nat → Nat → Int32} {k : Int32} {n : Int32} {s : Int32} {p : Tr} {pt : Int32} (h : mA f a k n s p pt) : f 44 26 = pt := h.2.2.2.1
theorem mA.le {f : Nat → Nat → Int32} {a : Nat → Nat → Int32} {k : Int32} {n : Int32} {s : Int32} {p : Tr} {pt : Int32} (h : mA f a k n s p pt) : p.1 ≤ 30 := h.2.2.2.2.1
theorem mA.cnt {f : Nat → Nat → Int32} {a : Nat → Nat → Int32} {k : Int32} {n : Int32} {s : Int32} {p : Tr} {pt : Int32} (h : mA f a k n s p pt) : f 44 22 = nI p.1 := h.2.2.2.2.2.1
theorem mA.ran {f : Nat → Nat → Int32} {a : Nat → Nat → Int32} {k : Int32} {n : Int32} {s : Int32} {p : Tr} {pt : Int32} (h : mA f a k n s p pt) : ∀ i, i < p.1 → a 58 i = p.2 i := h.2.2.2.2.2.2
theorem mA.mk {f : Nat → Nat → Int32} {a : Nat → Nat → Int32} {k : Int32} {n : Int32} {s : Int32} {p : Tr} {pt : Int32} (knd : f 44 23 = k) (num : f 44 24 = n) (sgn : f 44 25 = s) (prt : f 44 26 = pt) (le : p.1 ≤ 30) (cnt : f 44 22 = nI p.1) (ran : ∀ i, i < p.1 → a 58 i = p.2 i) : mA f a k n s p pt := ⟨knd, num, sgn, prt, le, cnt, ran⟩
def frC (f a f' a' : Nat → Nat → Int32) : Prop := (∀ q, q ≠ 30 → f' q = f q) ∧ (∀ q, q ≠ 31 → a' q = a q)
def frM (f a f' a' : Nat → Nat → Int32) : Prop := (∀ q, q ≠ 44 → f' q = f q) ∧ (∀ k, k ≠ 22 → k ≠ 26 → f' 44 k = f 44 k) ∧ (∀ q, q ≠ 58 → a' q = a q)
theorem frC.rf {f a : Nat → Nat → Int32} : frC f a f a := ⟨fun _ _ => rfl, fun _ _ => rfl⟩
theorem frM.rf {f a : Nat → Nat → Int32} : frM f a f a := ⟨fun _ _ => rfl, fun _ _ _ => rfl, fun _ _ => rfl⟩
theorem frC.tr {f a f' a' f2 a2 : Nat → Nat → Int32} (h : frC f a f' a') (h2 : frC f' a' f2 a2) : frC f a f2 a2 := ⟨fun q hq => (h2.1 q hq).trans (h.1 q hq), fun q hq => (h2.2 q hq).trans (h.2 q hq)⟩
theorem frM.tr {f a f' a' f2 a2 : Nat → Nat → Int32} (h : frM f a f' a') (h2 : frM f' a' f2 a2) : frM f a f2 a2 := ⟨fun q hq => (h2.1 q hq).trans (h.1 q hq), fun k h3 h4 => (h2.2.1 k h3 h4).trans (h.2.1 k h3 h4), fun q hq => (h2.2.2 q hq).trans (h.2.2 q hq)⟩
theorem addT_le {p : Tr} {b : Int32} (h : p.1 ≤ 30) : (addT p b).1 ≤ 30 := by
  unfold addT
  by_cases h2 : p.1 < 30
  · rw [if_pos h2]; exact h2
  · rw [if_neg h2]; exact h
theorem i_sub0 {x y : Int32} : (x - y = 0) ↔ y = x := by
  constructor
  · intro h
    have h2 : x - y + y = 0 + y := by rw [h]
    have h3 : x = y := by simpa using h2
    exact h3.symm
  · intro h
    subst h
    simp
section S82
variable {xs : Nat → Int32} {L : Nat} {g : Nat → Nat → Int64} {f a : Nat → Nat → Int32} {k n s pt : Int32} {p : Tr}
theorem c_bg {b : Int32} (c : Bool) (h : cA f a k n s p pt) : ∃ f' a', ev xs L 3 3 [vR 30, vI b, vI (bI c)] (mw f a g) = some (none, mw f' a' g) ∧ cA f' a' k n s (addB p c b) pt ∧ frC f a f' a' := by
  have hle := h.le
  show ∃ f' a', rn xs L 3 0 [vR 30, vI b, vI (bI c)] [] (mw f a g) = _ ∧ _
  cases c with
  | false =>
    refine ⟨f, a, ?_, h, frC.rf⟩
    rw [b3_0, if_pos (by decide), b3_33]
  | true =>
    rw [b3_0, if_neg (by decide), b3_4, h.cnt]
    by_cases h2 : p.1 < 30
    · have hin : ma_in (f 30 4) 30 = true := by rw [h.cnt]; exact in_of h2 (by decide)
      have hu : ∀ j, j ≠ 4 → ma_u2 f 30 4 (nI (p.1 + 1)) 30 j = f 30 j := fun j hj => by rw [u2_at, if_neg (fun q => hj q.2)]
      have hp : addB p true b = (p.1 + 1, fun j => if j = p.1 then b else p.2 j) := by unfold addB addT; rw [if_pos rfl, if_pos h2]
      refine ⟨ma_u2 f 30 4 (nI (p.1 + 1)), ma_u2 a 31 p.1 b, ?_, ?_, fun q hq => u2_ne hq, fun q hq => u2_ne hq⟩
      · rw [if_pos (by rw [show (30 : Int32) = nI 30 from rfl, nn_lt (by omega) (by omega)]; exact h2), b3_13 _ _ hin, h.cnt, nn_nat (by omega), nn_add1]
      · rw [hp]
        refine cA.mk ?_ ?_ ?_ ?_ ?_ ?_ (fun i hi => ?_)
        · rw [hu _ (by decide)]; exact h.knd
        · rw [hu _ (by decide)]; exact h.num
        · rw [hu _ (by decide)]; exact h.sgn
        · rw [hu _ (by decide)]; exact h.prt
        · exact h2
        · rw [u2_at, if_pos ⟨rfl, rfl⟩]
        · rw [u2_at]
          show _ = if i = p.1 then b else p.2 i
          by_cases e : i = p.1
          · rw [if_pos ⟨rfl, e⟩, if_pos e]
          · rw [if_neg (fun q => e q.2), if_neg e]
            have hi2 : i < p.1 + 1 := hi
            exact h.ran i (by omega)
    · have hp : addB p true b = p := by unfold addB addT; rw [if_pos rfl, if_neg h2]
      refine ⟨f, a, ?_, by rw [hp]; exact h, frC.rf⟩
      rw [if_neg (by rw [show (30 : Int32) = nI 30 from rfl, nn_lt (by omega) (by omega)]; exact h2), b3_33]
theorem m_run {b : Int32} (h : mA f a k n s p pt) : ∃ f' a', ev xs L 208 2 [vR 44, vI b] (mw f a g) = some (none, mw f' a' g) ∧ mA f' a' k n s (addT p b) pt ∧ frM f a f' a' := by
  have hle := h.le
  show ∃ f' a', rn xs L 208 0 [vR 44, vI b] [] (mw f a g) = _ ∧ _
  rw [b208_0, h.cnt]
  by_cases h2 : p.1 < 30
  · have hin : ma_in (f 44 22) 30 = true := by rw [h.cnt]; exact in_of h2 (by decide)
    have hu : ∀ j, j ≠ 22 → ma_u2 f 44 22 (nI (p.1 + 1)) 44 j = f 44 j := fun j hj => by rw [u2_at, if_neg (fun q => hj q.2)]
    have hp : addT p b = (p.1 + 1, fun j => if j = p.1 then b else p.2 j) := by unfold addT; rw [if_pos h2]
    refine ⟨ma_u2 f 44 22 (nI (p.1 + 1)), ma_u2 a 58 p.1 b, ?_, ?_, fun q hq => u2_ne hq, fun j hj _ => hu j hj, fun q hq => u2_ne hq⟩
    · rw [if_pos (by rw [show (30 : Int32) = nI 30 from rfl, nn_lt (by omega) (by omega)]; exact h2), b208_9 _ hin, h.cnt, nn_nat (by omega), nn_add1]
    · rw [hp]
      refine mA.mk ?_ ?_ ?_ ?_ ?_ ?_ (fun i hi => ?_)
      · rw [hu _ (by decide)]; exact h.knd
      · rw [hu _ (by decide)]; exact h.num
      · rw [hu _ (by decide)]; exact h.sgn
      · rw [hu _ (by decide)]; exact h.prt
      · exact h2
      · rw [u2_at, if_pos ⟨rfl, rfl⟩]
      · rw [u2_at]
        show _ = if i = p.1 then b else p.2 i
        by_cases e : i = p.1
        · rw [if_pos ⟨rfl, e⟩, if_pos e]
        · rw [if_neg (fun q => e q.2), if_neg e]
          have hi2 : i < p.1 + 1 := hi
          exact h.ran i (by omega)
  · have hp : addT p b = p := by unfold addT; rw [if_neg h2]
    refine ⟨f, a, ?_, by rw [hp]; exact h, frM.rf⟩
    rw [if_neg (by rw [show (30 : Int32) = nI 30 from rfl, nn_lt (by omega) (by omega)]; exact h2), b208_29]
end S82
/-! turns -/
def trT (k : Int32) (p : Tr) : Tr := addT (addB (addB (addB p (decide (k = 4)) 40) (undR k 2) 30) (decide (k = 3)) 51) 10
def vaT (k n s x : Int32) : Int32 :=
  let v := if undR k 2 then (x * 2 + n * 5) ^^^ 1 else x * 2 + n * 5
  let v2 := if k = 4 then v * 2 else v
  if k = 3 then v2 + s else v2
section S82b
variable {xs : Nat → Int32} {L : Nat} {g : Nat → Nat → Int64} {f a : Nat → Nat → Int32} {k n s pt : Int32} {p : Tr}
theorem c_turns {x : Int32} (h : cA f a k n s p pt) : ∃ f' a', ev xs L 2 3 [vR 30, vI x] (mw f a g) = some (some (vI (vaT k n s x)), mw f' a' g) ∧ cA f' a' k n s (trT k p) pt ∧ frC f a f' a' := by
  obtain ⟨f1, a1, e1, h1, r1⟩ := c_bg (xs := xs) (L := L) (g := g) (b := 40) (decide (k = 4)) h
  obtain ⟨f2, a2, e2, h2, r2⟩ := c_bg (xs := xs) (L := L) (g := g) (b := 30) (undR k 2) h1
  obtain ⟨f3, a3, e3, h3, r3⟩ := c_bg (xs := xs) (L := L) (g := g) (b := 51) (decide (k = 3)) h2
  obtain ⟨f4, a4, e4, h4, r4⟩ := c_bg (xs := xs) (L := L) (g := g) (b := 10) true h3
  refine ⟨f4, a4, ?_, h4, ((r1.tr r2).tr r3).tr r4⟩
  show rn xs L 2 0 [vR 30, vI x, vS 0] [] (mw f a g) = _
  have s1 : rn xs L 2 0 [vR 30, vI x, vS 0] [] (mw f a g) = rn xs L 2 19 [vR 30, vI x, vS 0] [] (mw f1 a1 g) := by
    rw [b2_0, h.knd]
    by_cases q : k = 4
    · rw [decide_eq_true q, bI_t] at e1
      rw [if_pos q, b2_11, e1]
      simp only [Option.bind_some, Option.toList_none, List.nil_append]
    · rw [decide_eq_false q, bI_f] at e1
      rw [if_neg q, b2_15, e1]
      simp only [Option.bind_some, Option.toList_none, List.nil_append]
  have s3 : rn xs L 2 33 [vR 30, vI x, vS 0] [] (mw f2 a2 g) = rn xs L 2 52 [vR 30, vI x, vS 0] [] (mw f3 a3 g) := by
    rw [b2_33, h2.knd]
    by_cases q : k = 3
    · rw [decide_eq_true q, bI_t] at e3
      rw [if_pos q, b2_44, e3]
      simp only [Option.bind_some, Option.toList_none, List.nil_append]
    · rw [decide_eq_false q, bI_f] at e3
      rw [if_neg q, b2_48, e3]
      simp only [Option.bind_some, Option.toList_none, List.nil_append]
  rw [bI_t] at e4
  rw [s1, b2_19, h1.knd, c_under]
  simp only [Option.bind_some, Option.toList_some, List.cons_append, List.nil_append]
  rw [b2_30, e2]
  simp only [Option.bind_some, Option.toList_none, List.nil_append]
  rw [s3, b2_52, e4]
  simp only [Option.bind_some, Option.toList_none, List.nil_append]
  rw [b2_59, h4.knd, h4.num, c_under]
  simp only [Option.bind_some, Option.toList_some, List.cons_append, List.nil_append]
  have fin : ∀ v : Int32, (if k = 4 then rn xs L 2 93 [vR 30, vI x, vI v] [] (mw f4 a4 g) else rn xs L 2 97 [vR 30, vI x, vI v] [] (mw f4 a4 g)) = some (some (vI (if k = 3 then (if k = 4 then v * 2 else v) + s else (if k = 4 then v * 2 else v))), mw f4 a4 g) := by
    intro v
    by_cases q4 : k = 4
    · rw [if_pos q4, if_pos q4, b2_93, h4.knd]
      by_cases q3 : k = 3
      · rw [if_pos q3, if_pos q3, b2_105, h4.sgn]
      · rw [if_neg q3, if_neg q3, b2_114]
    · rw [if_neg q4, if_neg q4, b2_97, h4.knd]
      by_cases q3 : k = 3
      · rw [if_pos q3, if_pos q3, b2_105, h4.sgn]
      · rw [if_neg q3, if_neg q3, b2_114]
  rw [b2_78]
  unfold vaT
  cases e : undR k 2 with
  | true =>
    rw [if_neg (by decide), b2_81, h4.knd, fin]
    rfl
  | false =>
    rw [if_pos (by decide), b2_85, h4.knd, fin]
    rfl
theorem m_plain {x : Int32} (h : mA f a k n s p pt) : ∃ f' a', ev xs L 209 2 [vR 44, vI x] (mw f a g) = some (some (vI (x * 2 + n * 5)), mw f' a' g) ∧ mA f' a' k n s (addT p 10) pt ∧ frM f a f' a' := by
  obtain ⟨f1, a1, e1, h1, r1⟩ := m_run (xs := xs) (L := L) (g := g) (b := 10) h
  refine ⟨f1, a1, ?_, h1, r1⟩
  show rn xs L 209 0 [vR 44, vI x] [] (mw f a g) = _
  rw [b209_0, e1]
  simp only [Option.bind_some, Option.toList_none, List.nil_append]
  rw [b209_6, h1.num]
theorem m_yellow {x : Int32} (h : mA f a k n s p pt) : ∃ f' a', ev xs L 207 2 [vR 44, vI x] (mw f a g) = some (some (vI ((x * 2 + n * 5) ^^^ 1)), mw f' a' g) ∧ mA f' a' k n s (addT (addT p 30) 10) pt ∧ frM f a f' a' := by
  obtain ⟨f1, a1, e1, h1, r1⟩ := m_run (xs := xs) (L := L) (g := g) (b := 30) h
  obtain ⟨f2, a2, e2, h2, r2⟩ := m_plain (xs := xs) (L := L) (g := g) (x := x) h1
  refine ⟨f2, a2, ?_, h2, r1.tr r2⟩
  show rn xs L 207 0 [vR 44, vI x] [] (mw f a g) = _
  rw [b207_0, e1]
  simp only [Option.bind_some, Option.toList_none, List.nil_append]
  rw [b207_6, e2]
  simp only [Option.bind_some, Option.toList_some, List.cons_append, List.nil_append]
  rw [b207_11]
theorem m_turns {x : Int32} (h : mA f a k n s p pt) : ∃ f' a', ev xs L 206 2 [vR 44, vI x] (mw f a g) = some (some (vI (vaT k n s x)), mw f' a' g) ∧ mA f' a' k n s (trT k p) pt ∧ frM f a f' a' := by
  show ∃ f' a', rn xs L 206 0 [vR 44, vI x] [] (mw f a g) = _ ∧ _
  rw [b206_0, h.knd]
  by_cases q2 : k = 2
  · subst q2
    obtain ⟨f1, a1, e1, h1, r1⟩ := m_yellow (xs := xs) (L := L) (g := g) (x := x) h
    refine ⟨f1, a1, ?_, h1, r1⟩
    rw [if_pos rfl, b206_32, e1]
    simp only [Option.bind_some, Option.toList_some, List.cons_append, List.nil_append]
    rw [b206_37]
    rfl
  rw [if_neg q2]
  by_cases q3 : k = 3
  · subst q3
    obtain ⟨f1, a1, e1, h1, r1⟩ := m_run (xs := xs) (L := L) (g := g) (b := 51) h
    obtain ⟨f2, a2, e2, h2, r2⟩ := m_plain (xs := xs) (L := L) (g := g) (x := x) h1
    refine ⟨f2, a2, ?_, h2, r1.tr r2⟩
    rw [if_pos rfl, b206_52, e1]
    simp only [Option.bind_some, Option.toList_none, List.nil_append]
    rw [b206_58, e2]
    simp only [Option.bind_some, Option.toList_some, List.cons_append, List.nil_append]
    rw [b206_63, h2.sgn]
    rfl
  rw [if_neg q3]
  by_cases q4 : k = 4
  · subst q4
    obtain ⟨f1, a1, e1, h1, r1⟩ := m_run (xs := xs) (L := L) (g := g) (b := 40) h
    obtain ⟨f2, a2, e2, h2, r2⟩ := m_yellow (xs := xs) (L := L) (g := g) (x := x) h1
    refine ⟨f2, a2, ?_, h2, r1.tr r2⟩
    rw [if_pos rfl, b206_38, e1]
    simp only [Option.bind_some, Option.toList_none, List.nil_append]
    rw [b206_44, e2]
    simp only [Option.bind_some, Option.toList_some, List.cons_append, List.nil_append]
    rw [b206_49]
    rfl
  rw [if_neg q4]
  obtain ⟨f1, a1, e1, h1, r1⟩ := m_plain (xs := xs) (L := L) (g := g) (x := x) h
  have hu : undR k 2 = false := by unfold undR; simp [q2, q3, q4]
  refine ⟨f1, a1, ?_, ?_, r1⟩
  · rw [b206_69, e1]
    simp only [Option.bind_some, Option.toList_some, List.cons_append, List.nil_append]
    rw [b206_74]
    unfold vaT
    rw [hu]
    simp [q3, q4]
  · unfold trT
    rw [hu, decide_eq_false q3, decide_eq_false q4]
    exact h1
end S82b
