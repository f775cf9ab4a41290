/-! ===== the model reads a sway; how an item ends ===== -/
section S94
variable {xs : Nat → Int32} {L : Nat} {f a : Nat → Nat → Int32} {g : Nat → Nat → Int64} {B : Nat → Nat} {l p : Nat}
theorem m_sway0 (hB : byM a B l) (hl : l ≤ 200) (hp : p ≤ l) (h : mS f B l p 0) : ∃ f1, ev xs L 133 2 [vR 44] (mw f a g) = (ev xs L 129 2 [vR 44, vI (bI (numO B l (enn B l p) 5).isSome)] (mw f1 a g)).bind (fun c => rn xs L 133 48 [vR 44, vI (nI (vll B l (enn B l p)))] (c.1.toList ++ []) c.2) ∧ mS f1 B l (enn B l p) 0 ∧ frX f f1 := by
  have h' : mX f l (sgm B l p) (stt B l p) (enn B l p) (vll B l p) 0 := h
  have p1 := enn_l (B := B) hp
  obtain ⟨f1, e1, h1, r1⟩ := m_step (xs := xs) (L := L) (g := g) hB hl h'.len h'.en h'.wr p1
  have h1' : mX f1 l (sgm B l (enn B l p)) (stt B l (enn B l p)) (enn B l (enn B l p)) (vll B l (enn B l p)) 0 := h1
  refine ⟨f1, ?_, h1, r1⟩
  show rn xs L 133 0 [vR 44, vS 0] [] (mw f a g) = _
  have hst := stt_le (B := B) p1
  have hen := enn_le (B := B) p1
  have hsi : sgm B l (enn B l p) = 0 ∨ sgm B l (enn B l p) = 1 ∨ sgm B l (enn B l p) = 2 ∨ sgm B l (enn B l p) = 3 := srt_in _
  have hvl : vll B l (enn B l p) ≤ 9999 := by
    unfold vll
    by_cases z2 : sgm B l (enn B l p) = 2
    · rw [if_pos z2]
      exact vC_le _ _ _ (fun j h1 h2 => tok_2 z2 h1 (by omega)) (by omega)
    · rw [if_neg z2]; omega
  unfold numO
  rw [b133_0, e1]
  simp only [Option.bind_some, Option.toList_none, List.nil_append]
  rw [b133_4, h1'.srt, h1'.val]
  by_cases z2 : sgm B l (enn B l p) = 2
  · rw [if_pos (by rw [z2]; rfl), b133_18, h1'.en, h1'.st, pk_sub hen.1]
    by_cases z3 : enn B l (enn B l p) - stt B l (enn B l p) ≤ 3
    · rw [if_neg (by rw [show (3 : Int32) = nI 3 from rfl, nn_lt (by omega) (by omega)]; omega), b133_31, h1'.val]
      by_cases z4 : vll B l (enn B l p) ≤ 5
      · rw [if_pos (by rw [show (6 : Int32) = nI 6 from rfl, nn_lt (by omega) (by omega)]; omega), b133_40, if_pos (show sgm B l (enn B l p) = 2 ∧ enn B l (enn B l p) - stt B l (enn B l p) ≤ 3 ∧ vll B l (enn B l p) ≤ 5 from ⟨z2, z3, z4⟩)]
        rfl
      · rw [if_neg (by rw [show (6 : Int32) = nI 6 from rfl, nn_lt (by omega) (by omega)]; omega), b133_44, if_neg (show ¬ (sgm B l (enn B l p) = 2 ∧ enn B l (enn B l p) - stt B l (enn B l p) ≤ 3 ∧ vll B l (enn B l p) ≤ 5) from fun z => z4 z.2.2)]
        rfl
    · rw [if_pos (by rw [show (3 : Int32) = nI 3 from rfl, nn_lt (by omega) (by omega)]; omega), b133_44, if_neg (show ¬ (sgm B l (enn B l p) = 2 ∧ enn B l (enn B l p) - stt B l (enn B l p) ≤ 3 ∧ vll B l (enn B l p) ≤ 5) from fun z => z3 z.2.1)]
      rfl
  · rw [if_neg (by rw [show (2 : Int32) = nI 2 from rfl, nn_eq (by omega) (by omega)]; exact z2), b133_44, if_neg (show ¬ (sgm B l (enn B l p) = 2 ∧ enn B l (enn B l p) - stt B l (enn B l p) ≤ 3 ∧ vll B l (enn B l p) ≤ 5) from fun z => z2 z.1)]
    rfl
/-- once wrong -/
theorem m_sway1 {b : Bool} {q v : Nat} {w : Int32} (hB : byM a B l) (hl : l ≤ 200) (hq : q ≤ l) (h : mS f B l q w) (hw : w = 0 ∨ w = 1) (hor : w = 1 ∨ b = false) : ∃ f', (ev xs L 129 2 [vR 44, vI (bI b)] (mw f a g)).bind (fun c => rn xs L 133 60 [vR 44, vI (nI v)] (c.1.toList ++ []) c.2) = some (none, mw f' a g) ∧ mS f' B l q 1 ∧ frX f f' := by
  obtain ⟨f2, e2, h2, r2⟩ := (m_needs (xs := xs) (L := L) (g := g) (b := b) hB hl hq h hw).2 hor
  have h2' : mX f2 l (sgm B l q) (stt B l q) (enn B l q) (vll B l q) 1 := h2
  obtain ⟨f3, e3, h3, r3⟩ := (m_numTo (xs := xs) (L := L) (g := g) (k := 0) (m := 9) (by omega) hB hl hq h2 (Or.inr rfl)).2 (Or.inl rfl)
  have e3' : ev xs L 131 4 [vR 44, vI 0, vI 9] (mw f2 a g) = some (none, mw f3 a g) := e3
  refine ⟨f3, ?_, h3, r2.tr r3⟩
  rw [e2]
  simp only [Option.bind_some, Option.toList_none, List.nil_append]
  rw [b133_60, h2'.wr, if_neg (by decide), b133_68, e3']
  simp only [Option.bind_some, Option.toList_none, List.nil_append]
  rw [b133_81]
theorem m_sway (hB : byM a B l) (hl : l ≤ 200) (hp : p ≤ l) (h : mS f B l p 0) :
    (∀ b v q, swQ B l p = Sum.inl (b, v, q) → ∃ f', ev xs L 133 2 [vR 44] (mw f a g) = some (none, mw f' (ma_u2 a 45 (8 + b) (nI v)) g) ∧ mS f' B l q 0 ∧ frX f f') ∧
    (∀ x, swQ B l p = Sum.inr x → ∃ f', ev xs L 133 2 [vR 44] (mw f a g) = some (none, mw f' a g) ∧ mS f' B l x 1 ∧ frX f f') := by
  have p1 := enn_l (B := B) hp
  have p2 := enn_l (B := B) p1
  have p3 := enn_l (B := B) p2
  obtain ⟨f1, e1, h1, r1⟩ := m_sway0 (xs := xs) (L := L) (g := g) hB hl hp h
  unfold swQ
  cases en : numO B l (enn B l p) 5 with
  | none =>
    rw [en] at e1
    obtain ⟨f2, e2, h2, r2⟩ := (m_needs (xs := xs) (L := L) (g := g) (b := false) hB hl p1 h1 (Or.inl rfl)).2 (Or.inr rfl)
    obtain ⟨f3, e3, h3, r3⟩ := m_sway1 (xs := xs) (L := L) (g := g) (b := nmB B l (enn B l p) (wrd 11)) (v := vll B l (enn B l p)) hB hl p1 h2 (Or.inr rfl) (Or.inl rfl)
    refine ⟨fun b v q hr => (by cases hr), fun x hr => ?_⟩
    have := Sum.inr.inj hr
    subst this
    refine ⟨f3, ?_, h3, (r1.tr r2).tr r3⟩
    rw [e1, show (none : Option Nat).isSome = false from rfl, e2]
    simp only [Option.bind_some, Option.toList_none, List.nil_append]
    rw [b133_48, m_is hB hl p1 h2]
    simp only [Option.bind_some, Option.toList_some, List.cons_append, List.nil_append]
    rw [b133_57]
    exact e3
  | some b1 =>
    have hb1 := (numO_le en).1
    have hbv : b1 = vll B l (enn B l p) := by
      unfold numO at en
      split at en
      · exact (Option.some.inj en).symm
      · cases en
    rw [en] at e1
    obtain ⟨f2, e2, h2, r2⟩ := (m_needs (xs := xs) (L := L) (g := g) (b := true) hB hl p1 h1 (Or.inl rfl)).1 rfl rfl
    have s2 : ev xs L 133 2 [vR 44] (mw f a g) = (ev xs L 129 2 [vR 44, vI (bI (nmB B l (enn B l (enn B l p)) (wrd 11)))] (mw f2 a g)).bind (fun c => rn xs L 133 60 [vR 44, vI (nI b1)] (c.1.toList ++ []) c.2) := by
      rw [e1, show (some b1).isSome = true from rfl, e2]
      simp only [Option.bind_some, Option.toList_none, List.nil_append]
      rw [b133_48, m_is hB hl p2 h2]
      simp only [Option.bind_some, Option.toList_some, List.cons_append, List.nil_append]
      rw [b133_57, hbv]
    simp only
    cases ei : nmB B l (enn B l (enn B l p)) (wrd 11) with
    | false =>
      obtain ⟨f3, e3, h3, r3⟩ := m_sway1 (xs := xs) (L := L) (g := g) (b := false) (v := b1) hB hl p2 h2 (Or.inl rfl) (Or.inr rfl)
      refine ⟨fun b v q hr => (by rw [if_neg (by decide)] at hr; cases hr), fun x hr => ?_⟩
      rw [if_neg (by decide)] at hr
      have := Sum.inr.inj hr
      subst this
      refine ⟨f3, ?_, h3, (r1.tr r2).tr r3⟩
      rw [s2, ei]
      exact e3
    | true =>
      obtain ⟨f3, e3, h3, r3⟩ := (m_needs (xs := xs) (L := L) (g := g) (b := true) hB hl p2 h2 (Or.inl rfl)).1 rfl rfl
      have h3' : mX f3 l (sgm B l (enn B l (enn B l (enn B l p)))) (stt B l (enn B l (enn B l (enn B l p)))) (enn B l (enn B l (enn B l (enn B l p)))) (vll B l (enn B l (enn B l (enn B l p)))) 0 := h3
      have x8 : (8 : Int32) + nI b1 = nI (8 + b1) := by rw [show (8 : Int32) = nI 8 from rfl, nn_add]
      have s3 : ev xs L 133 2 [vR 44] (mw f a g) = (ev xs L 131 4 [vR 44, vI (nI (8 + b1)), vI (nI 9)] (mw f3 a g)).bind (fun c => rn xs L 133 81 [vR 44, vI (nI b1)] (c.1.toList ++ []) c.2) := by
        rw [s2, ei, e3]
        simp only [Option.bind_some, Option.toList_none, List.nil_append]
        rw [b133_60, h3'.wr, if_pos rfl, b133_72, x8]
        rfl
      obtain ⟨n1, n2⟩ := m_numTo (xs := xs) (L := L) (g := g) (k := 8 + b1) (m := 9) (by omega) hB hl p3 h3 (Or.inl rfl)
      rw [if_pos rfl]
      cases ev9 : numO B l (enn B l (enn B l (enn B l p))) 9 with
      | none =>
        obtain ⟨f4, e4, h4, r4⟩ := n2 (Or.inr ev9)
        refine ⟨fun b v q hr => (by cases hr), fun x hr => ?_⟩
        have := Sum.inr.inj hr
        subst this
        refine ⟨f4, ?_, h4, ((r1.tr r2).tr r3).tr r4⟩
        rw [s3, e4]
        simp only [Option.bind_some, Option.toList_none, List.nil_append]
        rw [b133_81]
      | some u =>
        obtain ⟨f4, e4, h4, r4⟩ := n1 u rfl (by omega) ev9
        refine ⟨fun b v q hr => ?_, fun x hr => (by cases hr)⟩
        have hq := Sum.inl.inj hr
        simp only [Prod.mk.injEq] at hq
        obtain ⟨q1, q2, q3⟩ := hq
        subst q1
        subst q2
        subst q3
        refine ⟨f4, ?_, h4, ((r1.tr r2).tr r3).tr r4⟩
        rw [s3, e4]
        simp only [Option.bind_some, Option.toList_none, List.nil_append]
        rw [b133_81]
/-- the end of an item -/
theorem m_fin {l1 l2 w : Int32} (hB : byM a B l) (hl : l ≤ 200) (hp : p ≤ l) (h : mS f B l p w) (hw : w = 0 ∨ w = 1) :
    (w = 0 → semB B l p = true → ∃ f', (if f 44 7 = 3 then rn xs L 122 87 [vR 44, vI l1, vI l2] [vR 44] (mw f a g) else rn xs L 122 104 [vR 44, vI l1, vI l2] [vR 44] (mw f a g)) = some (none, mw f' a g) ∧ mS f' B l (enn B l p) 0 ∧ frX f f') ∧
    (w = 1 ∨ semB B l p = false → ∃ f', (if f 44 7 = 3 then rn xs L 122 87 [vR 44, vI l1, vI l2] [vR 44] (mw f a g) else rn xs L 122 104 [vR 44, vI l1, vI l2] [vR 44] (mw f a g)) = some (none, mw f' a g) ∧ mS f' B l p 1 ∧ frX f f') := by
  have h' : mX f l (sgm B l p) (stt B l p) (enn B l p) (vll B l p) w := h
  have hsi : sgm B l p = 0 ∨ sgm B l p = 1 ∨ sgm B l p = 2 ∨ sgm B l p = 3 := srt_in _
  have main : (if f 44 7 = 3 then rn xs L 122 87 [vR 44, vI l1, vI l2] [vR 44] (mw f a g) else rn xs L 122 104 [vR 44, vI l1, vI l2] [vR 44] (mw f a g)) = (ev xs L 129 2 [vR 44, vI (bI (semB B l p))] (mw f a g)).bind (fun c => rn xs L 122 108 [vR 44, vI l1, vI l2] (c.1.toList ++ []) c.2) := by
    unfold semB
    rw [h'.srt]
    by_cases z3 : sgm B l p = 3
    · have hlt : stt B l p < l := ((enn_le (B := B) hp).2.2 (by omega)).2
      obtain ⟨e1, q1⟩ := m_at (xs := xs) (L := L) (g := g) (a := a) (i := stt B l p) (c := 59) hB hl h hlt (by decide)
      rw [if_pos (by rw [z3]; rfl), b122_87, h'.st, e1]
      simp only [Option.bind_some, Option.toList_some, List.cons_append, List.nil_append]
      rw [b122_95, show (59 : Int32) = nI 59 from rfl]
      by_cases z4 : B (stt B l p) = 59
      · rw [if_pos (q1.mpr z4), b122_100, decide_eq_true z3, decide_eq_true z4]
        rfl
      · rw [if_neg (fun z => z4 (q1.mp z)), b122_104, decide_eq_true z3, decide_eq_false z4]
        rfl
    · rw [if_neg (by rw [show (3 : Int32) = nI 3 from rfl, nn_eq (by omega) (by omega)]; exact z3), b122_104, decide_eq_false z3]
      rfl
  constructor
  · intro w0 hs
    obtain ⟨f', e1, h1, r1⟩ := (m_needs (xs := xs) (L := L) (g := g) (b := semB B l p) hB hl hp h hw).1 w0 hs
    refine ⟨f', ?_, h1, r1⟩
    rw [main, e1]
    simp only [Option.bind_some, Option.toList_none, List.nil_append]
    rw [b122_108]
  · intro hor
    obtain ⟨f', e1, h1, r1⟩ := (m_needs (xs := xs) (L := L) (g := g) (b := semB B l p) hB hl hp h hw).2 hor
    refine ⟨f', ?_, h1, r1⟩
    rw [main, e1]
    simp only [Option.bind_some, Option.toList_none, List.nil_append]
    rw [b122_108]
end S94
