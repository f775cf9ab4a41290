/-! ===== an item: what it comes to; the model's ===== -/
def itR (B : Nat → Nat) (l p : Nat) (S : Row) (n : Nat) : (Row × Nat × Nat) ⊕ Nat := match kOf B l p with
  | some k => if n < 8 then (match lfR B l p with
      | Sum.inl (b, h, s, q) => Sum.inl (growR S n (nI k) (nI b) (nI h) (nI s), n + 1, q)
      | Sum.inr x => Sum.inr x) else Sum.inr p
  | none => match lOf B l p with
    | some k => (match numO B l (enn B l p) (mxL k) with
        | some v => if semB B l (enn B l (enn B l p)) then Sum.inl (up1 S (4 + k) (nI v), n, enn B l (enn B l (enn B l p))) else Sum.inr (enn B l (enn B l p))
        | none => Sum.inr (enn B l p))
    | none => if nmB B l p (wrd 10) then (match swQ B l p with
        | Sum.inl (b, v, q) => if semB B l q then Sum.inl (up1 S (8 + b) (nI v), n, enn B l q) else Sum.inr q
        | Sum.inr x => Sum.inr x) else Sum.inr p
theorem swQ_in {B : Nat → Nat} {l p b v q : Nat} (hp : p ≤ l) (hr : swQ B l p = Sum.inl (b, v, q)) : p ≤ q ∧ q ≤ l ∧ b ≤ 5 ∧ v ≤ 9 := by
  have p1 := enn_l (B := B) hp
  have p2 := enn_l (B := B) p1
  have p3 := enn_l (B := B) p2
  have p4 := enn_l (B := B) p3
  have g0 := enn_ge (B := B) hp
  have g1 := enn_ge (B := B) p1
  have g2 := enn_ge (B := B) p2
  have g3 := enn_ge (B := B) p3
  unfold swQ at hr
  cases e1 : numO B l (enn B l p) 5 with
  | none => rw [e1] at hr; cases hr
  | some b1 =>
    rw [e1] at hr
    simp only at hr
    split at hr
    · cases e2 : numO B l (enn B l (enn B l (enn B l p))) 9 with
      | none => rw [e2] at hr; cases hr
      | some v1 =>
        rw [e2] at hr
        have hq := Sum.inl.inj hr
        simp only [Prod.mk.injEq] at hq
        obtain ⟨q1, q2, q3⟩ := hq
        have x1 := (numO_le e1).1
        have x2 := (numO_le e2).1
        omega
    · cases hr
theorem swQ_out {B : Nat → Nat} {l p x : Nat} (hp : p ≤ l) (hr : swQ B l p = Sum.inr x) : x ≤ l := by
  have p1 := enn_l (B := B) hp
  have p2 := enn_l (B := B) p1
  have p3 := enn_l (B := B) p2
  unfold swQ at hr
  cases e1 : numO B l (enn B l p) 5 with
  | none =>
    rw [e1] at hr
    have := Sum.inr.inj hr
    omega
  | some b1 =>
    rw [e1] at hr
    simp only at hr
    split at hr
    · cases e2 : numO B l (enn B l (enn B l (enn B l p))) 9 with
      | none =>
        rw [e2] at hr
        have := Sum.inr.inj hr
        omega
      | some v1 => rw [e2] at hr; cases hr
    · have := Sum.inr.inj hr
      omega
def encL : Option Nat → Int32
  | none => -1
  | some k => nI (4 + k)
theorem mxL_99 (k : Nat) : mxL k ≤ 99 := by unfold mxL; split <;> omega
section S95
variable {xs : Nat → Int32} {L : Nat} {f a : Nat → Nat → Int32} {g : Nat → Nat → Int64} {B : Nat → Nat} {l p : Nat}
theorem m_law2 {w : Int32} (hB : byM a B l) (hl : l ≤ 200) (hp : p ≤ l) (h : mS f B l p w) : ev xs L 127 1 [vR 44] (mw f a g) = some (some (vI (encL (lOf B l p))), mw f a g) := by
  rw [m_law hB hl hp h]
  cases lOf B l p <;> rfl
theorem m_item {n : Nat} {S : Row} (W : WF S n) (hz : Zt S n) (hB : byM a B l) (hl : l ≤ 200) (hp : p ≤ l) (h : mS f B l p 0) (hM : isM a 45 S) :
    (∀ S' n' q, itR B l p S n = Sum.inl (S', n', q) → ∃ f' a', ev xs L 122 3 [vR 44] (mw f a g) = some (none, mw f' a' g) ∧ mS f' B l q 0 ∧ isM a' 45 S' ∧ frX f f' ∧ (∀ r, r ≠ 45 → a' r = a r)) ∧
    (∀ x, itR B l p S n = Sum.inr x → ∃ f' a', ev xs L 122 3 [vR 44] (mw f a g) = some (none, mw f' a' g) ∧ mS f' B l x 1 ∧ frX f f' ∧ (∀ r, r ≠ 45 → a' r = a r)) := by
  have h' : mX f l (sgm B l p) (stt B l p) (enn B l p) (vll B l p) 0 := h
  have p1 := enn_l (B := B) hp
  have p2 := enn_l (B := B) p1
  have s0 : ev xs L 122 3 [vR 44] (mw f a g) = if encO (kOf B l p) < 0 then rn xs L 122 22 [vR 44, vI (encO (kOf B l p)), vI (encL (lOf B l p))] [] (mw f a g) else rn xs L 122 14 [vR 44, vI (encO (kOf B l p)), vI (encL (lOf B l p))] [] (mw f a g) := by
    show rn xs L 122 0 [vR 44, vS 0, vS 0] [] (mw f a g) = _
    rw [b122_0, m_kind hB hl hp h]
    simp only [Option.bind_some, Option.toList_some, List.cons_append, List.nil_append]
    rw [b122_4, m_law2 hB hl hp h]
    simp only [Option.bind_some, Option.toList_some, List.cons_append, List.nil_append]
    rw [b122_9]
  unfold itR
  cases ek : kOf B l p with
  | some k =>
    have hk := (kOf_at ek).1
    rw [ek] at s0
    have s1 : ev xs L 122 3 [vR 44] (mw f a g) = (ev xs L 128 3 [vR 44, vI (nI k)] (mw f a g)).bind (fun c => rn xs L 122 19 [vR 44, vI (nI k), vI (encL (lOf B l p))] (c.1.toList ++ []) c.2) := by
      rw [s0, show encO (some k) = nI k from rfl, if_neg (nI_pos (by omega)), b122_14]
    simp only
    by_cases hn : n < 8
    · obtain ⟨l1, l2⟩ := m_leaf (xs := xs) (L := L) (g := g) (k := k) hn hB hl hp h hM W.cn hz
      rw [if_pos hn, lfR_Q]
      cases eq : lfQ B l p with
      | inr y =>
        obtain ⟨f1, a1, e1, h1, r1, hf1⟩ := l2 y eq
        have hy : y ≤ l := by
          have := lfR_out (B := B) (x := y) hp (by rw [lfR_Q, eq])
          exact this
        obtain ⟨f2, e2, h2, r2⟩ := (m_fin (xs := xs) (L := L) (g := g) (l1 := nI k) (l2 := (encL (lOf B l p))) (hB.of (hf1 49 (by decide))) hl hy h1 (Or.inr rfl)).2 (Or.inl rfl)
        refine ⟨fun S' n' q hr => (by cases hr), fun x hr => ?_⟩
        have := Sum.inr.inj hr
        subst this
        refine ⟨f2, a1, ?_, h2, r1.tr r2, hf1⟩
        rw [s1, e1]
        simp only [Option.bind_some, Option.toList_none, List.nil_append]
        rw [b122_19]
        exact e2
      | inl r =>
        obtain ⟨b, hh, s, q5⟩ := r
        obtain ⟨f1, a1, e1, h1, hM1, r1, hf1⟩ := l1 b hh s q5 eq
        have hq5 : q5 ≤ l := by
          cases em : semB B l q5 with
          | false => exact lfR_out (B := B) (x := q5) hp (by rw [lfR_Q, eq]; simp only; rw [em, if_neg (by decide)])
          | true =>
            by_cases hq : q5 ≤ l
            · exact hq
            · exfalso
              unfold semB at em
              rw [Bool.and_eq_true, decide_eq_true_eq] at em
              have e3 : srt B l (stt B l q5) = 3 := em.1
              have := srt_lt (B := B) (l := l) (i := stt B l q5) (by omega)
              have h3 := (skp_le (B := B) (l - q5) q5).1
              have h4 : stt B l q5 = skp B (l - q5) q5 := rfl
              omega
        obtain ⟨i1, i2⟩ := m_fin (xs := xs) (L := L) (g := g) (l1 := nI k) (l2 := (encL (lOf B l p))) (hB.of (hf1 49 (by decide))) hl hq5 h1 (Or.inl rfl)
        simp only
        cases em : semB B l q5 with
        | false =>
          obtain ⟨f2, e2, h2, r2⟩ := i2 (Or.inr em)
          refine ⟨fun S' n' q hr => (by rw [if_neg (by decide)] at hr; cases hr), fun x hr => ?_⟩
          rw [if_neg (by decide)] at hr
          have := Sum.inr.inj hr
          subst this
          refine ⟨f2, a1, ?_, h2, r1.tr r2, hf1⟩
          rw [s1, e1]
          simp only [Option.bind_some, Option.toList_none, List.nil_append]
          rw [b122_19]
          exact e2
        | true =>
          obtain ⟨f2, e2, h2, r2⟩ := i1 rfl em
          refine ⟨fun S' n' q hr => ?_, fun x hr => (by rw [if_pos rfl] at hr; cases hr)⟩
          rw [if_pos rfl] at hr
          have hq := Sum.inl.inj hr
          simp only [Prod.mk.injEq] at hq
          obtain ⟨q1, q2, q3⟩ := hq
          subst q1
          subst q2
          subst q3
          refine ⟨f2, a1, ?_, h2, hM1, r1.tr r2, hf1⟩
          rw [s1, e1]
          simp only [Option.bind_some, Option.toList_none, List.nil_append]
          rw [b122_19]
          exact e2
    · have n8 : n = 8 := by have := W.n8; omega
      obtain ⟨f1, e1, h1, r1⟩ := m_leaf9 (xs := xs) (L := L) (g := g) (k := nI k) hB hl hp h hM (by rw [W.cn, n8])
      obtain ⟨f2, e2, h2, r2⟩ := (m_fin (xs := xs) (L := L) (g := g) (l1 := nI k) (l2 := (encL (lOf B l p))) hB hl hp h1 (Or.inr rfl)).2 (Or.inl rfl)
      rw [if_neg hn]
      refine ⟨fun S' n' q hr => (by cases hr), fun x hr => ?_⟩
      have := Sum.inr.inj hr
      subst this
      refine ⟨f2, a, ?_, h2, r1.tr r2, fun _ _ => rfl⟩
      rw [s1, e1]
      simp only [Option.bind_some, Option.toList_none, List.nil_append]
      rw [b122_19]
      exact e2
  | none =>
    rw [ek] at s0
    rw [show encO none = -1 from rfl, if_pos (by decide)] at s0
    simp only
    cases eo : lOf B l p with
    | some k =>
      have hk := (lOf_at eo).1
      rw [eo] at s0
      obtain ⟨f1, e1, h1, r1⟩ := m_step (xs := xs) (L := L) (g := g) hB hl h'.len h'.en h'.wr p1
      have s1 : ev xs L 122 3 [vR 44] (mw f a g) = (ev xs L 131 4 [vR 44, vI (nI (4 + k)), vI (nI (mxL k))] (mw f1 a g)).bind (fun c => rn xs L 122 48 [vR 44, vI (-1), vI (nI (4 + k))] (c.1.toList ++ []) c.2) := by
        rw [s0, show encL (some k) = nI (4 + k) from rfl, b122_22, if_neg (nI_pos (by omega)), b122_26, e1]
        simp only [Option.bind_some, Option.toList_none, List.nil_append]
        rw [b122_30]
        unfold mxL
        by_cases q : k = 3
        · rw [if_pos (by rw [q]; rfl), b122_38, if_pos q]
          rfl
        · rw [if_neg (by rw [show (7 : Int32) = nI 7 from rfl, nn_eq (by omega) (by omega)]; omega), b122_43, if_neg q]
          rfl
      obtain ⟨n1, n2⟩ := m_numTo (xs := xs) (L := L) (g := g) (k := 4 + k) (m := mxL k) (mxL_99 k) hB hl p1 h1 (Or.inl rfl)
      simp only
      cases en : numO B l (enn B l p) (mxL k) with
      | none =>
        obtain ⟨f2, e2, h2, r2⟩ := n2 (Or.inr en)
        obtain ⟨f3, e3, h3, r3⟩ := (m_fin (xs := xs) (L := L) (g := g) (l1 := -1) (l2 := nI (4 + k)) hB hl p1 h2 (Or.inr rfl)).2 (Or.inl rfl)
        refine ⟨fun S' n' q hr => (by cases hr), fun x hr => ?_⟩
        have := Sum.inr.inj hr
        subst this
        refine ⟨f3, a, ?_, h3, (r1.tr r2).tr r3, fun _ _ => rfl⟩
        rw [s1, e2]
        simp only [Option.bind_some, Option.toList_none, List.nil_append]
        rw [b122_48]
        exact e3
      | some v =>
        obtain ⟨f2, e2, h2, r2⟩ := n1 v rfl (by omega) en
        have hf2 : ∀ r, r ≠ 45 → ma_u2 a 45 (4 + k) (nI v) r = a r := fun r hr => u2_ne hr
        obtain ⟨i1, i2⟩ := m_fin (xs := xs) (L := L) (g := g) (l1 := -1) (l2 := nI (4 + k)) (hB.of (hf2 49 (by decide))) hl p2 h2 (Or.inl rfl)
        simp only
        cases em : semB B l (enn B l (enn B l p)) with
        | false =>
          obtain ⟨f3, e3, h3, r3⟩ := i2 (Or.inr em)
          refine ⟨fun S' n' q hr => (by rw [if_neg (by decide)] at hr; cases hr), fun x hr => ?_⟩
          rw [if_neg (by decide)] at hr
          have := Sum.inr.inj hr
          subst this
          refine ⟨f3, ma_u2 a 45 (4 + k) (nI v), ?_, h3, (r1.tr r2).tr r3, hf2⟩
          rw [s1, e2]
          simp only [Option.bind_some, Option.toList_none, List.nil_append]
          rw [b122_48]
          exact e3
        | true =>
          obtain ⟨f3, e3, h3, r3⟩ := i1 rfl em
          refine ⟨fun S' n' q hr => ?_, fun x hr => (by rw [if_pos rfl] at hr; cases hr)⟩
          rw [if_pos rfl] at hr
          have hq := Sum.inl.inj hr
          simp only [Prod.mk.injEq] at hq
          obtain ⟨q1, q2, q3⟩ := hq
          subst q1
          subst q2
          subst q3
          refine ⟨f3, ma_u2 a 45 (4 + k) (nI v), ?_, h3, hM.up, (r1.tr r2).tr r3, hf2⟩
          rw [s1, e2]
          simp only [Option.bind_some, Option.toList_none, List.nil_append]
          rw [b122_48]
          exact e3
    | none =>
      rw [eo] at s0
      have s1 : ev xs L 122 3 [vR 44] (mw f a g) = if bI (nmB B l p (wrd 10)) = 0 then rn xs L 122 73 [vR 44, vI (-1), vI (-1)] [] (mw f a g) else rn xs L 122 66 [vR 44, vI (-1), vI (-1)] [] (mw f a g) := by
        rw [s0, show encL none = -1 from rfl, b122_22, if_pos (by decide), b122_51, m_swayN hB hl hp h]
        simp only [Option.bind_some, Option.toList_some, List.cons_append, List.nil_append]
        rw [b122_63]
      simp only
      cases es : nmB B l p (wrd 10) with
      | false =>
        rw [es] at s1
        obtain ⟨f1, e1, h1, r1⟩ := (m_needs (xs := xs) (L := L) (g := g) (b := false) hB hl hp h (Or.inl rfl)).2 (Or.inr rfl)
        rw [bI_f] at e1
        obtain ⟨f2, e2, h2, r2⟩ := (m_fin (xs := xs) (L := L) (g := g) (l1 := -1) (l2 := -1) hB hl hp h1 (Or.inr rfl)).2 (Or.inl rfl)
        rw [if_neg (by decide)]
        refine ⟨fun S' n' q hr => (by cases hr), fun x hr => ?_⟩
        have := Sum.inr.inj hr
        subst this
        refine ⟨f2, a, ?_, h2, r1.tr r2, fun _ _ => rfl⟩
        rw [s1, if_pos (show bI false = 0 from rfl), b122_73, e1]
        simp only [Option.bind_some, Option.toList_none, List.nil_append]
        rw [b122_78]
        exact e2
      | true =>
        rw [es] at s1
        rw [if_neg (by decide), b122_66] at s1
        obtain ⟨w1, w2⟩ := m_sway (xs := xs) (L := L) (g := g) hB hl hp h
        rw [if_pos rfl]
        cases eq : swQ B l p with
        | inr y =>
          obtain ⟨f1, e1, h1, r1⟩ := w2 y eq
          have hy : y ≤ l := swQ_out hp eq
          obtain ⟨f2, e2, h2, r2⟩ := (m_fin (xs := xs) (L := L) (g := g) (l1 := -1) (l2 := -1) hB hl hy h1 (Or.inr rfl)).2 (Or.inl rfl)
          refine ⟨fun S' n' q hr => (by cases hr), fun x hr => ?_⟩
          have := Sum.inr.inj hr
          subst this
          refine ⟨f2, a, ?_, h2, r1.tr r2, fun _ _ => rfl⟩
          rw [s1, e1]
          simp only [Option.bind_some, Option.toList_none, List.nil_append]
          rw [b122_70]
          exact e2
        | inl r =>
          obtain ⟨b, v, q5⟩ := r
          obtain ⟨f1, e1, h1, r1⟩ := w1 b v q5 eq
          have hq5 := swQ_in hp eq
          have hf1 : ∀ r, r ≠ 45 → ma_u2 a 45 (8 + b) (nI v) r = a r := fun r hr => u2_ne hr
          obtain ⟨i1, i2⟩ := m_fin (xs := xs) (L := L) (g := g) (l1 := -1) (l2 := -1) (hB.of (hf1 49 (by decide))) hl hq5.2.1 h1 (Or.inl rfl)
          simp only
          cases em : semB B l q5 with
          | false =>
            obtain ⟨f2, e2, h2, r2⟩ := i2 (Or.inr em)
            refine ⟨fun S' n' q hr => (by rw [if_neg (by decide)] at hr; cases hr), fun x hr => ?_⟩
            rw [if_neg (by decide)] at hr
            have := Sum.inr.inj hr
            subst this
            refine ⟨f2, ma_u2 a 45 (8 + b) (nI v), ?_, h2, r1.tr r2, hf1⟩
            rw [s1, e1]
            simp only [Option.bind_some, Option.toList_none, List.nil_append]
            rw [b122_70]
            exact e2
          | true =>
            obtain ⟨f2, e2, h2, r2⟩ := i1 rfl em
            refine ⟨fun S' n' q hr => ?_, fun x hr => (by rw [if_pos rfl] at hr; cases hr)⟩
            rw [if_pos rfl] at hr
            have hq := Sum.inl.inj hr
            simp only [Prod.mk.injEq] at hq
            obtain ⟨q1, q2, q3⟩ := hq
            subst q1
            subst q2
            subst q3
            refine ⟨f2, ma_u2 a 45 (8 + b) (nI v), ?_, h2, hM.up, r1.tr r2, hf1⟩
            rw [s1, e1]
            simp only [Option.bind_some, Option.toList_none, List.nil_append]
            rw [b122_70]
            exact e2
end S95
