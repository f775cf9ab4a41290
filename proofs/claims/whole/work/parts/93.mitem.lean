/-! ===== the model reads a leaf, a sway ===== -/
def lfQ (B : Nat → Nat) (l p : Nat) : (Nat × Nat × Nat × Nat) ⊕ Nat := if nmB B l (enn B l p) (wrd 12) then
    (match numO B l (enn B l (enn B l p)) 5 with
      | none => Sum.inr (enn B l (enn B l p))
      | some b => match optR B l (enn B l (enn B l (enn B l p))) 13 99 10 with
        | Sum.inr x => Sum.inr x
        | Sum.inl (h, q4) => match optR B l q4 14 9 0 with
          | Sum.inr x => Sum.inr x
          | Sum.inl (s, q5) => Sum.inl (b, h, s, q5))
  else Sum.inr (enn B l p)
theorem lfR_Q {B : Nat → Nat} {l p : Nat} : lfR B l p = match lfQ B l p with
    | Sum.inr x => Sum.inr x
    | Sum.inl (b, h, s, q5) => if semB B l q5 then Sum.inl (b, h, s, enn B l q5) else Sum.inr q5 := by
  unfold lfR lfQ
  cases nmB B l (enn B l p) (wrd 12) with
  | false => rfl
  | true =>
    rw [if_pos rfl, if_pos rfl]
    cases numO B l (enn B l (enn B l p)) 5 with
    | none => rfl
    | some b =>
      simp only
      cases optR B l (enn B l (enn B l (enn B l p))) 13 99 10 with
      | inr x => rfl
      | inl r =>
        obtain ⟨h, q4⟩ := r
        simp only
        cases optR B l q4 14 9 0 with
        | inr x => rfl
        | inl r2 => rfl
def swQ (B : Nat → Nat) (l p : Nat) : (Nat × Nat × Nat) ⊕ Nat := match numO B l (enn B l p) 5 with
  | none => Sum.inr (enn B l p)
  | some b => if nmB B l (enn B l (enn B l p)) (wrd 11) then (match numO B l (enn B l (enn B l (enn B l p))) 9 with
      | none => Sum.inr (enn B l (enn B l (enn B l p)))
      | some v => Sum.inl (b, v, enn B l (enn B l (enn B l (enn B l p)))))
    else Sum.inr (enn B l (enn B l p))
/-- nothing stands behind the leaves -/
def Zt (S : Row) (n : Nat) : Prop := ∀ j, 14 + 6 * n ≤ j → j < 62 → S j = 0
section S93
variable {xs : Nat → Int32} {L : Nat} {f a : Nat → Nat → Int32} {g : Nat → Nat → Int64} {B : Nat → Nat} {l p : Nat}
theorem byM.of {a' : Nat → Nat → Int32} (h : byM a B l) (e : a' 49 = a 49) : byM a' B l := fun i hi => by rw [e]; exact h i hi
theorem m_perh1 {b : Int32} {x y : Int32} (h : mS f B l p 1) : ev xs L 132 4 [vR 44, vI b, vI x, vI y] (mw f a g) = some (none, mw f a g) := by
  have h' : mX f l (sgm B l p) (stt B l p) (enn B l p) (vll B l p) 1 := h
  show rn xs L 132 0 [vR 44, vI b, vI x, vI y] [] (mw f a g) = _
  rw [b132_0, h'.wr, if_neg (by decide), b132_21]
theorem m_perh {i idx m d : Nat} {R : Row} (hm : m ≤ 99) (hidx : idx < 62) (hd : R idx = nI d) (hB : byM a B l) (hl : l ≤ 200) (hp : p ≤ l) (h : mS f B l p 0) (hM : isM a 45 R) :
    (∀ v q', optR B l p i m d = Sum.inl (v, q') → ∃ f' a', ev xs L 132 4 [vR 44, vI (bI (nmB B l p (wrd i))), vI (nI idx), vI (nI m)] (mw f a g) = some (none, mw f' a' g) ∧ mS f' B l q' 0 ∧ isM a' 45 (up1 R idx (nI v)) ∧ frX f f' ∧ (∀ q, q ≠ 45 → a' q = a q)) ∧
    (∀ x, optR B l p i m d = Sum.inr x → ∃ f', ev xs L 132 4 [vR 44, vI (bI (nmB B l p (wrd i))), vI (nI idx), vI (nI m)] (mw f a g) = some (none, mw f' a g) ∧ mS f' B l x 1 ∧ frX f f') := by
  have h' : mX f l (sgm B l p) (stt B l p) (enn B l p) (vll B l p) 0 := h
  have p1 := enn_l (B := B) hp
  unfold optR
  cases en : nmB B l p (wrd i) with
  | false =>
    have s0 : ev xs L 132 4 [vR 44, vI (bI false), vI (nI idx), vI (nI m)] (mw f a g) = some (none, mw f a g) := by
      show rn xs L 132 0 [vR 44, vI (bI false), vI (nI idx), vI (nI m)] [] (mw f a g) = _
      rw [b132_0, h'.wr, if_pos rfl, b132_7, if_pos (show bI false = 0 from rfl), b132_21]
    refine ⟨fun v q' hr => ?_, fun x hr => (by rw [if_neg (by decide)] at hr; cases hr)⟩
    rw [if_neg (by decide)] at hr
    have := Sum.inl.inj hr
    have q1 : d = v := congrArg Prod.fst this
    have q2 : p = q' := congrArg Prod.snd this
    subst q1
    subst q2
    refine ⟨f, a, s0, h, ?_, frX.rf, fun _ _ => rfl⟩
    rw [← hd]
    exact hM.eq (fun j _ => up1_same.symm)
  | true =>
    obtain ⟨f1, e1, h1, r1⟩ := m_step (xs := xs) (L := L) (g := g) hB hl h'.len h'.en h'.wr p1
    have s0 : rn xs L 132 0 [vR 44, vI (bI true), vI (nI idx), vI (nI m)] [] (mw f a g) = (ev xs L 131 4 [vR 44, vI (nI idx), vI (nI m)] (mw f1 a g)).bind (fun c => rn xs L 132 21 [vR 44, vI (bI true), vI (nI idx), vI (nI m)] (c.1.toList ++ []) c.2) := by
      rw [b132_0, h'.wr, if_pos rfl, b132_7, if_neg (by decide), b132_11, e1]
      simp only [Option.bind_some, Option.toList_none, List.nil_append]
      rw [b132_15]
    obtain ⟨n1, n2⟩ := m_numTo (xs := xs) (L := L) (g := g) (k := idx) hm hB hl p1 h1 (Or.inl rfl)
    rw [if_pos rfl]
    cases eo : numO B l (enn B l p) m with
    | none =>
      obtain ⟨f2, e2, h2, r2⟩ := n2 (Or.inr eo)
      refine ⟨fun v q' hr => (by cases hr), fun x hr => ?_⟩
      have := Sum.inr.inj hr
      subst this
      refine ⟨f2, ?_, h2, r1.tr r2⟩
      show rn xs L 132 0 [vR 44, vI (bI true), vI (nI idx), vI (nI m)] [] (mw f a g) = _
      rw [s0, e2]
      simp only [Option.bind_some, Option.toList_none, List.nil_append]
      rw [b132_21]
    | some u =>
      obtain ⟨f2, e2, h2, r2⟩ := n1 u rfl hidx eo
      refine ⟨fun v q' hr => ?_, fun x hr => (by cases hr)⟩
      have := Sum.inl.inj hr
      have q1 : u = v := congrArg Prod.fst this
      have q2 : enn B l (enn B l p) = q' := congrArg Prod.snd this
      subst q1
      subst q2
      refine ⟨f2, ma_u2 a 45 idx (nI u), ?_, h2, hM.up, r1.tr r2, fun q hq => u2_ne hq⟩
      show rn xs L 132 0 [vR 44, vI (bI true), vI (nI idx), vI (nI m)] [] (mw f a g) = _
      rw [s0, e2]
      simp only [Option.bind_some, Option.toList_none, List.nil_append]
      rw [b132_21]
theorem m_hold {w : Int32} (hB : byM a B l) (hl : l ≤ 200) (hp : p ≤ l) (h : mS f B l p w) : ev xs L 124 5 [vR 44, vI 104, vI 111, vI 108, vI 100] (mw f a g) = some (some (vI (bI (nmB B l p (wrd 13)))), mw f a g) := m_nm4 (c1 := 104) (c2 := 111) (c3 := 108) (c4 := 100) hB hl hp h (by omega)
theorem m_sign {w : Int32} (hB : byM a B l) (hl : l ≤ 200) (hp : p ≤ l) (h : mS f B l p w) : ev xs L 124 5 [vR 44, vI 115, vI 105, vI 103, vI 110] (mw f a g) = some (some (vI (bI (nmB B l p (wrd 14)))), mw f a g) := m_nm4 (c1 := 115) (c2 := 105) (c3 := 103) (c4 := 110) hB hl hp h (by omega)
theorem m_swayN {w : Int32} (hB : byM a B l) (hl : l ≤ 200) (hp : p ≤ l) (h : mS f B l p w) : ev xs L 124 5 [vR 44, vI 115, vI 119, vI 97, vI 121] (mw f a g) = some (some (vI (bI (nmB B l p (wrd 10)))), mw f a g) := m_nm4 (c1 := 115) (c2 := 119) (c3 := 97) (c4 := 121) hB hl hp h (by omega)
theorem m_on {w : Int32} (hB : byM a B l) (hl : l ≤ 200) (hp : p ≤ l) (h : mS f B l p w) : ev xs L 130 3 [vR 44, vI 111, vI 110] (mw f a g) = some (some (vI (bI (nmB B l p (wrd 12)))), mw f a g) := m_isTwo (c1 := 111) (c2 := 110) hB hl hp h (by omega)
theorem m_is {w : Int32} (hB : byM a B l) (hl : l ≤ 200) (hp : p ≤ l) (h : mS f B l p w) : ev xs L 130 3 [vR 44, vI 105, vI 115] (mw f a g) = some (some (vI (bI (nmB B l p (wrd 11)))), mw f a g) := m_isTwo (c1 := 105) (c2 := 115) hB hl hp h (by omega)
theorem m_bad128 {l1 l2 : Int32} (hB : byM a B l) (hl : l ≤ 200) (hp : p ≤ l) (h : mS f B l p 1) : rn xs L 128 128 [vR 44, vI l1, vI l2] [] (mw f a g) = some (none, mw f a g) := by
  rw [b128_128, m_sign hB hl hp h]
  simp only [Option.bind_some, Option.toList_some, List.cons_append, List.nil_append]
  rw [b128_141, m_perh1 h]
  simp only [Option.bind_some, Option.toList_none, List.nil_append]
  rw [b128_149]
theorem m_bad107 {l1 l2 : Int32} (hB : byM a B l) (hl : l ≤ 200) (hp : p ≤ l) (h : mS f B l p 1) : rn xs L 128 107 [vR 44, vI l1, vI l2] [] (mw f a g) = some (none, mw f a g) := by
  rw [b128_107, m_hold hB hl hp h]
  simp only [Option.bind_some, Option.toList_some, List.cons_append, List.nil_append]
  rw [b128_120, m_perh1 h]
  simp only [Option.bind_some, Option.toList_none, List.nil_append]
  exact m_bad128 hB hl hp h
theorem m_bad45 {l1 l2 : Int32} (hB : byM a B l) (hl : l ≤ 200) (hp : p ≤ l) (h : mS f B l p 1) : ∃ f', rn xs L 128 45 [vR 44, vI l1, vI l2] [] (mw f a g) = some (none, mw f' a g) ∧ mS f' B l p 1 ∧ frX f f' := by
  have h' : mX f l (sgm B l p) (stt B l p) (enn B l p) (vll B l p) 1 := h
  obtain ⟨f1, e1, h1, r1⟩ := (m_numTo (xs := xs) (L := L) (g := g) (k := 0) (m := 5) (by omega) hB hl hp h (Or.inr rfl)).2 (Or.inl rfl)
  refine ⟨f1, ?_, h1, r1⟩
  have e1' : ev xs L 131 4 [vR 44, vI 0, vI 5] (mw f a g) = some (none, mw f1 a g) := e1
  rw [b128_45, h'.wr, if_neg (by decide), b128_88, h'.wr, if_neg (by decide), b128_96, e1']
  simp only [Option.bind_some, Option.toList_none, List.nil_append]
  exact m_bad107 hB hl hp h1
/-- no ninth -/
theorem m_leaf9 {k : Int32} {S : Row} (hB : byM a B l) (hl : l ≤ 200) (hp : p ≤ l) (h : mS f B l p 0) (hM : isM a 45 S) (h0 : S 0 = nI 8) : ∃ f', ev xs L 128 3 [vR 44, vI k] (mw f a g) = some (none, mw f' a g) ∧ mS f' B l p 1 ∧ frX f f' := by
  obtain ⟨f1, e1, h1, r1⟩ := (m_needs (xs := xs) (L := L) (g := g) (b := false) hB hl hp h (Or.inl rfl)).2 (Or.inr rfl)
  obtain ⟨f2, e2, h2, r2⟩ := (m_needs (xs := xs) (L := L) (g := g) (b := nmB B l p (wrd 12)) hB hl hp h1 (Or.inr rfl)).2 (Or.inl rfl)
  obtain ⟨f3, e3, h3, r3⟩ := m_bad45 (xs := xs) (L := L) (g := g) (l1 := k) (l2 := 14 + 6 * nI 8) hB hl hp h2
  refine ⟨f3, ?_, h3, (r1.tr r2).tr r3⟩
  have hc : a 45 0 = nI 8 := (hM 0 (by decide)).trans h0
  show rn xs L 128 0 [vR 44, vI k, vS 0] [] (mw f a g) = _
  rw [bI_f] at e1
  rw [b128_0, hc, if_neg (by decide), b128_29, e1]
  simp only [Option.bind_some, Option.toList_none, List.nil_append]
  rw [b128_33, m_on hB hl hp h1]
  simp only [Option.bind_some, Option.toList_some, List.cons_append, List.nil_append]
  rw [b128_42, e2]
  simp only [Option.bind_some, Option.toList_none, List.nil_append]
  exact e3
theorem m_leaf {k n : Nat} {S : Row} (hn : n < 8) (hB : byM a B l) (hl : l ≤ 200) (hp : p ≤ l) (h : mS f B l p 0) (hM : isM a 45 S) (h0 : S 0 = nI n) (hz : Zt S n) :
    (∀ b hh s q5, lfQ B l p = Sum.inl (b, hh, s, q5) → ∃ f' a', ev xs L 128 3 [vR 44, vI (nI k)] (mw f a g) = some (none, mw f' a' g) ∧ mS f' B l q5 0 ∧ isM a' 45 (growR S n (nI k) (nI b) (nI hh) (nI s)) ∧ frX f f' ∧ (∀ q, q ≠ 45 → a' q = a q)) ∧
    (∀ x, lfQ B l p = Sum.inr x → ∃ f' a', ev xs L 128 3 [vR 44, vI (nI k)] (mw f a g) = some (none, mw f' a' g) ∧ mS f' B l x 1 ∧ frX f f' ∧ (∀ q, q ≠ 45 → a' q = a q)) := by
  have p1 := enn_l (B := B) hp
  have p2 := enn_l (B := B) p1
  have p3 := enn_l (B := B) p2
  have hc : a 45 0 = nI n := (hM 0 (by decide)).trans h0
  have xA : (14 : Int32) + 6 * nI n = nI (14 + 6 * n) := ix0
  obtain ⟨f1, e1, h1, r1⟩ := (m_needs (xs := xs) (L := L) (g := g) (b := true) hB hl hp h (Or.inl rfl)).1 rfl rfl
  rw [bI_t] at e1
  have s1 : rn xs L 128 0 [vR 44, vI (nI k), vS 0] [] (mw f a g) = (ev xs L 129 2 [vR 44, vI (bI (nmB B l (enn B l p) (wrd 12)))] (mw f1 a g)).bind (fun c => rn xs L 128 45 [vR 44, vI (nI k), vI (nI (14 + 6 * n))] (c.1.toList ++ []) c.2) := by
    rw [b128_0, hc, if_pos (by rw [show (8 : Int32) = nI 8 from rfl, nn_lt (by omega) (by omega)]; exact hn), xA, b128_25, e1]
    simp only [Option.bind_some, Option.toList_none, List.nil_append]
    rw [b128_33, m_on hB hl p1 h1]
    simp only [Option.bind_some, Option.toList_some, List.cons_append, List.nil_append]
    rw [b128_42]
  obtain ⟨i1, i2⟩ := m_needs (xs := xs) (L := L) (g := g) (b := nmB B l (enn B l p) (wrd 12)) hB hl p1 h1 (Or.inl rfl)
  unfold lfQ
  cases en : nmB B l (enn B l p) (wrd 12) with
  | false =>
    obtain ⟨f2, e2, h2, r2⟩ := i2 (Or.inr en)
    obtain ⟨f3, e3, h3, r3⟩ := m_bad45 (xs := xs) (L := L) (g := g) (l1 := nI k) (l2 := nI (14 + 6 * n)) hB hl p1 h2
    refine ⟨fun b hh s q5 hr => (by rw [if_neg (by decide)] at hr; cases hr), fun x hr => ?_⟩
    rw [if_neg (by decide)] at hr
    have := Sum.inr.inj hr
    subst this
    refine ⟨f3, a, ?_, h3, (r1.tr r2).tr r3, fun _ _ => rfl⟩
    show rn xs L 128 0 [vR 44, vI (nI k), vS 0] [] (mw f a g) = _
    rw [s1, e2]
    simp only [Option.bind_some, Option.toList_none, List.nil_append]
    exact e3
  | true =>
    obtain ⟨f2, e2, h2, r2⟩ := i1 rfl en
    have h2' : mX f2 l (sgm B l (enn B l (enn B l p))) (stt B l (enn B l (enn B l p))) (enn B l (enn B l (enn B l p))) (vll B l (enn B l (enn B l p))) 0 := h2
    have ja : ma_in (nI (14 + 6 * n)) 62 = true := in_of (by omega) (by decide)
    have x1 : nI (14 + 6 * n) + 1 = nI (14 + 6 * n + 1) := nn_add1
    have x2 : nI (14 + 6 * n) + 2 = nI (14 + 6 * n + 2) := by rw [show (2 : Int32) = nI 2 from rfl, nn_add]
    have x3 : nI (14 + 6 * n) + 3 = nI (14 + 6 * n + 3) := by rw [show (3 : Int32) = nI 3 from rfl, nn_add]
    have x4 : nI (14 + 6 * n) + 4 = nI (14 + 6 * n + 4) := by rw [show (4 : Int32) = nI 4 from rfl, nn_add]
    have j2 : ma_in (nI (14 + 6 * n) + 2) 62 = true := by rw [x2]; exact in_of (by omega) (by decide)
    have j4 : ma_in (nI (14 + 6 * n) + 4) 62 = true := by rw [x4]; exact in_of (by omega) (by decide)
    have hz0 : (ma_u2 (ma_u2 (ma_u2 a 45 (14 + 6 * n) (nI k)) 45 (14 + 6 * n + 2) 10) 45 (14 + 6 * n + 4) 1) 45 0 = nI n := by
      rw [u2_at, if_neg (by omega), u2_at, if_neg (by omega), u2_at, if_neg (by omega)]
      exact hc
    -- the row so far
    have hM1 : isM (ma_u2 (ma_u2 (ma_u2 (ma_u2 a 45 (14 + 6 * n) (nI k)) 45 (14 + 6 * n + 2) 10) 45 (14 + 6 * n + 4) 1) 45 0 (nI (n + 1))) 45 (up1 (up1 (up1 (up1 S (14 + 6 * n) (nI k)) (14 + 6 * n + 2) 10) (14 + 6 * n + 4) 1) 0 (nI (n + 1))) := (((hM.up).up).up).up
    have hB1 : byM (ma_u2 (ma_u2 (ma_u2 (ma_u2 a 45 (14 + 6 * n) (nI k)) 45 (14 + 6 * n + 2) 10) 45 (14 + 6 * n + 4) 1) 45 0 (nI (n + 1))) B l := hB.of (by rw [u2_ne (by decide), u2_ne (by decide), u2_ne (by decide), u2_ne (by decide)])
    have hf1 : ∀ q, q ≠ 45 → ma_u2 (ma_u2 (ma_u2 (ma_u2 a 45 (14 + 6 * n) (nI k)) 45 (14 + 6 * n + 2) 10) 45 (14 + 6 * n + 4) 1) 45 0 (nI (n + 1)) q = a q := fun q hq => by rw [u2_ne hq, u2_ne hq, u2_ne hq, u2_ne hq]
    have s2 : rn xs L 128 0 [vR 44, vI (nI k), vS 0] [] (mw f a g) = (ev xs L 131 4 [vR 44, vI (nI (14 + 6 * n + 1)), vI (nI 5)] (mw f2 (ma_u2 (ma_u2 (ma_u2 (ma_u2 a 45 (14 + 6 * n) (nI k)) 45 (14 + 6 * n + 2) 10) 45 (14 + 6 * n + 4) 1) 45 0 (nI (n + 1))) g)).bind (fun c => rn xs L 128 107 [vR 44, vI (nI k), vI (nI (14 + 6 * n))] (c.1.toList ++ []) c.2) := by
      rw [s1, e2]
      simp only [Option.bind_some, Option.toList_none, List.nil_append]
      rw [b128_45, h2'.wr, if_pos rfl, b128_52 _ _ ja j2 j4, h2'.wr, if_pos rfl, x2, x4, nn_nat (by omega), nn_nat (by omega), nn_nat (by omega), hz0, nn_add1, b128_100, x1]
      rfl
    generalize ma_u2 (ma_u2 (ma_u2 (ma_u2 a 45 (14 + 6 * n) (nI k)) 45 (14 + 6 * n + 2) 10) 45 (14 + 6 * n + 4) 1) 45 0 (nI (n + 1)) = A1 at *
    obtain ⟨n1, n2⟩ := m_numTo (xs := xs) (L := L) (g := g) (k := 14 + 6 * n + 1) (m := 5) (by omega) hB1 hl p2 h2 (Or.inl rfl)
    rw [if_pos rfl]
    cases eb : numO B l (enn B l (enn B l p)) 5 with
    | none =>
      obtain ⟨f3, e3, h3, r3⟩ := n2 (Or.inr eb)
      refine ⟨fun b hh s q5 hr => (by cases hr), fun x hr => ?_⟩
      have := Sum.inr.inj hr
      subst this
      refine ⟨f3, A1, ?_, h3, (r1.tr r2).tr r3, hf1⟩
      show rn xs L 128 0 [vR 44, vI (nI k), vS 0] [] (mw f a g) = _
      rw [s2, e3]
      simp only [Option.bind_some, Option.toList_none, List.nil_append]
      exact m_bad107 hB1 hl p2 h3
    | some b1 =>
      obtain ⟨f3, e3, h3, r3⟩ := n1 b1 rfl (by omega) eb
      have hB2 : byM (ma_u2 A1 45 (14 + 6 * n + 1) (nI b1)) B l := hB1.of (u2_ne (by decide))
      have hM2 : isM (ma_u2 A1 45 (14 + 6 * n + 1) (nI b1)) 45 (up1 (up1 (up1 (up1 (up1 S (14 + 6 * n) (nI k)) (14 + 6 * n + 2) 10) (14 + 6 * n + 4) 1) 0 (nI (n + 1))) (14 + 6 * n + 1) (nI b1)) := hM1.up
      have hf2 : ∀ q, q ≠ 45 → ma_u2 A1 45 (14 + 6 * n + 1) (nI b1) q = a q := fun q hq => by rw [u2_ne hq]; exact hf1 q hq
      have s3 : rn xs L 128 0 [vR 44, vI (nI k), vS 0] [] (mw f a g) = (ev xs L 132 4 [vR 44, vI (bI (nmB B l (enn B l (enn B l (enn B l p))) (wrd 13))), vI (nI (14 + 6 * n + 2)), vI (nI 99)] (mw f3 (ma_u2 A1 45 (14 + 6 * n + 1) (nI b1)) g)).bind (fun c => rn xs L 128 128 [vR 44, vI (nI k), vI (nI (14 + 6 * n))] (c.1.toList ++ []) c.2) := by
        rw [s2, e3]
        simp only [Option.bind_some, Option.toList_none, List.nil_append]
        rw [b128_107, m_hold hB2 hl p3 h3]
        simp only [Option.bind_some, Option.toList_some, List.cons_append, List.nil_append]
        rw [b128_120, x2]
        rfl
      have hd2 : (up1 (up1 (up1 (up1 (up1 S (14 + 6 * n) (nI k)) (14 + 6 * n + 2) 10) (14 + 6 * n + 4) 1) 0 (nI (n + 1))) (14 + 6 * n + 1) (nI b1)) (14 + 6 * n + 2) = nI 10 := by
        rw [up1_at, if_neg (by omega), up1_at, if_neg (by omega), up1_at, if_neg (by omega), up1_at, if_pos rfl]
        rfl
      generalize ma_u2 A1 45 (14 + 6 * n + 1) (nI b1) = A2 at *
      obtain ⟨o1, o2⟩ := m_perh (xs := xs) (L := L) (g := g) (i := 13) (idx := 14 + 6 * n + 2) (m := 99) (d := 10) (by omega) (by omega) hd2 hB2 hl p3 h3 hM2
      simp only
      cases eh : optR B l (enn B l (enn B l (enn B l p))) 13 99 10 with
      | inr y =>
        obtain ⟨f4, e4, h4, r4⟩ := o2 y eh
        refine ⟨fun b hh s q5 hr => (by cases hr), fun x hr => ?_⟩
        have := Sum.inr.inj hr
        subst this
        refine ⟨f4, A2, ?_, h4, ((r1.tr r2).tr r3).tr r4, hf2⟩
        show rn xs L 128 0 [vR 44, vI (nI k), vS 0] [] (mw f a g) = _
        rw [s3, e4]
        simp only [Option.bind_some, Option.toList_none, List.nil_append]
        exact m_bad128 hB2 hl (optR_out p3 eh) h4
      | inl rh =>
        obtain ⟨hv, q4⟩ := rh
        have oh := optR_in p3 eh
        obtain ⟨f4, A3, e4, h4, hM3, r4, hf3⟩ := o1 hv q4 eh
        have hB3 : byM A3 B l := hB2.of (hf3 49 (by decide))
        have s4 : rn xs L 128 0 [vR 44, vI (nI k), vS 0] [] (mw f a g) = (ev xs L 132 4 [vR 44, vI (bI (nmB B l q4 (wrd 14))), vI (nI (14 + 6 * n + 3)), vI (nI 9)] (mw f4 A3 g)).bind (fun c => rn xs L 128 149 [vR 44, vI (nI k), vI (nI (14 + 6 * n))] (c.1.toList ++ []) c.2) := by
          rw [s3, e4]
          simp only [Option.bind_some, Option.toList_none, List.nil_append]
          rw [b128_128, m_sign hB3 hl oh.2.1 h4]
          simp only [Option.bind_some, Option.toList_some, List.cons_append, List.nil_append]
          rw [b128_141, x3]
          rfl
        have hd3 : (up1 (up1 (up1 (up1 (up1 (up1 S (14 + 6 * n) (nI k)) (14 + 6 * n + 2) 10) (14 + 6 * n + 4) 1) 0 (nI (n + 1))) (14 + 6 * n + 1) (nI b1)) (14 + 6 * n + 2) (nI hv)) (14 + 6 * n + 3) = nI 0 := by
          rw [up1_at, if_neg (by omega), up1_at, if_neg (by omega), up1_at, if_neg (by omega), up1_at, if_neg (by omega), up1_at, if_neg (by omega), up1_at, if_neg (by omega), hz _ (by omega) (by omega)]
          rfl
        obtain ⟨u1, u2⟩ := m_perh (xs := xs) (L := L) (g := g) (i := 14) (idx := 14 + 6 * n + 3) (m := 9) (d := 0) (by omega) (by omega) hd3 hB3 hl oh.2.1 h4 hM3
        simp only
        cases es : optR B l q4 14 9 0 with
        | inr y =>
          obtain ⟨f5, e5, h5, r5⟩ := u2 y es
          refine ⟨fun b hh s q5 hr => (by cases hr), fun x hr => ?_⟩
          have := Sum.inr.inj hr
          subst this
          refine ⟨f5, A3, ?_, h5, (((r1.tr r2).tr r3).tr r4).tr r5, fun q hq => (hf3 q hq).trans (hf2 q hq)⟩
          show rn xs L 128 0 [vR 44, vI (nI k), vS 0] [] (mw f a g) = _
          rw [s4, e5]
          simp only [Option.bind_some, Option.toList_none, List.nil_append]
          rw [b128_149]
        | inl rs =>
          obtain ⟨sv, q5⟩ := rs
          obtain ⟨f5, A4, e5, h5, hM4, r5, hf4⟩ := u1 sv q5 es
          refine ⟨fun b hh s q' hr => ?_, fun x hr => (by cases hr)⟩
          have hq := Sum.inl.inj hr
          simp only [Prod.mk.injEq] at hq
          obtain ⟨q1, q2, q3, q4'⟩ := hq
          subst q1
          subst q2
          subst q3
          subst q4'
          refine ⟨f5, A4, ?_, h5, hM4.eq (fun j hj => ?_), (((r1.tr r2).tr r3).tr r4).tr r5, fun q hq => (hf4 q hq).trans ((hf3 q hq).trans (hf2 q hq))⟩
          · show rn xs L 128 0 [vR 44, vI (nI k), vS 0] [] (mw f a g) = _
            rw [s4, e5]
            simp only [Option.bind_some, Option.toList_none, List.nil_append]
            rw [b128_149]
          · unfold growR
            simp only [up1_at]
            by_cases j0 : j = 0
            · simp [j0]
            · have hzj := hz (14 + 6 * n + 5) (by omega) (by omega)
              by_cases c0 : j = 14 + 6 * n + 0
              · subst c0; simp
              · by_cases c1 : j = 14 + 6 * n + 1
                · subst c1; simp
                · by_cases c2 : j = 14 + 6 * n + 2
                  · subst c2; simp
                  · by_cases c3 : j = 14 + 6 * n + 3
                    · subst c3; simp
                    · by_cases c4 : j = 14 + 6 * n + 4
                      · subst c4; simp
                      · by_cases c5 : j = 14 + 6 * n + 5
                        · subst c5; simp [hzj]
                        · rw [Nat.add_zero] at c0
                          simp [j0, c0, c1, c2, c3, c4, c5]
end S93
