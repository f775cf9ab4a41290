/-! ===== the class reads a law, a sway, a leaf ===== -/
def mxL (k : Nat) : Nat := if k = 3 then 99 else 9
/-- a number behind a name, or what goes without it: (value, where it goes on), or where the fault is -/
def optR (B : Nat → Nat) (l q i m d : Nat) : (Nat × Nat) ⊕ Nat := if nmB B l q (wrd i) then (match numO B l (enn B l q) m with
  | some v => Sum.inl (v, enn B l (enn B l q))
  | none => Sum.inr (enn B l q)) else Sum.inl (d, q)
section S91
variable {xs : Nat → Int32} {L : Nat} {f a : Nat → Nat → Int32} {g : Nat → Nat → Int64} {B : Nat → Nat} {l p : Nat}
theorem enn_l {q : Nat} (h : q ≤ l) : enn B l q ≤ l := (enn_le (B := B) h).2.1
theorem enn_ge {q : Nat} (h : q ≤ l) : q ≤ enn B l q := Nat.le_trans (stt_le (B := B) h).1 (enn_le (B := B) h).1
theorem optR_in {q i m d v q' : Nat} (h : q ≤ l) (hr : optR B l q i m d = Sum.inl (v, q')) : q ≤ q' ∧ q' ≤ l ∧ (v ≤ m ∨ v = d) := by
  unfold optR at hr
  split at hr
  · cases e : numO B l (enn B l q) m with
    | some u =>
      rw [e] at hr
      have := Sum.inl.inj hr
      have h1 : u = v := congrArg Prod.fst this
      have h2 : enn B l (enn B l q) = q' := congrArg Prod.snd this
      have h3 := enn_ge (B := B) h
      have h4 := enn_l (B := B) h
      have h5 := enn_ge (B := B) h4
      have h6 := enn_l (B := B) h4
      have h7 := (numO_le e).1
      exact ⟨by omega, by omega, Or.inl (by omega)⟩
    | none =>
      rw [e] at hr
      cases hr
  · have := Sum.inl.inj hr
    have h1 : d = v := congrArg Prod.fst this
    have h2 : q = q' := congrArg Prod.snd this
    exact ⟨by omega, by omega, Or.inr h1.symm⟩
theorem optR_out {q i m d x : Nat} (h : q ≤ l) (hr : optR B l q i m d = Sum.inr x) : x ≤ l := by
  unfold optR at hr
  split at hr
  · cases e : numO B l (enn B l q) m with
    | some u => rw [e] at hr; cases hr
    | none =>
      rw [e] at hr
      have := Sum.inr.inj hr
      have h4 := enn_l (B := B) h
      omega
  · cases hr
/-- law -/
theorem c_readLaw {k : Nat} (hk : k < 4) (hB : byC a B l) (hl : l ≤ 200) (hp : p ≤ l) (h : cS f B l p (-1)) :
    (∀ v, numO B l (enn B l p) (mxL k) = some v → semB B l (enn B l (enn B l p)) = true → ∃ f', ev xs L 22 4 [vR 25, vR 9, vI (nI k)] (mw f a g) = some (none, mw f' (ma_u2 a 10 k (nI v)) g) ∧ cS f' B l (enn B l (enn B l (enn B l p))) (-1) ∧ frT f f') ∧
    (numO B l (enn B l p) (mxL k) = none → ∃ f', ev xs L 22 4 [vR 25, vR 9, vI (nI k)] (mw f a g) = some (none, mw f' a g) ∧ cF f' B l (enn B l p) ∧ frT f f') ∧
    (∀ v, numO B l (enn B l p) (mxL k) = some v → semB B l (enn B l (enn B l p)) = false → ∃ f', ev xs L 22 4 [vR 25, vR 9, vI (nI k)] (mw f a g) = some (none, mw f' a g) ∧ cF f' B l (enn B l (enn B l p)) ∧ frT f f') := by
  have p1 := enn_l (B := B) hp
  have p2 := enn_l (B := B) p1
  have hmx : mxL k ≤ 99 := by unfold mxL; split <;> omega
  have hmost : (if nI k = 3 then (99 : Int32) else 9) = nI (mxL k) := by
    unfold mxL
    by_cases q : k = 3
    · rw [if_pos (by rw [q]; rfl), if_pos q]; rfl
    · rw [if_neg (by rw [show (3 : Int32) = nI 3 from rfl, nn_eq (by omega) (by omega)]; exact q), if_neg q]; rfl
  obtain ⟨f1, e1, h1, r1⟩ := c_next (xs := xs) (L := L) (g := g) hB hl hp h
  have s1 : rn xs L 22 0 [vR 25, vR 9, vI (nI k), vS 0] [] (mw f a g) = (ev xs L 23 3 [vR 25, vI (nI (mxL k))] (mw f1 a g)).bind (fun b => rn xs L 22 12 [vR 25, vR 9, vI (nI k), vS 0] (b.1.toList ++ []) b.2) := by
    rw [b22_0 _ _ _ tr9, e1]
    simp only [Option.bind_some, Option.toList_none, List.nil_append]
    rw [b22_4 _ _ _ tr9, e_most, hmost]
    simp only [Option.bind_some, Option.toList_some, List.cons_append, List.nil_append]
    rw [b22_9 _ _ _ _ tr9]
  obtain ⟨n1, n2⟩ := c_number (xs := xs) (L := L) (g := g) hmx hB hl p1 h1
  refine ⟨fun v hv hs => ?_, fun hv => ?_, fun v hv hs => ?_⟩
  · have hvm := (numO_le hv).1
    obtain ⟨f2, e2, h2, r2⟩ := n1 v hv
    obtain ⟨f3, e3, h3, r3⟩ := (c_semi (xs := xs) (L := L) (g := g) hB hl p2 h2).1 hs
    have hin : ma_in (nI k) 4 = true := in_of hk (by decide)
    refine ⟨f3, ?_, h3, (r1.tr r2).tr r3⟩
    show rn xs L 22 0 [vR 25, vR 9, vI (nI k), vS 0] [] (mw f a g) = _
    rw [s1, e2]
    simp only [Option.bind_some, Option.toList_some, List.cons_append, List.nil_append]
    rw [b22_12 _ _ _ _ tr9, if_neg (nI_pos (by omega)), b22_17 _ _ _ tr9, e3]
    simp only [Option.bind_some, Option.toList_some, List.cons_append, List.nil_append]
    rw [b22_21 _ _ _ _ tr9, if_neg (by decide), b22_24 _ _ _ tr9 hin, nn_nat (by omega)]
  · obtain ⟨f2, e2, h2, r2⟩ := n2 hv
    refine ⟨f2, ?_, h2, r1.tr r2⟩
    show rn xs L 22 0 [vR 25, vR 9, vI (nI k), vS 0] [] (mw f a g) = _
    rw [s1, e2]
    simp only [Option.bind_some, Option.toList_some, List.cons_append, List.nil_append]
    rw [b22_12 _ _ _ _ tr9, if_pos (by decide), b22_31 _ _ _ tr9]
  · have hvm := (numO_le hv).1
    obtain ⟨f2, e2, h2, r2⟩ := n1 v hv
    obtain ⟨f3, e3, h3, r3⟩ := (c_semi (xs := xs) (L := L) (g := g) hB hl p2 h2).2 hs
    refine ⟨f3, ?_, h3, (r1.tr r2).tr r3⟩
    show rn xs L 22 0 [vR 25, vR 9, vI (nI k), vS 0] [] (mw f a g) = _
    rw [s1, e2]
    simp only [Option.bind_some, Option.toList_some, List.cons_append, List.nil_append]
    rw [b22_12 _ _ _ _ tr9, if_neg (nI_pos (by omega)), b22_17 _ _ _ tr9, e3]
    simp only [Option.bind_some, Option.toList_some, List.cons_append, List.nil_append]
    rw [b22_21 _ _ _ _ tr9, if_pos rfl, b22_31 _ _ _ tr9]
/-- sway -/
theorem c_readSway (hB : byC a B l) (hl : l ≤ 200) (hp : p ≤ l) (h : cS f B l p (-1)) :
    (numO B l (enn B l p) 5 = none → ∃ f', ev xs L 26 4 [vR 25, vR 9] (mw f a g) = some (none, mw f' a g) ∧ cF f' B l (enn B l p) ∧ frT f f') ∧
    (∀ b, numO B l (enn B l p) 5 = some b →
      (nmB B l (enn B l (enn B l p)) (wrd 11) = false → ∃ f', ev xs L 26 4 [vR 25, vR 9] (mw f a g) = some (none, mw f' a g) ∧ cF f' B l (enn B l (enn B l p)) ∧ frT f f') ∧
      (nmB B l (enn B l (enn B l p)) (wrd 11) = true →
        (numO B l (enn B l (enn B l (enn B l p))) 9 = none → ∃ f', ev xs L 26 4 [vR 25, vR 9] (mw f a g) = some (none, mw f' a g) ∧ cF f' B l (enn B l (enn B l (enn B l p))) ∧ frT f f') ∧
        (∀ v, numO B l (enn B l (enn B l (enn B l p))) 9 = some v →
          (semB B l (enn B l (enn B l (enn B l (enn B l p)))) = false → ∃ f', ev xs L 26 4 [vR 25, vR 9] (mw f a g) = some (none, mw f' a g) ∧ cF f' B l (enn B l (enn B l (enn B l (enn B l p)))) ∧ frT f f') ∧
          (semB B l (enn B l (enn B l (enn B l (enn B l p)))) = true → ∃ f', ev xs L 26 4 [vR 25, vR 9] (mw f a g) = some (none, mw f' (ma_u2 a 11 b (nI v)) g) ∧ cS f' B l (enn B l (enn B l (enn B l (enn B l (enn B l p))))) (-1) ∧ frT f f')))) := by
  have p1 := enn_l (B := B) hp
  have p2 := enn_l (B := B) p1
  have p3 := enn_l (B := B) p2
  have p4 := enn_l (B := B) p3
  obtain ⟨f1, e1, h1, r1⟩ := c_next (xs := xs) (L := L) (g := g) hB hl hp h
  have s1 : rn xs L 26 0 [vR 25, vR 9, vS 0, vS 0] [] (mw f a g) = (ev xs L 23 3 [vR 25, vI (nI 5)] (mw f1 a g)).bind (fun b => rn xs L 26 9 [vR 25, vR 9, vS 0, vS 0] (b.1.toList ++ []) b.2) := by
    rw [b26_0 _ _ _ tr9, e1]
    simp only [Option.bind_some, Option.toList_none, List.nil_append]
    rw [b26_4 _ _ _ tr9]
    rfl
  obtain ⟨n1, n2⟩ := c_number (xs := xs) (L := L) (g := g) (m := 5) (by omega) hB hl p1 h1
  refine ⟨fun hv => ?_, fun b hb => ?_⟩
  · obtain ⟨f2, e2, h2, r2⟩ := n2 hv
    refine ⟨f2, ?_, h2, r1.tr r2⟩
    show rn xs L 26 0 [vR 25, vR 9, vS 0, vS 0] [] (mw f a g) = _
    rw [s1, e2]
    simp only [Option.bind_some, Option.toList_some, List.cons_append, List.nil_append]
    rw [b26_9 _ _ _ _ tr9, if_pos (by decide), b26_23 _ _ _ tr9]
  · have hbm := (numO_le hb).1
    obtain ⟨f2, e2, h2, r2⟩ := n1 b hb
    have s2 : rn xs L 26 0 [vR 25, vR 9, vS 0, vS 0] [] (mw f a g) = (ev xs L 27 3 [vR 25, vS 25] (mw f2 a g)).bind (fun c => rn xs L 26 20 [vR 25, vR 9, vI (nI b), vS 0] (c.1.toList ++ []) c.2) := by
      rw [s1, e2]
      simp only [Option.bind_some, Option.toList_some, List.cons_append, List.nil_append]
      rw [b26_9 _ _ _ _ tr9, if_neg (nI_pos (by omega)), b26_14 _ _ _ tr9]
    obtain ⟨i1, i2⟩ := c_passName (xs := xs) (L := L) (g := g) (i := 11) (k := 25) (by decide) rfl hB hl p2 h2
    refine ⟨fun hn => ?_, fun hn => ?_⟩
    · obtain ⟨f3, e3, h3, r3⟩ := i2 hn
      refine ⟨f3, ?_, h3, (r1.tr r2).tr r3⟩
      show rn xs L 26 0 [vR 25, vR 9, vS 0, vS 0] [] (mw f a g) = _
      rw [s2, e3]
      simp only [Option.bind_some, Option.toList_some, List.cons_append, List.nil_append]
      rw [b26_20 _ _ _ _ tr9, if_pos rfl, b26_23 _ _ _ tr9]
    · obtain ⟨f3, e3, h3, r3⟩ := i1 hn
      have s3 : rn xs L 26 0 [vR 25, vR 9, vS 0, vS 0] [] (mw f a g) = (ev xs L 23 3 [vR 25, vI (nI 9)] (mw f3 a g)).bind (fun c => rn xs L 26 30 [vR 25, vR 9, vI (nI b), vS 0] (c.1.toList ++ []) c.2) := by
        rw [s2, e3]
        simp only [Option.bind_some, Option.toList_some, List.cons_append, List.nil_append]
        rw [b26_20 _ _ _ _ tr9, if_neg (by decide), b26_24 _ _ _ tr9]
        rfl
      obtain ⟨m1, m2⟩ := c_number (xs := xs) (L := L) (g := g) (m := 9) (by omega) hB hl p3 h3
      refine ⟨fun hv => ?_, fun v hv => ?_⟩
      · obtain ⟨f4, e4, h4, r4⟩ := m2 hv
        refine ⟨f4, ?_, h4, ((r1.tr r2).tr r3).tr r4⟩
        show rn xs L 26 0 [vR 25, vR 9, vS 0, vS 0] [] (mw f a g) = _
        rw [s3, e4]
        simp only [Option.bind_some, Option.toList_some, List.cons_append, List.nil_append]
        rw [b26_30 _ _ _ _ tr9, if_pos (by decide), b26_49 _ _ _ tr9]
      · have hvm := (numO_le hv).1
        obtain ⟨f4, e4, h4, r4⟩ := m1 v hv
        have s4 : rn xs L 26 0 [vR 25, vR 9, vS 0, vS 0] [] (mw f a g) = (ev xs L 25 2 [vR 25] (mw f4 a g)).bind (fun c => rn xs L 26 39 [vR 25, vR 9, vI (nI b), vI (nI v)] (c.1.toList ++ []) c.2) := by
          rw [s3, e4]
          simp only [Option.bind_some, Option.toList_some, List.cons_append, List.nil_append]
          rw [b26_30 _ _ _ _ tr9, if_neg (nI_pos (by omega)), b26_35 _ _ _ tr9]
        refine ⟨fun hs => ?_, fun hs => ?_⟩
        · obtain ⟨f5, e5, h5, r5⟩ := (c_semi (xs := xs) (L := L) (g := g) hB hl p4 h4).2 hs
          refine ⟨f5, ?_, h5, (((r1.tr r2).tr r3).tr r4).tr r5⟩
          show rn xs L 26 0 [vR 25, vR 9, vS 0, vS 0] [] (mw f a g) = _
          rw [s4, e5]
          simp only [Option.bind_some, Option.toList_some, List.cons_append, List.nil_append]
          rw [b26_39 _ _ _ _ tr9, if_pos rfl, b26_49 _ _ _ tr9]
        · obtain ⟨f5, e5, h5, r5⟩ := (c_semi (xs := xs) (L := L) (g := g) hB hl p4 h4).1 hs
          have hin : ma_in (nI b) 6 = true := in_of (by omega) (by decide)
          refine ⟨f5, ?_, h5, (((r1.tr r2).tr r3).tr r4).tr r5⟩
          show rn xs L 26 0 [vR 25, vR 9, vS 0, vS 0] [] (mw f a g) = _
          rw [s4, e5]
          simp only [Option.bind_some, Option.toList_some, List.cons_append, List.nil_append]
          rw [b26_39 _ _ _ _ tr9, if_neg (by decide), b26_42 _ _ _ tr9 hin, nn_nat (by omega)]
theorem c_numNamed {i k m d : Nat} (hi : i < 15) (hk : k = 3 + 2 * i) (hm : m ≤ 99) (hd : d ≤ 99) (hB : byC a B l) (hl : l ≤ 200) (hp : p ≤ l) (h : cS f B l p (-1)) :
    (∀ v q', optR B l p i m d = Sum.inl (v, q') → ∃ f', ev xs L 29 4 [vR 25, vS k, vI (nI m), vI (nI d)] (mw f a g) = some (some (vI (nI v)), mw f' a g) ∧ cS f' B l q' (-1) ∧ frT f f') ∧
    (∀ x, optR B l p i m d = Sum.inr x → ∃ f', ev xs L 29 4 [vR 25, vS k, vI (nI m), vI (nI d)] (mw f a g) = some (some (vI (-1)), mw f' a g) ∧ cF f' B l x ∧ frT f f') := by
  have p1 := enn_l (B := B) hp
  have h0 : 3 ≤ k ∧ k < 33 := by omega
  have s0 : rn xs L 29 0 [vR 25, vS k, vI (nI m), vI (nI d)] [] (mw f a g) = if bI (nmB B l p (wrd i)) = 0 then rn xs L 29 8 [vR 25, vS k, vI (nI m), vI (nI d)] [] (mw f a g) else rn xs L 29 10 [vR 25, vS k, vI (nI m), vI (nI d)] [] (mw f a g) := by
    rw [b29_0 _ _ _ h0, c_isName hi hk hB hl hp h]
    simp only [Option.bind_some, Option.toList_some, List.cons_append, List.nil_append]
    rw [b29_5]
  unfold optR
  cases en : nmB B l p (wrd i) with
  | false =>
    rw [en, if_pos (by decide), b29_8] at s0
    refine ⟨fun v q' hr => ?_, fun x hr => ?_⟩
    · rw [if_neg (by decide)] at hr
      have := Sum.inl.inj hr
      have q1 : d = v := congrArg Prod.fst this
      have q2 : p = q' := congrArg Prod.snd this
      subst q1
      subst q2
      exact ⟨f, s0, h, frT.rf⟩
    · rw [if_neg (by decide)] at hr
      cases hr
  | true =>
    obtain ⟨f1, e1, h1, r1⟩ := c_next (xs := xs) (L := L) (g := g) hB hl hp h
    obtain ⟨n1, n2⟩ := c_number (xs := xs) (L := L) (g := g) (m := m) hm hB hl p1 h1
    rw [en, if_neg (by decide), b29_10, e1] at s0
    simp only [Option.bind_some, Option.toList_none, List.nil_append] at s0
    rw [b29_14] at s0
    cases ev1 : numO B l (enn B l p) m with
    | none =>
      obtain ⟨f2, e2, h2, r2⟩ := n2 ev1
      rw [e2] at s0
      simp only [Option.bind_some, Option.toList_some, List.cons_append, List.nil_append] at s0
      rw [b29_19] at s0
      refine ⟨fun v q' hr => ?_, fun x hr => ?_⟩
      · rw [if_pos rfl] at hr; cases hr
      · rw [if_pos rfl] at hr
        have := Sum.inr.inj hr
        subst this
        exact ⟨f2, s0, h2, r1.tr r2⟩
    | some u =>
      obtain ⟨f2, e2, h2, r2⟩ := n1 u ev1
      rw [e2] at s0
      simp only [Option.bind_some, Option.toList_some, List.cons_append, List.nil_append] at s0
      rw [b29_19] at s0
      refine ⟨fun v q' hr => ?_, fun x hr => ?_⟩
      · rw [if_pos rfl] at hr
        have := Sum.inl.inj hr
        have q1 : u = v := congrArg Prod.fst this
        have q2 : enn B l (enn B l p) = q' := congrArg Prod.snd this
        subst q1
        subst q2
        exact ⟨f2, s0, h2, r1.tr r2⟩
      · rw [if_pos rfl] at hr; cases hr
end S91
