/-! ===== the class reads a leaf ===== -/
def lfR (B : Nat → Nat) (l p : Nat) : (Nat × Nat × Nat × Nat) ⊕ Nat := if nmB B l (enn B l p) (wrd 12) then
    (match numO B l (enn B l (enn B l p)) 5 with
      | none => Sum.inr (enn B l (enn B l p))
      | some b => match optR B l (enn B l (enn B l (enn B l p))) 13 99 10 with
        | Sum.inr x => Sum.inr x
        | Sum.inl (h, q4) => match optR B l q4 14 9 0 with
          | Sum.inr x => Sum.inr x
          | Sum.inl (s, q5) => if semB B l q5 then Sum.inl (b, h, s, enn B l q5) else Sum.inr q5)
  else Sum.inr (enn B l p)
def frI (f a f' a' : Nat → Nat → Int32) : Prop := (∀ q, oT 9 q → q ≠ 25 → f' q = f q) ∧ (∀ q, oT 9 q → a' q = a q)
theorem frI.tr {f a f' a' f2 a2 : Nat → Nat → Int32} (h : frI f a f' a') (h2 : frI f' a' f2 a2) : frI f a f2 a2 := ⟨fun q h3 h4 => (h2.1 q h3 h4).trans (h.1 q h3 h4), fun q hq => (h2.2 q hq).trans (h.2 q hq)⟩
theorem frI.rf {f a : Nat → Nat → Int32} : frI f a f a := ⟨fun _ _ _ => rfl, fun _ _ => rfl⟩
theorem frT.I {f a f' : Nat → Nat → Int32} (h : frT f f') : frI f a f' a := ⟨fun q _ h2 => h q h2, fun _ _ => rfl⟩
theorem cX.of {f f' : Nat → Nat → Int32} {l c s e : Nat} {ft : Int32} (h : cX f l c s e ft) (e0 : f' 25 = f 25) : cX f' l c s e ft := cX.mk (by rw [e0]; exact h.len) (by rw [e0]; exact h.srt) (by rw [e0]; exact h.st) (by rw [e0]; exact h.en) (by rw [e0]; exact h.flt)
section S92
variable {xs : Nat → Int32} {L : Nat} {f a : Nat → Nat → Int32} {g : Nat → Nat → Int64} {B : Nat → Nat} {l p : Nat}
theorem lfR_in {b h s p' : Nat} (hp : p ≤ l) (hr : lfR B l p = Sum.inl (b, h, s, p')) : enn B l p ≤ p' ∧ p' ≤ l ∧ b ≤ 5 ∧ h ≤ 99 ∧ s ≤ 9 := by
  have p1 := enn_l (B := B) hp
  have p2 := enn_l (B := B) p1
  have p3 := enn_l (B := B) p2
  have g1 := enn_ge (B := B) p1
  have g2 := enn_ge (B := B) p2
  unfold lfR at hr
  split at hr
  · cases e2 : numO B l (enn B l (enn B l p)) 5 with
    | none => rw [e2] at hr; cases hr
    | some b1 =>
      have hb := (numO_le e2).1
      rw [e2] at hr
      cases e3 : optR B l (enn B l (enn B l (enn B l p))) 13 99 10 with
      | inr x => rw [e3] at hr; cases hr
      | inl r3 =>
        obtain ⟨h1, q4⟩ := r3
        have o3 := optR_in p3 e3
        rw [e3] at hr
        cases e4 : optR B l q4 14 9 0 with
        | inr x => simp only [e4] at hr; cases hr
        | inl r4 =>
          obtain ⟨s1, q5⟩ := r4
          have o4 := optR_in o3.2.1 e4
          have g5 := enn_ge (B := B) o4.2.1
          have l5 := enn_l (B := B) o4.2.1
          simp only [e4] at hr
          split at hr
          · have hh := Sum.inl.inj hr
            simp only [Prod.mk.injEq] at hh
            omega
          · cases hr
  · cases hr
theorem lfR_out {x : Nat} (hp : p ≤ l) (hr : lfR B l p = Sum.inr x) : x ≤ l := by
  have p1 := enn_l (B := B) hp
  have p2 := enn_l (B := B) p1
  have p3 := enn_l (B := B) p2
  unfold lfR at hr
  split at hr
  · cases e2 : numO B l (enn B l (enn B l p)) 5 with
    | none => rw [e2] at hr; have := Sum.inr.inj hr; omega
    | some b1 =>
      rw [e2] at hr
      cases e3 : optR B l (enn B l (enn B l (enn B l p))) 13 99 10 with
      | inr y =>
        have o3 := optR_out p3 e3
        rw [e3] at hr; have := Sum.inr.inj hr; omega
      | inl r3 =>
        obtain ⟨h1, q4⟩ := r3
        have o3 := optR_in p3 e3
        rw [e3] at hr
        cases e4 : optR B l q4 14 9 0 with
        | inr y =>
          have o4 := optR_out o3.2.1 e4
          simp only [e4] at hr; have := Sum.inr.inj hr; omega
        | inl r4 =>
          obtain ⟨s1, q5⟩ := r4
          have o4 := optR_in o3.2.1 e4
          simp only [e4] at hr
          split at hr
          · cases hr
          · have := Sum.inr.inj hr; omega
  · have := Sum.inr.inj hr; omega
theorem c_readLeaf {k n : Nat} {S : Row} (hn : n < 8) (hB : byC a B l) (hl : l ≤ 200) (hp : p ≤ l) (h : cS f B l p (-1)) (hT : isT 9 f a S n 0) :
    (∀ b hh s p', lfR B l p = Sum.inl (b, hh, s, p') → ∃ f' a', ev xs L 28 6 [vR 25, vR 9, vI (nI k)] (mw f a g) = some (none, mw f' a' g) ∧ cS f' B l p' (-1) ∧ isT 9 f' a' (growR S n (nI k) (nI b) (nI hh) (nI s)) (n + 1) 0 ∧ frI f a f' a') ∧
    (∀ x, lfR B l p = Sum.inr x → ∃ f', ev xs L 28 6 [vR 25, vR 9, vI (nI k)] (mw f a g) = some (none, mw f' a g) ∧ cF f' B l x ∧ frT f f') := by
  have p1 := enn_l (B := B) hp
  have p2 := enn_l (B := B) p1
  have p3 := enn_l (B := B) p2
  obtain ⟨f1, e1, h1, r1⟩ := c_next (xs := xs) (L := L) (g := g) hB hl hp h
  have s1 : rn xs L 28 0 [vR 25, vR 9, vI (nI k), vS 0, vS 0, vS 0] [] (mw f a g) = (ev xs L 27 3 [vR 25, vS 27] (mw f1 a g)).bind (fun c => rn xs L 28 10 [vR 25, vR 9, vI (nI k), vS 0, vS 0, vS 0] (c.1.toList ++ []) c.2) := by
    rw [b28_0 _ _ _ _ _ tr9, e1]
    simp only [Option.bind_some, Option.toList_none, List.nil_append]
    rw [b28_4 _ _ _ _ _ tr9]
  obtain ⟨i1, i2⟩ := c_passName (xs := xs) (L := L) (g := g) (i := 12) (k := 27) (by decide) rfl hB hl p1 h1
  unfold lfR
  cases en : nmB B l (enn B l p) (wrd 12) with
  | false =>
    obtain ⟨f2, e2, h2, r2⟩ := i2 en
    refine ⟨fun b hh s p' hr => (by rw [if_neg (by decide)] at hr; cases hr), fun x hr => ?_⟩
    rw [if_neg (by decide)] at hr
    have := Sum.inr.inj hr
    subst this
    refine ⟨f2, ?_, h2, r1.tr r2⟩
    show rn xs L 28 0 [vR 25, vR 9, vI (nI k), vS 0, vS 0, vS 0] [] (mw f a g) = _
    rw [s1, e2]
    simp only [Option.bind_some, Option.toList_some, List.cons_append, List.nil_append]
    rw [b28_10 _ _ _ _ _ _ tr9, if_pos rfl, b28_13 _ _ _ _ _ tr9]
  | true =>
    obtain ⟨f2, e2, h2, r2⟩ := i1 en
    have s2 : rn xs L 28 0 [vR 25, vR 9, vI (nI k), vS 0, vS 0, vS 0] [] (mw f a g) = (ev xs L 23 3 [vR 25, vI (nI 5)] (mw f2 a g)).bind (fun c => rn xs L 28 19 [vR 25, vR 9, vI (nI k), vS 0, vS 0, vS 0] (c.1.toList ++ []) c.2) := by
      rw [s1, e2]
      simp only [Option.bind_some, Option.toList_some, List.cons_append, List.nil_append]
      rw [b28_10 _ _ _ _ _ _ tr9, if_neg (by decide), b28_14 _ _ _ _ _ tr9]
      rfl
    obtain ⟨n1, n2⟩ := c_number (xs := xs) (L := L) (g := g) (m := 5) (by omega) hB hl p2 h2
    rw [if_pos rfl]
    cases eb : numO B l (enn B l (enn B l p)) 5 with
    | none =>
      obtain ⟨f3, e3, h3, r3⟩ := n2 eb
      refine ⟨fun b hh s p' hr => (by cases hr), fun x hr => ?_⟩
      have := Sum.inr.inj hr
      subst this
      refine ⟨f3, ?_, h3, (r1.tr r2).tr r3⟩
      show rn xs L 28 0 [vR 25, vR 9, vI (nI k), vS 0, vS 0, vS 0] [] (mw f a g) = _
      rw [s2, e3]
      simp only [Option.bind_some, Option.toList_some, List.cons_append, List.nil_append]
      rw [b28_19 _ _ _ _ _ _ tr9, if_pos (by decide), b28_24 _ _ _ _ _ tr9]
    | some b1 =>
      have hb1 := (numO_le eb).1
      obtain ⟨f3, e3, h3, r3⟩ := n1 b1 eb
      have s3 : rn xs L 28 0 [vR 25, vR 9, vI (nI k), vS 0, vS 0, vS 0] [] (mw f a g) = (ev xs L 29 4 [vR 25, vS 29, vI (nI 99), vI (nI 10)] (mw f3 a g)).bind (fun c => rn xs L 28 35 [vR 25, vR 9, vI (nI k), vI (nI b1), vS 0, vS 0] (c.1.toList ++ []) c.2) := by
        rw [s2, e3]
        simp only [Option.bind_some, Option.toList_some, List.cons_append, List.nil_append]
        rw [b28_19 _ _ _ _ _ _ tr9, if_neg (nI_pos (by omega)), b28_25 _ _ _ _ _ tr9]
        rfl
      obtain ⟨o1, o2⟩ := c_numNamed (xs := xs) (L := L) (g := g) (i := 13) (k := 29) (m := 99) (d := 10) (by decide) rfl (by omega) (by omega) hB hl p3 h3
      simp only
      cases eh : optR B l (enn B l (enn B l (enn B l p))) 13 99 10 with
      | inr y =>
        obtain ⟨f4, e4, h4, r4⟩ := o2 y eh
        refine ⟨fun b hh s p' hr => (by cases hr), fun x hr => ?_⟩
        have := Sum.inr.inj hr
        subst this
        refine ⟨f4, ?_, h4, ((r1.tr r2).tr r3).tr r4⟩
        show rn xs L 28 0 [vR 25, vR 9, vI (nI k), vS 0, vS 0, vS 0] [] (mw f a g) = _
        rw [s3, e4]
        simp only [Option.bind_some, Option.toList_some, List.cons_append, List.nil_append]
        rw [b28_35 _ _ _ _ _ _ tr9, if_pos (by decide), b28_42 _ _ _ _ _ tr9]
      | inl rh =>
        obtain ⟨hv, q4⟩ := rh
        have oh := optR_in p3 eh
        obtain ⟨f4, e4, h4, r4⟩ := o1 hv q4 eh
        have s4 : rn xs L 28 0 [vR 25, vR 9, vI (nI k), vS 0, vS 0, vS 0] [] (mw f a g) = (ev xs L 29 4 [vR 25, vS 31, vI (nI 9), vI (nI 0)] (mw f4 a g)).bind (fun c => rn xs L 28 52 [vR 25, vR 9, vI (nI k), vI (nI b1), vI (nI hv), vS 0] (c.1.toList ++ []) c.2) := by
          rw [s3, e4]
          simp only [Option.bind_some, Option.toList_some, List.cons_append, List.nil_append]
          rw [b28_35 _ _ _ _ _ _ tr9, if_neg (nI_pos (by omega)), b28_43 _ _ _ _ _ tr9]
          rfl
        obtain ⟨u1, u2⟩ := c_numNamed (xs := xs) (L := L) (g := g) (i := 14) (k := 31) (m := 9) (d := 0) (by decide) rfl (by omega) (by omega) hB hl oh.2.1 h4
        simp only
        cases es : optR B l q4 14 9 0 with
        | inr y =>
          obtain ⟨f5, e5, h5, r5⟩ := u2 y es
          refine ⟨fun b hh s p' hr => (by cases hr), fun x hr => ?_⟩
          have := Sum.inr.inj hr
          subst this
          refine ⟨f5, ?_, h5, (((r1.tr r2).tr r3).tr r4).tr r5⟩
          show rn xs L 28 0 [vR 25, vR 9, vI (nI k), vS 0, vS 0, vS 0] [] (mw f a g) = _
          rw [s4, e5]
          simp only [Option.bind_some, Option.toList_some, List.cons_append, List.nil_append]
          rw [b28_52 _ _ _ _ _ _ tr9, if_pos (by decide), b28_76 _ _ _ _ _ tr9]
        | inl rs =>
          obtain ⟨sv, q5⟩ := rs
          have os := optR_in oh.2.1 es
          obtain ⟨f5, e5, h5, r5⟩ := u1 sv q5 es
          have s5 : rn xs L 28 0 [vR 25, vR 9, vI (nI k), vS 0, vS 0, vS 0] [] (mw f a g) = (ev xs L 25 2 [vR 25] (mw f5 a g)).bind (fun c => rn xs L 28 63 [vR 25, vR 9, vI (nI k), vI (nI b1), vI (nI hv), vI (nI sv)] (c.1.toList ++ []) c.2) := by
            rw [s4, e5]
            simp only [Option.bind_some, Option.toList_some, List.cons_append, List.nil_append]
            rw [b28_52 _ _ _ _ _ _ tr9, if_neg (nI_pos (by omega)), b28_59 _ _ _ _ _ tr9]
          have rr := (((r1.tr r2).tr r3).tr r4).tr r5
          simp only
          cases em : semB B l q5 with
          | false =>
            obtain ⟨f6, e6, h6, r6⟩ := (c_semi (xs := xs) (L := L) (g := g) hB hl os.2.1 h5).2 em
            refine ⟨fun b hh s p' hr => (by rw [if_neg (by decide)] at hr; cases hr), fun x hr => ?_⟩
            rw [if_neg (by decide)] at hr
            have := Sum.inr.inj hr
            subst this
            refine ⟨f6, ?_, h6, rr.tr r6⟩
            show rn xs L 28 0 [vR 25, vR 9, vI (nI k), vS 0, vS 0, vS 0] [] (mw f a g) = _
            rw [s5, e6]
            simp only [Option.bind_some, Option.toList_some, List.cons_append, List.nil_append]
            rw [b28_63 _ _ _ _ _ _ tr9, if_pos rfl, b28_76 _ _ _ _ _ tr9]
          | true =>
            obtain ⟨f6, e6, h6, r6⟩ := (c_semi (xs := xs) (L := L) (g := g) hB hl os.2.1 h5).1 em
            have r06 := rr.tr r6
            have hT6 : isT 9 f6 a S n 0 := hT.keep (fun q q1 q2 => ⟨r06 q (by omega), rfl⟩)
            obtain ⟨f7, a7, e7, hT7, hs7⟩ := c_grow (xs := xs) (L := L) (g := g) (k := nI k) (b := nI b1) (h := nI hv) (s := nI sv) tr9 hn hT6
            refine ⟨fun b hh s p' hr => ?_, fun x hr => (by rw [if_pos rfl] at hr; cases hr)⟩
            rw [if_pos rfl] at hr
            have hq := Sum.inl.inj hr
            simp only [Prod.mk.injEq] at hq
            obtain ⟨q1, q2, q3, q4'⟩ := hq
            subst q1
            subst q2
            subst q3
            subst q4'
            have h6' : cX f6 l (sgm B l (enn B l q5)) (stt B l (enn B l q5)) (enn B l (enn B l q5)) (-1) := h6
            refine ⟨f7, a7, ?_, h6'.of (hs7 25 (Or.inr (by decide))).1, hT7, r06.I.tr ⟨fun q q1 _ => (hs7 q q1).1, fun q q1 => (hs7 q q1).2.1⟩⟩
            show rn xs L 28 0 [vR 25, vR 9, vI (nI k), vS 0, vS 0, vS 0] [] (mw f a g) = _
            rw [s5, e6]
            simp only [Option.bind_some, Option.toList_some, List.cons_append, List.nil_append]
            rw [b28_63 _ _ _ _ _ _ tr9, if_neg (by decide), b28_66 _ _ _ _ _ tr9, e7]
            simp only [Option.bind_some, Option.toList_none, List.nil_append]
            rw [b28_76 _ _ _ _ _ tr9]
end S92
