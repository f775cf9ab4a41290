/-! ===== an item: the class's ===== -/
section S96
variable {xs : Nat → Int32} {L : Nat} {f a : Nat → Nat → Int32} {g : Nat → Nat → Int64} {B : Nat → Nat} {l p : Nat}
theorem Zt.lo {S : Row} {n k : Nat} {v : Int32} (h : Zt S n) (hk : k < 14) : Zt (up1 S k v) n := fun j h1 h2 => by
  rw [up1_at, if_neg (by omega)]
  exact h j h1 h2
theorem Zt.grow {S : Row} {n : Nat} {k b h s : Int32} (hz : Zt S n) : Zt (growR S n k b h s) (n + 1) := fun j h1 h2 => by
  unfold growR
  rw [up1_at, if_neg (by omega), up1_at, if_neg (by omega), up1_at, if_neg (by omega), up1_at, if_neg (by omega), up1_at, if_neg (by omega), up1_at, if_neg (by omega), up1_at, if_neg (by omega)]
  exact hz j (by omega) h2
theorem enn_gt {q : Nat} (h : q ≤ l) (h0 : sgm B l q ≠ 0) : q < enn B l q := by
  have h1 := stt_le (B := B) h
  have h2 := (enn_le (B := B) h).2.2 h0
  omega
theorem swQ_gt {b v q : Nat} (hp : p ≤ l) (h0 : sgm B l p ≠ 0) (hr : swQ B l p = Sum.inl (b, v, q)) : p < q := by
  have p1 := enn_l (B := B) hp
  have p2 := enn_l (B := B) p1
  have p3 := enn_l (B := B) p2
  have g0 := enn_gt hp h0
  have g1 := enn_ge (B := B) p1
  have g2 := enn_ge (B := B) p2
  have g3 := enn_ge (B := B) p3
  unfold swQ at hr
  cases e1 : numO B l (enn B l p) 5 with
  | none => rw [e1] at hr; cases hr
  | some b1 =>
    rw [e1] at hr
    simp only at hr
    split at hr
    · cases e2 : numO B l (enn B l (enn B l (enn B l p))) 9 with
      | none => rw [e2] at hr; cases hr
      | some v1 =>
        rw [e2] at hr
        have hq := Sum.inl.inj hr
        simp only [Prod.mk.injEq] at hq
        omega
    · cases hr
theorem itR_in {S S' : Row} {n n' q : Nat} (W : WF S n) (hz : Zt S n) (hp : p ≤ l) (h0 : sgm B l p ≠ 0) (hr : itR B l p S n = Sum.inl (S', n', q)) : p < q ∧ q ≤ l ∧ WF S' n' ∧ Zt S' n' := by
  have p1 := enn_l (B := B) hp
  have p2 := enn_l (B := B) p1
  have p3 := enn_l (B := B) p2
  have g0 := enn_gt hp h0
  have g1 := enn_ge (B := B) p1
  have g2 := enn_ge (B := B) p2
  unfold itR at hr
  cases ek : kOf B l p with
  | some k =>
    rw [ek] at hr
    simp only at hr
    by_cases hn : n < 8
    · rw [if_pos hn] at hr
      cases eq : lfR B l p with
      | inr y => rw [eq] at hr; cases hr
      | inl r =>
        obtain ⟨b, hh, s, q5⟩ := r
        rw [eq] at hr
        obtain ⟨r1, r2, r3, r4, r5⟩ := lfR_in hp eq
        have hq := Sum.inl.inj hr
        simp only [Prod.mk.injEq] at hq
        obtain ⟨q1, q2, q3⟩ := hq
        subst q1
        subst q2
        subst q3
        have hk := (kOf_at ek).1
        exact ⟨by omega, r2, W.grow hn ⟨k, by omega, rfl⟩ ⟨b, r3, rfl⟩ ⟨hh, r4, rfl⟩ ⟨s, r5, rfl⟩, hz.grow⟩
    · rw [if_neg hn] at hr; cases hr
  | none =>
    rw [ek] at hr
    simp only at hr
    cases eo : lOf B l p with
    | some k =>
      have hk := (lOf_at eo).1
      rw [eo] at hr
      simp only at hr
      cases en : numO B l (enn B l p) (mxL k) with
      | none => rw [en] at hr; cases hr
      | some v =>
        have hv := (numO_le en).1
        rw [en] at hr
        simp only at hr
        split at hr
        · have hq := Sum.inl.inj hr
          simp only [Prod.mk.injEq] at hq
          obtain ⟨q1, q2, q3⟩ := hq
          subst q1
          subst q2
          subst q3
          unfold mxL at hv
          refine ⟨by omega, p3, W.lo (by omega) (by omega) (by omega) (fun _ h7 => ⟨v, ?_, rfl⟩) (fun h7 => ⟨v, ?_, rfl⟩), hz.lo (by omega)⟩
          · rw [if_neg (by omega)] at hv; exact hv
          · rw [if_pos (by omega)] at hv; exact hv
        · cases hr
    | none =>
      rw [eo] at hr
      simp only at hr
      split at hr
      · cases eq : swQ B l p with
        | inr y => rw [eq] at hr; cases hr
        | inl r =>
          obtain ⟨b, v, q5⟩ := r
          have hs := swQ_in hp eq
          have hs2 := swQ_gt hp h0 eq
          rw [eq] at hr
          simp only at hr
          split at hr
          · have hq := Sum.inl.inj hr
            simp only [Prod.mk.injEq] at hq
            obtain ⟨q1, q2, q3⟩ := hq
            subst q1
            subst q2
            subst q3
            have p5 := enn_l (B := B) hs.2.1
            have g5 := enn_ge (B := B) hs.2.1
            exact ⟨by omega, p5, W.lo (by omega) (by omega) (by omega) (fun _ h7 => absurd h7 (by omega)) (fun h7 => absurd h7 (by omega)), hz.lo (by omega)⟩
          · cases hr
      · cases hr
theorem c_item {n : Nat} {i : Int32} {S : Row} {l3 l4 : ma_V} (W : WF S n) (hB : byC a B l) (hl : l ≤ 200) (hp : p ≤ l) (h : cS f B l p (-1)) (hT : isT 9 f a S n 0) :
    (∀ S' n' q, itR B l p S n = Sum.inl (S', n', q) → ∃ f' a' m3 m4, rn xs L 15 37 [vR 25, vR 9, vI i, l3, l4] [] (mw f a g) = rn xs L 15 16 [vR 25, vR 9, vI (i + 1), vI m3, vI m4] [] (mw f' a' g) ∧ cS f' B l q (-1) ∧ isT 9 f' a' S' n' 0 ∧ frI f a f' a') ∧
    (∀ x, itR B l p S n = Sum.inr x → ∃ f' a' m3 m4, rn xs L 15 37 [vR 25, vR 9, vI i, l3, l4] [] (mw f a g) = rn xs L 15 16 [vR 25, vR 9, vI (i + 1), vI m3, vI m4] [] (mw f' a' g) ∧ cF f' B l x ∧ frI f a f' a') := by
  have h' : cX f l (sgm B l p) (stt B l p) (enn B l p) (-1) := h
  have s0 : rn xs L 15 37 [vR 25, vR 9, vI i, l3, l4] [] (mw f a g) = if encO (lOf B l p) < 0 then rn xs L 15 61 [vR 25, vR 9, vI i, vI (encO (lOf B l p)), vI (encO (kOf B l p))] [] (mw f a g) else rn xs L 15 52 [vR 25, vR 9, vI i, vI (encO (lOf B l p)), vI (encO (kOf B l p))] [] (mw f a g) := by
    rw [b15_37 _ _ _ _ tr9, c_lawNamed hB hl hp h]
    simp only [Option.bind_some, Option.toList_some, List.cons_append, List.nil_append]
    rw [b15_41 _ _ _ _ _ tr9, c_kindNamed hB hl hp h]
    simp only [Option.bind_some, Option.toList_some, List.cons_append, List.nil_append]
    rw [b15_46 _ _ _ _ _ tr9]
  have sf : rn xs L 15 102 [vR 25, vR 9, vI i, vI (encO (lOf B l p)), vI (encO (kOf B l p))] [] (mw f a g) = rn xs L 15 16 [vR 25, vR 9, vI (i + 1), vI (encO (lOf B l p)), vI (encO (kOf B l p))] [] (mw (ma_u2 f 25 5 (nI (stt B l p))) a g) := by
    rw [b15_102 _ _ _ _ tr9, h'.st]
  have sF : cF (ma_u2 f 25 5 (nI (stt B l p))) B l p := cF.of h'
  have ss : nmB B l p (wrd 10) = false → lOf B l p = none → rn xs L 15 37 [vR 25, vR 9, vI i, l3, l4] [] (mw f a g) = if encO (kOf B l p) < 0 then rn xs L 15 102 [vR 25, vR 9, vI i, vI (encO (lOf B l p)), vI (encO (kOf B l p))] [] (mw f a g) else rn xs L 15 83 [vR 25, vR 9, vI i, vI (encO (lOf B l p)), vI (encO (kOf B l p))] [] (mw f a g) := by
    intro hs ho
    rw [s0, ho, if_pos (by decide), b15_61 _ _ _ _ tr9, c_isName (i := 10) (k := 23) (by decide) rfl hB hl hp h, hs]
    simp only [Option.bind_some, Option.toList_some, List.cons_append, List.nil_append]
    rw [b15_67 _ _ _ _ _ tr9, if_pos (show bI false = 0 from rfl), b15_78 _ _ _ _ tr9]
  unfold itR
  cases ek : kOf B l p with
  | some k =>
    have hk := (kOf_at ek).1
    have hs := k_s ek
    have ho : lOf B l p = none := by
      cases eo : lOf B l p with
      | none => rfl
      | some j =>
        have := (l_k eo).1
        rw [ek] at this
        cases this
    have s1 : rn xs L 15 37 [vR 25, vR 9, vI i, l3, l4] [] (mw f a g) = if nI n < 8 then rn xs L 15 92 [vR 25, vR 9, vI i, vI (encO (lOf B l p)), vI (nI k)] [] (mw f a g) else rn xs L 15 102 [vR 25, vR 9, vI i, vI (encO (lOf B l p)), vI (encO (kOf B l p))] [] (mw f a g) := by
      rw [ss hs ho, ek, show encO (some k) = nI k from rfl, if_neg (nI_pos (by omega)), b15_83 _ _ _ _ tr9, hT.L.cnt]
    simp only
    by_cases hn : n < 8
    · rw [if_pos (by rw [show (8 : Int32) = nI 8 from rfl, nn_lt (by omega) (by omega)]; exact hn), b15_92 _ _ _ _ tr9] at s1
      obtain ⟨c1, c2⟩ := c_readLeaf (xs := xs) (L := L) (g := g) (k := k) hn hB hl hp h hT
      rw [if_pos hn]
      cases eq : lfR B l p with
      | inr y =>
        obtain ⟨f1, e1, h1, r1⟩ := c2 y eq
        refine ⟨fun S' n' q hr => (by cases hr), fun x hr => ?_⟩
        have := Sum.inr.inj hr
        subst this
        refine ⟨f1, a, encO (lOf B l p), nI k, ?_, h1, r1.I⟩
        rw [s1, e1]
        simp only [Option.bind_some, Option.toList_none, List.nil_append]
        rw [b15_99 _ _ _ _ tr9]
      | inl r =>
        obtain ⟨b, hh, s, q5⟩ := r
        obtain ⟨f1, a1, e1, h1, hT1, r1⟩ := c1 b hh s q5 eq
        refine ⟨fun S' n' q hr => ?_, fun x hr => (by cases hr)⟩
        have hq := Sum.inl.inj hr
        simp only [Prod.mk.injEq] at hq
        obtain ⟨q1, q2, q3⟩ := hq
        subst q1
        subst q2
        subst q3
        refine ⟨f1, a1, encO (lOf B l p), nI k, ?_, h1, hT1, r1⟩
        rw [s1, e1]
        simp only [Option.bind_some, Option.toList_none, List.nil_append]
        rw [b15_99 _ _ _ _ tr9]
    · have n8 := W.n8
      rw [if_neg (by rw [show (8 : Int32) = nI 8 from rfl, nn_lt (by omega) (by omega)]; exact hn), sf] at s1
      rw [if_neg hn]
      refine ⟨fun S' n' q hr => (by cases hr), fun x hr => ?_⟩
      have := Sum.inr.inj hr
      subst this
      exact ⟨ma_u2 f 25 5 (nI (stt B l p)), a, encO (lOf B l p), encO (kOf B l p), s1, sF, frT.u.I⟩
  | none =>
    simp only
    cases eo : lOf B l p with
    | some k =>
      have hk := (lOf_at eo).1
      have s1 : rn xs L 15 37 [vR 25, vR 9, vI i, l3, l4] [] (mw f a g) = (ev xs L 22 4 [vR 25, vR 9, vI (nI k)] (mw f a g)).bind (fun c => rn xs L 15 58 [vR 25, vR 9, vI i, vI (nI k), vI (encO (kOf B l p))] (c.1.toList ++ []) c.2) := by
        rw [s0, eo, show encO (some k) = nI k from rfl, if_neg (nI_pos (by omega)), b15_52 _ _ _ _ tr9]
      obtain ⟨c1, c2, c3⟩ := c_readLaw (xs := xs) (L := L) (g := g) hk hB hl hp h
      simp only
      cases en : numO B l (enn B l p) (mxL k) with
      | none =>
        obtain ⟨f1, e1, h1, r1⟩ := c2 en
        refine ⟨fun S' n' q hr => (by cases hr), fun x hr => ?_⟩
        have := Sum.inr.inj hr
        subst this
        refine ⟨f1, a, nI k, encO (kOf B l p), ?_, h1, r1.I⟩
        rw [s1, e1]
        simp only [Option.bind_some, Option.toList_none, List.nil_append]
        rw [b15_58 _ _ _ _ tr9]
      | some v =>
        simp only
        cases em : semB B l (enn B l (enn B l p)) with
        | false =>
          obtain ⟨f1, e1, h1, r1⟩ := c3 v en em
          refine ⟨fun S' n' q hr => (by rw [if_neg (by decide)] at hr; cases hr), fun x hr => ?_⟩
          rw [if_neg (by decide)] at hr
          have := Sum.inr.inj hr
          subst this
          refine ⟨f1, a, nI k, encO (kOf B l p), ?_, h1, r1.I⟩
          rw [s1, e1]
          simp only [Option.bind_some, Option.toList_none, List.nil_append]
          rw [b15_58 _ _ _ _ tr9]
        | true =>
          obtain ⟨f1, e1, h1, r1⟩ := c1 v en em
          refine ⟨fun S' n' q hr => ?_, fun x hr => (by rw [if_pos rfl] at hr; cases hr)⟩
          rw [if_pos rfl] at hr
          have hq := Sum.inl.inj hr
          simp only [Prod.mk.injEq] at hq
          obtain ⟨q1, q2, q3⟩ := hq
          subst q1
          subst q2
          subst q3
          have hT1 : isT 9 f1 a S n 0 := hT.keep (fun q q1 q2 => ⟨r1 q (by omega), rfl⟩)
          refine ⟨f1, ma_u2 a 10 k (nI v), nI k, encO (kOf B l p), ?_, h1, c_setLaw hT1 hk, ⟨fun q _ q2 => r1 q q2, fun q q1 => u2_ne (by unfold oT at q1; omega)⟩⟩
          rw [s1, e1]
          simp only [Option.bind_some, Option.toList_none, List.nil_append]
          rw [b15_58 _ _ _ _ tr9]
    | none =>
      simp only
      cases es : nmB B l p (wrd 10) with
      | false =>
        have s1 := ss es eo
        rw [ek, show encO none = -1 from rfl, if_pos (by decide)] at s1
        rw [ek, show encO none = -1 from rfl] at sf
        rw [sf] at s1
        rw [if_neg (by decide)]
        refine ⟨fun S' n' q hr => (by cases hr), fun x hr => ?_⟩
        have := Sum.inr.inj hr
        subst this
        exact ⟨ma_u2 f 25 5 (nI (stt B l p)), a, encO (lOf B l p), -1, s1, sF, frT.u.I⟩
      | true =>
        have s1 : rn xs L 15 37 [vR 25, vR 9, vI i, l3, l4] [] (mw f a g) = (ev xs L 26 4 [vR 25, vR 9] (mw f a g)).bind (fun c => rn xs L 15 75 [vR 25, vR 9, vI i, vI (encO (lOf B l p)), vI (encO (kOf B l p))] (c.1.toList ++ []) c.2) := by
          rw [s0, eo, if_pos (by decide), b15_61 _ _ _ _ tr9, c_isName (i := 10) (k := 23) (by decide) rfl hB hl hp h, es]
          simp only [Option.bind_some, Option.toList_some, List.cons_append, List.nil_append]
          rw [b15_67 _ _ _ _ _ tr9, if_neg (by decide), b15_70 _ _ _ _ tr9]
        obtain ⟨c1, c2⟩ := c_readSway (xs := xs) (L := L) (g := g) hB hl hp h
        rw [if_pos rfl]
        unfold swQ
        cases e1 : numO B l (enn B l p) 5 with
        | none =>
          obtain ⟨f1, e1', h1, r1⟩ := c1 e1
          refine ⟨fun S' n' q hr => (by cases hr), fun x hr => ?_⟩
          have := Sum.inr.inj hr
          subst this
          refine ⟨f1, a, encO (lOf B l p), encO (kOf B l p), ?_, h1, r1.I⟩
          rw [s1, e1']
          simp only [Option.bind_some, Option.toList_none, List.nil_append]
          rw [b15_75 _ _ _ _ tr9]
        | some b =>
          obtain ⟨d1, d2⟩ := c2 b e1
          have hb := (numO_le e1).1
          simp only
          cases e2 : nmB B l (enn B l (enn B l p)) (wrd 11) with
          | false =>
            obtain ⟨f1, e1', h1, r1⟩ := d1 e2
            rw [if_neg (show ¬ (false = true) by decide)]
            refine ⟨fun S' n' q hr => (by cases hr), fun x hr => ?_⟩
            have := Sum.inr.inj hr
            subst this
            refine ⟨f1, a, encO (lOf B l p), encO (kOf B l p), ?_, h1, r1.I⟩
            rw [s1, e1']
            simp only [Option.bind_some, Option.toList_none, List.nil_append]
            rw [b15_75 _ _ _ _ tr9]
          | true =>
            obtain ⟨d3, d4⟩ := d2 e2
            rw [if_pos rfl]
            cases e3 : numO B l (enn B l (enn B l (enn B l p))) 9 with
            | none =>
              obtain ⟨f1, e1', h1, r1⟩ := d3 e3
              refine ⟨fun S' n' q hr => (by cases hr), fun x hr => ?_⟩
              have := Sum.inr.inj hr
              subst this
              refine ⟨f1, a, encO (lOf B l p), encO (kOf B l p), ?_, h1, r1.I⟩
              rw [s1, e1']
              simp only [Option.bind_some, Option.toList_none, List.nil_append]
              rw [b15_75 _ _ _ _ tr9]
            | some v =>
              obtain ⟨d5, d6⟩ := d4 v e3
              simp only
              cases em : semB B l (enn B l (enn B l (enn B l (enn B l p)))) with
              | false =>
                obtain ⟨f1, e1', h1, r1⟩ := d5 em
                refine ⟨fun S' n' q hr => (by rw [if_neg (by decide)] at hr; cases hr), fun x hr => ?_⟩
                rw [if_neg (by decide)] at hr
                have := Sum.inr.inj hr
                subst this
                refine ⟨f1, a, encO (lOf B l p), encO (kOf B l p), ?_, h1, r1.I⟩
                rw [s1, e1']
                simp only [Option.bind_some, Option.toList_none, List.nil_append]
                rw [b15_75 _ _ _ _ tr9]
              | true =>
                obtain ⟨f1, e1', h1, r1⟩ := d6 em
                refine ⟨fun S' n' q hr => ?_, fun x hr => (by rw [if_pos rfl] at hr; cases hr)⟩
                rw [if_pos rfl] at hr
                have hq := Sum.inl.inj hr
                simp only [Prod.mk.injEq] at hq
                obtain ⟨q1, q2, q3⟩ := hq
                subst q1
                subst q2
                subst q3
                have hT1 : isT 9 f1 a S n 0 := hT.keep (fun q q1 q2 => ⟨r1 q (by omega), rfl⟩)
                refine ⟨f1, ma_u2 a 11 b (nI v), encO (lOf B l p), encO (kOf B l p), ?_, h1, c_setSway hT1 (by omega), ⟨fun q _ q2 => r1 q q2, fun q q1 => u2_ne (by unfold oT at q1; omega)⟩⟩
                rw [s1, e1']
                simp only [Option.bind_some, Option.toList_none, List.nil_append]
                rw [b15_75 _ _ _ _ tr9]
end S96
