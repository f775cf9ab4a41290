/-! ===== boughFor, kindFor ===== -/
/-- with which v below m one falls last: (best, last) -/
def bst2 (key : Nat → Nat) : Nat → Int32 × Int32
  | 0 => (0, -1)
  | m + 1 => if (bst2 key m).2 < nI (key m) then (nI m, nI (key m)) else bst2 key m
def keyB (S : Row) (n o c v : Nat) : Nat := fb (up1 S (14 + 6 * o + c) (nI v)) n o 61
section S70
variable {xs : Nat → Int32} {L : Nat} {g : Nat → Nat → Int64} {S : Row} {n : Nat}
theorem c_boughFor0 {o : Nat} (W : WF S n) (ho : o < n) : ∀ (r v : Nat) (f a : Nat → Nat → Int32) (l5 : ma_V), v + r = 6 → isT 1 f a S n 0 → ∃ f1 a1, rn xs L 82 34 [vR 0, vI (nI o), vI (bst2 (keyB S n o 1) v).1, vI (bst2 (keyB S n o 1) v).2, vI (nI v), l5] [] (mw f a g) = some (some (vI (bst2 (keyB S n o 1) 6).1), mw f1 a1 g) ∧ same (oT 9) f a g f1 a1 g
  | 0, v, f, a, l5, hv, hT => by
    have e : v = 6 := by omega
    subst e
    refine ⟨f, a, ?_, same.refl⟩
    rw [b82_34, if_neg (by decide), b82_88]
  | r + 1, v, f, a, l5, hv, hT => by
    have h8 := W.n8
    have hin : ma_in (nI o) 8 = true := in_of (by omega) (by decide)
    have hn : (nI o).toNatClampNeg = o := nn_nat (by omega)
    have WS : WF (up1 S (14 + 6 * o + 1) (nI v)) n := W.hi (c := 1) (u := v) (by decide) (by show v ≤ 5; omega) rfl
    obtain ⟨f1, a1, e1, hT1, hs1⟩ := c_become (xs := xs) (L := L) (g := g) tr9 tr1 (by decide) W hT
    have hTs : isT 9 f1 (ma_u2 a1 13 o (nI v)) (up1 S (14 + 6 * o + 1) (nI v)) n 0 := c_setLf (c := 1) hT1 (by decide)
    have hsz : same (oT 9) f1 a1 g f1 (ma_u2 a1 13 o (nI v)) g := fun q hq => ⟨rfl, u2_ne (by unfold oT at hq; omega), rfl⟩
    obtain ⟨f2, a2, e2, hs2⟩ := c_toFall (xs := xs) (L := L) (g := g) ho WS hTs
    have hs := hs1.trans (hsz.trans hs2)
    obtain ⟨f3, a3, e3, hs3⟩ := c_boughFor0 W ho r (v + 1) f2 a2 (vI (nI (keyB S n o 1 v))) (by omega) (hT.keep9 hs)
    refine ⟨f3, a3, ?_, hs.trans hs3⟩
    rw [b82_34, if_pos (by rw [show (6 : Int32) = nI 6 from rfl, nn_lt (by omega) (by omega)]; omega), b82_41, e1]
    simp only [Option.bind_some, Option.toList_none, List.nil_append]
    rw [b82_52 _ _ _ _ _ hin, hn, e2]
    simp only [Option.bind_some, Option.toList_some, List.cons_append, List.nil_append]
    rw [b82_68, ← e3, show bst2 (keyB S n o 1) (v + 1) = if (bst2 (keyB S n o 1) v).2 < nI (keyB S n o 1 v) then (nI v, nI (keyB S n o 1 v)) else bst2 (keyB S n o 1) v from rfl]
    show (if (bst2 (keyB S n o 1) v).2 < nI (keyB S n o 1 v) then _ else _) = _
    by_cases hlt : (bst2 (keyB S n o 1) v).2 < nI (keyB S n o 1 v)
    · rw [if_pos hlt, if_pos hlt, b82_76, nn_add1]; rfl
    · rw [if_neg hlt, if_neg hlt, b82_82, nn_add1]; rfl
theorem c_kindFor0 {o : Nat} (W : WF S n) (ho : o < n) : ∀ (r v : Nat) (f a : Nat → Nat → Int32) (l5 : ma_V), v + r = 6 → isT 1 f a S n 0 → ∃ f1 a1, rn xs L 83 34 [vR 0, vI (nI o), vI (bst2 (keyB S n o 0) v).1, vI (bst2 (keyB S n o 0) v).2, vI (nI v), l5] [] (mw f a g) = some (some (vI (bst2 (keyB S n o 0) 6).1), mw f1 a1 g) ∧ same (oT 9) f a g f1 a1 g
  | 0, v, f, a, l5, hv, hT => by
    have e : v = 6 := by omega
    subst e
    refine ⟨f, a, ?_, same.refl⟩
    rw [b83_34, if_neg (by decide), b83_88]
  | r + 1, v, f, a, l5, hv, hT => by
    have h8 := W.n8
    have hin : ma_in (nI o) 8 = true := in_of (by omega) (by decide)
    have hn : (nI o).toNatClampNeg = o := nn_nat (by omega)
    have WS : WF (up1 S (14 + 6 * o + 0) (nI v)) n := W.hi (c := 0) (u := v) (by decide) (by show v ≤ 5; omega) rfl
    obtain ⟨f1, a1, e1, hT1, hs1⟩ := c_become (xs := xs) (L := L) (g := g) tr9 tr1 (by decide) W hT
    have hTs : isT 9 f1 (ma_u2 a1 12 o (nI v)) (up1 S (14 + 6 * o + 0) (nI v)) n 0 := c_setLf (c := 0) hT1 (by decide)
    have hsz : same (oT 9) f1 a1 g f1 (ma_u2 a1 12 o (nI v)) g := fun q hq => ⟨rfl, u2_ne (by unfold oT at hq; omega), rfl⟩
    obtain ⟨f2, a2, e2, hs2⟩ := c_toFall (xs := xs) (L := L) (g := g) ho WS hTs
    have hs := hs1.trans (hsz.trans hs2)
    obtain ⟨f3, a3, e3, hs3⟩ := c_kindFor0 W ho r (v + 1) f2 a2 (vI (nI (keyB S n o 0 v))) (by omega) (hT.keep9 hs)
    refine ⟨f3, a3, ?_, hs.trans hs3⟩
    rw [b83_34, if_pos (by rw [show (6 : Int32) = nI 6 from rfl, nn_lt (by omega) (by omega)]; omega), b83_41, e1]
    simp only [Option.bind_some, Option.toList_none, List.nil_append]
    rw [b83_52 _ _ _ _ _ hin, hn, e2]
    simp only [Option.bind_some, Option.toList_some, List.cons_append, List.nil_append]
    rw [b83_68, ← e3, show bst2 (keyB S n o 0) (v + 1) = if (bst2 (keyB S n o 0) v).2 < nI (keyB S n o 0 v) then (nI v, nI (keyB S n o 0 v)) else bst2 (keyB S n o 0) v from rfl]
    show (if (bst2 (keyB S n o 0) v).2 < nI (keyB S n o 0 v) then _ else _) = _
    by_cases hlt : (bst2 (keyB S n o 0) v).2 < nI (keyB S n o 0 v)
    · rw [if_pos hlt, if_pos hlt, b83_76, nn_add1]; rfl
    · rw [if_neg hlt, if_neg hlt, b83_82, nn_add1]; rfl
theorem up1_up1 {S : Row} {k : Nat} {u v : Int32} : up1 (up1 S k u) k v = up1 S k v := by
  funext j
  rw [up1_at, up1_at, up1_at]
  split <;> rfl
theorem isM.back {a : Nat → Nat → Int32} {k : Nat} {u : Int32} (h : isM a 45 (up1 S k u)) : isM (ma_u2 a 45 k (S k)) 45 S := by
  have h2 := h.up (k := k) (v := S k)
  rw [up1_up1] at h2
  exact h2.eq (fun j _ => up1_same)
theorem m_lastBy0 {o c : Nat} {was : Int32} (W : WF S n) (ho : o < n) (hc : c < 2) (hwas : was = S (14 + 6 * o + c)) : ∀ (r v : Nat) (f a : Nat → Nat → Int32) (l8 : ma_V) (u : Int32), v + r = 6 → isM a 45 (up1 S (14 + 6 * o + c) u) → ∃ a1, rn xs L 177 17 [vR 44, vI (nI o), vI (nI (14 + 6 * o + c)), vI 5, vI was, vI (bst2 (keyB S n o c) v).1, vI (bst2 (keyB S n o c) v).2, vI (nI v), l8] [] (mw f a g) = some (some (vI (bst2 (keyB S n o c) 6).1), mw f a1 g) ∧ isM a1 45 S ∧ (∀ q, q ≠ 45 → q ≠ 47 → q ≠ 50 → a1 q = a q)
  | 0, v, f, a, l8, u, hv, hM => by
    have h8 := W.n8
    have e : v = 6 := by omega
    subst e
    have hin : ma_in (nI (14 + 6 * o + c)) 62 = true := by rw [nn_in (by omega)]; simp; omega
    refine ⟨ma_u2 a 45 (14 + 6 * o + c) was, ?_, by rw [hwas]; exact hM.back, fun q h1 _ _ => u2_ne h1⟩
    rw [b177_17, if_pos (by decide), b177_76 _ _ _ _ _ _ _ _ hin, nn_nat (by omega)]
  | r + 1, v, f, a, l8, u, hv, hM => by
    have h8 := W.n8
    have hin : ma_in (nI (14 + 6 * o + c)) 62 = true := by rw [nn_in (by omega)]; simp; omega
    have WS : WF (up1 S (14 + 6 * o + c) (nI v)) n := W.hi (u := v) (by omega) (by unfold mxO; split <;> (try split) <;> omega) rfl
    have hMv : isM (ma_u2 a 45 (14 + 6 * o + c) (nI v)) 45 (up1 S (14 + 6 * o + c) (nI v)) := by
      have := hM.up (k := 14 + 6 * o + c) (v := nI v)
      rw [up1_up1] at this
      exact this
    obtain ⟨a1, e1, hM1, ha1⟩ := m_fallsBy (xs := xs) (L := L) (f := f) (g := g) (o := o) hMv WS ho
    obtain ⟨a2, e2, hM2, ha2⟩ := m_lastBy0 W ho hc hwas r (v + 1) f a1 (vI (nI (keyB S n o c v))) (nI v) (by omega) hM1
    refine ⟨a2, ?_, hM2, fun q h1 h2 h3 => by rw [ha2 q h1 h2 h3, ha1 q h1 h2 h3, u2_ne h1]⟩
    have hlt5 : ¬ (5 : Int32) < nI v := by rw [show (5 : Int32) = nI 5 from rfl, nn_lt (by omega) (by omega)]; omega
    rw [b177_17, if_neg hlt5, b177_23 _ _ _ _ _ _ _ _ hin, nn_nat (by omega), e1]
    simp only [Option.bind_some, Option.toList_some, List.cons_append, List.nil_append]
    rw [b177_36, ← e2, show bst2 (keyB S n o c) (v + 1) = if (bst2 (keyB S n o c) v).2 < nI (keyB S n o c v) then (nI v, nI (keyB S n o c v)) else bst2 (keyB S n o c) v from rfl]
    show (if (bst2 (keyB S n o c) v).2 < nI (keyB S n o c v) then _ else _) = _
    by_cases hlt : (bst2 (keyB S n o c) v).2 < nI (keyB S n o c v)
    · rw [if_pos hlt, if_pos hlt]
      show rn xs L 177 45 [vR 44, vI (nI o), vI (nI (14 + 6 * o + c)), vI 5, vI was, vI (bst2 (keyB S n o c) v).1, vI (bst2 (keyB S n o c) v).2, vI (nI v), vI (nI (keyB S n o c v))] [] (mw f a1 g) = _
      rw [b177_45, if_pos hlt, b177_61, nn_add1]
    · rw [if_neg hlt, if_neg hlt]
      show rn xs L 177 50 [vR 44, vI (nI o), vI (nI (14 + 6 * o + c)), vI 5, vI was, vI (bst2 (keyB S n o c) v).1, vI (bst2 (keyB S n o c) v).2, vI (nI v), vI (nI (keyB S n o c v))] [] (mw f a1 g) = _
      rw [b177_50, if_neg hlt, b177_66, nn_add1]
theorem m_lastBy {o c : Nat} {f a : Nat → Nat → Int32} (W : WF S n) (ho : o < n) (hc : c < 2) (hM : isM a 45 S) : ∃ a1, ev xs L 177 9 [vR 44, vI (nI o), vI (nI (14 + 6 * o + c)), vI 5] (mw f a g) = some (some (vI (bst2 (keyB S n o c) 6).1), mw f a1 g) ∧ isM a1 45 S ∧ (∀ q, q ≠ 45 → q ≠ 47 → q ≠ 50 → a1 q = a q) := by
  have h8 := W.n8
  have hin : ma_in (nI (14 + 6 * o + c)) 62 = true := by rw [nn_in (by omega)]; simp; omega
  have hM0 : isM a 45 (up1 S (14 + 6 * o + c) (S (14 + 6 * o + c))) := hM.eq (fun j _ => up1_same.symm)
  obtain ⟨a1, e1, hM1, ha1⟩ := m_lastBy0 (xs := xs) (L := L) (g := g) (was := S (14 + 6 * o + c)) W ho hc rfl 6 0 f a (vS 0) (S (14 + 6 * o + c)) (by omega) hM0
  refine ⟨a1, ?_, hM1, ha1⟩
  show rn xs L 177 0 [vR 44, vI (nI o), vI (nI (14 + 6 * o + c)), vI 5, vS 0, vS 0, vS 0, vS 0, vS 0] [] (mw f a g) = _
  rw [b177_0 _ _ _ _ _ _ _ _ hin, nn_nat (by omega), hM _ (by omega)]
  exact e1
end S70
theorem op_boughFor {leaf : Int32} : TOP 82 6 176 2 [vI leaf] := by
  intro xs L S n W
  have h8 := W.n8
  by_cases h : hasR n leaf = true
  · obtain ⟨o, ho, rfl⟩ := hasR_to h8 h
    by_cases hh : hg S o = true
    · refine ⟨vI (bst2 (keyB S n o 1) 6).1, S, n, W, fun f a g hT => ?_, fun f a g hM => ?_⟩
      · obtain ⟨f1, a1, e1, hs1⟩ := c_boughFor0 (xs := xs) (L := L) (g := g) W ho 6 0 f a (vS 0) (by omega) hT
        refine ⟨f1, a1, ?_, hT.keep9 hs1, same_tree9 hs1⟩
        show rn xs L 82 0 [vR 0, vI (nI o), vS 0, vS 0, vS 0, vS 0] [] (mw f a g) = _
        rw [b82_0, c_has tr1 hT.L, h]
        simp only [Option.bind_some, Option.toList_some, List.cons_append, List.nil_append]
        rw [b82_8, if_neg (by decide), b82_13, c_hangs tr1 W hT.L ho, hh]
        simp only [Option.bind_some, Option.toList_some, List.cons_append, List.nil_append]
        rw [b82_21, if_neg (by decide), b82_27]
        exact e1
      · obtain ⟨a1, e1, hM1, ha1⟩ := m_lastBy (xs := xs) (L := L) (f := f) (g := g) (c := 1) W ho (by decide) hM
        refine ⟨a1, ?_, hM1, fun q h1 h2 _ h4 => ha1 q h1 h2 h4⟩
        show rn xs L 176 0 [vR 44, vI (nI o)] [] (mw f a g) = _
        rw [b176_0, m_has hM W, h]
        simp only [Option.bind_some, Option.toList_some, List.cons_append, List.nil_append]
        rw [b176_5, if_neg (by decide), b176_10, m_its4 hM (by omega), hg41 hh]
        simp only [Option.bind_some, Option.toList_some, List.cons_append, List.nil_append]
        rw [b176_16, if_neg (by decide), b176_24, show (14 : Int32) + 6 * nI o + 1 = nI (14 + 6 * o + 1) from ixN (c := 1), e1]
        simp only [Option.bind_some, Option.toList_some, List.cons_append, List.nil_append]
        rw [b176_39]
    · have hf : hg S o = false := by simpa using hh
      refine ⟨vI (-3), S, n, W, fun f a g hT => ⟨f, a, ?_, hT, same.refl⟩, fun f a g hM => ⟨a, ?_, hM, fun _ _ _ _ _ => rfl⟩⟩
      · show rn xs L 82 0 [vR 0, vI (nI o), vS 0, vS 0, vS 0, vS 0] [] (mw f a g) = _
        simp [b82_0, b82_8, b82_11, b82_13, b82_21, b82_24, b82_27, b82_41, b82_52, b82_68, b82_76, b82_82, b82_88, c_has tr1 hT.L, h, bI, c_hangs tr1 W hT.L ho, hf]
      · show rn xs L 176 0 [vR 44, vI (nI o)] [] (mw f a g) = _
        simp [b176_0, b176_5, b176_8, b176_10, b176_16, b176_19, b176_24, b176_39, m_has hM W, h, bI, m_its4 hM (show o < 8 by omega), hg4 W ho hh]
  · refine ⟨vI (-1), S, n, W, fun f a g hT => ⟨f, a, ?_, hT, same.refl⟩, fun f a g hM => ⟨a, ?_, hM, fun _ _ _ _ _ => rfl⟩⟩
    · show rn xs L 82 0 [vR 0, vI leaf, vS 0, vS 0, vS 0, vS 0] [] (mw f a g) = _
      simp [b82_0, b82_8, b82_11, b82_13, b82_21, b82_24, b82_27, b82_41, b82_52, b82_68, b82_76, b82_82, b82_88, c_has tr1 hT.L, h, bI]
    · show rn xs L 176 0 [vR 44, vI leaf] [] (mw f a g) = _
      simp [b176_0, b176_5, b176_8, b176_10, b176_16, b176_19, b176_24, b176_39, m_has hM W, h, bI]
theorem op_kindFor {leaf : Int32} : TOP 83 6 178 2 [vI leaf] := by
  intro xs L S n W
  have h8 := W.n8
  by_cases h : hasR n leaf = true
  · obtain ⟨o, ho, rfl⟩ := hasR_to h8 h
    by_cases hh : hg S o = true
    · refine ⟨vI (bst2 (keyB S n o 0) 6).1, S, n, W, fun f a g hT => ?_, fun f a g hM => ?_⟩
      · obtain ⟨f1, a1, e1, hs1⟩ := c_kindFor0 (xs := xs) (L := L) (g := g) W ho 6 0 f a (vS 0) (by omega) hT
        refine ⟨f1, a1, ?_, hT.keep9 hs1, same_tree9 hs1⟩
        show rn xs L 83 0 [vR 0, vI (nI o), vS 0, vS 0, vS 0, vS 0] [] (mw f a g) = _
        rw [b83_0, c_has tr1 hT.L, h]
        simp only [Option.bind_some, Option.toList_some, List.cons_append, List.nil_append]
        rw [b83_8, if_neg (by decide), b83_13, c_hangs tr1 W hT.L ho, hh]
        simp only [Option.bind_some, Option.toList_some, List.cons_append, List.nil_append]
        rw [b83_21, if_neg (by decide), b83_27]
        exact e1
      · obtain ⟨a1, e1, hM1, ha1⟩ := m_lastBy (xs := xs) (L := L) (f := f) (g := g) (c := 0) W ho (by decide) hM
        refine ⟨a1, ?_, hM1, fun q h1 h2 _ h4 => ha1 q h1 h2 h4⟩
        show rn xs L 178 0 [vR 44, vI (nI o)] [] (mw f a g) = _
        rw [b178_0, m_has hM W, h]
        simp only [Option.bind_some, Option.toList_some, List.cons_append, List.nil_append]
        rw [b178_5, if_neg (by decide), b178_10, m_its4 hM (by omega), hg41 hh]
        simp only [Option.bind_some, Option.toList_some, List.cons_append, List.nil_append]
        rw [b178_16, if_neg (by decide), b178_24, ix0, e1]
        simp only [Option.bind_some, Option.toList_some, List.cons_append, List.nil_append]
        rw [b178_37]
    · have hf : hg S o = false := by simpa using hh
      refine ⟨vI (-3), S, n, W, fun f a g hT => ⟨f, a, ?_, hT, same.refl⟩, fun f a g hM => ⟨a, ?_, hM, fun _ _ _ _ _ => rfl⟩⟩
      · show rn xs L 83 0 [vR 0, vI (nI o), vS 0, vS 0, vS 0, vS 0] [] (mw f a g) = _
        simp [b83_0, b83_8, b83_11, b83_13, b83_21, b83_24, b83_27, b83_41, b83_52, b83_68, b83_76, b83_82, b83_88, c_has tr1 hT.L, h, bI, c_hangs tr1 W hT.L ho, hf]
      · show rn xs L 178 0 [vR 44, vI (nI o)] [] (mw f a g) = _
        simp [b178_0, b178_5, b178_8, b178_10, b178_16, b178_19, b178_24, b178_37, m_has hM W, h, bI, m_its4 hM (show o < 8 by omega), hg4 W ho hh]
  · refine ⟨vI (-1), S, n, W, fun f a g hT => ⟨f, a, ?_, hT, same.refl⟩, fun f a g hM => ⟨a, ?_, hM, fun _ _ _ _ _ => rfl⟩⟩
    · show rn xs L 83 0 [vR 0, vI leaf, vS 0, vS 0, vS 0, vS 0] [] (mw f a g) = _
      simp [b83_0, b83_8, b83_11, b83_13, b83_21, b83_24, b83_27, b83_41, b83_52, b83_68, b83_76, b83_82, b83_88, c_has tr1 hT.L, h, bI]
    · show rn xs L 178 0 [vR 44, vI leaf] [] (mw f a g) = _
      simp [b178_0, b178_5, b178_8, b178_10, b178_16, b178_19, b178_24, b178_37, m_has hM W, h, bI]
