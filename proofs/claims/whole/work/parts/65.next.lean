/-! ===== next ===== -/
/-- who falls first within r days -/
def nx (S : Row) (n : Nat) : Nat → Option Nat
  | 0 => none
  | r + 1 => match whoS S n 0 with
    | some b => some b
    | none => nx (passS S n 0) n r
theorem nx_lt {n b : Nat} : ∀ (r : Nat) (S : Row), nx S n r = some b → b < n
  | 0, S, h => by cases h
  | r + 1, S, h => by
    unfold nx at h
    cases e : whoS S n 0 with
    | some c =>
      rw [e] at h
      have e2 := Option.some.inj h
      have := (bst_in n e).1
      omega
    | none =>
      rw [e] at h
      exact nx_lt r _ h
section S65
variable {xs : Nat → Int32} {L : Nat} {g : Nat → Nat → Int64} {S : Row} {n : Nat}
theorem c_next0 : ∀ (r i : Nat) (T : Row) (f a : Nat → Nat → Int32) (l : ma_V), i + r = 60 → WF T n → isT 9 f a T n 0 → ∃ f1 a1, rn xs L 80 13 [vR 0, vI (nI i), l] [] (mw f a g) = some (some (vI (match nx T n r with | none => -3 | some b => nI b)), mw f1 a1 g) ∧ same (oT 9) f a g f1 a1 g
  | 0, i, T, f, a, l, hi, W, hT => by
    refine ⟨f, a, ?_, same.refl⟩
    have e : i = 60 := by omega
    subst e
    rw [b80_13, if_neg (by decide), b80_39]
    rfl
  | r + 1, i, T, f, a, l, hi, W, hT => by
    have h8 := W.n8
    have hlt : nI i < (60 : Int32) := by
      rw [show (60 : Int32) = nI 60 from rfl, nn_lt (by omega) (by omega)]
      omega
    obtain ⟨f1, a1, e1, hT1, hs1⟩ := c_passDay (xs := xs) (L := L) (g := g) tr9 W hT
    rw [b80_13, if_pos hlt, b80_19, e1]
    simp only [Option.bind_some, Option.toList_some, List.cons_append, List.nil_append]
    rw [b80_26]
    cases e : whoS T n 0 with
    | some b =>
      have hb := (bst_in n e).1
      refine ⟨f1, a1, ?_, hs1⟩
      have hn : nx T n (r + 1) = some b := by rw [nx, e]
      rw [show encO (some b) = nI b from rfl, if_neg (nI_pos (by omega)), b80_31, hn]
    | none =>
      obtain ⟨f2, a2, e2, hs2⟩ := c_next0 r (i + 1) _ f1 a1 (vI (-1)) (by omega) W.pass hT1
      refine ⟨f2, a2, ?_, hs1.trans hs2⟩
      have hn : nx T n (r + 1) = nx (passS T n 0) n r := by rw [nx, e]
      rw [show encO none = -1 from rfl, if_pos (by decide), b80_33, nn_add1, hn]
      exact e2
end S65
section S65b
variable {xs : Nat → Int32} {L : Nat} {g : Nat → Nat → Int64} {S : Row} {n : Nat}
theorem m_next0 : ∀ (r i : Nat) (T : Row) (f a : Nat → Nat → Int32), i + r = 60 → WF T n → isM a 45 T → ∃ a1 l1, rn xs L 174 15 [vR 44, vI (-1), vI (nI i)] [] (mw f a g) = rn xs L 174 37 [vR 44, vI (encO (nx T n r)), vI l1] [] (mw f a1 g) ∧ (∀ q, q ≠ 45 → q ≠ 50 → a1 q = a q)
  | 0, i, T, f, a, hi, W, hM => by
    refine ⟨a, nI i, ?_, fun _ _ _ => rfl⟩
    have e : i = 60 := by omega
    subst e
    rw [b174_15, if_neg (by decide)]
    rfl
  | r + 1, i, T, f, a, hi, W, hM => by
    have h8 := W.n8
    have hlt : nI i < (60 : Int32) := by
      rw [show (60 : Int32) = nI 60 from rfl, nn_lt (by omega) (by omega)]
      omega
    obtain ⟨a1, e1, hM1, ha1⟩ := m_goesBy (xs := xs) (L := L) (f := f) (g := g) (ti := 0) hM W
    rw [b174_15, if_pos hlt, b174_21, if_pos (by decide), b174_25, e1]
    simp only [Option.bind_some, Option.toList_some, List.cons_append, List.nil_append]
    rw [b174_30, nn_add1]
    cases e : whoS T n 0 with
    | some b =>
      have hb := (bst_in n e).1
      refine ⟨a1, nI (i + 1), ?_, ha1⟩
      have hn : nx T n (r + 1) = some b := by rw [nx, e]
      rw [hn, show encO (some b) = nI b from rfl, b174_15]
      by_cases h2 : nI (i + 1) < (60 : Int32)
      · rw [if_pos h2, b174_21, if_neg (nI_pos (by omega))]
      · rw [if_neg h2]
    | none =>
      obtain ⟨a2, l2, e2, ha2⟩ := m_next0 r (i + 1) _ f a1 (by omega) W.pass hM1
      have hn : nx T n (r + 1) = nx (passS T n 0) n r := by rw [nx, e]
      rw [hn]
      exact ⟨a2, l2, e2, fun q h1 h2 => (ha2 q h1 h2).trans (ha1 q h1 h2)⟩
end S65b
