/-! ===== which word stands here: both sides ===== -/
def kw (j : Nat) : Nat := if j = 0 then 9 else j + 3
def kOf (B : Nat → Nat) (l p : Nat) : Option Nat := if nmB B l p (wrd 9) then some 0 else if nmB B l p (wrd 4) then some 1 else if nmB B l p (wrd 5) then some 2 else if nmB B l p (wrd 6) then some 3 else if nmB B l p (wrd 7) then some 4 else if nmB B l p (wrd 8) then some 5 else none
def lOf (B : Nat → Nat) (l p : Nat) : Option Nat := if nmB B l p (wrd 0) then some 0 else if nmB B l p (wrd 1) then some 1 else if nmB B l p (wrd 2) then some 2 else if nmB B l p (wrd 3) then some 3 else none
section S90
variable {xs : Nat → Int32} {L : Nat} {f a : Nat → Nat → Int32} {g : Nat → Nat → Int64} {B : Nat → Nat} {l p : Nat}
theorem kOf_at {k : Nat} (h : kOf B l p = some k) : k < 6 ∧ nmB B l p (wrd (kw k)) = true := by
  unfold kOf at h
  by_cases c0 : nmB B l p (wrd 9) = true
  · rw [if_pos c0] at h; have := Option.some.inj h; subst this; exact ⟨by decide, c0⟩
  rw [if_neg c0] at h
  by_cases c1 : nmB B l p (wrd 4) = true
  · rw [if_pos c1] at h; have := Option.some.inj h; subst this; exact ⟨by decide, c1⟩
  rw [if_neg c1] at h
  by_cases c2 : nmB B l p (wrd 5) = true
  · rw [if_pos c2] at h; have := Option.some.inj h; subst this; exact ⟨by decide, c2⟩
  rw [if_neg c2] at h
  by_cases c3 : nmB B l p (wrd 6) = true
  · rw [if_pos c3] at h; have := Option.some.inj h; subst this; exact ⟨by decide, c3⟩
  rw [if_neg c3] at h
  by_cases c4 : nmB B l p (wrd 7) = true
  · rw [if_pos c4] at h; have := Option.some.inj h; subst this; exact ⟨by decide, c4⟩
  rw [if_neg c4] at h
  by_cases c5 : nmB B l p (wrd 8) = true
  · rw [if_pos c5] at h; have := Option.some.inj h; subst this; exact ⟨by decide, c5⟩
  rw [if_neg c5] at h
  cases h
theorem lOf_at {k : Nat} (h : lOf B l p = some k) : k < 4 ∧ nmB B l p (wrd k) = true := by
  unfold lOf at h
  by_cases c0 : nmB B l p (wrd 0) = true
  · rw [if_pos c0] at h; have := Option.some.inj h; subst this; exact ⟨by decide, c0⟩
  rw [if_neg c0] at h
  by_cases c1 : nmB B l p (wrd 1) = true
  · rw [if_pos c1] at h; have := Option.some.inj h; subst this; exact ⟨by decide, c1⟩
  rw [if_neg c1] at h
  by_cases c2 : nmB B l p (wrd 2) = true
  · rw [if_pos c2] at h; have := Option.some.inj h; subst this; exact ⟨by decide, c2⟩
  rw [if_neg c2] at h
  by_cases c3 : nmB B l p (wrd 3) = true
  · rw [if_pos c3] at h; have := Option.some.inj h; subst this; exact ⟨by decide, c3⟩
  rw [if_neg c3] at h
  cases h
theorem wrd_ne : ∀ i, i < 15 → ∀ j, j < 15 → i ≠ j → wrd i ≠ wrd j := by decide
theorem l_k {k : Nat} (h : lOf B l p = some k) : kOf B l p = none ∧ nmB B l p (wrd 10) = false := by
  obtain ⟨hk, hn⟩ := lOf_at h
  constructor
  · cases e : kOf B l p with
    | none => rfl
    | some j =>
      obtain ⟨hj, hm⟩ := kOf_at e
      have hlt : kw j < 15 ∧ k ≠ kw j := by unfold kw; split <;> omega
      exact absurd (nmB_inj hn hm) (wrd_ne k (by omega) (kw j) hlt.1 hlt.2)
  · cases e : nmB B l p (wrd 10) with
    | false => rfl
    | true => exact absurd (nmB_inj hn e) (wrd_ne k (by omega) 10 (by decide) (by omega))
theorem k_s {k : Nat} (h : kOf B l p = some k) : nmB B l p (wrd 10) = false := by
  obtain ⟨hk, hn⟩ := kOf_at h
  cases e : nmB B l p (wrd 10) with
  | false => rfl
  | true =>
    have hlt : kw k < 15 ∧ kw k ≠ 10 := by unfold kw; split <;> omega
    exact absurd (nmB_inj hn e) (wrd_ne (kw k) hlt.1 10 (by decide) hlt.2)
theorem c_lawNamed {ft : Int32} (hB : byC a B l) (hl : l ≤ 200) (hp : p ≤ l) (h : cS f B l p ft) : ev xs L 18 1 [vR 25] (mw f a g) = some (some (vI (encO (lOf B l p))), mw f a g) := by
  have e := fun i k (hi : i < 15) (hk : k = 3 + 2 * i) => c_isName (xs := xs) (L := L) (g := g) hi hk hB hl hp h
  show rn xs L 18 0 [vR 25] [] (mw f a g) = _
  unfold lOf
  rw [b18_0, e 0 3 (by decide) rfl]
  simp only [Option.bind_some, Option.toList_some, List.cons_append, List.nil_append]
  rw [b18_6]
  cases c0 : nmB B l p (wrd 0) with
  | true => rw [if_neg (by decide), b18_9, if_pos rfl]; rfl
  | false =>
    rw [if_pos (by decide), b18_13, e 1 5 (by decide) rfl, if_neg (by decide)]
    simp only [Option.bind_some, Option.toList_some, List.cons_append, List.nil_append]
    rw [b18_19]
    cases c1 : nmB B l p (wrd 1) with
    | true => rw [if_neg (by decide), b18_22, if_pos rfl]; rfl
    | false =>
      rw [if_pos (by decide), b18_26, e 2 7 (by decide) rfl, if_neg (by decide)]
      simp only [Option.bind_some, Option.toList_some, List.cons_append, List.nil_append]
      rw [b18_32]
      cases c2 : nmB B l p (wrd 2) with
      | true => rw [if_neg (by decide), b18_35, if_pos rfl]; rfl
      | false =>
        rw [if_pos (by decide), b18_39, e 3 9 (by decide) rfl, if_neg (by decide)]
        simp only [Option.bind_some, Option.toList_some, List.cons_append, List.nil_append]
        rw [b18_45]
        cases c3 : nmB B l p (wrd 3) with
        | true => rw [if_neg (by decide), b18_48, if_pos rfl]; rfl
        | false => rw [if_pos (by decide), b18_52, if_neg (by decide)]; rfl
theorem e_kindName {j : Nat} (hj : j < 6) : ev xs L 21 1 [vI (nI j)] (mw f a g) = some (some (vS (3 + 2 * kw j)), mw f a g) := by
  show rn xs L 21 0 [vI (nI j)] [] (mw f a g) = _
  have : j = 0 ∨ j = 1 ∨ j = 2 ∨ j = 3 ∨ j = 4 ∨ j = 5 := by omega
  rcases this with rfl | rfl | rfl | rfl | rfl | rfl
  · rw [b21_0, if_neg (by decide), if_neg (by decide), if_neg (by decide), if_neg (by decide), if_neg (by decide), b21_51]; rfl
  · rw [b21_0, if_pos (by decide), b21_36]; rfl
  · rw [b21_0, if_neg (by decide), if_pos (by decide), b21_39]; rfl
  · rw [b21_0, if_neg (by decide), if_neg (by decide), if_pos (by decide), b21_42]; rfl
  · rw [b21_0, if_neg (by decide), if_neg (by decide), if_neg (by decide), if_pos (by decide), b21_45]; rfl
  · rw [b21_0, if_neg (by decide), if_neg (by decide), if_neg (by decide), if_neg (by decide), if_pos (by decide), b21_48]; rfl
theorem c_kind1 {j : Nat} {ft : Int32} (hj : j < 6) (hB : byC a B l) (hl : l ≤ 200) (hp : p ≤ l) (h : cS f B l p ft) : rn xs L 20 2 [vR 25, vI (nI j)] [] (mw f a g) = if nmB B l p (wrd (kw j)) then some (some (vI (nI j)), mw f a g) else rn xs L 20 2 [vR 25, vI (nI (j + 1))] [] (mw f a g) := by
  have hkw : kw j < 15 := by unfold kw; split <;> omega
  rw [b20_2, if_pos (by rw [show (6 : Int32) = nI 6 from rfl, nn_lt (by omega) (by omega)]; omega), b20_8, e_kindName hj]
  simp only [Option.bind_some, Option.toList_some, List.cons_append, List.nil_append]
  rw [b20_13, c_isName hkw rfl hB hl hp h]
  simp only [Option.bind_some, Option.toList_some, List.cons_append, List.nil_append]
  rw [b20_16]
  cases nmB B l p (wrd (kw j)) with
  | true => rw [if_neg (by decide), b20_19, if_pos rfl]
  | false => rw [if_pos (by decide), b20_21, nn_add1, if_neg (by decide)]
theorem c_kindNamed {ft : Int32} (hB : byC a B l) (hl : l ≤ 200) (hp : p ≤ l) (h : cS f B l p ft) : ev xs L 20 2 [vR 25] (mw f a g) = some (some (vI (encO (kOf B l p))), mw f a g) := by
  have e := fun j (hj : j < 6) => c_kind1 (xs := xs) (L := L) (g := g) hj hB hl hp h
  show rn xs L 20 0 [vR 25, vS 0] [] (mw f a g) = _
  rw [b20_0, show vI (0 : Int32) = vI (nI 0) from rfl, e 0 (by decide), e 1 (by decide), e 2 (by decide), e 3 (by decide), e 4 (by decide), e 5 (by decide), b20_2, if_neg (show ¬ nI (5 + 1) < (6 : Int32) by decide), b20_27]
  unfold kOf
  show (if nmB B l p (wrd 9) then _ else if nmB B l p (wrd 4) then _ else if nmB B l p (wrd 5) then _ else if nmB B l p (wrd 6) then _ else if nmB B l p (wrd 7) then _ else if nmB B l p (wrd 8) then _ else _) = _
  cases nmB B l p (wrd 9) with
  | true => rfl
  | false => cases nmB B l p (wrd 4) with
    | true => rfl
    | false => cases nmB B l p (wrd 5) with
      | true => rfl
      | false => cases nmB B l p (wrd 6) with
        | true => rfl
        | false => cases nmB B l p (wrd 7) with
          | true => rfl
          | false => cases nmB B l p (wrd 8) with
            | true => rfl
            | false => rfl
theorem nm6_eq {c0 c1 c2 c3 c4 c5 : Nat} : ((decide (sgm B l p = 1) && decide (enn B l p - stt B l p = 6) && (decide (B (stt B l p) = c0) && (decide (B (stt B l p + 1) = c1) && (decide (B (stt B l p + 2) = c2) && decide (B (enn B l p - 1) = c5))))) && (decide (B (stt B l p + 2) = c2) && (decide (B (stt B l p + 2 + 1) = c3) && decide (B (stt B l p + 2 + 2) = c4)))) = nmB B l p [c0, c1, c2, c3, c4, c5] := by
  show _ = (decide (sgm B l p = 1) && decide (enn B l p - stt B l p = 6) && (decide (B (stt B l p) = c0) && (decide (B (stt B l p + 1) = c1) && (decide (B (stt B l p + 2) = c2) && (decide (B (stt B l p + 3) = c3) && (decide (B (stt B l p + 4) = c4) && (decide (B (stt B l p + 5) = c5) && true)))))))
  rw [Bool.eq_iff_iff, Nat.add_assoc, Nat.add_assoc]
  simp only [Bool.and_eq_true, decide_eq_true_eq]
  by_cases z2 : enn B l p - stt B l p = 6
  · rw [show enn B l p - 1 = stt B l p + 5 by omega]
    constructor <;> (intro h; simp_all)
  · constructor <;> (intro h; omega)
theorem nm7_eq {c0 c1 c2 c3 c4 c5 c6 : Nat} : ((decide (sgm B l p = 1) && decide (enn B l p - stt B l p = 7) && (decide (B (stt B l p) = c0) && (decide (B (stt B l p + 1) = c1) && (decide (B (stt B l p + 2) = c2) && decide (B (enn B l p - 1) = c6))))) && (decide (B (stt B l p + 3) = c3) && (decide (B (stt B l p + 3 + 1) = c4) && decide (B (stt B l p + 3 + 2) = c5)))) = nmB B l p [c0, c1, c2, c3, c4, c5, c6] := by
  show _ = (decide (sgm B l p = 1) && decide (enn B l p - stt B l p = 7) && (decide (B (stt B l p) = c0) && (decide (B (stt B l p + 1) = c1) && (decide (B (stt B l p + 2) = c2) && (decide (B (stt B l p + 3) = c3) && (decide (B (stt B l p + 4) = c4) && (decide (B (stt B l p + 5) = c5) && (decide (B (stt B l p + 6) = c6) && true))))))))
  rw [Bool.eq_iff_iff, Nat.add_assoc, Nat.add_assoc]
  simp only [Bool.and_eq_true, decide_eq_true_eq]
  by_cases z2 : enn B l p - stt B l p = 7
  · rw [show enn B l p - 1 = stt B l p + 6 by omega]
    constructor <;> (intro h; simp_all)
  · constructor <;> (intro h; omega)
theorem nm9_eq {c0 c1 c2 c3 c4 c5 c6 c7 c8 : Nat} : ((decide (sgm B l p = 1) && decide (enn B l p - stt B l p = 9) && (decide (B (stt B l p) = c0) && (decide (B (stt B l p + 1) = c1) && (decide (B (stt B l p + 2) = c2) && decide (B (enn B l p - 1) = c8))))) && ((decide (B (stt B l p + 3) = c3) && (decide (B (stt B l p + 3 + 1) = c4) && decide (B (stt B l p + 3 + 2) = c5))) && (decide (B (stt B l p + 5) = c5) && (decide (B (stt B l p + 5 + 1) = c6) && decide (B (stt B l p + 5 + 2) = c7))))) = nmB B l p [c0, c1, c2, c3, c4, c5, c6, c7, c8] := by
  show _ = (decide (sgm B l p = 1) && decide (enn B l p - stt B l p = 9) && (decide (B (stt B l p) = c0) && (decide (B (stt B l p + 1) = c1) && (decide (B (stt B l p + 2) = c2) && (decide (B (stt B l p + 3) = c3) && (decide (B (stt B l p + 4) = c4) && (decide (B (stt B l p + 5) = c5) && (decide (B (stt B l p + 6) = c6) && (decide (B (stt B l p + 7) = c7) && (decide (B (stt B l p + 8) = c8) && true))))))))))
  rw [Bool.eq_iff_iff, Nat.add_assoc (stt B l p) 3 1, Nat.add_assoc (stt B l p) 3 2, Nat.add_assoc (stt B l p) 5 1, Nat.add_assoc (stt B l p) 5 2]
  simp only [Bool.and_eq_true, decide_eq_true_eq]
  by_cases z2 : enn B l p - stt B l p = 9
  · rw [show enn B l p - 1 = stt B l p + 8 by omega]
    constructor <;> (intro h; simp_all)
  · constructor <;> (intro h; omega)
theorem m_law {w : Int32} (hB : byM a B l) (hl : l ≤ 200) (hp : p ≤ l) (h : mS f B l p w) : ev xs L 127 1 [vR 44] (mw f a g) = some (some (vI (match lOf B l p with | none => -1 | some k => nI (4 + k))), mw f a g) := by
  have e0 := m_nm4 (xs := xs) (L := L) (g := g) (c1 := 119) (c2 := 105) (c3 := 110) (c4 := 100) hB hl hp h (by omega)
  have e1 := m_nm4 (xs := xs) (L := L) (g := g) (c1 := 99) (c2 := 111) (c3 := 108) (c4 := 100) hB hl hp h (by omega)
  have e2 := m_nm3 (xs := xs) (L := L) (g := g) (c1 := 119) (c2 := 101) (c3 := 116) hB hl hp h (by omega)
  have e3 := m_nm4 (xs := xs) (L := L) (g := g) (c1 := 103) (c2 := 97) (c3 := 108) (c4 := 101) hB hl hp h (by omega)
  have f0 : ev xs L 124 5 [vR 44, vI 119, vI 105, vI 110, vI 100] (mw f a g) = some (some (vI (bI (nmB B l p (wrd 0)))), mw f a g) := e0
  have f1 : ev xs L 124 5 [vR 44, vI 99, vI 111, vI 108, vI 100] (mw f a g) = some (some (vI (bI (nmB B l p (wrd 1)))), mw f a g) := e1
  have f2 : ev xs L 125 6 [vR 44, vI 3, vI 119, vI 101, vI 116, vI 116] (mw f a g) = some (some (vI (bI (nmB B l p (wrd 2)))), mw f a g) := e2
  have f3 : ev xs L 124 5 [vR 44, vI 103, vI 97, vI 108, vI 101] (mw f a g) = some (some (vI (bI (nmB B l p (wrd 3)))), mw f a g) := e3
  show rn xs L 127 0 [vR 44] [] (mw f a g) = _
  unfold lOf
  rw [b127_0, f0]
  simp only [Option.bind_some, Option.toList_some, List.cons_append, List.nil_append]
  rw [b127_12]
  cases c0 : nmB B l p (wrd 0) with
  | true => rw [if_neg (by decide), b127_15, if_pos rfl]; rfl
  | false =>
    rw [if_pos (by decide), b127_17, f1, if_neg (show ¬ (false = true) by decide)]
    simp only [Option.bind_some, Option.toList_some, List.cons_append, List.nil_append]
    rw [b127_29]
    cases c1 : nmB B l p (wrd 1) with
    | true => rw [if_neg (by decide), b127_32, if_pos rfl]; rfl
    | false =>
      rw [if_pos (by decide), b127_34, f2, if_neg (show ¬ (false = true) by decide)]
      simp only [Option.bind_some, Option.toList_some, List.cons_append, List.nil_append]
      rw [b127_47]
      cases c2 : nmB B l p (wrd 2) with
      | true => rw [if_neg (by decide), b127_50, if_pos rfl]; rfl
      | false =>
        rw [if_pos (by decide), b127_53, f3, if_neg (show ¬ (false = true) by decide)]
        simp only [Option.bind_some, Option.toList_some, List.cons_append, List.nil_append]
        rw [b127_65]
        cases c3 : nmB B l p (wrd 3) with
        | true => rw [if_neg (by decide), b127_68, if_pos rfl]; rfl
        | false => rw [if_pos (by decide), b127_73, if_neg (show ¬ (false = true) by decide)]
theorem m_kind {w : Int32} (hB : byM a B l) (hl : l ≤ 200) (hp : p ≤ l) (h : mS f B l p w) : ev xs L 123 1 [vR 44] (mw f a g) = some (some (vI (encO (kOf B l p))), mw f a g) := by
  have hst := stt_le (B := B) hp
  have hen := enn_le (B := B) hp
  have f9 : ev xs L 124 5 [vR 44, vI 108, vI 101, vI 97, vI 102] (mw f a g) = some (some (vI (bI (nmB B l p (wrd 9)))), mw f a g) := m_nm4 (c1 := 108) (c2 := 101) (c3 := 97) (c4 := 102) hB hl hp h (by omega)
  have f4 : ev xs L 125 6 [vR 44, vI 3, vI 114, vI 101, vI 100, vI 100] (mw f a g) = some (some (vI (bI (nmB B l p (wrd 4)))), mw f a g) := m_nm3 (c1 := 114) (c2 := 101) (c3 := 100) hB hl hp h (by omega)
  have f7 : ev xs L 124 5 [vR 44, vI 103, vI 111, vI 108, vI 100] (mw f a g) = some (some (vI (bI (nmB B l p (wrd 7)))), mw f a g) := m_nm4 (c1 := 103) (c2 := 111) (c3 := 108) (c4 := 100) hB hl hp h (by omega)
  have hwr : True := trivial
  -- yellow
  have y5 : rn xs L 123 35 [vR 44] [] (mw f a g) = if nmB B l p (wrd 5) then some (some (vI 2), mw f a g) else rn xs L 123 68 [vR 44] [] (mw f a g) := by
    have e := m_isName (xs := xs) (L := L) (g := g) (n := 6) (c1 := 121) (c2 := 101) (c3 := 108) (c4 := 119) hB hl hp h (by omega) (by omega)
    have e' : ev xs L 125 6 [vR 44, vI 6, vI 121, vI 101, vI 108, vI 119] (mw f a g) = _ := e
    have hq := nm6_eq (B := B) (l := l) (p := p) (c0 := 121) (c1 := 101) (c2 := 108) (c3 := 108) (c4 := 111) (c5 := 119)
    rw [show wrd 5 = [121, 101, 108, 108, 111, 119] from rfl, ← hq, b123_35, e']
    simp only [Option.bind_some, Option.toList_some, List.cons_append, List.nil_append]
    rw [b123_49]
    cases c : (decide (sgm B l p = 1) && decide (enn B l p - stt B l p = 6) && (decide (B (stt B l p) = 121) && (decide (B (stt B l p + 1) = 101) && (decide (B (stt B l p + 2) = 108) && decide (B (enn B l p - 1) = 119))))) with
    | false => rw [if_pos (by decide), Bool.false_and, if_neg (by decide)]
    | true =>
      have h6 : enn B l p - stt B l p = 6 := by
        simp only [Bool.and_eq_true, decide_eq_true_eq] at c
        exact c.1.2
      have s : ev xs L 126 5 [vR 44, vI 2, vI 108, vI 108, vI 111] (mw f a g) = _ := m_isSame (xs := xs) (L := L) (g := g) (i := 2) (c1 := 108) (c2 := 108) (c3 := 111) hB hl h (by omega) (by omega)
      rw [if_neg (by decide), b123_52, s, Bool.true_and]
      simp only [Option.bind_some, Option.toList_some, List.cons_append, List.nil_append]
      rw [b123_63]
      cases (decide (B (stt B l p + 2) = 108) && (decide (B (stt B l p + 2 + 1) = 108) && decide (B (stt B l p + 2 + 2) = 111))) with
      | true => rw [if_neg (by decide), b123_66, if_pos rfl]
      | false => rw [if_pos (by decide), if_neg (by decide)]
  have y6 : rn xs L 123 68 [vR 44] [] (mw f a g) = if nmB B l p (wrd 6) then some (some (vI 3), mw f a g) else rn xs L 123 101 [vR 44] [] (mw f a g) := by
    have e' : ev xs L 125 6 [vR 44, vI 7, vI 115, vI 99, vI 97, vI 116] (mw f a g) = _ := m_isName (xs := xs) (L := L) (g := g) (n := 7) (c1 := 115) (c2 := 99) (c3 := 97) (c4 := 116) hB hl hp h (by omega) (by omega)
    have hq := nm7_eq (B := B) (l := l) (p := p) (c0 := 115) (c1 := 99) (c2 := 97) (c3 := 114) (c4 := 108) (c5 := 101) (c6 := 116)
    rw [show wrd 6 = [115, 99, 97, 114, 108, 101, 116] from rfl, ← hq, b123_68, e']
    simp only [Option.bind_some, Option.toList_some, List.cons_append, List.nil_append]
    rw [b123_82]
    cases c : (decide (sgm B l p = 1) && decide (enn B l p - stt B l p = 7) && (decide (B (stt B l p) = 115) && (decide (B (stt B l p + 1) = 99) && (decide (B (stt B l p + 2) = 97) && decide (B (enn B l p - 1) = 116))))) with
    | false => rw [if_pos (by decide), Bool.false_and, if_neg (by decide)]
    | true =>
      have h6 : enn B l p - stt B l p = 7 := by
        simp only [Bool.and_eq_true, decide_eq_true_eq] at c
        exact c.1.2
      have s : ev xs L 126 5 [vR 44, vI 3, vI 114, vI 108, vI 101] (mw f a g) = _ := m_isSame (xs := xs) (L := L) (g := g) (i := 3) (c1 := 114) (c2 := 108) (c3 := 101) hB hl h (by omega) (by omega)
      rw [if_neg (by decide), b123_85, s, Bool.true_and]
      simp only [Option.bind_some, Option.toList_some, List.cons_append, List.nil_append]
      rw [b123_96]
      cases (decide (B (stt B l p + 3) = 114) && (decide (B (stt B l p + 3 + 1) = 108) && decide (B (stt B l p + 3 + 2) = 101))) with
      | true => rw [if_neg (by decide), b123_99, if_pos rfl]
      | false => rw [if_pos (by decide), if_neg (by decide)]
  have y8 : rn xs L 123 118 [vR 44] [] (mw f a g) = if nmB B l p (wrd 8) then some (some (vI 5), mw f a g) else some (some (vI (-1)), mw f a g) := by
    have e' : ev xs L 125 6 [vR 44, vI 9, vI 101, vI 118, vI 101, vI 110] (mw f a g) = _ := m_isName (xs := xs) (L := L) (g := g) (n := 9) (c1 := 101) (c2 := 118) (c3 := 101) (c4 := 110) hB hl hp h (by omega) (by omega)
    have hq := nm9_eq (B := B) (l := l) (p := p) (c0 := 101) (c1 := 118) (c2 := 101) (c3 := 114) (c4 := 103) (c5 := 114) (c6 := 101) (c7 := 101) (c8 := 110)
    rw [show wrd 8 = [101, 118, 101, 114, 103, 114, 101, 101, 110] from rfl, ← hq, b123_118, e']
    simp only [Option.bind_some, Option.toList_some, List.cons_append, List.nil_append]
    rw [b123_132]
    cases c : (decide (sgm B l p = 1) && decide (enn B l p - stt B l p = 9) && (decide (B (stt B l p) = 101) && (decide (B (stt B l p + 1) = 118) && (decide (B (stt B l p + 2) = 101) && decide (B (enn B l p - 1) = 110))))) with
    | false => rw [if_pos (by decide), Bool.false_and, if_neg (by decide), b123_167]
    | true =>
      have h6 : enn B l p - stt B l p = 9 := by
        simp only [Bool.and_eq_true, decide_eq_true_eq] at c
        exact c.1.2
      have s : ev xs L 126 5 [vR 44, vI 3, vI 114, vI 103, vI 114] (mw f a g) = _ := m_isSame (xs := xs) (L := L) (g := g) (i := 3) (c1 := 114) (c2 := 103) (c3 := 114) hB hl h (by omega) (by omega)
      have s2 : ev xs L 126 5 [vR 44, vI 5, vI 114, vI 101, vI 101] (mw f a g) = _ := m_isSame (xs := xs) (L := L) (g := g) (i := 5) (c1 := 114) (c2 := 101) (c3 := 101) hB hl h (by omega) (by omega)
      rw [if_neg (by decide), b123_135, s, Bool.true_and]
      simp only [Option.bind_some, Option.toList_some, List.cons_append, List.nil_append]
      rw [b123_146]
      cases (decide (B (stt B l p + 3) = 114) && (decide (B (stt B l p + 3 + 1) = 103) && decide (B (stt B l p + 3 + 2) = 114))) with
      | false => rw [if_pos (by decide), Bool.false_and, if_neg (by decide), b123_167]
      | true =>
        rw [if_neg (by decide), b123_149, s2, Bool.true_and]
        simp only [Option.bind_some, Option.toList_some, List.cons_append, List.nil_append]
        rw [b123_160]
        cases (decide (B (stt B l p + 5) = 114) && (decide (B (stt B l p + 5 + 1) = 101) && decide (B (stt B l p + 5 + 2) = 101))) with
        | true => rw [if_neg (by decide), b123_163, if_pos rfl]
        | false => rw [if_pos (by decide), b123_167, if_neg (by decide)]
  show rn xs L 123 0 [vR 44] [] (mw f a g) = _
  unfold kOf
  rw [b123_0, f9]
  simp only [Option.bind_some, Option.toList_some, List.cons_append, List.nil_append]
  rw [b123_12]
  cases c0 : nmB B l p (wrd 9) with
  | true => rw [if_neg (by decide), b123_15, if_pos rfl]; rfl
  | false =>
    rw [if_pos (by decide), b123_17, f4, if_neg (show ¬ (false = true) by decide)]
    simp only [Option.bind_some, Option.toList_some, List.cons_append, List.nil_append]
    rw [b123_30]
    cases c1 : nmB B l p (wrd 4) with
    | true => rw [if_neg (by decide), b123_33, if_pos rfl]; rfl
    | false =>
      rw [if_pos (by decide), y5, if_neg (show ¬ (false = true) by decide)]
      cases c2 : nmB B l p (wrd 5) with
      | true => rw [if_pos rfl, if_pos rfl]; rfl
      | false =>
        rw [if_neg (show ¬ (false = true) by decide), if_neg (show ¬ (false = true) by decide), y6]
        cases c3 : nmB B l p (wrd 6) with
        | true => rw [if_pos rfl, if_pos rfl]; rfl
        | false =>
          rw [if_neg (show ¬ (false = true) by decide), if_neg (show ¬ (false = true) by decide), b123_101, f7]
          simp only [Option.bind_some, Option.toList_some, List.cons_append, List.nil_append]
          rw [b123_113]
          cases c4 : nmB B l p (wrd 7) with
          | true => rw [if_neg (by decide), b123_116, if_pos rfl]; rfl
          | false =>
            rw [if_pos (by decide), y8, if_neg (show ¬ (false = true) by decide)]
            cases c5 : nmB B l p (wrd 8) with
            | true => rw [if_pos rfl, if_pos rfl]; rfl
            | false => rw [if_neg (show ¬ (false = true) by decide), if_neg (show ¬ (false = true) by decide)]; rfl
end S90
