/-! ===== bare ===== -/
theorem bs_ct0 {p : Nat → Bool} : ∀ n, (bs p n = 0) ↔ ct p n = 0
  | 0 => Iff.rfl
  | n + 1 => by
    have ih := bs_ct0 (p := p) n
    have h2 : 0 < 2 ^ n := Nat.pow_pos (by decide)
    show bs p n + (if p n then 2 ^ n else 0) = 0 ↔ ct p n + (if p n then 1 else 0) = 0
    cases p n with
    | true =>
      rw [if_pos rfl, if_pos rfl]
      omega
    | false =>
      rw [if_neg (by decide), if_neg (by decide)]
      exact ih
def br (S : Row) (n : Nat) : Nat → Nat
  | 0 => 0
  | r + 1 => if ct (hg S) n = 0 then 0 else br (passS S n 0) n r + 1
theorem br_le {n : Nat} : ∀ (r : Nat) (S : Row), br S n r ≤ r
  | 0, _ => Nat.le_refl 0
  | r + 1, S => by
    unfold br
    have := br_le (n := n) r (passS S n 0)
    split <;> omega
theorem cnt0 {S : Row} {n : Nat} (W : WF S n) : (cntH S n = 0) ↔ ct (hg S) n = 0 := by
  have h8 := W.n8
  have := ct_le (p := hg S) n
  unfold cntH
  rw [show (0 : Int32) = nI 0 from rfl, nn_eq (by omega) (by decide)]
theorem set0 {S : Row} {n : Nat} (W : WF S n) : (setOf (hg S) n = 0) ↔ ct (hg S) n = 0 := by
  have := bs_lt8 (p := hg S) W.n8
  unfold setOf
  rw [show (0 : Int32) = nI 0 from rfl, nn_eq (by omega) (by decide)]
  exact bs_ct0 n
section S64
variable {xs : Nat → Int32} {L : Nat} {g : Nat → Nat → Int64} {S : Row} {n : Nat}
theorem c_bare0 : ∀ (r i : Nat) (T : Row) (f a : Nat → Nat → Int32), i + r = 61 → WF T n → isT 9 f a T n 0 → ∃ f1 a1, rn xs L 79 13 [vR 0, vI (nI i)] [] (mw f a g) = some (some (vI (if i + br T n r = 61 then -3 else nI (i + br T n r))), mw f1 a1 g) ∧ same (oT 9) f a g f1 a1 g
  | 0, i, T, f, a, hi, W, hT => by
    refine ⟨f, a, ?_, same.refl⟩
    have e : i = 61 := by omega
    subst e
    rw [b79_13, if_pos (by decide), b79_45]
    rfl
  | r + 1, i, T, f, a, hi, W, hT => by
    have hlt : ¬ (60 : Int32) < nI i := by
      rw [show (60 : Int32) = nI 60 from rfl, nn_lt (by omega) (by omega)]
      omega
    rw [b79_13, if_neg hlt, b79_19, c_hanging tr9 W hT]
    simp only [Option.bind_some, Option.toList_some, List.cons_append, List.nil_append]
    rw [b79_26]
    by_cases h : ct (hg T) n = 0
    · refine ⟨f, a, ?_, same.refl⟩
      have hf : br T n (r + 1) = 0 := by rw [br, if_pos h]
      rw [if_pos ((cnt0 W).mpr h), b79_29, hf, Nat.add_zero, if_neg (by omega)]
    · obtain ⟨f1, a1, e1, hT1, hs1⟩ := c_passDay (xs := xs) (L := L) (g := g) tr9 W hT
      obtain ⟨f2, a2, e2, hs2⟩ := c_bare0 r (i + 1) _ f1 a1 (by omega) W.pass hT1
      refine ⟨f2, a2, ?_, hs1.trans hs2⟩
      have hf : br T n (r + 1) = br (passS T n 0) n r + 1 := by rw [br, if_neg h]
      rw [show i + 1 + br (passS T n 0) n r = i + br T n (r + 1) by omega] at e2
      rw [if_neg (fun q => h ((cnt0 W).mp q)), b79_31, e1]
      simp only [Option.bind_some, Option.toList_some, List.cons_append, List.nil_append]
      rw [b79_38, nn_add1]
      exact e2
theorem m_bare0 : ∀ (r i : Nat) (T : Row) (f a : Nat → Nat → Int32) (l : ma_V), i + r = 61 → WF T n → isM a 45 T → ∃ a1 l1, rn xs L 173 13 [vR 44, vI (nI i), l] [] (mw f a g) = rn xs L 173 38 [vR 44, vI (nI (i + br T n r)), l1] [] (mw f a1 g) ∧ (∀ q, q ≠ 45 → q ≠ 50 → a1 q = a q)
  | 0, i, T, f, a, l, hi, W, hM => by
    refine ⟨a, l, ?_, fun _ _ _ => rfl⟩
    have e : i = 61 := by omega
    subst e
    rw [b173_13, if_pos (by decide)]
    rfl
  | r + 1, i, T, f, a, l, hi, W, hM => by
    have hlt : ¬ (60 : Int32) < nI i := by
      rw [show (60 : Int32) = nI 60 from rfl, nn_lt (by omega) (by omega)]
      omega
    rw [b173_13, if_neg hlt, b173_19, m_hanging hM W]
    simp only [Option.bind_some, Option.toList_some, List.cons_append, List.nil_append]
    rw [b173_23]
    by_cases h : ct (hg T) n = 0
    · refine ⟨a, l, ?_, fun _ _ _ => rfl⟩
      have hf : br T n (r + 1) = 0 := by rw [br, if_pos h]
      rw [if_pos ((set0 W).mpr h), hf, Nat.add_zero]
    · obtain ⟨a1, e1, hM1, ha1⟩ := m_goesBy (xs := xs) (L := L) (f := f) (g := g) (ti := 0) hM W
      obtain ⟨a2, l2, e2, ha2⟩ := m_bare0 r (i + 1) _ f a1 (vI (encO (whoS T n 0))) (by omega) W.pass hM1
      refine ⟨a2, l2, ?_, fun q h1 h2 => (ha2 q h1 h2).trans (ha1 q h1 h2)⟩
      have hf : br T n (r + 1) = br (passS T n 0) n r + 1 := by rw [br, if_neg h]
      rw [show i + 1 + br (passS T n 0) n r = i + br T n (r + 1) by omega] at e2
      rw [if_neg (fun q => h ((set0 W).mp q)), b173_26, e1]
      simp only [Option.bind_some, Option.toList_some, List.cons_append, List.nil_append]
      rw [b173_31, nn_add1]
      exact e2
end S64
theorem op_bare : TOP 79 2 173 3 [] := by
  intro xs L S n W
  have hle := br_le (n := n) 61 S
  refine ⟨vI (if br S n 61 = 61 then -3 else nI (br S n 61)), S, n, W, fun f a g hT => ?_, fun f a g hM => ?_⟩
  · obtain ⟨f1, a1, e1, hT1, hs1⟩ := c_become (xs := xs) (L := L) (g := g) tr9 tr1 (by decide) W hT
    obtain ⟨f2, a2, e2, hs2⟩ := c_bare0 (xs := xs) (L := L) (g := g) 61 0 S f1 a1 (by omega) W hT1
    refine ⟨f2, a2, ?_, hT.keep9 (hs1.trans hs2), same_tree9 (hs1.trans hs2)⟩
    rw [Nat.zero_add] at e2
    show rn xs L 79 0 [vR 0, vS 0] [] (mw f a g) = _
    rw [b79_0, e1]
    simp only [Option.bind_some, Option.toList_none, List.nil_append]
    rw [b79_11]
    exact e2
  · obtain ⟨a1, e1, hM1, ha1⟩ := m_copy (xs := xs) (L := L) (f := f) (g := g) rw45 rw47 (by decide) hM
    obtain ⟨a2, l2, e2, ha2⟩ := m_bare0 (xs := xs) (L := L) (g := g) 61 0 S f a1 (vS 0) (by omega) W (hM.of (ha1 45 (by decide)))
    obtain ⟨a3, e3, hM3, ha3⟩ := m_copy (xs := xs) (L := L) (f := f) (a := a2) (g := g) rw47 rw45 (by decide) (hM1.of (ha2 47 (by decide) (by decide)))
    refine ⟨a3, ?_, hM3, fun q h1 h2 _ h4 => (ha3 q h1).trans ((ha2 q h1 h4).trans (ha1 q h2))⟩
    rw [Nat.zero_add] at e2
    show rn xs L 173 0 [vR 44, vS 0, vS 0] [] (mw f a g) = _
    rw [b173_0, e1]
    simp only [Option.bind_some, Option.toList_none, List.nil_append]
    rw [b173_11, show vI (0 : Int32) = vI (nI 0) from rfl, e2, b173_38, e3]
    simp only [Option.bind_some, Option.toList_none, List.nil_append]
    rw [b173_49]
    have h60 : ((60 : Int32) < nI (br S n 61)) ↔ br S n 61 = 61 := by
      rw [show (60 : Int32) = nI 60 from rfl, nn_lt (by decide) (by omega)]
      omega
    by_cases hx : br S n 61 = 61
    · rw [if_pos (h60.mpr hx), if_pos hx, b173_59]
    · rw [if_neg (fun q => hx (h60.mp q)), if_neg hx, b173_55]
