/-! ===== state: rhymes, what is spelled ===== -/
def rhyS (S : Row) (n : Nat) : Nat → Int32
  | 0 => 0
  | m + 1 => if m = 0 then 0 else if sgnK S m n = sgnK S (m - 1) n then rhyS S n m + 1 else rhyS S n m
def speS (S : Row) (n : Nat) : Nat → Int32
  | 0 => 0
  | m + 1 => 10 * speS S n m + sgnK S m n
def fel0 (S : Row) (n : Nat) : Nat := n - ct (hg S) n
theorem WF.fel' {S : Row} {n : Nat} (W : WF S n) : S 3 = nI (fel0 S n) ∧ fel0 S n ≤ n := by
  obtain ⟨d, hd, he⟩ := W.fel
  unfold fel0
  exact ⟨by rw [hd, show n - ct (hg S) n = d by omega], by omega⟩
section S61
variable {xs : Nat → Int32} {L : Nat} {f a : Nat → Nat → Int32} {g : Nat → Nat → Int64} {S : Row} {n : Nat} {ti : Int32}
theorem c_sgn {t k : Nat} (ht : is_tr t) (W : WF S n) (hL : isL t f a S n) (hk : k < fel0 S n) : ev xs L 47 3 [vR t, vI (nI k)] (mw f a g) = some (some (vI (sgnK S k n)), mw f a g) := by
  have h8 := W.n8
  obtain ⟨o, ho, h⟩ := W.all k hk
  exact c_signOf ht W hL ho (by unfold fel0 at hk; omega) h
theorem c_rhymes {t : Nat} (ht : is_tr t) (W : WF S n) (hT : isT t f a S n ti) : ev xs L 50 3 [vR t] (mw f a g) = some (some (vI (rhyS S n (fel0 S n))), mw f a g) := by
  have h8 := W.n8
  obtain ⟨h3, hd⟩ := W.fel'
  have hf := hT.fel.trans h3
  have key : ∀ d j, j + 1 + d = fel0 S n → rn xs L 50 4 [vR t, vI (rhyS S n (j + 1)), vI (nI (j + 1))] [] (mw f a g) = some (some (vI (rhyS S n (fel0 S n))), mw f a g) := by
    intro d
    induction d with
    | zero =>
      intro j hj
      rw [b50_4 _ _ _ ht, hf, if_neg (by rw [nn_lt (by omega) (by omega)]; omega), b50_36 _ _ _ ht, show j + 1 = fel0 S n by omega]
    | succ d ih =>
      intro j hj
      have this := ih (j + 1) (by omega)
      rw [show rhyS S n (j + 1 + 1) = if sgnK S (j + 1) n = sgnK S j n then rhyS S n (j + 1) + 1 else rhyS S n (j + 1) from rfl] at this
      rw [b50_4 _ _ _ ht, hf, if_pos (by rw [nn_lt (by omega) (by omega)]; omega), b50_12 _ _ _ ht, c_sgn ht W hT.L (by omega)]
      simp only [Option.bind_some, Option.toList_some, List.cons_append, List.nil_append]
      rw [b50_17 _ _ _ _ ht, nI_pred, c_sgn ht W hT.L (by omega)]
      simp only [Option.bind_some, Option.toList_some, List.cons_append, List.nil_append]
      rw [b50_24 _ _ _ _ _ ht]
      by_cases h : sgnK S (j + 1) n = sgnK S j n
      · rw [if_pos h] at this
        rw [if_pos h, b50_27 _ _ _ ht, nn_add1]
        exact this
      · rw [if_neg h] at this
        rw [if_neg h, b50_30 _ _ _ ht, nn_add1]
        exact this
  refine (b50_0 _ _ _ ht).trans ?_
  by_cases h0 : fel0 S n = 0
  · rw [b50_4 _ _ _ ht, hf, h0, if_neg (by decide), b50_36 _ _ _ ht]
    rfl
  · exact key (fel0 S n - 1) 0 (by omega)
theorem m_rhymes (hM : isM a 45 S) (W : WF S n) : ev xs L 168 3 [vR 44] (mw f a g) = some (some (vI (rhyS S n (fel0 S n))), mw f a g) := by
  have h8 := W.n8
  obtain ⟨h3, hd⟩ := W.fel'
  have hf := (hM 3 (by decide)).trans h3
  have key : ∀ d j, j + 1 + d = fel0 S n → rn xs L 168 4 [vR 44, vI (rhyS S n (j + 1)), vI (nI (j + 1))] [] (mw f a g) = some (some (vI (rhyS S n (fel0 S n))), mw f a g) := by
    intro d
    induction d with
    | zero =>
      intro j hj
      rw [b168_4, hf, if_neg (by rw [nn_lt (by omega) (by omega)]; omega), b168_43, show j + 1 = fel0 S n by omega]
    | succ d ih =>
      intro j hj
      have this := ih (j + 1) (by omega)
      rw [show rhyS S n (j + 1 + 1) = if sgnK S (j + 1) n = sgnK S j n then rhyS S n (j + 1) + 1 else rhyS S n (j + 1) from rfl] at this
      rw [b168_4, hf, if_pos (by rw [nn_lt (by omega) (by omega)]; omega), b168_14, m_signOf hM W]
      simp only [Option.bind_some, Option.toList_some, List.cons_append, List.nil_append]
      rw [b168_20, nI_pred, m_signOf hM W]
      simp only [Option.bind_some, Option.toList_some, List.cons_append, List.nil_append]
      rw [b168_27]
      by_cases h : sgnK S (j + 1) n = sgnK S j n
      · rw [if_pos h] at this
        rw [if_pos h, b168_30, nn_add1]
        exact this
      · rw [if_neg h] at this
        rw [if_neg h, b168_34, nn_add1, Int32.add_zero]
        exact this
  refine (b168_0 _ _).trans ?_
  by_cases h0 : fel0 S n = 0
  · rw [b168_4, hf, h0, if_neg (by decide), b168_43]
    rfl
  · exact key (fel0 S n - 1) 0 (by omega)
theorem c_spelled {t : Nat} (ht : is_tr t) (W : WF S n) (hT : isT t f a S n ti) : ev xs L 51 3 [vR t] (mw f a g) = some (some (vI (speS S n (fel0 S n))), mw f a g) := by
  have h8 := W.n8
  obtain ⟨h3, hd⟩ := W.fel'
  have hf := hT.fel.trans h3
  have key : ∀ d j, j + d = fel0 S n → rn xs L 51 4 [vR t, vI (speS S n j), vI (nI j)] [] (mw f a g) = some (some (vI (speS S n (fel0 S n))), mw f a g) := by
    intro d
    induction d with
    | zero =>
      intro j hj
      rw [b51_4 _ _ _ ht, hf, if_neg (by rw [nn_lt (by omega) (by omega)]; omega), b51_29 _ _ _ ht, show j = fel0 S n by omega]
    | succ d ih =>
      intro j hj
      rw [b51_4 _ _ _ ht, hf, if_pos (by rw [nn_lt (by omega) (by omega)]; omega), b51_12 _ _ _ ht, c_sgn ht W hT.L (by omega)]
      simp only [Option.bind_some, Option.toList_some, List.cons_append, List.nil_append]
      rw [b51_21 _ _ _ _ _ ht, nn_add1, Int32.mul_comm (speS S n j) 10]
      exact ih (j + 1) (by omega)
  exact (b51_0 _ _ _ ht).trans (key (fel0 S n) 0 (by omega))
theorem m_spelled (hM : isM a 45 S) (W : WF S n) : ev xs L 169 3 [vR 44] (mw f a g) = some (some (vI (speS S n (fel0 S n))), mw f a g) := by
  have h8 := W.n8
  obtain ⟨h3, hd⟩ := W.fel'
  have hf := (hM 3 (by decide)).trans h3
  have key : ∀ d j, j + d = fel0 S n → rn xs L 169 4 [vR 44, vI (speS S n j), vI (nI j)] [] (mw f a g) = some (some (vI (speS S n (fel0 S n))), mw f a g) := by
    intro d
    induction d with
    | zero =>
      intro j hj
      rw [b169_4, hf, if_neg (by rw [nn_lt (by omega) (by omega)]; omega), b169_31, show j = fel0 S n by omega]
    | succ d ih =>
      intro j hj
      rw [b169_4, hf, if_pos (by rw [nn_lt (by omega) (by omega)]; omega), b169_14, m_signOf hM W]
      simp only [Option.bind_some, Option.toList_some, List.cons_append, List.nil_append]
      rw [b169_23, nn_add1]
      exact ih (j + 1) (by omega)
  exact (b169_0 _ _).trans (key (fel0 S n) 0 (by omega))
end S61
theorem op_state {w : Int32} : TOP 76 2 166 2 [vI w] := by
  refine TOP.rd (fun xs L S n W => ?_)
  by_cases x0 : w = 0
  · subst x0
    exact ⟨vI (S 1), fun f a g hT => (by show rn xs L 76 0 [vR 0, vI 0] [] (mw f a g) = _; have hd := hT.L.day; simp [b76_0, b76_40, b76_48, b76_55, b76_56, b76_63, b76_64, b76_71, b76_72, b76_79, b76_80, b76_87, b76_88, hd]), fun f a g hM => (by show rn xs L 166 0 [vR 44, vI 0] [] (mw f a g) = _; have hd := hM 1 (by decide); simp [b166_0, b166_40, b166_47, b166_51, b166_52, b166_56, b166_57, b166_61, b166_62, b166_66, b166_67, b166_71, b166_72, hd])⟩
  by_cases x1 : w = 1
  · subst x1
    exact ⟨vI (setOf (hg S) n), fun f a g hT => (by show rn xs L 76 0 [vR 0, vI 1] [] (mw f a g) = _; simp [b76_0, b76_40, b76_48, b76_55, b76_56, b76_63, b76_64, b76_71, b76_72, b76_79, b76_80, b76_87, b76_88, c_hangSet tr1 W hT.L]), fun f a g hM => (by show rn xs L 166 0 [vR 44, vI 1] [] (mw f a g) = _; simp [b166_0, b166_40, b166_47, b166_51, b166_52, b166_56, b166_57, b166_61, b166_62, b166_66, b166_67, b166_71, b166_72, m_hanging hM W])⟩
  by_cases x2 : w = 2
  · subst x2
    exact ⟨vI (holdSum S n), fun f a g hT => (by show rn xs L 76 0 [vR 0, vI 2] [] (mw f a g) = _; simp [b76_0, b76_40, b76_48, b76_55, b76_56, b76_63, b76_64, b76_71, b76_72, b76_79, b76_80, b76_87, b76_88, c_holdSum tr1 W hT]), fun f a g hM => (by show rn xs L 166 0 [vR 44, vI 2] [] (mw f a g) = _; simp [b166_0, b166_40, b166_47, b166_51, b166_52, b166_56, b166_57, b166_61, b166_62, b166_66, b166_67, b166_71, b166_72, m_holdSum hM W])⟩
  by_cases x3 : w = 3
  · subst x3
    exact ⟨vI (rhyS S n (fel0 S n)), fun f a g hT => (by show rn xs L 76 0 [vR 0, vI 3] [] (mw f a g) = _; simp [b76_0, b76_40, b76_48, b76_55, b76_56, b76_63, b76_64, b76_71, b76_72, b76_79, b76_80, b76_87, b76_88, c_rhymes tr1 W hT]), fun f a g hM => (by show rn xs L 166 0 [vR 44, vI 3] [] (mw f a g) = _; simp [b166_0, b166_40, b166_47, b166_51, b166_52, b166_56, b166_57, b166_61, b166_62, b166_66, b166_67, b166_71, b166_72, m_rhymes hM W])⟩
  by_cases x4 : w = 4
  · subst x4
    exact ⟨vI (speS S n (fel0 S n)), fun f a g hT => (by show rn xs L 76 0 [vR 0, vI 4] [] (mw f a g) = _; simp [b76_0, b76_40, b76_48, b76_55, b76_56, b76_63, b76_64, b76_71, b76_72, b76_79, b76_80, b76_87, b76_88, c_spelled tr1 W hT]), fun f a g hM => (by show rn xs L 166 0 [vR 44, vI 4] [] (mw f a g) = _; simp [b166_0, b166_40, b166_47, b166_51, b166_52, b166_56, b166_57, b166_61, b166_62, b166_66, b166_67, b166_71, b166_72, m_spelled hM W])⟩
  by_cases x5 : w = 5
  · subst x5
    exact ⟨vI (swaySum S 6), fun f a g hT => (by show rn xs L 76 0 [vR 0, vI 5] [] (mw f a g) = _; simp [b76_0, b76_40, b76_48, b76_55, b76_56, b76_63, b76_64, b76_71, b76_72, b76_79, b76_80, b76_87, b76_88, c_swaySum tr1 hT.L]), fun f a g hM => (by show rn xs L 166 0 [vR 44, vI 5] [] (mw f a g) = _; simp [b166_0, b166_40, b166_47, b166_51, b166_52, b166_56, b166_57, b166_61, b166_62, b166_66, b166_67, b166_71, b166_72, m_swaySum hM])⟩
  exact ⟨vI (-1), fun f a g hT => (by show rn xs L 76 0 [vR 0, vI w] [] (mw f a g) = _; simp [b76_0, b76_40, b76_48, b76_55, b76_56, b76_63, b76_64, b76_71, b76_72, b76_79, b76_80, b76_87, b76_88, x0, x1, x2, x3, x4, x5]), fun f a g hM => (by show rn xs L 166 0 [vR 44, vI w] [] (mw f a g) = _; simp [b166_0, b166_40, b166_47, b166_51, b166_52, b166_56, b166_57, b166_61, b166_62, b166_66, b166_67, b166_71, b166_72, x0, x1, x2, x3, x4, x5])⟩
