/-! ===== copies: a tree becomes another, a row is copied ===== -/
def cpA (q r len : Nat) (a : Nat → Nat → Int32) : Nat → Nat → Int32 := ma_u1 a q (va_cpy (a r) (a q) 0 0 len)
def cpF (t l k : Nat) (f : Nat → Nat → Int32) : Nat → Nat → Int32 := ma_u2 f t k (f l k)
theorem cpA_ne {q r len x : Nat} {a : Nat → Nat → Int32} (h : x ≠ q) : cpA q r len a x = a x := u1_ne h
theorem cpA_at {q r len j : Nat} {a : Nat → Nat → Int32} (h : j < len) : cpA q r len a q j = a r j := by
  unfold cpA va_cpy
  rw [u1_at, if_pos rfl, if_pos ⟨Nat.zero_le _, by omega⟩, Nat.zero_add, Nat.sub_zero]
section S51
variable {xs : Nat → Int32} {L : Nat} {f a : Nat → Nat → Int32} {g : Nat → Nat → Int64} {S : Row} {n : Nat} {ti : Int32}
theorem c_become0 {t l : Nat} (ht : is_tr t) (hl : is_tr l) : ev xs L 33 2 [vR t, vR l] (mw f a g) = some (none, mw (ma_u2 (cpF t l 10 (cpF t l 9 (cpF t l 8 (cpF t l 7 f)))) t 11 0) (cpA (t + 7) (l + 7) 8 (cpA (t + 6) (l + 6) 8 (cpA (t + 5) (l + 5) 8 (cpA (t + 4) (l + 4) 8 (cpA (t + 3) (l + 3) 8 (cpA (t + 2) (l + 2) 6 (cpA (t + 1) (l + 1) 4 a))))))) g) := b33_0 t l ht hl
theorem is_tr_far {t l : Nat} (ht : is_tr t) (hl : is_tr l) (h : t ≠ l) : l + 8 ≤ t ∨ t + 8 ≤ l := by
  unfold is_tr at ht hl
  omega
theorem c_become {t l : Nat} (ht : is_tr t) (hl : is_tr l) (hne : t ≠ l) (W : WF S n) (hT : isT l f a S n ti) : ∃ f' a', ev xs L 33 2 [vR t, vR l] (mw f a g) = some (none, mw f' a' g) ∧ isT t f' a' S n 0 ∧ same (oT t) f a g f' a' g := by
  have h8 := W.n8
  have hfar := is_tr_far ht hl hne
  refine ⟨_, _, c_become0 ht hl, isT.mk (isL.mk ?_ ?_ (fun k hk => ?_) (fun k hk => ?_) (fun k hk => ?_) (fun k hk => ?_) (fun k hk => ?_) (fun k hk => ?_)) ?_ ?_ ?_ (fun k hk => ?_), fun q hq => ⟨?_, ?_, rfl⟩⟩
  · simp [cpF, u2_at, hne, hne.symm]; exact hT.L.cnt
  · simp [cpF, u2_at, hne, hne.symm]; exact hT.L.day
  · rw [cpA_ne (by omega), cpA_ne (by omega), cpA_ne (by omega), cpA_ne (by omega), cpA_ne (by omega), cpA_ne (by omega), cpA_at hk]; exact hT.L.law k hk
  · rw [cpA_ne (by omega), cpA_ne (by omega), cpA_ne (by omega), cpA_ne (by omega), cpA_ne (by omega), cpA_at hk, cpA_ne (by omega)]; exact hT.L.swy k hk
  · rw [cpA_ne (by omega), cpA_ne (by omega), cpA_ne (by omega), cpA_ne (by omega), cpA_at (by omega), cpA_ne (by omega), cpA_ne (by omega)]; exact hT.L.knd k hk
  · rw [cpA_ne (by omega), cpA_ne (by omega), cpA_ne (by omega), cpA_at (by omega), cpA_ne (by omega), cpA_ne (by omega), cpA_ne (by omega)]; exact hT.L.bgh k hk
  · rw [cpA_ne (by omega), cpA_at (by omega), cpA_ne (by omega), cpA_ne (by omega), cpA_ne (by omega), cpA_ne (by omega), cpA_ne (by omega)]; exact hT.L.sgn k hk
  · rw [cpA_at (by omega), cpA_ne (by omega), cpA_ne (by omega), cpA_ne (by omega), cpA_ne (by omega), cpA_ne (by omega), cpA_ne (by omega)]; exact hT.L.nth k hk
  · simp [cpF, u2_at, hne, hne.symm]; exact hT.fel
  · simp [cpF, u2_at, hne, hne.symm]; exact hT.z
  · simp [u2_at]
  · rw [cpA_ne (by omega), cpA_ne (by omega), cpA_at (by omega), cpA_ne (by omega), cpA_ne (by omega), cpA_ne (by omega), cpA_ne (by omega)]; exact hT.hol k hk
  · unfold oT at hq
    unfold cpF
    rw [u2_ne (by omega), u2_ne (by omega), u2_ne (by omega), u2_ne (by omega), u2_ne (by omega)]
  · unfold oT at hq
    rw [cpA_ne (by omega), cpA_ne (by omega), cpA_ne (by omega), cpA_ne (by omega), cpA_ne (by omega), cpA_ne (by omega), cpA_ne (by omega)]
theorem m_copy {l0 l1 : Nat} (h0 : is_rw l0) (h1 : is_rw l1) (hne : l0 ≠ l1) (hM : isM a l0 S) : ∃ a', ev xs L 117 3 [vR l0, vR l1] (mw f a g) = some (none, mw f a' g) ∧ isM a' l1 S ∧ (∀ q, q ≠ l1 → a' q = a q) := by
  have key : ∀ k i a', i + k = 62 → (∀ q, q ≠ l1 → a' q = a q) → (∀ j, j < i → a' l1 j = S j) → ∃ a2, rn xs L 117 2 [vR l0, vR l1, vI (nI i)] [] (mw f a' g) = some (none, mw f a2 g) ∧ isM a2 l1 S ∧ (∀ q, q ≠ l1 → a2 q = a q) := by
    intro k
    induction k with
    | zero =>
      intro i a' hi ha hh
      have e : i = 62 := by omega
      subst e
      refine ⟨a', ?_, hh, ha⟩
      rw [b117_2 _ _ _ h0 h1, if_neg (by decide), b117_20 _ _ _ h0 h1]
    | succ k ih =>
      intro i a' hi ha hh
      have hin : ma_in (nI i) 62 = true := by rw [nn_in (by omega)]; simp; omega
      have hn : (nI i).toNatClampNeg = i := nn_nat (by omega)
      rw [b117_2 _ _ _ h0 h1, if_pos (by rw [show (62 : Int32) = nI 62 from rfl, nn_lt (by omega) (by omega)]; omega), b117_8 _ _ _ h0 h1 hin hin, hn, nn_add1]
      refine ih (i + 1) _ (by omega) (fun q hq => by rw [u2_ne hq]; exact ha q hq) (fun j hj => ?_)
      rw [u2_at]
      by_cases e : j = i
      · rw [if_pos ⟨rfl, e⟩, ha l0 hne, hM i (by omega), e]
      · rw [if_neg (fun q => e q.2)]
        exact hh j (by omega)
  obtain ⟨a2, e2, hm2, ha2⟩ := key 62 0 a (by omega) (fun _ _ => rfl) (fun j hj => by omega)
  exact ⟨a2, (b117_0 _ _ _ h0 h1).trans e2, hm2, ha2⟩
end S51
