/-! ===== days that are tried: falls ===== -/
theorem isT.keep {t : Nat} {f a f' a' : Nat → Nat → Int32} {S : Row} {n : Nat} {ti : Int32} (h : isT t f a S n ti) (e : ∀ q, t ≤ q → q < t + 8 → f' q = f q ∧ a' q = a q) : isT t f' a' S n ti := by
  have ef : f' t = f t := (e t (by omega) (by omega)).1
  have ea : ∀ k, k < 8 → a' (t + k) = a (t + k) := fun k hk => (e (t + k) (by omega) (by omega)).2
  refine isT.mk (isL.mk ?_ ?_ (fun j hj => ?_) (fun j hj => ?_) (fun j hj => ?_) (fun j hj => ?_) (fun j hj => ?_) (fun j hj => ?_)) ?_ ?_ ?_ (fun j hj => ?_)
  · rw [ef]; exact h.L.cnt
  · rw [ef]; exact h.L.day
  · rw [ea 1 (by decide)]; exact h.L.law j hj
  · rw [ea 2 (by decide)]; exact h.L.swy j hj
  · rw [ea 3 (by decide)]; exact h.L.knd j hj
  · rw [ea 4 (by decide)]; exact h.L.bgh j hj
  · rw [ea 6 (by decide)]; exact h.L.sgn j hj
  · rw [ea 7 (by decide)]; exact h.L.nth j hj
  · rw [ef]; exact h.fel
  · rw [ef]; exact h.z
  · rw [ef]; exact h.tie
  · rw [ea 5 (by decide)]; exact h.hol j hj
/-- the now tree is not touched by what is tried -/
theorem isT.keep9 {f a f' a' : Nat → Nat → Int32} {g g' : Nat → Nat → Int64} {S : Row} {n : Nat} {ti : Int32} (h : isT 1 f a S n ti) (e : same (oT 9) f a g f' a' g') : isT 1 f' a' S n ti :=
  h.keep (fun q h1 h2 => ⟨(e q (Or.inl (by omega))).1, (e q (Or.inl (by omega))).2.1⟩)
theorem same_tree9 {f a f' a' : Nat → Nat → Int32} {g g' : Nat → Nat → Int64} (h : same (oT 9) f a g f' a' g') : same (fun o => o < 1 ∨ 17 ≤ o) f a g f' a' g' := h.mono (fun o ho => by unfold oT; omega)
/-- behind how many days (r at most) it has fallen -/
def fb (S : Row) (n o : Nat) : Nat → Nat
  | 0 => 0
  | r + 1 => if hg S o then fb (passS S n 0) n o r + 1 else 0
theorem fb_le {n o : Nat} : ∀ (r : Nat) (S : Row), fb S n o r ≤ r
  | 0, _ => Nat.le_refl 0
  | r + 1, S => by
    unfold fb
    have := fb_le (n := n) (o := o) r (passS S n 0)
    split <;> omega
section S62
variable {xs : Nat → Int32} {L : Nat} {g : Nat → Nat → Int64} {S : Row} {n o : Nat}
theorem c_toFall0 (ho : o < n) : ∀ (r i : Nat) (T : Row) (f a : Nat → Nat → Int32), i + r = 61 → WF T n → isT 9 f a T n 0 → ∃ f1 a1, rn xs L 78 2 [vR 0, vI (nI o), vI (nI i)] [] (mw f a g) = some (some (vI (nI (i + fb T n o r))), mw f1 a1 g) ∧ same (oT 9) f a g f1 a1 g
  | 0, i, T, f, a, hi, W, hT => by
    refine ⟨f, a, ?_, same.refl⟩
    have e : i = 61 := by omega
    subst e
    rw [b78_2, if_pos (by decide), b78_35]
    rfl
  | r + 1, i, T, f, a, hi, W, hT => by
    have hlt : ¬ (60 : Int32) < nI i := by
      rw [show (60 : Int32) = nI 60 from rfl, nn_lt (by omega) (by omega)]
      omega
    rw [b78_2, if_neg hlt, b78_8, c_hangs tr9 W hT.L ho]
    by_cases h : hg T o = true
    · obtain ⟨f1, a1, e1, hT1, hs1⟩ := c_passDay (xs := xs) (L := L) (g := g) tr9 W hT
      obtain ⟨f2, a2, e2, hs2⟩ := c_toFall0 ho r (i + 1) _ f1 a1 (by omega) W.pass hT1
      refine ⟨f2, a2, ?_, hs1.trans hs2⟩
      have hf : fb T n o (r + 1) = fb (passS T n 0) n o r + 1 := by rw [fb, if_pos h]
      rw [show i + 1 + fb (passS T n 0) n o r = i + fb T n o (r + 1) by omega] at e2
      simp [b78_0, b78_8, b78_16, b78_19, b78_21, b78_28, b78_35, h, bI, e1, nn_add1]
      exact e2
    · refine ⟨f, a, ?_, same.refl⟩
      have hf : fb T n o (r + 1) = 0 := by rw [fb, if_neg h]
      simp [b78_0, b78_8, b78_16, b78_19, b78_21, b78_28, b78_35, h, bI, hf]
theorem c_toFall {f a : Nat → Nat → Int32} (ho : o < n) (W : WF S n) (hT : isT 9 f a S n 0) : ∃ f1 a1, ev xs L 78 3 [vR 0, vI (nI o)] (mw f a g) = some (some (vI (nI (fb S n o 61))), mw f1 a1 g) ∧ same (oT 9) f a g f1 a1 g := by
  obtain ⟨f1, a1, e1, hs1⟩ := c_toFall0 (xs := xs) (L := L) (g := g) ho 61 0 S f a (by omega) W hT
  rw [Nat.zero_add] at e1
  exact ⟨f1, a1, (b78_0 _ _).trans e1, hs1⟩
end S62
