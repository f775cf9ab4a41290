/-! ===== a day, the class's tree ===== -/
def oT (t o : Nat) : Prop := o < t ∨ t + 8 ≤ o
theorem isL.of {t : Nat} {f a a' : Nat → Nat → Int32} {S : Row} {n : Nat} (h : isL t f a S n) (ha : ∀ q, q ≠ t + 5 → a' q = a q) : isL t f a' S n := by
  refine isL.mk h.cnt h.day (fun k hk => ?_) (fun k hk => ?_) (fun k hk => ?_) (fun k hk => ?_) (fun k hk => ?_) (fun k hk => ?_)
  · rw [ha _ (by omega)]; exact h.law k hk
  · rw [ha _ (by omega)]; exact h.swy k hk
  · rw [ha _ (by omega)]; exact h.knd k hk
  · rw [ha _ (by omega)]; exact h.bgh k hk
  · rw [ha _ (by omega)]; exact h.sgn k hk
  · rw [ha _ (by omega)]; exact h.nth k hk
theorem isL.to {t : Nat} {f a : Nat → Nat → Int32} {S S' : Row} {n : Nat} (h : isL t f a S n) (h1 : S' 1 = S 1) (h2 : ∀ k, 4 ≤ k → k < 14 → S' k = S k) (h3 : ∀ i c, i < n → c < 6 → c ≠ 2 → c ≠ 4 → lf S' i c = lf S i c) : isL t f a S' n := by
  refine isL.mk h.cnt (h.day.trans h1.symm) (fun k hk => ?_) (fun k hk => ?_) (fun k hk => ?_) (fun k hk => ?_) (fun k hk => ?_) (fun k hk => ?_)
  · rw [h2 _ (by omega) (by omega)]; exact h.law k hk
  · rw [h2 _ (by omega) (by omega)]; exact h.swy k hk
  · rw [h3 _ _ hk (by decide) (by decide) (by decide)]; exact h.knd k hk
  · rw [h3 _ _ hk (by decide) (by decide) (by decide)]; exact h.bgh k hk
  · rw [h3 _ _ hk (by decide) (by decide) (by decide)]; exact h.sgn k hk
  · rw [h3 _ _ hk (by decide) (by decide) (by decide)]; exact h.nth k hk
theorem encO_neg {q : Option Nat} (h : ∀ b, q = some b → b < 8) : (encO q < 0) ↔ q = none := by
  cases q with
  | none => exact ⟨fun _ => rfl, fun _ => by decide⟩
  | some b =>
    have := h b rfl
    exact ⟨fun x => absurd x (nI_pos (by omega)), fun x => by cases x⟩
section S47
variable {xs : Nat → Int32} {L : Nat} {f a : Nat → Nat → Int32} {g : Nat → Nat → Int64} {S : Row} {n : Nat} {ti : Int32}
theorem c_tied {t i : Nat} (ht : is_tr t) (h : f t 11 = ti) : ev xs L 43 2 [vR t, vI (nI i)] (mw f a g) = some (some (vI (bI (td ti i))), mw f a g) := by
  subst h
  exact e_isTied ht
theorem c_faller {t : Nat} (ht : is_tr t) (W : WF S n) (hL : isL t f a S n) (hti : f t 11 = ti) (hh : ∀ j, j < n → a (t + 5) j = hld S n ti j) : ev xs L 44 3 [vR t] (mw f a g) = some (some (vI (encO (bst S n ti n))), mw f a g) := by
  have h8 := W.n8
  have key : ∀ k i, i + k = n → rn xs L 44 4 [vR t, vI (encO (bst S n ti i)), vI (nI i)] [] (mw f a g) = some (some (vI (encO (bst S n ti n))), mw f a g) := by
    intro k
    induction k with
    | zero =>
      intro i hi
      rw [b44_4 _ _ _ ht, hL.cnt, if_neg (by rw [nn_lt (by omega) (by omega)]; omega), b44_62 _ _ _ ht, show i = n by omega]
    | succ k ih =>
      intro i hi
      have h1 : ma_in (nI i) 8 = true := by rw [nn_in (by omega)]; simp; omega
      have hn : (nI i).toNatClampNeg = i := nn_nat (by omega)
      have hw := hh i (by omega)
      have hr := c_rank (xs := xs) (L := L) (g := g) ht W hL (o := i) (by omega)
      have this := ih (i + 1) (by omega)
      rw [show bst S n ti (i + 1) = if hg S i && decide (hld S n ti i = 0) && !td ti i then (match bst S n ti i with
        | none => some i
        | some b => if rankR S b < rankR S i then some i else some b) else bst S n ti i from rfl] at this
      rw [b44_4 _ _ _ ht, hL.cnt, if_pos (by rw [nn_lt (by omega) (by omega)]; omega), b44_12 _ _ _ ht, c_hangs ht W hL (by omega)]
      by_cases h2 : hg S i = true
      · by_cases h3 : hld S n ti i = 0
        · by_cases h4 : td ti i = true
          · simp [h4] at this
            simp [b44_0, b44_12, b44_17, b44_20, b44_29, b44_34, b44_37, b44_41, b44_46, b44_51, b44_54, b44_56, b44_62, ht, bI, h2, h1, hn, hw, h3, c_tied ht hti, h4, nn_add1]
            exact this
          · cases e : bst S n ti i with
            | none =>
              simp [h2, h3, h4, e] at this
              simp [b44_0, b44_12, b44_17, b44_20, b44_29, b44_34, b44_37, b44_41, b44_46, b44_51, b44_54, b44_56, b44_62, ht, bI, h2, h1, hn, hw, h3, c_tied ht hti, h4, nn_add1, encO]
              exact this
            | some b =>
              have hb := (bst_in i e).1
              have hrb := c_rank (xs := xs) (L := L) (g := g) ht W hL (o := b) (by omega)
              have hb0 : ¬ nI b < 0 := nI_pos (by omega)
              by_cases h5 : rankR S b < rankR S i
              · simp [h2, h3, h4, e, h5] at this
                have h6 : ¬ rankR S i ≤ rankR S b := fun q => absurd h5 (Int32.not_lt.mpr q)
                simp [b44_0, b44_12, b44_17, b44_20, b44_29, b44_34, b44_37, b44_41, b44_46, b44_51, b44_54, b44_56, b44_62, ht, bI, h2, h1, hn, hw, h3, c_tied ht hti, h4, nn_add1, encO, hb0, hr, hrb, h5, h6]
                exact this
              · simp [h2, h3, h4, e, h5, encO] at this
                have h6 : rankR S i ≤ rankR S b := Int32.not_lt.mp h5
                simp [b44_0, b44_12, b44_17, b44_20, b44_29, b44_34, b44_37, b44_41, b44_46, b44_51, b44_54, b44_56, b44_62, ht, bI, h2, h1, hn, hw, h3, c_tied ht hti, h4, nn_add1, encO, hb0, hr, hrb, h5, h6]
                exact this
        · simp [h3] at this
          simp [b44_0, b44_12, b44_17, b44_20, b44_29, b44_34, b44_37, b44_41, b44_46, b44_51, b44_54, b44_56, b44_62, ht, bI, h2, h1, hn, hw, h3, nn_add1]
          exact this
      · simp [h2] at this
        simp [b44_0, b44_12, b44_17, b44_20, b44_29, b44_34, b44_37, b44_41, b44_46, b44_51, b44_54, b44_56, b44_62, ht, bI, h2, nn_add1]
        exact this
  exact (b44_0 _ _ _ ht).trans (key n 0 (by omega))
theorem c_fell {t o : Nat} (ht : is_tr t) (W : WF S n) (hT : isT t f a S n ti) (ho : o < n) : ∃ f' a', ev xs L 40 2 [vR t, vI (nI o)] (mw f a g) = some (none, mw f' a' g) ∧ isT t f' a' (fellS S o) n ti ∧ same (oT t) f a g f' a' g := by
  have h8 := W.n8
  have h1 : ma_in (nI o) 8 = true := by rw [nn_in (by omega)]; simp; omega
  have hn : (nI o).toNatClampNeg = o := nn_nat (by omega)
  have hu : ∀ k, k ≠ 8 → ma_u2 f t 8 (f t 8 + 1) t k = f t k := fun k hk => by rw [u2_at, if_neg (fun q => hk q.2)]
  refine ⟨_, _, b40_0 _ _ ht h1, ?_, fun q hq => ⟨u2_ne (by unfold oT at hq; omega), u2_ne (by unfold oT at hq; omega), rfl⟩⟩
  rw [hn]
  refine isT.mk (isL.mk ?_ ?_ (fun k hk => ?_) (fun k hk => ?_) (fun k hk => ?_) (fun k hk => ?_) (fun k hk => ?_) (fun k hk => ?_)) ?_ ?_ ?_ (fun k hk => ?_)
  · rw [hu _ (by decide)]; exact hT.L.cnt
  · rw [hu _ (by decide), fell_lo (by decide)]; exact hT.L.day
  · rw [u2_ne (by omega), fell_lo (by omega), if_neg (by omega)]; exact hT.L.law k hk
  · rw [u2_ne (by omega), fell_lo (by omega), if_neg (by omega)]; exact hT.L.swy k hk
  · rw [u2_ne (by omega), fell_lf (by decide), if_neg (by omega), if_neg (by omega)]; exact hT.L.knd k hk
  · rw [u2_ne (by omega), fell_lf (by decide), if_neg (by omega), if_neg (by omega)]; exact hT.L.bgh k hk
  · rw [u2_ne (by omega), fell_lf (by decide), if_neg (by omega), if_neg (by omega)]; exact hT.L.sgn k hk
  · have hx : ma_u2 f t 8 (f t 8 + 1) t 8 = S 3 + 1 := by rw [u2_at, if_pos ⟨rfl, rfl⟩, hT.fel]
    rw [hx, u2_at, fell_lf (by decide)]
    by_cases h : k = o
    · rw [if_pos ⟨rfl, h⟩, if_pos ⟨h, rfl⟩]
    · rw [if_neg (fun q => h q.2), if_neg (fun q => h q.1), if_neg (fun q => h q.1)]
      exact hT.L.nth k hk
  · rw [u2_at, if_pos ⟨rfl, rfl⟩, fell_lo (by decide), if_pos rfl, hT.fel]
  · rw [hu _ (by decide), fell_lo (by decide)]; exact hT.z
  · rw [hu _ (by decide)]; exact hT.tie
  · rw [u2_ne (by omega), fell_lf (by decide), if_neg (by omega), if_neg (by omega)]; exact hT.hol k hk
theorem c_dayUp {t : Nat} (hT : isT t f a S n ti) : isT t (ma_u2 f t 9 (f t 9 + 1)) a (up1 S 1 (S 1 + 1)) n ti := by
  have hu : ∀ k, k ≠ 9 → ma_u2 f t 9 (f t 9 + 1) t k = f t k := fun k hk => by rw [u2_at, if_neg (fun q => hk q.2)]
  have hk2 : ∀ k, k ≠ 1 → up1 S 1 (S 1 + 1) k = S k := fun k hk => by rw [up1_at, if_neg hk]
  refine isT.mk (isL.mk ?_ ?_ (fun k hk => ?_) (fun k hk => ?_) (fun k hk => ?_) (fun k hk => ?_) (fun k hk => ?_) (fun k hk => ?_)) ?_ ?_ ?_ (fun k hk => ?_)
  · rw [hu _ (by decide)]; exact hT.L.cnt
  · rw [u2_at, if_pos ⟨rfl, rfl⟩, up1_at, if_pos rfl, hT.L.day]
  · rw [hk2 _ (by omega)]; exact hT.L.law k hk
  · rw [hk2 _ (by omega)]; exact hT.L.swy k hk
  · rw [lf_up1_lo (by decide)]; exact hT.L.knd k hk
  · rw [lf_up1_lo (by decide)]; exact hT.L.bgh k hk
  · rw [lf_up1_lo (by decide)]; exact hT.L.sgn k hk
  · rw [lf_up1_lo (by decide)]; exact hT.L.nth k hk
  · rw [hu _ (by decide), hk2 _ (by decide)]; exact hT.fel
  · rw [hu _ (by decide), hk2 _ (by decide)]; exact hT.z
  · rw [hu _ (by decide)]; exact hT.tie
  · rw [lf_up1_lo (by decide)]; exact hT.hol k hk
end S47
