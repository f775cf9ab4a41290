/-! ===== a day: the class's passDay whole, the model's goesBy ===== -/
section S48
variable {xs : Nat → Int32} {L : Nat} {f a : Nat → Nat → Int32} {g : Nat → Nat → Int64} {S : Row} {n : Nat} {ti : Int32}
theorem isT.lost {t : Nat} {a' : Nat → Nat → Int32} (hT : isT t f a S n ti) (ha : ∀ q, q ≠ t + 5 → a' q = a q) (hh : ∀ j, j < n → a' (t + 5) j = hld S n ti j) : isT t f a' (lostS S n ti n) n ti := by
  have hL : isL t f a' (lostS S n ti n) n := (hT.L.of ha).to (lost_lo (by decide) n) (fun k _ hk => lost_lo hk n) (fun i c _ hc h2 _ => by rw [lost_lf hc, if_neg (fun q => h2 q.1)])
  refine isT.mk hL ?_ ?_ hT.tie (fun j hj => ?_)
  · rw [lost_lo (by decide)]; exact hT.fel
  · rw [lost_lo (by decide)]; exact hT.z
  · rw [lost_lf (by decide), if_pos ⟨rfl, hj⟩]; exact hh j hj
theorem c_passDay {t : Nat} (ht : is_tr t) (W : WF S n) (hT : isT t f a S n ti) : ∃ f' a', ev xs L 42 2 [vR t] (mw f a g) = some (some (vI (encO (whoS S n ti))), mw f' a' g) ∧ isT t f' a' (passS S n ti) n ti ∧ same (oT t) f a g f' a' g := by
  have h8 := W.n8
  have key : ∀ k i a', i + k = n → (∀ q, q ≠ t + 5 → a' q = a q) → (∀ j, j < n → a' (t + 5) j = if j < i then hld S n ti j else lf S j 2) →
      ∃ a2, rn xs L 42 2 [vR t, vI (nI i)] [] (mw f a' g) = rn xs L 42 53 [vR t, vI (nI n)] [] (mw f a2 g) ∧ (∀ q, q ≠ t + 5 → a2 q = a q) ∧ (∀ j, j < n → a2 (t + 5) j = hld S n ti j) := by
    intro k
    induction k with
    | zero =>
      intro i a' hi ha hh
      refine ⟨a', ?_, ha, fun j hj => ?_⟩
      · rw [b42_2 _ _ ht, (hT.L.of ha).cnt, if_neg (by rw [nn_lt (by omega) (by omega)]; omega), show i = n by omega]
      · rw [hh j hj, if_pos (by omega)]
    | succ k ih =>
      intro i a' hi ha hh
      have hL := hT.L.of ha
      have h1 : ma_in (nI i) 8 = true := by rw [nn_in (by omega)]; simp; omega
      have hn : (nI i).toNatClampNeg = i := nn_nat (by omega)
      have hw : a' (t + 5) i = lf S i 2 := by rw [hh i (by omega), if_neg (by omega)]
      have hl := c_loses (xs := xs) (L := L) (g := g) ht W hL (o := i) (by omega)
      by_cases h2 : td ti i || !hg S i
      · have hd : hld S n ti i = lf S i 2 := by unfold hld; rw [if_pos h2]
        obtain ⟨a2, e2, ha2, hh2⟩ := ih (i + 1) a' (by omega) ha (fun j hj => by
          rw [hh j hj]
          by_cases hj2 : j < i
          · rw [if_pos hj2, if_pos (by omega)]
          · rw [if_neg hj2]
            by_cases hj3 : j = i
            · subst hj3; rw [if_pos (by omega), hd]
            · rw [if_neg (by omega)])
        refine ⟨a2, ?_, ha2, hh2⟩
        rw [← e2, b42_2 _ _ ht, hL.cnt, if_pos (by rw [nn_lt (by omega) (by omega)]; omega), b42_10 _ _ ht, c_hangs ht W hL (by omega)]
        by_cases h3 : hg S i = true
        · have h4 : td ti i = true := by simpa [h3] using h2
          simp [b42_0, b42_10, b42_15, b42_18, b42_23, b42_26, b42_42, b42_46, b42_47, b42_53, b42_57, b42_62, b42_67, ht, bI, h3, c_tied ht hT.tie, h4, nn_add1]
        · simp [b42_0, b42_10, b42_15, b42_18, b42_23, b42_26, b42_42, b42_46, b42_47, b42_53, b42_57, b42_62, b42_67, ht, bI, h3, nn_add1]
      · have hd : hld S n ti i = clp (lf S i 2 - losR S n i) := by unfold hld; rw [if_neg h2]
        have h3 : hg S i = true := by
          cases e : hg S i with
          | true => rfl
          | false => exact absurd (by simp [e]) h2
        have h4 : td ti i = false := by
          cases e : td ti i with
          | false => rfl
          | true => exact absurd (by simp [e]) h2
        obtain ⟨a2, e2, ha2, hh2⟩ := ih (i + 1) (ma_u2 a' (t + 5) i (clp (lf S i 2 - losR S n i))) (by omega) (fun q hq => by rw [u2_ne hq]; exact ha q hq) (fun j hj => by
          rw [u2_at]
          by_cases hj3 : j = i
          · subst hj3; rw [if_pos ⟨rfl, rfl⟩, if_pos (by omega), hd]
          · rw [if_neg (fun q => hj3 q.2), hh j hj]
            by_cases hj2 : j < i
            · rw [if_pos hj2, if_pos (by omega)]
            · rw [if_neg hj2, if_neg (by omega)])
        refine ⟨a2, ?_, ha2, hh2⟩
        rw [← e2, b42_2 _ _ ht, hL.cnt, if_pos (by rw [nn_lt (by omega) (by omega)]; omega), b42_10 _ _ ht, c_hangs ht W hL (by omega)]
        simp [b42_0, b42_10, b42_15, b42_18, b42_23, b42_26, b42_42, b42_46, b42_47, b42_53, b42_57, b42_62, b42_67, ht, bI, h3, c_tied ht hT.tie, h4, h1, hn, hl, e_held, hw, nn_add1]
  obtain ⟨a2, e2, ha2, hh2⟩ := key n 0 a (by omega) (fun _ _ => rfl) (fun j hj => by rw [if_neg (by omega)]; exact hT.hol j hj)
  have hT2 := hT.lost ha2 hh2
  have hs2 : same (oT t) f a g f a2 g := fun q hq => ⟨rfl, ha2 q (by unfold oT at hq; omega), rfl⟩
  have hf := c_faller (xs := xs) (L := L) (g := g) ht W (hT.L.of ha2) hT.tie hh2
  have e0 : ev xs L 42 2 [vR t] (mw f a g) = rn xs L 42 53 [vR t, vI (nI n)] [] (mw f a2 g) := (b42_0 _ _ ht).trans e2
  cases e : bst S n ti n with
  | none =>
    refine ⟨ma_u2 f t 9 (f t 9 + 1), a2, ?_, ?_, hs2.trans (fun q hq => ⟨u2_ne (by unfold oT at hq; omega), rfl, rfl⟩)⟩
    · rw [e0, b42_53 _ _ ht, hf, e]
      simp only [Option.bind_some, Option.toList_some, List.cons_append, List.nil_append]
      rw [b42_57 _ _ _ ht, if_pos (by decide), b42_67 _ _ ht]
      unfold whoS
      rw [e]
    · have := c_dayUp hT2
      unfold passS fallO
      rw [e]
      rw [lost_lo (by decide)] at this
      exact this
  | some b =>
    have hb := bst_in n e
    obtain ⟨f3, a3, e3, hT3, hs3⟩ := c_fell (xs := xs) (L := L) (g := g) ht (W.lost n) hT2 hb.1
    refine ⟨ma_u2 f3 t 9 (f3 t 9 + 1), a3, ?_, ?_, (hs2.trans hs3).trans (fun q hq => ⟨u2_ne (by unfold oT at hq; omega), rfl, rfl⟩)⟩
    · rw [e0, b42_53 _ _ ht, hf, e]
      simp only [Option.bind_some, Option.toList_some, List.cons_append, List.nil_append]
      rw [b42_57 _ _ _ ht, show encO (some b) = nI b from rfl, if_neg (show ¬ nI b < 0 from nI_pos (by omega)), b42_62 _ _ ht, e3]
      simp only [Option.bind_some, Option.toList_none, List.nil_append]
      rw [b42_67 _ _ ht]
      unfold whoS
      rw [e]; rfl
    · have := c_dayUp hT3
      unfold passS fallO
      rw [e]
      rw [fell_lo (by decide), if_neg (by decide), lost_lo (by decide)] at this
      exact this
end S48
