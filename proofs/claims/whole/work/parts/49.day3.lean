/-! ===== a day: the model's goesBy ===== -/
theorem and1 (y : Int32) : y &&& 1 = 0 ∨ y &&& 1 = 1 := by
  obtain ⟨j, hj, h⟩ := pk_andE y (m := 1) 1 rfl
  have : j = 0 ∨ j = 1 := by omega
  rcases this with rfl | rfl
  · exact Or.inl h
  · exact Or.inr h
theorem clp_id {S : Row} {n i : Nat} (W : WF S n) (hi : i < n) : clp (lf S i 2 - 0) = lf S i 2 := by
  obtain ⟨v, hv, h⟩ := W.hol i hi
  rw [h, Int32.sub_zero]
  unfold clp
  rw [if_neg (nI_pos (by omega)), if_neg]
  rw [show (99 : Int32) = nI 99 from rfl, nn_lt (by decide) (by omega)]
  omega
theorem rank_of {S S' : Row} {i : Nat} (h0 : lf S' i 0 = lf S i 0) (h1 : lf S' i 1 = lf S i 1) (h3 : lf S' i 3 = lf S i 3) : rankR S' i = rankR S i := by
  unfold rankR
  rw [h0, h1, h3]
theorem rank_lost {S : Row} {n : Nat} {ti : Int32} {m i : Nat} : rankR (lostS S n ti m) i = rankR S i := by
  have h : ∀ c, c < 6 → c ≠ 2 → lf (lostS S n ti m) i c = lf S i c := fun c hc h2 => by rw [lost_lf hc, if_neg (fun q => h2 q.1)]
  exact rank_of (h 0 (by decide) (by decide)) (h 1 (by decide) (by decide)) (h 3 (by decide) (by decide))
theorem isM.up {a : Nat → Nat → Int32} {q k : Nat} {S : Row} {v : Int32} (h : isM a q S) : isM (ma_u2 a q k v) q (up1 S k v) := fun j hj => by
  rw [u2_at, up1_at]
  by_cases e : j = k
  · rw [if_pos ⟨rfl, e⟩, if_pos e]
  · rw [if_neg (fun x => e x.2), if_neg e]
    exact h j hj
theorem isM.of {a a' : Nat → Nat → Int32} {q : Nat} {S : Row} (h : isM a q S) (e : a' q = a q) : isM a' q S := fun j hj => by
  rw [e]
  exact h j hj
theorem ixN {o c : Nat} : (14 : Int32) + 6 * nI o + nI c = nI (14 + 6 * o + c) := by
  rw [show (14 : Int32) = nI 14 from rfl, show (6 : Int32) = nI 6 from rfl, nn_mul, nn_add, nn_add]
def losM (S : Row) (n : Nat) (ti : Int32) (j : Nat) : Int32 := if td ti j || !hg S j then 0 else losR S n j
theorem bst_succ {S : Row} {n : Nat} {ti : Int32} {m : Nat} : bst S n ti (m + 1) = if hg S m && decide (hld S n ti m = 0) && !td ti m then
      (match bst S n ti m with
        | none => some m
        | some b => if rankR S b < rankR S m then some m else some b)
    else bst S n ti m := rfl
section S49
variable {xs : Nat → Int32} {L : Nat} {f a : Nat → Nat → Int32} {g : Nat → Nat → Int64} {S : Row} {n : Nat} {ti : Int32}
theorem m_fell {o : Nat} (hM : isM a 45 S) (ho : o < 8) : ∃ a', ev xs L 152 2 [vR 44, vI (nI o)] (mw f a g) = some (none, mw f a' g) ∧ isM a' 45 (fellS S o) ∧ (∀ q, q ≠ 45 → a' q = a q) := by
  have e4 : (14 : Int32) + 6 * nI o + 4 = nI (14 + 6 * o + 4) := ixN (c := 4)
  have e5 : (14 : Int32) + 6 * nI o + 5 = nI (14 + 6 * o + 5) := ixN (c := 5)
  have i4 : ma_in (nI (14 + 6 * o + 4)) 62 = true := by rw [nn_in (by omega)]; simp; omega
  have i5 : ma_in (nI (14 + 6 * o + 5)) 62 = true := by rw [nn_in (by omega)]; simp; omega
  refine ⟨_, b152_0 _ (by rw [e4]; exact i4) (by rw [e5]; exact i5), ?_, fun q hq => by rw [u2_ne hq, u2_ne hq, u2_ne hq]⟩
  rw [e4, e5, nn_nat (by omega), nn_nat (by omega)]
  have h3 : a 45 3 + 1 = S 3 + 1 := by rw [hM 3 (by decide)]
  have hm := ((hM.up (k := 3) (v := S 3 + 1)).up (k := 14 + 6 * o + 4) (v := 0)).up (k := 14 + 6 * o + 5) (v := S 3 + 1)
  rw [h3]
  have h6 : ma_u2 (ma_u2 a 45 3 (S 3 + 1)) 45 (14 + 6 * o + 4) 0 45 3 = S 3 + 1 := by
    rw [u2_at, if_neg (by omega), u2_at, if_pos ⟨rfl, rfl⟩]
  rw [h6]
  exact hm
theorem m_goesBy (hM : isM a 45 S) (W : WF S n) : ∃ a', ev xs L 157 5 [vR 44, vI ti] (mw f a g) = some (some (vI (encO (whoS S n ti))), mw f a' g) ∧ isM a' 45 (passS S n ti) ∧ (∀ q, q ≠ 45 → q ≠ 50 → a' q = a q) := by
  have h8 := W.n8
  have key : ∀ k i a', i + k = n → (∀ q, q ≠ 50 → a' q = a q) → (∀ j, j < i → a' 50 j = losM S n ti j) →
      ∃ a2, rn xs L 157 2 [vR 44, vI ti, vI (nI i), vS 0, vS 0] [] (mw f a' g) = rn xs L 157 55 [vR 44, vI ti, vI (-1), vI (nI 0), vS 0] [] (mw f a2 g) ∧ (∀ q, q ≠ 50 → a2 q = a q) ∧ (∀ j, j < n → a2 50 j = losM S n ti j) := by
    intro k
    induction k with
    | zero =>
      intro i a' hi ha hh
      have hc : a' 45 0 = nI n := by rw [ha 45 (by decide)]; exact (hM 0 (by decide)).trans W.cn
      exact ⟨a', by rw [b157_2, hc, if_neg (by rw [nn_lt (by omega) (by omega)]; omega), b157_51]; rfl, ha, fun j hj => hh j (by omega)⟩
    | succ k ih =>
      intro i a' hi ha hh
      have hM' : isM a' 45 S := hM.of (ha 45 (by decide))
      have hc : a' 45 0 = nI n := (hM' 0 (by decide)).trans W.cn
      have h0 : i < 8 := by omega
      have h1 : ma_in (nI i) 8 = true := by rw [nn_in (by omega)]; simp; omega
      have hn : (nI i).toNatClampNeg = i := nn_nat (by omega)
      have hl := m_loses (xs := xs) (L := L) (f := f) (g := g) hM' W (o := i) (by omega)
      have hgs := W.hgs i (by omega)
      obtain ⟨a2, e2, ha2, hh2⟩ := ih (i + 1) (ma_u2 a' 50 i (losM S n ti i)) (by omega) (fun q hq => by rw [u2_ne hq]; exact ha q hq) (fun j hj => by
        rw [u2_at]
        by_cases hj3 : j = i
        · subst hj3; rw [if_pos ⟨rfl, rfl⟩]
        · rw [if_neg (fun q => hj3 q.2), hh j (by omega)])
      refine ⟨a2, ?_, ha2, hh2⟩
      rw [← e2, b157_2, hc, if_pos (by rw [nn_lt (by omega) (by omega)]; omega), b157_12]
      unfold losM td hg
      rcases and1 (ti >>> (nI i &&& 31)) with h4 | h4
      · by_cases h5 : lf S i 5 = 0
        · rw [if_pos h5] at hgs
          simp [b157_0, b157_26, b157_32, b157_35, b157_39, b157_44, b157_51, b157_65, b157_84, b157_94, b157_101, b157_105, b157_111, b157_114, b157_122, b157_126, b157_134, b157_138, b157_143, b157_148, b157_151, b157_155, b157_163, b157_167, b157_172, h4, hgs, m_its4 hM' h0, h1, hn, hl, nn_add1]
        · rw [if_neg h5] at hgs
          simp [b157_0, b157_26, b157_32, b157_35, b157_39, b157_44, b157_51, b157_65, b157_84, b157_94, b157_101, b157_105, b157_111, b157_114, b157_122, b157_126, b157_134, b157_138, b157_143, b157_148, b157_151, b157_155, b157_163, b157_167, b157_172, h4, hgs, m_its4 hM' h0, h1, hn, nn_add1]
      · simp [b157_0, b157_26, b157_32, b157_35, b157_39, b157_44, b157_51, b157_65, b157_84, b157_94, b157_101, b157_105, b157_111, b157_114, b157_122, b157_126, b157_134, b157_138, b157_143, b157_148, b157_151, b157_155, b157_163, b157_167, b157_172, h4, h1, hn, nn_add1]
  have key2 : ∀ k i a' l4, i + k = n → isM a' 45 (lostS S n ti i) → (∀ j, j < n → a' 50 j = losM S n ti j) → (∀ q, q ≠ 45 → q ≠ 50 → a' q = a q) →
      ∃ a2 l5, rn xs L 157 55 [vR 44, vI ti, vI (encO (bst S n ti i)), vI (nI i), l4] [] (mw f a' g) = rn xs L 157 163 [vR 44, vI ti, vI (encO (bst S n ti n)), vI (nI n), l5] [] (mw f a2 g) ∧ isM a2 45 (lostS S n ti n) ∧ (∀ q, q ≠ 45 → q ≠ 50 → a2 q = a q) := by
    intro k
    induction k with
    | zero =>
      intro i a' l4 hi hm hh ha
      have hc : a' 45 0 = nI n := by rw [hm 0 (by decide), lost_lo (by decide)]; exact W.cn
      refine ⟨a', l4, ?_, ?_, ha⟩
      · rw [b157_55, hc, if_neg (by rw [nn_lt (by omega) (by omega)]; omega), show i = n by omega]
      · rw [← show i = n by omega]; rw [show i = n by omega] at hm ⊢; exact hm
    | succ k ih =>
      intro i a' l4 hi hm hh ha
      have hc : a' 45 0 = nI n := by rw [hm 0 (by decide), lost_lo (by decide)]; exact W.cn
      have h0 : i < 8 := by omega
      have h1 : ma_in (nI i) 8 = true := by rw [nn_in (by omega)]; simp; omega
      have hn : (nI i).toNatClampNeg = i := nn_nat (by omega)
      have e2 : (14 : Int32) + 6 * nI i + 2 = nI (14 + 6 * i + 2) := ixN (c := 2)
      have i2 : ma_in (nI (14 + 6 * i + 2)) 62 = true := by rw [nn_in (by omega)]; simp; omega
      have n2 : (nI (14 + 6 * i + 2)).toNatClampNeg = 14 + 6 * i + 2 := nn_nat (by omega)
      have hw : lf (lostS S n ti i) i 2 = lf S i 2 := by rw [lost_lf (by decide), if_neg (by omega)]
      have hv : clp (lf S i 2 - losM S n ti i) = hld S n ti i := by
        unfold losM hld
        by_cases hx : (td ti i || !hg S i) = true
        · rw [if_pos hx, if_pos hx, clp_id W (by omega)]
        · rw [if_neg hx, if_neg hx]
      have hm2 : isM (ma_u2 a' 45 (14 + 6 * i + 2) (hld S n ti i)) 45 (lostS S n ti (i + 1)) := hm.up
      have w4 : lf (lostS S n ti (i + 1)) i 4 = lf S i 4 := by rw [lost_lf (by decide), if_neg (by omega)]
      have w2 : lf (lostS S n ti (i + 1)) i 2 = hld S n ti i := by rw [lost_lf (by decide), if_pos ⟨rfl, by omega⟩]
      have g4 := m_its4 (xs := xs) (L := L) (f := f) (g := g) hm2 h0
      have g2 := m_its2 (xs := xs) (L := L) (f := f) (g := g) hm2 h0
      have gr := m_rank (xs := xs) (L := L) (f := f) (g := g) hm2 h0
      rw [rank_lost] at gr
      rw [w4] at g4
      rw [w2] at g2
      have nxt := fun l => ih (i + 1) (ma_u2 a' 45 (14 + 6 * i + 2) (hld S n ti i)) l (by omega) hm2 (fun j hj => by rw [u2_ne (by decide)]; exact hh j hj) (fun q hq hq2 => by rw [u2_ne hq]; exact ha q hq hq2)
      rw [b157_55, hc, if_pos (by rw [nn_lt (by omega) (by omega)]; omega), b157_65, m_its2 hm h0, hw]
      simp only [Option.bind_some, Option.toList_some, List.cons_append, List.nil_append]
      rw [b157_84 _ _ _ _ _ _ h1, hn, hh i (by omega), e_clp]
      simp only [Option.bind_some, Option.toList_some, List.cons_append, List.nil_append]
      rw [b157_94 _ _ _ _ _ _ (by rw [e2]; exact i2), e2, n2, hv, g4]
      simp only [Option.bind_some, Option.toList_some, List.cons_append, List.nil_append]
      have step : ∃ l, rn xs L 157 101 [vR 44, vI ti, vI (encO (bst S n ti i)), vI (nI i), l4] [vI (lf S i 4)] (mw f (ma_u2 a' 45 (14 + 6 * i + 2) (hld S n ti i)) g) = rn xs L 157 55 [vR 44, vI ti, vI (encO (bst S n ti (i + 1))), vI (nI (i + 1)), l] [] (mw f (ma_u2 a' 45 (14 + 6 * i + 2) (hld S n ti i)) g) := by
        generalize ma_u2 a' 45 (14 + 6 * i + 2) (hld S n ti i) = A at *
        by_cases h2 : lf S i 4 = 1
        · by_cases h3 : hld S n ti i = 0
          · by_cases h4 : (ti >>> (nI i &&& 31)) &&& 1 = 0
            · cases e : bst S n ti i with
              | none =>
                have hb : bst S n ti (i + 1) = some i := by rw [bst_succ, e]; simp [hg, td, h2, h3, h4]
                refine ⟨vI 1, ?_⟩
                rw [hb]
                simp [b157_0, b157_2, b157_12, b157_26, b157_32, b157_35, b157_39, b157_44, b157_51, b157_65, b157_84, b157_94, b157_101, b157_105, b157_111, b157_114, b157_122, b157_126, b157_134, b157_138, b157_143, b157_148, b157_151, b157_155, b157_163, b157_167, b157_172, h2, h3, h4, g2, encO, nn_add1]
              | some b =>
                have hbi := (bst_in i e).1
                have hb0 : ¬ nI b < 0 := nI_pos (by omega)
                have grb := m_rank (xs := xs) (L := L) (f := f) (g := g) hm2 (o := b) (by omega)
                rw [rank_lost] at grb
                by_cases h5 : rankR S b < rankR S i
                · have hb : bst S n ti (i + 1) = some i := by rw [bst_succ, e]; simp [hg, td, h2, h3, h4, h5]
                  have h6 : ¬ rankR S i ≤ rankR S b := fun q => absurd h5 (Int32.not_lt.mpr q)
                  refine ⟨vI 1, ?_⟩
                  rw [hb]
                  simp [b157_0, b157_2, b157_12, b157_26, b157_32, b157_35, b157_39, b157_44, b157_51, b157_65, b157_84, b157_94, b157_101, b157_105, b157_111, b157_114, b157_122, b157_126, b157_134, b157_138, b157_143, b157_148, b157_151, b157_155, b157_163, b157_167, b157_172, h2, h3, h4, g2, encO, nn_add1, hb0, gr, grb, h5, h6]
                · have hb : bst S n ti (i + 1) = some b := by rw [bst_succ, e]; simp [hg, td, h2, h3, h4, h5]
                  have h6 : rankR S i ≤ rankR S b := Int32.not_lt.mp h5
                  refine ⟨vI 1, ?_⟩
                  rw [hb]
                  simp [b157_0, b157_2, b157_12, b157_26, b157_32, b157_35, b157_39, b157_44, b157_51, b157_65, b157_84, b157_94, b157_101, b157_105, b157_111, b157_114, b157_122, b157_126, b157_134, b157_138, b157_143, b157_148, b157_151, b157_155, b157_163, b157_167, b157_172, h2, h3, h4, g2, encO, nn_add1, hb0, gr, grb, h5, h6]
            · have hb : bst S n ti (i + 1) = bst S n ti i := by rw [bst_succ]; simp [td, h4]
              refine ⟨vI 0, ?_⟩
              rw [hb]
              simp [b157_0, b157_2, b157_12, b157_26, b157_32, b157_35, b157_39, b157_44, b157_51, b157_65, b157_84, b157_94, b157_101, b157_105, b157_111, b157_114, b157_122, b157_126, b157_134, b157_138, b157_143, b157_148, b157_151, b157_155, b157_163, b157_167, b157_172, h2, h3, h4, g2, nn_add1]
          · have hb : bst S n ti (i + 1) = bst S n ti i := by rw [bst_succ]; simp [h3]
            refine ⟨vI 0, ?_⟩
            rw [hb]
            simp [b157_0, b157_2, b157_12, b157_26, b157_32, b157_35, b157_39, b157_44, b157_51, b157_65, b157_84, b157_94, b157_101, b157_105, b157_111, b157_114, b157_122, b157_126, b157_134, b157_138, b157_143, b157_148, b157_151, b157_155, b157_163, b157_167, b157_172, h2, h3, g2, nn_add1]
        · have hb : bst S n ti (i + 1) = bst S n ti i := by rw [bst_succ]; simp [hg, h2]
          refine ⟨vI 0, ?_⟩
          rw [hb]
          simp [b157_0, b157_2, b157_12, b157_26, b157_32, b157_35, b157_39, b157_44, b157_51, b157_65, b157_84, b157_94, b157_101, b157_105, b157_111, b157_114, b157_122, b157_126, b157_134, b157_138, b157_143, b157_148, b157_151, b157_155, b157_163, b157_167, b157_172, h2, nn_add1]
      obtain ⟨l, hl⟩ := step
      rw [hl]
      exact nxt l
  obtain ⟨a1, e1, ha1, hh1⟩ := key n 0 a (by omega) (fun _ _ => rfl) (fun j hj => by omega)
  obtain ⟨a2, l5, e2, hm2, ha2⟩ := key2 n 0 a1 (vS 0) (by omega) (hM.of (ha1 45 (by decide))) hh1 (fun q _ hq => ha1 q hq)
  have e0 : ev xs L 157 5 [vR 44, vI ti] (mw f a g) = rn xs L 157 163 [vR 44, vI ti, vI (encO (bst S n ti n)), vI (nI n), l5] [] (mw f a2 g) := (b157_0 _ _ _ _).trans (e1.trans e2)
  have hd : ∀ (A : Nat → Nat → Int32) (T : Row), isM A 45 T → T 1 = S 1 → isM (ma_u2 A 45 1 (A 45 1 + 1)) 45 (up1 T 1 (S 1 + 1)) := fun A T h h1 => by
    rw [h 1 (by decide), h1]
    exact h.up
  cases e : bst S n ti n with
  | none =>
    have hp : passS S n ti = up1 (lostS S n ti n) 1 (S 1 + 1) := by unfold passS fallO; rw [e]
    rw [hp]
    refine ⟨_, ?_, hd a2 _ hm2 (lost_lo (by decide) n), fun q hq hq2 => by rw [u2_ne hq]; exact ha2 q hq hq2⟩
    rw [e0, e, b157_163, if_pos (by decide), b157_172]
    unfold whoS
    rw [e]
  | some b =>
    have hb := bst_in n e
    obtain ⟨a3, e3, hm3, ha3⟩ := m_fell (xs := xs) (L := L) (f := f) (g := g) hm2 (o := b) (by omega)
    have hp : passS S n ti = up1 (fellS (lostS S n ti n) b) 1 (S 1 + 1) := by unfold passS fallO; rw [e]
    rw [hp]
    refine ⟨_, ?_, hd a3 _ hm3 (by rw [fell_lo (by decide), if_neg (by decide), lost_lo (by decide)]), fun q hq hq2 => by rw [u2_ne hq, ha3 q hq]; exact ha2 q hq hq2⟩
    rw [e0, e, b157_163, show encO (some b) = nI b from rfl, if_neg (show ¬ nI b < 0 from nI_pos (by omega)), b157_167, e3]
    simp only [Option.bind_some, Option.toList_none, List.nil_append]
    rw [b157_172]
    unfold whoS
    rw [e]
    rfl
end S49
