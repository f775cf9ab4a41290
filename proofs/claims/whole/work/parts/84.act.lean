/-! ===== act: the call ===== -/
def trX (w k n s : Int32) (p : Tr) : Tr := if w = 0 then trT k p else if w = 1 then trN k p else if w = 2 then trP k n s p else trL k n s p
def vaX (w k n s x : Int32) : Int32 := if w = 0 then vaT k n s x else if w = 1 then vaN k n s x else if w = 2 then vaP k n s x else vaL k n s x
def ptX (w k n s : Int32) : Int32 := if w = 0 then 0 else if w = 1 then 0 else if w = 2 then ptd n s else ptL k n s
def anX (w k n s x : Int32) : Int32 := if ptX w k n s = 0 then vaX w k n s x else -15
section S84
variable {xs : Nat → Int32} {L : Nat} {g : Nat → Nat → Int64} {f a : Nat → Nat → Int32} {k n s pt : Int32} {p : Tr}
theorem c_perform {w x : Int32} (hw : w = 0 ∨ w = 1 ∨ w = 2 ∨ w = 3) (h : cA f a k n s p pt) : ∃ f' a', ev xs L 1 4 [vR 30, vI w, vI x] (mw f a g) = some (some (vI (anX w k n s x)), mw f' a' g) ∧ cA f' a' k n s (trX w k n s p) (ptX w k n s) ∧ frC f a f' a' := by
  obtain ⟨h0, r0⟩ := c_setPt (v := 0) h
  show ∃ f' a', rn xs L 1 0 [vR 30, vI w, vI x, vS 0] [] (mw f a g) = _ ∧ _
  rw [b1_0]
  have fin : ∀ (f1 a1 : Nat → Nat → Int32) (v pt1 : Int32), f1 30 5 = pt1 → (if f1 30 5 = 0 then rn xs L 1 86 [vR 30, vI w, vI x, vI v] [] (mw f1 a1 g) else rn xs L 1 81 [vR 30, vI w, vI x, vI v] [] (mw f1 a1 g)) = some (some (vI (if pt1 = 0 then v else -15)), mw f1 a1 g) := by
    intro f1 a1 v pt1 h5
    rw [h5]
    by_cases q : pt1 = 0
    · rw [if_pos q, if_pos q, b1_86]
    · rw [if_neg q, if_neg q, b1_81]
  rcases hw with rfl | rfl | rfl | rfl
  · obtain ⟨f1, a1, e1, h1, r1⟩ := c_turns (xs := xs) (L := L) (g := g) (x := x) h0
    refine ⟨f1, a1, ?_, h1, r0.tr r1⟩
    rw [if_pos rfl, b1_36, e1]
    simp only [Option.bind_some, Option.toList_some, List.cons_append, List.nil_append]
    rw [b1_41, fin _ _ _ _ h1.prt]
    rfl
  · obtain ⟨f1, a1, e1, h1, r1⟩ := c_names (xs := xs) (L := L) (g := g) (x := x) h0
    refine ⟨f1, a1, ?_, h1, r0.tr r1⟩
    rw [if_neg one_ne0, if_pos rfl, b1_45, e1]
    simp only [Option.bind_some, Option.toList_some, List.cons_append, List.nil_append]
    rw [b1_50, fin _ _ _ _ h1.prt]
    rfl
  · obtain ⟨f1, a1, e1, h1, r1⟩ := c_parts (xs := xs) (L := L) (g := g) (x := x) h0
    refine ⟨f1, a1, ?_, h1, r0.tr r1⟩
    rw [if_neg two_ne0, if_neg two_ne1, if_pos rfl, b1_54, e1]
    simp only [Option.bind_some, Option.toList_some, List.cons_append, List.nil_append]
    rw [b1_59, fin _ _ _ _ h1.prt]
    rfl
  · obtain ⟨f1, a1, e1, h1, r1⟩ := c_lands (xs := xs) (L := L) (g := g) (x := x) h0
    refine ⟨f1, a1, ?_, h1, r0.tr r1⟩
    rw [if_neg (by decide), if_neg (by decide), if_neg (by decide), if_pos rfl, b1_63, e1]
    simp only [Option.bind_some, Option.toList_some, List.cons_append, List.nil_append]
    rw [b1_68, fin _ _ _ _ h1.prt]
    rfl
theorem m_perform {w x l1 : Int32} {l4 : ma_V} (hw : w = 0 ∨ w = 1 ∨ w = 2 ∨ w = 3) (h : mA f a k n s p 0) : ∃ f' a', (if w = 0 then rn xs L 205 84 [vR 44, vI l1, vI w, vI x, l4] [] (mw f a g) else rn xs L 205 92 [vR 44, vI l1, vI w, vI x, l4] [] (mw f a g)) = some (some (vI (anX w k n s x)), mw f' a' g) ∧ mA f' a' k n s (trX w k n s p) (ptX w k n s) ∧ frM f a f' a' := by
  have fin : ∀ (f1 a1 : Nat → Nat → Int32) (v pt1 : Int32), f1 44 26 = pt1 → (if f1 44 26 = 0 then rn xs L 205 137 [vR 44, vI l1, vI w, vI x, vI v] [] (mw f1 a1 g) else rn xs L 205 132 [vR 44, vI l1, vI w, vI x, vI v] [] (mw f1 a1 g)) = some (some (vI (if pt1 = 0 then v else -15)), mw f1 a1 g) := by
    intro f1 a1 v pt1 h5
    rw [h5]
    by_cases q : pt1 = 0
    · rw [if_pos q, if_pos q, b205_137]
    · rw [if_neg q, if_neg q, b205_132]
  rcases hw with rfl | rfl | rfl | rfl
  · obtain ⟨f1, a1, e1, h1, r1⟩ := m_turns (xs := xs) (L := L) (g := g) (x := x) h
    refine ⟨f1, a1, ?_, h1, r1⟩
    rw [if_pos rfl, b205_84, e1]
    simp only [Option.bind_some, Option.toList_some, List.cons_append, List.nil_append]
    rw [b205_89, fin _ _ _ _ h1.prt]
    rfl
  · obtain ⟨f1, a1, e1, h1, r1⟩ := m_names (xs := xs) (L := L) (g := g) (x := x) h
    refine ⟨f1, a1, ?_, h1, r1⟩
    rw [if_neg one_ne0, b205_92, if_pos rfl, b205_97, e1]
    simp only [Option.bind_some, Option.toList_some, List.cons_append, List.nil_append]
    rw [b205_102, fin _ _ _ _ h1.prt]
    rfl
  · obtain ⟨f1, a1, e1, h1, r1⟩ := m_parts (xs := xs) (L := L) (g := g) (x := x) h
    refine ⟨f1, a1, ?_, h1, r1⟩
    rw [if_neg two_ne0, b205_92, if_neg two_ne1, b205_105, if_pos rfl, b205_110, e1]
    simp only [Option.bind_some, Option.toList_some, List.cons_append, List.nil_append]
    rw [b205_115, fin _ _ _ _ h1.prt]
    rfl
  · obtain ⟨f1, a1, e1, h1, r1⟩ := m_lands (xs := xs) (L := L) (g := g) (x := x) h
    refine ⟨f1, a1, ?_, h1, r1⟩
    rw [if_neg (by decide), b205_92, if_neg (by decide), b205_105, if_neg (by decide), b205_118, e1]
    simp only [Option.bind_some, Option.toList_some, List.cons_append, List.nil_append]
    rw [b205_123, fin _ _ _ _ h1.prt]
    rfl
end S84
theorem ST.act {f a f' a' : Nat → Nat → Int32} {g : Nat → Nat → Int64} (hs : ST f a g) (hf : ∀ q, q ≠ 30 → q ≠ 44 → f' q = f q) (h4 : f' 44 4 = f 44 4) (h6 : f' 44 6 = f 44 6) (h14 : f' 44 14 = f 44 14) (ha : ∀ q, q ≠ 31 → q ≠ 58 → a' q = a q) (new : ACTS f' a') : ST f' a' g := by
  obtain ⟨S, n, W, hT, hM⟩ := hs.tree
  exact ST.mk ⟨S, n, W, hT.keep (fun p h1 h2 => ⟨hf p (by omega) (by omega), ha p (by omega) (by omega)⟩), hM.of (ha 45 (by decide) (by decide))⟩
    (hs.kept.of (by rw [hf 0 (by omega) (by omega)]) h4 (fun p h1 h2 => ⟨hf p (by omega) (by omega), ha p (by omega) (by omega)⟩) (ha 46 (by decide) (by decide)))
    (hs.tape.of (by rw [hf 25 (by omega) (by omega)]) h6 (ha 49 (by decide) (by decide)) (ha 26 (by decide) (by decide)))
    (hs.rows.of (by rw [hf 0 (by omega) (by omega)]) h14 (ha 27 (by decide) (by decide)) (ha 51 (by decide) (by decide)))
    (fun p hp => (hs.shts p hp).of (hf _ (by omega) (by omega)) (by rw [ha 52 (by decide) (by decide)]) (by rw [ha 53 (by decide) (by decide)]) (fun i _ => by rw [ha 54 (by decide) (by decide)]) rfl)
    (fun p hp => (hs.shls p hp).of (hf _ (by omega) (by omega)) (by rw [ha 55 (by decide) (by decide)]) (by rw [ha 56 (by decide) (by decide)]) (by rw [ha 57 (by decide) (by decide)]))
    new
theorem op_act {h w x : Int32} : OPS 107 5 205 5 [vI h, vI w, vI x] := by
  intro xs L f a g hs
  obtain ⟨S, n, W, hT, hM⟩ := hs.tree
  have h8 := W.n8
  -- nothing runs
  have idle : rn xs L 107 0 [vR 0, vI h, vI w, vI x, vS 0] [] (mw f a g) = some (some (vI 0), mw (ma_u2 f 30 4 0) a g) → rn xs L 205 0 [vR 44, vI h, vI w, vI x, vS 0] [] (mw (ma_u2 f 30 4 0) a g) = some (some (vI 0), mw (ma_u2 (ma_u2 f 30 4 0) 44 22 0) a g) → ∃ (v : ma_V) (f1 a1 : Nat → Nat → Int32) (g1 : Nat → Nat → Int64) (f2 a2 : Nat → Nat → Int32) (g2 : Nat → Nat → Int64),
      ev xs L 107 5 (vR 0 :: [vI h, vI w, vI x]) (mw f a g) = some (some v, mw f1 a1 g1) ∧ ev xs L 205 5 (vR 44 :: [vI h, vI w, vI x]) (mw f1 a1 g1) = some (some v, mw f2 a2 g2) ∧ ST f2 a2 g2 := by
    intro e1 e2
    refine ⟨vI 0, ma_u2 f 30 4 0, a, g, ma_u2 (ma_u2 f 30 4 0) 44 22 0, a, g, e1, e2, hs.act (fun q q1 q2 => by rw [u2_ne q2, u2_ne q1]) ?_ ?_ ?_ (fun _ _ _ => rfl) ⟨0, by omega, ?_, ?_, fun i hi => by omega⟩⟩
    · rw [u2_at, if_neg (by omega), u2_ne (by decide)]
    · rw [u2_at, if_neg (by omega), u2_ne (by decide)]
    · rw [u2_at, if_neg (by omega), u2_ne (by decide)]
    · rw [u2_ne (by decide), u2_at, if_pos ⟨rfl, rfl⟩]; rfl
    · rw [u2_at, if_pos ⟨rfl, rfl⟩]; rfl
  have hT0 : isT 1 (ma_u2 f 30 4 0) a S n 0 := hT.keep (fun q h1 h2 => ⟨u2_ne (by omega), rfl⟩)
  by_cases h1 : isw 0 3 h = true
  rotate_left
  · have h1f : isw 0 3 h = false := by simpa using h1
    refine idle ?_ ?_
    · rw [b107_0, e_within, h1f]
      simp only [Option.bind_some, Option.toList_some, List.cons_append, List.nil_append]
      rw [b107_14, if_pos (by decide), b107_26]
    · rw [b205_0, m_isShelf, h1f]
      simp only [Option.bind_some, Option.toList_some, List.cons_append, List.nil_append]
      rw [b205_9, if_pos (by decide), b205_33]
  obtain ⟨q, hq', rfl⟩ := isw_nn 3 rfl (by decide) h1
  have hq : q < 4 := by omega
  have hin : ma_in (nI q) 4 = true := in_of hq (by decide)
  have hnq : (nI q).toNatClampNeg = q := nn_nat (by omega)
  have hsf := is_sf_q hq
  by_cases h2 : isw 0 3 w = true
  rotate_left
  · have h2f : isw 0 3 w = false := by simpa using h2
    refine idle ?_ ?_
    · rw [b107_0, e_within, h1]
      simp only [Option.bind_some, Option.toList_some, List.cons_append, List.nil_append]
      rw [b107_14, if_neg (by decide), b107_17, e_within, h2f]
      simp only [Option.bind_some, Option.toList_some, List.cons_append, List.nil_append]
      rw [b107_23, if_pos (by decide), b107_26]
    · rw [b205_0, m_isShelf, h1]
      simp only [Option.bind_some, Option.toList_some, List.cons_append, List.nil_append]
      rw [b205_9, if_neg (by decide), b205_12, m_in_0_3, h2f]
      simp only [Option.bind_some, Option.toList_some, List.cons_append, List.nil_append]
      rw [b205_21, if_pos (by decide), b205_33]
  have hw : w = 0 ∨ w = 1 ∨ w = 2 ∨ w = 3 := by
    obtain ⟨j, hj, rfl⟩ := isw_nn 3 rfl (by decide) h2
    have : j = 0 ∨ j = 1 ∨ j = 2 ∨ j = 3 := by omega
    rcases this with rfl | rfl | rfl | rfl
    · exact Or.inl rfl
    · exact Or.inr (Or.inl rfl)
    · exact Or.inr (Or.inr (Or.inl rfl))
    · exact Or.inr (Or.inr (Or.inr rfl))
  have f40 : ∀ j, ma_u2 f 30 4 0 (40 + q) j = f (40 + q) j := fun j => by rw [u2_ne (by omega)]
  have hcs : rn xs L 107 0 [vR 0, vI (nI q), vI w, vI x, vS 0] [] (mw f a g) = rn xs L 107 42 [vR 0, vI (nI q), vI w, vI x, vR (40 + q)] [vI (bI (decide (f (40 + q) 0 = 2) || (decide (f (40 + q) 0 = 0) && !hasR n (f (40 + q) 1))))] (mw (ma_u2 f 30 4 0) a g) := by
    rw [b107_0, e_within, h1]
    simp only [Option.bind_some, Option.toList_some, List.cons_append, List.nil_append]
    rw [b107_14, if_neg (by decide), b107_17, e_within, h2]
    simp only [Option.bind_some, Option.toList_some, List.cons_append, List.nil_append]
    rw [b107_23, if_neg (by decide), b107_28 _ _ _ _ hin, hnq, c_nothing hq hT0, f40, f40]
    simp only [Option.bind_some, Option.toList_some, List.cons_append, List.nil_append]
  have hms : ∀ (f1 a1 : Nat → Nat → Int32), isM a1 45 S → rn xs L 205 0 [vR 44, vI (nI q), vI w, vI x, vS 0] [] (mw f1 a1 g) = rn xs L 205 29 [vR 44, vI (nI q), vI w, vI x, vS 0] [vI (if a1 55 q = 1 then (if hasR n (a1 56 q) then 1 else 0) else a1 55 q)] (mw (ma_u2 f1 44 22 0) a1 g) := fun f1 a1 hM1 => by
    rw [b205_0, m_isShelf, h1]
    simp only [Option.bind_some, Option.toList_some, List.cons_append, List.nil_append]
    rw [b205_9, if_neg (by decide), b205_12, m_in_0_3, h2]
    simp only [Option.bind_some, Option.toList_some, List.cons_append, List.nil_append]
    rw [b205_21, if_neg (by decide), b205_24, m_heldOn hq hM1 W]
    simp only [Option.bind_some, Option.toList_some, List.cons_append, List.nil_append]
  rcases hs.shls q hq with ⟨d1, d2⟩ | ⟨o, ho, d1, d2, d3, d4⟩ | ⟨s, hs4, d1, d2, d3, d4, d5⟩
  · refine idle ?_ ?_
    · rw [hcs, d1, show (decide ((2 : Int32) = 2) || decide ((2 : Int32) = 0) && !hasR n (f (40 + q) 1)) = true from rfl, b107_42 _ _ _ _ _ hsf, if_neg (by decide), b107_53 _ _ _ _ hsf]
    · rw [hms _ a hM, d2, if_neg (by decide), b205_29, if_neg (by decide), b205_33]
  · by_cases hh : hasR n (nI o) = true
    rotate_left
    · have hf : hasR n (nI o) = false := by simpa using hh
      refine idle ?_ ?_
      · rw [hcs, d1, d3, hf, b107_42 _ _ _ _ _ hsf, if_neg (by decide), b107_53 _ _ _ _ hsf]
      · rw [hms _ a hM, d2, if_pos rfl, d4, hf, if_neg (by decide), b205_29, if_neg (by decide), b205_33]
    obtain ⟨o2, ho2, e2⟩ := hasR_to h8 hh
    have e3 : o = o2 := (nn_eq (by omega) (by omega)).mp e2
    have hon : o < n := by omega
    have hino : ma_in (nI o) 8 = true := in_of (by omega) (by decide)
    have hno : (nI o).toNatClampNeg = o := nn_nat (by omega)
    have ht4 : a 4 o = lf S o 0 := hT.L.knd o hon
    have ht7 : a 7 o = lf S o 3 := hT.L.sgn o hon
    have F1 : ma_u2 f 30 4 0 (40 + q) 1 = nI o := by rw [f40]; exact d3
    have G1 : ∀ K, ma_u2 (ma_u2 f 30 4 0) 30 0 K (40 + q) 1 = nI o := fun K => by rw [u2_ne (by omega)]; exact F1
    have G2 : ∀ K V, ma_u2 (ma_u2 (ma_u2 f 30 4 0) 30 0 K) 30 1 V (40 + q) 1 = nI o := fun K V => by rw [u2_ne (by omega)]; exact G1 K
    have hrow := b107_55 (xs := xs) (L := L) (f := ma_u2 f 30 4 0) (a := a) (g := g) (nI q) w x (40 + q) hsf (by rw [F1]; exact hino) (by rw [G2]; exact hino)
    rw [F1, hno, ht4, G1, G2, hno, ht7] at hrow
    have hcA : cA (ma_u2 (ma_u2 (ma_u2 (ma_u2 f 30 4 0) 30 0 (lf S o 0)) 30 1 (nI o)) 30 2 (lf S o 3)) a (lf S o 0) (nI o) (lf S o 3) (0, fun _ => 0) (f 30 5) := by
      refine cA.mk ?_ ?_ ?_ ?_ (by decide) ?_ (fun i hi => absurd hi (Nat.not_lt_zero _))
      · rw [u2_at, if_neg (by omega), u2_at, if_neg (by omega), u2_at, if_pos ⟨rfl, rfl⟩]
      · rw [u2_at, if_neg (by omega), u2_at, if_pos ⟨rfl, rfl⟩]
      · rw [u2_at, if_pos ⟨rfl, rfl⟩]
      · rw [u2_at, if_neg (by omega), u2_at, if_neg (by omega), u2_at, if_neg (by omega), u2_at, if_neg (by omega)]
      · rw [u2_at, if_neg (by omega), u2_at, if_neg (by omega), u2_at, if_neg (by omega), u2_at, if_pos ⟨rfl, rfl⟩]; rfl
    obtain ⟨f1, a1, e1, h1c, r1⟩ := c_perform (xs := xs) (L := L) (g := g) (x := x) hw hcA
    have hf1 : ∀ p, p ≠ 30 → f1 p = f p := fun p hp => by rw [r1.1 p hp, u2_ne hp, u2_ne hp, u2_ne hp, u2_ne hp]
    have ha1 : ∀ p, p ≠ 31 → a1 p = a p := r1.2
    have hM1 : isM a1 45 S := hM.of (ha1 45 (by decide))
    have hmA : mA (ma_u2 (ma_u2 (ma_u2 (ma_u2 (ma_u2 f1 44 22 0) 44 26 0) 44 23 (lf S o 0)) 44 24 (nI o)) 44 25 (lf S o 3)) a1 (lf S o 0) (nI o) (lf S o 3) (0, fun _ => 0) 0 := by
      refine mA.mk ?_ ?_ ?_ ?_ (by decide) ?_ (fun i hi => absurd hi (Nat.not_lt_zero _))
      · rw [u2_at, if_neg (by omega), u2_at, if_neg (by omega), u2_at, if_pos ⟨rfl, rfl⟩]
      · rw [u2_at, if_neg (by omega), u2_at, if_pos ⟨rfl, rfl⟩]
      · rw [u2_at, if_pos ⟨rfl, rfl⟩]
      · rw [u2_at, if_neg (by omega), u2_at, if_neg (by omega), u2_at, if_neg (by omega), u2_at, if_pos ⟨rfl, rfl⟩]
      · rw [u2_at, if_neg (by omega), u2_at, if_neg (by omega), u2_at, if_neg (by omega), u2_at, if_neg (by omega), u2_at, if_pos ⟨rfl, rfl⟩]; rfl
    obtain ⟨f2, a2, e2, h2m, r2⟩ := m_perform (xs := xs) (L := L) (g := g) (x := x) (l1 := nI q) (l4 := vS 0) hw hmA
    have hk44 : ∀ k, k ≠ 22 → k ≠ 23 → k ≠ 24 → k ≠ 25 → k ≠ 26 → f2 44 k = f 44 k := fun k k1 k2 k3 k4 k5 => by
      rw [r2.2.1 k k1 k5, u2_at, if_neg (by omega), u2_at, if_neg (by omega), u2_at, if_neg (by omega), u2_at, if_neg (by omega), u2_at, if_neg (by omega), hf1 44 (by decide)]
    have hff : ∀ p, p ≠ 30 → p ≠ 44 → f2 p = f p := fun p p1 p2 => by rw [r2.1 p p2, u2_ne p2, u2_ne p2, u2_ne p2, u2_ne p2, u2_ne p2, hf1 p p1]
    have haa : ∀ p, p ≠ 31 → p ≠ 58 → a2 p = a p := fun p p1 p2 => (r2.2.2 p p2).trans (ha1 p p1)
    have y30 : f2 30 = f1 30 := by rw [r2.1 30 (by decide), u2_ne (by decide), u2_ne (by decide), u2_ne (by decide), u2_ne (by decide), u2_ne (by decide)]
    have y31 : a2 31 = a1 31 := r2.2.2 31 (by decide)
    refine ⟨vI (anX w (lf S o 0) (nI o) (lf S o 3) x), f1, a1, g, f2, a2, g, ?_, ?_, hs.act hff (hk44 4 (by decide) (by decide) (by decide) (by decide) (by decide)) (hk44 6 (by decide) (by decide) (by decide) (by decide) (by decide)) (hk44 14 (by decide) (by decide) (by decide) (by decide) (by decide)) haa ⟨_, h1c.le, ?_, h2m.cnt, fun i hi => ?_⟩⟩
    · show rn xs L 107 0 [vR 0, vI (nI q), vI w, vI x, vS 0] [] (mw f a g) = _
      rw [hcs, d1, d3, hh, b107_42 _ _ _ _ _ hsf, if_pos (by decide), b107_45 _ _ _ _ hsf, f40, d1, if_pos rfl, hrow, e1]
      simp only [Option.bind_some, Option.toList_some, List.cons_append, List.nil_append]
      rw [b107_116 _ _ _ _ _ hsf]
    · show rn xs L 205 0 [vR 44, vI (nI q), vI w, vI x, vS 0] [] (mw f1 a1 g) = _
      rw [hms f1 a1 hM1, ha1 55 (by decide), ha1 56 (by decide), d2, if_pos rfl, d4, hh, if_pos rfl, b205_29, if_pos rfl, b205_35 _ _ _ _ hin, hnq, ha1 56 (by decide), d4, m_its0 hM1 (by omega)]
      simp only [Option.bind_some, Option.toList_some, List.cons_append, List.nil_append]
      rw [b205_52 _ _ _ _ _ hin hin, hnq, ha1 56 (by decide), d4, m_its3 hM1 (by omega)]
      simp only [Option.bind_some, Option.toList_some, List.cons_append, List.nil_append]
      rw [b205_77]
      exact e2
    · rw [y30]; exact h1c.cnt
    · rw [y31, h1c.ran i hi, h2m.ran i hi]
  · refine idle ?_ ?_
    · rw [hcs, d1, show (decide ((1 : Int32) = 2) || decide ((1 : Int32) = 0) && !hasR n (f (40 + q) 1)) = false from rfl, b107_42 _ _ _ _ _ hsf, if_pos (by decide), b107_45 _ _ _ _ hsf, f40, d1, if_neg (by decide), b107_53 _ _ _ _ hsf]
    · rw [hms _ a hM, d2, if_neg (by decide), b205_29, if_neg (by decide), b205_33]
