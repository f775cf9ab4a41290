/-! ===== autumn: both ===== -/
section S98
variable {xs : Nat → Int32} {L : Nat} {f a : Nat → Nat → Int32} {g : Nat → Nat → Int64} {B : Nat → Nat} {l n : Nat} {S : Row}
theorem c_read (hl : l ≤ 200) {z : Int32} (hB : byC a B l) (h1 : f 25 1 = nI l) (hT : isT 9 f a (baseR z) 0 0) :
    (∀ S' n', rdR B l (l + 1) 0 (baseR z) 0 = Sum.inl (S', n') → ∃ f' a', ev xs L 15 5 [vR 25, vR 9] (mw f a g) = some (some (vI (-1)), mw f' a' g) ∧ WF S' n' ∧ isT 9 f' a' S' n' 0 ∧ frI f a f' a') ∧
    (∀ x, rdR B l (l + 1) 0 (baseR z) 0 = Sum.inr x → ∃ f' a', ev xs L 15 5 [vR 25, vR 9] (mw f a g) = some (some (vI (nI (stt B l x))), mw f' a' g) ∧ x ≤ l ∧ frI f a f' a') := by
  obtain ⟨f1, e1, hS, r1⟩ := c_step (xs := xs) (L := L) (g := g) (f := ma_u2 (ma_u2 f 25 4 0) 25 5 (-1)) (flt := -1) (p := 0) hB hl (by rw [u2_at, if_neg (by omega), u2_at, if_neg (by omega)]; exact h1) (by rw [u2_at, if_neg (by omega), u2_at, if_pos ⟨rfl, rfl⟩]; rfl) (by rw [u2_at, if_pos ⟨rfl, rfl⟩]) (by omega)
  have r01 : frT f f1 := (frT.u.tr frT.u).tr r1
  have hT1 : isT 9 f1 a (baseR z) 0 0 := hT.keep (fun q q1 q2 => ⟨r01 q (by omega), rfl⟩)
  have s0 : ev xs L 15 5 [vR 25, vR 9] (mw f a g) = rn xs L 15 16 [vR 25, vR 9, vI (nI 0), vS 0, vS 0] [] (mw f1 a g) := by
    show rn xs L 15 0 [vR 25, vR 9, vS 0, vS 0, vS 0] [] (mw f a g) = _
    rw [b15_0 _ _ _ _ tr9, e1]
    simp only [Option.bind_some, Option.toList_none, List.nil_append]
    rw [b15_14 _ _ _ _ tr9]
    rfl
  obtain ⟨c1, c2⟩ := c_loop (xs := xs) (L := L) (g := g) hl (l + 1) 0 0 0 (baseR z) f1 a (vS 0) (vS 0) (by omega) (by omega) (by omega) WF.base Zt.base hB hS hT1
  refine ⟨fun S' n' hr => ?_, fun x hr => ?_⟩
  · obtain ⟨f2, a2, e2, W2, hT2, r2⟩ := c1 S' n' hr
    exact ⟨f2, a2, s0.trans e2, W2, hT2, r01.I.tr r2⟩
  · obtain ⟨f2, a2, e2, x2, r2⟩ := c2 x hr
    exact ⟨f2, a2, s0.trans e2, x2, r01.I.tr r2⟩
theorem c_aut (hl : l ≤ 200) (hB : byC a B l) (h1 : f 25 1 = nI l) (hT : isT 1 f a S n 0) :
    (∀ S' n', rdR B l (l + 1) 0 (baseR (S 2)) 0 = Sum.inl (S', n') → ∃ f' a', ev xs L 57 2 [vR 0] (mw f a g) = some (some (vI (nI n')), mw f' a' g) ∧ WF S' n' ∧ isT 1 f' a' S' n' 0 ∧ f' 25 1 = 0 ∧ f' 0 6 = 0 ∧ (∀ k, k ≠ 6 → f' 0 k = f 0 k) ∧ (∀ q, 17 ≤ q → q ≠ 25 → f' q = f q) ∧ (∀ q, 17 ≤ q → a' q = a q)) ∧
    (∀ x, rdR B l (l + 1) 0 (baseR (S 2)) 0 = Sum.inr x → ∃ f' a', ev xs L 57 2 [vR 0] (mw f a g) = some (some (vI (-100 - nI (stt B l x))), mw f' a' g) ∧ x ≤ l ∧ f' 25 1 = 0 ∧ (∀ q, oT 9 q → q ≠ 25 → f' q = f q) ∧ (∀ q, oT 9 q → a' q = a q)) := by
  obtain ⟨f1, a1, e1, hT1, k1, k2⟩ := c_clear (xs := xs) (L := L) (g := g) (f := f) (a := a)
  have hz : f1 1 10 = S 2 := by rw [k1 1 (by decide)]; exact hT.z
  obtain ⟨c1, c2⟩ := c_read (xs := xs) (L := L) (g := g) (f := ma_u2 f1 9 10 (f1 1 10)) (a := a1) (z := S 2) hl (hB.of (k2 26 (by omega))) (by rw [u2_ne (by decide), k1 25 (by decide)]; exact h1) (by rw [hz]; exact hT1 (S 2))
  have kf : ∀ q, q ≠ 9 → ma_u2 f1 9 10 (f1 1 10) q = f q := fun q hq => (u2_ne hq).trans (k1 q hq)
  have s0 : ev xs L 57 2 [vR 0] (mw f a g) = (ev xs L 15 5 [vR 25, vR 9] (mw (ma_u2 f1 9 10 (f1 1 10)) a1 g)).bind (fun c => rn xs L 57 32 [vR 0, vS 0] (c.1.toList ++ []) c.2) := by
    show rn xs L 57 0 [vR 0, vS 0] [] (mw f a g) = _
    rw [b57_0, e1]
    simp only [Option.bind_some, Option.toList_none, List.nil_append]
    rw [b57_7]
  refine ⟨fun S' n' hr => ?_, fun x hr => ?_⟩
  · obtain ⟨f2, a2, e2, W2, hT2, r2⟩ := c1 S' n' hr
    have hT2' : isT 9 (ma_u2 f2 25 1 0) a2 S' n' 0 := hT2.keep (fun q q1 q2 => ⟨u2_ne (by omega), rfl⟩)
    obtain ⟨f3, a3, e3, hT3, hs3⟩ := c_become (xs := xs) (L := L) (g := g) tr1 tr9 (by decide) W2 hT2'
    have f3q : ∀ q, oT 1 q → f3 q = ma_u2 f2 25 1 0 q := fun q hq => (hs3 q hq).1
    refine ⟨ma_u2 f3 0 6 0, a3, ?_, W2, hT3.keep (fun q q1 q2 => ⟨u2_ne (by omega), rfl⟩), ?_, ?_, fun k hk => ?_, fun q q1 q2 => ?_, fun q q1 => ?_⟩
    · rw [s0, e2]
      simp only [Option.bind_some, Option.toList_some, List.cons_append, List.nil_append]
      rw [b57_32, if_pos (by decide), b57_50, e3]
      simp only [Option.bind_some, Option.toList_none, List.nil_append]
      rw [b57_61, u2_ne (by decide), hT3.L.cnt]
    · rw [u2_ne (by decide), f3q 25 (Or.inr (by decide)), u2_at, if_pos ⟨rfl, rfl⟩]
    · rw [u2_at, if_pos ⟨rfl, rfl⟩]
    · rw [u2_at, if_neg (fun x => hk x.2), f3q 0 (Or.inl (by decide)), u2_ne (by decide), r2.1 0 (Or.inl (by decide)) (by decide), kf 0 (by decide)]
    · rw [u2_ne (by omega), f3q q (Or.inr (by omega)), u2_ne q2, r2.1 q (Or.inr (by omega)) q2, kf q (by omega)]
    · rw [(hs3 q (Or.inr (by omega))).2.1, r2.2 q (Or.inr (by omega)), k2 q (Or.inr q1)]
  · obtain ⟨f2, a2, e2, x2, r2⟩ := c2 x hr
    have hx := stt_le (B := B) x2
    refine ⟨ma_u2 f2 25 1 0, a2, ?_, x2, ?_, fun q q1 q2 => ?_, fun q q1 => ?_⟩
    · rw [s0, e2]
      simp only [Option.bind_some, Option.toList_some, List.cons_append, List.nil_append]
      rw [b57_32, if_neg (nI_pos (by omega)), b57_45]
    · rw [u2_at, if_pos ⟨rfl, rfl⟩]
    · rw [u2_ne q2, r2.1 q q1 q2, kf q (by unfold oT at q1; omega)]
    · rw [r2.2 q q1, k2 q q1]
theorem m_aut (hl : l ≤ 200) (hB : byM a B l) (h6 : f 44 6 = nI l) (hM : isM a 45 S) :
    (∀ S' n', rdR B l (l + 1) 0 (baseR (S 2)) 0 = Sum.inl (S', n') → ∃ f' a', ev xs L 116 1 [vR 44] (mw f a g) = some (some (vI (S' 0)), mw f' a' g) ∧ isM a' 45 S' ∧ f' 44 6 = 0 ∧ f' 44 14 = 0 ∧ (∀ q, q ≠ 44 → f' q = f q) ∧ (∀ k, k < 6 ∨ (11 < k ∧ k ≠ 14) → f' 44 k = f 44 k) ∧ (∀ q, q ≠ 45 → q ≠ 48 → a' q = a q)) ∧
    (∀ x, rdR B l (l + 1) 0 (baseR (S 2)) 0 = Sum.inr x → ∃ f' a', ev xs L 116 1 [vR 44] (mw f a g) = some (some (vI (-100 - nI (stt B l x))), mw f' a' g) ∧ isM a' 45 S ∧ f' 44 6 = 0 ∧ (∀ q, q ≠ 44 → f' q = f q) ∧ (∀ k, k < 6 ∨ 11 < k → f' 44 k = f 44 k) ∧ (∀ q, q ≠ 45 → q ≠ 48 → a' q = a q)) := by
  obtain ⟨a1, e1, hM1, k1⟩ := m_copy (xs := xs) (L := L) (f := f) (g := g) (l0 := 45) (l1 := 48) (Or.inl rfl) (Or.inr (Or.inr (Or.inr rfl))) (by decide) hM
  obtain ⟨a2, e2, hM2, k2⟩ := m_begins (xs := xs) (L := L) (f := f) (g := g) (a := a1)
  have hz : a1 45 2 = S 2 := by rw [k1 45 (by decide)]; exact hM 2 (by decide)
  rw [hz] at hM2
  have k12 : ∀ q, q ≠ 45 → q ≠ 48 → a2 q = a q := fun q q1 q2 => (k2 q q1).trans (k1 q q2)
  have hM48 : isM a2 48 S := hM1.of (k2 48 (by decide))
  have hB2 : byM a2 B l := hB.of (k12 49 (by decide) (by decide))
  obtain ⟨f3, e3, hS, r3⟩ := m_step (xs := xs) (L := L) (g := g) (f := ma_u2 (ma_u2 f 44 9 0) 44 11 0) (w := 0) (p := 0) hB2 hl (by rw [u2_at, if_neg (by omega), u2_at, if_neg (by omega)]; exact h6) (by rw [u2_at, if_neg (by omega), u2_at, if_pos ⟨rfl, rfl⟩]; rfl) (by rw [u2_at, if_pos ⟨rfl, rfl⟩]) (by omega)
  have r03 : frX f f3 := ((frX.u (by omega)).tr (frX.u (by omega))).tr r3
  have s0 : ev xs L 116 1 [vR 44] (mw f a g) = rn xs L 116 29 [vR 44] [] (mw f3 a2 g) := by
    show rn xs L 116 0 [vR 44] [] (mw f a g) = _
    rw [b116_0, e1]
    simp only [Option.bind_some, Option.toList_none, List.nil_append]
    rw [b116_11, e2]
    simp only [Option.bind_some, Option.toList_none, List.nil_append]
    rw [b116_15, e3]
    simp only [Option.bind_some, Option.toList_none, List.nil_append]
  obtain ⟨c1, c2⟩ := m_loop (xs := xs) (L := L) (g := g) hl (l + 1) 0 0 (baseR (S 2)) f3 a2 (by omega) (by omega) WF.base Zt.base hB2 hS hM2
  refine ⟨fun S' n' hr => ?_, fun x hr => ?_⟩
  · obtain ⟨f4, a4, e4, w4, hM4, r4, k4⟩ := c1 S' n' hr
    have r := r03.tr r4
    refine ⟨ma_u2 (ma_u2 f4 44 6 0) 44 14 0, a4, ?_, hM4, ?_, ?_, fun q hq => ?_, fun k hk => ?_, fun q q1 q2 => (k4 q q1).trans (k12 q q1 q2)⟩
    · rw [s0, e4, b116_50, if_pos (by rw [u2_at, if_neg (by omega)]; exact w4), b116_81, hM4 0 (by decide)]
    · rw [u2_at, if_neg (by omega), u2_at, if_pos ⟨rfl, rfl⟩]
    · rw [u2_at, if_pos ⟨rfl, rfl⟩]
    · rw [u2_ne hq, u2_ne hq]; exact r.1 q hq
    · rw [u2_at, if_neg (by omega), u2_at, if_neg (by omega)]; exact r.2 k (by omega)
  · obtain ⟨f4, a4, e4, w4, t4, r4, k4⟩ := c2 x hr
    have r := r03.tr r4
    have hM484 : isM a4 48 S := hM48.of (k4 48 (by decide))
    obtain ⟨a5, e5, hM5, k5⟩ := m_copy (xs := xs) (L := L) (f := ma_u2 f4 44 6 0) (g := g) (l0 := 48) (l1 := 45) (Or.inr (Or.inr (Or.inr rfl))) (Or.inl rfl) (by decide) hM484
    refine ⟨ma_u2 f4 44 6 0, a5, ?_, hM5, ?_, fun q hq => ?_, fun k hk => ?_, fun q q1 q2 => (k5 q q1).trans ((k4 q q1).trans (k12 q q1 q2))⟩
    · rw [s0, e4, b116_50, if_neg (by rw [u2_at, if_neg (by omega), w4]; decide), b116_62, e5]
      simp only [Option.bind_some, Option.toList_none, List.nil_append]
      rw [b116_73, u2_at, if_neg (by omega), t4]
    · rw [u2_at, if_pos ⟨rfl, rfl⟩]
    · rw [u2_ne hq]; exact r.1 q hq
    · rw [u2_at, if_neg (by omega)]; exact r.2 k (by omega)
end S98
theorem ST.aut {f a f' a' : Nat → Nat → Int32} {g : Nat → Nat → Int64} (h : ST f a g) (ht : ∃ S n, WF S n ∧ isT 1 f' a' S n 0 ∧ isM a' 45 S) (hr : ROWS f' a') (h25 : f' 25 1 = 0) (h46 : f' 44 6 = 0) (e0 : f' 0 3 = f 0 3) (e4 : f' 44 4 = f 44 4) (e22 : f' 44 22 = f 44 22) (ef : ∀ q, 17 ≤ q → q ≠ 25 → q ≠ 44 → f' q = f q) (ea : ∀ q, 17 ≤ q → q ≠ 45 → q ≠ 48 → a' q = a q) : ST f' a' g := by
  have e30 := ef 30 (by omega) (by omega) (by omega)
  refine ST.mk ht (h.kept.of e0 e4 (fun q h1 h2 => ⟨ef q (by omega) (by omega) (by omega), ea q (by omega) (by omega) (by omega)⟩) (ea 46 (by decide) (by decide) (by decide))) ⟨0, by omega, h25, h46, fun i hi => absurd hi (by omega)⟩ hr (fun q hq => (h.shts q hq).of (ef _ (by omega) (by omega) (by omega)) (by rw [ea 52 (by decide) (by decide) (by decide)]) (by rw [ea 53 (by decide) (by decide) (by decide)]) (fun i hi => by rw [ea 54 (by decide) (by decide) (by decide)]) rfl) (fun q hq => (h.shls q hq).of (ef _ (by omega) (by omega) (by omega)) (by rw [ea 55 (by decide) (by decide) (by decide)]) (by rw [ea 56 (by decide) (by decide) (by decide)]) (by rw [ea 57 (by decide) (by decide) (by decide)])) (h.acts.of (by rw [e30]) e22 (ea 31 (by decide) (by decide) (by decide)) (ea 58 (by decide) (by decide) (by decide)))
theorem op_autumn : OPS 57 2 116 1 [] := by
  intro xs L f a g hs
  obtain ⟨S, n, W, hT, hM⟩ := hs.tree
  obtain ⟨l, hl, h25, h46, ht⟩ := hs.tape
  have hb : ∀ i, i < l → (a 49 i).toNatClampNeg < 256 ∧ a 49 i = nI (a 49 i).toNatClampNeg ∧ a 26 i = sB (a 49 i).toNatClampNeg := fun i hi => by
    obtain ⟨b, h1, h2, h3⟩ := ht i hi
    have h4 : (a 49 i).toNatClampNeg = b := by rw [h2]; exact nn_nat (by omega)
    rw [h4]
    exact ⟨h1, h2, h3⟩
  have hC : byC a (fun i => (a 49 i).toNatClampNeg) l := fun i hi => ⟨(hb i hi).1, (hb i hi).2.2⟩
  obtain ⟨c1, c2⟩ := c_aut (xs := xs) (L := L) (g := g) hl hC h25 hT
  cases eq : rdR (fun i => (a 49 i).toNatClampNeg) l (l + 1) 0 (baseR (S 2)) 0 with
  | inl w =>
    obtain ⟨S', n'⟩ := w
    obtain ⟨f1, a1, e1, W1, hT1, t25, t6, k0, kf, ka⟩ := c1 S' n' eq
    have hB1 : byM a1 (fun i => (a 49 i).toNatClampNeg) l := fun i hi => ⟨(hb i hi).1, by rw [ka 49 (by decide)]; exact (hb i hi).2.1⟩
    obtain ⟨f2, a2, e2, hM2, t46, t14, kf2, kk2, ka2⟩ := (m_aut (xs := xs) (L := L) (g := g) (f := f1) (a := a1) hl hB1 (by rw [kf 44 (by decide) (by decide)]; exact h46) (hM.of (ka 45 (by decide)))).1 S' n' eq
    have e44 := kf 44 (by decide) (by decide)
    refine ⟨vI (nI n'), f1, a1, g, f2, a2, g, e1, by rw [← W1.cn]; exact e2, hs.aut ⟨S', n', W1, hT1.keep (fun q q1 q2 => ⟨kf2 q (by omega), ka2 q (by omega) (by omega)⟩), hM2⟩ ?_ (by rw [kf2 25 (by decide)]; exact t25) t46 (by rw [kf2 0 (by decide)]; exact k0 3 (by decide)) (by rw [kk2 4 (by decide), e44]) (by rw [kk2 22 (by decide), e44]) (fun q q1 q2 q3 => (kf2 q q3).trans (kf q q1 q2)) (fun q q1 q2 q3 => (ka2 q q2 q3).trans (ka q q1))⟩
    obtain ⟨r, hr, r1, r2, r3⟩ := hs.rows
    refine ⟨0, by omega, by rw [kf2 0 (by decide)]; exact t6, t14, fun i hi => ?_⟩
    rw [ka2 27 (by decide) (by decide), ka2 51 (by decide) (by decide), ka 27 (by decide), ka 51 (by decide)]
    exact r3 i hi
  | inr x =>
    obtain ⟨f1, a1, e1, x1, t25, kf, ka⟩ := c2 x eq
    have hB1 : byM a1 (fun i => (a 49 i).toNatClampNeg) l := fun i hi => ⟨(hb i hi).1, by rw [ka 49 (Or.inr (by decide))]; exact (hb i hi).2.1⟩
    have e44 := kf 44 (Or.inr (by decide)) (by decide)
    have e0 := kf 0 (Or.inl (by decide)) (by decide)
    obtain ⟨f2, a2, e2, hM2, t46, kf2, kk2, ka2⟩ := (m_aut (xs := xs) (L := L) (g := g) (f := f1) (a := a1) hl hB1 (by rw [e44]; exact h46) (hM.of (ka 45 (Or.inr (by decide))))).2 x eq
    refine ⟨vI (-100 - nI (stt (fun i => (a 49 i).toNatClampNeg) l x)), f1, a1, g, f2, a2, g, e1, e2, hs.aut ⟨S, n, W, hT.keep (fun q q1 q2 => ⟨(kf2 q (by omega)).trans (kf q (Or.inl (by omega)) (by omega)), (ka2 q (by omega) (by omega)).trans (ka q (Or.inl (by omega)))⟩), hM2⟩ ?_ (by rw [kf2 25 (by decide)]; exact t25) t46 (by rw [kf2 0 (by decide), e0]) (by rw [kk2 4 (by decide), e44]) (by rw [kk2 22 (by decide), e44]) (fun q q1 q2 q3 => (kf2 q q3).trans (kf q (Or.inr q1) q2)) (fun q q1 q2 q3 => (ka2 q q2 q3).trans (ka q (Or.inr q1)))⟩
    exact hs.rows.of (by rw [kf2 0 (by decide), e0]) (by rw [kk2 14 (by decide), e44]) ((ka2 27 (by decide) (by decide)).trans (ka 27 (Or.inr (by decide)))) ((ka2 51 (by decide) (by decide)).trans (ka 51 (Or.inr (by decide))))
