/-! ===== shelf, taken ===== -/
theorem ST.shl {f a f' a' : Nat → Nat → Int32} {g g' : Nat → Nat → Int64} {q : Nat} (hs : ST f a g) (hq : q < 4) (hff : ∀ p, p ≠ 40 + q → f' p = f p) (haa : ∀ p, p ≠ 55 → p ≠ 56 → p ≠ 57 → a' p = a p) (hgg : ∀ p, g' p = g p) (h55 : ∀ k, k ≠ q → a' 55 k = a 55 k ∧ a' 56 k = a 56 k ∧ a' 57 k = a 57 k) (new : SHL f' a' q) : ST f' a' g' := by
  obtain ⟨S, n, W, hT, hM⟩ := hs.tree
  refine ST.mk ⟨S, n, W, hT.keep (fun p h1 h2 => ⟨hff p (by omega), haa p (by omega) (by omega) (by omega)⟩), hM.of (haa 45 (by decide) (by decide) (by decide))⟩
    (hs.kept.of (by rw [hff 0 (by omega)]) (by rw [hff 44 (by omega)]) (fun p h1 h2 => ⟨hff p (by omega), haa p (by omega) (by omega) (by omega)⟩) (haa 46 (by decide) (by decide) (by decide)))
    (hs.tape.of (by rw [hff 25 (by omega)]) (by rw [hff 44 (by omega)]) (haa 49 (by decide) (by decide) (by decide)) (haa 26 (by decide) (by decide) (by decide)))
    (hs.rows.of (by rw [hff 0 (by omega)]) (by rw [hff 44 (by omega)]) (haa 27 (by decide) (by decide) (by decide)) (haa 51 (by decide) (by decide) (by decide)))
    (fun p hp => (hs.shts p hp).of (hff _ (by omega)) (by rw [haa 52 (by decide) (by decide) (by decide)]) (by rw [haa 53 (by decide) (by decide) (by decide)]) (fun i _ => by rw [haa 54 (by decide) (by decide) (by decide)]) (hgg _))
    (fun p hp => ?_)
    (hs.acts.of (by rw [hff 30 (by omega)]) (by rw [hff 44 (by omega)]) (haa 31 (by decide) (by decide) (by decide)) (haa 58 (by decide) (by decide) (by decide)))
  by_cases e : p = q
  · rw [e]; exact new
  · exact (hs.shls p hp).of (hff _ (by omega)) (h55 p e).1 (h55 p e).2.1 (h55 p e).2.2
def sh3 (a : Nat → Nat → Int32) (q : Nat) (x y z : Int32) : Nat → Nat → Int32 := ma_u2 (ma_u2 (ma_u2 a 55 q x) 56 q y) 57 q z
theorem sh3_ne {a : Nat → Nat → Int32} {q p : Nat} {x y z : Int32} (h1 : p ≠ 55) (h2 : p ≠ 56) (h3 : p ≠ 57) : sh3 a q x y z p = a p := by
  unfold sh3
  rw [u2_ne h3, u2_ne h2, u2_ne h1]
theorem sh3_k {a : Nat → Nat → Int32} {q k : Nat} {x y z : Int32} (h : k ≠ q) : sh3 a q x y z 55 k = a 55 k ∧ sh3 a q x y z 56 k = a 56 k ∧ sh3 a q x y z 57 k = a 57 k := by
  unfold sh3
  refine ⟨?_, ?_, ?_⟩
  · rw [u2_ne (by decide), u2_ne (by decide), u2_at, if_neg (fun p => h p.2)]
  · rw [u2_ne (by decide), u2_at, if_neg (fun p => h p.2), u2_ne (by decide)]
  · rw [u2_at, if_neg (fun p => h p.2), u2_ne (by decide), u2_ne (by decide)]
theorem sh3_q {a : Nat → Nat → Int32} {q : Nat} {x y z : Int32} : sh3 a q x y z 55 q = x ∧ sh3 a q x y z 56 q = y ∧ sh3 a q x y z 57 q = z := by
  unfold sh3
  refine ⟨?_, ?_, ?_⟩
  · rw [u2_ne (by decide), u2_ne (by decide), u2_at, if_pos ⟨rfl, rfl⟩]
  · rw [u2_ne (by decide), u2_at, if_pos ⟨rfl, rfl⟩]
  · rw [u2_at, if_pos ⟨rfl, rfl⟩]
section S77
variable {xs : Nat → Int32} {L : Nat} {f a : Nat → Nat → Int32} {g : Nat → Nat → Int64}
theorem m_isShelf {x : Int32} : ev xs L 201 1 [vI x] (mw f a g) = some (some (vI (bI (isw 0 3 x))), mw f a g) := by
  show rn xs L 201 0 [vI x] [] (mw f a g) = _
  rw [b201_0, m_in_0_3]
  simp only [Option.bind_some, Option.toList_some, List.cons_append, List.nil_append]
  rw [b201_9 _ _ bI_01]
theorem one_ne0 : ¬ (1 : Int32) = 0 := by decide
theorem two_ne0 : ¬ (2 : Int32) = 0 := by decide
theorem two_ne1 : ¬ (2 : Int32) = 1 := by decide
theorem zero_ne1 : ¬ (0 : Int32) = 1 := by decide
theorem zero_ne2 : ¬ (0 : Int32) = 2 := by decide
theorem one_ne2 : ¬ (1 : Int32) = 2 := by decide
end S77
theorem op_shelf {h w n : Int32} : OPS 103 5 200 5 [vI h, vI w, vI n] := by
  intro xs L f a g hs
  obtain ⟨S, N, W, hT, hM⟩ := hs.tree
  have h8 := W.n8
  by_cases h1 : isw 0 3 h = true
  rotate_left
  · refine ⟨vI (-1), f, a, g, f, a, g, ?_, ?_, hs⟩
    · show rn xs L 103 0 [vR 0, vI h, vI w, vI n, vS 0] [] (mw f a g) = _
      simp [b103_0, b103_6, b103_9, b103_11, b103_23, b103_31, b103_34, b103_40, b103_43, b103_48, b103_54, b103_57, b103_68, b103_71, b103_76, b103_85, e_within, h1, bI]
    · show rn xs L 200 0 [vR 44, vI h, vI w, vI n, vS 0] [] (mw f a g) = _
      rw [b200_0, m_isShelf, Bool.eq_false_iff.mpr h1]
      simp only [Option.bind_some, Option.toList_some, List.cons_append, List.nil_append]
      rw [b200_4, if_pos (by decide), b200_43]
  obtain ⟨q, hq', rfl⟩ := isw_nn 3 rfl (by decide) h1
  have hq : q < 4 := by omega
  have hin : ma_in (nI q) 4 = true := in_of hq (by decide)
  have hnq : (nI q).toNatClampNeg = q := nn_nat (by omega)
  have hsf := is_sf_q hq
  have hcs : rn xs L 103 0 [vR 0, vI (nI q), vI w, vI n, vS 0] [] (mw f a g) = if w = 0 then rn xs L 103 23 [vR 0, vI (nI q), vI w, vI n, vR (40 + q)] [] (mw f a g) else rn xs L 103 43 [vR 0, vI (nI q), vI w, vI n, vR (40 + q)] [] (mw f a g) := by
    rw [b103_0, e_within, h1]
    simp only [Option.bind_some, Option.toList_some, List.cons_append, List.nil_append]
    rw [b103_6, if_neg (by decide), b103_11 _ _ _ _ hin, hnq]
  have hms : ∀ (f a : Nat → Nat → Int32) (g : Nat → Nat → Int64), rn xs L 200 0 [vR 44, vI (nI q), vI w, vI n, vS 0] [] (mw f a g) = rn xs L 200 16 [vR 44, vI (nI q), vI w, vI n, vS 0] [vI (bI (isw 0 2 w))] (mw f a g) := fun f a g => by
    rw [b200_0, m_isShelf, h1]
    simp only [Option.bind_some, Option.toList_some, List.cons_append, List.nil_append]
    rw [b200_4, if_neg (by decide), b200_7, m_in_0_2]
    simp only [Option.bind_some, Option.toList_some, List.cons_append, List.nil_append]
  -- nothing comes to lie on it
  have nothing : ∀ (f1 : Nat → Nat → Int32), (¬ w = 0) → rn xs L 200 63 [vR 44, vI (nI q), vI w, vI n, vS 0] [] (mw f1 a g) = some (some (vI 1), mw f1 (sh3 a q 0 0 0) g) := fun f1 hw0 => by
    rw [b200_63, if_neg hw0, b200_79, if_pos rfl, b200_88 _ _ _ _ _ hin, if_neg hw0, hnq, b200_103, if_pos rfl, b200_117 _ _ _ _ _ hin, if_pos rfl, hnq, b200_138 _ _ _ _ _ hin, hnq]
    rfl
  by_cases w0 : w = 0
  · subst w0
    have hw2 : isw 0 2 0 = true := by decide
    by_cases h3 : hasR N n = true
    · obtain ⟨o, ho, rfl⟩ := hasR_to h8 h3
      refine ⟨vI 1, ma_u2 (ma_u2 f (40 + q) 0 0) (40 + q) 1 (nI o), a, g, ma_u2 (ma_u2 f (40 + q) 0 0) (40 + q) 1 (nI o), sh3 a q 1 (nI o) 0, g, ?_, ?_, ?_⟩
      · show rn xs L 103 0 [vR 0, vI (nI q), vI 0, vI (nI o), vS 0] [] (mw f a g) = _
        have ek : ev xs L 12 2 [vR (40 + q), vI (nI o)] (mw f a g) = some (none, mw (ma_u2 (ma_u2 f (40 + q) 0 0) (40 + q) 1 (nI o)) a g) := b12_0 _ _ hsf
        rw [hcs, if_pos rfl, b103_23 _ _ _ _ hsf, c_has tr1 hT.L, h3]
        simp only [Option.bind_some, Option.toList_some, List.cons_append, List.nil_append]
        rw [b103_31 _ _ _ _ _ hsf, if_neg (by decide), b103_34 _ _ _ _ hsf, ek]
        simp only [Option.bind_some, Option.toList_none, List.nil_append]
        rw [b103_40 _ _ _ _ hsf]
      · show rn xs L 200 0 [vR 44, vI (nI q), vI 0, vI (nI o), vS 0] [] (mw _ a g) = _
        rw [hms, hw2, b200_16, if_neg (by decide), b200_19, if_pos rfl, b200_23, m_has hM W, h3]
        simp only [Option.bind_some, Option.toList_some, List.cons_append, List.nil_append]
        rw [b200_28, if_neg (by decide), b200_31, if_neg zero_ne1, b200_45, if_neg zero_ne1, b200_63, if_pos rfl, b200_75 _ _ _ _ _ hin, if_pos rfl, hnq, b200_99 _ _ _ _ _ hin, if_pos rfl, hnq, b200_138 _ _ _ _ _ hin, hnq]
        rfl
      · refine hs.shl hq (fun p hp => by rw [u2_ne hp, u2_ne hp]) (fun p p1 p2 p3 => sh3_ne p1 p2 p3) (fun _ => rfl) (fun k hk => sh3_k hk) (Or.inr (Or.inl ⟨o, by omega, ?_, sh3_q.1, ?_, sh3_q.2.1⟩))
        · rw [u2_at, if_neg (by omega), u2_at, if_pos ⟨rfl, rfl⟩]
        · rw [u2_at, if_pos ⟨rfl, rfl⟩]
    · have h3f : hasR N n = false := by simpa using h3
      refine ⟨vI (-1), f, a, g, f, a, g, ?_, ?_, hs⟩
      · show rn xs L 103 0 [vR 0, vI (nI q), vI 0, vI n, vS 0] [] (mw f a g) = _
        rw [hcs, if_pos rfl, b103_23 _ _ _ _ hsf, c_has tr1 hT.L, h3f]
        simp only [Option.bind_some, Option.toList_some, List.cons_append, List.nil_append]
        rw [b103_31 _ _ _ _ _ hsf, if_pos (by decide), b103_43 _ _ _ _ hsf, if_neg zero_ne1, b103_71 _ _ _ _ hsf, if_neg zero_ne2, b103_85 _ _ _ _ hsf]
      · show rn xs L 200 0 [vR 44, vI (nI q), vI 0, vI n, vS 0] [] (mw f a g) = _
        rw [hms, hw2, b200_16, if_neg (by decide), b200_19, if_pos rfl, b200_23, m_has hM W, h3f]
        simp only [Option.bind_some, Option.toList_some, List.cons_append, List.nil_append]
        rw [b200_28, if_pos (by decide), b200_43]
  by_cases w1 : w = 1
  · subst w1
    have hw2 : isw 0 2 1 = true := by decide
    by_cases h3 : isw 0 3 n = true
    · obtain ⟨k, hk', rfl⟩ := isw_nn 3 rfl (by decide) h3
      have hk : k < 4 := by omega
      have hink : ma_in (nI k) 4 = true := in_of hk (by decide)
      have hnk : (nI k).toNatClampNeg = k := nn_nat (by omega)
      have hsh := is_sh_q hk
      have hms2 : ∀ (f1 : Nat → Nat → Int32), rn xs L 200 0 [vR 44, vI (nI q), vI 1, vI (nI k), vS 0] [] (mw f1 a g) = if a 52 k < 0 then rn xs L 200 63 [vR 44, vI (nI q), vI 1, vI (nI k), vS 0] [] (mw f1 a g) else rn xs L 200 59 [vR 44, vI (nI q), vI 1, vI (nI k), vS 0] [] (mw f1 a g) := fun f1 => by
        rw [hms, hw2, b200_16, if_neg (by decide), b200_19, if_neg one_ne0, b200_31, if_pos rfl, b200_36, m_isSheet, h3]
        simp only [Option.bind_some, Option.toList_some, List.cons_append, List.nil_append]
        rw [b200_40, if_neg (by decide), b200_45, if_pos rfl, b200_50 _ _ _ _ hink, hnk]
      have hcs2 : rn xs L 103 0 [vR 0, vI (nI q), vI 1, vI (nI k), vS 0] [] (mw f a g) = (ev xs L 13 2 [vR (40 + q), vR (32 + 2 * k)] (mw f a g)).bind (fun b => rn xs L 103 68 [vR 0, vI (nI q), vI 1, vI (nI k), vR (40 + q)] (b.1.toList ++ []) b.2) := by
        rw [hcs, if_neg one_ne0, b103_43 _ _ _ _ hsf, if_pos rfl, b103_48 _ _ _ _ hsf, e_within, h3]
        simp only [Option.bind_some, Option.toList_some, List.cons_append, List.nil_append]
        rw [b103_54 _ _ _ _ _ hsf, if_neg (by decide), b103_57 _ _ _ _ hsf hink, hnk]
      have hev : ev xs L 13 2 [vR (40 + q), vR (32 + 2 * k)] (mw f a g) = rn xs L 13 5 [vR (40 + q), vR (32 + 2 * k)] [vI (bI (decide (f (32 + 2 * k) 1 = -1))), vR (40 + q)] (mw f a g) := by
        show rn xs L 13 0 [vR (40 + q), vR (32 + 2 * k)] [] (mw f a g) = _
        rw [b13_0 _ _ hsf hsh, c_missing hsh]
        simp only [Option.bind_some, Option.toList_some, List.cons_append, List.nil_append]
      have hl2 : ∀ x y i, ma_u2 (ma_u2 f (40 + q) 0 x) (40 + q) 1 y (32 + 2 * k) i = f (32 + 2 * k) i := fun x y i => by rw [u2_ne (by omega), u2_ne (by omega)]
      have hl1 : ∀ x i, ma_u2 f (40 + q) 0 x (32 + 2 * k) i = f (32 + 2 * k) i := fun x i => by rw [u2_ne (by omega)]
      rcases hs.shts k hk with ⟨d1, d2⟩ | ⟨s, l, hs4, hl, d1, d2, d3, d4, d5⟩
      · refine ⟨vI 1, ma_u2 (ma_u2 (ma_u2 f (40 + q) 0 2) (40 + q) 1 (f (32 + 2 * k) 2)) (40 + q) 2 (f (32 + 2 * k) 1), a, g, ma_u2 (ma_u2 (ma_u2 f (40 + q) 0 2) (40 + q) 1 (f (32 + 2 * k) 2)) (40 + q) 2 (f (32 + 2 * k) 1), sh3 a q 0 0 0, g, ?_, ?_, ?_⟩
        rotate_left
        · show rn xs L 200 0 [vR 44, vI (nI q), vI 1, vI (nI k), vS 0] [] (mw _ a g) = _
          rw [hms2, d2, if_pos (by decide), nothing _ one_ne0]
        · refine hs.shl hq (fun p hp => by rw [u2_ne hp, u2_ne hp, u2_ne hp]) (fun p p1 p2 p3 => sh3_ne p1 p2 p3) (fun _ => rfl) (fun k hk => sh3_k hk) (Or.inl ⟨?_, sh3_q.1⟩)
          rw [u2_at, if_neg (by omega), u2_at, if_neg (by omega), u2_at, if_pos ⟨rfl, rfl⟩]
        · show rn xs L 103 0 [vR 0, vI (nI q), vI 1, vI (nI k), vS 0] [] (mw f a g) = _
          rw [hcs2, hev, d1, b13_5 _ _ _ hsf hsh, if_neg (by decide), b13_8 _ _ hsf hsh, hl2, hl1]
          simp only [Option.bind_some, Option.toList_none, List.nil_append]
          rw [b103_68 _ _ _ _ hsf, d1]
      · refine ⟨vI 1, ma_u2 (ma_u2 (ma_u2 f (40 + q) 0 1) (40 + q) 1 (f (32 + 2 * k) 2)) (40 + q) 2 (f (32 + 2 * k) 1), a, g, ma_u2 (ma_u2 (ma_u2 f (40 + q) 0 1) (40 + q) 1 (f (32 + 2 * k) 2)) (40 + q) 2 (f (32 + 2 * k) 1), sh3 a q 2 (nI s) (nI l), g, ?_, ?_, ?_⟩
        rotate_left
        · show rn xs L 200 0 [vR 44, vI (nI q), vI 1, vI (nI k), vS 0] [] (mw _ a g) = _
          rw [hms2, d2, if_neg (nI_pos (by omega)), b200_59, if_neg one_ne0, b200_79, if_neg one_ne0, b200_84 _ _ _ _ _ hin, if_neg one_ne0, hnq, b200_103, if_neg one_ne0, b200_108 _ _ _ _ _ hink hin, if_neg one_ne0, hnk, hnq, u2_ne (show 52 ≠ 55 by decide), d2, b200_129 _ _ _ _ _ hink hin, hnk, hnq, u2_ne (show 53 ≠ 56 by decide), u2_ne (show 53 ≠ 55 by decide), d4]
          rfl
        · refine hs.shl hq (fun p hp => by rw [u2_ne hp, u2_ne hp, u2_ne hp]) (fun p p1 p2 p3 => sh3_ne p1 p2 p3) (fun _ => rfl) (fun k hk => sh3_k hk) (Or.inr (Or.inr ⟨s, hs4, ?_, sh3_q.1, ?_, sh3_q.2.1, ?_⟩))
          · rw [u2_at, if_neg (by omega), u2_at, if_neg (by omega), u2_at, if_pos ⟨rfl, rfl⟩]
          · rw [u2_at, if_pos ⟨rfl, rfl⟩]; exact d1
          · rw [u2_at, if_neg (by omega), u2_at, if_pos ⟨rfl, rfl⟩, sh3_q.2.2]; exact d3
        · show rn xs L 103 0 [vR 0, vI (nI q), vI 1, vI (nI k), vS 0] [] (mw f a g) = _
          rw [hcs2, hev, d1, decide_eq_false (nI_nm1 (by omega)), b13_5 _ _ _ hsf hsh, if_pos (by decide), b13_12 _ _ hsf hsh, hl2, hl1]
          simp only [Option.bind_some, Option.toList_none, List.nil_append]
          rw [b103_68 _ _ _ _ hsf, d1]
    · have h3f : isw 0 3 n = false := by simpa using h3
      refine ⟨vI (-1), f, a, g, f, a, g, ?_, ?_, hs⟩
      · show rn xs L 103 0 [vR 0, vI (nI q), vI 1, vI n, vS 0] [] (mw f a g) = _
        rw [hcs, if_neg one_ne0, b103_43 _ _ _ _ hsf, if_pos rfl, b103_48 _ _ _ _ hsf, e_within, h3f]
        simp only [Option.bind_some, Option.toList_some, List.cons_append, List.nil_append]
        rw [b103_54 _ _ _ _ _ hsf, if_pos (by decide), b103_71 _ _ _ _ hsf, if_neg one_ne2, b103_85 _ _ _ _ hsf]
      · show rn xs L 200 0 [vR 44, vI (nI q), vI 1, vI n, vS 0] [] (mw f a g) = _
        rw [hms, hw2, b200_16, if_neg (by decide), b200_19, if_neg one_ne0, b200_31, if_pos rfl, b200_36, m_isSheet, h3f]
        simp only [Option.bind_some, Option.toList_some, List.cons_append, List.nil_append]
        rw [b200_40, if_pos (by decide), b200_43]
  by_cases w2 : w = 2
  · subst w2
    have hw2 : isw 0 2 2 = true := by decide
    refine ⟨vI 1, ma_u2 f (40 + q) 0 2, a, g, ma_u2 f (40 + q) 0 2, sh3 a q 0 0 0, g, ?_, ?_, ?_⟩
    · show rn xs L 103 0 [vR 0, vI (nI q), vI 2, vI n, vS 0] [] (mw f a g) = _
      rw [hcs, if_neg two_ne0, b103_43 _ _ _ _ hsf, if_neg two_ne1, b103_71 _ _ _ _ hsf, if_pos rfl, b103_76 _ _ _ _ hsf]
    · show rn xs L 200 0 [vR 44, vI (nI q), vI 2, vI n, vS 0] [] (mw _ a g) = _
      rw [hms, hw2, b200_16, if_neg (by decide), b200_19, if_neg two_ne0, b200_31, if_neg two_ne1, b200_45, if_neg two_ne1, nothing _ two_ne0]
    · refine hs.shl hq (fun p hp => u2_ne hp) (fun p p1 p2 p3 => sh3_ne p1 p2 p3) (fun _ => rfl) (fun k hk => sh3_k hk) (Or.inl ⟨?_, sh3_q.1⟩)
      rw [u2_at, if_pos ⟨rfl, rfl⟩]
  · have hw : isw 0 2 w = false := by
      cases e : isw 0 2 w with
      | false => rfl
      | true =>
        obtain ⟨j, hj, rfl⟩ := isw_nn 2 rfl (by decide) e
        have : j = 0 ∨ j = 1 ∨ j = 2 := by omega
        rcases this with rfl | rfl | rfl
        · exact absurd rfl w0
        · exact absurd rfl w1
        · exact absurd rfl w2
    refine ⟨vI (-1), f, a, g, f, a, g, ?_, ?_, hs⟩
    · show rn xs L 103 0 [vR 0, vI (nI q), vI w, vI n, vS 0] [] (mw f a g) = _
      rw [hcs, if_neg w0, b103_43 _ _ _ _ hsf, if_neg w1, b103_71 _ _ _ _ hsf, if_neg w2, b103_85 _ _ _ _ hsf]
    · show rn xs L 200 0 [vR 44, vI (nI q), vI w, vI n, vS 0] [] (mw f a g) = _
      rw [hms, hw, b200_16, if_pos (by decide), b200_43]
/-! taken -/
def undR (k x : Int32) : Bool := decide (x = 0) || decide (k = x) || (decide (k = 3) && decide (x = 1)) || (decide (k = 4) && decide (x = 2))
section S77b
variable {xs : Nat → Int32} {L : Nat} {f a : Nat → Nat → Int32} {g : Nat → Nat → Int64} {S : Row} {n q : Nat}
theorem c_under {k x : Int32} : ev xs L 106 2 [vI k, vI x] (mw f a g) = some (some (vI (bI (undR k x))), mw f a g) := by
  show rn xs L 106 0 [vI k, vI x] [] (mw f a g) = _
  unfold undR
  by_cases h1 : k = x
  · simp [b106_0, b106_5, b106_9, b106_14, b106_19, b106_24, b106_29, b106_33, h1, bI]
  · by_cases h2 : x = 0
    · subst h2
      simp [b106_0, b106_5, b106_9, b106_14, b106_19, b106_24, b106_29, b106_33, h1, bI]
    · by_cases h3 : k = 3
      · by_cases h4 : x = 1
        · simp [b106_0, b106_5, b106_9, b106_14, b106_19, b106_24, b106_29, b106_33, h3, h4, bI]
        · have h5 : ¬ (3 : Int32) = x := fun q => h1 (h3.trans q)
          simp [b106_0, b106_5, b106_9, b106_14, b106_19, b106_24, b106_29, b106_33, h2, h3, h4, h5, bI]
      · by_cases h4 : k = 4
        · by_cases h5 : x = 2
          · simp [b106_0, b106_5, b106_9, b106_14, b106_19, b106_24, b106_29, b106_33, h4, h5, bI]
          · have h6 : ¬ (4 : Int32) = x := fun q => h1 (h4.trans q)
            simp [b106_0, b106_5, b106_9, b106_14, b106_19, b106_24, b106_29, b106_33, h2, h4, h5, h6, bI]
        · simp [b106_0, b106_5, b106_9, b106_14, b106_19, b106_24, b106_29, b106_33, h1, h2, h3, h4, bI]
theorem m_under {k x : Int32} : ev xs L 204 2 [vI k, vI x] (mw f a g) = some (some (vI (bI (undR k x))), mw f a g) := by
  show rn xs L 204 0 [vI k, vI x] [] (mw f a g) = _
  unfold undR
  by_cases h2 : x = 0
  · simp [b204_0, b204_4, b204_9, b204_14, b204_19, b204_24, b204_29, b204_33, h2, bI]
  · by_cases h1 : k = x
    · simp [b204_0, b204_4, b204_9, b204_14, b204_19, b204_24, b204_29, b204_33, h1, h2, bI]
    · by_cases h4 : x = 1
      · by_cases h3 : k = 3
        · simp [b204_0, b204_4, b204_9, b204_14, b204_19, b204_24, b204_29, b204_33, h3, h4, bI]
        · have h5 : ¬ k = 1 := fun q => h1 (q.trans h4.symm)
          simp [b204_0, b204_4, b204_9, b204_14, b204_19, b204_24, b204_29, b204_33, h3, h4, h5, bI]
      · by_cases h5 : x = 2
        · by_cases h6 : k = 4
          · simp [b204_0, b204_4, b204_9, b204_14, b204_19, b204_24, b204_29, b204_33, h5, h6, bI]
          · have h7 : ¬ k = 2 := fun q => h1 (q.trans h5.symm)
            simp [b204_0, b204_4, b204_9, b204_14, b204_19, b204_24, b204_29, b204_33, h5, h6, h7, bI]
        · simp [b204_0, b204_4, b204_9, b204_14, b204_19, b204_24, b204_29, b204_33, h1, h2, h4, h5, bI]
theorem c_nothing (hq : q < 4) (hT : isT 1 f a S n 0) : ev xs L 105 2 [vR 0, vR (40 + q)] (mw f a g) = some (some (vI (bI (decide (f (40 + q) 0 = 2) || (decide (f (40 + q) 0 = 0) && !hasR n (f (40 + q) 1))))), mw f a g) := by
  have hsf := is_sf_q hq
  show rn xs L 105 0 [vR 0, vR (40 + q)] [] (mw f a g) = _
  rw [b105_0 _ hsf]
  by_cases h : f (40 + q) 0 = 2
  · rw [if_pos h, b105_29 _ hsf, decide_eq_true h]; rfl
  · rw [if_neg h, b105_8 _ hsf, decide_eq_false h]
    by_cases h2 : f (40 + q) 0 = 0
    · rw [if_pos h2, b105_15 _ hsf, c_has tr1 hT.L, decide_eq_true h2]
      simp only [Option.bind_some, Option.toList_some, List.cons_append, List.nil_append]
      rw [b105_26 _ _ hsf]
      cases e : hasR n (f (40 + q) 1) with
      | true => rw [if_neg (by decide), b105_33 _ hsf]; rfl
      | false => rw [if_pos (by decide), b105_29 _ hsf]; rfl
    · rw [if_neg h2, b105_33 _ hsf, decide_eq_false h2]; rfl
theorem m_heldOn (hq : q < 4) (hM : isM a 45 S) (W : WF S n) : ev xs L 203 2 [vR 44, vI (nI q)] (mw f a g) = some (some (vI (if a 55 q = 1 then (if hasR n (a 56 q) then 1 else 0) else a 55 q)), mw f a g) := by
  have hin : ma_in (nI q) 4 = true := in_of hq (by decide)
  have hnq : (nI q).toNatClampNeg = q := nn_nat (by omega)
  show rn xs L 203 0 [vR 44, vI (nI q)] [] (mw f a g) = _
  rw [b203_0 _ hin, hnq]
  by_cases h : a 55 q = 1
  · rw [if_pos h, if_pos h, b203_10 _ hin, hnq, m_has hM W]
    simp only [Option.bind_some, Option.toList_some, List.cons_append, List.nil_append]
    rw [b203_20]
    cases e : hasR n (a 56 q) with
    | true => rw [if_neg (by decide), b203_27 _ hin, hnq, h, if_pos rfl]
    | false => rw [if_pos (by decide), b203_23, if_neg (by decide)]
  · rw [if_neg h, if_neg h, b203_27 _ hin, hnq]
end S77b
theorem isw_lt0 {x : Int32} {k : Nat} (hk : k < 2147483648) (h : x = nI k) {lo hi : Nat} (hlo : lo < 2147483648) (hhi : hi < 2147483648) : isw (nI lo) (nI hi) x = (decide (lo ≤ k) && decide (k ≤ hi)) := by
  subst h
  unfold isw
  by_cases h1 : lo ≤ k
  · by_cases h2 : k ≤ hi
    · simp [nn_lt hk hlo, nn_lt hhi hk, h1, h2]
    · have h3 : hi < k := by omega
      simp [nn_lt hk hlo, nn_lt hhi hk, h1, h2, h3]
  · have h3 : k < lo := by omega
    simp [nn_lt hk hlo, h1, h3]
