/-! ===== row, alterRow, trace, many, keep, again ===== -/
theorem isw_pred {r : Nat} {i : Int32} (hr : r < 1000) (h : isw 0 (nI r - 1) i = true) : ∃ k, k < r ∧ i = nI k := by
  cases r with
  | zero =>
    rw [show nI 0 - 1 = -1 from rfl] at h
    unfold isw at h
    rw [Bool.and_eq_true] at h
    have h1 : ¬ i < 0 := by simpa using h.1
    have h2 : ¬ (-1) < i := by simpa using h.2
    rw [nn_of h1] at h2
    have h3 := nn_int (i := i.toNatClampNeg) clamp_lt
    rw [Int32.lt_iff_toInt_lt, h3, show (-1 : Int32).toInt = -1 from rfl] at h2
    omega
  | succ e =>
    rw [nI_pred] at h
    obtain ⟨k, hk, e2⟩ := isw_nn e rfl (by omega) h
    exact ⟨k, by omega, e2⟩
section S75
variable {xs : Nat → Int32} {L : Nat} {f a : Nat → Nat → Int32} {g : Nat → Nat → Int64}
theorem c_isRow {i w : Int32} : ev xs L 96 3 [vR 0, vI i, vI w] (mw f a g) = some (some (vI (bI (isw 0 (f 0 6 - 1) i && isw 0 2 w))), mw f a g) := by
  show rn xs L 96 0 [vR 0, vI i, vI w] [] (mw f a g) = _
  by_cases h1 : isw 0 (f 0 6 - 1) i = true
  · by_cases h2 : isw 0 2 w = true
    · simp [b96_0, b96_11, b96_14, b96_20, b96_23, b96_27, e_within, h1, h2, bI]
    · simp [b96_0, b96_11, b96_14, b96_20, b96_23, b96_27, e_within, h1, h2, bI]
  · simp [b96_0, b96_11, b96_14, b96_20, b96_23, b96_27, e_within, h1, bI]
theorem m_inR {i : Int32} {m : Int32} : ev xs L 115 6 [vL i.toInt64, vL (0 : Int64), vL m.toInt64] (mw f a g) = some (some (vI (bI (isw 0 m i))), mw f a g) := e_isIn.trans (by rw [isl_w (lo := 0) (hi := m) (by decide) rfl])
theorem m_isRow {i w : Int32} : ev xs L 192 3 [vR 44, vI i, vI w] (mw f a g) = some (some (vI (bI (isw 0 (f 44 14 - 1) i && isw 0 2 w))), mw f a g) := by
  show rn xs L 192 0 [vR 44, vI i, vI w] [] (mw f a g) = _
  rw [b192_0, m_inR]
  by_cases h1 : isw 0 (f 44 14 - 1) i = true
  · by_cases h2 : isw 0 2 w = true
    · simp [b192_13, b192_16, b192_25, b192_28, b192_32, m_in_0_2, h1, h2, bI]
    · simp [b192_13, b192_16, b192_25, b192_28, b192_32, m_in_0_2, h1, h2, bI]
  · simp [b192_13, b192_16, b192_25, b192_28, b192_32, h1, bI]
theorem ix3 {k j : Nat} : (3 : Int32) * nI k + nI j = nI (3 * k + j) := by rw [show (3 : Int32) = nI 3 from rfl, nn_mul, nn_add]
theorem ix3' {k j : Nat} : nI k * (3 : Int32) + nI j = nI (3 * k + j) := by rw [show (3 : Int32) = nI 3 from rfl, nn_mul, nn_add, Nat.mul_comm]
end S75
theorem op_row {i w : Int32} : OPS 95 3 191 3 [vI i, vI w] := by
  refine OPS.rd (fun xs L f a g hs => ?_)
  obtain ⟨r, hr, h0, h1, hq⟩ := hs.rows
  by_cases h : (isw 0 (nI r - 1) i && isw 0 2 w) = true
  · rw [Bool.and_eq_true] at h
    obtain ⟨k, hk, rfl⟩ := isw_pred (by omega) h.1
    obtain ⟨j, hj, rfl⟩ := isw_nn 2 rfl (by decide) h.2
    have hin : ma_in (nI (3 * k + j)) 30 = true := in_of (by omega) (by decide)
    refine ⟨vI (a 27 (3 * k + j)), ?_, ?_⟩
    · show rn xs L 95 0 [vR 0, vI (nI k), vI (nI j)] [] (mw f a g) = _
      rw [b95_0, c_isRow, h0, h.1, h.2]
      simp only [Option.bind_some, Option.toList_some, List.cons_append, List.nil_append]
      rw [b95_6, if_neg (by decide), b95_9 _ _ (by rw [ix3']; exact hin), ix3', nn_nat (by omega)]
    · show rn xs L 191 0 [vR 44, vI (nI k), vI (nI j)] [] (mw f a g) = _
      rw [b191_0, m_isRow, h1, h.1, h.2]
      simp only [Option.bind_some, Option.toList_some, List.cons_append, List.nil_append]
      rw [b191_6, if_neg (by decide), b191_9 _ _ (by rw [ix3]; exact hin), ix3, nn_nat (by omega), hq _ (by omega)]
  · have hf : (isw 0 (nI r - 1) i && isw 0 2 w) = false := by simpa using h
    refine ⟨vI (-9), ?_, ?_⟩
    · show rn xs L 95 0 [vR 0, vI i, vI w] [] (mw f a g) = _
      rw [b95_0, c_isRow, h0, hf]
      simp only [Option.bind_some, Option.toList_some, List.cons_append, List.nil_append]
      rw [b95_6, if_pos (by decide), b95_22]
    · show rn xs L 191 0 [vR 44, vI i, vI w] [] (mw f a g) = _
      rw [b191_0, m_isRow, h1, hf]
      simp only [Option.bind_some, Option.toList_some, List.cons_append, List.nil_append]
      rw [b191_6, if_pos (by decide), b191_22]
theorem op_alterRow {i w v : Int32} : OPS 97 5 193 5 [vI i, vI w, vI v] := by
  intro xs L f a g hs
  obtain ⟨r, hr, h0, h1, hq⟩ := hs.rows
  by_cases h : (isw 0 (nI r - 1) i && isw 0 2 w) = true
  · rw [Bool.and_eq_true] at h
    obtain ⟨k, hk, rfl⟩ := isw_pred (by omega) h.1
    obtain ⟨j, hj, rfl⟩ := isw_nn 2 rfl (by decide) h.2
    have hin : ma_in (nI (3 * k + j)) 30 = true := in_of (by omega) (by decide)
    obtain ⟨S, n, W, hT, hM⟩ := hs.tree
    have hA : ∀ q, q ≠ 27 → q ≠ 51 → ma_u2 (ma_u2 a 27 (3 * k + j) v) 51 (3 * k + j) v q = a q := fun q h1 h2 => by rw [u2_ne h2, u2_ne h1]
    refine ⟨vI (a 27 (3 * k + j)), f, ma_u2 a 27 (3 * k + j) v, g, f, ma_u2 (ma_u2 a 27 (3 * k + j) v) 51 (3 * k + j) v, g, ?_, ?_, ?_⟩
    · show rn xs L 97 0 [vR 0, vI (nI k), vI (nI j), vI v, vS 0] [] (mw f a g) = _
      rw [b97_0, c_isRow, h0, h.1, h.2]
      simp only [Option.bind_some, Option.toList_some, List.cons_append, List.nil_append]
      rw [b97_6, if_neg (by decide), b97_12 _ _ _ _ (by rw [ix3']; exact hin) (by rw [ix3']; exact hin), ix3', nn_nat (by omega)]
    · show rn xs L 193 0 [vR 44, vI (nI k), vI (nI j), vI v, vS 0] [] (mw f (ma_u2 a 27 (3 * k + j) v) g) = _
      rw [b193_0, m_isRow, h1, h.1, h.2]
      simp only [Option.bind_some, Option.toList_some, List.cons_append, List.nil_append]
      rw [b193_6, if_neg (by decide), b193_12 _ _ _ _ (by rw [ix3]; exact hin) (by rw [ix3]; exact hin), ix3, nn_nat (by omega), u2_ne (by decide), hq _ (by omega)]
    · refine ST.mk ⟨S, n, W, hT.keep (fun q h1 h2 => ⟨rfl, hA q (by omega) (by omega)⟩), hM.of (hA 45 (by decide) (by decide))⟩ (hs.kept.of rfl rfl (fun q h1 h2 => ⟨rfl, hA q (by omega) (by omega)⟩) (hA 46 (by decide) (by decide))) (hs.tape.of rfl rfl (hA 49 (by decide) (by decide)) (hA 26 (by decide) (by decide))) ⟨r, hr, h0, h1, fun i hi => ?_⟩ (fun q hq => (hs.shts q hq).of rfl (by rw [hA 52 (by decide) (by decide)]) (by rw [hA 53 (by decide) (by decide)]) (fun i _ => by rw [hA 54 (by decide) (by decide)]) rfl) (fun q hq => (hs.shls q hq).of rfl (by rw [hA 55 (by decide) (by decide)]) (by rw [hA 56 (by decide) (by decide)]) (by rw [hA 57 (by decide) (by decide)])) (hs.acts.of rfl rfl (hA 31 (by decide) (by decide)) (hA 58 (by decide) (by decide)))
      rw [u2_ne (by decide), u2_at, u2_at, u2_ne (by decide)]
      by_cases e : i = 3 * k + j
      · rw [if_pos ⟨rfl, e⟩, if_pos ⟨rfl, e⟩]
      · rw [if_neg (fun q => e q.2), if_neg (fun q => e q.2)]
        exact hq i hi
  · have hf : (isw 0 (nI r - 1) i && isw 0 2 w) = false := by simpa using h
    refine ⟨vI (-9), f, a, g, f, a, g, ?_, ?_, hs⟩
    · show rn xs L 97 0 [vR 0, vI i, vI w, vI v, vS 0] [] (mw f a g) = _
      rw [b97_0, c_isRow, h0, hf]
      simp only [Option.bind_some, Option.toList_some, List.cons_append, List.nil_append]
      rw [b97_6, if_pos (by decide), b97_9]
    · show rn xs L 193 0 [vR 44, vI i, vI w, vI v, vS 0] [] (mw f a g) = _
      rw [b193_0, m_isRow, h1, hf]
      simp only [Option.bind_some, Option.toList_some, List.cons_append, List.nil_append]
      rw [b193_6, if_pos (by decide), b193_9]
theorem op_trace {i : Int32} : OPS 108 2 216 2 [vI i] := by
  refine OPS.rd (fun xs L f a g hs => ?_)
  obtain ⟨r, hr, h0, h1, hq⟩ := hs.acts
  by_cases h : isw 0 (nI r - 1) i = true
  · obtain ⟨k, hk, rfl⟩ := isw_pred (by omega) h
    have hin : ma_in (nI k) 30 = true := in_of (by omega) (by decide)
    refine ⟨vI (a 31 k), ?_, ?_⟩
    · show rn xs L 108 0 [vR 0, vI (nI k)] [] (mw f a g) = _
      rw [b108_0, h0, e_within, h]
      simp only [Option.bind_some, Option.toList_some, List.cons_append, List.nil_append]
      rw [b108_14, if_neg (by decide), b108_17 _ hin, nn_nat (by omega)]
    · show rn xs L 216 0 [vR 44, vI (nI k)] [] (mw f a g) = _
      rw [b216_0, h1, m_inR, h]
      simp only [Option.bind_some, Option.toList_some, List.cons_append, List.nil_append]
      rw [b216_13, if_neg (by decide), b216_16 _ hin, nn_nat (by omega), hq k hk]
  · have hf : isw 0 (nI r - 1) i = false := by simpa using h
    refine ⟨vI (-3), ?_, ?_⟩
    · show rn xs L 108 0 [vR 0, vI i] [] (mw f a g) = _
      rw [b108_0, h0, e_within, hf]
      simp only [Option.bind_some, Option.toList_some, List.cons_append, List.nil_append]
      rw [b108_14, if_pos (by decide), b108_29]
    · show rn xs L 216 0 [vR 44, vI i] [] (mw f a g) = _
      rw [b216_0, h1, m_inR, hf]
      simp only [Option.bind_some, Option.toList_some, List.cons_append, List.nil_append]
      rw [b216_13, if_pos (by decide), b216_25]
/-- boughs with one that hangs -/
def buS (S : Row) (n : Nat) : Nat → Int32
  | 0 => 0
  | b + 1 => if setOf (hgB S (nI b)) n = 0 then buS S n b else buS S n b + 1
section S75b
variable {xs : Nat → Int32} {L : Nat} {f a : Nat → Nat → Int32} {g : Nat → Nat → Int64} {S : Row} {n : Nat}
theorem c_hungOn0 (W : WF S n) (hL : isL 1 f a S n) : ∀ (r b : Nat), b + r = 6 → rn xs L 53 4 [vR 1, vI (buS S n b), vI (nI b)] [] (mw f a g) = some (some (vI (buS S n 6)), mw f a g)
  | 0, b, hb => by
    have e : b = 6 := by omega
    subst e
    rw [b53_4 _ _ _ tr1, if_neg (by decide), b53_27 _ _ _ tr1]
  | r + 1, b, hb => by
    have e3 := c_hungOn0 W hL r (b + 1) (by omega)
    rw [show buS S n (b + 1) = if setOf (hgB S (nI b)) n = 0 then buS S n b else buS S n b + 1 from rfl] at e3
    rw [b53_4 _ _ _ tr1, if_pos (by rw [show (6 : Int32) = nI 6 from rfl, nn_lt (by omega) (by omega)]; omega), b53_10 _ _ _ tr1, c_hangingOn tr1 W hL]
    simp only [Option.bind_some, Option.toList_some, List.cons_append, List.nil_append]
    rw [b53_15 _ _ _ _ tr1]
    by_cases h : setOf (hgB S (nI b)) n = 0
    · rw [if_pos h] at e3
      rw [if_pos h, b53_21 _ _ _ tr1, nn_add1, e3]
    · rw [if_neg h] at e3
      rw [if_neg h, b53_18 _ _ _ tr1, nn_add1, e3]
theorem m_inUse0 (W : WF S n) (hM : isM a 45 S) : ∀ (r b : Nat), b + r = 6 → rn xs L 218 4 [vR 44, vI (buS S n b), vI (nI b)] [] (mw f a g) = some (some (vI (buS S n 6)), mw f a g)
  | 0, b, hb => by
    have e : b = 6 := by omega
    subst e
    rw [b218_4, if_neg (by decide), b218_32]
  | r + 1, b, hb => by
    have e3 := m_inUse0 W hM r (b + 1) (by omega)
    rw [show buS S n (b + 1) = if setOf (hgB S (nI b)) n = 0 then buS S n b else buS S n b + 1 from rfl] at e3
    rw [b218_4, if_pos (by rw [show (6 : Int32) = nI 6 from rfl, nn_lt (by omega) (by omega)]; omega), b218_10, m_hangingOn hM W]
    simp only [Option.bind_some, Option.toList_some, List.cons_append, List.nil_append]
    rw [b218_16]
    by_cases h : setOf (hgB S (nI b)) n = 0
    · rw [if_pos h] at e3
      rw [if_pos h, b218_19, nn_add1, Int32.add_zero, e3]
    · rw [if_neg h] at e3
      rw [if_neg h, b218_23, nn_add1, e3]
end S75b
theorem op_many {w : Int32} : OPS 109 2 217 2 [vI w] := by
  refine OPS.rd (fun xs L f a g hs => ?_)
  obtain ⟨S, n, W, hT, hM⟩ := hs.tree
  by_cases x0 : w = 0
  · subst x0
    refine ⟨vI (nI n), ?_, ?_⟩
    · show rn xs L 109 0 [vR 0, vI 0] [] (mw f a g) = _
      have hc := hT.L.cnt
      simp [b109_0, b109_44, b109_52, b109_59, b109_60, b109_68, b109_75, b109_76, b109_81, b109_89, b109_97, hc]
    · show rn xs L 217 0 [vR 44, vI 0] [] (mw f a g) = _
      have hc : a 45 0 = nI n := (hM 0 (by decide)).trans W.cn
      simp [b217_0, b217_44, b217_51, b217_55, b217_58, b217_59, b217_66, b217_70, b217_71, b217_76, b217_81, b217_86, hc]
  by_cases x1 : w = 1
  · subst x1
    refine ⟨vI (cntH S n), ?_, ?_⟩
    · show rn xs L 109 0 [vR 0, vI 1] [] (mw f a g) = _
      simp [b109_0, b109_44, b109_52, b109_59, b109_60, b109_68, b109_75, b109_76, b109_81, b109_89, b109_97, c_hanging tr1 W hT]
    · show rn xs L 217 0 [vR 44, vI 1] [] (mw f a g) = _
      simp [b217_0, b217_44, b217_51, b217_55, b217_58, b217_59, b217_66, b217_70, b217_71, b217_76, b217_81, b217_86, m_hanging hM W, m_sizeH W]
  by_cases x2 : w = 2
  · subst x2
    refine ⟨vI (S 3), ?_, ?_⟩
    · show rn xs L 109 0 [vR 0, vI 2] [] (mw f a g) = _
      have hc := hT.fel
      simp [b109_0, b109_44, b109_52, b109_59, b109_60, b109_68, b109_75, b109_76, b109_81, b109_89, b109_97, hc]
    · show rn xs L 217 0 [vR 44, vI 2] [] (mw f a g) = _
      have hc := hM 3 (by decide)
      simp [b217_0, b217_44, b217_51, b217_55, b217_58, b217_59, b217_66, b217_70, b217_71, b217_76, b217_81, b217_86, hc]
  by_cases x3 : w = 3
  · subst x3
    refine ⟨vI (buS S n 6), ?_, ?_⟩
    · show rn xs L 109 0 [vR 0, vI 3] [] (mw f a g) = _
      have e1 : ev xs L 53 3 [vR 1] (mw f a g) = some (some (vI (buS S n 6)), mw f a g) := (b53_0 _ _ _ tr1).trans (c_hungOn0 W hT.L 6 0 (by omega))
      simp [b109_0, b109_44, b109_52, b109_59, b109_60, b109_68, b109_75, b109_76, b109_81, b109_89, b109_97, e1]
    · show rn xs L 217 0 [vR 44, vI 3] [] (mw f a g) = _
      have e1 : ev xs L 218 3 [vR 44] (mw f a g) = some (some (vI (buS S n 6)), mw f a g) := (b218_0 _ _).trans (m_inUse0 W hM 6 0 (by omega))
      simp [b217_0, b217_44, b217_51, b217_55, b217_58, b217_59, b217_66, b217_70, b217_71, b217_76, b217_81, b217_86, e1]
  by_cases x4 : w = 4
  · subst x4
    obtain ⟨r, hr, h0, h1, hq⟩ := hs.rows
    refine ⟨vI (nI r), ?_, ?_⟩
    · show rn xs L 109 0 [vR 0, vI 4] [] (mw f a g) = _
      simp [b109_0, b109_44, b109_52, b109_59, b109_60, b109_68, b109_75, b109_76, b109_81, b109_89, b109_97, h0]
    · show rn xs L 217 0 [vR 44, vI 4] [] (mw f a g) = _
      simp [b217_0, b217_44, b217_51, b217_55, b217_58, b217_59, b217_66, b217_70, b217_71, b217_76, b217_81, b217_86, h1]
  by_cases x5 : w = 5
  · subst x5
    obtain ⟨r, hr, h0, h1, hq⟩ := hs.tape
    refine ⟨vI (nI r), ?_, ?_⟩
    · show rn xs L 109 0 [vR 0, vI 5] [] (mw f a g) = _
      simp [b109_0, b109_44, b109_52, b109_59, b109_60, b109_68, b109_75, b109_76, b109_81, b109_89, b109_97, h0]
    · show rn xs L 217 0 [vR 44, vI 5] [] (mw f a g) = _
      simp [b217_0, b217_44, b217_51, b217_55, b217_58, b217_59, b217_66, b217_70, b217_71, b217_76, b217_81, b217_86, h1]
  by_cases x6 : w = 6
  · subst x6
    obtain ⟨r, hr, h0, h1, hq⟩ := hs.acts
    refine ⟨vI (nI r), ?_, ?_⟩
    · show rn xs L 109 0 [vR 0, vI 6] [] (mw f a g) = _
      simp [b109_0, b109_44, b109_52, b109_59, b109_60, b109_68, b109_75, b109_76, b109_81, b109_89, b109_97, h0]
    · show rn xs L 217 0 [vR 44, vI 6] [] (mw f a g) = _
      simp [b217_0, b217_44, b217_51, b217_55, b217_58, b217_59, b217_66, b217_70, b217_71, b217_76, b217_81, b217_86, h1]
  refine ⟨vI (-1), ?_, ?_⟩
  · show rn xs L 109 0 [vR 0, vI w] [] (mw f a g) = _
    simp [b109_0, b109_44, b109_52, b109_59, b109_60, b109_68, b109_75, b109_76, b109_81, b109_89, b109_97, x0, x1, x2, x3, x4, x5, x6]
  · show rn xs L 217 0 [vR 44, vI w] [] (mw f a g) = _
    simp [b217_0, b217_44, b217_51, b217_55, b217_58, b217_59, b217_66, b217_70, b217_71, b217_76, b217_81, b217_86, x0, x1, x2, x3, x4, x5, x6]
section S75c
variable {xs : Nat → Int32} {L : Nat} {f : Nat → Nat → Int32} {g : Nat → Nat → Int64} {S : Row} {n : Nat}
theorem m_keep0 : ∀ (r i : Nat) (a : Nat → Nat → Int32), i + r = 62 → isM a 45 S → (∀ j, j < i → a 46 j = S j) → ∃ a1, rn xs L 219 2 [vR 44, vI (nI i)] [] (mw f a g) = some (some (vI 1), mw (ma_u2 f 44 4 1) a1 g) ∧ isM a1 46 S ∧ (∀ q, q ≠ 46 → a1 q = a q)
  | 0, i, a, hi, hM, h6 => by
    have e : i = 62 := by omega
    subst e
    refine ⟨a, ?_, h6, fun _ _ => rfl⟩
    rw [b219_2, if_neg (by decide), b219_26]
  | r + 1, i, a, hi, hM, h6 => by
    have hin : ma_in (nI i) 62 = true := by rw [nn_in (by omega)]; simp; omega
    obtain ⟨a1, e1, hM1, ha1⟩ := m_keep0 r (i + 1) (ma_u2 a 46 i (a 45 i)) (by omega) (hM.of (u2_ne (by decide))) (fun j hj => by
      rw [u2_at]
      by_cases e : j = i
      · rw [if_pos ⟨rfl, e⟩, hM i (by omega), e]
      · rw [if_neg (fun q => e q.2)]; exact h6 j (by omega))
    refine ⟨a1, ?_, hM1, fun q hq => by rw [ha1 q hq, u2_ne hq]⟩
    rw [b219_2, if_pos (by rw [show (62 : Int32) = nI 62 from rfl, nn_lt (by omega) (by omega)]; omega), b219_8 _ hin hin, nn_nat (by omega), nn_add1]
    exact e1
theorem m_again0 (W : WF S n) : ∀ (r i : Nat) (a : Nat → Nat → Int32), i + r = 62 → isM a 46 S → (∀ j, j < i → a 45 j = S j) → ∃ a1, rn xs L 220 12 [vR 44, vI (nI i)] [] (mw f a g) = some (some (vI (nI n)), mw f a1 g) ∧ isM a1 45 S ∧ (∀ q, q ≠ 45 → a1 q = a q)
  | 0, i, a, hi, hM, h6 => by
    have e : i = 62 := by omega
    subst e
    refine ⟨a, ?_, h6, fun _ _ => rfl⟩
    rw [b220_12, if_neg (by decide), b220_36, h6 0 (by decide), W.cn]
  | r + 1, i, a, hi, hM, h6 => by
    have hin : ma_in (nI i) 62 = true := by rw [nn_in (by omega)]; simp; omega
    obtain ⟨a1, e1, hM1, ha1⟩ := m_again0 W r (i + 1) (ma_u2 a 45 i (a 46 i)) (by omega) (hM.of (u2_ne (by decide))) (fun j hj => by
      rw [u2_at]
      by_cases e : j = i
      · rw [if_pos ⟨rfl, e⟩, hM i (by omega), e]
      · rw [if_neg (fun q => e q.2)]; exact h6 j (by omega))
    refine ⟨a1, ?_, hM1, fun q hq => by rw [ha1 q hq, u2_ne hq]⟩
    rw [b220_12, if_pos (by rw [show (62 : Int32) = nI 62 from rfl, nn_lt (by omega) (by omega)]; omega), b220_18 _ hin hin, nn_nat (by omega), nn_add1]
    exact e1
end S75c
theorem op_keep : OPS 110 1 219 2 [] := by
  intro xs L f a g hs
  obtain ⟨S, n, W, hT, hM⟩ := hs.tree
  obtain ⟨f1, a1, e1, hT1, hs1⟩ := c_become (xs := xs) (L := L) (g := g) tr17 tr1 (by decide) W hT
  have s45 : a1 45 = a 45 := (hs1 45 (Or.inr (by decide))).2.1
  obtain ⟨a2, e2, hM2, ha2⟩ := m_keep0 (xs := xs) (L := L) (f := ma_u2 f1 0 3 1) (g := g) 62 0 a1 (by omega) (hM.of s45) (fun j hj => by omega)
  have hff : ∀ q, oT 17 q → q ≠ 0 → q ≠ 44 → ma_u2 (ma_u2 f1 0 3 1) 44 4 1 q = f q := fun q h1 h2 h3 => by rw [u2_ne h3, u2_ne h2]; exact (hs1 q h1).1
  have h0k : ∀ k, k ≠ 3 → ma_u2 (ma_u2 f1 0 3 1) 44 4 1 0 k = f 0 k := fun k hk => by rw [u2_ne (by decide), u2_at, if_neg (fun q => hk q.2)]; exact congrFun (hs1 0 (Or.inl (by decide))).1 k
  have h4k : ∀ k, k ≠ 4 → ma_u2 (ma_u2 f1 0 3 1) 44 4 1 44 k = f 44 k := fun k hk => by rw [u2_at, if_neg (fun q => hk q.2), u2_ne (by decide)]; exact congrFun (hs1 44 (Or.inr (by decide))).1 k
  have haa : ∀ q, oT 17 q → q ≠ 46 → a2 q = a q := fun q h1 h2 => (ha2 q h2).trans (hs1 q h1).2.1
  refine ⟨vI 1, ma_u2 f1 0 3 1, a1, g, ma_u2 (ma_u2 f1 0 3 1) 44 4 1, a2, g, ?_, ?_, ?_⟩
  · show rn xs L 110 0 [vR 0] [] (mw f a g) = _
    rw [b110_0, e1]
    simp only [Option.bind_some, Option.toList_none, List.nil_append]
    rw [b110_11]
  · show rn xs L 219 0 [vR 44, vS 0] [] (mw (ma_u2 f1 0 3 1) a1 g) = _
    rw [b219_0]
    exact e2
  · refine ST.mk ⟨S, n, W, hT.keep (fun q h1 h2 => ⟨hff q (Or.inl (by omega)) (by omega) (by omega), haa q (Or.inl (by omega)) (by omega)⟩), hM.of (haa 45 (Or.inr (by decide)) (by decide))⟩ ⟨?_, Or.inr ⟨?_, S, n, W, ?_, hM2⟩⟩
      (hs.tape.of (by rw [hff 25 (Or.inr (by decide)) (by decide) (by decide)]) (h4k 6 (by decide)) (haa 49 (Or.inr (by decide)) (by decide)) (haa 26 (Or.inr (by decide)) (by decide)))
      (hs.rows.of (h0k 6 (by decide)) (h4k 14 (by decide)) (haa 27 (Or.inr (by decide)) (by decide)) (haa 51 (Or.inr (by decide)) (by decide)))
      (fun q hq => (hs.shts q hq).of (hff _ (Or.inr (by omega)) (by omega) (by omega)) (by rw [haa 52 (Or.inr (by decide)) (by decide)]) (by rw [haa 53 (Or.inr (by decide)) (by decide)]) (fun i _ => by rw [haa 54 (Or.inr (by decide)) (by decide)]) rfl)
      (fun q hq => (hs.shls q hq).of (hff _ (Or.inr (by omega)) (by omega) (by omega)) (by rw [haa 55 (Or.inr (by decide)) (by decide)]) (by rw [haa 56 (Or.inr (by decide)) (by decide)]) (by rw [haa 57 (Or.inr (by decide)) (by decide)]))
      (hs.acts.of (by rw [hff 30 (Or.inr (by decide)) (by decide) (by decide)]) (h4k 22 (by decide)) (haa 31 (Or.inr (by decide)) (by decide)) (haa 58 (Or.inr (by decide)) (by decide)))
    · rw [u2_ne (by decide), u2_at, if_pos ⟨rfl, rfl⟩, u2_at, if_pos ⟨rfl, rfl⟩]
    · rw [u2_at, if_pos ⟨rfl, rfl⟩]
    · exact hT1.keep (fun q h1 h2 => ⟨by rw [u2_ne (by omega), u2_ne (by omega)], ha2 q (by omega)⟩)
theorem op_again : OPS 111 1 220 2 [] := by
  intro xs L f a g hs
  obtain ⟨hk, hk2⟩ := hs.kept
  rcases hk2 with h0 | ⟨h1, S, n, W, hT, hM⟩
  · refine ⟨vI (-3), f, a, g, f, a, g, ?_, ?_, hs⟩
    · show rn xs L 111 0 [vR 0] [] (mw f a g) = _
      rw [b111_0, hk, if_pos h0, b111_7]
    · show rn xs L 220 0 [vR 44, vS 0] [] (mw f a g) = _
      rw [b220_0, if_pos h0, b220_7]
  · obtain ⟨f1, a1, e1, hT1, hs1⟩ := c_become (xs := xs) (L := L) (g := g) tr1 tr17 (by decide) W hT
    have s46 : a1 46 = a 46 := (hs1 46 (Or.inr (by decide))).2.1
    obtain ⟨a2, e2, hM2, ha2⟩ := m_again0 (xs := xs) (L := L) (f := f1) (g := g) W 62 0 a1 (by omega) (hM.of s46) (fun j hj => by omega)
    have hff : ∀ q, q = 0 ∨ 17 ≤ q → f1 q = f q := fun q h1 => (hs1 q (by unfold oT; omega)).1
    have haa : ∀ q, 17 ≤ q → q ≠ 45 → q ≠ 47 → q ≠ 48 → q ≠ 50 → a2 q = a q := fun q h1 h2 _ _ _ => (ha2 q h2).trans (hs1 q (by unfold oT; omega)).2.1
    refine ⟨vI (nI n), f1, a1, g, f1, a2, g, ?_, ?_, hs.of ⟨S, n, W, hT1.keep (fun q h1 h2 => ⟨rfl, ha2 q (by omega)⟩), hM2⟩ hff haa (fun _ => rfl)⟩
    · show rn xs L 111 0 [vR 0] [] (mw f a g) = _
      rw [b111_0, hk, if_neg (by rw [h1]; decide), b111_10, e1]
      simp only [Option.bind_some, Option.toList_none, List.nil_append]
      rw [b111_21, hT1.L.cnt]
    · show rn xs L 220 0 [vR 44, vS 0] [] (mw f1 a1 g) = _
      rw [b220_0, hff 44 (by omega), if_neg (by rw [h1]; decide), b220_10]
      exact e2
