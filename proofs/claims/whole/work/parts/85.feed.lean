/-! ===== feed (the rows xb_ .. are turned from the kit's laws on masks and cuts) ===== -/
theorem xb_tb (n : Nat) : (lN n).toBitVec = BitVec.ofNat 64 n := rfl
theorem xb_inj {a b : Int64} (h : a.toBitVec = b.toBitVec) : a = b := Int64.toBitVec_inj.mp h
theorem xb_tn {n : Nat} (h : n < 2 ^ 64) : (lN n).toBitVec.toNat = n := by rw [xb_tb, BitVec.toNat_ofNat, Nat.mod_eq_of_lt h]
theorem xb_of (x : Int64) : x = lN x.toBitVec.toNat := xb_inj (by rw [xb_tb]; simp)
theorem xb_c : ∀ k, k < 64 → ((nI k).toInt64 &&& 63) = lN k := by decide +kernel
theorem xb_cu : ∀ k, k < 64 → ((nI k).toInt64.toUInt64 &&& Int64.toUInt64 63) = UInt64.ofNat k := by decide +kernel
theorem xb_sm : ∀ k, k < 64 → ((lN k).toBitVec.smod 64).toNat = k := by decide +kernel
theorem xb_shr {n k : Nat} (hn : n < 2 ^ 64) (hk : k < 64) : ((lN n).toUInt64 >>> ((nI k).toInt64.toUInt64 &&& Int64.toUInt64 63)).toInt64 = lN (n / 2 ^ k) := by
  rw [xb_cu k hk]
  apply xb_inj
  apply BitVec.eq_of_toNat_eq
  show ((lN n).toUInt64 >>> UInt64.ofNat k).toNat = (BitVec.ofNat 64 _).toNat
  have h1 : (UInt64.ofNat k).toNat = k := by
    show (BitVec.ofNat 64 k).toNat = k
    rw [BitVec.toNat_ofNat, Nat.mod_eq_of_lt (by omega)]
  have h2 : (lN n).toUInt64.toNat = n := xb_tn hn
  rw [UInt64.toNat_shiftRight, h1, h2, Nat.mod_eq_of_lt hk, Nat.shiftRight_eq_div_pow, BitVec.toNat_ofNat, Nat.mod_eq_of_lt (Nat.lt_of_le_of_lt (Nat.div_le_self _ _) hn)]
theorem xb_m255 {n : Nat} (hn : n < 2 ^ 64) : lN n &&& 255 = lN (n % 256) := by
  show lN n &&& lN 255 = _
  apply xb_inj
  rw [Int64.toBitVec_and, xb_tb, xb_tb, xb_tb]
  apply BitVec.eq_of_toNat_eq
  rw [BitVec.toNat_and, BitVec.toNat_ofNat, BitVec.toNat_ofNat, BitVec.toNat_ofNat, Nat.mod_eq_of_lt hn, Nat.mod_eq_of_lt (show 255 < 2 ^ 64 by decide), Nat.mod_eq_of_lt (show n % 256 < 2 ^ 64 by omega)]
  exact Nat.and_two_pow_sub_one_eq_mod n 8
theorem xb_sr8 (X : BitVec 64) (j : Nat) (hj : j + 8 ≤ 64) : (X.sshiftRight j).toNat % 256 = (X.toNat / 2 ^ j) % 256 := by
  have h : (X.sshiftRight j).setWidth 8 = (X >>> j).setWidth 8 := by
    apply BitVec.eq_of_getLsbD_eq
    intro i hi
    have h1 : ¬ 64 ≤ i := by omega
    have h2 : j + i < 64 := by omega
    rw [BitVec.getLsbD_setWidth, BitVec.getLsbD_setWidth, BitVec.getLsbD_sshiftRight, BitVec.getLsbD_ushiftRight]
    simp [h1, h2]
  have h2 := congrArg BitVec.toNat h
  rw [BitVec.toNat_setWidth, BitVec.toNat_setWidth, BitVec.toNat_ushiftRight, Nat.shiftRight_eq_div_pow] at h2
  exact h2
theorem xb_low (x : Int32) : (x &&& 255).toInt8 = x.toInt8 := by
  apply Int8.toBitVec_inj.1
  apply BitVec.eq_of_getLsbD_eq
  intro i hi
  have h2 : (255 : Int32).toBitVec.getLsbD i = true := by
    have : ∀ j : Fin 8, (255 : Int32).toBitVec.getLsbD j.val = true := by decide +kernel
    exact this ⟨i, hi⟩
  have h4 : (x &&& 255).toBitVec.getLsbD i = x.toBitVec.getLsbD i := by
    show (x.toBitVec &&& (255 : Int32).toBitVec).getLsbD i = _
    rw [BitVec.getLsbD_and, h2, Bool.and_true]
  have h3 : i < 32 := by omega
  show (((x &&& 255).toBitVec).signExtend 8).getLsbD i = (x.toBitVec.signExtend 8).getLsbD i
  rw [BitVec.getLsbD_signExtend, BitVec.getLsbD_signExtend, if_pos h3, if_pos h3, h4]
/-- the k-th byte -/
def byt (x : Int64) (k : Nat) : Nat := x.toBitVec.toNat / 2 ^ (8 * k) % 256
theorem byt_lt {x : Int64} {k : Nat} : byt x k < 256 := Nat.mod_lt _ (by decide)
theorem byt_c {x : Int64} {k : Nat} (hk : k < 8) : vp_nar .byte ((x.toUInt64 >>> ((8 * nI k).toInt64.toUInt64 &&& Int64.toUInt64 63)).toInt64.toInt32.toInt8.toInt32) = sB (byt x k) := by
  have hx := x.toBitVec.isLt
  rw [show (8 : Int32) * nI k = nI (8 * k) by rw [show (8 : Int32) = nI 8 from rfl, nn_mul], pk_vb]
  conv => lhs; rw [xb_of x]
  rw [xb_shr hx (by omega), lN_i]
  unfold sB byt
  rw [← xb_low (nI (x.toBitVec.toNat / 2 ^ (8 * k))), pk_and _ (k := 8) (by decide)]
  have : (nI (x.toBitVec.toNat / 2 ^ (8 * k))).toBitVec.toNat % 2 ^ 8 = x.toBitVec.toNat / 2 ^ (8 * k) % 256 := by
    show (BitVec.ofNat 32 (x.toBitVec.toNat / 2 ^ (8 * k))).toNat % 2 ^ 8 = _
    rw [BitVec.toNat_ofNat]
    omega
  rw [this]
theorem byt_m {x : Int64} {k : Nat} (hk : k < 8) : ((x >>> ((8 * nI k).toInt64 &&& 63)) &&& 255).toInt32 = nI (byt x k) := by
  rw [show (8 : Int32) * nI k = nI (8 * k) by rw [show (8 : Int32) = nI 8 from rfl, nn_mul], xb_c _ (by omega), xb_of (x >>> lN (8 * k)), xb_m255 (BitVec.isLt _), lN_i]
  have h1 : (x >>> lN (8 * k)).toBitVec = x.toBitVec.sshiftRight (8 * k) := by
    rw [Int64.toBitVec_shiftRight, BitVec.sshiftRight_eq', xb_sm _ (by omega)]
  rw [h1, xb_sr8 _ _ (by omega)]
  rfl
section S85
variable {xs : Nat → Int32} {L : Nat} {g : Nat → Nat → Int64} {x : Int64} {n l : Nat}
theorem c_feed0 (hn : n ≤ 8) (hl : l + n ≤ 200) : ∀ (r k : Nat) (f a : Nat → Nat → Int32), k + r = n → f 25 1 = nI (l + k) → ∃ f1 a1, rn xs L 55 33 [vR 0, vL x, vS 0, vI (nI n), vI (nI k)] [] (mw f a g) = some (some (vI (nI (l + n))), mw f1 a1 g) ∧ f1 25 1 = nI (l + n) ∧ (∀ q, q ≠ 25 → f1 q = f q) ∧ (∀ j, a1 26 j = if l + k ≤ j ∧ j < l + n then sB (byt x (j - l)) else a 26 j) ∧ (∀ q, q ≠ 26 → a1 q = a q)
  | 0, k, f, a, hk, hf => by
    have e : k = n := by omega
    subst e
    refine ⟨f, a, ?_, hf, fun _ _ => rfl, fun j => by rw [if_neg (by omega)], fun _ _ => rfl⟩
    rw [b55_33, if_neg (by rw [nn_lt (by omega) (by omega)]; omega), b55_82, hf]
  | r + 1, k, f, a, hk, hf => by
    have hin : ma_in (f 25 1) 200 = true := by rw [hf]; exact in_of (by omega) (by decide)
    obtain ⟨f1, a1, e1, h1, h2, h3, h4⟩ := c_feed0 hn hl r (k + 1) (ma_u2 f 25 1 (nI (l + k + 1))) (ma_u2 a 26 (l + k) (sB (byt x k))) (by omega) (by rw [u2_at, if_pos ⟨rfl, rfl⟩, Nat.add_assoc])
    refine ⟨f1, a1, ?_, h1, fun q hq => by rw [h2 q hq, u2_ne hq], fun j => ?_, fun q hq => by rw [h4 q hq, u2_ne hq]⟩
    · rw [b55_33, if_pos (by rw [nn_lt (by omega) (by omega)]; omega), b55_39 _ _ _ hin, hf, nn_nat (by omega), byt_c (by omega), nn_add1, nn_add1]
      exact e1
    · rw [h3 j, u2_at]
      by_cases c1 : l + (k + 1) ≤ j ∧ j < l + n
      · rw [if_pos c1, if_pos (by omega)]
      · rw [if_neg c1]
        by_cases c2 : j = l + k
        · rw [if_pos ⟨rfl, c2⟩, if_pos (by omega), show j - l = k by omega]
        · rw [if_neg (fun q => c2 q.2), if_neg (by omega)]
theorem m_feed0 (hn : n ≤ 8) (hl : l + n ≤ 200) : ∀ (r k : Nat) (f a : Nat → Nat → Int32), k + r = n → f 44 6 = nI (l + k) → ∃ f1 a1, rn xs L 114 32 [vR 44, vL x, vS 0, vI (nI n), vI (nI k)] [] (mw f a g) = some (some (vI (nI (l + n))), mw f1 a1 g) ∧ f1 44 6 = nI (l + n) ∧ (∀ q, q ≠ 44 → f1 q = f q) ∧ (∀ i, i ≠ 6 → f1 44 i = f 44 i) ∧ (∀ j, a1 49 j = if l + k ≤ j ∧ j < l + n then nI (byt x (j - l)) else a 49 j) ∧ (∀ q, q ≠ 49 → a1 q = a q)
  | 0, k, f, a, hk, hf => by
    have e : k = n := by omega
    subst e
    refine ⟨f, a, ?_, hf, fun _ _ => rfl, fun _ _ => rfl, fun j => by rw [if_neg (by omega)], fun _ _ => rfl⟩
    rw [b114_32, if_neg (by rw [nn_lt (by omega) (by omega)]; omega), b114_75, hf]
  | r + 1, k, f, a, hk, hf => by
    have hin : ma_in (f 44 6) 200 = true := by rw [hf]; exact in_of (by omega) (by decide)
    obtain ⟨f1, a1, e1, h1, h2, h2', h3, h4⟩ := m_feed0 hn hl r (k + 1) (ma_u2 f 44 6 (nI (l + k + 1))) (ma_u2 a 49 (l + k) (nI (byt x k))) (by omega) (by rw [u2_at, if_pos ⟨rfl, rfl⟩, Nat.add_assoc])
    refine ⟨f1, a1, ?_, h1, fun q hq => by rw [h2 q hq, u2_ne hq], fun i hi => by rw [h2' i hi, u2_at, if_neg (fun q => hi q.2)], fun j => ?_, fun q hq => by rw [h4 q hq, u2_ne hq]⟩
    · rw [b114_32, if_pos (by rw [nn_lt (by omega) (by omega)]; omega), b114_38 _ _ _ hin, hf, nn_nat (by omega), byt_m (by omega), nn_add1, nn_add1]
      exact e1
    · rw [h3 j, u2_at]
      by_cases c1 : l + (k + 1) ≤ j ∧ j < l + n
      · rw [if_pos c1, if_pos (by omega)]
      · rw [if_neg c1]
        by_cases c2 : j = l + k
        · rw [if_pos ⟨rfl, c2⟩, if_pos (by omega), show j - l = k by omega]
        · rw [if_neg (fun q => c2 q.2), if_neg (by omega)]
end S85
theorem op_feed {x : Int64} {v : Int32} : OPS 55 5 114 5 [vL x, vI v] := by
  intro xs L f a g hs
  obtain ⟨l, hl, t1, t2, t3⟩ := hs.tape
  by_cases h1 : isw 1 8 v = true
  rotate_left
  · have h1f : isw 1 8 v = false := by simpa using h1
    refine ⟨vI (-1), f, a, g, f, a, g, ?_, ?_, hs⟩
    · show rn xs L 55 0 [vR 0, vL x, vS 0, vI v, vS 0] [] (mw f a g) = _
      rw [b55_0, e_within, h1f]
      simp only [Option.bind_some, Option.toList_some, List.cons_append, List.nil_append]
      rw [b55_7, if_pos (by decide), b55_10]
    · show rn xs L 114 0 [vR 44, vL x, vS 0, vI v, vS 0] [] (mw f a g) = _
      rw [b114_0, m_in_1_8, h1f]
      simp only [Option.bind_some, Option.toList_some, List.cons_append, List.nil_append]
      rw [b114_9, if_pos (by decide), b114_12]
  obtain ⟨n, hn, rfl⟩ : ∃ m, m ≤ 8 ∧ v = nI m := by
    have h0 := isw_pos h1 (by decide)
    have : isw 0 8 v = true := by
      unfold isw at h1 ⊢
      rw [Bool.and_eq_true] at h1
      simp [h0]
      simpa using h1.2
    exact isw_nn 8 rfl (by decide) this
  have hlt : ((200 : Int32) < nI l + nI n) ↔ 200 < l + n := by rw [nn_add, show (200 : Int32) = nI 200 from rfl, nn_lt (by omega) (by omega)]
  have hcs : rn xs L 55 0 [vR 0, vL x, vS 0, vI (nI n), vS 0] [] (mw f a g) = if (200 : Int32) < nI l + nI n then rn xs L 55 27 [vR 0, vL x, vS 0, vI (nI n), vS 0] [] (mw f a g) else rn xs L 55 30 [vR 0, vL x, vS 0, vI (nI n), vS 0] [] (mw f a g) := by
    rw [b55_0, e_within, h1]
    simp only [Option.bind_some, Option.toList_some, List.cons_append, List.nil_append]
    rw [b55_7, if_neg (by decide), b55_12, t1]
  have hms : ∀ (f1 a1 : Nat → Nat → Int32), f1 44 6 = nI l → rn xs L 114 0 [vR 44, vL x, vS 0, vI (nI n), vS 0] [] (mw f1 a1 g) = if (200 : Int32) < nI l + nI n then rn xs L 114 26 [vR 44, vL x, vS 0, vI (nI n), vS 0] [] (mw f1 a1 g) else rn xs L 114 29 [vR 44, vL x, vS 0, vI (nI n), vS 0] [] (mw f1 a1 g) := fun f1 a1 h6 => by
    rw [b114_0, m_in_1_8, h1]
    simp only [Option.bind_some, Option.toList_some, List.cons_append, List.nil_append]
    rw [b114_9, if_neg (by decide), b114_14, h6]
  by_cases h2 : 200 < l + n
  · refine ⟨vI (-2), f, a, g, f, a, g, ?_, ?_, hs⟩
    · show rn xs L 55 0 [vR 0, vL x, vS 0, vI (nI n), vS 0] [] (mw f a g) = _
      rw [hcs, if_pos (hlt.mpr h2), b55_27]
    · show rn xs L 114 0 [vR 44, vL x, vS 0, vI (nI n), vS 0] [] (mw f a g) = _
      rw [hms f a t2, if_pos (hlt.mpr h2), b114_26]
  · obtain ⟨f1, a1, e1, c1, c2, c3, c4⟩ := c_feed0 (xs := xs) (L := L) (g := g) (x := x) hn (show l + n ≤ 200 by omega) n 0 f a (by omega) t1
    have t2' : f1 44 6 = nI l := by rw [c2 44 (by decide)]; exact t2
    obtain ⟨f2, a2, e2, m1, m2, m2', m3, m4⟩ := m_feed0 (xs := xs) (L := L) (g := g) (x := x) hn (show l + n ≤ 200 by omega) n 0 f1 a1 (by omega) t2'
    obtain ⟨S, N, W, hT, hM⟩ := hs.tree
    have hff : ∀ q, q ≠ 25 → q ≠ 44 → f2 q = f q := fun q q1 q2 => (m2 q q2).trans (c2 q q1)
    have h44 : ∀ k, k ≠ 6 → f2 44 k = f 44 k := fun k hk => by rw [m2' k hk, c2 44 (by decide)]
    have haa : ∀ q, q ≠ 26 → q ≠ 49 → a2 q = a q := fun q q1 q2 => (m4 q q2).trans (c4 q q1)
    refine ⟨vI (nI (l + n)), f1, a1, g, f2, a2, g, ?_, ?_, ?_⟩
    · show rn xs L 55 0 [vR 0, vL x, vS 0, vI (nI n), vS 0] [] (mw f a g) = _
      rw [hcs, if_neg (fun z => h2 (hlt.mp z)), b55_30]
      exact e1
    · show rn xs L 114 0 [vR 44, vL x, vS 0, vI (nI n), vS 0] [] (mw f1 a1 g) = _
      rw [hms f1 a1 t2', if_neg (fun z => h2 (hlt.mp z)), b114_29]
      exact e2
    · refine ST.mk ⟨S, N, W, hT.keep (fun p h1 h2 => ⟨hff p (by omega) (by omega), haa p (by omega) (by omega)⟩), hM.of (haa 45 (by decide) (by decide))⟩
        (hs.kept.of (by rw [hff 0 (by omega) (by omega)]) (h44 4 (by decide)) (fun p h1 h2 => ⟨hff p (by omega) (by omega), haa p (by omega) (by omega)⟩) (haa 46 (by decide) (by decide)))
        ⟨l + n, by omega, ?_, m1, fun i hi => ?_⟩
        (hs.rows.of (by rw [hff 0 (by omega) (by omega)]) (h44 14 (by decide)) (haa 27 (by decide) (by decide)) (haa 51 (by decide) (by decide)))
        (fun p hp => (hs.shts p hp).of (hff _ (by omega) (by omega)) (by rw [haa 52 (by decide) (by decide)]) (by rw [haa 53 (by decide) (by decide)]) (fun i _ => by rw [haa 54 (by decide) (by decide)]) rfl)
        (fun p hp => (hs.shls p hp).of (hff _ (by omega) (by omega)) (by rw [haa 55 (by decide) (by decide)]) (by rw [haa 56 (by decide) (by decide)]) (by rw [haa 57 (by decide) (by decide)]))
        (hs.acts.of (by rw [hff 30 (by omega) (by omega)]) (h44 22 (by decide)) (haa 31 (by decide) (by decide)) (haa 58 (by decide) (by decide)))
      · rw [m2 25 (by decide)]; exact c1
      · rw [m3 i, m4 26 (by decide), c3 i, c4 49 (by decide)]
        by_cases c : l ≤ i
        · rw [if_pos (by omega), if_pos (by omega)]
          exact ⟨byt x (i - l), byt_lt, rfl, rfl⟩
        · rw [if_neg (by omega), if_neg (by omega)]
          exact t3 i (by omega)
