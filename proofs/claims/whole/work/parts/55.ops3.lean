/-! ===== move, sway, bough, pluck, days, day ===== -/
/-- how many hang -/
def cntH (S : Row) (n : Nat) : Int32 := nI (ct (hg S) n)
section S55
variable {xs : Nat → Int32} {L : Nat} {f a : Nat → Nat → Int32} {g : Nat → Nat → Int64} {S : Row} {n : Nat} {ti : Int32}
theorem c_hanging {t : Nat} (ht : is_tr t) (W : WF S n) (hT : isT t f a S n ti) : ev xs L 41 1 [vR t] (mw f a g) = some (some (vI (cntH S n)), mw f a g) := by
  refine (b41_0 _ ht).trans ?_
  obtain ⟨d, hd, he⟩ := W.fel
  rw [hT.L.cnt, hT.fel, hd, pk_sub (by omega)]
  unfold cntH
  rw [show ct (hg S) n = n - d by omega]
theorem m_sizeH (W : WF S n) : ev xs L 144 3 [vI (setOf (hg S) n)] (mw f a g) = some (some (vI (cntH S n)), mw f a g) := by
  unfold setOf cntH
  rw [e_size (bs_lt8 W.n8), pN_bs W.n8]
theorem m_isBough {x : Int32} : ev xs L 138 1 [vI x] (mw f a g) = some (some (vI (bI (isw 0 5 x))), mw f a g) := by
  show rn xs L 138 0 [vI x] [] (mw f a g) = _
  have h56 : (x < 6) ↔ ¬ (5 < x) := by
    rw [Int32.lt_iff_toInt_lt, Int32.lt_iff_toInt_lt, show (6 : Int32).toInt = 6 from rfl, show (5 : Int32).toInt = 5 from rfl]
    omega
  unfold isw
  by_cases h1 : x < 0
  · simp [b138_0, b138_4, b138_10, b138_14, h1, bI]
  · by_cases h2 : 5 < x
    · have : ¬ x < 6 := fun q => h56.mp q h2
      simp [b138_0, b138_4, b138_10, b138_14, h1, h2, this, bI]
    · have := h56.mpr h2
      simp [b138_0, b138_4, b138_10, b138_14, h1, h2, this, bI]
end S55
theorem op_move {leaf v : Int32} : TOP 66 4 150 3 [vI leaf, vI v] := by
  intro xs L S n W
  have h8 := W.n8
  by_cases h : hasR n leaf = true
  · obtain ⟨o, ho, rfl⟩ := hasR_to h8 h
    have hn : (nI o).toNatClampNeg = o := nn_nat (by omega)
    have hin : ma_in (nI o) 8 = true := in_of (by omega) (by decide)
    have e2 : (14 : Int32) + 6 * nI o + 1 = nI (14 + 6 * o + 1) := ixN (c := 1)
    by_cases h2 : isw 0 5 v = true
    · obtain ⟨u, hu, e⟩ := isw_nn 5 rfl (by decide) h2
      refine ⟨vI (lf S o 1), up1 S (14 + 6 * o + 1) v, n, W.hi (by decide) hu e, fun f a g hT => ⟨f, ma_u2 a 5 o v, ?_, c_setLf (c := 1) hT (by decide), same_u2 (t := 0) (fun o ho => by omega)⟩, fun f a g hM => ⟨ma_u2 a 45 (14 + 6 * o + 1) v, ?_, hM.up, fun q hq _ _ _ => u2_ne hq⟩⟩
      · show rn xs L 66 0 [vR 0, vI (nI o), vI v, vS 0] [] (mw f a g) = _
        have hl := hT.L.bgh o ho
        simp [b66_0, b66_8, b66_11, b66_17, b66_20, b66_22, c_has tr1 hT.L, e_within, h, h2, bI, hin, hn, hl]
      · show rn xs L 150 0 [vR 44, vI (nI o), vI v] [] (mw f a g) = _
        have hb := m_becomes (xs := xs) (L := L) (f := f) (g := g) (v := v) hM (k := 14 + 6 * o + 1) (by omega)
        simp [b150_0, b150_5, b150_8, b150_12, b150_15, b150_29, b150_32, m_has hM W, m_isBough, h, h2, bI, e2, hb]
        rfl
    · refine ⟨vI (-1), S, n, W, fun f a g hT => ⟨f, a, ?_, hT, same.refl⟩, fun f a g hM => ⟨a, ?_, hM, fun _ _ _ _ _ => rfl⟩⟩
      · show rn xs L 66 0 [vR 0, vI (nI o), vI v, vS 0] [] (mw f a g) = _
        simp [b66_0, b66_8, b66_11, b66_17, b66_20, b66_22, c_has tr1 hT.L, e_within, h, h2, bI]
      · show rn xs L 150 0 [vR 44, vI (nI o), vI v] [] (mw f a g) = _
        simp [b150_0, b150_5, b150_8, b150_12, b150_15, b150_29, b150_32, m_has hM W, m_isBough, h, h2, bI]
  · refine ⟨vI (-1), S, n, W, fun f a g hT => ⟨f, a, ?_, hT, same.refl⟩, fun f a g hM => ⟨a, ?_, hM, fun _ _ _ _ _ => rfl⟩⟩
    · show rn xs L 66 0 [vR 0, vI leaf, vI v, vS 0] [] (mw f a g) = _
      simp [b66_0, b66_8, b66_11, b66_17, b66_20, b66_22, c_has tr1 hT.L, h, bI]
    · show rn xs L 150 0 [vR 44, vI leaf, vI v] [] (mw f a g) = _
      simp [b150_0, b150_5, b150_8, b150_12, b150_15, b150_29, b150_32, m_has hM W, h, bI]
theorem op_sway {b v : Int32} : TOP 69 4 155 3 [vI b, vI v] := by
  intro xs L S n W
  have h8 := W.n8
  by_cases h : isw 0 5 b = true
  · obtain ⟨k, hk, rfl⟩ := isw_nn 5 rfl (by decide) h
    have hn : (nI k).toNatClampNeg = k := nn_nat (by omega)
    have hin : ma_in (nI k) 6 = true := in_of (by omega) (by decide)
    have e2 : (8 : Int32) + nI k = nI (8 + k) := by rw [show (8 : Int32) = nI 8 from rfl, nn_add]
    by_cases h2 : isw 0 9 v = true
    · refine ⟨vI (S (8 + k)), up1 S (8 + k) v, n, W.lo (by omega) (by omega) (by omega) (fun _ _ => by omega) (fun _ => by omega), fun f a g hT => ⟨f, ma_u2 a 3 k v, ?_, c_setSway hT (by omega), same_u2 (t := 0) (fun o ho => by omega)⟩, fun f a g hM => ⟨ma_u2 a 45 (8 + k) v, ?_, hM.up, fun q hq _ _ _ => u2_ne hq⟩⟩
      · show rn xs L 69 0 [vR 0, vI (nI k), vI v, vS 0] [] (mw f a g) = _
        have hl := hT.L.swy k (by omega)
        simp [b69_0, b69_6, b69_9, b69_16, b69_19, b69_21, e_within, h, h2, bI, hin, hn, hl]
      · show rn xs L 155 0 [vR 44, vI (nI k), vI v] [] (mw f a g) = _
        have hb := m_becomes (xs := xs) (L := L) (f := f) (g := g) (v := v) hM (k := 8 + k) (by omega)
        simp [b155_0, b155_4, b155_7, b155_16, b155_19, b155_28, b155_31, m_isBough, m_in_0_9, h, h2, bI, e2, hb]
    · refine ⟨vI (-1), S, n, W, fun f a g hT => ⟨f, a, ?_, hT, same.refl⟩, fun f a g hM => ⟨a, ?_, hM, fun _ _ _ _ _ => rfl⟩⟩
      · show rn xs L 69 0 [vR 0, vI (nI k), vI v, vS 0] [] (mw f a g) = _
        simp [b69_0, b69_6, b69_9, b69_16, b69_19, b69_21, e_within, h, h2, bI]
      · show rn xs L 155 0 [vR 44, vI (nI k), vI v] [] (mw f a g) = _
        simp [b155_0, b155_4, b155_7, b155_16, b155_19, b155_28, b155_31, m_isBough, m_in_0_9, h, h2, bI]
  · refine ⟨vI (-1), S, n, W, fun f a g hT => ⟨f, a, ?_, hT, same.refl⟩, fun f a g hM => ⟨a, ?_, hM, fun _ _ _ _ _ => rfl⟩⟩
    · show rn xs L 69 0 [vR 0, vI b, vI v, vS 0] [] (mw f a g) = _
      simp [b69_0, b69_6, b69_9, b69_16, b69_19, b69_21, e_within, h, bI]
    · show rn xs L 155 0 [vR 44, vI b, vI v] [] (mw f a g) = _
      simp [b155_0, b155_4, b155_7, b155_16, b155_19, b155_28, b155_31, m_isBough, h, bI]
theorem op_bough {b what : Int32} : TOP 68 3 154 3 [vI b, vI what] := by
  refine TOP.rd (fun xs L S n W => ?_)
  have h8 := W.n8
  by_cases h : isw 0 5 b = true
  · obtain ⟨k, hk, rfl⟩ := isw_nn 5 rfl (by decide) h
    have hn : (nI k).toNatClampNeg = k := nn_nat (by omega)
    have hin : ma_in (nI k) 6 = true := in_of (by omega) (by decide)
    have e2 : (8 : Int32) + nI k = nI (8 + k) := by rw [show (8 : Int32) = nI 8 from rfl, nn_add]
    have hin2 : ma_in (nI (8 + k)) 62 = true := in_of (by omega) (by decide)
    have hn2 : (nI (8 + k)).toNatClampNeg = 8 + k := nn_nat (by omega)
    by_cases h2 : isw 0 1 what = true
    · by_cases h3 : what = 0
      · subst h3
        refine ⟨vI (S (8 + k)), fun f a g hT => ?_, fun f a g hM => ?_⟩
        · show rn xs L 68 0 [vR 0, vI (nI k), vI 0] [] (mw f a g) = _
          have hl := hT.L.swy k (by omega)
          simp [b68_0, b68_6, b68_9, b68_15, b68_18, b68_20, b68_24, b68_36, b68_44, e_within, h, h2, bI, hin, hn, hl]
        · show rn xs L 154 0 [vR 44, vI (nI k), vI 0] [] (mw f a g) = _
          have hi := m_in_0_1 (xs := xs) (L := L) (f := f) (a := a) (g := g) (x := 0)
          simp at hi
          have hl := hM (8 + k) (by omega)
          simp [b154_0, b154_4, b154_7, b154_14, b154_17, b154_19, b154_23, b154_35, b154_40, m_isBough, hi, h, h2, bI, e2, hin2, hn2, hl]
      · refine ⟨vI (setOf (hgB S (nI k)) n), fun f a g hT => ?_, fun f a g hM => ?_⟩
        · show rn xs L 68 0 [vR 0, vI (nI k), vI what] [] (mw f a g) = _
          simp [b68_0, b68_6, b68_9, b68_15, b68_18, b68_20, b68_24, b68_36, b68_44, e_within, h, h2, h3, bI, c_hangingOn tr1 W hT.L]
        · show rn xs L 154 0 [vR 44, vI (nI k), vI what] [] (mw f a g) = _
          simp [b154_0, b154_4, b154_7, b154_14, b154_17, b154_19, b154_23, b154_35, b154_40, m_isBough, m_in_0_1, h, h2, h3, bI, m_hangingOn hM W]
    · refine ⟨vI (-1), fun f a g hT => ?_, fun f a g hM => ?_⟩
      · show rn xs L 68 0 [vR 0, vI (nI k), vI what] [] (mw f a g) = _
        simp [b68_0, b68_6, b68_9, b68_15, b68_18, b68_20, b68_24, b68_36, b68_44, e_within, h, h2, bI]
      · show rn xs L 154 0 [vR 44, vI (nI k), vI what] [] (mw f a g) = _
        simp [b154_0, b154_4, b154_7, b154_14, b154_17, b154_19, b154_23, b154_35, b154_40, m_isBough, m_in_0_1, h, h2, bI]
  · refine ⟨vI (-1), fun f a g hT => ?_, fun f a g hM => ?_⟩
    · show rn xs L 68 0 [vR 0, vI b, vI what] [] (mw f a g) = _
      simp [b68_0, b68_6, b68_9, b68_15, b68_18, b68_20, b68_24, b68_36, b68_44, e_within, h, bI]
    · show rn xs L 154 0 [vR 44, vI b, vI what] [] (mw f a g) = _
      simp [b154_0, b154_4, b154_7, b154_14, b154_17, b154_19, b154_23, b154_35, b154_40, m_isBough, h, bI]
theorem same_tree {f a f' a' : Nat → Nat → Int32} {g g' : Nat → Nat → Int64} (h : same (oT 1) f a g f' a' g') : same (fun o => o < 1 ∨ 17 ≤ o) f a g f' a' g' := h.mono (fun o ho => by unfold oT; omega)
theorem op_day : TOP 73 1 160 2 [] := by
  intro xs L S n W
  refine ⟨vI (cntH (dayS S n) n), dayS S n, n, W.dayS, fun f a g hT => ?_, fun f a g hM => ?_⟩
  · obtain ⟨f1, a1, e1, hT1, hs1⟩ := c_day (xs := xs) (L := L) (g := g) tr1 W hT
    refine ⟨f1, a1, ?_, hT1, same_tree hs1⟩
    show rn xs L 73 0 [vR 0] [] (mw f a g) = _
    simp [b73_0, b73_7, b73_15, e1, c_hanging tr1 W.dayS hT1]
  · obtain ⟨a1, e1, hM1, ha1⟩ := m_day (xs := xs) (L := L) (f := f) (g := g) hM W
    refine ⟨a1, ?_, hM1, fun q h1 _ _ h4 => ha1 q h1 h4⟩
    show rn xs L 160 0 [vR 44, vS 0] [] (mw f a g) = _
    simp [b160_0, b160_4, b160_9, b160_12, e1, m_hanging hM1 W.dayS, m_sizeH W.dayS]
theorem op_pluck {leaf : Int32} : TOP 67 2 151 2 [vI leaf] := by
  intro xs L S n W
  have h8 := W.n8
  by_cases h : hasR n leaf = true
  · obtain ⟨o, ho, rfl⟩ := hasR_to h8 h
    have hgs := W.hgs o ho
    by_cases h2 : hg S o = true
    · have WF1 := W.fell ho h2
      have h4 : lf S o 4 = 1 := by simpa [hg] using h2
      refine ⟨vI (cntH (fellS S o) n), fellS S o, n, WF1, fun f a g hT => ?_, fun f a g hM => ?_⟩
      · obtain ⟨f1, a1, e1, hT1, hs1⟩ := c_fell (xs := xs) (L := L) (g := g) tr1 W hT ho
        refine ⟨f1, a1, ?_, hT1, same_tree hs1⟩
        show rn xs L 67 0 [vR 0, vI (nI o)] [] (mw f a g) = _
        simp [b67_0, b67_8, b67_11, b67_13, b67_21, b67_24, b67_27, b67_35, b67_42, c_has tr1 hT.L, h, bI, c_hangs tr1 W hT.L ho, h2, e1, c_hanging tr1 WF1 hT1]
      · obtain ⟨a1, e1, hM1, ha1⟩ := m_fell (xs := xs) (L := L) (f := f) (g := g) hM (o := o) (by omega)
        refine ⟨a1, ?_, hM1, fun q h1 _ _ _ => ha1 q h1⟩
        show rn xs L 151 0 [vR 44, vI (nI o)] [] (mw f a g) = _
        simp [b151_0, b151_5, b151_8, b151_10, b151_16, b151_19, b151_22, b151_27, b151_31, b151_34, m_has hM W, h, bI, m_its4 hM (show o < 8 by omega), h4, e1, m_hanging hM1 WF1, m_sizeH WF1]
    · have h4 : lf S o 4 = 0 := by
        unfold hg at h2
        by_cases h5 : lf S o 5 = 0
        · rw [if_pos h5] at hgs; simp [hgs] at h2
        · rw [if_neg h5] at hgs; exact hgs
      refine ⟨vI (-3), S, n, W, fun f a g hT => ⟨f, a, ?_, hT, same.refl⟩, fun f a g hM => ⟨a, ?_, hM, fun _ _ _ _ _ => rfl⟩⟩
      · show rn xs L 67 0 [vR 0, vI (nI o)] [] (mw f a g) = _
        simp [b67_0, b67_8, b67_11, b67_13, b67_21, b67_24, b67_27, b67_35, b67_42, c_has tr1 hT.L, h, bI, c_hangs tr1 W hT.L ho, h2]
      · show rn xs L 151 0 [vR 44, vI (nI o)] [] (mw f a g) = _
        simp [b151_0, b151_5, b151_8, b151_10, b151_16, b151_19, b151_22, b151_27, b151_31, b151_34, m_has hM W, h, bI, m_its4 hM (show o < 8 by omega), h4]
  · refine ⟨vI (-1), S, n, W, fun f a g hT => ⟨f, a, ?_, hT, same.refl⟩, fun f a g hM => ⟨a, ?_, hM, fun _ _ _ _ _ => rfl⟩⟩
    · show rn xs L 67 0 [vR 0, vI leaf] [] (mw f a g) = _
      simp [b67_0, b67_8, b67_11, b67_13, b67_21, b67_24, b67_27, b67_35, b67_42, c_has tr1 hT.L, h, bI]
    · show rn xs L 151 0 [vR 44, vI leaf] [] (mw f a g) = _
      simp [b151_0, b151_5, b151_8, b151_10, b151_16, b151_19, b151_22, b151_27, b151_31, b151_34, m_has hM W, h, bI]
