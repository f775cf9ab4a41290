/-! ===== a day by draws: both sides ===== -/
def drawZ (z : Int32) : Int32 := z * 1103515245 + 12345
def topZ (z : Int32) : Int32 := (z.toUInt32 >>> (((16 : Int32)).toUInt32 &&& Int32.toUInt32 31)).toInt32
theorem topZ_nn (z : Int32) : ∃ k, k < 65536 ∧ topZ z = nI k := by
  have hn : z = nI z.toBitVec.toNat := by
    apply Int32.toBitVec_inj.mp
    apply BitVec.eq_of_toNat_eq
    rw [pk_tn z.toBitVec.isLt]
  have hlt := z.toBitVec.isLt
  refine ⟨z.toBitVec.toNat / 2 ^ 16, by omega, ?_⟩
  conv => lhs; rw [hn]
  exact pk_ushrN hlt 16 16 rfl
def blown (S : Row) (n : Nat) : Nat := (topZ (drawZ (S 2))).toNatClampNeg % n
/-- the row once the wind has blown -/
def preS (S : Row) (n : Nat) : Row :=
  if n = 0 then S
  else if topZ (drawZ (drawZ (S 2))) - topZ (drawZ (drawZ (S 2))) / 100 * 100 < S 7 then up1 (up1 S 2 (drawZ (drawZ (S 2)))) (14 + 6 * blown S n + 2) (lf S (blown S n) 2 / 3)
  else up1 S 2 (drawZ (drawZ (S 2)))
def dayS (S : Row) (n : Nat) : Row := passS (preS S n) n 0
def dayW (S : Row) (n : Nat) : Option Nat := whoS (preS S n) n 0
theorem WF.z {S : Row} {n : Nat} {v : Int32} (W : WF S n) : WF (up1 S 2 v) n := W.lo (by decide) (by decide) (by decide) (fun h => absurd h (by decide)) (fun h => absurd h (by decide))
theorem third {S : Row} {n i : Nat} (W : WF S n) (hi : i < n) : ∃ u, u ≤ 99 ∧ lf S i 2 / 3 = nI u := by
  obtain ⟨v, hv, h⟩ := W.hol i hi
  refine ⟨v / 3, by omega, ?_⟩
  rw [h]
  exact pk_div (d := 3) (by omega) (by decide) (by decide)
theorem WF.pre {S : Row} {n : Nat} (W : WF S n) : WF (preS S n) n := by
  unfold preS
  by_cases h0 : n = 0
  · rw [if_pos h0]; exact W
  · rw [if_neg h0]
    split
    · obtain ⟨u, hu, h⟩ := third W (i := blown S n) (Nat.mod_lt _ (by omega))
      exact W.z.hi (by decide) hu h
    · exact W.z
theorem WF.dayS {S : Row} {n : Nat} (W : WF S n) : WF (dayS S n) n := W.pre.pass
theorem blown_nn {S : Row} {n : Nat} (h0 : n ≠ 0) (h8 : n ≤ 8) : topZ (drawZ (S 2)) - topZ (drawZ (S 2)) / nI n * nI n = nI (blown S n) := by
  obtain ⟨k, hk, h⟩ := topZ_nn (drawZ (S 2))
  unfold blown
  rw [h, pk_rem (by omega) (by omega) (by omega), nn_nat (by omega)]
section S52
variable {xs : Nat → Int32} {L : Nat} {f a : Nat → Nat → Int32} {g : Nat → Nat → Int64} {S : Row} {n : Nat}
theorem c_drawn {t : Nat} (ht : is_tr t) : ev xs L 46 1 [vR t] (mw f a g) = some (some (vI (topZ (drawZ (f t 10)))), mw (ma_u2 f t 10 (drawZ (f t 10))) a g) := by
  refine (b46_0 _ ht).trans ?_
  rw [show ma_u2 f t 10 (f t 10 * 1103515245 + 12345) t 10 = drawZ (f t 10) by rw [u2_at, if_pos ⟨rfl, rfl⟩]; rfl]
  rfl
theorem m_drawn : ev xs L 162 1 [vR 44] (mw f a g) = some (some (vI (topZ (drawZ (a 45 2)))), mw f (ma_u2 a 45 2 (drawZ (a 45 2))) g) := by
  refine b162_0.trans ?_
  rw [show ma_u2 a 45 2 (a 45 2 * 1103515245 + 12345) 45 2 = drawZ (a 45 2) by rw [u2_at, if_pos ⟨rfl, rfl⟩]; rfl]
  rfl
theorem u2_u2 {α : Type} {f : Nat → Nat → α} {q i : Nat} {v u : α} : ma_u2 (ma_u2 f q i v) q i u = ma_u2 f q i u := by
  funext x y
  rw [u2_at, u2_at, u2_at]
  split <;> rfl
theorem c_day {t : Nat} (ht : is_tr t) (W : WF S n) (hT : isT t f a S n 0) : ∃ f' a', ev xs L 45 2 [vR t] (mw f a g) = some (some (vI (encO (dayW S n))), mw f' a' g) ∧ isT t f' a' (dayS S n) n 0 ∧ same (oT t) f a g f' a' g := by
  have h8 := W.n8
  show ∃ f' a', rn xs L 45 0 [vR t, vS 0] [] (mw f a g) = _ ∧ _
  have hc := hT.L.cnt
  have hz := hT.z
  rw [b45_0 _ _ ht, hc]
  by_cases h0 : n = 0
  · rw [if_neg (by subst h0; decide), b45_43 _ _ ht]
    obtain ⟨f1, a1, e1, hT1, hs1⟩ := c_passDay (xs := xs) (L := L) (g := g) ht W hT
    refine ⟨f1, a1, ?_, ?_, hs1⟩
    · rw [e1]
      simp only [Option.bind_some, Option.toList_some, List.cons_append, List.nil_append]
      rw [b45_47 _ _ _ ht]
      unfold dayW preS
      rw [if_pos h0]
    · unfold dayS preS
      rw [if_pos h0]
      exact hT1
  · have hpos : (0 : Int32) < nI n := by rw [show (0 : Int32) = nI 0 from rfl, nn_lt (by decide) (by omega)]; omega
    have hn0 : ¬ nI n = 0 := nI_ne0 (by omega) (by omega)
    have hb : blown S n < n := Nat.mod_lt _ (by omega)
    have hbi : ma_in (nI (blown S n)) 8 = true := by rw [nn_in (by omega)]; simp; omega
    have hf7 : ∀ v, ma_u2 f t 10 v t 7 = f t 7 := fun v => by rw [u2_at, if_neg (by omega)]
    have hf10 : ∀ v, ma_u2 f t 10 v t 10 = v := fun v => by rw [u2_at, if_pos ⟨rfl, rfl⟩]
    have hTz := c_setZ (v := drawZ (drawZ (S 2))) hT
    have hg := hT.L.law 3 (by decide)
    have hho := hT.hol (blown S n) hb
    rw [if_pos hpos, b45_7 _ _ ht, c_drawn ht]
    simp only [Option.bind_some, Option.toList_some, List.cons_append, List.nil_append]
    rw [b45_11 _ _ _ ht (by rw [hf7, hc]; exact hn0), hf7, hc, c_drawn ht, hf10, u2_u2, hz, blown_nn h0 h8]
    simp only [Option.bind_some, Option.toList_some, List.cons_append, List.nil_append]
    rw [b45_21 _ _ _ ht, hg]
    by_cases hw : topZ (drawZ (drawZ (S 2))) - topZ (drawZ (drawZ (S 2))) / 100 * 100 < S 7
    · have hp : preS S n = up1 (up1 S 2 (drawZ (drawZ (S 2)))) (14 + 6 * blown S n + 2) (lf S (blown S n) 2 / 3) := by
        unfold preS
        rw [if_neg h0, if_pos hw]
      have hT2 : isT t (ma_u2 f t 10 (drawZ (drawZ (S 2)))) (ma_u2 a (t + 5) (blown S n) (lf S (blown S n) 2 / 3)) (preS S n) n 0 := by
        rw [hp]
        exact c_setLf (c := 2) hTz (by decide)
      obtain ⟨f1, a1, e1, hT1, hs1⟩ := c_passDay (xs := xs) (L := L) (g := g) ht W.pre hT2
      rw [if_pos hw, b45_33 _ _ ht hbi hbi, nn_nat (by omega), hho, e1]
      simp only [Option.bind_some, Option.toList_some, List.cons_append, List.nil_append]
      refine ⟨f1, a1, ?_, hT1, same.trans (fun q hq => ⟨u2_ne (by unfold oT at hq; omega), u2_ne (by unfold oT at hq; omega), rfl⟩) hs1⟩
      rw [b45_47 _ _ _ ht]
      rfl
    · have hp : preS S n = up1 S 2 (drawZ (drawZ (S 2))) := by
        unfold preS
        rw [if_neg h0, if_neg hw]
      have hT2 : isT t (ma_u2 f t 10 (drawZ (drawZ (S 2)))) a (preS S n) n 0 := by
        rw [hp]
        exact hTz
      obtain ⟨f1, a1, e1, hT1, hs1⟩ := c_passDay (xs := xs) (L := L) (g := g) ht W.pre hT2
      rw [if_neg hw, b45_43 _ _ ht, e1]
      simp only [Option.bind_some, Option.toList_some, List.cons_append, List.nil_append]
      refine ⟨f1, a1, ?_, hT1, same.trans (fun q hq => ⟨u2_ne (by unfold oT at hq; omega), rfl, rfl⟩) hs1⟩
      rw [b45_47 _ _ _ ht]
      rfl
theorem up1_same {S : Row} {k j : Nat} : up1 S k (S k) j = S j := by
  rw [up1_at]
  by_cases h : j = k
  · rw [if_pos h, h]
  · rw [if_neg h]
theorem m_day (hM : isM a 45 S) (W : WF S n) : ∃ a', ev xs L 161 2 [vR 44] (mw f a g) = some (some (vI (encO (dayW S n))), mw f a' g) ∧ isM a' 45 (dayS S n) ∧ (∀ q, q ≠ 45 → q ≠ 50 → a' q = a q) := by
  have h8 := W.n8
  show ∃ a', rn xs L 161 0 [vR 44, vS 0] [] (mw f a g) = _ ∧ _
  have hc : a 45 0 = nI n := (hM 0 (by decide)).trans W.cn
  have hz := hM 2 (by decide)
  rw [b161_0, hc]
  by_cases h0 : n = 0
  · rw [if_neg (by subst h0; decide), b161_69]
    obtain ⟨a1, e1, hM1, ha1⟩ := m_goesBy (xs := xs) (L := L) (f := f) (g := g) (ti := 0) hM W
    refine ⟨a1, ?_, ?_, ha1⟩
    · rw [e1]
      simp only [Option.bind_some, Option.toList_some, List.cons_append, List.nil_append]
      rw [b161_74]
      unfold dayW preS
      rw [if_pos h0]
    · unfold dayS preS
      rw [if_pos h0]
      exact hM1
  · have hpos : (0 : Int32) < nI n := by rw [show (0 : Int32) = nI 0 from rfl, nn_lt (by decide) (by omega)]; omega
    have hn0 : ¬ nI n = 0 := nI_ne0 (by omega) (by omega)
    have hb : blown S n < n := Nat.mod_lt _ (by omega)
    have hf0 : ∀ v, ma_u2 a 45 2 v 45 0 = a 45 0 := fun v => by rw [u2_at, if_neg (by omega)]
    have hf2 : ∀ v, ma_u2 a 45 2 v 45 2 = v := fun v => by rw [u2_at, if_pos ⟨rfl, rfl⟩]
    have hMz : isM (ma_u2 a 45 2 (drawZ (drawZ (S 2)))) 45 (up1 S 2 (drawZ (drawZ (S 2)))) := hM.up
    have hix : (14 : Int32) + 6 * nI (blown S n) + 2 = nI (14 + 6 * blown S n + 2) := ixN (c := 2)
    have hin : ma_in (nI (14 + 6 * blown S n + 2)) 62 = true := by rw [nn_in (by omega)]; simp; omega
    have hn2 : (nI (14 + 6 * blown S n + 2)).toNatClampNeg = 14 + 6 * blown S n + 2 := nn_nat (by omega)
    have hg : ma_u2 a 45 2 (drawZ (drawZ (S 2))) 45 7 = S 7 := by rw [u2_at, if_neg (by omega)]; exact hM 7 (by decide)
    have hh : ma_u2 a 45 2 (drawZ (drawZ (S 2))) 45 (14 + 6 * blown S n + 2) = lf S (blown S n) 2 := by rw [u2_at, if_neg (by omega)]; exact hM _ (by omega)
    rw [if_pos hpos, b161_9, m_drawn]
    simp only [Option.bind_some, Option.toList_some, List.cons_append, List.nil_append]
    rw [b161_17 _ _ _ _ (by rw [hf0, hc]; exact hn0), hf0, hc, m_drawn, hf2, u2_u2, hz, blown_nn h0 h8, hix]
    simp only [Option.bind_some, Option.toList_some, List.cons_append, List.nil_append]
    rw [b161_38, hg]
    by_cases hw : topZ (drawZ (drawZ (S 2))) - topZ (drawZ (drawZ (S 2))) / 100 * 100 < S 7
    · have hp : preS S n = up1 (up1 S 2 (drawZ (drawZ (S 2)))) (14 + 6 * blown S n + 2) (lf S (blown S n) 2 / 3) := by
        unfold preS
        rw [if_neg h0, if_pos hw]
      have hM2 : isM (ma_u2 (ma_u2 a 45 2 (drawZ (drawZ (S 2)))) 45 (14 + 6 * blown S n + 2) (lf S (blown S n) 2 / 3)) 45 (preS S n) := by
        rw [hp]
        exact hMz.up
      obtain ⟨a1, e1, hM1, ha1⟩ := m_goesBy (xs := xs) (L := L) (f := f) (g := g) (ti := 0) hM2 W.pre
      rw [if_pos hw, b161_51 _ _ hin hin, hn2, hh, e1]
      simp only [Option.bind_some, Option.toList_some, List.cons_append, List.nil_append]
      refine ⟨a1, ?_, hM1, fun q hq hq2 => by rw [ha1 q hq hq2, u2_ne hq, u2_ne hq]⟩
      rw [b161_74]
      rfl
    · have hp : ∀ k, preS S n k = up1 (up1 S 2 (drawZ (drawZ (S 2)))) (14 + 6 * blown S n + 2) (lf S (blown S n) 2) k := fun k => by
        have : lf S (blown S n) 2 = up1 S 2 (drawZ (drawZ (S 2))) (14 + 6 * blown S n + 2) := by rw [up1_at, if_neg (by omega)]; rfl
        rw [this, up1_same]
        unfold preS
        rw [if_neg h0, if_neg hw]
      have hM2 : isM (ma_u2 (ma_u2 a 45 2 (drawZ (drawZ (S 2)))) 45 (14 + 6 * blown S n + 2) (lf S (blown S n) 2)) 45 (preS S n) := fun k hk => by
        rw [hp k]
        exact hMz.up k hk
      obtain ⟨a1, e1, hM1, ha1⟩ := m_goesBy (xs := xs) (L := L) (f := f) (g := g) (ti := 0) hM2 W.pre
      rw [if_neg hw, b161_62 _ _ hin hin, hn2, hh, e1]
      simp only [Option.bind_some, Option.toList_some, List.cons_append, List.nil_append]
      refine ⟨a1, ?_, hM1, fun q hq hq2 => by rw [ha1 q hq hq2, u2_ne hq, u2_ne hq]⟩
      rw [b161_74]
      rfl
end S52
