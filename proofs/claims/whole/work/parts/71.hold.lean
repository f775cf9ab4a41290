/-! ===== holdFor, tiedFor ===== -/
section S71
variable {xs : Nat → Int32} {L : Nat} {g : Nat → Nat → Int64} {S : Row} {n o : Nat} {ti : Int32}
theorem hg_days_false {T : Row} {r : Nat} (h : ¬ hg T o = true) : hg (daysS T n ti r) o = false := by
  cases e : hg (daysS T n ti r) o with
  | false => rfl
  | true => exact absurd (hg_days_mono _ e) h
theorem c_hb0 {m : Nat} (ho : o < n) (hm : m < 2147483648) : ∀ (r i : Nat) (T : Row) (f a : Nat → Nat → Int32), i + r = m → WF T n → isT 9 f a T n ti → ∃ f1 a1, rn xs L 85 2 [vR 0, vI (nI o), vI (nI m), vI (nI i)] [] (mw f a g) = some (some (vI (bI (hg (daysS T n ti r) o))), mw f1 a1 g) ∧ same (oT 9) f a g f1 a1 g
  | 0, i, T, f, a, hi, W, hT => by
    refine ⟨f, a, ?_, same.refl⟩
    rw [b85_2, if_neg (by rw [nn_lt (by omega) (by omega)]; omega), b85_32, c_hangs tr9 W hT.L ho]
    simp only [Option.bind_some, Option.toList_some, List.cons_append, List.nil_append]
    rw [b85_40 _ _ _ _ bI_01]
    rfl
  | r + 1, i, T, f, a, hi, W, hT => by
    rw [b85_2, if_pos (by rw [nn_lt (by omega) (by omega)]; omega), b85_7, c_hangs tr9 W hT.L ho]
    simp only [Option.bind_some, Option.toList_some, List.cons_append, List.nil_append]
    rw [b85_15]
    by_cases h : hg T o = true
    · obtain ⟨f1, a1, e1, hT1, hs1⟩ := c_passDay (xs := xs) (L := L) (g := g) tr9 W hT
      obtain ⟨f2, a2, e2, hs2⟩ := c_hb0 ho hm r (i + 1) _ f1 a1 (by omega) W.pass hT1
      refine ⟨f2, a2, ?_, hs1.trans hs2⟩
      rw [h, if_neg (by decide), b85_18, e1]
      simp only [Option.bind_some, Option.toList_some, List.cons_append, List.nil_append]
      rw [b85_25, nn_add1, e2, days_pass]
    · refine ⟨f, a, ?_, same.refl⟩
      have hf : hg T o = false := by simpa using h
      rw [hf, if_pos (by decide), b85_32, c_hangs tr9 W hT.L ho]
      simp only [Option.bind_some, Option.toList_some, List.cons_append, List.nil_append]
      rw [b85_40 _ _ _ _ bI_01, hg_days_false h, hf]
theorem c_hb {m : Nat} {f a : Nat → Nat → Int32} (ho : o < n) (hm : m < 2147483648) (W : WF S n) (hT : isT 9 f a S n ti) : ∃ f1 a1, ev xs L 85 4 [vR 0, vI (nI o), vI (nI m)] (mw f a g) = some (some (vI (bI (hg (daysS S n ti m) o))), mw f1 a1 g) ∧ same (oT 9) f a g f1 a1 g := by
  obtain ⟨f1, a1, e1, hs1⟩ := c_hb0 (xs := xs) (L := L) (g := g) ho hm m 0 S f a (by omega) W hT
  refine ⟨f1, a1, ?_, hs1⟩
  show rn xs L 85 0 [vR 0, vI (nI o), vI (nI m), vS 0] [] (mw f a g) = _
  rw [b85_0]
  exact e1
theorem m_hb0 {m : Nat} (ho : o < n) (hm : m < 2147483648) : ∀ (r i : Nat) (T : Row) (f a : Nat → Nat → Int32) (l5 : ma_V), i + r = m → WF T n → isM a 45 T → isM a 47 S → ∃ a1, rn xs L 181 14 [vR 44, vI (nI o), vI (nI m), vI ti, vI (nI i), l5] [] (mw f a g) = some (some (vI (bI (hg (daysS T n ti r) o))), mw f a1 g) ∧ isM a1 45 S ∧ (∀ q, q ≠ 45 → q ≠ 50 → a1 q = a q)
  | 0, i, T, f, a, l5, hi, W, hM, h47 => by
    have h8 := W.n8
    obtain ⟨a1, e1, hM1, ha1⟩ := m_copy (xs := xs) (L := L) (f := f) (g := g) rw47 rw45 (by decide) h47
    refine ⟨a1, ?_, hM1, fun q h1 _ => ha1 q h1⟩
    rw [b181_14, if_neg (by rw [nn_lt (by omega) (by omega)]; omega), b181_33, m_its4 hM (by omega)]
    simp only [Option.bind_some, Option.toList_some, List.cons_append, List.nil_append]
    rw [b181_39]
    show _ = some (some (vI (bI (hg T o))), mw f a1 g)
    by_cases h : hg T o = true
    · rw [hg41 h, if_pos rfl, b181_43, e1]
      simp only [Option.bind_some, Option.toList_none, List.nil_append]
      rw [b181_61 _ _ _ _ _ (Or.inr rfl), h]
      rfl
    · have hf : hg T o = false := by simpa using h
      rw [hg4 W ho h, if_neg (by decide), b181_47, e1]
      simp only [Option.bind_some, Option.toList_none, List.nil_append]
      rw [b181_61 _ _ _ _ _ (Or.inl rfl), hf]
      rfl
  | r + 1, i, T, f, a, l5, hi, W, hM, h47 => by
    obtain ⟨a1, e1, hM1, ha1⟩ := m_goesBy (xs := xs) (L := L) (f := f) (g := g) (ti := ti) hM W
    obtain ⟨a2, e2, hM2, ha2⟩ := m_hb0 ho hm r (i + 1) _ f a1 (vI (encO (whoS T n ti))) (by omega) W.pass hM1 (h47.of (ha1 47 (by decide) (by decide)))
    refine ⟨a2, ?_, hM2, fun q h1 h2 => (ha2 q h1 h2).trans (ha1 q h1 h2)⟩
    rw [b181_14, if_pos (by rw [nn_lt (by omega) (by omega)]; omega), b181_20, e1]
    simp only [Option.bind_some, Option.toList_some, List.cons_append, List.nil_append]
    rw [b181_25, nn_add1, e2, days_pass]
theorem m_hb {m : Nat} {f a : Nat → Nat → Int32} (ho : o < n) (hm : m < 2147483648) (W : WF S n) (hM : isM a 45 S) : ∃ a1, ev xs L 181 6 [vR 44, vI (nI o), vI (nI m), vI ti] (mw f a g) = some (some (vI (bI (hg (daysS S n ti m) o))), mw f a1 g) ∧ isM a1 45 S ∧ (∀ q, q ≠ 45 → q ≠ 47 → q ≠ 50 → a1 q = a q) := by
  obtain ⟨a1, e1, hM1, ha1⟩ := m_copy (xs := xs) (L := L) (f := f) (g := g) rw45 rw47 (by decide) hM
  obtain ⟨a2, e2, hM2, ha2⟩ := m_hb0 (xs := xs) (L := L) (g := g) (ti := ti) ho hm m 0 S f a1 (vS 0) (by omega) W (hM.of (ha1 45 (by decide))) hM1
  refine ⟨a2, ?_, hM2, fun q h1 h2 h3 => (ha2 q h1 h3).trans (ha1 q h2)⟩
  show rn xs L 181 0 [vR 44, vI (nI o), vI (nI m), vI ti, vS 0, vS 0] [] (mw f a g) = _
  rw [b181_0, e1]
  simp only [Option.bind_some, Option.toList_none, List.nil_append]
  rw [b181_11]
  exact e2
theorem m_isShort {x : Int32} {f a : Nat → Nat → Int32} : ev xs L 180 1 [vI x] (mw f a g) = some (some (vI (bI (isw 1 20 x))), mw f a g) := by
  show rn xs L 180 0 [vI x] [] (mw f a g) = _
  rw [b180_0, m_in_1_20]
  simp only [Option.bind_some, Option.toList_some, List.cons_append, List.nil_append]
  rw [b180_9 _ _ bI_01]
end S71
/-- the first from i on, within r -/
def fstB (p : Nat → Bool) : Nat → Nat → Int32
  | _, 0 => -3
  | i, r + 1 => if p i then nI i else fstB p (i + 1) r
theorem fstB_none {p : Nat → Bool} (h : ∀ i, p i = false) : ∀ r i, fstB p i r = -3
  | 0, _ => rfl
  | r + 1, i => by
    rw [fstB, h i, if_neg (by decide)]
    exact fstB_none h r (i + 1)
def hbR (S : Row) (n o k h : Nat) : Bool := hg (daysS (up1 S (14 + 6 * o + 2) (nI h)) n 0 k) o
section S71b
variable {xs : Nat → Int32} {L : Nat} {g : Nat → Nat → Int64} {S : Row} {n o : Nat}
theorem c_hold0 {k : Nat} (W : WF S n) (ho : o < n) (hk : k < 2147483648) : ∀ (r v : Nat) (f a : Nat → Nat → Int32), v + r = 100 → isT 1 f a S n 0 → ∃ f1 a1, rn xs L 84 39 [vR 0, vI (nI o), vI (nI k), vI (nI v)] [] (mw f a g) = some (some (vI (fstB (hbR S n o k) v r)), mw f1 a1 g) ∧ same (oT 9) f a g f1 a1 g
  | 0, v, f, a, hv, hT => by
    have e : v = 100 := by omega
    subst e
    refine ⟨f, a, ?_, same.refl⟩
    rw [b84_39, if_pos (by decide), b84_83]
    rfl
  | r + 1, v, f, a, hv, hT => by
    have h8 := W.n8
    have hin : ma_in (nI o) 8 = true := in_of (by omega) (by decide)
    have hn : (nI o).toNatClampNeg = o := nn_nat (by omega)
    have WS : WF (up1 S (14 + 6 * o + 2) (nI v)) n := W.hi (c := 2) (u := v) (by decide) (by show v ≤ 99; omega) rfl
    obtain ⟨f1, a1, e1, hT1, hs1⟩ := c_become (xs := xs) (L := L) (g := g) tr9 tr1 (by decide) W hT
    have hTs : isT 9 f1 (ma_u2 a1 14 o (nI v)) (up1 S (14 + 6 * o + 2) (nI v)) n 0 := c_setLf (c := 2) hT1 (by decide)
    have hsz : same (oT 9) f1 a1 g f1 (ma_u2 a1 14 o (nI v)) g := fun q hq => ⟨rfl, u2_ne (by unfold oT at hq; omega), rfl⟩
    obtain ⟨f2, a2, e2, hs2⟩ := c_hb (xs := xs) (L := L) (g := g) ho hk WS hTs
    have hs := hs1.trans (hsz.trans hs2)
    obtain ⟨f3, a3, e3, hs3⟩ := c_hold0 W ho hk r (v + 1) f2 a2 (by omega) (hT.keep9 hs)
    have hlt : ¬ (99 : Int32) < nI v := by rw [show (99 : Int32) = nI 99 from rfl, nn_lt (by omega) (by omega)]; omega
    rw [b84_39, if_neg hlt, b84_45, e1]
    simp only [Option.bind_some, Option.toList_none, List.nil_append]
    rw [b84_56 _ _ _ hin, hn, e2]
    simp only [Option.bind_some, Option.toList_some, List.cons_append, List.nil_append]
    rw [b84_72]
    by_cases h : hbR S n o k v = true
    · refine ⟨f2, a2, ?_, hs⟩
      have h' : hg (daysS (up1 S (14 + 6 * o + 2) (nI v)) n 0 k) o = true := h
      rw [h', if_neg (by decide), b84_75, fstB, if_pos h]
    · refine ⟨f3, a3, ?_, hs.trans hs3⟩
      have h' : hg (daysS (up1 S (14 + 6 * o + 2) (nI v)) n 0 k) o = false := by simpa [hbR] using h
      rw [h', if_pos (by decide), b84_77, nn_add1, e3, fstB, if_neg h]
theorem m_hold0 {k : Nat} {was : Int32} (W : WF S n) (ho : o < n) (hk : k < 2147483648) (hwas : was = S (14 + 6 * o + 2)) : ∀ (r v : Nat) (f a : Nat → Nat → Int32) (u : Int32), v + r = 100 → isM a 45 (up1 S (14 + 6 * o + 2) u) → ∃ a1, rn xs L 179 42 [vR 44, vI (nI o), vI (nI k), vI (nI (14 + 6 * o + 2)), vI was, vI (-3), vI (nI v)] [] (mw f a g) = some (some (vI (fstB (hbR S n o k) v r)), mw f a1 g) ∧ isM a1 45 S ∧ (∀ q, q ≠ 45 → q ≠ 47 → q ≠ 50 → a1 q = a q)
  | 0, v, f, a, u, hv, hM => by
    have h8 := W.n8
    have e : v = 100 := by omega
    subst e
    have hin : ma_in (nI (14 + 6 * o + 2)) 62 = true := by rw [nn_in (by omega)]; simp; omega
    refine ⟨ma_u2 a 45 (14 + 6 * o + 2) was, ?_, by rw [hwas]; exact hM.back, fun q h1 _ _ => u2_ne h1⟩
    rw [b179_42, if_pos (by decide), b179_87 _ _ _ _ _ _ hin, nn_nat (by omega)]
    rfl
  | r + 1, v, f, a, u, hv, hM => by
    have h8 := W.n8
    have hin : ma_in (nI (14 + 6 * o + 2)) 62 = true := by rw [nn_in (by omega)]; simp; omega
    have WS : WF (up1 S (14 + 6 * o + 2) (nI v)) n := W.hi (c := 2) (u := v) (by decide) (by show v ≤ 99; omega) rfl
    have hMv : isM (ma_u2 a 45 (14 + 6 * o + 2) (nI v)) 45 (up1 S (14 + 6 * o + 2) (nI v)) := by
      have := hM.up (k := 14 + 6 * o + 2) (v := nI v)
      rw [up1_up1] at this
      exact this
    obtain ⟨a1, e1, hM1, ha1⟩ := m_hb (xs := xs) (L := L) (f := f) (g := g) (ti := 0) ho hk WS hMv
    have hlt : ¬ (99 : Int32) < nI v := by rw [show (99 : Int32) = nI 99 from rfl, nn_lt (by omega) (by omega)]; omega
    rw [b179_42, if_neg hlt, b179_49, if_pos (by decide), b179_54 _ _ _ _ _ _ hin, nn_nat (by omega), e1]
    simp only [Option.bind_some, Option.toList_some, List.cons_append, List.nil_append]
    rw [b179_69]
    by_cases h : hbR S n o k v = true
    · have h' : hg (daysS (up1 S (14 + 6 * o + 2) (nI v)) n 0 k) o = true := h
      refine ⟨ma_u2 a1 45 (14 + 6 * o + 2) was, ?_, by rw [hwas]; exact hM1.back, fun q h1 h2 h3 => by rw [u2_ne h1, ha1 q h1 h2 h3, u2_ne h1]⟩
      have hgo : rn xs L 179 42 [vR 44, vI (nI o), vI (nI k), vI (nI (14 + 6 * o + 2)), vI was, vI (nI v), vI (nI (v + 1))] [] (mw f a1 g) = rn xs L 179 87 [vR 44, vI (nI o), vI (nI k), vI (nI (14 + 6 * o + 2)), vI was, vI (nI v), vI (nI (v + 1))] [] (mw f a1 g) := by
        rw [b179_42]
        by_cases h2 : (99 : Int32) < nI (v + 1)
        · rw [if_pos h2]
        · rw [if_neg h2, b179_49, if_neg (nI_pos (by omega))]
      rw [h', if_neg (by decide), b179_72, nn_add1, hgo, b179_87 _ _ _ _ _ _ hin, nn_nat (by omega), fstB, if_pos h]
    · have h' : hg (daysS (up1 S (14 + 6 * o + 2) (nI v)) n 0 k) o = false := by simpa [hbR] using h
      obtain ⟨a2, e2, hM2, ha2⟩ := m_hold0 W ho hk hwas r (v + 1) f a1 (nI v) (by omega) hM1
      refine ⟨a2, ?_, hM2, fun q h1 h2 h3 => by rw [ha2 q h1 h2 h3, ha1 q h1 h2 h3, u2_ne h1]⟩
      rw [h', if_pos (by decide), b179_77, nn_add1, e2, fstB, if_neg h]
end S71b
theorem op_holdFor {leaf v : Int32} : TOP 84 4 179 7 [vI leaf, vI v] := by
  intro xs L S n W
  have h8 := W.n8
  by_cases h : hasR n leaf = true
  · obtain ⟨o, ho, rfl⟩ := hasR_to h8 h
    by_cases h2 : isw 1 20 v = true
    · obtain ⟨m, hm, rfl⟩ : ∃ m, m < 2147483648 ∧ v = nI m := ⟨_, clamp_lt, nn_of (isw_pos h2 (by decide))⟩
      have mod : ∀ (f a : Nat → Nat → Int32) (g : Nat → Nat → Int64), isM a 45 S → ∃ a1, ev xs L 179 7 (vR 44 :: [vI (nI o), vI (nI m)]) (mw f a g) = some (some (vI (fstB (hbR S n o m) 0 100)), mw f a1 g) ∧ isM a1 45 S ∧ (∀ q, q ≠ 45 → q ≠ 47 → q ≠ 48 → q ≠ 50 → a1 q = a q) := by
        intro f a g hM
        have hin : ma_in (nI (14 + 6 * o + 2)) 62 = true := by rw [nn_in (by omega)]; simp; omega
        have hM0 : isM a 45 (up1 S (14 + 6 * o + 2) (S (14 + 6 * o + 2))) := hM.eq (fun j _ => up1_same.symm)
        obtain ⟨a1, e1, hM1, ha1⟩ := m_hold0 (xs := xs) (L := L) (g := g) (was := S (14 + 6 * o + 2)) W ho hm rfl 100 0 f a (S (14 + 6 * o + 2)) (by omega) hM0
        refine ⟨a1, ?_, hM1, fun q h1 h2 _ h4 => ha1 q h1 h2 h4⟩
        have ex : (14 : Int32) + 6 * nI o + 2 = nI (14 + 6 * o + 2) := ixN (c := 2)
        show rn xs L 179 0 [vR 44, vI (nI o), vI (nI m), vS 0, vS 0, vS 0, vS 0] [] (mw f a g) = _
        rw [b179_0, m_has hM W, h]
        simp only [Option.bind_some, Option.toList_some, List.cons_append, List.nil_append]
        rw [b179_5, if_neg (by decide), b179_8, m_isShort, h2]
        simp only [Option.bind_some, Option.toList_some, List.cons_append, List.nil_append]
        rw [b179_12, if_neg (by decide), b179_17 _ _ _ _ _ _ (by rw [ex]; exact hin), ex, nn_nat (by omega), hM _ (by omega)]
        exact e1
      by_cases hh : hg S o = true
      · refine ⟨vI (fstB (hbR S n o m) 0 100), S, n, W, fun f a g hT => ?_, fun f a g hM => mod f a g hM⟩
        obtain ⟨f1, a1, e1, hs1⟩ := c_hold0 (xs := xs) (L := L) (g := g) W ho hm 100 0 f a (by omega) hT
        refine ⟨f1, a1, ?_, hT.keep9 hs1, same_tree9 hs1⟩
        show rn xs L 84 0 [vR 0, vI (nI o), vI (nI m), vS 0] [] (mw f a g) = _
        rw [b84_0, c_has tr1 hT.L, h]
        simp only [Option.bind_some, Option.toList_some, List.cons_append, List.nil_append]
        rw [b84_8, if_neg (by decide), b84_11, e_within, h2]
        simp only [Option.bind_some, Option.toList_some, List.cons_append, List.nil_append]
        rw [b84_18, if_neg (by decide), b84_23, c_hangs tr1 W hT.L ho, hh]
        simp only [Option.bind_some, Option.toList_some, List.cons_append, List.nil_append]
        rw [b84_31, if_neg (by decide), b84_37]
        exact e1
      · have hf : hg S o = false := by simpa using hh
        have hno : fstB (hbR S n o m) 0 100 = -3 := fstB_none (fun i => hg_days_false (by
          have : hg (up1 S (14 + 6 * o + 2) (nI i)) o = hg S o := by unfold hg; rw [lf_up1 (by decide) (by decide), if_neg (by omega)]
          rw [this]; exact hh)) 100 0
        refine ⟨vI (-3), S, n, W, fun f a g hT => ⟨f, a, ?_, hT, same.refl⟩, fun f a g hM => by rw [← hno]; exact mod f a g hM⟩
        show rn xs L 84 0 [vR 0, vI (nI o), vI (nI m), vS 0] [] (mw f a g) = _
        simp [b84_0, b84_8, b84_11, b84_18, b84_21, b84_23, b84_31, b84_34, b84_37, b84_45, b84_56, b84_72, b84_75, b84_77, b84_83, c_has tr1 hT.L, e_within, h, h2, bI, c_hangs tr1 W hT.L ho, hf]
    · refine ⟨vI (-1), S, n, W, fun f a g hT => ⟨f, a, ?_, hT, same.refl⟩, fun f a g hM => ⟨a, ?_, hM, fun _ _ _ _ _ => rfl⟩⟩
      · show rn xs L 84 0 [vR 0, vI (nI o), vI v, vS 0] [] (mw f a g) = _
        simp [b84_0, b84_8, b84_11, b84_18, b84_21, b84_23, b84_31, b84_34, b84_37, b84_45, b84_56, b84_72, b84_75, b84_77, b84_83, c_has tr1 hT.L, e_within, h, h2, bI]
      · show rn xs L 179 0 [vR 44, vI (nI o), vI v, vS 0, vS 0, vS 0, vS 0] [] (mw f a g) = _
        simp [b179_0, b179_5, b179_8, b179_12, b179_15, b179_17, b179_49, b179_54, b179_69, b179_72, b179_77, b179_87, m_has hM W, m_isShort, h, h2, bI]
  · refine ⟨vI (-1), S, n, W, fun f a g hT => ⟨f, a, ?_, hT, same.refl⟩, fun f a g hM => ⟨a, ?_, hM, fun _ _ _ _ _ => rfl⟩⟩
    · show rn xs L 84 0 [vR 0, vI leaf, vI v, vS 0] [] (mw f a g) = _
      simp [b84_0, b84_8, b84_11, b84_18, b84_21, b84_23, b84_31, b84_34, b84_37, b84_45, b84_56, b84_72, b84_75, b84_77, b84_83, c_has tr1 hT.L, h, bI]
    · show rn xs L 179 0 [vR 44, vI leaf, vI v, vS 0, vS 0, vS 0, vS 0] [] (mw f a g) = _
      simp [b179_0, b179_5, b179_8, b179_12, b179_15, b179_17, b179_49, b179_54, b179_69, b179_72, b179_77, b179_87, m_has hM W, h, bI]
