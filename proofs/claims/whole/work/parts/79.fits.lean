/-! ===== fits ===== -/
theorem l_inj {x y : Int32} : (x.toInt64 = y.toInt64) ↔ x = y := ⟨fun h => by rw [← l_back x, h, l_back], fun h => by rw [h]⟩
theorem l_m1 {x : Int32} : (x.toInt64 = (-1 : Int64)) ↔ x = -1 := by
  rw [show (-1 : Int64) = (-1 : Int32).toInt64 by decide]
  exact l_inj
/-- the sign of the one that falls -/
def sgnF (T : Row) (n : Nat) : Int32 := match whoS T n 0 with
  | none => 10
  | some b => lf (passS T n 0) b 3
def fitR (it : Nat → Int32) (n : Nat) : Nat → Nat → Row → Bool
  | 0, _, _ => true
  | r + 1, i, T => if it i = -1 ∨ it i = sgnF T n then fitR it n r (i + 1) (passS T n 0) else false
theorem isT.tied0 {t : Nat} {f a : Nat → Nat → Int32} {S : Row} {n : Nat} {ti : Int32} (h : isT t f a S n ti) : isT t f a S n (f t 11) := by
  rw [h.tie]; exact h
section S79
variable {xs : Nat → Int32} {L : Nat} {g : Nat → Nat → Int64} {S : Row} {n o l : Nat} {it : Nat → Int32}
theorem c_told0 {t : Nat} {h : Int32} (ht : is_sh t) (hl : l ≤ 40) (hg : ∀ i, i < 40 → g (t + 1) i = (it i).toInt64) : ∀ (r i : Nat) (T : Row) (f a : Nat → Nat → Int32) (l5 l6 : ma_V), i + r = l → WF T n → isT 9 f a T n 0 → f t 2 = nI l → ∃ f1 a1, rn xs L 88 24 [vR 0, vR t, vI (nI o), vI h, vI (nI i), l5, l6] [] (mw f a g) = some (some (vI (bI (fitR it n r i T))), mw f1 a1 g) ∧ same (oT 9) f a g f1 a1 g
  | 0, i, T, f, a, l5, l6, hi, W, hT, hf => by
    refine ⟨f, a, ?_, same.refl⟩
    rw [b88_24 _ _ _ _ _ _ ht, hf, if_neg (by rw [nn_lt (by omega) (by omega)]; omega), b88_100 _ _ _ _ _ _ ht]
    rfl
  | r + 1, i, T, f, a, l5, l6, hi, W, hT, hf => by
    have h8 := W.n8
    have hink : ma_in (nI i) 40 = true := in_of (by omega) (by decide)
    have hni : (nI i).toNatClampNeg = i := nn_nat (by omega)
    have hgi := hg i (by omega)
    obtain ⟨f1, a1, e1, hT1, hs1⟩ := c_passDay (xs := xs) (L := L) (g := g) tr9 W hT
    have hf1 : f1 t 2 = nI l := by
      have : f1 t = f t := (hs1 t (Or.inr (by unfold is_sh at ht; omega))).1
      rw [this]; exact hf
    rw [b88_24 _ _ _ _ _ _ ht, hf, if_pos (by rw [nn_lt (by omega) (by omega)]; omega), b88_33 _ _ _ _ _ _ ht, e1]
    simp only [Option.bind_some, Option.toList_some, List.cons_append, List.nil_append]
    rw [b88_40 _ _ _ _ _ _ _ ht]
    have fin : ∀ (l5 l6 : Int32), l6 = sgnF T n → ∃ f2 a2, (if lg_cmp (g (t + 1) i) (-1) = 0 then rn xs L 88 94 [vR 0, vR t, vI (nI o), vI h, vI (nI i), vI l5, vI l6] [] (mw f1 a1 g) else rn xs L 88 78 [vR 0, vR t, vI (nI o), vI h, vI (nI i), vI l5, vI l6] [] (mw f1 a1 g)) = some (some (vI (bI (fitR it n (r + 1) i T))), mw f2 a2 g) ∧ same (oT 9) f a g f2 a2 g := by
      intro l5 l6 h6
      obtain ⟨f2, a2, e2, hs2⟩ := c_told0 (h := h) ht hl hg r (i + 1) _ f1 a1 (vI l5) (vI l6) (by omega) W.pass hT1 hf1
      have go : ∀ c, c = true → (it i = -1 ∨ it i = sgnF T n) → fitR it n (r + 1) i T = fitR it n r (i + 1) (passS T n 0) := fun _ _ hc => by rw [fitR, if_pos hc]
      rw [hgi]
      by_cases c1 : it i = -1
      · refine ⟨f2, a2, ?_, hs1.trans hs2⟩
        rw [if_pos (lc_eq.mpr (l_m1.mpr c1)), b88_94 _ _ _ _ _ _ ht, nn_add1, e2, go true rfl (Or.inl c1)]
      · rw [if_neg (fun q => c1 (l_m1.mp (lc_eq.mp q))), b88_78 _ _ _ _ _ _ ht hink, hni, hgi]
        by_cases c2 : it i = l6
        · refine ⟨f2, a2, ?_, hs1.trans hs2⟩
          rw [if_pos (lc_eq.mpr (l_inj.mpr c2)), b88_94 _ _ _ _ _ _ ht, nn_add1, e2, go true rfl (Or.inr (c2.trans h6))]
        · refine ⟨f1, a1, ?_, hs1⟩
          rw [if_neg (fun q => c2 (l_inj.mp (lc_eq.mp q))), b88_92 _ _ _ _ _ _ ht, fitR, if_neg (fun q => by
            rcases q with q | q
            · exact c1 q
            · exact c2 (q.trans h6.symm))]
          rfl
    cases e : whoS T n 0 with
    | none =>
      rw [show encO none = -1 from rfl, if_pos (by decide), b88_47 _ _ _ _ _ _ ht hink, hni]
      exact fin (-1) 10 (by unfold sgnF; rw [e])
    | some b =>
      have hb := (bst_in n e).1
      have hinb : ma_in (nI b) 8 = true := in_of (by omega) (by decide)
      rw [show encO (some b) = nI b from rfl, if_neg (nI_pos (by omega)), b88_52 _ _ _ _ _ _ ht hinb hink, hni, nn_nat (by omega)]
      exact fin (nI b) (a1 15 b) (by unfold sgnF; rw [e]; exact hT1.L.sgn b hb)
theorem c_fitsWith {t : Nat} {f a : Nat → Nat → Int32} {v : Nat} (ht : is_sh t) (hl : l ≤ 40) (hg : ∀ i, i < 40 → g (t + 1) i = (it i).toInt64) (W : WF S n) (ho : o < n) (hv : v ≤ 99) (hT : isT 1 f a S n 0) (hf : f t 2 = nI l) : ∃ f1 a1, ev xs L 88 7 [vR 0, vR t, vI (nI o), vI (nI v)] (mw f a g) = some (some (vI (bI (fitR it n l 0 (up1 S (14 + 6 * o + 2) (nI v))))), mw f1 a1 g) ∧ same (oT 9) f a g f1 a1 g := by
  have h8 := W.n8
  have hin : ma_in (nI o) 8 = true := in_of (by omega) (by decide)
  have WS : WF (up1 S (14 + 6 * o + 2) (nI v)) n := W.hi (c := 2) (u := v) (by decide) hv rfl
  obtain ⟨f1, a1, e1, hT1, hs1⟩ := c_become (xs := xs) (L := L) (g := g) tr9 tr1 (by decide) W hT
  have hTs : isT 9 f1 (ma_u2 a1 14 o (nI v)) (up1 S (14 + 6 * o + 2) (nI v)) n 0 := c_setLf (c := 2) hT1 (by decide)
  have hsz : same (oT 9) f1 a1 g f1 (ma_u2 a1 14 o (nI v)) g := fun q hq => ⟨rfl, u2_ne (by unfold oT at hq; omega), rfl⟩
  have hf1 : f1 t 2 = nI l := by
    have : f1 t = f t := (hs1 t (Or.inr (by unfold is_sh at ht; omega))).1
    rw [this]; exact hf
  obtain ⟨f2, a2, e2, hs2⟩ := c_told0 (xs := xs) (L := L) (g := g) (o := o) (h := nI v) ht hl hg l 0 _ f1 (ma_u2 a1 14 o (nI v)) (vS 0) (vS 0) (by omega) WS hTs hf1
  refine ⟨f2, a2, ?_, hs1.trans (hsz.trans hs2)⟩
  show rn xs L 88 0 [vR 0, vR t, vI (nI o), vI (nI v), vS 0, vS 0, vS 0] [] (mw f a g) = _
  rw [b88_0 _ _ _ _ _ _ ht, e1]
  simp only [Option.bind_some, Option.toList_none, List.nil_append]
  rw [b88_11 _ _ _ _ _ _ ht hin, nn_nat (by omega)]
  exact e2
theorem m_told0 {q : Nat} (hq : q < 4) (hl : l ≤ 40) : ∀ (r i : Nat) (T : Row) (f a : Nat → Nat → Int32) (l4 l5 : ma_V), i + r = l → WF T n → isM a 45 T → isM a 47 S → a 53 q = nI l → (∀ i, i < 40 → a 54 (40 * q + i) = it i) → ∃ a1, rn xs L 185 15 [vR 44, vI (nI q), vI 1, vI (nI i), l4, l5] [] (mw f a g) = some (some (vI (bI (fitR it n r i T))), mw f a1 g) ∧ isM a1 45 S ∧ (∀ p, p ≠ 45 → p ≠ 50 → a1 p = a p)
  | 0, i, T, f, a, l4, l5, hi, W, hM, h47, h53, h54 => by
    have hin : ma_in (nI q) 4 = true := in_of hq (by decide)
    have hnq : (nI q).toNatClampNeg = q := nn_nat (by omega)
    obtain ⟨a1, e1, hM1, ha1⟩ := m_copy (xs := xs) (L := L) (f := f) (g := g) rw47 rw45 (by decide) h47
    refine ⟨a1, ?_, hM1, fun p h1 _ => ha1 p h1⟩
    rw [b185_15 _ _ _ _ _ hin, hnq, h53, if_neg (by rw [nn_lt (by omega) (by omega)]; omega), b185_98, e1]
    simp only [Option.bind_some, Option.toList_none, List.nil_append]
    rw [b185_109 _ _ _ _ _ (Or.inr rfl)]
    rfl
  | r + 1, i, T, f, a, l4, l5, hi, W, hM, h47, h53, h54 => by
    have h8 := W.n8
    have hin : ma_in (nI q) 4 = true := in_of hq (by decide)
    have hnq : (nI q).toNatClampNeg = q := nn_nat (by omega)
    have e40 : (40 : Int32) * nI q + nI i = nI (40 * q + i) := by rw [show (40 : Int32) = nI 40 from rfl, nn_mul, nn_add]
    have hin4 : ma_in ((40 : Int32) * nI q + nI i) 160 = true := by rw [e40]; exact in_of (by omega) (by decide)
    have hn4 : ((40 : Int32) * nI q + nI i).toNatClampNeg = 40 * q + i := by rw [e40]; exact nn_nat (by omega)
    obtain ⟨a1, e1, hM1, ha1⟩ := m_goesBy (xs := xs) (L := L) (f := f) (g := g) (ti := 0) hM W
    have x47 : isM a1 47 S := h47.of (ha1 47 (by decide) (by decide))
    have x53 : a1 53 q = nI l := by rw [ha1 53 (by decide) (by decide)]; exact h53
    have x54 : ∀ i, i < 40 → a1 54 (40 * q + i) = it i := fun i hi => by rw [ha1 54 (by decide) (by decide)]; exact h54 i hi
    have h54i := x54 i (by omega)
    rw [b185_15 _ _ _ _ _ hin, hnq, h53, if_pos (by rw [nn_lt (by omega) (by omega)]; omega), b185_25, if_neg (by decide), b185_29, e1]
    simp only [Option.bind_some, Option.toList_some, List.cons_append, List.nil_append]
    rw [b185_34]
    have fin : ∀ (l4 l5 : Int32), l5 = sgnF T n → ∃ a2, (if it i = -1 then rn xs L 185 86 [vR 44, vI (nI q), vI 1, vI (nI i), vI l4, vI l5] [] (mw f a1 g) else rn xs L 185 70 [vR 44, vI (nI q), vI 1, vI (nI i), vI l4, vI l5] [] (mw f a1 g)) = some (some (vI (bI (fitR it n (r + 1) i T))), mw f a2 g) ∧ isM a2 45 S ∧ (∀ p, p ≠ 45 → p ≠ 50 → a2 p = a p) := by
      intro l4 l5 h6
      have yes : (it i = -1 ∨ it i = sgnF T n) → ∃ a2, rn xs L 185 86 [vR 44, vI (nI q), vI 1, vI (nI i), vI l4, vI l5] [] (mw f a1 g) = some (some (vI (bI (fitR it n (r + 1) i T))), mw f a2 g) ∧ isM a2 45 S ∧ (∀ p, p ≠ 45 → p ≠ 50 → a2 p = a p) := by
        intro hc
        obtain ⟨a2, e2, hM2, ha2⟩ := m_told0 hq hl r (i + 1) _ f a1 (vI l4) (vI l5) (by omega) W.pass hM1 x47 x53 x54
        refine ⟨a2, ?_, hM2, fun p h1 h2 => (ha2 p h1 h2).trans (ha1 p h1 h2)⟩
        rw [b185_86, nn_add1, e2, fitR, if_pos hc]
      by_cases c1 : it i = -1
      · rw [if_pos c1]; exact yes (Or.inl c1)
      · rw [if_neg c1, b185_70 _ _ _ _ _ hin4, hn4, h54i]
        by_cases c2 : it i = l5
        · rw [if_pos c2]; exact yes (Or.inr (c2.trans h6))
        · obtain ⟨a2, e2, hM2, ha2⟩ := m_copy (xs := xs) (L := L) (f := f) (g := g) rw47 rw45 (by decide) x47
          refine ⟨a2, ?_, hM2, fun p h1 h2 => (ha2 p h1).trans (ha1 p h1 h2)⟩
          have hout : rn xs L 185 15 [vR 44, vI (nI q), vI 0, vI (nI (i + 1)), vI l4, vI l5] [] (mw f a1 g) = rn xs L 185 98 [vR 44, vI (nI q), vI 0, vI (nI (i + 1)), vI l4, vI l5] [] (mw f a1 g) := by
            rw [b185_15 _ _ _ _ _ hin]
            by_cases hx : nI (i + 1) < a1 53 (nI q).toNatClampNeg
            · rw [if_pos hx, b185_25, if_pos rfl]
            · rw [if_neg hx]
          rw [if_neg c2, b185_90, nn_add1, hout, b185_98, e2]
          simp only [Option.bind_some, Option.toList_none, List.nil_append]
          rw [b185_109 _ _ _ _ _ (Or.inl rfl), fitR, if_neg (fun q => by
            rcases q with q | q
            · exact c1 q
            · exact c2 (q.trans h6.symm))]
          rfl
    cases e : whoS T n 0 with
    | none =>
      rw [show encO none = -1 from rfl, if_pos (by decide), b185_41 _ _ _ _ _ hin4, hn4, h54i]
      exact fin (-1) 10 (by unfold sgnF; rw [e])
    | some b =>
      have hb := (bst_in n e).1
      rw [show encO (some b) = nI b from rfl, if_neg (nI_pos (by omega)), b185_46, m_its3 hM1 (by omega)]
      simp only [Option.bind_some, Option.toList_some, List.cons_append, List.nil_append]
      rw [b185_53 _ _ _ _ _ _ hin4, hn4, h54i]
      exact fin (nI b) (lf (passS T n 0) b 3) (by unfold sgnF; rw [e])
theorem m_isTold {q : Nat} {f a : Nat → Nat → Int32} (hq : q < 4) (hl : l ≤ 40) (W : WF S n) (hM : isM a 45 S) (h53 : a 53 q = nI l) (h54 : ∀ i, i < 40 → a 54 (40 * q + i) = it i) : ∃ a1, ev xs L 185 6 [vR 44, vI (nI q)] (mw f a g) = some (some (vI (bI (fitR it n l 0 S))), mw f a1 g) ∧ isM a1 45 S ∧ (∀ p, p ≠ 45 → p ≠ 47 → p ≠ 50 → a1 p = a p) := by
  obtain ⟨a1, e1, hM1, ha1⟩ := m_copy (xs := xs) (L := L) (f := f) (g := g) rw45 rw47 (by decide) hM
  obtain ⟨a2, e2, hM2, ha2⟩ := m_told0 (xs := xs) (L := L) (g := g) (it := it) hq hl l 0 S f a1 (vS 0) (vS 0) (by omega) W (hM.of (ha1 45 (by decide))) hM1 (by rw [ha1 53 (by decide)]; exact h53) (fun i hi => by rw [ha1 54 (by decide)]; exact h54 i hi)
  refine ⟨a2, ?_, hM2, fun p h1 h2 h3 => (ha2 p h1 h3).trans (ha1 p h2)⟩
  show rn xs L 185 0 [vR 44, vI (nI q), vS 0, vS 0, vS 0, vS 0] [] (mw f a g) = _
  rw [b185_0, e1]
  simp only [Option.bind_some, Option.toList_none, List.nil_append]
  rw [b185_11]
  exact e2
/-- with which holds it fits -/
def fiR (S : Row) (n o l : Nat) (it : Nat → Int32) (v : Nat) : Bool := fitR it n l 0 (up1 S (14 + 6 * o + 2) (nI v))
theorem c_fits0 {q : Nat} {w : Int32} {l1 : Int32} (hq : q < 4) (hl : l ≤ 40) (hg : ∀ i, i < 40 → g (32 + 2 * q + 1) i = (it i).toInt64) (W : WF S n) (ho : o < n) : ∀ (r v : Nat) (f a : Nat → Nat → Int32), v + r = 100 → isT 1 f a S n 0 → f (32 + 2 * q) 2 = nI l → ∃ f1 a1, rn xs L 87 56 [vR 0, vI l1, vI (nI o), vI w, vR (32 + 2 * q), vI (nI (ct (fiR S n o l it) v)), vI (nI v)] [] (mw f a g) = some (some (vI (if w = 1 then fstB (fiR S n o l it) v r else nI (ct (fiR S n o l it) 100))), mw f1 a1 g) ∧ same (oT 9) f a g f1 a1 g
  | 0, v, f, a, hv, hT, hf => by
    have e : v = 100 := by omega
    subst e
    have hsh := is_sh_q hq
    refine ⟨f, a, ?_, same.refl⟩
    rw [b87_56 _ _ _ _ _ _ hsh, if_pos (by decide), b87_92 _ _ _ _ _ _ hsh]
    by_cases hw : w = 1
    · rw [if_pos hw, if_pos hw, b87_97 _ _ _ _ _ _ hsh]
      rfl
    · rw [if_neg hw, if_neg hw, b87_102 _ _ _ _ _ _ hsh]
  | r + 1, v, f, a, hv, hT, hf => by
    have hsh := is_sh_q hq
    obtain ⟨f1, a1, e1, hs1⟩ := c_fitsWith (xs := xs) (L := L) (o := o) (v := v) hsh hl hg W ho (by omega) hT hf
    have hf1 : f1 (32 + 2 * q) 2 = nI l := by
      have : f1 (32 + 2 * q) = f (32 + 2 * q) := (hs1 _ (Or.inr (by omega))).1
      rw [this]; exact hf
    obtain ⟨f2, a2, e2, hs2⟩ := c_fits0 (w := w) (l1 := l1) hq hl hg W ho r (v + 1) f1 a1 (by omega) (hT.keep9 hs1) hf1
    rw [show ct (fiR S n o l it) (v + 1) = ct (fiR S n o l it) v + (if fiR S n o l it v then 1 else 0) from rfl] at e2
    have hlt : ¬ (99 : Int32) < nI v := by rw [show (99 : Int32) = nI 99 from rfl, nn_lt (by omega) (by omega)]; omega
    rw [b87_56 _ _ _ _ _ _ hsh, if_neg hlt, b87_63 _ _ _ _ _ _ hsh, e1]
    simp only [Option.bind_some, Option.toList_some, List.cons_append, List.nil_append]
    rw [b87_72 _ _ _ _ _ _ _ hsh]
    by_cases h : fiR S n o l it v = true
    · have h' : fitR it n l 0 (up1 S (14 + 6 * o + 2) (nI v)) = true := h
      rw [h', if_neg (by decide), b87_75 _ _ _ _ _ _ hsh]
      by_cases hw : w = 1
      · refine ⟨f1, a1, ?_, hs1⟩
        rw [if_pos hw, b87_80 _ _ _ _ _ _ hsh, if_pos hw, fstB, if_pos h]
      · refine ⟨f2, a2, ?_, hs1.trans hs2⟩
        rw [h, if_pos rfl] at e2
        rw [if_neg hw, b87_83 _ _ _ _ _ _ hsh, nn_add1, nn_add1, e2, if_neg hw, if_neg hw]
    · have hff : fiR S n o l it v = false := by simpa using h
      have h' : fitR it n l 0 (up1 S (14 + 6 * o + 2) (nI v)) = false := hff
      refine ⟨f2, a2, ?_, hs1.trans hs2⟩
      rw [hff, if_neg (by decide), Nat.add_zero] at e2
      rw [h', if_pos (by decide), b87_86 _ _ _ _ _ _ hsh, nn_add1, e2, fstB, if_neg h]
theorem m_fits0 {q : Nat} {w was : Int32} (hq : q < 4) (hl : l ≤ 40) (W : WF S n) (ho : o < n) (hwas : was = S (14 + 6 * o + 2)) : ∀ (r m : Nat) (f a : Nat → Nat → Int32) (l9 : ma_V) (u : Int32), r ≤ 100 → m + ct (fiR S n o l it) r = ct (fiR S n o l it) 100 → isM a 45 (up1 S (14 + 6 * o + 2) u) → a 53 q = nI l → (∀ i, i < 40 → a 54 (40 * q + i) = it i) → ∃ a1, rn xs L 183 70 [vR 44, vI (nI q), vI (nI o), vI w, vI (nI (14 + 6 * o + 2)), vI was, vI (nI m), vI (fstB (fiR S n o l it) r (100 - r)), vI (nI r + -1), l9] [] (mw f a g) = some (some (vI (if w = 0 then nI (ct (fiR S n o l it) 100) else fstB (fiR S n o l it) 0 100)), mw f a1 g) ∧ isM a1 45 S ∧ (∀ p, p ≠ 45 → p ≠ 47 → p ≠ 50 → a1 p = a p)
  | 0, m, f, a, l9, u, hr, hm, hM, h53, h54 => by
    have h8 := W.n8
    have hin : ma_in (nI (14 + 6 * o + 2)) 62 = true := by rw [nn_in (by omega)]; simp; omega
    have hm2 : m = ct (fiR S n o l it) 100 := by
      have : ct (fiR S n o l it) 0 = 0 := rfl
      omega
    refine ⟨ma_u2 a 45 (14 + 6 * o + 2) was, ?_, by rw [hwas]; exact hM.back, fun p h1 _ _ => u2_ne h1⟩
    rw [b183_70, if_pos (by decide), b183_126 _ _ _ _ _ _ _ _ _ hin, nn_nat (by omega), ← hm2]
    by_cases hw : w = 0
    · rw [if_pos hw, if_pos hw, b183_139]
    · rw [if_neg hw, if_neg hw, b183_144]
  | r + 1, m, f, a, l9, u, hr, hm, hM, h53, h54 => by
    have h8 := W.n8
    have hin : ma_in (nI (14 + 6 * o + 2)) 62 = true := by rw [nn_in (by omega)]; simp; omega
    have WS : WF (up1 S (14 + 6 * o + 2) (nI r)) n := W.hi (c := 2) (u := r) (by decide) (by show r ≤ 99; omega) rfl
    have hMv : isM (ma_u2 a 45 (14 + 6 * o + 2) (nI r)) 45 (up1 S (14 + 6 * o + 2) (nI r)) := by
      have := hM.up (k := 14 + 6 * o + 2) (v := nI r)
      rw [up1_up1] at this
      exact this
    obtain ⟨a1, e1, hM1, ha1⟩ := m_isTold (xs := xs) (L := L) (f := f) (g := g) (it := it) hq hl WS hMv (by rw [u2_ne (by decide)]; exact h53) (fun i hi => by rw [u2_ne (by decide)]; exact h54 i hi)
    have x53 : a1 53 q = nI l := by rw [ha1 53 (by decide) (by decide) (by decide), u2_ne (by decide)]; exact h53
    have x54 : ∀ i, i < 40 → a1 54 (40 * q + i) = it i := fun i hi => by rw [ha1 54 (by decide) (by decide) (by decide), u2_ne (by decide)]; exact h54 i hi
    have hct : ct (fiR S n o l it) (r + 1) = ct (fiR S n o l it) r + (if fiR S n o l it r then 1 else 0) := rfl
    have hfs : fstB (fiR S n o l it) r (100 - r) = if fiR S n o l it r then nI r else fstB (fiR S n o l it) (r + 1) (100 - (r + 1)) := by
      rw [show 100 - r = (100 - (r + 1)) + 1 by omega]
      rfl
    rw [b183_70, pk_m1, if_neg (nI_pos (by omega)), b183_75 _ _ _ _ _ _ _ _ _ hin, nn_nat (by omega), e1]
    simp only [Option.bind_some, Option.toList_some, List.cons_append, List.nil_append]
    rw [b183_89]
    by_cases h : fiR S n o l it r = true
    · have h' : fitR it n l 0 (up1 S (14 + 6 * o + 2) (nI r)) = true := h
      rw [h, if_pos rfl] at hct hfs
      obtain ⟨a2, e2, hM2, ha2⟩ := m_fits0 (w := w) hq hl W ho hwas r (m + 1) f a1 (vI 1) (nI r) (by omega) (by omega) hM1 x53 x54
      refine ⟨a2, ?_, hM2, fun p h1 h2 h3 => by rw [ha2 p h1 h2 h3, ha1 p h1 h2 h3, u2_ne h1]⟩
      rw [hfs] at e2
      rw [h', if_neg (by decide), b183_98, if_neg (by decide), b183_111, nn_add1]
      exact e2
    · have hff : fiR S n o l it r = false := by simpa using h
      have h' : fitR it n l 0 (up1 S (14 + 6 * o + 2) (nI r)) = false := hff
      rw [hff, if_neg (by decide)] at hct hfs
      obtain ⟨a2, e2, hM2, ha2⟩ := m_fits0 (w := w) hq hl W ho hwas r m f a1 (vI 0) (nI r) (by omega) (by omega) hM1 x53 x54
      refine ⟨a2, ?_, hM2, fun p h1 h2 h3 => by rw [ha2 p h1 h2 h3, ha1 p h1 h2 h3, u2_ne h1]⟩
      rw [hfs] at e2
      rw [h', if_pos (by decide), b183_102, if_pos (by decide), b183_116, Int32.add_zero]
      exact e2
end S79
theorem isw01 {w : Int32} (h : isw 0 1 w = true) : w = 0 ∨ w = 1 := by
  obtain ⟨k, hk, rfl⟩ := isw_nn 1 rfl (by decide) h
  have : k = 0 ∨ k = 1 := by omega
  rcases this with rfl | rfl
  · exact Or.inl rfl
  · exact Or.inr rfl
theorem op_fits {t leaf w : Int32} : OPS 87 7 183 10 [vI t, vI leaf, vI w] := by
  intro xs L f a g hs
  obtain ⟨S, n, W, hT, hM⟩ := hs.tree
  have h8 := W.n8
  by_cases h1 : isw 0 3 t = true
  rotate_left
  · refine ⟨vI (-1), f, a, g, f, a, g, ?_, ?_, hs⟩
    · show rn xs L 87 0 [vR 0, vI t, vI leaf, vI w, vS 0, vS 0, vS 0] [] (mw f a g) = _
      simp [b87_0, b87_6, b87_9, b87_17, b87_20, b87_26, b87_29, b87_31, b87_44, b87_47, b87_50, b87_63, b87_72, b87_75, b87_80, b87_83, b87_86, b87_92, b87_97, b87_102, e_within, h1, bI]
    · show rn xs L 183 0 [vR 44, vI t, vI leaf, vI w, vS 0, vS 0, vS 0, vS 0, vS 0, vS 0] [] (mw f a g) = _
      simp [b183_0, b183_4, b183_7, b183_12, b183_15, b183_22, b183_25, b183_27, b183_36, b183_39, b183_75, b183_89, b183_98, b183_102, b183_111, b183_116, b183_126, b183_139, b183_144, m_isSheet, h1, bI]
  by_cases h2 : hasR n leaf = true
  rotate_left
  · refine ⟨vI (-1), f, a, g, f, a, g, ?_, ?_, hs⟩
    · show rn xs L 87 0 [vR 0, vI t, vI leaf, vI w, vS 0, vS 0, vS 0] [] (mw f a g) = _
      simp [b87_0, b87_6, b87_9, b87_17, b87_20, b87_26, b87_29, b87_31, b87_44, b87_47, b87_50, b87_63, b87_72, b87_75, b87_80, b87_83, b87_86, b87_92, b87_97, b87_102, e_within, h1, c_has tr1 hT.L, h2, bI]
    · show rn xs L 183 0 [vR 44, vI t, vI leaf, vI w, vS 0, vS 0, vS 0, vS 0, vS 0, vS 0] [] (mw f a g) = _
      simp [b183_0, b183_4, b183_7, b183_12, b183_15, b183_22, b183_25, b183_27, b183_36, b183_39, b183_75, b183_89, b183_98, b183_102, b183_111, b183_116, b183_126, b183_139, b183_144, m_isSheet, m_has hM W, h1, h2, bI]
  by_cases h3 : isw 0 1 w = true
  rotate_left
  · refine ⟨vI (-1), f, a, g, f, a, g, ?_, ?_, hs⟩
    · show rn xs L 87 0 [vR 0, vI t, vI leaf, vI w, vS 0, vS 0, vS 0] [] (mw f a g) = _
      simp [b87_0, b87_6, b87_9, b87_17, b87_20, b87_26, b87_29, b87_31, b87_44, b87_47, b87_50, b87_63, b87_72, b87_75, b87_80, b87_83, b87_86, b87_92, b87_97, b87_102, e_within, h1, c_has tr1 hT.L, h2, h3, bI]
    · show rn xs L 183 0 [vR 44, vI t, vI leaf, vI w, vS 0, vS 0, vS 0, vS 0, vS 0, vS 0] [] (mw f a g) = _
      simp [b183_0, b183_4, b183_7, b183_12, b183_15, b183_22, b183_25, b183_27, b183_36, b183_39, b183_75, b183_89, b183_98, b183_102, b183_111, b183_116, b183_126, b183_139, b183_144, m_isSheet, m_has hM W, m_in_0_1, h1, h2, h3, bI]
  obtain ⟨q, hq', rfl⟩ := isw_nn 3 rfl (by decide) h1
  obtain ⟨o, ho, rfl⟩ := hasR_to h8 h2
  have hq : q < 4 := by omega
  have hin : ma_in (nI q) 4 = true := in_of hq (by decide)
  have hnq : (nI q).toNatClampNeg = q := nn_nat (by omega)
  have hsh := is_sh_q hq
  have hcs : rn xs L 87 0 [vR 0, vI (nI q), vI (nI o), vI w, vS 0, vS 0, vS 0] [] (mw f a g) = rn xs L 87 44 [vR 0, vI (nI q), vI (nI o), vI w, vR (32 + 2 * q), vS 0, vS 0] [vI (bI (decide (f (32 + 2 * q) 1 = -1)))] (mw f a g) := by
    rw [b87_0, e_within, h1]
    simp only [Option.bind_some, Option.toList_some, List.cons_append, List.nil_append]
    rw [b87_6, if_neg (by decide), b87_9, c_has tr1 hT.L, h2]
    simp only [Option.bind_some, Option.toList_some, List.cons_append, List.nil_append]
    rw [b87_17, if_neg (by decide), b87_20, e_within, h3]
    simp only [Option.bind_some, Option.toList_some, List.cons_append, List.nil_append]
    rw [b87_26, if_neg (by decide), b87_31 _ _ _ _ _ _ hin, hnq, c_missing hsh]
    simp only [Option.bind_some, Option.toList_some, List.cons_append, List.nil_append]
  have hms : ∀ (f a : Nat → Nat → Int32) (g : Nat → Nat → Int64), isM a 45 S → rn xs L 183 0 [vR 44, vI (nI q), vI (nI o), vI w, vS 0, vS 0, vS 0, vS 0, vS 0, vS 0] [] (mw f a g) = rn xs L 183 27 [vR 44, vI (nI q), vI (nI o), vI w, vS 0, vS 0, vS 0, vS 0, vS 0, vS 0] [] (mw f a g) := fun f a g hM => by
    rw [b183_0, m_isSheet, h1]
    simp only [Option.bind_some, Option.toList_some, List.cons_append, List.nil_append]
    rw [b183_4, if_neg (by decide), b183_7, m_has hM W, h2]
    simp only [Option.bind_some, Option.toList_some, List.cons_append, List.nil_append]
    rw [b183_12, if_neg (by decide), b183_15, m_in_0_1, h3]
    simp only [Option.bind_some, Option.toList_some, List.cons_append, List.nil_append]
    rw [b183_22, if_neg (by decide)]
  rcases hs.shts q hq with ⟨d1, d2⟩ | ⟨s, l, hs4, hl, d1, d2, d3, d4, d5⟩
  · refine ⟨vI (-11), f, a, g, f, a, g, ?_, ?_, hs⟩
    · show rn xs L 87 0 [vR 0, vI (nI q), vI (nI o), vI w, vS 0, vS 0, vS 0] [] (mw f a g) = _
      rw [hcs, d1, b87_44 _ _ _ _ _ _ _ hsh, if_neg (by decide), b87_47 _ _ _ _ _ _ hsh]
    · show rn xs L 183 0 [vR 44, vI (nI q), vI (nI o), vI w, vS 0, vS 0, vS 0, vS 0, vS 0, vS 0] [] (mw f a g) = _
      rw [hms f a g hM, b183_27 _ _ _ _ _ _ _ _ _ hin, hnq, d2, if_pos (by decide), b183_36]
  · obtain ⟨f1, a1, e1, hs1⟩ := c_fits0 (xs := xs) (L := L) (g := g) (it := fun i => a 54 (40 * q + i)) (w := w) (l1 := nI q) hq hl d5 W ho 100 0 f a (by omega) hT d3
    have x45 : a1 45 = a 45 := (hs1 45 (Or.inr (by decide))).2.1
    have x52 : a1 52 = a 52 := (hs1 52 (Or.inr (by decide))).2.1
    have x53 : a1 53 = a 53 := (hs1 53 (Or.inr (by decide))).2.1
    have x54 : a1 54 = a 54 := (hs1 54 (Or.inr (by decide))).2.1
    have hMa : isM a1 45 S := hM.of x45
    have hM0 : isM a1 45 (up1 S (14 + 6 * o + 2) (S (14 + 6 * o + 2))) := hMa.eq (fun j _ => up1_same.symm)
    obtain ⟨a2, e2, hM2, ha2⟩ := m_fits0 (xs := xs) (L := L) (g := g) (it := fun i => a 54 (40 * q + i)) (w := w) (was := S (14 + 6 * o + 2)) hq hl W ho rfl 100 0 f1 a1 (vS 0) (S (14 + 6 * o + 2)) (by omega) (by omega) hM0 (by rw [x53]; exact d4) (fun i hi => by rw [x54])
    have ex : (14 : Int32) + 6 * nI o + 2 = nI (14 + 6 * o + 2) := ixN (c := 2)
    have hinx : ma_in (nI (14 + 6 * o + 2)) 62 = true := by rw [nn_in (by omega)]; simp; omega
    have hv : (if w = 1 then fstB (fiR S n o l (fun i => a 54 (40 * q + i))) 0 100 else nI (ct (fiR S n o l (fun i => a 54 (40 * q + i))) 100)) = (if w = 0 then nI (ct (fiR S n o l (fun i => a 54 (40 * q + i))) 100) else fstB (fiR S n o l (fun i => a 54 (40 * q + i))) 0 100) := by
      rcases isw01 h3 with rfl | rfl
      · rw [if_neg (by decide), if_pos rfl]
      · rw [if_pos rfl, if_neg (by decide)]
    have ef : ∀ p, p = 0 ∨ 17 ≤ p → f1 p = f p := fun p hp => (hs1 p (by unfold oT; omega)).1
    have ea : ∀ p, 17 ≤ p → p ≠ 45 → p ≠ 47 → p ≠ 48 → p ≠ 50 → a2 p = a p := fun p h0 h1 h2 h3 h4 => (ha2 p h1 h2 h4).trans (hs1 p (by unfold oT; omega)).2.1
    refine ⟨vI (if w = 1 then fstB (fiR S n o l (fun i => a 54 (40 * q + i))) 0 100 else nI (ct (fiR S n o l (fun i => a 54 (40 * q + i))) 100)), f1, a1, g, f1, a2, g, ?_, ?_, hs.of ⟨S, n, W, (hT.keep9 hs1).keep (fun p h1 h2 => ⟨rfl, ha2 p (by omega) (by omega) (by omega)⟩), hM2⟩ ef ea (fun _ => rfl)⟩
    · show rn xs L 87 0 [vR 0, vI (nI q), vI (nI o), vI w, vS 0, vS 0, vS 0] [] (mw f a g) = _
      rw [hcs, d1, decide_eq_false (nI_nm1 (by omega)), b87_44 _ _ _ _ _ _ _ hsh, if_pos (by decide), b87_50 _ _ _ _ _ _ hsh]
      exact e1
    · show rn xs L 183 0 [vR 44, vI (nI q), vI (nI o), vI w, vS 0, vS 0, vS 0, vS 0, vS 0, vS 0] [] (mw f1 a1 g) = _
      rw [hms f1 a1 g hMa, b183_27 _ _ _ _ _ _ _ _ _ hin, hnq, x52, d2, if_neg (nI_pos (by omega)), b183_39 _ _ _ _ _ _ _ _ _ (by rw [ex]; exact hinx), ex, nn_nat (by omega), hMa _ (by omega), hv]
      exact e2
