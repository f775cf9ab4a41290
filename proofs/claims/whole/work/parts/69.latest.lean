/-! ===== latest: pure ===== -/
theorem hg_pass {S : Row} {n i : Nat} {ti : Int32} : hg (passS S n ti) i = (hg S i && !decide (whoS S n ti = some i)) := by
  have hu : ∀ (X : Row) (v : Int32), hg (up1 X 1 v) i = hg X i := fun X v => by unfold hg; rw [lf_up1_lo (by decide)]
  unfold passS whoS
  rw [hu]
  cases e : bst S n ti n with
  | none =>
    show hg (lostS S n ti n) i = _
    rw [hg_lost]
    simp
  | some b =>
    show hg (fellS (lostS S n ti n) b) i = _
    unfold hg
    rw [fell_lf (by decide), if_neg (by omega)]
    by_cases h : i = b
    · subst h
      rw [if_pos ⟨rfl, rfl⟩]
      simp
    · rw [if_neg (fun q => h q.1), lost_lf (by decide), if_neg (by omega)]
      have h2 : ¬ b = i := fun q => h q.symm
      simp [h2]
theorem hg_pass_mono {S : Row} {n i : Nat} {ti : Int32} (h : hg (passS S n ti) i = true) : hg S i = true := by
  rw [hg_pass, Bool.and_eq_true] at h
  exact h.1
theorem hg_days_mono {S : Row} {n i : Nat} {ti : Int32} : ∀ k, hg (daysS S n ti k) i = true → hg S i = true
  | 0, h => h
  | k + 1, h => hg_days_mono k (hg_pass_mono h)
theorem fb_days {n o : Nat} : ∀ (r : Nat) (T : Row), (fb T n o (r + 1) = r + 1) ↔ hg (daysS T n 0 r) o = true
  | 0, T => by
    show (if hg T o then 0 + 1 else 0) = 0 + 1 ↔ hg T o = true
    by_cases h : hg T o = true <;> simp [h]
  | r + 1, T => by
    have ih := fb_days (n := n) (o := o) r (passS T n 0)
    rw [days_pass]
    show (if hg T o then fb (passS T n 0) n o (r + 1) + 1 else 0) = r + 1 + 1 ↔ _
    by_cases h : hg T o = true
    · rw [if_pos h, ← ih]
      omega
    · rw [if_neg h]
      constructor
      · intro q; omega
      · intro q; exact absurd (hg_pass_mono (hg_days_mono _ q)) h
def lasF (n : Nat) : Nat → Row → Int32 → Int32
  | 0, _, l => l
  | r + 1, T, l => lasF n r (passS T n 0) (match whoS T n 0 with
    | none => l
    | some b => nI b)
theorem lasF_spec {n : Nat} : ∀ (r : Nat) (T : Row) (l : Int32), WF T n → (∀ o, o < n → hg (daysS T n 0 r) o = false) →
    ((∀ o, o < n → hg T o = false) ∧ lasF n r T l = l) ∨ ∃ b, b < n ∧ hg T b = true ∧ lasF n r T l = nI b ∧ ∀ o, o < n → hg T o = true → o ≠ b → fb T n o (r + 1) < fb T n b (r + 1)
  | 0, T, l, W, h => Or.inl ⟨h, rfl⟩
  | r + 1, T, l, W, h => by
    have hfb : ∀ o, hg T o = true → fb T n o (r + 1 + 1) = fb (passS T n 0) n o (r + 1) + 1 := fun o ho => by
      show (if hg T o then fb (passS T n 0) n o (r + 1) + 1 else 0) = _
      rw [if_pos ho]
    rw [days_pass] at h
    cases e : whoS T n 0 with
    | none =>
      have hp : ∀ o, hg (passS T n 0) o = hg T o := fun o => by rw [hg_pass, e]; simp
      have hl : lasF n (r + 1) T l = lasF n r (passS T n 0) l := by rw [lasF, e]
      rw [hl]
      rcases lasF_spec r (passS T n 0) l W.pass h with ⟨h1, h2⟩ | ⟨b, hb, h1, h2, h3⟩
      · exact Or.inl ⟨fun o ho => by rw [← hp]; exact h1 o ho, h2⟩
      · refine Or.inr ⟨b, hb, by rw [← hp]; exact h1, h2, fun o ho hgo hne => ?_⟩
        have := h3 o ho (by rw [hp]; exact hgo) hne
        rw [hfb o hgo, hfb b (by rw [← hp]; exact h1)]
        omega
    | some c =>
      have hc := bst_in n e
      have hp : ∀ o, o ≠ c → hg (passS T n 0) o = hg T o := fun o ho => by
        have h2 : ¬ c = o := fun q => ho q.symm
        rw [hg_pass, e]; simp [h2]
      have hpc : hg (passS T n 0) c = false := by rw [hg_pass, e]; simp
      have hl : lasF n (r + 1) T l = lasF n r (passS T n 0) (nI c) := by rw [lasF, e]
      rw [hl]
      rcases lasF_spec r (passS T n 0) (nI c) W.pass h with ⟨h1, h2⟩ | ⟨b, hb, h1, h2, h3⟩
      · refine Or.inr ⟨c, hc.1, hc.2, h2, fun o ho hgo hne => ?_⟩
        have := h1 o ho
        rw [hp o hne, hgo] at this
        cases this
      · have hbc : b ≠ c := fun q => by rw [q, hpc] at h1; cases h1
        have hgb : hg T b = true := by rw [← hp b hbc]; exact h1
        refine Or.inr ⟨b, hb, hgb, h2, fun o ho hgo hne => ?_⟩
        rw [hfb o hgo, hfb b hgb]
        by_cases hoc : o = c
        · have h0 : fb (passS T n 0) n o (r + 1) = 0 := by
            show (if hg (passS T n 0) o then _ else 0) = 0
            rw [hoc, hpc]; rfl
          have h9 : fb (passS T n 0) n b (r + 1) ≠ 0 := by
            show (if hg (passS T n 0) b then fb (passS (passS T n 0) n 0) n b r + 1 else 0) ≠ 0
            rw [if_pos h1]; omega
          omega
        · have := h3 o ho (by rw [hp o hoc]; exact hgo) hne
          omega
def latC (U : Row) (l : Int32) : Nat → Nat → Int32
  | _, 0 => l
  | i, r + 1 => if hg U i then nI i else latC U l (i + 1) r
theorem latC_spec {U : Row} {l : Int32} : ∀ (r i : Nat), ((∀ o, i ≤ o → o < i + r → hg U o = false) ∧ latC U l i r = l) ∨ ∃ b, i ≤ b ∧ b < i + r ∧ hg U b = true ∧ latC U l i r = nI b ∧ ∀ o, i ≤ o → o < b → hg U o = false
  | 0, i => Or.inl ⟨fun o h1 h2 => by omega, rfl⟩
  | r + 1, i => by
    by_cases h : hg U i = true
    · refine Or.inr ⟨i, by omega, by omega, h, ?_, fun o h1 h2 => by omega⟩
      rw [latC, if_pos h]
    · have hl : latC U l i (r + 1) = latC U l (i + 1) r := by rw [latC, if_neg h]
      have hf : hg U i = false := by simpa using h
      rw [hl]
      rcases latC_spec r (i + 1) with ⟨h1, h2⟩ | ⟨b, hb1, hb2, h1, h2, h3⟩
      · refine Or.inl ⟨fun o ho1 ho2 => ?_, h2⟩
        by_cases e : o = i
        · rw [e]; exact hf
        · exact h1 o (by omega) (by omega)
      · refine Or.inr ⟨b, by omega, by omega, h1, h2, fun o ho1 ho2 => ?_⟩
        by_cases e : o = i
        · rw [e]; exact hf
        · exact h3 o (by omega) (by omega)
def keyR (S : Row) (n o : Nat) : Int32 := if hg S o then nI (fb S n o 61) else -1
def latM (S : Row) (n : Nat) : Nat → Int32 × Int32
  | 0 => (-3, -1)
  | m + 1 => if (latM S n m).2 < keyR S n m then (nI m, keyR S n m) else latM S n m
theorem m1_lt {k : Nat} (hk : k < 2147483648) : (-1 : Int32) < nI k := by
  rw [Int32.lt_iff_toInt_lt, nn_int hk, show (-1 : Int32).toInt = -1 from rfl]
  omega
theorem latM_spec {S : Row} {n : Nat} : ∀ m, ((∀ o, o < m → hg S o = false) ∧ latM S n m = (-3, -1)) ∨ ∃ b, b < m ∧ hg S b = true ∧ latM S n m = (nI b, nI (fb S n b 61)) ∧ (∀ o, o < m → hg S o = true → fb S n o 61 ≤ fb S n b 61) ∧ (∀ o, o < b → hg S o = true → fb S n o 61 < fb S n b 61)
  | 0 => Or.inl ⟨fun o ho => by omega, rfl⟩
  | m + 1 => by
    have hle := fun o => fb_le (n := n) (o := o) 61 S
    have hlm := hle m
    by_cases hm : hg S m = true
    · have hk : keyR S n m = nI (fb S n m 61) := by unfold keyR; rw [if_pos hm]
      rcases latM_spec (n := n) (S := S) m with ⟨h1, h2⟩ | ⟨b, hb, h1, h2, h3, h4⟩
      · refine Or.inr ⟨m, by omega, hm, ?_, fun o ho hgo => ?_, fun o ho hgo => ?_⟩
        · rw [latM, h2, hk, if_pos (m1_lt (by omega))]
        · by_cases e : o = m
          · rw [e]; exact Nat.le_refl _
          · have := h1 o (by omega); rw [hgo] at this; cases this
        · have := h1 o ho; rw [hgo] at this; cases this
      · have hlb := hle b
        by_cases hlt : fb S n b 61 < fb S n m 61
        · refine Or.inr ⟨m, by omega, hm, ?_, fun o ho hgo => ?_, fun o ho hgo => ?_⟩
          · rw [latM, h2, hk, if_pos ((nn_lt (by omega) (by omega)).mpr hlt)]
          · by_cases e : o = m
            · rw [e]; exact Nat.le_refl _
            · have := h3 o (by omega) hgo; omega
          · have := h3 o ho hgo; omega
        · refine Or.inr ⟨b, by omega, h1, ?_, fun o ho hgo => ?_, h4⟩
          · rw [latM, h2, hk, if_neg (fun q => hlt ((nn_lt (by omega) (by omega)).mp q))]
          · by_cases e : o = m
            · rw [e]; omega
            · exact h3 o (by omega) hgo
    · have hk : keyR S n m = -1 := by unfold keyR; rw [if_neg hm]
      have hf : hg S m = false := by simpa using hm
      rcases latM_spec (n := n) (S := S) m with ⟨h1, h2⟩ | ⟨b, hb, h1, h2, h3, h4⟩
      · refine Or.inl ⟨fun o ho => ?_, ?_⟩
        · by_cases e : o = m
          · rw [e]; exact hf
          · exact h1 o (by omega)
        · rw [latM, h2, hk, if_neg (by decide)]
      · have hlb := hle b
        refine Or.inr ⟨b, by omega, h1, ?_, fun o ho hgo => ?_, h4⟩
        · rw [latM, h2, hk, if_neg]
          intro q
          exact Int32.lt_irrefl (Int32.lt_trans (show nI (fb S n b 61) < -1 from q) (m1_lt (k := fb S n b 61) (by omega)))
        · by_cases e : o = m
          · rw [e, hf] at hgo; cases hgo
          · exact h3 o (by omega) hgo
theorem lat_eq {S : Row} {n : Nat} (W : WF S n) : (latM S n n).1 = latC (daysS S n 0 60) (lasF n 60 S (-3)) 0 n := by
  have hle := fun o => fb_le (n := n) (o := o) 61 S
  have same_b : ∀ b, b < n → hg S b = true → (∀ o, o < n → hg S o = true → fb S n o 61 ≤ fb S n b 61) → (∀ o, o < b → hg S o = true → fb S n o 61 < fb S n b 61) → (latM S n n).1 = nI b := by
    intro b hb hgb h3 h4
    rcases latM_spec (S := S) (n := n) n with ⟨h1, _⟩ | ⟨c, hc, g1, g2, g3, g4⟩
    · have := h1 b hb; rw [hgb] at this; cases this
    · rw [g2]
      have : c = b := by
        rcases Nat.lt_trichotomy c b with h | h | h
        · have x1 := h4 c h g1
          have x2 := g3 b hb hgb
          omega
        · exact h
        · have x1 := g4 b h hgb
          have x2 := h3 c hc g1
          omega
      rw [this]
  rcases latC_spec (U := daysS S n 0 60) (l := lasF n 60 S (-3)) n 0 with ⟨h1, h2⟩ | ⟨b, _, hb2, h1, h2, h3⟩
  · rw [h2]
    rcases lasF_spec 60 S (-3) W (fun o ho => h1 o (by omega) (by omega)) with ⟨k1, k2⟩ | ⟨b, hb, k1, k2, k3⟩
    · rw [k2]
      rcases latM_spec (S := S) (n := n) n with ⟨_, g2⟩ | ⟨c, hc, g1, g2, g3, g4⟩
      · rw [g2]
      · have := k1 c hc; rw [g1] at this; cases this
    · rw [k2]
      refine same_b b hb k1 (fun o ho hgo => ?_) (fun o ho hgo => ?_)
      · by_cases e : o = b
        · rw [e]; exact Nat.le_refl _
        · have : fb S n o 61 < fb S n b 61 := k3 o ho hgo e
          omega
      · exact k3 o (by omega) hgo (by omega)
  · rw [h2]
    have hb61 : fb S n b 61 = 61 := (fb_days 60 S).mpr h1
    refine same_b b (by omega) (hg_days_mono _ h1) (fun o ho hgo => ?_) (fun o ho hgo => ?_)
    · have := hle o; omega
    · have x1 := hle o
      have x2 : fb S n o 61 ≠ 61 := fun q => by
        have := (fb_days (n := n) (o := o) 60 S).mp q
        rw [h3 o (by omega) ho] at this
        cases this
      omega
/-! ===== latest: both sides ===== -/
section S69
variable {xs : Nat → Int32} {L : Nat} {g : Nat → Nat → Int64} {S : Row} {n : Nat}
theorem c_lat0 : ∀ (r i : Nat) (T : Row) (f a : Nat → Nat → Int32) (l : Int32) (l3 : ma_V), i + r = 60 → WF T n → isT 9 f a T n 0 → ∃ f1 a1 l4, rn xs L 81 16 [vR 0, vI l, vI (nI i), l3] [] (mw f a g) = rn xs L 81 42 [vR 0, vI (lasF n r T l), vI (nI 60), l4] [] (mw f1 a1 g) ∧ isT 9 f1 a1 (daysS T n 0 r) n 0 ∧ same (oT 9) f a g f1 a1 g
  | 0, i, T, f, a, l, l3, hi, W, hT => by
    refine ⟨f, a, l3, ?_, hT, same.refl⟩
    have e : i = 60 := by omega
    subst e
    rw [b81_16, if_neg (by decide)]
    rfl
  | r + 1, i, T, f, a, l, l3, hi, W, hT => by
    have h8 := W.n8
    have hlt : nI i < (60 : Int32) := by
      rw [show (60 : Int32) = nI 60 from rfl, nn_lt (by omega) (by omega)]
      omega
    obtain ⟨f1, a1, e1, hT1, hs1⟩ := c_passDay (xs := xs) (L := L) (g := g) tr9 W hT
    rw [b81_16, if_pos hlt, b81_22, e1]
    simp only [Option.bind_some, Option.toList_some, List.cons_append, List.nil_append]
    rw [b81_29, days_pass]
    cases e : whoS T n 0 with
    | none =>
      obtain ⟨f2, a2, l4, e2, hT2, hs2⟩ := c_lat0 r (i + 1) _ f1 a1 l (vI (-1)) (by omega) W.pass hT1
      refine ⟨f2, a2, l4, ?_, hT2, hs1.trans hs2⟩
      have hl : lasF n (r + 1) T l = lasF n r (passS T n 0) l := by rw [lasF, e]
      rw [show encO none = -1 from rfl, if_pos (by decide), b81_36, nn_add1, hl]
      exact e2
    | some b =>
      have hb := (bst_in n e).1
      obtain ⟨f2, a2, l4, e2, hT2, hs2⟩ := c_lat0 r (i + 1) _ f1 a1 (nI b) (vI (nI b)) (by omega) W.pass hT1
      refine ⟨f2, a2, l4, ?_, hT2, hs1.trans hs2⟩
      have hl : lasF n (r + 1) T l = lasF n r (passS T n 0) (nI b) := by rw [lasF, e]
      rw [show encO (some b) = nI b from rfl, if_neg (nI_pos (by omega)), b81_34, nn_add1, hl]
      exact e2
theorem c_lat1 {U : Row} {f a : Nat → Nat → Int32} {l : Int32} {l3 : ma_V} (W : WF U n) (hT : isT 9 f a U n 0) : ∀ (r i : Nat), i + r = n → rn xs L 81 44 [vR 0, vI l, vI (nI i), l3] [] (mw f a g) = some (some (vI (latC U l i r)), mw f a g)
  | 0, i, hi => by
    have h8 := W.n8
    rw [b81_44, hT.L.cnt, if_neg (by rw [nn_lt (by omega) (by omega)]; omega), b81_74]
    rfl
  | r + 1, i, hi => by
    have h8 := W.n8
    rw [b81_44, hT.L.cnt, if_pos (by rw [nn_lt (by omega) (by omega)]; omega), b81_55, c_hangs tr9 W hT.L (by omega)]
    simp only [Option.bind_some, Option.toList_some, List.cons_append, List.nil_append]
    rw [b81_63]
    by_cases h : hg U i = true
    · rw [h, if_neg (by decide), b81_66, latC, if_pos h]
    · have hf : hg U i = false := by simpa using h
      rw [hf, if_pos (by decide), b81_68, nn_add1, c_lat1 W hT r (i + 1) (by omega), latC, if_neg h]
theorem m_lat0 (W : WF S n) : ∀ (r o : Nat) (f a : Nat → Nat → Int32) (l4 : ma_V), o + r = n → isM a 45 S → ∃ a1, rn xs L 175 7 [vR 44, vI (latM S n o).1, vI (latM S n o).2, vI (nI o), l4] [] (mw f a g) = some (some (vI (latM S n n).1), mw f a1 g) ∧ isM a1 45 S ∧ (∀ q, q ≠ 45 → q ≠ 47 → q ≠ 50 → a1 q = a q)
  | 0, o, f, a, l4, ho, hM => by
    have h8 := W.n8
    have hc : a 45 0 = nI n := (hM 0 (by decide)).trans W.cn
    refine ⟨a, ?_, hM, fun _ _ _ _ => rfl⟩
    rw [b175_7, hc, if_neg (by rw [nn_lt (by omega) (by omega)]; omega), b175_69, show o = n by omega]
  | r + 1, o, f, a, l4, ho, hM => by
    have h8 := W.n8
    have hc : a 45 0 = nI n := (hM 0 (by decide)).trans W.cn
    by_cases h : hg S o = true
    · have hk : keyR S n o = nI (fb S n o 61) := by unfold keyR; rw [if_pos h]
      obtain ⟨a1, e1, hM1, ha1⟩ := m_fallsBy (xs := xs) (L := L) (f := f) (g := g) (o := o) hM W (by omega)
      obtain ⟨a2, e2, hM2, ha2⟩ := m_lat0 W r (o + 1) f a1 (vI (nI (fb S n o 61))) (by omega) hM1
      refine ⟨a2, ?_, hM2, fun q h1 h2 h3 => (ha2 q h1 h2 h3).trans (ha1 q h1 h2 h3)⟩
      rw [b175_7, hc, if_pos (by rw [nn_lt (by omega) (by omega)]; omega), b175_17, m_its4 hM (by omega), hg41 h]
      simp only [Option.bind_some, Option.toList_some, List.cons_append, List.nil_append]
      rw [b175_23, if_pos rfl, b175_27, e1]
      simp only [Option.bind_some, Option.toList_some, List.cons_append, List.nil_append]
      rw [b175_32, ← e2, latM, hk]
      by_cases hlt : (latM S n o).2 < nI (fb S n o 61)
      · rw [if_pos hlt, if_pos hlt, b175_44, if_pos hlt, b175_56, nn_add1]
      · rw [if_neg hlt, if_neg hlt, b175_48, if_neg hlt, b175_61, nn_add1]
    · have hk : keyR S n o = -1 := by unfold keyR; rw [if_neg h]
      obtain ⟨a2, e2, hM2, ha2⟩ := m_lat0 W r (o + 1) f a (vI (-1)) (by omega) hM
      refine ⟨a2, ?_, hM2, ha2⟩
      rw [b175_7, hc, if_pos (by rw [nn_lt (by omega) (by omega)]; omega), b175_17, m_its4 hM (by omega), hg4 W (by omega) h]
      simp only [Option.bind_some, Option.toList_some, List.cons_append, List.nil_append]
      rw [b175_23, if_neg (by decide), b175_35, ← e2, latM, hk]
      by_cases hlt : (latM S n o).2 < -1
      · rw [if_pos hlt, if_pos hlt, b175_44, if_pos hlt, b175_56, nn_add1]
      · rw [if_neg hlt, if_neg hlt, b175_48, if_neg hlt, b175_61, nn_add1]
end S69
theorem op_latest : TOP 81 4 175 5 [] := by
  intro xs L S n W
  have h8 := W.n8
  refine ⟨vI (latM S n n).1, S, n, W, fun f a g hT => ?_, fun f a g hM => ?_⟩
  · obtain ⟨f1, a1, e1, hT1, hs1⟩ := c_become (xs := xs) (L := L) (g := g) tr9 tr1 (by decide) W hT
    obtain ⟨f2, a2, l4, e2, hT2, hs2⟩ := c_lat0 (xs := xs) (L := L) (g := g) 60 0 S f1 a1 (-3) (vS 0) (by omega) W hT1
    refine ⟨f2, a2, ?_, hT.keep9 (hs1.trans hs2), same_tree9 (hs1.trans hs2)⟩
    show rn xs L 81 0 [vR 0, vS 0, vS 0, vS 0] [] (mw f a g) = _
    rw [b81_0, e1]
    simp only [Option.bind_some, Option.toList_none, List.nil_append]
    rw [b81_11, show vI (0 : Int32) = vI (nI 0) from rfl, e2, b81_42, show vI (0 : Int32) = vI (nI 0) from rfl, c_lat1 (W.days _) hT2 n 0 (by omega), lat_eq W]
  · obtain ⟨a1, e1, hM1, ha1⟩ := m_lat0 (xs := xs) (L := L) (g := g) W n 0 f a (vS 0) (by omega) hM
    refine ⟨a1, ?_, hM1, fun q h1 h2 _ h4 => ha1 q h1 h2 h4⟩
    show rn xs L 175 0 [vR 44, vS 0, vS 0, vS 0, vS 0] [] (mw f a g) = _
    rw [b175_0]
    exact e1
