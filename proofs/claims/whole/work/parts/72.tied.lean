/-! ===== tiedFor ===== -/
theorem sub_all : ∀ x, x < 256 → ∀ M, M < 256 → nI x &&& (nI M ^^^ (-1)) = 0 → x ≤ M := by decide +kernel
theorem pN_le (x : Nat) : pN x ≤ 8 := by unfold pN; omega
theorem bit_all : ∀ n, n ≤ 8 → (1 : Int32) <<< (nI n &&& 31) = nI (2 ^ n) := by decide
def tieO (p : Nat → Bool) (M : Nat) : Nat → Option Nat
  | 0 => none
  | x + 1 => if (match tieO p M x with
      | none => true
      | some b => decide (pN x < pN b)) && decide (nI x &&& (nI M ^^^ (-1)) = 0) && p x then some x else tieO p M x
theorem tieO_lt {p : Nat → Bool} {M : Nat} : ∀ (x b : Nat), tieO p M x = some b → b < x
  | 0, b, h => by cases h
  | x + 1, b, h => by
    obtain ⟨c, hc⟩ : ∃ c : Bool, tieO p M (x + 1) = if c then some x else tieO p M x := ⟨_, rfl⟩
    rw [hc] at h
    cases c with
    | true =>
      rw [if_pos rfl] at h
      have := Option.some.inj h
      omega
    | false =>
      rw [if_neg (by decide)] at h
      have := tieO_lt x b h
      omega
theorem tieO_none {p : Nat → Bool} {M : Nat} (h : ∀ x, p x = false) : ∀ x, tieO p M x = none
  | 0 => rfl
  | x + 1 => by rw [tieO, h x, Bool.and_false, if_neg (by decide)]; exact tieO_none h x
theorem tieO_up {p : Nat → Bool} {M m : Nat} (hM : M < m) (hm : m ≤ 256) : ∀ d, m + d ≤ 256 → tieO p M (m + d) = tieO p M m
  | 0, _ => rfl
  | d + 1, hd => by
    have hs : ¬ nI (m + d) &&& (nI M ^^^ (-1)) = 0 := fun q => by
      have := sub_all (m + d) (by omega) M (by omega) q
      omega
    rw [← Nat.add_assoc, tieO]
    rw [show decide (nI (m + d) &&& (nI M ^^^ (-1)) = 0) = false from decide_eq_false hs, Bool.and_false, Bool.false_and, if_neg (by decide)]
    exact tieO_up hM hm d (by omega)
def encT : Option Nat → Int32
  | none => -3
  | some b => nI b
def fewT : Option Nat → Int32
  | none => 9
  | some b => nI (pN b)
theorem c_setTie {t : Nat} {f a : Nat → Nat → Int32} {S : Row} {n : Nat} {ti v : Int32} (hT : isT t f a S n ti) : isT t (ma_u2 f t 11 v) a S n v := by
  have hu : ∀ k, k ≠ 11 → ma_u2 f t 11 v t k = f t k := fun k hk => by rw [u2_at, if_neg (fun q => hk q.2)]
  refine isT.mk (isL.mk ?_ ?_ hT.L.law hT.L.swy hT.L.knd hT.L.bgh hT.L.sgn hT.L.nth) ?_ ?_ ?_ hT.hol
  · rw [hu _ (by decide)]; exact hT.L.cnt
  · rw [hu _ (by decide)]; exact hT.L.day
  · rw [hu _ (by decide)]; exact hT.fel
  · rw [hu _ (by decide)]; exact hT.z
  · rw [u2_at, if_pos ⟨rfl, rfl⟩]
def tiR (S : Row) (n o k x : Nat) : Bool := hg (daysS S n (nI x) k) o
section S72
variable {xs : Nat → Int32} {L : Nat} {g : Nat → Nat → Int64} {S : Row} {n o M : Nat}
theorem c_tie0 {k : Nat} (W : WF S n) (ho : o < n) (hk : k < 2147483648) : ∀ (r x : Nat) (f a : Nat → Nat → Int32), x + r = 256 → isT 1 f a S n 0 → ∃ f1 a1, rn xs L 86 62 [vR 0, vI (nI o), vI (nI k), vI (nI M), vI (encT (tieO (tiR S n o k) M x)), vI (fewT (tieO (tiR S n o k) M x)), vI (nI x)] [] (mw f a g) = some (some (vI (encT (tieO (tiR S n o k) M 256))), mw f1 a1 g) ∧ same (oT 9) f a g f1 a1 g
  | 0, x, f, a, hx, hT => by
    have e : x = 256 := by omega
    subst e
    refine ⟨f, a, ?_, same.refl⟩
    rw [b86_62, if_neg (by decide), b86_135]
  | r + 1, x, f, a, hx, hT => by
    have h8 := W.n8
    have hx2 : x < 256 := by omega
    have hpx := pN_le x
    have hlt : nI x < (256 : Int32) := by rw [show (256 : Int32) = nI 256 from rfl, nn_lt (by omega) (by omega)]; omega
    have hfew : (nI (pN x) < fewT (tieO (tiR S n o k) M x)) ↔ (match tieO (tiR S n o k) M x with
      | none => true
      | some b => decide (pN x < pN b)) = true := by
      cases e : tieO (tiR S n o k) M x with
      | none =>
        show (nI (pN x) < nI 9) ↔ true = true
        rw [nn_lt (by omega) (by omega)]
        simp
        omega
      | some b =>
        have := pN_le b
        show (nI (pN x) < nI (pN b)) ↔ decide (pN x < pN b) = true
        rw [nn_lt (by omega) (by omega)]
        simp
    rw [b86_62, if_pos hlt, b86_70]
    have skip : tieO (tiR S n o k) M (x + 1) = tieO (tiR S n o k) M x → ∀ f0 a0, isT 1 f0 a0 S n 0 → same (oT 9) f a g f0 a0 g → ∃ f1 a1, rn xs L 86 129 [vR 0, vI (nI o), vI (nI k), vI (nI M), vI (encT (tieO (tiR S n o k) M x)), vI (fewT (tieO (tiR S n o k) M x)), vI (nI x)] [] (mw f0 a0 g) = some (some (vI (encT (tieO (tiR S n o k) M 256))), mw f1 a1 g) ∧ same (oT 9) f a g f1 a1 g := by
      intro hsk f0 a0 hT0 hs0
      obtain ⟨f3, a3, e3, hs3⟩ := c_tie0 W ho hk r (x + 1) f0 a0 (by omega) hT0
      refine ⟨f3, a3, ?_, hs0.trans hs3⟩
      rw [hsk] at e3
      rw [b86_129, nn_add1]
      exact e3
    by_cases h1 : nI x &&& (nI M ^^^ (-1)) = 0
    · rw [if_pos h1, b86_79, bitCount_all x hx2]
      simp only [Option.bind_some, Option.toList_some, List.cons_append, List.nil_append]
      rw [b86_84]
      by_cases h2 : nI (pN x) < fewT (tieO (tiR S n o k) M x)
      · obtain ⟨f1, a1, e1, hT1, hs1⟩ := c_become (xs := xs) (L := L) (g := g) tr9 tr1 (by decide) W hT
        have hTs := c_setTie (v := nI x) hT1
        have hsz : same (oT 9) f1 a1 g (ma_u2 f1 9 11 (nI x)) a1 g := fun q hq => ⟨u2_ne (by unfold oT at hq; omega), rfl, rfl⟩
        obtain ⟨f2, a2, e2, hs2⟩ := c_hb (xs := xs) (L := L) (g := g) ho hk W hTs
        have hs := hs1.trans (hsz.trans hs2)
        rw [if_pos h2, b86_89, e1]
        simp only [Option.bind_some, Option.toList_none, List.nil_append]
        rw [b86_100, e2]
        simp only [Option.bind_some, Option.toList_some, List.cons_append, List.nil_append]
        rw [b86_115]
        by_cases h3 : tiR S n o k x = true
        · have h3' : hg (daysS S n (nI x) k) o = true := h3
          have ht : tieO (tiR S n o k) M (x + 1) = some x := by
            rw [tieO, hfew.mp h2, h3, decide_eq_true h1]; rfl
          obtain ⟨f3, a3, e3, hs3⟩ := c_tie0 W ho hk r (x + 1) f2 a2 (by omega) (hT.keep9 hs)
          refine ⟨f3, a3, ?_, hs.trans hs3⟩
          rw [ht] at e3
          rw [h3', if_neg (by decide), b86_118, bitCount_all x hx2]
          simp only [Option.bind_some, Option.toList_some, List.cons_append, List.nil_append]
          rw [b86_127, nn_add1]
          exact e3
        · have h3' : hg (daysS S n (nI x) k) o = false := by simpa [tiR] using h3
          have ht : tieO (tiR S n o k) M (x + 1) = tieO (tiR S n o k) M x := by
            have h3f : tiR S n o k x = false := h3'
            rw [tieO, h3f, Bool.and_false, if_neg (by decide)]
          rw [h3', if_pos (by decide)]
          exact skip ht f2 a2 (hT.keep9 hs) hs
      · have ht : tieO (tiR S n o k) M (x + 1) = tieO (tiR S n o k) M x := by
          have h2f : (match tieO (tiR S n o k) M x with
            | none => true
            | some b => decide (pN x < pN b)) = false := Bool.eq_false_iff.mpr (fun q => h2 (hfew.mpr q))
          rw [tieO, h2f, Bool.false_and, Bool.false_and, if_neg (by decide)]
        rw [if_neg h2]
        exact skip ht f a hT same.refl
    · have ht : tieO (tiR S n o k) M (x + 1) = tieO (tiR S n o k) M x := by
        rw [tieO, show decide (nI x &&& (nI M ^^^ (-1)) = 0) = false from decide_eq_false h1, Bool.and_false, Bool.false_and, if_neg (by decide)]
      rw [if_neg h1]
      exact skip ht f a hT same.refl
theorem m_tie0 {k : Nat} (W : WF S n) (ho : o < n) (hk : k < 2147483648) : ∀ (r x : Nat) (f a : Nat → Nat → Int32) (l6 : ma_V), x + r = 2 ^ n → isM a 45 S → ∃ a1, rn xs L 182 35 [vR 44, vI (nI o), vI (nI k), vI (nI M), vI (encT (tieO (tiR S n o k) M x)), vI (nI x), l6] [] (mw f a g) = some (some (vI (encT (tieO (tiR S n o k) M (2 ^ n)))), mw f a1 g) ∧ isM a1 45 S ∧ (∀ q, q ≠ 45 → q ≠ 47 → q ≠ 50 → a1 q = a q)
  | 0, x, f, a, l6, hx, hM => by
    have h8 := W.n8
    have h256 : 2 ^ n ≤ 256 := Nat.pow_le_pow_right (n := 2) (by decide) h8
    have hc : a 45 0 = nI n := (hM 0 (by decide)).trans W.cn
    have e : x = 2 ^ n := by omega
    subst e
    refine ⟨a, ?_, hM, fun _ _ _ _ => rfl⟩
    rw [b182_35, hc, bit_all n h8, if_neg (by rw [nn_lt (by omega) (by omega)]; omega), b182_113]
  | r + 1, x, f, a, l6, hx, hM => by
    have h8 := W.n8
    have h256 : 2 ^ n ≤ 256 := Nat.pow_le_pow_right (n := 2) (by decide) h8
    have hc : a 45 0 = nI n := (hM 0 (by decide)).trans W.cn
    have hx2 : x < 256 := by omega
    have skip : tieO (tiR S n o k) M (x + 1) = tieO (tiR S n o k) M x → ∀ a0 l7, isM a0 45 S → (∀ q, q ≠ 45 → q ≠ 47 → q ≠ 50 → a0 q = a q) → ∃ a1, rn xs L 182 103 [vR 44, vI (nI o), vI (nI k), vI (nI M), vI (encT (tieO (tiR S n o k) M x)), vI (nI x), vI l7] [] (mw f a0 g) = some (some (vI (encT (tieO (tiR S n o k) M (2 ^ n)))), mw f a1 g) ∧ isM a1 45 S ∧ (∀ q, q ≠ 45 → q ≠ 47 → q ≠ 50 → a1 q = a q) := by
      intro hsk a0 l7 hM0 ha0
      obtain ⟨a3, e3, hM3, ha3⟩ := m_tie0 W ho hk r (x + 1) f a0 (vI l7) (by omega) hM0
      refine ⟨a3, ?_, hM3, fun q h1 h2 h3 => (ha3 q h1 h2 h3).trans (ha0 q h1 h2 h3)⟩
      rw [hsk] at e3
      rw [b182_103, nn_add1]
      exact e3
    have main : (match tieO (tiR S n o k) M x with
      | none => true
      | some b => decide (pN x < pN b)) = true → ∃ a1, rn xs L 182 78 [vR 44, vI (nI o), vI (nI k), vI (nI M), vI (encT (tieO (tiR S n o k) M x)), vI (nI x), vI 1] [] (mw f a g) = some (some (vI (encT (tieO (tiR S n o k) M (2 ^ n)))), mw f a1 g) ∧ isM a1 45 S ∧ (∀ q, q ≠ 45 → q ≠ 47 → q ≠ 50 → a1 q = a q) := by
      intro hfew
      rw [b182_78]
      by_cases h1 : nI x &&& (nI M ^^^ (-1)) = 0
      · obtain ⟨a2, e2, hM2, ha2⟩ := m_hb (xs := xs) (L := L) (f := f) (g := g) (ti := nI x) ho hk W hM
        rw [if_pos h1, b182_87, e2]
        simp only [Option.bind_some, Option.toList_some, List.cons_append, List.nil_append]
        rw [b182_95]
        by_cases h3 : tiR S n o k x = true
        · have h3' : hg (daysS S n (nI x) k) o = true := h3
          have ht : tieO (tiR S n o k) M (x + 1) = some x := by
            rw [tieO, hfew, h3, decide_eq_true h1]; rfl
          obtain ⟨a3, e3, hM3, ha3⟩ := m_tie0 W ho hk r (x + 1) f a2 (vI 1) (by omega) hM2
          refine ⟨a3, ?_, hM3, fun q h1 h2 h3 => (ha3 q h1 h2 h3).trans (ha2 q h1 h2 h3)⟩
          rw [ht] at e3
          rw [h3', if_neg (by decide), b182_98, nn_add1]
          exact e3
        · have h3' : hg (daysS S n (nI x) k) o = false := by simpa [tiR] using h3
          have ht : tieO (tiR S n o k) M (x + 1) = tieO (tiR S n o k) M x := by
            have h3f : tiR S n o k x = false := h3'
            rw [tieO, h3f, Bool.and_false, if_neg (by decide)]
          rw [h3', if_pos (by decide)]
          exact skip ht a2 1 hM2 ha2
      · have ht : tieO (tiR S n o k) M (x + 1) = tieO (tiR S n o k) M x := by
          rw [tieO, show decide (nI x &&& (nI M ^^^ (-1)) = 0) = false from decide_eq_false h1, Bool.and_false, Bool.false_and, if_neg (by decide)]
        rw [if_neg h1]
        exact skip ht a 1 hM (fun _ _ _ _ => rfl)
    rw [b182_35, hc, bit_all n h8, if_pos (by rw [nn_lt (by omega) (by omega)]; omega), b182_48]
    cases e : tieO (tiR S n o k) M x with
    | none =>
      rw [e] at main
      rw [show encT none = -3 from rfl, if_pos (by decide), b182_66, if_neg (by decide)]
      exact main rfl
    | some b =>
      have hb := tieO_lt x b e
      have := pN_le b
      have := pN_le x
      rw [e] at main
      rw [show encT (some b) = nI b from rfl, if_neg (nI_pos (by omega)), b182_53, e_size hx2]
      simp only [Option.bind_some, Option.toList_some, List.cons_append, List.nil_append]
      rw [b182_58, e_size (by omega)]
      simp only [Option.bind_some, Option.toList_some, List.cons_append, List.nil_append]
      rw [b182_63]
      by_cases h2 : pN x < pN b
      · rw [if_pos ((nn_lt (by omega) (by omega)).mpr h2), b182_66, if_neg (by decide)]
        exact main (decide_eq_true h2)
      · rw [if_neg (fun q => h2 ((nn_lt (by omega) (by omega)).mp q)), b182_70, if_pos rfl]
        have ht : tieO (tiR S n o k) M (x + 1) = tieO (tiR S n o k) M x := by
          rw [tieO, e]
          simp [h2]
        have := skip ht a 0 hM (fun _ _ _ _ => rfl)
        rw [e] at this
        exact this
end S72
theorem op_tiedFor {leaf v : Int32} : TOP 86 7 182 7 [vI leaf, vI v] := by
  intro xs L S n W
  have h8 := W.n8
  have h256 : 2 ^ n ≤ 256 := Nat.pow_le_pow_right (n := 2) (by decide) h8
  by_cases h : hasR n leaf = true
  · obtain ⟨o, ho, rfl⟩ := hasR_to h8 h
    by_cases h2 : isw 1 20 v = true
    · obtain ⟨m, hm, rfl⟩ : ∃ m, m < 2147483648 ∧ v = nI m := ⟨_, clamp_lt, nn_of (isw_pos h2 (by decide))⟩
      obtain ⟨M, hM2, hMe⟩ : ∃ M, M < 2 ^ n ∧ setOf (hg S) n &&& (((1 : Int32) <<< (nI o &&& 31)) ^^^ (-1)) = nI M := and_lt (bs_lt n) (by omega)
      have mod : ∀ (f a : Nat → Nat → Int32) (g : Nat → Nat → Int64), isM a 45 S → ∃ a1, ev xs L 182 7 (vR 44 :: [vI (nI o), vI (nI m)]) (mw f a g) = some (some (vI (encT (tieO (tiR S n o m) M (2 ^ n)))), mw f a1 g) ∧ isM a1 45 S ∧ (∀ q, q ≠ 45 → q ≠ 47 → q ≠ 48 → q ≠ 50 → a1 q = a q) := by
        intro f a g hM
        obtain ⟨a1, e1, hM1, ha1⟩ := m_tie0 (xs := xs) (L := L) (g := g) (M := M) W ho hm (2 ^ n) 0 f a (vS 0) (by omega) hM
        refine ⟨a1, ?_, hM1, fun q h1 h2 _ h4 => ha1 q h1 h2 h4⟩
        show rn xs L 182 0 [vR 44, vI (nI o), vI (nI m), vS 0, vS 0, vS 0, vS 0] [] (mw f a g) = _
        rw [b182_0, m_has hM W, h]
        simp only [Option.bind_some, Option.toList_some, List.cons_append, List.nil_append]
        rw [b182_5, if_neg (by decide), b182_8, m_isShort, h2]
        simp only [Option.bind_some, Option.toList_some, List.cons_append, List.nil_append]
        rw [b182_12, if_neg (by decide), b182_17, m_hanging hM W]
        simp only [Option.bind_some, Option.toList_some, List.cons_append, List.nil_append]
        rw [b182_21, hMe]
        exact e1
      by_cases hh : hg S o = true
      · refine ⟨vI (encT (tieO (tiR S n o m) M (2 ^ n))), S, n, W, fun f a g hT => ?_, fun f a g hM => mod f a g hM⟩
        obtain ⟨f1, a1, e1, hs1⟩ := c_tie0 (xs := xs) (L := L) (g := g) (M := M) W ho hm 256 0 f a (by omega) hT
        refine ⟨f1, a1, ?_, hT.keep9 hs1, same_tree9 hs1⟩
        have hup := tieO_up (p := tiR S n o m) hM2 h256 (256 - 2 ^ n) (by omega)
        rw [show 2 ^ n + (256 - 2 ^ n) = 256 by omega] at hup
        rw [hup] at e1
        show rn xs L 86 0 [vR 0, vI (nI o), vI (nI m), vS 0, vS 0, vS 0, vS 0] [] (mw f a g) = _
        rw [b86_0, c_has tr1 hT.L, h]
        simp only [Option.bind_some, Option.toList_some, List.cons_append, List.nil_append]
        rw [b86_8, if_neg (by decide), b86_11, e_within, h2]
        simp only [Option.bind_some, Option.toList_some, List.cons_append, List.nil_append]
        rw [b86_18, if_neg (by decide), b86_23, c_hangs tr1 W hT.L ho, hh]
        simp only [Option.bind_some, Option.toList_some, List.cons_append, List.nil_append]
        rw [b86_31, if_neg (by decide), b86_37, c_hangSet tr1 W hT.L]
        simp only [Option.bind_some, Option.toList_some, List.cons_append, List.nil_append]
        rw [b86_44, hMe]
        exact e1
      · have hf : hg S o = false := by simpa using hh
        have hno : encT (tieO (tiR S n o m) M (2 ^ n)) = -3 := by rw [tieO_none (p := tiR S n o m) (fun x => hg_days_false hh)]; rfl
        refine ⟨vI (-3), S, n, W, fun f a g hT => ⟨f, a, ?_, hT, same.refl⟩, fun f a g hM => by rw [← hno]; exact mod f a g hM⟩
        show rn xs L 86 0 [vR 0, vI (nI o), vI (nI m), vS 0, vS 0, vS 0, vS 0] [] (mw f a g) = _
        simp [b86_0, b86_8, b86_11, b86_18, b86_21, b86_23, b86_31, b86_34, b86_37, b86_44, b86_70, b86_79, b86_84, b86_89, b86_100, b86_115, b86_118, b86_127, b86_129, b86_135, c_has tr1 hT.L, e_within, h, h2, bI, c_hangs tr1 W hT.L ho, hf]
    · refine ⟨vI (-1), S, n, W, fun f a g hT => ⟨f, a, ?_, hT, same.refl⟩, fun f a g hM => ⟨a, ?_, hM, fun _ _ _ _ _ => rfl⟩⟩
      · show rn xs L 86 0 [vR 0, vI (nI o), vI v, vS 0, vS 0, vS 0, vS 0] [] (mw f a g) = _
        simp [b86_0, b86_8, b86_11, b86_18, b86_21, b86_23, b86_31, b86_34, b86_37, b86_44, b86_70, b86_79, b86_84, b86_89, b86_100, b86_115, b86_118, b86_127, b86_129, b86_135, c_has tr1 hT.L, e_within, h, h2, bI]
      · show rn xs L 182 0 [vR 44, vI (nI o), vI v, vS 0, vS 0, vS 0, vS 0] [] (mw f a g) = _
        simp [b182_0, b182_5, b182_8, b182_12, b182_15, b182_17, b182_21, b182_48, b182_53, b182_58, b182_63, b182_66, b182_70, b182_78, b182_87, b182_95, b182_98, b182_103, b182_113, m_has hM W, m_isShort, h, h2, bI]
  · refine ⟨vI (-1), S, n, W, fun f a g hT => ⟨f, a, ?_, hT, same.refl⟩, fun f a g hM => ⟨a, ?_, hM, fun _ _ _ _ _ => rfl⟩⟩
    · show rn xs L 86 0 [vR 0, vI leaf, vI v, vS 0, vS 0, vS 0, vS 0] [] (mw f a g) = _
      simp [b86_0, b86_8, b86_11, b86_18, b86_21, b86_23, b86_31, b86_34, b86_37, b86_44, b86_70, b86_79, b86_84, b86_89, b86_100, b86_115, b86_118, b86_127, b86_129, b86_135, c_has tr1 hT.L, h, bI]
    · show rn xs L 182 0 [vR 44, vI leaf, vI v, vS 0, vS 0, vS 0, vS 0] [] (mw f a g) = _
      simp [b182_0, b182_5, b182_8, b182_12, b182_15, b182_17, b182_21, b182_48, b182_53, b182_58, b182_63, b182_66, b182_70, b182_78, b182_87, b182_95, b182_98, b182_103, b182_113, m_has hM W, h, bI]
