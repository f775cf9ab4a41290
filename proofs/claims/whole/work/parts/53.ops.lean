/-! ===== calls that speak of the tree alone ===== -/
section S53a
variable {xs : Nat → Int32} {L : Nat} {f a : Nat → Nat → Int32} {g : Nat → Nat → Int64} {x : Int32}
theorem m_in_0_1 : ev xs L 115 6 [vL x.toInt64, vL (0 : Int64), vL (1 : Int64)] (mw f a g) = some (some (vI (bI (isw (0) 1 x))), mw f a g) := e_isIn.trans (by rw [isl_w (lo := 0) (hi := 1) (by decide) (by decide)])
theorem m_in_0_2 : ev xs L 115 6 [vL x.toInt64, vL (0 : Int64), vL (2 : Int64)] (mw f a g) = some (some (vI (bI (isw (0) 2 x))), mw f a g) := e_isIn.trans (by rw [isl_w (lo := 0) (hi := 2) (by decide) (by decide)])
theorem m_in_0_3 : ev xs L 115 6 [vL x.toInt64, vL (0 : Int64), vL (3 : Int64)] (mw f a g) = some (some (vI (bI (isw (0) 3 x))), mw f a g) := e_isIn.trans (by rw [isl_w (lo := 0) (hi := 3) (by decide) (by decide)])
theorem m_in_0_5 : ev xs L 115 6 [vL x.toInt64, vL (0 : Int64), vL (5 : Int64)] (mw f a g) = some (some (vI (bI (isw (0) 5 x))), mw f a g) := e_isIn.trans (by rw [isl_w (lo := 0) (hi := 5) (by decide) (by decide)])
theorem m_in_0_6 : ev xs L 115 6 [vL x.toInt64, vL (0 : Int64), vL (6 : Int64)] (mw f a g) = some (some (vI (bI (isw (0) 6 x))), mw f a g) := e_isIn.trans (by rw [isl_w (lo := 0) (hi := 6) (by decide) (by decide)])
theorem m_in_0_8 : ev xs L 115 6 [vL x.toInt64, vL (0 : Int64), vL (8 : Int64)] (mw f a g) = some (some (vI (bI (isw (0) 8 x))), mw f a g) := e_isIn.trans (by rw [isl_w (lo := 0) (hi := 8) (by decide) (by decide)])
theorem m_in_0_9 : ev xs L 115 6 [vL x.toInt64, vL (0 : Int64), vL (9 : Int64)] (mw f a g) = some (some (vI (bI (isw (0) 9 x))), mw f a g) := e_isIn.trans (by rw [isl_w (lo := 0) (hi := 9) (by decide) (by decide)])
theorem m_in_0_13 : ev xs L 115 6 [vL x.toInt64, vL (0 : Int64), vL (13 : Int64)] (mw f a g) = some (some (vI (bI (isw (0) 13 x))), mw f a g) := e_isIn.trans (by rw [isl_w (lo := 0) (hi := 13) (by decide) (by decide)])
theorem m_in_6_9 : ev xs L 115 6 [vL x.toInt64, vL (6 : Int64), vL (9 : Int64)] (mw f a g) = some (some (vI (bI (isw (6) 9 x))), mw f a g) := e_isIn.trans (by rw [isl_w (lo := 6) (hi := 9) (by decide) (by decide)])
theorem m_in_0_99 : ev xs L 115 6 [vL x.toInt64, vL (0 : Int64), vL (99 : Int64)] (mw f a g) = some (some (vI (bI (isw (0) 99 x))), mw f a g) := e_isIn.trans (by rw [isl_w (lo := 0) (hi := 99) (by decide) (by decide)])
theorem m_in_1_8 : ev xs L 115 6 [vL x.toInt64, vL (1 : Int64), vL (8 : Int64)] (mw f a g) = some (some (vI (bI (isw (1) 8 x))), mw f a g) := e_isIn.trans (by rw [isl_w (lo := 1) (hi := 8) (by decide) (by decide)])
theorem m_in_1_10 : ev xs L 115 6 [vL x.toInt64, vL (1 : Int64), vL (10 : Int64)] (mw f a g) = some (some (vI (bI (isw (1) 10 x))), mw f a g) := e_isIn.trans (by rw [isl_w (lo := 1) (hi := 10) (by decide) (by decide)])
theorem m_in_1_20 : ev xs L 115 6 [vL x.toInt64, vL (1 : Int64), vL (20 : Int64)] (mw f a g) = some (some (vI (bI (isw (1) 20 x))), mw f a g) := e_isIn.trans (by rw [isl_w (lo := 1) (hi := 20) (by decide) (by decide)])
theorem m_in_1_30 : ev xs L 115 6 [vL x.toInt64, vL (1 : Int64), vL (30 : Int64)] (mw f a g) = some (some (vI (bI (isw (1) 30 x))), mw f a g) := e_isIn.trans (by rw [isl_w (lo := 1) (hi := 30) (by decide) (by decide)])
theorem m_in_1_60 : ev xs L 115 6 [vL x.toInt64, vL (1 : Int64), vL (60 : Int64)] (mw f a g) = some (some (vI (bI (isw (1) 60 x))), mw f a g) := e_isIn.trans (by rw [isl_w (lo := 1) (hi := 60) (by decide) (by decide)])
theorem m_in_m1_3 : ev xs L 115 6 [vL x.toInt64, vL (-1 : Int64), vL (3 : Int64)] (mw f a g) = some (some (vI (bI (isw (-1) 3 x))), mw f a g) := e_isIn.trans (by rw [isl_w (lo := -1) (hi := 3) (by decide) (by decide)])
end S53a
theorem tr1 : is_tr 1 := Or.inl rfl
theorem tr9 : is_tr 9 := Or.inr (Or.inl rfl)
theorem tr17 : is_tr 17 := Or.inr (Or.inr rfl)
/-- class method mc and model method mm, with the same values given, answer alike and go to the same row -/
def TOP (mc nc mm nm : Nat) (as : List ma_V) : Prop := ∀ (xs : Nat → Int32) (L : Nat) (S : Row) (n : Nat), WF S n → ∃ (v : ma_V) (S' : Row) (n' : Nat), WF S' n' ∧
  (∀ (f a : Nat → Nat → Int32) (g : Nat → Nat → Int64), isT 1 f a S n 0 → ∃ f1 a1, ev xs L mc nc (vR 0 :: as) (mw f a g) = some (some v, mw f1 a1 g) ∧ isT 1 f1 a1 S' n' 0 ∧ same (fun o => o < 1 ∨ 17 ≤ o) f a g f1 a1 g) ∧
  (∀ (f a : Nat → Nat → Int32) (g : Nat → Nat → Int64), isM a 45 S → ∃ a1, ev xs L mm nm (vR 44 :: as) (mw f a g) = some (some v, mw f a1 g) ∧ isM a1 45 S' ∧ (∀ q, q ≠ 45 → q ≠ 47 → q ≠ 48 → q ≠ 50 → a1 q = a q))
/-- a call that changes nothing -/
theorem TOP.rd {mc nc mm nm : Nat} {as : List ma_V} (h : ∀ (xs : Nat → Int32) (L : Nat) (S : Row) (n : Nat), WF S n → ∃ v,
    (∀ (f a : Nat → Nat → Int32) (g : Nat → Nat → Int64), isT 1 f a S n 0 → ev xs L mc nc (vR 0 :: as) (mw f a g) = some (some v, mw f a g)) ∧
    (∀ (f a : Nat → Nat → Int32) (g : Nat → Nat → Int64), isM a 45 S → ev xs L mm nm (vR 44 :: as) (mw f a g) = some (some v, mw f a g))) : TOP mc nc mm nm as := by
  intro xs L S n W
  obtain ⟨v, hc, hm⟩ := h xs L S n W
  exact ⟨v, S, n, W, fun f a g hT => ⟨f, a, hc f a g hT, hT, same.refl⟩, fun f a g hM => ⟨a, hm f a g hM, hM, fun _ _ _ _ _ => rfl⟩⟩
section S53
variable {xs : Nat → Int32} {L : Nat} {f a : Nat → Nat → Int32} {g : Nat → Nat → Int64} {S : Row} {n : Nat}
theorem m_becomes {k : Nat} {v : Int32} (hM : isM a 45 S) (hk : k < 62) : ev xs L 135 4 [vR 44, vI (nI k), vI v] (mw f a g) = some (some (vI (S k)), mw f (ma_u2 a 45 k v) g) := by
  have hin : ma_in (nI k) 62 = true := by rw [nn_in (by omega)]; simp; omega
  refine (b135_0 _ _ _ hin hin).trans ?_
  rw [nn_nat (by omega), hM k hk]
theorem k_in3 : ev xs L 115 6 [vL (3 : Int64), vL (0 : Int64), vL (3 : Int64)] (mw f a g) = some (some (vI 1), mw f a g) := e_isIn.trans (by rw [show isl 0 3 3 = true by decide]; rfl)
theorem in_of {k m : Nat} (h : k < m) (hm : m < 1000) : ma_in (nI k) m = true := by
  rw [nn_in (by omega)]
  simpa using h
theorem same_u2 {t q i : Nat} {v : Int32} {P : Nat → Prop} (h : ∀ o, P o → o ≠ q) : same P f a g f (ma_u2 a q i v) g := fun o ho => ⟨rfl, u2_ne (h o ho), rfl⟩
theorem e_most {x : Int32} : ev xs L 58 1 [vI x] (mw f a g) = some (some (vI (if x = 3 then 99 else 9)), mw f a g) := by
  show rn xs L 58 0 [vI x] [] (mw f a g) = _
  by_cases h : x = 3
  · simp [b58_0, b58_5, b58_10, h]
  · simp [b58_0, b58_5, b58_10, h]
end S53
theorem op_set {law v : Int32} : TOP 59 4 134 3 [vI law, vI v] := by
  intro xs L S n W
  by_cases h : isw 0 3 law = true
  · obtain ⟨k, hk, rfl⟩ := isw_nn 3 rfl (by decide) h
    have hn : (nI k).toNatClampNeg = k := nn_nat (by omega)
    have hin : ma_in (nI k) 4 = true := in_of (by omega) (by decide)
    have h4 : (4 : Int32) + nI k = nI (4 + k) := by rw [show (4 : Int32) = nI 4 from rfl, nn_add]
    by_cases h2 : isw 0 (if nI k = 3 then 99 else 9) v = true
    · have WS : WF (up1 S (4 + k) v) n := by
        refine W.lo (by omega) (by omega) (by omega) (fun _ h7 => ?_) (fun h7 => ?_)
        · rw [if_neg (by rw [show (3 : Int32) = nI 3 from rfl, nn_eq (by omega) (by decide)]; omega)] at h2
          obtain ⟨u, hu, e⟩ := isw_nn 9 rfl (by decide) h2
          exact ⟨u, hu, e⟩
        · rw [if_pos (by rw [show k = 3 by omega]; rfl)] at h2
          obtain ⟨u, hu, e⟩ := isw_nn 99 rfl (by decide) h2
          exact ⟨u, hu, e⟩
      refine ⟨vI (S (4 + k)), up1 S (4 + k) v, n, WS, fun f a g hT => ⟨f, ma_u2 a 2 k v, ?_, c_setLaw hT (by omega), same_u2 (t := 0) (fun o ho => by omega)⟩, fun f a g hM => ⟨ma_u2 a 45 (4 + k) v, ?_, hM.up, fun q hq _ _ _ => u2_ne hq⟩⟩
      · show rn xs L 59 0 [vR 0, vI (nI k), vI v, vS 0] [] (mw f a g) = _
        have hl := hT.L.law k (by omega)
        simp [b59_0, b59_6, b59_9, b59_15, b59_18, b59_21, b59_23, e_within, e_most, h, h2, bI, hin, hn, hl]
      · show rn xs L 134 0 [vR 44, vI (nI k), vI v] [] (mw f a g) = _
        by_cases h3 : nI k = 3
        · rw [if_pos h3] at h2
          have hb := m_becomes (xs := xs) (L := L) (f := f) (g := g) (v := v) hM (k := 4 + k) (by omega)
          rw [← h4] at hb
          rw [h3, show (4 : Int32) + 3 = 7 from rfl] at hb
          rw [h3]
          simp [b134_0, b134_9, b134_12, b134_20, b134_26, b134_32, b134_35, b134_43, b134_46, k_in3, m_in_0_99, h2, bI, hb]
        · rw [if_neg h3] at h2
          have hb := m_becomes (xs := xs) (L := L) (f := f) (g := g) (v := v) hM (k := 4 + k) (by omega)
          rw [← h4] at hb
          simp [b134_0, b134_9, b134_12, b134_20, b134_26, b134_32, b134_35, b134_43, b134_46, m_in_0_3, m_in_0_9, h, h2, h3, bI, hb]
    · refine ⟨vI (-1), S, n, W, fun f a g hT => ⟨f, a, ?_, hT, same.refl⟩, fun f a g hM => ⟨a, ?_, hM, fun _ _ _ _ _ => rfl⟩⟩
      · show rn xs L 59 0 [vR 0, vI (nI k), vI v, vS 0] [] (mw f a g) = _
        simp [b59_0, b59_6, b59_9, b59_15, b59_18, b59_21, b59_23, e_within, e_most, h, h2, bI]
      · show rn xs L 134 0 [vR 44, vI (nI k), vI v] [] (mw f a g) = _
        by_cases h3 : nI k = 3
        · rw [if_pos h3] at h2
          rw [h3]
          simp [b134_0, b134_9, b134_12, b134_20, b134_26, b134_32, b134_35, b134_43, b134_46, k_in3, m_in_0_99, h2, bI]
        · rw [if_neg h3] at h2
          simp [b134_0, b134_9, b134_12, b134_20, b134_26, b134_32, b134_35, b134_43, b134_46, m_in_0_3, m_in_0_9, h, h2, h3, bI]
  · refine ⟨vI (-1), S, n, W, fun f a g hT => ⟨f, a, ?_, hT, same.refl⟩, fun f a g hM => ⟨a, ?_, hM, fun _ _ _ _ _ => rfl⟩⟩
    · show rn xs L 59 0 [vR 0, vI law, vI v, vS 0] [] (mw f a g) = _
      simp [b59_0, b59_6, b59_9, b59_15, b59_18, b59_21, b59_23, e_within, h, bI]
    · show rn xs L 134 0 [vR 44, vI law, vI v] [] (mw f a g) = _
      simp [b134_0, b134_9, b134_12, b134_20, b134_26, b134_32, b134_35, b134_43, b134_46, m_in_0_3, h, bI]
theorem op_lawOf {law : Int32} : TOP 60 2 136 2 [vI law] := by
  refine TOP.rd (fun xs L S n W => ?_)
  by_cases h : isw 0 3 law = true
  · obtain ⟨k, hk, rfl⟩ := isw_nn 3 rfl (by decide) h
    have hn : (nI k).toNatClampNeg = k := nn_nat (by omega)
    have hin : ma_in (nI k) 4 = true := in_of (by omega) (by decide)
    have h4 : (4 : Int32) + nI k = nI (4 + k) := by rw [show (4 : Int32) = nI 4 from rfl, nn_add]
    have hn4 : (nI (4 + k)).toNatClampNeg = 4 + k := nn_nat (by omega)
    have hin4 : ma_in (nI (4 + k)) 62 = true := in_of (by omega) (by decide)
    refine ⟨vI (S (4 + k)), fun f a g hT => ?_, fun f a g hM => ?_⟩
    · show rn xs L 60 0 [vR 0, vI (nI k)] [] (mw f a g) = _
      have hl := hT.L.law k (by omega)
      simp [b60_0, b60_6, b60_9, b60_21, e_within, h, bI, hin, hn, hl]
    · show rn xs L 136 0 [vR 44, vI (nI k)] [] (mw f a g) = _
      have hl := hM (4 + k) (by omega)
      simp [b136_0, b136_9, b136_12, b136_23, m_in_0_3, h, bI, h4, hin4, hn4, hl]
  · refine ⟨vI (-1), fun f a g hT => ?_, fun f a g hM => ?_⟩
    · show rn xs L 60 0 [vR 0, vI law] [] (mw f a g) = _
      simp [b60_0, b60_6, b60_9, b60_21, e_within, h, bI]
    · show rn xs L 136 0 [vR 44, vI law] [] (mw f a g) = _
      simp [b136_0, b136_9, b136_12, b136_23, m_in_0_3, h, bI]
