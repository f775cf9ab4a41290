/-! ===== leaf ===== -/
def growR (S : Row) (n : Nat) (k b h s : Int32) : Row := up1 (up1 (up1 (up1 (up1 (up1 (up1 S (14 + 6 * n + 0) k) (14 + 6 * n + 1) b) (14 + 6 * n + 2) h) (14 + 6 * n + 3) s) (14 + 6 * n + 4) 1) (14 + 6 * n + 5) 0) 0 (nI (n + 1))
theorem grow_lf {S : Row} {n i c : Nat} {k b h s : Int32} (hc : c < 6) : lf (growR S n k b h s) i c = if i = n then (if c = 0 then k else if c = 1 then b else if c = 2 then h else if c = 3 then s else if c = 4 then 1 else 0) else lf S i c := by
  unfold growR
  rw [lf_up1_lo (by decide), lf_up1 (by decide) hc, lf_up1 (by decide) hc, lf_up1 (by decide) hc, lf_up1 (by decide) hc, lf_up1 (by decide) hc, lf_up1 (by decide) hc]
  by_cases hi : i = n
  · rw [if_pos hi]
    have h5 : c = 0 ∨ c = 1 ∨ c = 2 ∨ c = 3 ∨ c = 4 ∨ c = 5 := by omega
    rcases h5 with h | h | h | h | h | h <;> simp [hi, h]
  · simp [hi]
theorem grow_lo {S : Row} {n j : Nat} {k b h s : Int32} (hj : j < 14) : growR S n k b h s j = if j = 0 then nI (n + 1) else S j := by
  unfold growR
  rw [up1_at, up1_lo hj, up1_lo hj, up1_lo hj, up1_lo hj, up1_lo hj, up1_lo hj]
theorem WF.grow {S : Row} {n : Nat} {k b h s : Int32} (W : WF S n) (hn : n < 8) (hk : ∃ u, u ≤ 5 ∧ k = nI u) (hb : ∃ u, u ≤ 5 ∧ b = nI u) (hh : ∃ u, u ≤ 99 ∧ h = nI u) (hs : ∃ u, u ≤ 9 ∧ s = nI u) : WF (growR S n k b h s) (n + 1) := by
  have hf : ∀ i c, c < 6 → i < n → lf (growR S n k b h s) i c = lf S i c := fun i c hc hi => by rw [grow_lf hc, if_neg (by omega)]
  have hN : ∀ c, c < 6 → lf (growR S n k b h s) n c = if c = 0 then k else if c = 1 then b else if c = 2 then h else if c = 3 then s else if c = 4 then 1 else 0 := fun c hc => by rw [grow_lf hc, if_pos rfl]
  have hc : ct (hg (growR S n k b h s)) (n + 1) = ct (hg S) n + 1 := by
    show ct (hg (growR S n k b h s)) n + (if hg (growR S n k b h s) n then 1 else 0) = _
    rw [ct_congr (q := hg S) (fun j hj => by unfold hg; rw [hf j 4 (by decide) hj])]
    have : hg (growR S n k b h s) n = true := by simp [hg, hN 4 (by decide)]
    rw [this, if_pos rfl]
  have hx : ∀ (c m : Nat) (v : Int32), c < 6 → lf (growR S n k b h s) n c = v → (∃ u, u ≤ m ∧ v = nI u) → (∀ i, i < n → ∃ u, u ≤ m ∧ lf S i c = nI u) → ∀ i, i < n + 1 → ∃ u, u ≤ m ∧ lf (growR S n k b h s) i c = nI u := by
    intro c m v hc hv hu hall i hi
    by_cases e : i = n
    · subst e; rw [hv]; exact hu
    · rw [hf i c hc (by omega)]; exact hall i (by omega)
  obtain ⟨d, hd, hcd⟩ := W.fel
  refine WF.mk (by omega) ?_ (fun j hj => ?_) ?_ (hx 0 5 k (by decide) (hN 0 (by decide)) hk W.knd) (hx 1 5 b (by decide) (hN 1 (by decide)) hb W.bgh) (hx 2 99 h (by decide) (hN 2 (by decide)) hh W.hol) (hx 3 9 s (by decide) (hN 3 (by decide)) hs W.sgn) (fun i hi => ?_) ⟨d, ?_, by omega⟩ (fun i hi => ?_) (fun i j hi hj => ?_) (fun j hj => ?_)
  · rw [grow_lo (by decide), if_pos rfl]
  · rw [grow_lo (by omega), if_neg (by omega)]; exact W.law j hj
  · rw [grow_lo (by omega), if_neg (by omega)]; exact W.gale
  · by_cases e : i = n
    · subst e; rw [hN 4 (by decide), hN 5 (by decide)]; rfl
    · rw [hf i 4 (by decide) (by omega), hf i 5 (by decide) (by omega)]; exact W.hgs i (by omega)
  · rw [grow_lo (by decide), if_neg (by decide)]; exact hd
  · by_cases e : i = n
    · subst e; exact ⟨0, hN 5 (by decide), by omega⟩
    · rw [hf i 5 (by decide) (by omega)]
      obtain ⟨x, hx1, hx2⟩ := W.nth i (by omega)
      exact ⟨x, hx1, by omega⟩
  · by_cases e : i = n
    · subst e; intro _; exact Or.inl (hN 5 (by decide))
    · by_cases e2 : j = n
      · subst e2
        intro he
        left
        rw [he]; exact hN 5 (by decide)
      · rw [hf i 5 (by decide) (by omega), hf j 5 (by decide) (by omega)]
        exact W.one i j (by omega) (by omega)
  · obtain ⟨i, hi, hl⟩ := W.all j (by omega)
    exact ⟨i, by omega, by rw [hf i 5 (by decide) hi]; exact hl⟩
theorem c_grow {xs : Nat → Int32} {L : Nat} {f a : Nat → Nat → Int32} {g : Nat → Nat → Int64} {S : Row} {n t : Nat} {k b h s : Int32} (ht : is_tr t) (hn : n < 8) (hT : isT t f a S n 0) : ∃ f' a', ev xs L 32 5 [vR t, vI k, vI b, vI h, vI s] (mw f a g) = some (none, mw f' a' g) ∧ isT t f' a' (growR S n k b h s) (n + 1) 0 ∧ same (oT t) f a g f' a' g := by
  have hc := hT.L.cnt
  have hin : ma_in (nI n) 8 = true := in_of hn (by decide)
  have hnn : (nI n).toNatClampNeg = n := nn_nat (by omega)
  have hin' : ma_in (f t 7) 8 = true := by rw [hc]; exact hin
  have hu : ∀ j v, j ≠ 7 → ma_u2 f t 7 v t j = f t j := fun j v hj => by rw [u2_at, if_neg (fun q => hj q.2)]
  refine ⟨ma_u2 f t 7 (nI n + 1), ma_u2 (ma_u2 (ma_u2 (ma_u2 (ma_u2 a (t + 3) n k) (t + 4) n b) (t + 5) n h) (t + 6) n s) (t + 7) n 0, ?_, ?_, ?_⟩
  rotate_left
  · show isT t (ma_u2 f t 7 (nI n + 1)) (ma_u2 (ma_u2 (ma_u2 (ma_u2 (ma_u2 a (t + 3) n k) (t + 4) n b) (t + 5) n h) (t + 6) n s) (t + 7) n 0) (growR S n k b h s) (n + 1) 0
    have hx : ∀ (q c : Nat) (v : Int32) (A : Nat → Nat → Int32), c < 6 → (∀ i, i < n → A q i = lf S i c) → A q n = lf (growR S n k b h s) n c → ∀ i, i < n + 1 → A q i = lf (growR S n k b h s) i c := by
      intro q c v A hc hA hv i hi
      by_cases e : i = n
      · subst e; exact hv
      · rw [hA i (by omega), grow_lf hc, if_neg e]
    have hN : ∀ c, c < 6 → lf (growR S n k b h s) n c = if c = 0 then k else if c = 1 then b else if c = 2 then h else if c = 3 then s else if c = 4 then 1 else 0 := fun c hc => by rw [grow_lf hc, if_pos rfl]
    refine isT.mk (isL.mk ?_ ?_ (fun j hj => ?_) (fun j hj => ?_) ?_ ?_ ?_ ?_) ?_ ?_ ?_ ?_
    · rw [u2_at, if_pos ⟨rfl, rfl⟩, nn_add1]
    · rw [hu _ _ (by decide), grow_lo (by decide), if_neg (by decide)]; exact hT.L.day
    · rw [u2_ne (by omega), u2_ne (by omega), u2_ne (by omega), u2_ne (by omega), u2_ne (by omega), grow_lo (by omega), if_neg (by omega)]; exact hT.L.law j hj
    · rw [u2_ne (by omega), u2_ne (by omega), u2_ne (by omega), u2_ne (by omega), u2_ne (by omega), grow_lo (by omega), if_neg (by omega)]; exact hT.L.swy j hj
    · refine hx (t + 3) 0 0 _ (by decide) (fun i hi => ?_) ?_
      · rw [u2_ne (by omega), u2_ne (by omega), u2_ne (by omega), u2_ne (by omega), u2_at, if_neg (by omega)]; exact hT.L.knd i hi
      · rw [u2_ne (by omega), u2_ne (by omega), u2_ne (by omega), u2_ne (by omega), u2_at, if_pos ⟨rfl, rfl⟩, hN 0 (by decide)]; rfl
    · refine hx (t + 4) 1 0 _ (by decide) (fun i hi => ?_) ?_
      · rw [u2_ne (by omega), u2_ne (by omega), u2_ne (by omega), u2_at, if_neg (by omega), u2_ne (by omega)]; exact hT.L.bgh i hi
      · rw [u2_ne (by omega), u2_ne (by omega), u2_ne (by omega), u2_at, if_pos ⟨rfl, rfl⟩, hN 1 (by decide)]; rfl
    · refine hx (t + 6) 3 0 _ (by decide) (fun i hi => ?_) ?_
      · rw [u2_ne (by omega), u2_at, if_neg (by omega), u2_ne (by omega), u2_ne (by omega), u2_ne (by omega)]; exact hT.L.sgn i hi
      · rw [u2_ne (by omega), u2_at, if_pos ⟨rfl, rfl⟩, hN 3 (by decide)]; rfl
    · refine hx (t + 7) 5 0 _ (by decide) (fun i hi => ?_) ?_
      · rw [u2_at, if_neg (by omega), u2_ne (by omega), u2_ne (by omega), u2_ne (by omega), u2_ne (by omega)]; exact hT.L.nth i hi
      · rw [u2_at, if_pos ⟨rfl, rfl⟩, hN 5 (by decide)]; rfl
    · rw [hu _ _ (by decide), grow_lo (by decide), if_neg (by decide)]; exact hT.fel
    · rw [hu _ _ (by decide), grow_lo (by decide), if_neg (by decide)]; exact hT.z
    · rw [hu _ _ (by decide)]; exact hT.tie
    · refine hx (t + 5) 2 0 _ (by decide) (fun i hi => ?_) ?_
      · rw [u2_ne (by omega), u2_ne (by omega), u2_at, if_neg (by omega), u2_ne (by omega), u2_ne (by omega)]; exact hT.hol i hi
      · rw [u2_ne (by omega), u2_ne (by omega), u2_at, if_pos ⟨rfl, rfl⟩, hN 2 (by decide)]; rfl
  · exact fun q hq => ⟨u2_ne (by unfold oT at hq; omega), by unfold oT at hq; rw [u2_ne (by omega), u2_ne (by omega), u2_ne (by omega), u2_ne (by omega), u2_ne (by omega)], rfl⟩
  · show rn xs L 32 0 [vR t, vI k, vI b, vI h, vI s] [] (mw f a g) = _
    rw [b32_0 _ _ _ _ _ ht, hc, if_pos (by rw [show (8 : Int32) = nI 8 from rfl, nn_lt (by omega) (by omega)]; exact hn), b32_10 _ _ _ _ _ ht hin' hin' hin' hin' hin', hc, hnn]
theorem isM.eq {a : Nat → Nat → Int32} {q : Nat} {S T : Row} (h : isM a q S) (e : ∀ k, k < 62 → S k = T k) : isM a q T := fun k hk => (h k hk).trans (e k hk)
theorem op_leaf {k b h s : Int32} : TOP 61 5 137 6 [vI k, vI b, vI h, vI s] := by
  intro xs L S n W
  have h8 := W.n8
  have bad : (isw 0 5 k && isw 0 5 b && isw 0 99 h && isw 0 9 s) = false → ∃ (v : ma_V) (S' : Row) (n' : Nat), WF S' n' ∧
    (∀ (f a : Nat → Nat → Int32) (g : Nat → Nat → Int64), isT 1 f a S n 0 → ∃ f1 a1, ev xs L 61 5 (vR 0 :: [vI k, vI b, vI h, vI s]) (mw f a g) = some (some v, mw f1 a1 g) ∧ isT 1 f1 a1 S' n' 0 ∧ same (fun o => o < 1 ∨ 17 ≤ o) f a g f1 a1 g) ∧
    (∀ (f a : Nat → Nat → Int32) (g : Nat → Nat → Int64), isM a 45 S → ∃ a1, ev xs L 137 6 (vR 44 :: [vI k, vI b, vI h, vI s]) (mw f a g) = some (some v, mw f a1 g) ∧ isM a1 45 S' ∧ (∀ q, q ≠ 45 → q ≠ 47 → q ≠ 48 → q ≠ 50 → a1 q = a q)) := by
    intro hb
    refine ⟨vI (-1), S, n, W, fun f a g hT => ⟨f, a, ?_, hT, same.refl⟩, fun f a g hM => ⟨a, ?_, hM, fun _ _ _ _ _ => rfl⟩⟩
    · show rn xs L 61 0 [vR 0, vI k, vI b, vI h, vI s] [] (mw f a g) = _
      by_cases h1 : isw 0 5 k = true
      · by_cases h2 : isw 0 5 b = true
        · by_cases h3 : isw 0 99 h = true
          · have h4 : isw 0 9 s = false := by rw [h1, h2, h3] at hb; simpa using hb
            simp [b61_0, b61_6, b61_9, b61_15, b61_18, b61_25, b61_28, b61_36, b61_39, b61_41, b61_53, b61_56, b61_68, e_within, h1, h2, h3, h4, bI]
          · simp [b61_0, b61_6, b61_9, b61_15, b61_18, b61_25, b61_28, b61_36, b61_39, b61_41, b61_53, b61_56, b61_68, e_within, h1, h2, h3, bI]
        · simp [b61_0, b61_6, b61_9, b61_15, b61_18, b61_25, b61_28, b61_36, b61_39, b61_41, b61_53, b61_56, b61_68, e_within, h1, h2, bI]
      · simp [b61_0, b61_6, b61_9, b61_15, b61_18, b61_25, b61_28, b61_36, b61_39, b61_41, b61_53, b61_56, b61_68, e_within, h1, bI]
    · show rn xs L 137 0 [vR 44, vI k, vI b, vI h, vI s, vS 0] [] (mw f a g) = _
      by_cases h1 : isw 0 5 k = true
      · by_cases h2 : isw 0 5 b = true
        · by_cases h3 : isw 0 99 h = true
          · have h4 : isw 0 9 s = false := by rw [h1, h2, h3] at hb; simpa using hb
            simp [b137_0, b137_9, b137_12, b137_16, b137_19, b137_28, b137_31, b137_41, b137_44, b137_46, b137_57, b137_60, m_in_0_5, m_isBough, m_in_0_99, m_in_0_9, h1, h2, h3, h4, bI]
          · simp [b137_0, b137_9, b137_12, b137_16, b137_19, b137_28, b137_31, b137_41, b137_44, b137_46, b137_57, b137_60, m_in_0_5, m_isBough, m_in_0_99, h1, h2, h3, bI]
        · simp [b137_0, b137_9, b137_12, b137_16, b137_19, b137_28, b137_31, b137_41, b137_44, b137_46, b137_57, b137_60, m_in_0_5, m_isBough, h1, h2, bI]
      · simp [b137_0, b137_9, b137_12, b137_16, b137_19, b137_28, b137_31, b137_41, b137_44, b137_46, b137_57, b137_60, m_in_0_5, h1, bI]
  by_cases h1 : isw 0 5 k = true
  rotate_left
  · exact bad (by simp [h1])
  by_cases h2 : isw 0 5 b = true
  rotate_left
  · exact bad (by simp [h2])
  by_cases h3 : isw 0 99 h = true
  rotate_left
  · exact bad (by simp [h3])
  by_cases h4 : isw 0 9 s = true
  rotate_left
  · exact bad (by simp [h4])
  by_cases h5 : n < 8
  · have WG := W.grow h5 (isw_nn 5 rfl (by decide) h1) (isw_nn 5 rfl (by decide) h2) (isw_nn 99 rfl (by decide) h3) (isw_nn 9 rfl (by decide) h4)
    refine ⟨vI (nI n), growR S n k b h s, n + 1, WG, fun f a g hT => ?_, fun f a g hM => ?_⟩
    · obtain ⟨f1, a1, e1, hT1, hs1⟩ := c_grow (xs := xs) (L := L) (g := g) (k := k) (b := b) (h := h) (s := s) tr1 h5 hT
      refine ⟨f1, a1, ?_, hT1, same_tree hs1⟩
      show rn xs L 61 0 [vR 0, vI k, vI b, vI h, vI s] [] (mw f a g) = _
      have hlt : nI n < (8 : Int32) := by rw [show (8 : Int32) = nI 8 from rfl, nn_lt (by omega) (by omega)]; exact h5
      have hc := hT.L.cnt
      have hc1 := hT1.L.cnt
      simp [b61_0, b61_6, b61_9, b61_15, b61_18, b61_25, b61_28, b61_36, b61_39, b61_41, b61_53, b61_56, b61_68, e_within, h1, h2, h3, h4, bI, hc, hlt, e1, hc1, nI_pred]
    · have hc : a 45 0 = nI n := (hM 0 (by decide)).trans W.cn
      have ix : ∀ c, c < 6 → (14 : Int32) + 6 * nI n + nI c = nI (14 + 6 * n + c) ∧ ma_in (nI (14 + 6 * n + c)) 62 = true ∧ (nI (14 + 6 * n + c)).toNatClampNeg = 14 + 6 * n + c := fun c hc => ⟨ixN, by rw [nn_in (by omega)]; simp; omega, nn_nat (by omega)⟩
      have x0 : (14 : Int32) + 6 * nI n = nI (14 + 6 * n + 0) := ix0
      have x1 := ix 1 (by decide)
      have x2 := ix 2 (by decide)
      have x3 := ix 3 (by decide)
      have x4 := ix 4 (by decide)
      have x5 := ix 5 (by decide)
      have y0 := ix 0 (by decide)
      have y1 : (14 : Int32) + 6 * nI n + 1 = nI (14 + 6 * n + 1) := x1.1
      have y2 : (14 : Int32) + 6 * nI n + 2 = nI (14 + 6 * n + 2) := x2.1
      have y3 : (14 : Int32) + 6 * nI n + 3 = nI (14 + 6 * n + 3) := x3.1
      have y4 : (14 : Int32) + 6 * nI n + 4 = nI (14 + 6 * n + 4) := x4.1
      have y5 : (14 : Int32) + 6 * nI n + 5 = nI (14 + 6 * n + 5) := x5.1
      have hne : ¬ nI n = 8 := by rw [show (8 : Int32) = nI 8 from rfl, nn_eq (by omega) (by omega)]; omega
      have hrow := b137_60 (xs := xs) (L := L) (f := f) (a := a) (g := g) k b h s (vS 0) (by rw [hc, x0]; exact y0.2.1) (by rw [hc, y1]; exact x1.2.1) (by rw [hc, y2]; exact x2.2.1) (by rw [hc, y3]; exact x3.2.1) (by rw [hc, y4]; exact x4.2.1) (by rw [hc, y5]; exact x5.2.1)
      rw [hc, y1, y2, y3, y4, y5, x0, y0.2.2, x1.2.2, x2.2.2, x3.2.2, x4.2.2, x5.2.2] at hrow
      have hz : (ma_u2 (ma_u2 (ma_u2 (ma_u2 (ma_u2 (ma_u2 a 45 (14 + 6 * n + 0) k) 45 (14 + 6 * n + 1) b) 45 (14 + 6 * n + 2) h) 45 (14 + 6 * n + 3) s) 45 (14 + 6 * n + 4) 1) 45 (14 + 6 * n + 5) 0) 45 0 = nI n := by
        rw [u2_at, if_neg (by omega), u2_at, if_neg (by omega), u2_at, if_neg (by omega), u2_at, if_neg (by omega), u2_at, if_neg (by omega), u2_at, if_neg (by omega)]
        exact hc
      rw [hz, nn_add1, u2_at, if_pos ⟨rfl, rfl⟩, nI_pred] at hrow
      refine ⟨_, ?_, (((((((hM.up (k := 14 + 6 * n + 0) (v := k)).up (k := 14 + 6 * n + 1) (v := b)).up (k := 14 + 6 * n + 2) (v := h)).up (k := 14 + 6 * n + 3) (v := s)).up (k := 14 + 6 * n + 4) (v := 1)).up (k := 14 + 6 * n + 5) (v := 0)).up (k := 0) (v := nI (n + 1))), fun q hq _ _ _ => by rw [u2_ne hq, u2_ne hq, u2_ne hq, u2_ne hq, u2_ne hq, u2_ne hq, u2_ne hq]⟩
      show rn xs L 137 0 [vR 44, vI k, vI b, vI h, vI s, vS 0] [] (mw f a g) = _
      simp [b137_0, b137_9, b137_12, b137_16, b137_19, b137_28, b137_31, b137_41, b137_44, b137_46, b137_57, m_in_0_5, m_isBough, m_in_0_99, m_in_0_9, h1, h2, h3, h4, bI, hc, hne]
      exact hrow
  · have h6 : n = 8 := by omega
    subst h6
    refine ⟨vI (-2), S, 8, W, fun f a g hT => ⟨f, a, ?_, hT, same.refl⟩, fun f a g hM => ⟨a, ?_, hM, fun _ _ _ _ _ => rfl⟩⟩
    · show rn xs L 61 0 [vR 0, vI k, vI b, vI h, vI s] [] (mw f a g) = _
      have hc : f 1 7 = 8 := hT.L.cnt
      simp [b61_0, b61_6, b61_9, b61_15, b61_18, b61_25, b61_28, b61_36, b61_39, b61_41, b61_53, b61_56, b61_68, e_within, h1, h2, h3, h4, bI, hc]
    · show rn xs L 137 0 [vR 44, vI k, vI b, vI h, vI s, vS 0] [] (mw f a g) = _
      have hc : a 45 0 = 8 := (hM 0 (by decide)).trans W.cn
      simp [b137_0, b137_9, b137_12, b137_16, b137_19, b137_28, b137_31, b137_41, b137_44, b137_46, b137_57, m_in_0_5, m_isBough, m_in_0_99, m_in_0_9, h1, h2, h3, h4, bI, hc]
