/-! ===== a day over a row: pure ===== -/
theorem lf_up1 {S : Row} {o c i d : Nat} {v : Int32} (hc : c < 6) (hd : d < 6) : lf (up1 S (14 + 6 * o + c) v) i d = if i = o ∧ d = c then v else lf S i d := by
  unfold lf
  rw [up1_at]
  by_cases h : i = o ∧ d = c
  · obtain ⟨rfl, rfl⟩ := h
    simp
  · rw [if_neg h, if_neg (by omega)]
theorem lf_up1_lo {S : Row} {k i d : Nat} {v : Int32} (hk : k < 14) : lf (up1 S k v) i d = lf S i d := by
  unfold lf
  rw [up1_at, if_neg (by omega)]
theorem up1_lo {S : Row} {o c k : Nat} {v : Int32} (hk : k < 14) : up1 S (14 + 6 * o + c) v k = S k := by
  rw [up1_at, if_neg (by omega)]
theorem clp_in (v : Int32) : ∃ k, k ≤ 99 ∧ clp v = nI k := by
  unfold clp
  by_cases h : v < 0
  · rw [if_pos h]; exact ⟨0, by omega, rfl⟩
  · rw [if_neg h]
    by_cases h2 : 99 < v
    · rw [if_pos h2]; exact ⟨99, by omega, rfl⟩
    · rw [if_neg h2]
      refine ⟨_, ?_, nn_of h⟩
      rw [nn_of h, show (99 : Int32) = nI 99 from rfl, nn_lt (by decide) clamp_lt] at h2
      omega
theorem lost_lo {S : Row} {n : Nat} {ti : Int32} {k : Nat} (hk : k < 14) : ∀ m, lostS S n ti m k = S k
  | 0 => rfl
  | m + 1 => by
    unfold lostS
    rw [up1_lo hk, lost_lo hk m]
theorem lost_lf {S : Row} {n : Nat} {ti : Int32} {i c : Nat} (hc : c < 6) : ∀ m, lf (lostS S n ti m) i c = if c = 2 ∧ i < m then hld S n ti i else lf S i c
  | 0 => by simp [lostS]
  | m + 1 => by
    unfold lostS
    rw [lf_up1 (by decide) hc, lost_lf hc m]
    by_cases h : c = 2
    · by_cases h2 : i = m
      · subst h2; simp [h]
      · by_cases h3 : i < m
        · have : i < m + 1 := by omega
          simp [h, h2, h3, this]
        · have : ¬ i < m + 1 := by omega
          simp [h, h2, h3, this]
    · simp [h]
theorem WF.of {S S' : Row} {n : Nat} (W : WF S n) (h0 : S' 0 = S 0) (h3 : S' 3 = S 3) (h4 : ∀ i, i < n → lf S' i 4 = lf S i 4) (h5 : ∀ i, i < n → lf S' i 5 = lf S i 5)
    (law : ∀ k, k < 3 → ∃ v, v ≤ 9 ∧ S' (4 + k) = nI v) (gale : ∃ v, v ≤ 99 ∧ S' 7 = nI v) (knd : ∀ i, i < n → ∃ v, v ≤ 5 ∧ lf S' i 0 = nI v) (bgh : ∀ i, i < n → ∃ v, v ≤ 5 ∧ lf S' i 1 = nI v) (hol : ∀ i, i < n → ∃ v, v ≤ 99 ∧ lf S' i 2 = nI v) (sgn : ∀ i, i < n → ∃ v, v ≤ 9 ∧ lf S' i 3 = nI v) : WF S' n := by
  have hc : ct (hg S') n = ct (hg S) n := ct_congr (fun j hj => by unfold hg; rw [h4 j hj])
  refine WF.mk W.n8 (h0.trans W.cn) law gale knd bgh hol sgn (fun i hi => ?_) ?_ (fun i hi => ?_) (fun i j hi hj => ?_) (fun k hk => ?_)
  · rw [h4 i hi, h5 i hi]; exact W.hgs i hi
  · rw [h3, hc]; exact W.fel
  · rw [h5 i hi, hc]; exact W.nth i hi
  · rw [h5 i hi, h5 j hj]; exact W.one i j hi hj
  · rw [hc] at hk
    obtain ⟨i, hi, h⟩ := W.all k hk
    exact ⟨i, hi, (h5 i hi).trans h⟩
theorem ct_le {p : Nat → Bool} : ∀ n, ct p n ≤ n
  | 0 => Nat.le_refl 0
  | n + 1 => by
    have := ct_le (p := p) n
    unfold ct
    split <;> omega
theorem ct_drop {p q : Nat → Bool} {o : Nat} (hp : p o = true) (hq : q o = false) (h : ∀ i, i ≠ o → q i = p i) : ∀ n, ct q n + (if o < n then 1 else 0) = ct p n
  | 0 => rfl
  | n + 1 => by
    have ih := ct_drop hp hq h n
    show ct q n + (if q n then 1 else 0) + (if o < n + 1 then 1 else 0) = ct p n + (if p n then 1 else 0)
    by_cases ho : n = o
    · subst ho
      rw [if_neg (Nat.lt_irrefl n)] at ih
      rw [hp, hq, if_pos (Nat.lt_succ_self n), if_pos rfl, if_neg (by decide)]
      omega
    · rw [h n ho]
      by_cases h2 : o < n
      · rw [if_pos h2] at ih
        rw [if_pos (show o < n + 1 by omega)]
        omega
      · rw [if_neg h2] at ih
        rw [if_neg (show ¬ o < n + 1 by omega)]
        omega
theorem fell_lf {S : Row} {o i c : Nat} (hc : c < 6) : lf (fellS S o) i c = if i = o ∧ c = 5 then S 3 + 1 else if i = o ∧ c = 4 then 0 else lf S i c := by
  unfold fellS
  rw [lf_up1 (by decide) hc, lf_up1 (by decide) hc, lf_up1_lo (by decide)]
theorem fell_lo {S : Row} {o k : Nat} (hk : k < 14) : fellS S o k = if k = 3 then S 3 + 1 else S k := by
  unfold fellS
  rw [up1_lo hk, up1_lo hk, up1_at]
theorem WF.fell {S : Row} {n o : Nat} (W : WF S n) (ho : o < n) (hh : hg S o = true) : WF (fellS S o) n := by
  have h8 := W.n8
  obtain ⟨d, hd, hcd⟩ := W.fel
  have hf : ∀ i c, c < 4 → lf (fellS S o) i c = lf S i c := fun i c hc => by
    rw [fell_lf (by omega), if_neg (by omega), if_neg (by omega)]
  have h4 : ∀ i, lf (fellS S o) i 4 = if i = o then 0 else lf S i 4 := fun i => by
    rw [fell_lf (by decide)]
    simp
  have h5 : ∀ i, lf (fellS S o) i 5 = if i = o then nI (d + 1) else lf S i 5 := fun i => by
    rw [fell_lf (by decide), hd, nn_add1]
    simp
  have hq : hg (fellS S o) o = false := by
    unfold hg
    rw [h4, if_pos rfl]
    decide
  have hct := ct_drop hh hq (fun i hi => by unfold hg; rw [h4, if_neg hi]) n
  rw [if_pos ho] at hct
  have h05 : lf S o 5 = 0 := by
    have := W.hg_iff ho
    rw [hh] at this
    simpa using this.symm
  refine WF.mk h8 ?_ (fun k hk => ?_) ?_ (fun i hi => ?_) (fun i hi => ?_) (fun i hi => ?_) (fun i hi => ?_) (fun i hi => ?_) ⟨d + 1, ?_, by omega⟩ (fun i hi => ?_) (fun i j hi hj => ?_) (fun k hk => ?_)
  · rw [fell_lo (by decide)]; exact W.cn
  · rw [fell_lo (by omega), if_neg (by omega)]; exact W.law k hk
  · rw [fell_lo (by omega), if_neg (by omega)]; exact W.gale
  · rw [hf _ _ (by decide)]; exact W.knd i hi
  · rw [hf _ _ (by decide)]; exact W.bgh i hi
  · rw [hf _ _ (by decide)]; exact W.hol i hi
  · rw [hf _ _ (by decide)]; exact W.sgn i hi
  · rw [h4, h5]
    by_cases h : i = o
    · rw [if_pos h, if_pos h, if_neg (nI_ne0 (by omega) (by omega))]
    · rw [if_neg h, if_neg h]
      exact W.hgs i hi
  · rw [fell_lo (by decide), if_pos rfl, hd, nn_add1]
  · rw [h5]
    by_cases h : i = o
    · rw [if_pos h]
      exact ⟨d + 1, rfl, by omega⟩
    · rw [if_neg h]
      obtain ⟨x, hx, hx2⟩ := W.nth i hi
      exact ⟨x, hx, by omega⟩
  · rw [h5, h5]
    intro he
    by_cases h : i = o
    · by_cases h2 : j = o
      · exact Or.inr (h.trans h2.symm)
      · rw [if_pos h, if_neg h2] at he
        obtain ⟨x, hx, hx2⟩ := W.nth j hj
        rw [hx, nn_eq (by omega) (by omega)] at he
        omega
    · rw [if_neg h] at he ⊢
      by_cases h2 : j = o
      · rw [if_pos h2] at he
        obtain ⟨x, hx, hx2⟩ := W.nth i hi
        rw [hx, nn_eq (by omega) (by omega)] at he
        omega
      · rw [if_neg h2] at he
        exact W.one i j hi hj he
  · by_cases h : k = d
    · exact ⟨o, ho, by rw [h5, if_pos rfl, h]⟩
    · obtain ⟨i, hi, hx⟩ := W.all k (by omega)
      refine ⟨i, hi, ?_⟩
      rw [h5, if_neg, hx]
      intro q
      subst q
      rw [h05] at hx
      exact nI_ne0 (n := k + 1) (by omega) (by omega) hx.symm
theorem bst_in {S : Row} {n : Nat} {ti : Int32} {b : Nat} : ∀ m, bst S n ti m = some b → b < m ∧ hg S b = true
  | 0, h => by cases h
  | m + 1, h => by
    unfold bst at h
    by_cases hc : (hg S m && decide (hld S n ti m = 0) && !td ti m) = true
    · rw [if_pos hc] at h
      have hm : hg S m = true := by
        rw [Bool.and_eq_true, Bool.and_eq_true] at hc
        exact hc.1.1
      cases e : bst S n ti m with
      | none =>
        rw [e] at h
        have e2 := Option.some.inj h
        exact ⟨by omega, e2 ▸ hm⟩
      | some b0 =>
        rw [e] at h
        have ih := bst_in m e
        dsimp only at h
        by_cases hr : rankR S b0 < rankR S m
        · rw [if_pos hr] at h
          have e2 := Option.some.inj h
          exact ⟨by omega, e2 ▸ hm⟩
        · rw [if_neg hr] at h
          have e2 := Option.some.inj h
          exact ⟨by omega, e2 ▸ ih.2⟩
    · rw [if_neg hc] at h
      have := bst_in m h
      exact ⟨by omega, this.2⟩
theorem hld_in {S : Row} {n : Nat} {ti : Int32} {i : Nat} (W : WF S n) (hi : i < n) : ∃ v, v ≤ 99 ∧ hld S n ti i = nI v := by
  unfold hld
  split
  · exact W.hol i hi
  · exact clp_in _
theorem WF.lost {S : Row} {n : Nat} {ti : Int32} (W : WF S n) (m : Nat) : WF (lostS S n ti m) n := by
  have hf : ∀ i c, c < 6 → c ≠ 2 → lf (lostS S n ti m) i c = lf S i c := fun i c hc h2 => by
    rw [lost_lf hc, if_neg (by omega)]
  refine W.of (lost_lo (by decide) m) (lost_lo (by decide) m) (fun i _ => hf i 4 (by decide) (by decide)) (fun i _ => hf i 5 (by decide) (by decide)) (fun k hk => ?_) ?_ (fun i hi => ?_) (fun i hi => ?_) (fun i hi => ?_) (fun i hi => ?_)
  · rw [lost_lo (by omega)]; exact W.law k hk
  · rw [lost_lo (by omega)]; exact W.gale
  · rw [hf _ _ (by decide) (by decide)]; exact W.knd i hi
  · rw [hf _ _ (by decide) (by decide)]; exact W.bgh i hi
  · rw [lost_lf (by decide)]
    by_cases h : i < m
    · rw [if_pos ⟨rfl, h⟩]; exact hld_in W hi
    · rw [if_neg (fun q => h q.2)]; exact W.hol i hi
  · rw [hf _ _ (by decide) (by decide)]; exact W.sgn i hi
theorem WF.day1 {S : Row} {n : Nat} {v : Int32} (W : WF S n) : WF (up1 S 1 v) n := by
  have hf : ∀ i c, lf (up1 S 1 v) i c = lf S i c := fun i c => lf_up1_lo (by decide)
  refine W.of rfl rfl (fun i _ => hf _ _) (fun i _ => hf _ _) (fun k hk => ?_) ?_ (fun i hi => ?_) (fun i hi => ?_) (fun i hi => ?_) (fun i hi => ?_)
  · rw [up1_at, if_neg (by omega)]; exact W.law k hk
  · rw [up1_at, if_neg (by omega)]; exact W.gale
  · rw [hf]; exact W.knd i hi
  · rw [hf]; exact W.bgh i hi
  · rw [hf]; exact W.hol i hi
  · rw [hf]; exact W.sgn i hi
theorem hg_lost {S : Row} {n : Nat} {ti : Int32} {m i : Nat} : hg (lostS S n ti m) i = hg S i := by
  unfold hg
  rw [lost_lf (by decide), if_neg (by omega)]
theorem WF.pass {S : Row} {n : Nat} {ti : Int32} (W : WF S n) : WF (passS S n ti) n := by
  unfold passS
  refine WF.day1 ?_
  cases e : bst S n ti n with
  | none => exact W.lost n
  | some b =>
    have := bst_in n e
    exact (W.lost n).fell this.1 (hg_lost.trans this.2)
