/-! ===== one number of a row set: both sides ===== -/
theorem WF.lo {S : Row} {n k : Nat} {v : Int32} (W : WF S n) (hk : k < 14) (h0 : k ≠ 0) (h3 : k ≠ 3) (hl : 4 ≤ k → k < 7 → ∃ u, u ≤ 9 ∧ v = nI u) (hg : k = 7 → ∃ u, u ≤ 99 ∧ v = nI u) : WF (up1 S k v) n := by
  have hf : ∀ i c, lf (up1 S k v) i c = lf S i c := fun i c => lf_up1_lo hk
  refine W.of ?_ ?_ (fun i _ => hf _ _) (fun i _ => hf _ _) (fun j hj => ?_) ?_ (fun i hi => ?_) (fun i hi => ?_) (fun i hi => ?_) (fun i hi => ?_)
  · rw [up1_at, if_neg (fun q => h0 q.symm)]
  · rw [up1_at, if_neg (fun q => h3 q.symm)]
  · rw [up1_at]
    by_cases e : 4 + j = k
    · rw [if_pos e]; exact hl (by omega) (by omega)
    · rw [if_neg e]; exact W.law j hj
  · rw [up1_at]
    by_cases e : 7 = k
    · rw [if_pos e]; exact hg e.symm
    · rw [if_neg e]; exact W.gale
  · rw [hf]; exact W.knd i hi
  · rw [hf]; exact W.bgh i hi
  · rw [hf]; exact W.hol i hi
  · rw [hf]; exact W.sgn i hi
/-- the greatest value of a leaf's part -/
def mxO (c : Nat) : Nat := if c = 0 then 5 else if c = 1 then 5 else if c = 2 then 99 else 9
theorem WF.hi {S : Row} {n o c u : Nat} {v : Int32} (W : WF S n) (hc : c < 4) (hu : u ≤ mxO c) (hv : v = nI u) : WF (up1 S (14 + 6 * o + c) v) n := by
  have hl : ∀ k, k < 14 → up1 S (14 + 6 * o + c) v k = S k := fun k hk => up1_lo hk
  have hf : ∀ i d, d < 6 → lf (up1 S (14 + 6 * o + c) v) i d = if i = o ∧ d = c then v else lf S i d := fun i d hd => lf_up1 (by omega) hd
  have h45 : ∀ i d, d = 4 ∨ d = 5 → lf (up1 S (14 + 6 * o + c) v) i d = lf S i d := fun i d hd => by rw [hf _ _ (by omega), if_neg (by omega)]
  have hx : ∀ d m, d < 4 → mxO d = m → (∀ i, i < n → ∃ v, v ≤ m ∧ lf S i d = nI v) → ∀ i, i < n → ∃ u, u ≤ m ∧ lf (up1 S (14 + 6 * o + c) v) i d = nI u := by
    intro d m hd hm h i hi
    rw [hf _ _ (by omega)]
    by_cases e : i = o ∧ d = c
    · rw [if_pos e]
      obtain ⟨_, rfl⟩ := e
      exact ⟨u, by omega, hv⟩
    · rw [if_neg e]
      exact h i hi
  refine W.of (hl _ (by decide)) (hl _ (by decide)) (fun i _ => h45 _ _ (by decide)) (fun i _ => h45 _ _ (by decide)) (fun j hj => ?_) ?_ (hx 0 5 (by decide) rfl W.knd) (hx 1 5 (by decide) rfl W.bgh) (hx 2 99 (by decide) rfl W.hol) (hx 3 9 (by decide) rfl W.sgn)
  · rw [hl _ (by omega)]; exact W.law j hj
  · rw [hl _ (by omega)]; exact W.gale
section S50
variable {f a : Nat → Nat → Int32} {S : Row} {n t : Nat} {ti v : Int32}
theorem c_setLaw {k : Nat} (hT : isT t f a S n ti) (hk : k < 4) : isT t f (ma_u2 a (t + 1) k v) (up1 S (4 + k) v) n ti := by
  have hu : ∀ q i, q ≠ t + 1 → ma_u2 a (t + 1) k v q i = a q i := fun q i hq => by rw [u2_ne hq]
  refine isT.mk (isL.mk hT.L.cnt ?_ (fun j hj => ?_) (fun j hj => ?_) (fun j hj => ?_) (fun j hj => ?_) (fun j hj => ?_) (fun j hj => ?_)) ?_ ?_ hT.tie (fun j hj => ?_)
  · rw [up1_at, if_neg (by omega)]; exact hT.L.day
  · rw [u2_at, up1_at]
    by_cases e : j = k
    · rw [if_pos ⟨rfl, e⟩, if_pos (by omega)]
    · rw [if_neg (fun x => e x.2), if_neg (by omega)]; exact hT.L.law j hj
  · rw [hu _ _ (by omega), up1_at, if_neg (by omega)]; exact hT.L.swy j hj
  · rw [hu _ _ (by omega), lf_up1_lo (by omega)]; exact hT.L.knd j hj
  · rw [hu _ _ (by omega), lf_up1_lo (by omega)]; exact hT.L.bgh j hj
  · rw [hu _ _ (by omega), lf_up1_lo (by omega)]; exact hT.L.sgn j hj
  · rw [hu _ _ (by omega), lf_up1_lo (by omega)]; exact hT.L.nth j hj
  · rw [up1_at, if_neg (by omega)]; exact hT.fel
  · rw [up1_at, if_neg (by omega)]; exact hT.z
  · rw [hu _ _ (by omega), lf_up1_lo (by omega)]; exact hT.hol j hj
theorem c_setSway {k : Nat} (hT : isT t f a S n ti) (hk : k < 6) : isT t f (ma_u2 a (t + 2) k v) (up1 S (8 + k) v) n ti := by
  have hu : ∀ q i, q ≠ t + 2 → ma_u2 a (t + 2) k v q i = a q i := fun q i hq => by rw [u2_ne hq]
  refine isT.mk (isL.mk hT.L.cnt ?_ (fun j hj => ?_) (fun j hj => ?_) (fun j hj => ?_) (fun j hj => ?_) (fun j hj => ?_) (fun j hj => ?_)) ?_ ?_ hT.tie (fun j hj => ?_)
  · rw [up1_at, if_neg (by omega)]; exact hT.L.day
  · rw [hu _ _ (by omega), up1_at, if_neg (by omega)]; exact hT.L.law j hj
  · rw [u2_at, up1_at]
    by_cases e : j = k
    · rw [if_pos ⟨rfl, e⟩, if_pos (by omega)]
    · rw [if_neg (fun x => e x.2), if_neg (by omega)]; exact hT.L.swy j hj
  · rw [hu _ _ (by omega), lf_up1_lo (by omega)]; exact hT.L.knd j hj
  · rw [hu _ _ (by omega), lf_up1_lo (by omega)]; exact hT.L.bgh j hj
  · rw [hu _ _ (by omega), lf_up1_lo (by omega)]; exact hT.L.sgn j hj
  · rw [hu _ _ (by omega), lf_up1_lo (by omega)]; exact hT.L.nth j hj
  · rw [up1_at, if_neg (by omega)]; exact hT.fel
  · rw [up1_at, if_neg (by omega)]; exact hT.z
  · rw [hu _ _ (by omega), lf_up1_lo (by omega)]; exact hT.hol j hj
theorem c_setZ (hT : isT t f a S n ti) : isT t (ma_u2 f t 10 v) a (up1 S 2 v) n ti := by
  have hu : ∀ k, k ≠ 10 → ma_u2 f t 10 v t k = f t k := fun k hk => by rw [u2_at, if_neg (fun q => hk q.2)]
  have hk2 : ∀ k, k ≠ 2 → up1 S 2 v k = S k := fun k hk => by rw [up1_at, if_neg hk]
  refine isT.mk (isL.mk ?_ ?_ (fun k hk => ?_) (fun k hk => ?_) (fun k hk => ?_) (fun k hk => ?_) (fun k hk => ?_) (fun k hk => ?_)) ?_ ?_ ?_ (fun k hk => ?_)
  · rw [hu _ (by decide)]; exact hT.L.cnt
  · rw [hu _ (by decide), hk2 _ (by decide)]; exact hT.L.day
  · rw [hk2 _ (by omega)]; exact hT.L.law k hk
  · rw [hk2 _ (by omega)]; exact hT.L.swy k hk
  · rw [lf_up1_lo (by decide)]; exact hT.L.knd k hk
  · rw [lf_up1_lo (by decide)]; exact hT.L.bgh k hk
  · rw [lf_up1_lo (by decide)]; exact hT.L.sgn k hk
  · rw [lf_up1_lo (by decide)]; exact hT.L.nth k hk
  · rw [hu _ (by decide), hk2 _ (by decide)]; exact hT.fel
  · rw [u2_at, if_pos ⟨rfl, rfl⟩, up1_at, if_pos rfl]
  · rw [hu _ (by decide)]; exact hT.tie
  · rw [lf_up1_lo (by decide)]; exact hT.hol k hk
/-- kinds, boughs, holds, signs of the tree are at 3, 4, 5, 6 -/
theorem c_setLf {o c : Nat} (hT : isT t f a S n ti) (hc : c < 4) : isT t f (ma_u2 a (t + 3 + c) o v) (up1 S (14 + 6 * o + c) v) n ti := by
  have hk : ∀ d, d < 4 → (∀ i, i < n → a (t + 3 + d) i = lf S i d) → ∀ i, i < n → ma_u2 a (t + 3 + c) o v (t + 3 + d) i = lf (up1 S (14 + 6 * o + c) v) i d := by
    intro d hd h i hi
    rw [u2_at, lf_up1 (by omega) (by omega)]
    by_cases e : i = o ∧ d = c
    · rw [if_pos e, if_pos ⟨by omega, e.1⟩]
    · rw [if_neg e, if_neg (fun q => e ⟨q.2, by omega⟩)]
      exact h i hi
  refine isT.mk (isL.mk hT.L.cnt ?_ (fun j hj => ?_) (fun j hj => ?_) (hk 0 (by decide) hT.L.knd) (hk 1 (by decide) hT.L.bgh) (hk 3 (by decide) hT.L.sgn) (fun j hj => ?_)) ?_ ?_ hT.tie (hk 2 (by decide) hT.hol)
  · rw [up1_lo (by decide)]; exact hT.L.day
  · rw [u2_ne (by omega), up1_lo (by omega)]; exact hT.L.law j hj
  · rw [u2_ne (by omega), up1_lo (by omega)]; exact hT.L.swy j hj
  · rw [u2_ne (by omega), lf_up1 (by omega) (by omega), if_neg (by omega)]; exact hT.L.nth j hj
  · rw [up1_lo (by decide)]; exact hT.fel
  · rw [up1_lo (by decide)]; exact hT.z
end S50
