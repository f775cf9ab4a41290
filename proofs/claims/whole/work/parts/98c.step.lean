/-! ===== what kind of value a method answers; one case of the law ===== -/
theorem ma_ret_int {k : Nat} {st : List ma_V} {v : Option ma_V} (h : ma_ret k (some .int) st = some v) : ∃ x, v = some (vI x) := by
  unfold ma_ret at h
  split at h
  · rw [if_neg (fun e => by cases e)] at h; cases h
  · next x => exact ⟨x, (Option.some.inj h).symm⟩
  · rw [if_neg (fun e => by cases e)] at h; cases h
  · rw [if_neg (fun e => by cases e.1)] at h; cases h
  · cases h
theorem ma_ret_long {k : Nat} {st : List ma_V} {v : Option ma_V} (h : ma_ret k (some .long) st = some v) : ∃ x, v = some (vL x) := by
  unfold ma_ret at h
  split at h
  · rw [if_neg (fun e => by cases e)] at h; cases h
  · cases h
  · next x => rw [if_pos rfl] at h; exact ⟨x, (Option.some.inj h).symm⟩
  · rw [if_neg (fun e => by cases e.1)] at h; cases h
  · cases h
theorem run_kind {xs : Nat → Int32} {L m : Nat} {t : ma_M} (P : Option ma_V → Prop) (ht : ma_mts m = some t) (hP : ∀ k st v, ma_ret k t.2.2.2.1 st = some v → P v) : ∀ (n pc : Nat) (ls st : List ma_V) (w : ma_W) (r : Option ma_V × ma_W), ma_run xs L n m pc ls st w = some r → P r.1
  | 0, pc, ls, st, w, r, h => by cases h
  | n + 1, pc, ls, st, w, r, h => by
    unfold ma_run at h
    rw [ht] at h
    dsimp only at h
    split at h
    · cases h
    · split at h
      · cases h
      · exact run_kind P ht hP n _ _ _ _ _ h
    · split at h
      · cases h
      · split at h
        · cases h
        · exact run_kind P ht hP n _ _ _ _ _ h
    · split at h
      · cases h
      · next hv =>
        have := Option.some.inj h
        subst this
        exact hP _ _ _ hv
theorem ev_int {xs : Nat → Int32} {L m nL : Nat} {as : List ma_V} {w w' : ma_W} {v : ma_V} {t : ma_M} (ht : ma_mts m = some t) (hr : t.2.2.2.1 = some .int) (h : ev xs L m nL as w = some (some v, w')) : ∃ x, v = vI x := by
  obtain ⟨n, hn⟩ := rn_to h
  obtain ⟨x, hx⟩ := run_kind (fun v => ∃ x, v = some (vI x)) ht (fun k st v hv => ma_ret_int (by rw [hr] at hv; exact hv)) n _ _ _ _ _ hn
  exact ⟨x, Option.some.inj hx⟩
theorem ev_long {xs : Nat → Int32} {L m nL : Nat} {as : List ma_V} {w w' : ma_W} {v : ma_V} {t : ma_M} (ht : ma_mts m = some t) (hr : t.2.2.2.1 = some .long) (h : ev xs L m nL as w = some (some v, w')) : ∃ x, v = vL x := by
  obtain ⟨n, hn⟩ := rn_to h
  obtain ⟨x, hx⟩ := run_kind (fun v => ∃ x, v = some (vL x)) ht (fun k st v hv => ma_ret_long (by rw [hr] at hv; exact hv)) n _ _ _ _ _ hn
  exact ⟨x, Option.some.inj hx⟩
/-- what one step of the script comes to -/
def STEP (xs : Nat → Int32) (L p0 : Nat) (i : Int32) (f a : Nat → Nat → Int32) (g : Nat → Nat → Int64) : Prop := ∃ (f' a' : Nat → Nat → Int32) (g' : Nat → Nat → Int64), rn xs L 233 p0 [vS 1, vR 0, vR 44, vI i] [] (mw f a g) = rn xs L 233 18 [vS 1, vR 0, vR 44, vI (i + (5 : Int32))] [] (mw f' a' g') ∧ ST f' a' g'
section S98C
variable {xs : Nat → Int32} {L : Nat} {f a : Nat → Nat → Int32} {g : Nat → Nat → Int64} {i : Int32} {mc nc mm nm p0 p1 p2 pz : Nat} {as : List ma_V} {t : ma_M}
theorem law_step (hop : OPS mc nc mm nm as) (ht : ma_mts mc = some t) (hr : t.2.2.2.1 = some .int) (hs : ST f a g)
    (e0 : ∀ (f a : Nat → Nat → Int32) (g : Nat → Nat → Int64), rn xs L 233 p0 [vS 1, vR 0, vR 44, vI i] [] (mw f a g) = (ev xs L mc nc (vR 0 :: as) (mw f a g)).bind (fun b => rn xs L 233 p1 [vS 1, vR 0, vR 44, vI i] (b.1.toList ++ []) b.2))
    (e1 : ∀ (s0 : Int32) (f a : Nat → Nat → Int32) (g : Nat → Nat → Int64), rn xs L 233 p1 [vS 1, vR 0, vR 44, vI i] [vI s0] (mw f a g) = (ev xs L mm nm (vR 44 :: as) (mw f a g)).bind (fun b => rn xs L 233 p2 [vS 1, vR 0, vR 44, vI i] (b.1.toList ++ [vI s0]) b.2))
    (e2 : ∀ (s0 s1 : Int32) (f a : Nat → Nat → Int32) (g : Nat → Nat → Int64), rn xs L 233 p2 [vS 1, vR 0, vR 44, vI i] [vI s0, vI s1] (mw f a g) = if s1 = s0 then rn xs L 233 1605 [vS 1, vR 0, vR 44, vI i] [] (mw f a g) else rn xs L 233 pz [vS 1, vR 0, vR 44, vI i] [] (mw f a g)) : STEP xs L p0 i f a g := by
  obtain ⟨v, f1, a1, g1, f2, a2, g2, c1, c2, hs2⟩ := hop xs L f a g hs
  obtain ⟨x, rfl⟩ := ev_int ht hr c1
  refine ⟨f2, a2, g2, ?_, hs2⟩
  rw [e0, c1]
  simp only [Option.bind_some, Option.toList_some, List.cons_append, List.nil_append]
  rw [e1, c2]
  simp only [Option.bind_some, Option.toList_some, List.cons_append, List.nil_append]
  rw [e2, if_pos rfl, b233_1605]
theorem law_stepL (hop : OPS mc nc mm nm as) (ht : ma_mts mc = some t) (hr : t.2.2.2.1 = some .long) (hs : ST f a g)
    (e0 : ∀ (f a : Nat → Nat → Int32) (g : Nat → Nat → Int64), rn xs L 233 p0 [vS 1, vR 0, vR 44, vI i] [] (mw f a g) = (ev xs L mc nc (vR 0 :: as) (mw f a g)).bind (fun b => rn xs L 233 p1 [vS 1, vR 0, vR 44, vI i] (b.1.toList ++ []) b.2))
    (e1 : ∀ (s0 : Int64) (f a : Nat → Nat → Int32) (g : Nat → Nat → Int64), rn xs L 233 p1 [vS 1, vR 0, vR 44, vI i] [vL s0] (mw f a g) = (ev xs L mm nm (vR 44 :: as) (mw f a g)).bind (fun b => rn xs L 233 p2 [vS 1, vR 0, vR 44, vI i] (b.1.toList ++ [vL s0]) b.2))
    (e2 : ∀ (s0 s1 : Int64) (f a : Nat → Nat → Int32) (g : Nat → Nat → Int64), rn xs L 233 p2 [vS 1, vR 0, vR 44, vI i] [vL s0, vL s1] (mw f a g) = if lg_cmp s1 s0 = 0 then rn xs L 233 1605 [vS 1, vR 0, vR 44, vI i] [] (mw f a g) else rn xs L 233 pz [vS 1, vR 0, vR 44, vI i] [] (mw f a g)) : STEP xs L p0 i f a g := by
  obtain ⟨v, f1, a1, g1, f2, a2, g2, c1, c2, hs2⟩ := hop xs L f a g hs
  obtain ⟨x, rfl⟩ := ev_long ht hr c1
  have hc : lg_cmp x x = 0 := by
    unfold lg_cmp
    simp
  refine ⟨f2, a2, g2, ?_, hs2⟩
  rw [e0, c1]
  simp only [Option.bind_some, Option.toList_some, List.cons_append, List.nil_append]
  rw [e1, c2]
  simp only [Option.bind_some, Option.toList_some, List.cons_append, List.nil_append]
  rw [e2, if_pos hc, b233_1605]
end S98C
