/-! ===== runs without fuel, and rows for them ===== -/
theorem ma_run_up {xs : Nat → Int32} {L : Nat} : ∀ (n m pc : Nat) (ls st : List ma_V) (w : ma_W) (r : Option ma_V × ma_W), ma_run xs L n m pc ls st w = some r → ma_run xs L (n + 1) m pc ls st w = some r
  | 0, m, pc, ls, st, w, r, h => by cases h
  | n + 1, m, pc, ls, st, w, r, h => by
    have ih := ma_run_up (xs := xs) (L := L) n
    unfold ma_run at h ⊢
    split at h
    · cases h
    · next t ht =>
      try rw [ht]
      try dsimp only
      split at h
      · cases h
      · next f hf =>
        try rw [hf]
        try dsimp only
        split at h
        · cases h
        · next c hc =>
          try rw [hc]
          exact ih _ _ _ _ _ _ h
      · next q hq =>
        try rw [hq]
        try dsimp only
        split at h
        · cases h
        · next r0 hr =>
          try rw [hr]
          try dsimp only
          split at h
          · cases h
          · next b hb =>
            try rw [ih _ _ _ _ _ _ hb]
            exact ih _ _ _ _ _ _ h
      · next k hk =>
        try rw [hk]
        try dsimp only
        split at h
        · cases h
        · next v hv =>
          try rw [hv]
          exact h
theorem ma_run_le {xs : Nat → Int32} {L : Nat} {n k m pc : Nat} {ls st : List ma_V} {w : ma_W} {r : Option ma_V × ma_W} (hk : n ≤ k) (h : ma_run xs L n m pc ls st w = some r) : ma_run xs L k m pc ls st w = some r := by
  induction hk with
  | refl => exact h
  | step _ ih => exact ma_run_up _ _ _ _ _ _ _ ih
theorem ma_run_det {xs : Nat → Int32} {L : Nat} {n k m pc : Nat} {ls st : List ma_V} {w : ma_W} {r r2 : Option ma_V × ma_W} (h : ma_run xs L n m pc ls st w = some r) (h2 : ma_run xs L k m pc ls st w = some r2) : r = r2 := by
  have a := ma_run_le (Nat.le_max_left n k) h
  have b := ma_run_le (Nat.le_max_right n k) h2
  exact Option.some.inj (a.symm.trans b)
/-- where a run comes to -/
noncomputable def rn (xs : Nat → Int32) (L m pc : Nat) (ls st : List ma_V) (w : ma_W) : Option (Option ma_V × ma_W) :=
  @dite _ (∃ r, ∃ n, ma_run xs L n m pc ls st w = some r) (Classical.propDecidable _) (fun h => some (Classical.choose h)) (fun _ => none)
section RN
variable {xs : Nat → Int32} {L m pc : Nat} {ls st : List ma_V} {w : ma_W}
theorem rn_of {n : Nat} {r : Option ma_V × ma_W} (h : ma_run xs L n m pc ls st w = some r) : rn xs L m pc ls st w = some r := by
  unfold rn
  have hx : ∃ r, ∃ n, ma_run xs L n m pc ls st w = some r := ⟨r, n, h⟩
  rw [dif_pos hx]
  obtain ⟨k, hk⟩ := Classical.choose_spec hx
  rw [ma_run_det h hk]
theorem rn_to {r : Option ma_V × ma_W} (h : rn xs L m pc ls st w = some r) : ∃ n, ma_run xs L n m pc ls st w = some r := by
  unfold rn at h
  by_cases hx : ∃ r, ∃ n, ma_run xs L n m pc ls st w = some r
  · rw [dif_pos hx] at h
    cases h
    exact Classical.choose_spec hx
  · rw [dif_neg hx] at h
    cases h
theorem rn_ext {m2 pc2 : Nat} {ls2 st2 : List ma_V} {w2 : ma_W} (h : ∀ r, (∃ n, ma_run xs L n m pc ls st w = some r) ↔ (∃ n, ma_run xs L n m2 pc2 ls2 st2 w2 = some r)) : rn xs L m pc ls st w = rn xs L m2 pc2 ls2 st2 w2 := by
  cases e : rn xs L m2 pc2 ls2 st2 w2 with
  | some r =>
    obtain ⟨n, hn⟩ := (h r).mpr (rn_to e)
    exact rn_of hn
  | none =>
    cases e1 : rn xs L m pc ls st w with
    | none => rfl
    | some r =>
      obtain ⟨n, hn⟩ := (h r).mp (rn_to e1)
      rw [rn_of hn] at e
      cases e
theorem pg_of {t : ma_M} {ins : Instr} {len : Nat} {i : ma_I} (ht : ma_mts m = some t) (hd : decode t.2.1 pc = .ok (ins, len)) (hs : ma_sem xs L t.1 t.2.2.2.2.2.1 (t.2.2.2.2.1.name == "<init>") pc ins len = some i) : ma_pg xs L m pc = some i ∧ ∃ t, ma_mts m = some t := by
  refine ⟨?_, t, ht⟩
  unfold ma_pg
  rw [ht]
  dsimp only
  rw [hd]
  exact hs
theorem rn_step {f : ma_F} {c : Nat × ma_C} (hp : ma_pg xs L m pc = some (.inl f) ∧ ∃ t, ma_mts m = some t) (hf : f (ls, st, w) = some c) : rn xs L m pc ls st w = rn xs L m c.1 c.2.1 c.2.2.1 c.2.2.2 := by
  obtain ⟨hp, t, ht⟩ := hp
  have key : ∀ n, ma_run xs L (n + 1) m pc ls st w = ma_run xs L n m c.1 c.2.1 c.2.2.1 c.2.2.2 := by
    intro n
    conv => lhs; unfold ma_run
    rw [ht]
    dsimp only
    rw [hp]
    dsimp only
    rw [hf]
  refine rn_ext (fun r => ⟨fun ⟨n, hn⟩ => ?_, fun ⟨n, hn⟩ => ⟨n + 1, by rw [key]; exact hn⟩⟩)
  match n, hn with
  | n + 1, hn => exact ⟨n, by rw [← key]; exact hn⟩
/-- what a method answers -/
noncomputable def ev (xs : Nat → Int32) (L m nL : Nat) (as : List ma_V) (w : ma_W) : Option (Option ma_V × ma_W) := rn xs L m 0 (ma_ent nL as) [] w
theorem rn_call {q : Nat × Nat × Nat × Nat × Nat} {t t2 : ma_M} {as rest : List ma_V} (hp : ma_pg xs L m pc = some (.inr (.inl q)) ∧ ∃ t, ma_mts m = some t) (ht : ma_mts m = some t) (hc : ma_call w t.2.2.2.2.2.1 q st = some (t2, as, rest)) :
    rn xs L m pc ls st w = (ev xs L q.2.2.1 t2.2.2.1 as w).bind (fun b => rn xs L m q.2.2.2.2 ls (b.1.toList ++ rest) b.2) := by
  obtain ⟨hp, -⟩ := hp
  have key : ∀ n, ma_run xs L (n + 1) m pc ls st w = match ma_run xs L n q.2.2.1 0 (ma_ent t2.2.2.1 as) [] w with
      | none => none
      | some b => ma_run xs L n m q.2.2.2.2 ls (b.1.toList ++ rest) b.2 := by
    intro n
    conv => lhs; unfold ma_run
    rw [ht]
    dsimp only
    rw [hp]
    dsimp only
    rw [hc]
    rfl
  unfold ev
  cases e : rn xs L q.2.2.1 0 (ma_ent t2.2.2.1 as) [] w with
  | none =>
    show _ = none
    cases e1 : rn xs L m pc ls st w with
    | none => rfl
    | some r =>
      obtain ⟨n, hn⟩ := rn_to e1
      match n, hn with
      | n + 1, hn =>
        rw [key] at hn
        split at hn
        · cases hn
        · next b hb => rw [rn_of hb] at e; cases e
  | some b =>
    show _ = rn xs L m q.2.2.2.2 ls (b.1.toList ++ rest) b.2
    obtain ⟨k, hk⟩ := rn_to e
    refine rn_ext (fun r => ⟨fun ⟨n, hn⟩ => ?_, fun ⟨n, hn⟩ => ⟨max k n + 1, ?_⟩⟩)
    · match n, hn with
      | n + 1, hn =>
        rw [key] at hn
        split at hn
        · cases hn
        · next b2 hb =>
          rw [ma_run_det hk hb]
          exact ⟨n, hn⟩
    · rw [key, ma_run_le (Nat.le_max_left k n) hk]
      exact ma_run_le (Nat.le_max_right k n) hn
theorem rn_ret {k : Nat} {t : ma_M} {v : Option ma_V} (hp : ma_pg xs L m pc = some (.inr (.inr k)) ∧ ∃ t, ma_mts m = some t) (ht : ma_mts m = some t) (hr : ma_ret k t.2.2.2.1 st = some v) : rn xs L m pc ls st w = some (v, w) := by
  refine rn_of (n := 1) ?_
  unfold ma_run
  rw [ht]
  dsimp only
  rw [hp.1]
  dsimp only
  rw [hr]
/-! rows -/
theorem r_ild {k n : Nat} {x : Int32} (hp : ma_pg xs L m pc = some (.inl (i_ild k n)) ∧ ∃ t, ma_mts m = some t) (hk : ls[k]? = some (vI x)) : rn xs L m pc ls st w = rn xs L m n ls (vI x :: st) w := rn_step (c := (n, ls, vI x :: st, w)) hp (by unfold i_ild; dsimp only; rw [hk])
theorem r_lld {k n : Nat} {x : Int64} (hp : ma_pg xs L m pc = some (.inl (i_lld k n)) ∧ ∃ t, ma_mts m = some t) (hk : ls[k]? = some (vL x)) : rn xs L m pc ls st w = rn xs L m n ls (vL x :: st) w := rn_step (c := (n, ls, vL x :: st, w)) hp (by unfold i_lld; dsimp only; rw [hk])
theorem r_ald {k n a : Nat} (hp : ma_pg xs L m pc = some (.inl (i_ald k n)) ∧ ∃ t, ma_mts m = some t) (hk : ls[k]? = some (vR a)) : rn xs L m pc ls st w = rn xs L m n ls (vR a :: st) w := rn_step (c := (n, ls, vR a :: st, w)) hp (by unfold i_ald; dsimp only; rw [hk])
theorem r_als {k n a : Nat} (hp : ma_pg xs L m pc = some (.inl (i_ald k n)) ∧ ∃ t, ma_mts m = some t) (ha : a = 1 ∨ 3 ≤ a) (hk : ls[k]? = some (vS a)) : rn xs L m pc ls st w = rn xs L m n ls (vS a :: st) w := rn_step (c := (n, ls, vS a :: st, w)) hp (by unfold i_ald; dsimp only; rw [hk]; dsimp only; rw [if_pos ha])
theorem r_ist {k n : Nat} {x : Int32} {ls2 : List ma_V} (hp : ma_pg xs L m pc = some (.inl (i_ist k n)) ∧ ∃ t, ma_mts m = some t) (hk : k < ls.length) (h : (ma_kill ls k).set k (vI x) = ls2) : rn xs L m pc ls (vI x :: st) w = rn xs L m n ls2 st w := rn_step (c := (n, ls2, st, w)) hp (by unfold i_ist; dsimp only; rw [if_pos hk, h])
theorem r_lst {k n : Nat} {x : Int64} {ls2 : List ma_V} (hp : ma_pg xs L m pc = some (.inl (i_lst k n)) ∧ ∃ t, ma_mts m = some t) (hk : k + 1 < ls.length) (h : ((ma_kill ls k).set k (vL x)).set (k + 1) (vS 0) = ls2) : rn xs L m pc ls (vL x :: st) w = rn xs L m n ls2 st w := rn_step (c := (n, ls2, st, w)) hp (by unfold i_lst; dsimp only; rw [if_pos hk, h])
theorem r_ast {k n a : Nat} {ls2 : List ma_V} (hp : ma_pg xs L m pc = some (.inl (i_ast k n)) ∧ ∃ t, ma_mts m = some t) (hk : k < ls.length) (h : (ma_kill ls k).set k (vR a) = ls2) : rn xs L m pc ls (vR a :: st) w = rn xs L m n ls2 st w := rn_step (c := (n, ls2, st, w)) hp (by unfold i_ast; dsimp only; rw [if_pos hk, h])
theorem r_inc {k n : Nat} {d : Int} {x y : Int32} {ls2 : List ma_V} (hp : ma_pg xs L m pc = some (.inl (i_inc k d n)) ∧ ∃ t, ma_mts m = some t) (hd : Int32.ofInt d = y) (hk : ls[k]? = some (vI x)) (h : (ma_kill ls k).set k (vI (x + y)) = ls2) : rn xs L m pc ls st w = rn xs L m n ls2 st w := rn_step (c := (n, ls2, st, w)) hp (by unfold i_inc; dsimp only; rw [hk]; dsimp only; rw [hd, h])
theorem r_con {n : Nat} {v v2 : Int32} (hp : ma_pg xs L m pc = some (.inl (i_con v n)) ∧ ∃ t, ma_mts m = some t) (hv : v = v2) : rn xs L m pc ls st w = rn xs L m n ls (vI v2 :: st) w := rn_step (c := (n, ls, vI v2 :: st, w)) hp (by rw [hv]; rfl)
theorem r_lcn {n : Nat} {v v2 : Int64} (hp : ma_pg xs L m pc = some (.inl (i_lcn v n)) ∧ ∃ t, ma_mts m = some t) (hv : v = v2) : rn xs L m pc ls st w = rn xs L m n ls (vL v2 :: st) w := rn_step (c := (n, ls, vL v2 :: st, w)) hp (by rw [hv]; rfl)
theorem r_spc {n k : Nat} (hp : ma_pg xs L m pc = some (.inl (i_spc k n)) ∧ ∃ t, ma_mts m = some t) : rn xs L m pc ls st w = rn xs L m n ls (vS k :: st) w := rn_step (c := (n, ls, vS k :: st, w)) hp rfl
theorem r_bin {F : Int32 → Int32 → Int32} {n : Nat} {x y : Int32} (hp : ma_pg xs L m pc = some (.inl (i_bin F n)) ∧ ∃ t, ma_mts m = some t) : rn xs L m pc ls (vI y :: vI x :: st) w = rn xs L m n ls (vI (F x y) :: st) w := rn_step (c := (n, ls, vI (F x y) :: st, w)) hp rfl
theorem r_lim {F : Int32 → Int32 → Int32} {n : Nat} {x y : Int32} (hp : ma_pg xs L m pc = some (.inl (i_lim 2 (i_bin F n))) ∧ ∃ t, ma_mts m = some t) (h : (st.map ma_cat).sum ≤ 8) : rn xs L m pc ls (vI y :: vI x :: st) w = rn xs L m n ls (vI (F x y) :: st) w := rn_step (c := (n, ls, vI (F x y) :: st, w)) hp (by
  have h' : ((List.drop 2 (vI y :: vI x :: st)).map ma_cat).sum ≤ 8 := h
  unfold i_lim
  dsimp only
  rw [if_pos h']
  rfl)
theorem r_dvi {F : Int32 → Int32 → Int32} {n : Nat} {x y : Int32} (hp : ma_pg xs L m pc = some (.inl (i_dvi F n)) ∧ ∃ t, ma_mts m = some t) (hy : ¬ y = 0) : rn xs L m pc ls (vI y :: vI x :: st) w = rn xs L m n ls (vI (F x y) :: st) w := rn_step (c := (n, ls, vI (F x y) :: st, w)) hp (by unfold i_dvi; dsimp only; rw [if_neg hy])
theorem r_lbn {F : Int64 → Int64 → Int64} {n : Nat} {x y : Int64} (hp : ma_pg xs L m pc = some (.inl (i_lbn F n)) ∧ ∃ t, ma_mts m = some t) : rn xs L m pc ls (vL y :: vL x :: st) w = rn xs L m n ls (vL (F x y) :: st) w := rn_step (c := (n, ls, vL (F x y) :: st, w)) hp rfl
theorem r_ldv {F : Int64 → Int64 → Int64} {n : Nat} {x y : Int64} (hp : ma_pg xs L m pc = some (.inl (i_ldv F n)) ∧ ∃ t, ma_mts m = some t) (hy : ¬ y = 0) : rn xs L m pc ls (vL y :: vL x :: st) w = rn xs L m n ls (vL (F x y) :: st) w := rn_step (c := (n, ls, vL (F x y) :: st, w)) hp (by unfold i_ldv; dsimp only; rw [if_neg hy])
theorem r_lsh {F : Int64 → Int32 → Int64} {n : Nat} {x : Int64} {y : Int32} (hp : ma_pg xs L m pc = some (.inl (i_lsh F n)) ∧ ∃ t, ma_mts m = some t) : rn xs L m pc ls (vI y :: vL x :: st) w = rn xs L m n ls (vL (F x y) :: st) w := rn_step (c := (n, ls, vL (F x y) :: st, w)) hp rfl
theorem r_lcp {n : Nat} {x y : Int64} (hp : ma_pg xs L m pc = some (.inl (i_lcp n)) ∧ ∃ t, ma_mts m = some t) : rn xs L m pc ls (vL y :: vL x :: st) w = rn xs L m n ls (vI (lg_cmp x y) :: st) w := rn_step (c := (n, ls, vI (lg_cmp x y) :: st, w)) hp rfl
theorem r_una {F : Int32 → Int32} {n : Nat} {x : Int32} (hp : ma_pg xs L m pc = some (.inl (i_una F n)) ∧ ∃ t, ma_mts m = some t) : rn xs L m pc ls (vI x :: st) w = rn xs L m n ls (vI (F x) :: st) w := rn_step (c := (n, ls, vI (F x) :: st, w)) hp rfl
theorem r_i2l {n : Nat} {x : Int32} (hp : ma_pg xs L m pc = some (.inl (i_i2l n)) ∧ ∃ t, ma_mts m = some t) : rn xs L m pc ls (vI x :: st) w = rn xs L m n ls (vL x.toInt64 :: st) w := rn_step (c := (n, ls, vL x.toInt64 :: st, w)) hp rfl
theorem r_l2i {n : Nat} {x : Int64} (hp : ma_pg xs L m pc = some (.inl (i_l2i n)) ∧ ∃ t, ma_mts m = some t) : rn xs L m pc ls (vL x :: st) w = rn xs L m n ls (vI x.toInt32 :: st) w := rn_step (c := (n, ls, vI x.toInt32 :: st, w)) hp rfl
theorem r_dup {n : Nat} {v : ma_V} (hp : ma_pg xs L m pc = some (.inl (i_dup n)) ∧ ∃ t, ma_mts m = some t) (h : ma_c1 v = true) : rn xs L m pc ls (v :: st) w = rn xs L m n ls (v :: v :: st) w := rn_step (c := (n, ls, v :: v :: st, w)) hp (by unfold i_dup; dsimp only; rw [if_pos h])
theorem r_pop {n : Nat} {v : ma_V} (hp : ma_pg xs L m pc = some (.inl (i_pop n)) ∧ ∃ t, ma_mts m = some t) (h : ma_c1 v = true) : rn xs L m pc ls (v :: st) w = rn xs L m n ls st w := rn_step (c := (n, ls, st, w)) hp (by unfold i_pop; dsimp only; rw [if_pos h])
theorem r_du2 {n : Nat} {v u : ma_V} (hp : ma_pg xs L m pc = some (.inl (i_du2 n)) ∧ ∃ t, ma_mts m = some t) (h : (ma_c1 v && ma_c1 u) = true) : rn xs L m pc ls (v :: u :: st) w = rn xs L m n ls (v :: u :: v :: u :: st) w := rn_step (c := (n, ls, v :: u :: v :: u :: st, w)) hp (by unfold i_du2; dsimp only; rw [if_pos h])
theorem r_gto {n : Nat} (hp : ma_pg xs L m pc = some (.inl (i_gto n)) ∧ ∃ t, ma_mts m = some t) : rn xs L m pc ls st w = rn xs L m n ls st w := rn_step (c := (n, ls, st, w)) hp rfl
theorem r_if2 {p : Int32 → Int32 → Bool} {t n : Nat} {x y : Int32} {c : Prop} [Decidable c] (hp : ma_pg xs L m pc = some (.inl (i_if2 p t n)) ∧ ∃ t, ma_mts m = some t) (hc : p x y = decide c) : rn xs L m pc ls (vI y :: vI x :: st) w = if c then rn xs L m t ls st w else rn xs L m n ls st w := by
  rw [rn_step (c := (if p x y then t else n, ls, st, w)) hp rfl, hc]
  by_cases h : c
  · simp [h]
  · simp [h]
theorem r_if1 {p : Int32 → Bool} {t n : Nat} {x : Int32} {c : Prop} [Decidable c] (hp : ma_pg xs L m pc = some (.inl (i_if1 p t n)) ∧ ∃ t, ma_mts m = some t) (hc : p x = decide c) : rn xs L m pc ls (vI x :: st) w = if c then rn xs L m t ls st w else rn xs L m n ls st w := by
  rw [rn_step (c := (if p x then t else n, ls, st, w)) hp rfl, hc]
  by_cases h : c
  · simp [h]
  · simp [h]
theorem r_swi {g : Int32 → Option Nat} {x : Int32} {t : Nat} (hp : ma_pg xs L m pc = some (.inl (i_swi g)) ∧ ∃ t, ma_mts m = some t) (h : g x = some t) : rn xs L m pc ls (vI x :: st) w = rn xs L m t ls st w := rn_step (c := (t, ls, st, w)) hp (by unfold i_swi; dsimp only; rw [h])
theorem r_gti {ci k n o : Nat} (hp : ma_pg xs L m pc = some (.inl (i_gti ci k n)) ∧ ∃ t, ma_mts m = some t) (ho : (ma_sh w)[o]? = some (.inl ci)) : rn xs L m pc ls (vR o :: st) w = rn xs L m n ls (vI (ma_fi w o k) :: st) w := rn_step (c := (n, ls, vI (ma_fi w o k) :: st, w)) hp (by unfold i_gti; dsimp only; rw [if_pos ho])
theorem r_gtr {ci k n o a : Nat} (hp : ma_pg xs L m pc = some (.inl (i_gtr ci k n)) ∧ ∃ t, ma_mts m = some t) (ho : (ma_sh w)[o]? = some (.inl ci)) (ha : ma_fr w o k = some a) : rn xs L m pc ls (vR o :: st) w = rn xs L m n ls (vR a :: st) w := rn_step (c := (n, ls, vR a :: st, w)) hp (by unfold i_gtr; dsimp only; rw [if_pos ho, ha])
theorem r_pti {ci k n o : Nat} {x : Int32} (hp : ma_pg xs L m pc = some (.inl (i_pti ci k n)) ∧ ∃ t, ma_mts m = some t) (ho : (ma_sh w)[o]? = some (.inl ci)) (hn : ma_nar (ma_ty ci k) x = true) : rn xs L m pc ls (vI x :: vR o :: st) w = rn xs L m n ls st (pu_fi w o k x) := rn_step (c := (n, ls, st, pu_fi w o k x)) hp (by unfold i_pti; dsimp only; rw [if_pos ⟨ho, hn⟩])
theorem ma_ok_of {a t n : Nat} {i : Int32} (h1 : (ma_sh w)[a]? = some (.inr (t, n))) (h2 : ma_in i n = true) : ma_ok w a t i = true := by
  unfold ma_ok
  rw [h1]
  dsimp only
  rw [h2]
  simp
theorem r_iald {n a N : Nat} {i : Int32} (hp : ma_pg xs L m pc = some (.inl (i_iald n)) ∧ ∃ t, ma_mts m = some t) (h1 : (ma_sh w)[a]? = some (.inr (0, N))) (h2 : ma_in i N = true) : rn xs L m pc ls (vI i :: vR a :: st) w = rn xs L m n ls (vI (ma_ai w a i.toNatClampNeg) :: st) w := rn_step (c := (n, ls, vI (ma_ai w a i.toNatClampNeg) :: st, w)) hp (by unfold i_iald; dsimp only; rw [if_pos (ma_ok_of h1 h2)])
theorem r_bald {n a N : Nat} {i : Int32} (hp : ma_pg xs L m pc = some (.inl (i_bald n)) ∧ ∃ t, ma_mts m = some t) (h1 : (ma_sh w)[a]? = some (.inr (1, N))) (h2 : ma_in i N = true) : rn xs L m pc ls (vI i :: vR a :: st) w = rn xs L m n ls (vI (ma_ai w a i.toNatClampNeg) :: st) w := rn_step (c := (n, ls, vI (ma_ai w a i.toNatClampNeg) :: st, w)) hp (by unfold i_bald; dsimp only; rw [if_pos (ma_ok_of h1 h2)])
theorem r_lald {n a N : Nat} {i : Int32} (hp : ma_pg xs L m pc = some (.inl (i_lald n)) ∧ ∃ t, ma_mts m = some t) (h1 : (ma_sh w)[a]? = some (.inr (2, N))) (h2 : ma_in i N = true) : rn xs L m pc ls (vI i :: vR a :: st) w = rn xs L m n ls (vL (ma_al w a i.toNatClampNeg) :: st) w := rn_step (c := (n, ls, vL (ma_al w a i.toNatClampNeg) :: st, w)) hp (by unfold i_lald; dsimp only; rw [if_pos (ma_ok_of h1 h2)])
theorem r_aald {n a t N b : Nat} {i : Int32} (hp : ma_pg xs L m pc = some (.inl (i_aald n)) ∧ ∃ t, ma_mts m = some t) (ht : t = 3 ∨ t = 4) (h1 : (ma_sh w)[a]? = some (.inr (t, N))) (h2 : ma_in i N = true) (h3 : ma_ar w a i.toNatClampNeg = some b) : rn xs L m pc ls (vI i :: vR a :: st) w = rn xs L m n ls (vR b :: st) w := rn_step (c := (n, ls, vR b :: st, w)) hp (by
  unfold i_aald
  dsimp only
  rw [if_pos (by rcases ht with rfl | rfl <;> rw [ma_ok_of h1 h2] <;> simp), h3])
theorem r_iast {n a N : Nat} {i x : Int32} (hp : ma_pg xs L m pc = some (.inl (i_iast n)) ∧ ∃ t, ma_mts m = some t) (h1 : (ma_sh w)[a]? = some (.inr (0, N))) (h2 : ma_in i N = true) : rn xs L m pc ls (vI x :: vI i :: vR a :: st) w = rn xs L m n ls st (pu_ai w a i.toNatClampNeg x) := rn_step (c := (n, ls, st, pu_ai w a i.toNatClampNeg x)) hp (by unfold i_iast; dsimp only; rw [if_pos (ma_ok_of h1 h2)])
theorem r_bast {n a N : Nat} {i x : Int32} (hp : ma_pg xs L m pc = some (.inl (i_bast n)) ∧ ∃ t, ma_mts m = some t) (h1 : (ma_sh w)[a]? = some (.inr (1, N))) (h2 : ma_in i N = true) : rn xs L m pc ls (vI x :: vI i :: vR a :: st) w = rn xs L m n ls st (pu_ai w a i.toNatClampNeg (vp_nar .byte x)) := rn_step (c := (n, ls, st, pu_ai w a i.toNatClampNeg (vp_nar .byte x))) hp (by unfold i_bast; dsimp only; rw [if_pos (ma_ok_of h1 h2)])
theorem r_last {n a N : Nat} {i : Int32} {x : Int64} (hp : ma_pg xs L m pc = some (.inl (i_last n)) ∧ ∃ t, ma_mts m = some t) (h1 : (ma_sh w)[a]? = some (.inr (2, N))) (h2 : ma_in i N = true) : rn xs L m pc ls (vL x :: vI i :: vR a :: st) w = rn xs L m n ls st (pu_al w a i.toNatClampNeg x) := rn_step (c := (n, ls, st, pu_al w a i.toNatClampNeg x)) hp (by unfold i_last; dsimp only; rw [if_pos (ma_ok_of h1 h2)])
theorem r_cpy {n a a0 N N0 : Nat} {sp dp z : Int32} (hp : ma_pg xs L m pc = some (.inl (i_lim 5 (i_cpy n))) ∧ ∃ t, ma_mts m = some t) (hl : (st.map ma_cat).sum ≤ 8) (h1 : (ma_sh w)[a]? = some (.inr (0, N))) (h0 : (ma_sh w)[a0]? = some (.inr (0, N0))) (hb : ¬ sp < 0 ∧ ¬ dp < 0 ∧ ¬ z < 0 ∧ sp.toNatClampNeg + z.toNatClampNeg ≤ N0 ∧ dp.toNatClampNeg + z.toNatClampNeg ≤ N) :
    rn xs L m pc ls (vI z :: vI dp :: vR a :: vI sp :: vR a0 :: st) w = rn xs L m n ls st (pu_ax w a (va_cpy (ma_ai w a0) (ma_ai w a) sp.toNatClampNeg dp.toNatClampNeg z.toNatClampNeg)) := rn_step (c := (n, ls, st, _)) hp (by
  have hl' : ((List.drop 5 (vI z :: vI dp :: vR a :: vI sp :: vR a0 :: st)).map ma_cat).sum ≤ 8 := hl
  unfold i_lim
  dsimp only
  rw [if_pos hl']
  unfold i_cpy
  dsimp only
  rw [h1, h0]
  dsimp only
  rw [if_pos ⟨rfl, rfl, hb⟩]
  rfl)
theorem r_sld {n : Nat} {i : Int32} (hp : ma_pg xs L m pc = some (.inl (i_sld xs L n)) ∧ ∃ t, ma_mts m = some t) (h : ma_in i L = true) : rn xs L m pc ls (vI i :: vS 1 :: st) w = rn xs L m n ls (vI (xs i.toNatClampNeg) :: st) w := rn_step (c := (n, ls, vI (xs i.toNatClampNeg) :: st, w)) hp (by
  show (if ma_in i L = true then some (n, ls, vI (xs i.toNatClampNeg) :: st, w) else none) = _
  rw [if_pos h])
theorem r_sln {n : Nat} (hp : ma_pg xs L m pc = some (.inl (i_sln L n)) ∧ ∃ t, ma_mts m = some t) : rn xs L m pc ls (vS 1 :: st) w = rn xs L m n ls (vI (Int32.ofNat L) :: st) w := rn_step (c := (n, ls, vI (Int32.ofNat L) :: st, w)) hp rfl
theorem r_balS {n a : Nat} {i : Int32} (hp : ma_pg xs L m pc = some (.inl (i_bald n)) ∧ ∃ t, ma_mts m = some t) (h : 3 ≤ a ∧ a < 33 ∧ a % 2 = 0 ∧ ma_in i (ma_len ((a - 4) / 2)) = true) : rn xs L m pc ls (vI i :: vS a :: st) w = rn xs L m n ls (vI (ma_chr ((a - 4) / 2) i.toNatClampNeg) :: st) w := rn_step (c := (n, ls, vI (ma_chr ((a - 4) / 2) i.toNatClampNeg) :: st, w)) hp (by unfold i_bald; dsimp only; rw [if_pos h])
theorem r_alnS {n a : Nat} (hp : ma_pg xs L m pc = some (.inl (i_alen n)) ∧ ∃ t, ma_mts m = some t) (h : 3 ≤ a ∧ a < 33 ∧ a % 2 = 0) : rn xs L m pc ls (vS a :: st) w = rn xs L m n ls (vI (Int32.ofNat (ma_len ((a - 4) / 2))) :: st) w := rn_step (c := (n, ls, vI (Int32.ofNat (ma_len ((a - 4) / 2))) :: st, w)) hp (by unfold i_alen; dsimp only; rw [if_pos h])
theorem r_gts0 {n a : Nat} (hp : ma_pg xs L m pc = some (.inl (i_gts 0 n)) ∧ ∃ t, ma_mts m = some t) (h : 3 ≤ a ∧ a < 33 ∧ a % 2 = 1) : rn xs L m pc ls (vS a :: st) w = rn xs L m n ls (vS (a + 1) :: st) w := rn_step (c := (n, ls, vS (a + 1) :: st, w)) hp (by unfold i_gts; dsimp only; rw [if_pos h]; rfl)
theorem r_gts1 {n a : Nat} (hp : ma_pg xs L m pc = some (.inl (i_gts 1 n)) ∧ ∃ t, ma_mts m = some t) (h : 3 ≤ a ∧ a < 33 ∧ a % 2 = 1) : rn xs L m pc ls (vS a :: st) w = rn xs L m n ls (vI 0 :: st) w := rn_step (c := (n, ls, vI 0 :: st, w)) hp (by unfold i_gts; dsimp only; rw [if_pos h]; rfl)
end RN
