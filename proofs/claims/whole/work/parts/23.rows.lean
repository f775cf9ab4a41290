/-! ===== more rows: compares in two forms (=, <), calls, answers ===== -/
section R23
variable {xs : Nat → Int32} {L m pc : Nat} {ls st : List ma_V} {w : ma_W} {t n : Nat} {x y : Int32}
theorem r_eq (hp : ma_pg xs L m pc = some (.inl (i_if2 (ma_cmp .eq) t n)) ∧ ∃ t, ma_mts m = some t) : rn xs L m pc ls (vI y :: vI x :: st) w = if x = y then rn xs L m t ls st w else rn xs L m n ls st w := r_if2 hp rfl
theorem r_ne (hp : ma_pg xs L m pc = some (.inl (i_if2 (ma_cmp .ne) t n)) ∧ ∃ t, ma_mts m = some t) : rn xs L m pc ls (vI y :: vI x :: st) w = if x = y then rn xs L m n ls st w else rn xs L m t ls st w := by
  rw [r_if2 (c := ¬ x = y) hp rfl]
  by_cases h : x = y <;> simp [h]
theorem r_lt (hp : ma_pg xs L m pc = some (.inl (i_if2 (ma_cmp .lt) t n)) ∧ ∃ t, ma_mts m = some t) : rn xs L m pc ls (vI y :: vI x :: st) w = if x < y then rn xs L m t ls st w else rn xs L m n ls st w := r_if2 hp rfl
theorem r_ge (hp : ma_pg xs L m pc = some (.inl (i_if2 (ma_cmp .ge) t n)) ∧ ∃ t, ma_mts m = some t) : rn xs L m pc ls (vI y :: vI x :: st) w = if x < y then rn xs L m n ls st w else rn xs L m t ls st w := by
  rw [r_if2 (c := y ≤ x) hp rfl]
  by_cases h : x < y
  · rw [if_pos h, if_neg (Int32.not_le.mpr h)]
  · rw [if_neg h, if_pos (Int32.not_lt.mp h)]
theorem r_gt (hp : ma_pg xs L m pc = some (.inl (i_if2 (ma_cmp .gt) t n)) ∧ ∃ t, ma_mts m = some t) : rn xs L m pc ls (vI y :: vI x :: st) w = if y < x then rn xs L m t ls st w else rn xs L m n ls st w := r_if2 hp rfl
theorem r_le (hp : ma_pg xs L m pc = some (.inl (i_if2 (ma_cmp .le) t n)) ∧ ∃ t, ma_mts m = some t) : rn xs L m pc ls (vI y :: vI x :: st) w = if y < x then rn xs L m n ls st w else rn xs L m t ls st w := by
  rw [r_if2 (c := x ≤ y) hp rfl]
  by_cases h : y < x
  · rw [if_pos h, if_neg (Int32.not_le.mpr h)]
  · rw [if_neg h, if_pos (Int32.not_lt.mp h)]
theorem r_eq0 (hp : ma_pg xs L m pc = some (.inl (i_if1 (ma_cm0 .eq) t n)) ∧ ∃ t, ma_mts m = some t) : rn xs L m pc ls (vI x :: st) w = if x = 0 then rn xs L m t ls st w else rn xs L m n ls st w := r_if1 hp rfl
theorem r_ne0 (hp : ma_pg xs L m pc = some (.inl (i_if1 (ma_cm0 .ne) t n)) ∧ ∃ t, ma_mts m = some t) : rn xs L m pc ls (vI x :: st) w = if x = 0 then rn xs L m n ls st w else rn xs L m t ls st w := by
  rw [r_if1 (c := ¬ x = 0) hp rfl]
  by_cases h : x = 0 <;> simp [h]
theorem r_lt0 (hp : ma_pg xs L m pc = some (.inl (i_if1 (ma_cm0 .lt) t n)) ∧ ∃ t, ma_mts m = some t) : rn xs L m pc ls (vI x :: st) w = if x < 0 then rn xs L m t ls st w else rn xs L m n ls st w := r_if1 hp rfl
theorem r_ge0 (hp : ma_pg xs L m pc = some (.inl (i_if1 (ma_cm0 .ge) t n)) ∧ ∃ t, ma_mts m = some t) : rn xs L m pc ls (vI x :: st) w = if x < 0 then rn xs L m n ls st w else rn xs L m t ls st w := by
  rw [r_if1 (c := 0 ≤ x) hp rfl]
  by_cases h : x < 0
  · rw [if_pos h, if_neg (Int32.not_le.mpr h)]
  · rw [if_neg h, if_pos (Int32.not_lt.mp h)]
theorem r_gt0 (hp : ma_pg xs L m pc = some (.inl (i_if1 (ma_cm0 .gt) t n)) ∧ ∃ t, ma_mts m = some t) : rn xs L m pc ls (vI x :: st) w = if 0 < x then rn xs L m t ls st w else rn xs L m n ls st w := r_if1 hp rfl
theorem r_le0 (hp : ma_pg xs L m pc = some (.inl (i_if1 (ma_cm0 .le) t n)) ∧ ∃ t, ma_mts m = some t) : rn xs L m pc ls (vI x :: st) w = if 0 < x then rn xs L m n ls st w else rn xs L m t ls st w := by
  rw [r_if1 (c := x ≤ 0) hp rfl]
  by_cases h : 0 < x
  · rw [if_pos h, if_neg (Int32.not_le.mpr h)]
  · rw [if_neg h, if_pos (Int32.not_lt.mp h)]
theorem r_ialc {a N : Nat} {i : Int32} {j : Nat} (hp : ma_pg xs L m pc = some (.inl (i_iald n)) ∧ ∃ t, ma_mts m = some t) (h1 : (ma_sh w)[a]? = some (.inr (0, N))) (h2 : ma_in i N = true) (hj : i.toNatClampNeg = j) : rn xs L m pc ls (vI i :: vR a :: st) w = rn xs L m n ls (vI (ma_ai w a j) :: st) w := by subst hj; exact r_iald hp h1 h2
theorem r_iasc {a N : Nat} {i : Int32} {j : Nat} (hp : ma_pg xs L m pc = some (.inl (i_iast n)) ∧ ∃ t, ma_mts m = some t) (h1 : (ma_sh w)[a]? = some (.inr (0, N))) (h2 : ma_in i N = true) (hj : i.toNatClampNeg = j) : rn xs L m pc ls (vI x :: vI i :: vR a :: st) w = rn xs L m n ls st (pu_ai w a j x) := by subst hj; exact r_iast hp h1 h2
theorem r_cpyc {a a0 N N0 k : Nat} {z : Int32} (hp : ma_pg xs L m pc = some (.inl (i_lim 5 (i_cpy n))) ∧ ∃ t, ma_mts m = some t) (hl : (st.map ma_cat).sum ≤ 8) (h1 : (ma_sh w)[a]? = some (.inr (0, N))) (h0 : (ma_sh w)[a0]? = some (.inr (0, N0))) (hz : ¬ z < 0) (hk : z.toNatClampNeg = k) (hb : k ≤ N0 ∧ k ≤ N) :
    rn xs L m pc ls (vI z :: vI 0 :: vR a :: vI 0 :: vR a0 :: st) w = rn xs L m n ls st (pu_ax w a (va_cpy (ma_ai w a0) (ma_ai w a) 0 0 k)) := by
  subst hk
  have h00 : (0 : Int32).toNatClampNeg = 0 := by decide
  have h := r_cpy (sp := 0) (dp := 0) (ls := ls) hp hl h1 h0 ⟨by decide, by decide, hz, by rw [h00, Nat.zero_add]; exact hb.1, by rw [h00, Nat.zero_add]; exact hb.2⟩
  rw [h00] at h
  exact h
theorem call_of {kind ci m' na nx lv : Nat} {t : ma_M} {as rest : List ma_V} (ht : ma_mts m' = some t) (hb : (Nat.ble na st.length && Nat.ble (t.2.2.2.2.2.1 + 1) lv && Nat.ble ((st.drop na).map ma_cat).sum 8 && Nat.ble (ma_arg (st.take na).reverse).length t.2.2.1) = true) (h5 : ma_rcv w kind ci (st.take na).reverse = true) (e1 : (st.take na).reverse = as) (e2 : st.drop na = rest) : ma_call w lv (kind, ci, m', na, nx) st = some (t, as, rest) := by
  subst e1
  subst e2
  simp only [Bool.and_eq_true, Nat.ble_eq] at hb
  unfold ma_call
  dsimp only
  rw [ht]
  dsimp only
  rw [if_pos (by simp only [Bool.and_eq_true, decide_eq_true_eq]; exact ⟨⟨⟨⟨hb.1.1.1, hb.1.1.2⟩, hb.1.2⟩, hb.2⟩, h5⟩)]
theorem r_call {kind ci m' na nx nL : Nat} {t t2 : ma_M} {as rest : List ma_V} (hp : ma_pg xs L m pc = some (.inr (.inl (kind, ci, m', na, nx))) ∧ ∃ t, ma_mts m = some t) (ht : ma_mts m = some t) (ht2 : ma_mts m' = some t2) (hn : t2.2.2.1 = nL) (hb : (Nat.ble na st.length && Nat.ble (t2.2.2.2.2.2.1 + 1) t.2.2.2.2.2.1 && Nat.ble ((st.drop na).map ma_cat).sum 8 && Nat.ble (ma_arg (st.take na).reverse).length t2.2.2.1) = true) (h5 : ma_rcv w kind ci (st.take na).reverse = true) (e1 : (st.take na).reverse = as) (e2 : st.drop na = rest) :
    rn xs L m pc ls st w = (ev xs L m' nL as w).bind (fun b => rn xs L m nx ls (b.1.toList ++ rest) b.2) := by
  subst hn
  exact rn_call hp ht (call_of ht2 hb h5 e1 e2)
theorem rcv1 {ci o : Nat} {r : List ma_V} (h : (ma_sh w)[o]? = some (.inl ci)) : ma_rcv w 1 ci (vR o :: r) = true := decide_eq_true h
theorem rcv2 {ci a : Nat} {r : List ma_V} (h : 3 ≤ a ∧ a < 33 ∧ a % 2 = 1) : ma_rcv w 2 ci (vS a :: r) = true := decide_eq_true h
theorem z_nar {x : Int32} (h : x = 0 ∨ x = 1) : vp_nar .boolean x = x ∧ ma_nar .boolean x = true := by
  rcases h with rfl | rfl <;> decide
theorem r_ri {t : ma_M} (hp : ma_pg xs L m pc = some (.inr (.inr 1)) ∧ ∃ t, ma_mts m = some t) (ht : ma_mts m = some t) (hr : t.2.2.2.1 = some .int) : rn xs L m pc ls [vI x] w = some (some (vI x), w) := rn_ret hp ht (by rw [hr]; rfl)
theorem r_rz {t : ma_M} (hp : ma_pg xs L m pc = some (.inr (.inr 1)) ∧ ∃ t, ma_mts m = some t) (ht : ma_mts m = some t) (hr : t.2.2.2.1 = some .boolean) (h : x = 0 ∨ x = 1) : rn xs L m pc ls [vI x] w = some (some (vI x), w) := rn_ret hp ht (by
  rw [hr]
  show (if decide (vp_nar .boolean x = x) then some (some (vI x)) else none) = _
  rw [if_pos (decide_eq_true (z_nar h).1)])
theorem r_rc {t : ma_M} (hp : ma_pg xs L m pc = some (.inr (.inr 1)) ∧ ∃ t, ma_mts m = some t) (ht : ma_mts m = some t) (hr : t.2.2.2.1 = some .char) (h : vp_nar .char x = x) : rn xs L m pc ls [vI x] w = some (some (vI x), w) := rn_ret hp ht (by
  rw [hr]
  show (if decide (vp_nar .char x = x) then some (some (vI x)) else none) = _
  rw [if_pos (decide_eq_true h)])
theorem r_rb {t : ma_M} (hp : ma_pg xs L m pc = some (.inr (.inr 1)) ∧ ∃ t, ma_mts m = some t) (ht : ma_mts m = some t) (hr : t.2.2.2.1 = some .byte) (h : vp_nar .byte x = x) : rn xs L m pc ls [vI x] w = some (some (vI x), w) := rn_ret hp ht (by
  rw [hr]
  show (if decide (vp_nar .byte x = x) then some (some (vI x)) else none) = _
  rw [if_pos (decide_eq_true h)])
theorem r_rl {t : ma_M} {z : Int64} (hp : ma_pg xs L m pc = some (.inr (.inr 2)) ∧ ∃ t, ma_mts m = some t) (ht : ma_mts m = some t) (hr : t.2.2.2.1 = some .long) : rn xs L m pc ls [vL z] w = some (some (vL z), w) := rn_ret hp ht (by rw [hr]; rfl)
theorem r_rv {t : ma_M} (hp : ma_pg xs L m pc = some (.inr (.inr 0)) ∧ ∃ t, ma_mts m = some t) (ht : ma_mts m = some t) (hr : t.2.2.2.1 = none) : rn xs L m pc ls [] w = some (none, w) := rn_ret hp ht (by rw [hr]; rfl)
theorem r_rs {t : ma_M} {a : Nat} (hp : ma_pg xs L m pc = some (.inr (.inr 3)) ∧ ∃ t, ma_mts m = some t) (ht : ma_mts m = some t) (hr : t.2.2.2.1 = some (.object "java/lang/String")) (h : 3 ≤ a ∧ a < 33 ∧ a % 2 = 1) : rn xs L m pc ls [vS a] w = some (some (vS a), w) := rn_ret hp ht (by
  rw [hr]
  show (if some (FieldType.object "java/lang/String") = some (.object "java/lang/String") ∧ 3 ≤ a ∧ a < 33 ∧ a % 2 = 1 then some (some (vS a)) else none) = _
  rw [if_pos ⟨rfl, h⟩])
theorem i_nei {x : Int32} {k : Int} (y : Int32) (hy : y.toInt = k) (h : ¬ x = y) : x.toInt ≠ k := fun e => h (Int32.toInt_inj.mp (e.trans hy.symm))
theorem tsw_out {pc : Nat} {dflt lo hi : Int} {offs : Array Int} {T : Nat} (h : x.toInt < lo ∨ hi < x.toInt) (h0 : 0 ≤ (pc : Int) + dflt) (hT : ma_tgt pc dflt = T) : ma_tsw pc dflt lo hi offs x = some T := by
  unfold ma_tsw
  rw [if_pos h]
  dsimp only
  rw [if_pos h0, hT]
end R23
