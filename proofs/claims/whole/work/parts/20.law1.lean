/-! ===== the law, out of a run of the small machine ===== -/
def ma_w0 : ma_W := ([], fun _ _ => 0, fun _ _ => none, fun _ _ => 0, fun _ _ => 0, fun _ _ => none)
/-- what has to be shown of the small machine alone -/
def ma_goal : Prop := ∀ (L : Nat) (xs : Nat → Int32), L ≤ 2560 → ∃ n w', ma_run xs L n 233 0 (ma_ent 4 [vS 1]) [] ma_w0 = some (some (vI 1), w') ∧ (ma_sh w').length ≤ 600000 ∧ ma_szs (ma_sh w') ≤ 7302249
def ma_law : ma_M := (7, cL_law, 4, some .boolean, yL_law, 10, 0, 0)
theorem ma_law_at : ma_mts 233 = some ma_law := rfl
theorem ma_tbw {c : Jvm.Cond} (i : Nat) (h : tables_1[i]? = some c) : c ∈ lw_tbl := List.mem_append_right _ (List.mem_of_getElem? h)
theorem ma_cy {args : Array Value} {s : State} {ty : FieldType} (h : (Jvm.Cond.arrayClass ty).before args s = true) (hno : ∀ C, ty ≠ .object C) : ∃ cA : ClassId, ArrOfT s cA ty ∧ va_RA s cA ty := by
  obtain ⟨cA, kA, comp, h1, h2, h3⟩ := Cond.arrayClass_spec h
  refine ⟨cA, fun n z => ⟨fun k h => (by cases h), kA, h2, comp, h3⟩, ?_⟩
  unfold va_RA
  split
  · next C => exact absurd rfl (hno C)
  · exact h1
theorem ma_co {args : Array Value} {s : State} {C : String} (h : (Jvm.Cond.arrayOver (.object C)).before args s = true) : ∃ cA : ClassId, ArrOfT s cA (.object C) ∧ va_RA s cA (.object C) := by
  obtain ⟨comp, cA, kA, h1, h2, h3, h4, h5⟩ := Cond.arrayOver_spec h
  exact ⟨cA, fun n z => ⟨fun k h => (by cases h), kA, h3, comp, h4⟩, kA, comp, h3, h4, h1, h5⟩
def ma_six : List Nat := [246, 299, 300, 301, 309, 310, 311, 312, 313, 314, 334, 339, 348, 349, 354]
def ma_tm (i : Nat) : Term := .string RX3 (ma_stx.getD i (0, "")).1
abbrev ma_nar1 : List Jvm.Cond := flatC (Jvm.Cond.and given_1 narrow_1)
def ma_bs : List Nat := [23, 31, 40, 49, 60, 71, 86, 103, 118, 139, 156, 174, 191, 209, 230]
theorem ma_nar_at {c : Jvm.Cond} (i : Nat) (h : ma_nar1[i]? = some c) : c ∈ ma_nar1 := List.mem_of_getElem? h
theorem ma_s1 : ∀ i, i < 15 → ma_nar1[ma_bs.getD i 0]? = some (Jvm.Cond.exactly (ma_tm i) "java/lang/String") := by decide +kernel
theorem ma_s2 : ∀ i, i < 15 → ma_nar1[ma_bs.getD i 0 + 1]? = some (Jvm.Cond.eq (.field (ma_tm i) "java/lang/String" "coder" "B") (.int 0)) := by decide +kernel
theorem ma_s3 : ∀ i, i < 15 → ma_nar1[ma_bs.getD i 0 + 2]? = some (Jvm.Cond.arrayOf (.field (ma_tm i) "java/lang/String" "value" "[B") .byte) := by decide +kernel
theorem ma_s4 : ∀ i, i < 15 → ma_nar1[ma_bs.getD i 0 + 3]? = some (Jvm.Cond.eq (.length (.field (ma_tm i) "java/lang/String" "value" "[B")) (.int (Int32.ofNat (ma_lens.getD i 0)))) := by decide +kernel
theorem ma_s5 : ∀ i, i < 15 → ∀ j, j < ma_lens.getD i 0 → ma_nar1[ma_bs.getD i 0 + 4 + j]? = some (Jvm.Cond.eq (.elem (.field (ma_tm i) "java/lang/String" "value" "[B") (.int (Int32.ofNat j))) (.int ((ma_byts.getD i []).getD j 0))) := by decide +kernel
theorem ma_s6 : ∀ i, i < 15 → ∀ j, j < i → ma_nar1[ma_bs.getD i 0 + 4 + ma_lens.getD i 0 + j]? = some (Jvm.Cond.not (Jvm.Cond.eq (ma_tm j) (ma_tm i))) := by decide +kernel
theorem ma_s7 : ma_nar1[4]? = some (.eq (.static "java/lang/String" "COMPACT_STRINGS" "Z") (.int 1)) := by decide +kernel
theorem ma_s8 : ma_nar1[5]? = some (.isRef (.static "jdk/internal/util/Preconditions" "SIOOBE_FORMATTER" "Ljava/util/function/BiFunction;")) := by decide +kernel
set_option maxRecDepth 100000 in
set_option maxHeartbeats 4000000 in
/-- the surroundings at the law's entry -/
theorem ma_env {p : Program} {s : State} {m : MethodId} {meth : Method} {c : Code} {b L : Nat} {xs : Nat → Int32} (C0 : lw_At p s m meth c b L xs) : ∃ E : ma_E, e_lo E = s.heap.size ∧ e_bb E = b ∧ e_ll E = L ∧ e_xs E = xs ∧ ma_en E s s.heap := by
  obtain ⟨hx, hb, hr, hml, hown, hts, hX, hbl, hlocks, hgv⟩ := C0
  have hs : ∀ c ∈ ma_nar1, c.before #[Value.ref b] s = true := flat_of_before _ hgv
  have hA : ∀ a : Nat, a < s.heap.size → ¬ (fun q => s.heap.size ≤ q) a := fun a h => Nat.not_le.mpr h
  obtain ⟨y0, y0a, y0b⟩ := ma_cy (ty := .int) (hts _ (ma_tbw 85 (by decide +kernel))) (fun _ h => by cases h)
  obtain ⟨y1, y1a, y1b⟩ := ma_cy (ty := .byte) (hts _ (ma_tbw 113 (by decide +kernel))) (fun _ h => by cases h)
  obtain ⟨y2, y2a, y2b⟩ := ma_cy (ty := .long) (hts _ (ma_tbw 168 (by decide +kernel))) (fun _ h => by cases h)
  have ao1 : (Jvm.Cond.arrayOver (.object RX1)).before #[Value.ref b] s = true := hts _ (ma_tbw 115 (by decide +kernel))
  have ao2 : (Jvm.Cond.arrayOver (.object RX2)).before #[Value.ref b] s = true := hts _ (ma_tbw 117 (by decide +kernel))
  obtain ⟨y3, y3a, y3b⟩ := ma_co ao1
  obtain ⟨y4, y4a, y4b⟩ := ma_co ao2
  have hkn : ∀ ci, ci < 7 → ∃ (cC : ClassId) (iS : Nat → Nat), u_Kn s (ma_rx ci) (ma_tx ci) (ma_nf ci) cC iS := by
    intro ci hci
    have hin : ∀ w ∈ u_ws (ma_rx ci) (ma_tx ci) (ma_nf ci), w ∈ lw_tbl := fun w hw => (List.mem_filter.mp ((ma_cok_all ci hci).1.2.1 w hw)).1
    match ci, hci, hin with
    | 0, _, hin => exact u_known hts hin (hts (.instantiable RX0 6) (ma_tbw 119 (by decide +kernel)))
    | 1, _, hin => exact u_known hts hin (hts (.instantiable RX1 3) (ma_tbw 148 (by decide +kernel)))
    | 2, _, hin => exact u_known hts hin (hts (.instantiable RX2 3) (ma_tbw 169 (by decide +kernel)))
    | 3, _, hin => exact u_known hts hin (hts (.instantiable RX3 6) (ma_tbw 87 (by decide +kernel)))
    | 4, _, hin => exact u_known hts hin (hts (.instantiable RX4 12) (ma_tbw 24 (by decide +kernel)))
    | 5, _, hin => exact u_known hts hin (hts (.instantiable RX5 10) (ma_tbw 16 (by decide +kernel)))
    | 6, _, hin => exact u_known hts hin (hts (.instantiable RX6 27) (ma_tbw 728 (by decide +kernel)))
  have hD : ∃ D : va_G, ∀ (k : Nat) (q : vw_C), vwCl[k]? = some q → u_Kn s q.1 q.2.1 q.2.2 (D.1 k) (D.2 k) := by
    obtain ⟨c0, i0, n0⟩ := hkn 0 (by omega)
    obtain ⟨c1, i1, n1⟩ := hkn 1 (by omega)
    obtain ⟨c2, i2, n2⟩ := hkn 2 (by omega)
    obtain ⟨c3, i3, n3⟩ := hkn 3 (by omega)
    obtain ⟨c4, i4, n4⟩ := hkn 4 (by omega)
    obtain ⟨c5, i5, n5⟩ := hkn 5 (by omega)
    obtain ⟨c6, i6, n6⟩ := hkn 6 (by omega)
    refine ⟨(fun k => match k with | 0 => c0 | 1 => c1 | 2 => c2 | 3 => c3 | 4 => c4 | 5 => c5 | _ => c6, fun k => match k with | 0 => i0 | 1 => i1 | 2 => i2 | 3 => i3 | 4 => i4 | 5 => i5 | _ => i6), ?_⟩
    intro k q hq
    match k, hq with
    | 0, hq => cases hq; exact n0
    | 1, hq => cases hq; exact n1
    | 2, hq => cases hq; exact n2
    | 3, hq => cases hq; exact n3
    | 4, hq => cases hq; exact n4
    | 5, hq => cases hq; exact n5
    | 6, hq => cases hq; exact n6
    | k + 7, hq => simp [vwCl] at hq
  obtain ⟨D, hD⟩ := hD
  obtain ⟨ak, av, hS, hev⟩ := vk_Sof (args := #[Value.ref b]) (s := s) (N := 15) (tm := ma_tm) (len := ma_lens) (byt := ma_byts) (A := fun q => s.heap.size ≤ q) (by decide +kernel)
    (fun i hi => hs _ (ma_nar_at _ (ma_s1 i hi))) (fun i hi => hs _ (ma_nar_at _ (ma_s2 i hi))) (fun i hi => hs _ (ma_nar_at _ (ma_s3 i hi))) (fun i hi => hs _ (ma_nar_at _ (ma_s4 i hi))) (fun i hi j hj => hs _ (ma_nar_at _ (ma_s5 i hi j hj)))
    (fun i j hi hj hij => by
      rcases Nat.lt_or_gt_of_ne hij with h | h
      · exact Or.inl (hs _ (ma_nar_at _ (ma_s6 j hj i h)))
      · exact Or.inr (hs _ (ma_nar_at _ (ma_s6 i hi j h)))) hA
  have hcs : va_Z "java/lang/String" "COMPACT_STRINGS" "Z" (.int 1) (fun q => s.heap.size ≤ q) s s.heap :=
    va_Zof (args := #[Value.ref b]) (hts (.laysStatic "java/lang/String" "COMPACT_STRINGS" "Z") (ma_tbw 260 (by decide +kernel))) (hts (.initialized "java/lang/String") (ma_tbw 8 (by decide +kernel))) (va_eqt (hs _ (ma_nar_at _ ma_s7))) hA
  have hfm : ∃ q : Option Nat, va_Z "jdk/internal/util/Preconditions" "SIOOBE_FORMATTER" "Ljava/util/function/BiFunction;" (va_rf q) (fun q => s.heap.size ≤ q) s s.heap := by
    rcases va_Zqof (args := #[Value.ref b]) (hts (.laysStatic "jdk/internal/util/Preconditions" "SIOOBE_FORMATTER" "Ljava/util/function/BiFunction;") (ma_tbw 276 (by decide +kernel))) (hts (.initialized "jdk/internal/util/Preconditions") (ma_tbw 10 (by decide +kernel))) (hs _ (ma_nar_at _ ma_s8)) hA with h | ⟨t, h⟩
    · exact ⟨none, h⟩
    · exact ⟨some t, h⟩
  obtain ⟨fm, hfm⟩ := hfm
  refine ⟨(s.heap.size, ak, av, fm, D, fun k => match k with | 0 => y0 | 1 => y1 | 2 => y2 | 3 => y3 | _ => y4, b, L, xs), rfl, rfl, rfl, rfl, ⟨hD, ?_⟩, hX, hbl, ?_, ⟨va_AO.of ao1, va_AO.of ao2⟩, ?_, hS, hcs, hfm⟩
  · intro k q hq
    match k, hq with
    | 0, hq => cases hq; exact ⟨y0a, y0b⟩
    | 1, hq => cases hq; exact ⟨y1a, y1b⟩
    | 2, hq => cases hq; exact ⟨y2a, y2b⟩
    | 3, hq => cases hq; exact ⟨y3a, y3b⟩
    | 4, hq => cases hq; exact ⟨y4a, y4b⟩
    | k + 5, hq => cases hq
  · intro w hw
    have hmem : w ∈ lw_tbl := by
      simp only [ma_nws, List.mem_cons, List.not_mem_nil, or_false] at hw
      rcases hw with rfl | rfl | rfl | rfl | rfl | rfl | rfl
      · exact ma_tbw 88 (by decide +kernel)
      · exact ma_tbw 120 (by decide +kernel)
      · exact ma_tbw 149 (by decide +kernel)
      · exact ma_tbw 170 (by decide +kernel)
      · exact ma_tbw 319 (by decide +kernel)
      · exact ma_tbw 466 (by decide +kernel)
      · exact ma_tbw 694 (by decide +kernel)
    have hon : w.onTables = true := by
      simp only [ma_nws, List.mem_cons, List.not_mem_nil, or_false] at hw
      rcases hw with rfl | rfl | rfl | rfl | rfl | rfl | rfl <;> rfl
    exact va_Nw.of hon (hts w hmem)
  · intro i hi
    exact vk_R.of (A := #[Value.ref b]) (hts _ (ma_tbw (ma_six.getD i 0) ((by decide +kernel : ∀ i, i < 15 → tables_1[ma_six.getD i 0]? = some (.stringRef RX3 (ma_stx.getD i (0, "")).1 (ma_stx.getD i (0, "")).2)) i hi))) (hev i hi)
set_option maxRecDepth 100000 in
set_option maxHeartbeats 4000000 in
theorem whole_of_run (hg : ma_goal) {p : Program} {e : Env} {s : State} {m : MethodId} {below : List Frame} {meth : Method} {c : Code} (l : Launch) {b L : Nat} {xs : Nat → Int32} (hL : L ≤ 2560) (C0 : lw_At p s m meth c b L xs) : W p l e room_1 s m #[Value.ref b] below meth c s.heap [] 0 0 (lw_Z below #[Value.ref b] s) (entryFrame m ([Value.ref b] : List Value).toArray 4) := by
  obtain ⟨E, e1, e2, e3, e4, hen⟩ := ma_env C0
  obtain ⟨hx, hb, hr, hml, hown, hts, hX, hbl, hlocks, hgv⟩ := C0
  obtain ⟨n, w', hrun, hz1, hz2⟩ := hg L xs hL
  rw [← e3, ← e4] at hrun
  have hcx : ma_Cx E p room_1 s m #[Value.ref b] meth c cL_law 4 7 10 (yL_law.name == "<init>") :=
    ⟨hx, hb, hml, hown, fun w hw => hts w (List.mem_filter.mp hw).1, hen, by rw [e1]; exact Nat.le_refl _, Nat.le_of_ble_eq_true rfl, Nat.le_of_ble_eq_true rfl, fun h => by
      have : (yL_law.name == "<init>") = false := by decide +kernel
      rw [this] at h
      cases h⟩
  have hS := (ma_sim n 233 0 ma_law (ma_ent 4 [vS 1]) [] ma_w0 (some (vI 1)) w' ma_law_at hrun).2 (l := l) (e := e) (below := below) (Q := lw_Z below #[Value.ref b] s) (cells := 0) (slots := 0) hcx (by
      rw [Nat.zero_add]
      exact Nat.le_trans (Nat.sub_le _ _) hz1) (by
      rw [Nat.zero_add]
      exact Nat.le_trans (Nat.sub_le _ _) hz2) ?_
  · have h9 := hS s.heap [] _ ⟨⟨by rw [e1]; rfl, fun k x h => by cases h⟩, va_S.rf⟩ (ma_ent_Ls (E := E) (as := [vS 1]) (n := 4) (by decide))
    have e5 : ([vS 1] : List ma_V).map (ma_v E) = [Value.ref b] := by
      rw [List.map_cons, List.map_nil]
      show [ma_sp E 1] = _
      unfold ma_sp
      rw [if_neg (by decide), if_pos rfl, e2]
    rw [e5] at h9
    rw [lg_entry_eq]
    exact h9
  · intro k pc' st' H' locs' la' hk hd hret hI
    rcases ma_ret_cases hret with ⟨-, -, -, h⟩ | ⟨x, rfl, rfl, h, -⟩ | ⟨x, -, -, -, h⟩ | ⟨a, -, -, -, -, -, -, h⟩
    · cases h
    · cases h
      have h1 : ∀ q ∈ locs', s.heap.size ≤ q.base := fun q hq => by
        have := hI.2.2.2 q hq
        unfold ma_A at this
        rw [e1] at this
        exact this
      refine va_forget h1 ?_
      refine W.widen (k := 600000) (n := 7302249) (by rw [Nat.zero_add]; exact Nat.le_trans (Nat.sub_le _ _) hz1) (by rw [Nat.zero_add]; exact Nat.le_trans (Nat.sub_le _ _) hz2) ?_
      exact lw_ret hx hb hr hlocks hd
    · cases h
    · cases h
