/-! ===== runs of the small machine are runs of the great one ===== -/
def ma_ri (k : Nat) : Instr := match k with
  | 0 => .return_
  | 1 => .ireturn
  | 2 => .lreturn
  | _ => .areturn
theorem ma_g_inr {b : Bool} {f : ma_F} {x : (Nat × Nat × Nat × Nat × Nat) ⊕ Nat} (h : ma_g b f = some (Sum.inr x)) : False := by
  unfold ma_g at h
  split at h <;> cases h
theorem ma_j_inr {pc : Nat} {off : Int} {F : Nat → ma_F} {b : Bool} {x : (Nat × Nat × Nat × Nat × Nat) ⊕ Nat} (h : ma_j pc off F b = some (Sum.inr x)) : False := by
  unfold ma_j at h
  split at h <;> cases h
theorem ma_inv_inr {own lv pc sort idx : Nat} {x : (Nat × Nat × Nat × Nat × Nat) ⊕ Nat} (h : ma_inv own lv pc sort idx = some (Sum.inr x)) : ∃ q, (idx, q) ∈ ma_mls own ∧ x = .inl (q.1, q.2.1, q.2.2.1, q.2.2.2.1, pc + 3) ∧
    ((sort = 0 ∧ (q.1 = 0 ∨ q.1 = 4)) ∨ (sort = 1 ∧ (q.1 = 1 ∨ q.1 = 2)) ∨ (sort = 2 ∧ (q.1 = 3 ∨ q.1 = 5))) := by
  unfold ma_inv at h
  split at h
  · next q hq =>
    refine ⟨q, ma_lk_mem hq, ?_⟩
    obtain ⟨k, rest⟩ := q
    dsimp only at h ⊢
    split at h
    all_goals first
      | exact (ma_g_inr h).elim
      | (cases h; exact ⟨rfl, by simp⟩)
      | cases h
  · cases h
set_option maxHeartbeats 4000000 in
theorem ma_sem_inr {xs : Nat → Int32} {L own lv pc len : Nat} {ini : Bool} {ins : Instr} {x : (Nat × Nat × Nat × Nat × Nat) ⊕ Nat} (h : ma_sem xs L own lv ini pc ins len = some (Sum.inr x)) :
    (∃ sort i, ((sort = 0 ∧ ins = .invokestatic i) ∨ (sort = 1 ∧ ins = .invokevirtual i) ∨ (sort = 2 ∧ ins = .invokespecial i)) ∧ len = 3 ∧ ma_inv own lv pc sort i = some (Sum.inr x)) ∨ (∃ k, len = 1 ∧ x = .inr k ∧ ins = ma_ri k ∧ k < 4) := by
  cases ins with
  | invokestatic i =>
    change (if len = 3 then ma_inv own lv pc 0 i else none) = _ at h
    split at h
    · next hl => exact Or.inl ⟨0, i, Or.inl ⟨rfl, rfl⟩, hl, h⟩
    · cases h
  | invokevirtual i =>
    change (if len = 3 then ma_inv own lv pc 1 i else none) = _ at h
    split at h
    · next hl => exact Or.inl ⟨1, i, Or.inr (Or.inl ⟨rfl, rfl⟩), hl, h⟩
    · cases h
  | invokespecial i =>
    change (if len = 3 then ma_inv own lv pc 2 i else none) = _ at h
    split at h
    · next hl => exact Or.inl ⟨2, i, Or.inr (Or.inr ⟨rfl, rfl⟩), hl, h⟩
    · cases h
  | return_ =>
    change (if len = 1 then some (Sum.inr (Sum.inr 0)) else none) = _ at h
    split at h
    · next hl => cases h; exact Or.inr ⟨0, hl, rfl, rfl, by omega⟩
    · cases h
  | ireturn =>
    change (if len = 1 then some (Sum.inr (Sum.inr 1)) else none) = _ at h
    split at h
    · next hl => cases h; exact Or.inr ⟨1, hl, rfl, rfl, by omega⟩
    · cases h
  | lreturn =>
    change (if len = 1 then some (Sum.inr (Sum.inr 2)) else none) = _ at h
    split at h
    · next hl => cases h; exact Or.inr ⟨2, hl, rfl, rfl, by omega⟩
    · cases h
  | areturn =>
    change (if len = 1 then some (Sum.inr (Sum.inr 3)) else none) = _ at h
    split at h
    · next hl => cases h; exact Or.inr ⟨3, hl, rfl, rfl, by omega⟩
    · cases h
  | ldc i =>
    change (match ma_lk (ma_ccs own) i with
      | some q => ma_g (len == 2) (i_con q.1 (pc + 2))
      | none => match ma_lk (ma_sts own) i with
        | some q => ma_g (len == 2) (i_spc (3 + 2 * q.1) (pc + 2))
        | none => none) = _ at h
    split at h
    · exact (ma_g_inr h).elim
    · split at h
      · exact (ma_g_inr h).elim
      · cases h
  | ldc_w i =>
    change (match ma_lk (ma_ccs own) i with
      | some q => ma_g (len == 3) (i_con q.1 (pc + 3))
      | none => none) = _ at h
    split at h
    · exact (ma_g_inr h).elim
    · cases h
  | ldc2_w i =>
    change (match ma_lk (ma_lcs own) i with
      | some q => ma_g (len == 3) (i_lcn q.1 (pc + 3))
      | none => none) = _ at h
    split at h
    · exact (ma_g_inr h).elim
    · cases h
  | getfield i =>
    change (match ma_lk (ma_fls own) i with
      | some q => ma_g (len == 3) (if ma_isr (ma_ty q.1 q.2.1) then i_gtr q.1 q.2.1 (pc + 3) else i_gti q.1 q.2.1 (pc + 3))
      | none => if own = 10 ∧ (i = 9 ∨ i = 15) then ma_g (len == 3) (i_gts (if i = 9 then 0 else 1) (pc + 3)) else none) = _ at h
    split at h
    · exact (ma_g_inr h).elim
    · split at h
      · exact (ma_g_inr h).elim
      · cases h
  | putfield i =>
    change (match ma_lk (ma_fls own) i with
      | some q => ma_g (len == 3 && (!(ma_tx q.1 q.2.1).2.2.2 || (ini && q.1 == own))) (if ma_isr (ma_ty q.1 q.2.1) then i_ptr q.1 q.2.1 (pc + 3) else i_pti q.1 q.2.1 (pc + 3))
      | none => none) = _ at h
    split at h
    · exact (ma_g_inr h).elim
    · cases h
  | getstatic i =>
    change (if own = 10 ∧ i = 38 then ma_g (len == 3) (i_con 1 (pc + 3)) else if own = 10 ∧ i = 1053 then ma_g (len == 3) (i_spc 2 (pc + 3)) else none) = _ at h
    split at h
    · exact (ma_g_inr h).elim
    · split at h
      · exact (ma_g_inr h).elim
      · cases h
  | new i =>
    change (match ma_lk (ma_cls own) i with
      | some q => ma_g (len == 3) (i_new q.1 (pc + 3))
      | none => none) = _ at h
    split at h
    · exact (ma_g_inr h).elim
    · cases h
  | newarray t =>
    cases t with
    | int => exact (ma_g_inr h).elim
    | byte => exact (ma_g_inr h).elim
    | long => exact (ma_g_inr h).elim
    | _ => cases h
  | anewarray i =>
    change (if own = 5 ∧ i = 33 then ma_g (len == 3) (i_nwa 3 (pc + 3)) else if own = 5 ∧ i = 39 then ma_g (len == 3) (i_nwa 4 (pc + 3)) else none) = _ at h
    split at h
    · exact (ma_g_inr h).elim
    · split at h
      · exact (ma_g_inr h).elim
      · cases h
  | if_icmp k off =>
    change ma_j pc off (fun t => i_if2 (ma_cmp k) t (pc + 3)) (len == 3) = _ at h
    exact (ma_j_inr h).elim
  | ifCond k off =>
    change ma_j pc off (fun t => i_if1 (ma_cm0 k) t (pc + 3)) (len == 3) = _ at h
    exact (ma_j_inr h).elim
  | goto off =>
    change ma_j pc off i_gto (len == 3) = _ at h
    exact (ma_j_inr h).elim
  | _ => first | exact (ma_g_inr h).elim | cases h
/-- a method's start and end -/
def ma_pc (E : ma_E) (w : ma_W) (as : List ma_V) : Array Value → State → Prop := fun a U => a = (as.map (ma_v E)).toArray ∧ ma_hp E w U.heap ∧ ma_en E U U.heap
def ma_qc (E : ma_E) (v : Option ma_V) (w : ma_W) : Array Value → State → Outcome → State → Prop := fun _ st o t => o = .returned (v.map (ma_v E)) ∧ ma_hp E w t.heap ∧ ∀ q, q < e_lo E → t.heap[q]? = st.heap[q]?
theorem ma_blind {E : ma_E} {w : ma_W} {as : List ma_V} : FrameBlind (ma_pc E w as) := by
  intro a U g mk h
  exact ⟨h.1, h.2.1, ma_en_same (s := U) (U := U.calling g mk a) rfl h.2.2⟩
theorem ma_good : GoodIn ma_big ma_big := fun w h => ⟨h, good_of_word (List.mem_filter.mp h).2⟩
theorem ma_goodc {c : Jvm.Cond} (h : c ∈ ma_big) : GoodIn ma_big (c :: ma_big) := fun w hw => by
  rcases List.mem_cons.mp hw with rfl | hw
  · exact ma_good _ h
  · exact ma_good _ hw
theorem ma_mtl : ∀ (m : Nat) (t : ma_M), ma_mts m = some t → t.2.2.1 ≤ 17 := by
  have h0 : ∀ t ∈ ma_mt0, t.2.2.1 ≤ 17 := by decide +kernel
  have h1 : ∀ t ∈ ma_mt1, t.2.2.1 ≤ 17 := by decide +kernel
  have h2 : ∀ t ∈ ma_mt2, t.2.2.1 ≤ 17 := by decide +kernel
  have h3 : ∀ t ∈ ma_mt3, t.2.2.1 ≤ 17 := by decide +kernel
  have h4 : ∀ t ∈ ma_mt4, t.2.2.1 ≤ 17 := by decide +kernel
  have h5 : ∀ t ∈ ma_mt5, t.2.2.1 ≤ 17 := by decide +kernel
  have h6 : ∀ t ∈ ma_mt6, t.2.2.1 ≤ 17 := by decide +kernel
  have h7 : ∀ t ∈ ma_mt7, t.2.2.1 ≤ 17 := by decide +kernel
  intro m t h
  unfold ma_mts at h
  split at h
  · exact h0 t (List.mem_of_getElem? h)
  · exact h1 t (List.mem_of_getElem? h)
  · exact h2 t (List.mem_of_getElem? h)
  · exact h3 t (List.mem_of_getElem? h)
  · exact h4 t (List.mem_of_getElem? h)
  · exact h5 t (List.mem_of_getElem? h)
  · exact h6 t (List.mem_of_getElem? h)
  · exact h7 t (List.mem_of_getElem? h)
  · cases h
/-- the room of a method -/
def ma_rm (lv mc ms : Nat) : Room := { frames := lv, cells := mc, slots := ms, locals := 36 * lv }
section S17
variable {E : ma_E} {p : Program} {l : Launch} {e : Env} {R : Room} {s : State} {m : MethodId} {args : Array Value} {below : List Frame} {meth : Method} {c : Code} {cc : ByteArray} {nL own lv pc : Nat} {ini : Bool} {Q : State → Prop} {H : Heap} {locs : List Loc} {la : Array Slot} {cells slots mc ms : Nat}
theorem ma_callk {w w1 : ma_W} {v1 : Option ma_V} {st0 rest : List Value} {a : Array Value} (hr : va_Run p l e R s m args below meth c H locs cells slots mc ms (F0 m pc la st0) rest (ma_qc E v1 w1 a) (ma_A E)) (hI : ma_In E w s H locs) (hlo : e_lo E ≤ s.heap.size) (hlen : (ma_sh w).length ≤ (ma_sh w1).length)
    (kk : ∀ (H1 : Heap) (locs1 : List Loc), ma_In E w1 s H1 locs1 → W p l e R s m args below meth c H1 locs1 (cells + mc) (slots + ms) Q (F0 m (pc + 3) la ((v1.map (ma_v E)).toList ++ rest))) : W p l e R s m args below meth c H locs cells slots Q (F0 m pc la st0) := by
  intro T hT X
  obtain ⟨v, st₀, t, T', L, h0, X', hL, e1, e2, ⟨hv, hb, hk⟩, st⟩ := hr T hT X
  cases hv
  rw [h0] at hk
  obtain ⟨t2, a1, b1⟩ := kk T'.heap (locs ++ L) ⟨by rw [e1]; exact hb, ⟨by rw [e1, hb.1]; have := hI.1.1; have := hI.2.1; omega, fun q h1 h2 => by rw [e1, hk q (Nat.not_le.mp h2)]; exact hI.2.2.1 q h1 h2, fun x hx => (List.mem_append.mp hx).elim (hI.2.2.2 x) (hL x)⟩⟩ T' rfl X'
  exact ⟨t2, st t2 a1, b1⟩
theorem ma_en_at {w : ma_W} (hx : ma_Cx E p R s m args meth c cc nL own lv ini) (hI : ma_In E w s H locs) {U : State} (hU : U.heap = H) (hW : s.WarmedH U.vm) : ma_en E U U.heap := by
  rw [hU]
  exact ma_en_moved hW (ma_en_kept hx.2.2.2.2.2.2.1 (fun q hq => hI.2.2.1 q (Nat.lt_of_lt_of_le hq hx.2.2.2.2.2.2.1) (Nat.not_le.mpr hq)) hx.2.2.2.2.2.1)
theorem ma_rcv1 {w : ma_W} {ci : Nat} : ∀ {as : List ma_V}, ma_rcv w 1 ci as = true → ∃ o r, as = vR o :: r ∧ (ma_sh w)[o]? = some (.inl ci)
  | .inr (.inr (.inl (some o))) :: r, h => ⟨o, r, rfl, of_decide_eq_true h⟩
  | .inr (.inr (.inl none)) :: _, h => by cases h
  | .inr (.inr (.inr _)) :: _, h => by cases h
  | [], h => by cases h
  | .inl _ :: _, h => by cases h
  | .inr (.inl _) :: _, h => by cases h
theorem ma_rcv2 {w : ma_W} {ci : Nat} : ∀ {as : List ma_V}, ma_rcv w 2 ci as = true → ∃ a r, as = vS a :: r ∧ 3 ≤ a ∧ a < 33 ∧ a % 2 = 1
  | .inr (.inr (.inr a)) :: r, h => ⟨a, r, rfl, of_decide_eq_true h⟩
  | .inr (.inr (.inl none)) :: _, h => by cases h
  | .inr (.inr (.inl (some _))) :: _, h => by cases h
  | [], h => by cases h
  | .inl _ :: _, h => by cases h
  | .inr (.inl _) :: _, h => by cases h
theorem ma_rcv3 {w : ma_W} {ci : Nat} : ∀ {as : List ma_V}, ma_rcv w 3 ci as = true → ∃ o r, as = vR o :: r
  | .inr (.inr (.inl (some o))) :: r, _ => ⟨o, r, rfl⟩
  | .inr (.inr (.inl none)) :: _, h => by cases h
  | .inr (.inr (.inr _)) :: _, h => by cases h
  | [], h => by cases h
  | .inl _ :: _, h => by cases h
  | .inr (.inl _) :: _, h => by cases h
theorem ma_rcv5 {w : ma_W} {ci : Nat} : ∀ {as : List ma_V}, ma_rcv w 5 ci as = true → ∃ o r, as = vR o :: r
  | .inr (.inr (.inl (some o))) :: r, _ => ⟨o, r, rfl⟩
  | .inr (.inr (.inl none)) :: _, h => by cases h
  | .inr (.inr (.inr _)) :: _, h => by cases h
  | [], h => by cases h
  | .inl _ :: _, h => by cases h
  | .inr (.inl _) :: _, h => by cases h
/-- a call of the small machine is one of the great one -/
theorem ma_vrun {w w1 : ma_W} {st : List ma_V} {idx sort : Nat} {ins : Instr} {q : Nat × Nat × Nat × Nat × Nat × Nat × Nat} {r : ma_M × List ma_V × List ma_V} {v1 : Option ma_V} (hx : ma_Cx E p R s m args meth c cc nL own lv ini) (hI : ma_In E w s H locs) (hL : la.size = nL)
    (hd : decode cc pc = .ok (ins, 3)) (hi : (sort = 0 ∧ ins = .invokestatic idx) ∨ (sort = 1 ∧ ins = .invokevirtual idx) ∨ (sort = 2 ∧ ins = .invokespecial idx)) (hq : (idx, q) ∈ ma_mls own) (hk : (sort = 0 ∧ (q.1 = 0 ∨ q.1 = 4)) ∨ (sort = 1 ∧ (q.1 = 1 ∨ q.1 = 2)) ∨ (sort = 2 ∧ (q.1 = 3 ∨ q.1 = 5)))
    (hc : ma_call w lv (q.1, q.2.1, q.2.2.1, q.2.2.2.1, pc + 3) st = some r)
    (hM : ∀ t, ma_mts q.2.2.1 = some t → t.1 ≠ 7 → Met l t.2.2.2.2.1 (Jvm.Cond.code t.2.2.2.2.1 t.2.1 t.2.2.1 t.2.2.2.1 :: ma_big) (ma_rm t.2.2.2.2.2.1 mc ms) (ma_pc E w r.2.1) (ma_qc E v1 w1) mc ms (ma_A E))
    (hf : cells + mc ≤ R.cells ∧ slots + ms ≤ R.slots) :
    va_Run p l e R s m args below meth c H locs cells slots mc ms (F0 m pc la (st.map (ma_v E))) (r.2.2.map (ma_v E)) (ma_qc E v1 w1 (r.2.1.map (ma_v E)).toArray) (ma_A E) := by
  have hok := ma_mls_ok own _ hq
  obtain ⟨kd, ci, m', na, wl, wa, wb⟩ := q
  dsimp only at hk hc hM hok
  unfold ma_call at hc
  dsimp only at hc
  split at hc
  · cases hc
  · next t ht =>
    split at hc
    · next hg =>
      cases hc
      simp only [Bool.and_eq_true, decide_eq_true_eq] at hg
      obtain ⟨⟨⟨⟨g1, g2⟩, g3⟩, g4⟩, g5⟩ := hg
      dsimp only at hM ⊢
      have hok2 : (decide (t.1 ≠ 7) && ma_mok1 own (idx, kd, ci, m', na, wl, wa, wb) t) = true := by
        unfold ma_mok at hok
        dsimp only at hok
        rcases hk with ⟨-, h | h⟩ | ⟨-, h | h⟩ | ⟨-, h | h⟩ <;> (subst h; simpa only [ht] using hok)
      rw [Bool.and_eq_true, decide_eq_true_eq] at hok2
      obtain ⟨ht7, hok3⟩ := hok2
      have hMt := hM t ht ht7
      obtain ⟨k1, k2, k3, k4, k5⟩ := (ma_mtk_get ht).resolve_left ht7
      have hml := ma_mtl m' t ht
      have hts := hx.2.2.2.2.1
      have hfix : CallFix p m c cc nL s args ma_big (ma_on own) := ⟨hx.1, hx.2.1, hx.2.2.1, hx.2.2.2.1, hts⟩
      have hroom : (ma_rm t.2.2.2.2.2.1 mc ms).frames + 1 ≤ R.frames ∧ 8 + (t.2.2.1 + 11) + (ma_rm t.2.2.2.2.2.1 mc ms).locals ≤ R.locals := by
        have a1 := hx.2.2.2.2.2.2.2.1
        have a2 := hx.2.2.2.2.2.2.2.2.1
        show t.2.2.2.2.2.1 + 1 ≤ R.frames ∧ 8 + (t.2.2.1 + 11) + 36 * t.2.2.2.2.2.1 ≤ R.locals
        omega
      have hpc : ∀ U : State, U.heap = H → s.WarmedH U.vm → ma_pc E w (st.take na).reverse ((st.take na).reverse.map (ma_v E)).toArray U := fun U hU hW => ⟨rfl, by rw [hU]; exact hI.1, ma_en_at hx hI hU hW⟩
      have hsum : (((st.drop na).map (ma_v E)).map fun v => v.category).sum ≤ 8 := by rw [ma_catsum]; exact g3
      have hst : st.map (ma_v E) = ((st.take na).reverse.map (ma_v E)).reverse ++ (st.drop na).map (ma_v E) := by
        rw [← List.map_reverse, List.reverse_reverse, ← List.map_append, List.take_append_drop]
      have hlen : (st.take na).reverse.length = na := by rw [List.length_reverse, List.length_take]; omega
      generalize hAs : (st.take na).reverse = As at *
      generalize hRs : st.drop na = Rs at *
      have hR8 := lv_room (m := m) (pc := pc) (ls := la) (rest := st.map (ma_v E)) (st := Rs.map (ma_v E)) hsum
      unfold ma_mok1 at hok3
      dsimp only at hok3
      rcases hk with ⟨hs, h | h⟩ | ⟨hs, h | h⟩ | ⟨hs, h | h⟩
      · subst h
        have hins : ins = .invokestatic idx := by
          rcases hi with h | h | h
          · exact h.2
          · omega
          · omega
        subst hins
        simp only [Bool.and_eq_true] at hok3
        obtain ⟨⟨w1', w2'⟩, w3'⟩ := hok3
        unfold ma_par at w3'
        rw [decide_eq_true_eq] at w3'
        exact va_runS (n := na) hfix hMt ⟨callB_of na hts (ma_goodc k1) rfl rfl rfl (hts _ k2) (hts _ (ma_wd_in w1')) ⟨k4.1, k4.2, w3'⟩ hroom, hts _ (ma_wd_in w2')⟩ ⟨ma_blind, hpc⟩ rfl (by rw [List.length_map]; exact hlen) hL hst hR8 hd hf
      · subst h
        have hins : ins = .invokestatic idx := by
          rcases hi with h | h | h
          · exact h.2
          · omega
          · omega
        subst hins
        simp only [Bool.and_eq_true, decide_eq_true_eq] at hok3
        obtain ⟨⟨w1', w2'⟩, w3'⟩ := hok3
        unfold ma_par at w3'
        rw [decide_eq_true_eq] at w3'
        exact va_runSN (n := na) (host := RX5) hfix hMt ⟨va_cnB na hts (ma_goodc k1) rfl rfl rfl (hx.2.2.2.2.2.1.2.2.2.1 _ w1') (hts _ k2) ⟨k4.1, k4.2, w3'⟩ hroom, hts _ (ma_wd_in w2'), trivial⟩ ⟨ma_blind, hpc⟩ rfl (by rw [List.length_map]; exact hlen) hL hst hR8 hd hf
      · subst h
        have hins : ins = .invokevirtual idx := by
          rcases hi with h | h | h
          · omega
          · exact h.2
          · omega
        subst hins
        simp only [Bool.and_eq_true, decide_eq_true_eq] at hok3
        obtain ⟨⟨⟨⟨⟨⟨w1', w2'⟩, w3'⟩, w4'⟩, w5'⟩, w6'⟩, w7'⟩ := hok3
        unfold ma_par at w7'
        rw [decide_eq_true_eq] at w7'
        obtain ⟨o, As', rfl, g6⟩ := ma_rcv1 g5
        · have hat := hI.1.2 _ _ g6
          have hrec := va_recv hx.2.2.2.2.2.1.1 (ma_one hat) (ma_cok_all ci w5').1.1 (q0 := 0) rfl
          exact va_runV (n := na - 1) (C := ma_rx ci) (As := As'.map (ma_v E)) (b := e_lo E + o) hfix hMt ⟨callB_of (na - 1) hts (ma_goodc k1) rfl rfl rfl (hts _ k2) (hts _ (ma_wd_in w1')) ⟨k4.1, k4.2, w7'⟩ hroom, hts _ (ma_wd_in w2'), by rw [← w4']; exact hts _ (ma_sl_in w3')⟩ ⟨ma_blind, hrec, hpc⟩ rfl (by rw [List.length_map]; rw [List.length_cons] at hlen; omega) hL (by rw [hst, List.map_cons, List.reverse_cons, List.append_assoc]; rfl) hR8 hd hf
      · subst h
        have hins : ins = .invokevirtual idx := by
          rcases hi with h | h | h
          · omega
          · exact h.2
          · omega
        subst hins
        simp only [Bool.and_eq_true, decide_eq_true_eq] at hok3
        obtain ⟨⟨⟨⟨⟨w1', w2'⟩, w3'⟩, w4'⟩, w6'⟩, w7'⟩ := hok3
        unfold ma_par at w7'
        rw [decide_eq_true_eq] at w7'
        obtain ⟨a, As', rfl, ga, gb, gc⟩ := ma_rcv2 g5
        have hdummy : True := trivial
        · skip
          have hrec := vk_recv hx.2.2.2.2.2.1.2.2.2.2.2.2.1 (i := (a - 3) / 2) (by omega) hI.2
          have e1 : ma_v E (vS a) = .ref (e_ak E ((a - 3) / 2)) := ma_sp_str ga gc
          have e2 : (Sum.inr (Sum.inr (Sum.inr a)) :: As').map (ma_v E) = .ref (e_ak E ((a - 3) / 2)) :: As'.map (ma_v E) := by rw [List.map_cons, e1]
          rw [e2] at hpc hst ⊢
          exact va_runV (n := na - 1) (C := "java/lang/String") (As := As'.map (ma_v E)) (b := e_ak E ((a - 3) / 2)) hfix hMt ⟨callB_of (na - 1) hts (ma_goodc k1) rfl rfl rfl (hts _ k2) (hts _ (ma_wd_in w1')) ⟨k4.1, k4.2, w7'⟩ hroom, hts _ (ma_wd_in w2'), by rw [← w4']; exact hts _ (ma_sl_in w3')⟩ ⟨ma_blind, hrec, hpc⟩ rfl (by rw [List.length_map]; rw [List.length_cons] at hlen; omega) hL (by rw [hst, List.reverse_cons, List.append_assoc]; rfl) hR8 hd hf
      · subst h
        have hins : ins = .invokespecial idx := by
          rcases hi with h | h | h
          · omega
          · omega
          · exact h.2
        subst hins
        simp only [Bool.and_eq_true, decide_eq_true_eq] at hok3
        obtain ⟨⟨⟨⟨⟨w1', w2'⟩, w3'⟩, w4'⟩, w6'⟩, w7'⟩ := hok3
        unfold ma_par at w7'
        rw [decide_eq_true_eq] at w7'
        obtain ⟨o, As', rfl⟩ := ma_rcv3 g5
        · rw [w4'] at hMt k1
          exact va_runI (n := na - 1) (As := As'.map (ma_v E)) (b := e_lo E + o) hfix hMt ⟨callB_of (na - 1) hts (ma_goodc k1) rfl rfl rfl (hts _ k2) (hts _ (ma_wd_in w1')) ⟨k4.1, k4.2, w7'⟩ hroom, w3', hts _ (ma_wd_in w2')⟩ ⟨ma_blind, hpc⟩ rfl (by rw [List.length_map]; rw [List.length_cons] at hlen; omega) hL (by rw [hst, List.map_cons, List.reverse_cons, List.append_assoc]; rfl) hR8 hd hf
      · subst h
        have hins : ins = .invokespecial idx := by
          rcases hi with h | h | h
          · omega
          · omega
          · exact h.2
        subst hins
        simp only [Bool.and_eq_true, decide_eq_true_eq] at hok3
        obtain ⟨⟨⟨⟨⟨w1', w2'⟩, w3'⟩, w4'⟩, w6'⟩, w7'⟩ := hok3
        unfold ma_par at w7'
        rw [decide_eq_true_eq] at w7'
        obtain ⟨o, As', rfl⟩ := ma_rcv5 g5
        · rw [w4'] at hMt k1
          exact va_runIN (n := na - 1) (host := RX5) (As := As'.map (ma_v E)) (b := e_lo E + o) hfix hMt ⟨va_cnB (na - 1) hts (ma_goodc k1) rfl rfl rfl (hx.2.2.2.2.2.1.2.2.2.1 _ w1') (hts _ k2) ⟨k4.1, k4.2, w7'⟩ hroom, w3', hts _ (ma_wd_in w2')⟩ ⟨ma_blind, hpc⟩ rfl (by rw [List.length_map]; rw [List.length_cons] at hlen; omega) hL (by rw [hst, List.map_cons, List.reverse_cons, List.append_assoc]; rfl) hR8 hd hf
    · cases hc
end S17
