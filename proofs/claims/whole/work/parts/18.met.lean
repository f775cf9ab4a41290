/-! ===== the contract of every method, out of the small machine's run ===== -/
theorem ma_arg_args {E : ma_E} : ∀ (as : List ma_V) (i j : Nat) (v : ma_V), (ma_arg as)[j]? = some v → ma_df v = true → (i + j, ma_v E v) ∈ lv_args i (as.map (ma_v E))
  | [], i, j, v, h, _ => by cases h
  | .inr (.inl x) :: r, i, j, v, h, hd => by
    match j, h with
    | 0, h => cases h; exact List.mem_cons_self
    | 1, h => cases h; cases hd
    | j + 2, h =>
      refine List.mem_cons_of_mem _ ?_
      have ih := ma_arg_args (E := E) r (i + 2) j v h hd
      have e : (if (ma_v E (vL x)).category = 2 then i + 2 else i + 1) = i + 2 := rfl
      rw [e, show i + (j + 2) = i + 2 + j by omega]
      exact ih
  | .inl x :: r, i, j, v, h, hd => by
    match j, h with
    | 0, h => cases h; exact List.mem_cons_self
    | j + 1, h =>
      refine List.mem_cons_of_mem _ ?_
      have ih := ma_arg_args (E := E) r (i + 1) j v h hd
      have e : (if (ma_v E (vI x)).category = 2 then i + 2 else i + 1) = i + 1 := rfl
      rw [e, show i + (j + 1) = i + 1 + j by omega]
      exact ih
  | .inr (.inr y) :: r, i, j, v, h, hd => by
    match j, h with
    | 0, h => cases h; exact List.mem_cons_self
    | j + 1, h =>
      refine List.mem_cons_of_mem _ ?_
      have ih := ma_arg_args (E := E) r (i + 1) j v h hd
      have e : (if (ma_v E (.inr (.inr y))).category = 2 then i + 2 else i + 1) = i + 1 := by rw [ma_v_cat (fun x hx => by cases hx)]; rfl
      rw [e, show i + (j + 1) = i + 1 + j by omega]
      exact ih
theorem ma_arg_len {E : ma_E} : ∀ (as : List ma_V), (lg_sl (as.map (ma_v E))).length = (ma_arg as).length
  | [] => rfl
  | .inr (.inl x) :: r => by
    have ih := ma_arg_len (E := E) r
    show (lg_sl (ma_v E (vL x) :: r.map (ma_v E))).length = (vL x :: vS 0 :: ma_arg r).length
    simp only [lg_sl, List.flatMap_cons, List.length_append, List.length_cons] at ih ⊢
    rw [ih]
    show _ + _ = _
    simp [ma_v, Value.category]
    omega
  | .inl x :: r => by
    have ih := ma_arg_len (E := E) r
    show (lg_sl (ma_v E (vI x) :: r.map (ma_v E))).length = (vI x :: ma_arg r).length
    simp only [lg_sl, List.flatMap_cons, List.length_append, List.length_cons] at ih ⊢
    rw [ih]
    simp [ma_v, Value.category]
    omega
  | .inr (.inr y) :: r => by
    have ih := ma_arg_len (E := E) r
    have hc : (ma_v E (.inr (.inr y))).category = 1 := ma_v_cat (fun x hx => by cases hx)
    show (lg_sl (ma_v E (.inr (.inr y)) :: r.map (ma_v E))).length = (Sum.inr (Sum.inr y) :: ma_arg r).length
    simp only [lg_sl, List.flatMap_cons, List.length_append, List.length_cons] at ih ⊢
    rw [ih]
    simp [hc]
    omega
theorem ma_ent_Ls {E : ma_E} {as : List ma_V} {n : Nat} (h : (ma_arg as).length ≤ n) : ma_Ls E ((lg_sl (as.map (ma_v E)) ++ List.replicate (n - (lg_sl (as.map (ma_v E))).length) Slot.unset).toArray) n (ma_ent n as) := by
  have h1 := lv_entry (as.map (ma_v E)) (n := n) (by rw [ma_arg_len]; exact h)
  refine ⟨h1.1, h1.2.1, by simp [ma_ent]; omega, fun j v hj hd => ?_⟩
  unfold ma_ent at hj
  by_cases hl : j < (ma_arg as).length
  · rw [List.getElem?_append_left hl] at hj
    have h2 := ma_arg_args (E := E) as 0 j v hj hd
    rw [Nat.zero_add] at h2
    exact h1.2.2 _ h2
  · rw [List.getElem?_append_right (by omega)] at hj
    have := List.eq_of_mem_replicate (List.mem_of_getElem? hj)
    subst this
    cases hd
/-- the inner run -/
def ma_Sim (E : ma_E) (n : Nat) : Prop := ∀ (m0 pc : Nat) (t : ma_M) (ls st : List ma_V) (w : ma_W) (v : Option ma_V) (w' : ma_W), ma_mts m0 = some t → ma_run (e_xs E) (e_ll E) n m0 pc ls st w = some (v, w') →
  (∃ x, ma_sh w' = ma_sh w ++ x) ∧
  ∀ {p : Program} {l : Launch} {e : Env} {R : Room} {s : State} {m : MethodId} {args : Array Value} {below : List Frame} {meth : Method} {c : Code} {Q : State → Prop} {cells slots : Nat},
    ma_Cx E p R s m args meth c t.2.1 t.2.2.1 t.1 t.2.2.2.2.2.1 (t.2.2.2.2.1.name == "<init>") → cells + ((ma_sh w').length - (ma_sh w).length) ≤ R.cells → slots + (ma_szs (ma_sh w') - ma_szs (ma_sh w)) ≤ R.slots →
    (∀ (k pc' : Nat) (st' : List ma_V) (H' : Heap) (locs' : List Loc) (la' : Array Slot), k < 4 → decode t.2.1 pc' = .ok (ma_ri k, 1) → ma_ret k t.2.2.2.1 st' = some v → ma_In E w' s H' locs' → W p l e R s m args below meth c H' locs' (cells + ((ma_sh w').length - (ma_sh w).length)) (slots + (ma_szs (ma_sh w') - ma_szs (ma_sh w))) Q (F0 m pc' la' (st'.map (ma_v E)))) →
    ma_G E p l e R s m args below meth c t.2.2.1 Q pc ls st w cells slots
theorem ma_szs_app {a b : List ma_Sh} : ma_szs (a ++ b) = ma_szs a + ma_szs b := by
  unfold ma_szs
  rw [List.map_append, List.sum_append]
theorem ma_ext_len {w w' : ma_W} (h : ∃ x, ma_sh w' = ma_sh w ++ x) : (ma_sh w).length ≤ (ma_sh w').length ∧ ma_szs (ma_sh w) ≤ ma_szs (ma_sh w') := by
  obtain ⟨x, hx⟩ := h
  rw [hx, List.length_append, ma_szs_app]
  omega
theorem ma_ret_cases {k : Nat} {ret : Option FieldType} {st : List ma_V} {v : Option ma_V} (h : ma_ret k ret st = some v) :
    (k = 0 ∧ st = [] ∧ ret = none ∧ v = none) ∨ (∃ x, k = 1 ∧ st = [vI x] ∧ v = some (vI x) ∧ (ret = some .int ∨ ∃ ty, (ty = .boolean ∨ ty = .char ∨ ty = .byte) ∧ ret = some ty ∧ vp_nar ty x = x)) ∨ (∃ x, k = 2 ∧ st = [vL x] ∧ ret = some .long ∧ v = some (vL x)) ∨ (∃ a, k = 3 ∧ st = [vS a] ∧ ret = some (.object "java/lang/String") ∧ 3 ≤ a ∧ a < 33 ∧ a % 2 = 1 ∧ v = some (vS a)) := by
  unfold ma_ret at h
  split at h
  · split at h
    · next hn => cases h; exact Or.inl ⟨rfl, rfl, hn, rfl⟩
    · cases h
  · next x =>
    split at h
    · cases h; exact Or.inr (Or.inl ⟨x, rfl, rfl, rfl, Or.inl rfl⟩)
    · split at h
      · next hv => cases h; exact Or.inr (Or.inl ⟨x, rfl, rfl, rfl, Or.inr ⟨_, Or.inl rfl, rfl, of_decide_eq_true hv⟩⟩)
      · cases h
    · split at h
      · next hv => cases h; exact Or.inr (Or.inl ⟨x, rfl, rfl, rfl, Or.inr ⟨_, Or.inr (Or.inl rfl), rfl, of_decide_eq_true hv⟩⟩)
      · cases h
    · split at h
      · next hv => cases h; exact Or.inr (Or.inl ⟨x, rfl, rfl, rfl, Or.inr ⟨_, Or.inr (Or.inr rfl), rfl, of_decide_eq_true hv⟩⟩)
      · cases h
    · cases h
  · next x =>
    split at h
    · next hn => cases h; exact Or.inr (Or.inr (Or.inl ⟨x, rfl, rfl, hn, rfl⟩))
    · cases h
  · next a =>
    split at h
    · next hn => cases h; exact Or.inr (Or.inr (Or.inr ⟨a, rfl, rfl, hn.1, hn.2.1, hn.2.2.1, hn.2.2.2, rfl⟩))
    · cases h
  · cases h
theorem ma_vpn {t : FieldType} {x : Int32} (ht : t = .boolean ∨ t = .char ∨ t = .byte) (h : vp_nar t x = x) : narrow t (.int x) = .int x := by
  have key : ∃ y, narrow t (.int x) = .int y := by
    rcases ht with rfl | rfl | rfl <;> exact ⟨_, rfl⟩
  obtain ⟨y, hy⟩ := key
  unfold vp_nar at h
  rw [hy] at h
  rw [hy]
  exact congrArg _ h
set_option maxHeartbeats 2000000 in
theorem ma_met {E : ma_E} {n : Nat} (ih : ma_Sim E n) (l : Launch) {m0 : Nat} {t : ma_M} {as : List ma_V} {w w' : ma_W} {v : Option ma_V} (ht : ma_mts m0 = some t) (h7 : t.1 ≠ 7) (hrun : ma_run (e_xs E) (e_ll E) n m0 0 (ma_ent t.2.2.1 as) [] w = some (v, w')) (hlen : (ma_arg as).length ≤ t.2.2.1) :
    Met l t.2.2.2.2.1 (Jvm.Cond.code t.2.2.2.2.1 t.2.1 t.2.2.1 t.2.2.2.1 :: ma_big) (ma_rm t.2.2.2.2.2.1 ((ma_sh w').length - (ma_sh w).length) (ma_szs (ma_sh w') - ma_szs (ma_sh w))) (ma_pc E w as) (ma_qc E v w') ((ma_sh w').length - (ma_sh w).length) (ma_szs (ma_sh w') - ma_szs (ma_sh w)) (ma_A E) := by
  obtain ⟨k1, k2, k3, k4, k5⟩ := (ma_mtk_get ht).resolve_left h7
  refine Met.ofW (cc := t.2.1) (maxL := t.2.2.1) (ret := t.2.2.2.1) k5 rfl ?_
  intro p e s m args below meth c s₁ B hml hP
  obtain ⟨rfl, hhp, hen⟩ := hP
  have hts := atoms_spec (ws := Jvm.Cond.code t.2.2.2.2.1 t.2.1 t.2.2.1 t.2.2.2.1 :: ma_big) B.pre
  have hown : s.vm.findClass t.2.2.2.2.1.cls = some m.cls := findClass_of_methodNamed B.named
  rw [k3] at hown
  have hx : ma_Cx E p (ma_rm t.2.2.2.2.2.1 ((ma_sh w').length - (ma_sh w).length) (ma_szs (ma_sh w') - ma_szs (ma_sh w))) s m ((as.map (ma_v E)).toArray) meth c t.2.1 t.2.2.1 t.1 t.2.2.2.2.2.1 (t.2.2.2.2.1.name == "<init>") := by
    refine ⟨B.exec, B.bytes, hml, hown, fun w hw => hts w (List.mem_cons_of_mem _ hw), hen, by rw [hhp.1]; omega, Nat.le_refl _, Nat.le_refl _, fun h => ?_⟩
    rw [(name_of_methodNamed B.named B.method).1]
    exact eq_of_beq h
  have hS := (ih m0 0 t (ma_ent t.2.2.1 as) [] w v w' ht hrun).2 (l := l) (e := e) (below := below) (Q := MQ below (ma_qc E v w') ((as.map (ma_v E)).toArray) s ((ma_sh w').length - (ma_sh w).length) (ma_szs (ma_sh w') - ma_szs (ma_sh w)) (ma_A E)) (cells := 0) (slots := 0) hx (by rw [Nat.zero_add]; exact Nat.le_refl _) (by rw [Nat.zero_add]; exact Nat.le_refl _) ?_
  · rw [lg_entry_eq]
    exact hS s.heap [] _ ⟨hhp, va_S.rf⟩ (ma_ent_Ls hlen)
  · intro k pc' st' H' locs' la' hk hd hret hI
    rw [Nat.zero_add, Nat.zero_add]
    have hr := B.returns
    have hlocks := B.notSynchronized
    have hbl : ∀ q, q < e_lo E → H'[q]? = s.heap[q]? := fun q hq => hI.2.2.1 q (by rw [hhp.1]; omega) (Nat.not_le.mpr hq)
    have hf : ∀ q ∈ locs', ma_A E q.base := hI.2.2.2
    rcases ma_ret_cases hret with ⟨rfl, rfl, hn, rfl⟩ | ⟨x, rfl, rfl, rfl, hn | ⟨ty, hty, hn, hv⟩⟩ | ⟨x, rfl, rfl, hn, rfl⟩ | ⟨a, rfl, rfl, hn, ha, hb, hc, rfl⟩
    · rw [hn] at hr
      exact W.vret B.exec B.bytes hr (fun t' ht' hW => ⟨rfl, by rw [ht']; exact hI.1, fun q hq => by rw [ht']; exact hbl q hq⟩) hf hd
    · rw [hn] at hr
      exact W.iret (v := x) B.exec B.bytes hr (fun t' ht' hW => ⟨rfl, by rw [ht']; exact hI.1, fun q hq => by rw [ht']; exact hbl q hq⟩) hf hd
    · rw [hn] at hr
      exact W.zret (v := x) B.exec B.bytes hr (ma_vpn hty hv) (fun t' ht' hW => ⟨rfl, by rw [ht']; exact hI.1, fun q hq => by rw [ht']; exact hbl q hq⟩) hf hd
    · rw [hn] at hr
      exact W.lret (v := x) B.exec B.bytes hr (fun t' ht' hW => ⟨rfl, by rw [ht']; exact hI.1, fun q hq => by rw [ht']; exact hbl q hq⟩) hf hd
    · rw [hn] at hr
      have e1 : ma_v E (vS a) = .ref (e_ak E ((a - 3) / 2)) := ma_sp_str ha hc
      show W _ _ _ _ _ _ _ _ _ _ _ _ _ _ _ (F0 m pc' la' [ma_v E (vS a)])
      rw [e1]
      exact W.aret B.exec B.bytes hr (Or.inl ⟨_, rfl⟩) (Or.inr ⟨_, rfl⟩) (fun t' ht' hW => ⟨by rw [Option.map_some, e1], by rw [ht']; exact hI.1, fun q hq => by rw [ht']; exact hbl q hq⟩) hf hd
theorem ma_sim {E : ma_E} : ∀ n, ma_Sim E n
  | 0 => by
    intro m0 pc t ls st w v w' ht h
    cases h
  | n + 1 => by
    have ih := ma_sim (E := E) n
    intro m0 pc t ls st w v w' ht h
    unfold ma_run at h
    rw [ht] at h
    dsimp only at h
    split at h
    · cases h
    · next f hpg =>
      split at h
      · cases h
      · next c' hf =>
        unfold ma_pg at hpg
        rw [ht] at hpg
        dsimp only at hpg
        split at hpg
        · next r hd =>
          obtain ⟨ins, len⟩ := r
          have hsn := sn_all (E := E) hd hpg
          obtain ⟨x1, hx1⟩ := hsn.1 _ _ hf
          obtain ⟨⟨x2, hx2⟩, hk⟩ := ih m0 c'.1 t c'.2.1 c'.2.2.1 c'.2.2.2 v w' ht h
          have hx1' : ma_sh c'.2.2.2 = ma_sh w ++ x1 := hx1
          have l1 := ma_ext_len ⟨x1, hx1'⟩
          have l2 := ma_ext_len ⟨x2, hx2⟩
          refine ⟨⟨x1 ++ x2, by rw [hx2, hx1', List.append_assoc]⟩, ?_⟩
          intro p l e R s m args below meth c Q cells slots hx hc hs hret H locs la hI hL
          have e1 : cells + ((ma_sh c'.2.2.2).length - (ma_sh w).length) + ((ma_sh w').length - (ma_sh c'.2.2.2).length) = cells + ((ma_sh w').length - (ma_sh w).length) := by omega
          have e2 : slots + (ma_szs (ma_sh c'.2.2.2) - ma_szs (ma_sh w)) + (ma_szs (ma_sh w') - ma_szs (ma_sh c'.2.2.2)) = slots + (ma_szs (ma_sh w') - ma_szs (ma_sh w)) := by omega
          refine hsn.2 hx hL.2.2.1 hf (by omega) (by omega) (by omega) (by omega) ?_ H locs la hI hL
          refine hk (cells := cells + ((ma_sh c'.2.2.2).length - (ma_sh w).length)) (slots := slots + (ma_szs (ma_sh c'.2.2.2) - ma_szs (ma_sh w))) hx (by rw [e1]; exact hc) (by rw [e2]; exact hs) ?_
          rw [e1, e2]
          exact hret
        · cases hpg
    · next q hpg =>
      split at h
      · cases h
      · next r hcall =>
        split at h
        · cases h
        · next b hb =>
          unfold ma_pg at hpg
          rw [ht] at hpg
          dsimp only at hpg
          split at hpg
          · next r0 hd =>
            obtain ⟨ins, len⟩ := r0
            rcases ma_sem_inr hpg with ⟨sort, idx, hi, hlen, hinv⟩ | ⟨k, -, hk, -⟩
            · dsimp only at hlen
              subst hlen
              obtain ⟨q', hq', hqe, hkind⟩ := ma_inv_inr hinv
              cases hqe
              obtain ⟨v1, w1⟩ := b
              have hc2 := hcall
              unfold ma_call at hc2
              dsimp only at hc2
              split at hc2
              · cases hc2
              · next t' ht' =>
                split at hc2
                · next hg =>
                  simp only [Bool.and_eq_true, decide_eq_true_eq] at hg
                  have g4 := hg.1.2
                  cases hc2
                  dsimp only at hb h
                  obtain ⟨x1, hx1⟩ := (ih q'.2.2.1 0 t' _ [] w v1 w1 ht' hb).1
                  obtain ⟨⟨x2, hx2⟩, hk⟩ := ih m0 (pc + 3) t ls _ w1 v w' ht h
                  have l1 := ma_ext_len ⟨x1, hx1⟩
                  have l2 := ma_ext_len ⟨x2, hx2⟩
                  refine ⟨⟨x1 ++ x2, by rw [hx2, hx1, List.append_assoc]⟩, ?_⟩
                  intro p l e R s m args below meth c Q cells slots hx hc hs hret H locs la hI hL
                  have e1 : cells + ((ma_sh w1).length - (ma_sh w).length) + ((ma_sh w').length - (ma_sh w1).length) = cells + ((ma_sh w').length - (ma_sh w).length) := by omega
                  have e2 : slots + (ma_szs (ma_sh w1) - ma_szs (ma_sh w)) + (ma_szs (ma_sh w') - ma_szs (ma_sh w1)) = slots + (ma_szs (ma_sh w') - ma_szs (ma_sh w)) := by omega
                  have hrun := ma_vrun (l := l) (e := e) (below := below) (cells := cells) (slots := slots) (mc := (ma_sh w1).length - (ma_sh w).length) (ms := ma_szs (ma_sh w1) - ma_szs (ma_sh w)) (v1 := v1) (w1 := w1) hx hI hL.1 hd hi hq' hkind hcall (fun t2 ht2 h72 => by
                    rw [ht'] at ht2
                    cases ht2
                    exact ma_met ih l ht' h72 hb g4) ⟨by omega, by omega⟩
                  refine ma_callk hrun hI hx.2.2.2.2.2.2.1 l1.1 (fun H1 locs1 hI1 => ?_)
                  have k1 := hk (cells := cells + ((ma_sh w1).length - (ma_sh w).length)) (slots := slots + (ma_szs (ma_sh w1) - ma_szs (ma_sh w))) hx (by rw [e1]; exact hc) (by rw [e2]; exact hs) (by rw [e1, e2]; exact hret) H1 locs1 la hI1 hL
                  have e3 : (v1.map (ma_v E)).toList ++ (st.drop q'.2.2.2.1).map (ma_v E) = (v1.toList ++ st.drop q'.2.2.2.1).map (ma_v E) := by
                    cases v1 <;> simp
                  rw [e3]
                  exact k1
                · cases hc2
            · cases hk
          · cases hpg
    · next k hpg =>
      split at h
      · cases h
      · next v2 hv2 =>
        cases h
        refine ⟨⟨[], by rw [List.append_nil]⟩, ?_⟩
        intro p l e R s m args below meth c Q cells slots hx hc hs hret H locs la hI hL
        unfold ma_pg at hpg
        rw [ht] at hpg
        dsimp only at hpg
        split at hpg
        · next r0 hd =>
          obtain ⟨ins, len⟩ := r0
          rcases ma_sem_inr hpg with ⟨sort, idx, hi, hlen, hinv⟩ | ⟨k', hlen, hk, hins, hk4⟩
          · obtain ⟨q', hq', hqe, hkind⟩ := ma_inv_inr hinv
            cases hqe
          · cases hk
            dsimp only at hins hlen
            subst hins
            subst hlen
            have h9 := hret k pc st H locs la hk4 hd hv2 hI
            rw [Nat.sub_self, Nat.sub_self] at h9
            exact h9
        · cases hpg
