/-! ===== references in arrays, new cells, the JDK's own ===== -/
section S11
variable {E : ma_E} {cc : ByteArray} {own lv pc : Nat} {ini : Bool}
theorem sn_aast (hc1 : ma_cok 1) (hc2 : ma_cok 2) (hd : decode cc pc = .ok (.aastore, 1)) : ma_Snd E cc own lv ini pc (i_aast (pc + 1)) := by
  refine ma_snd1 (fun c c' h => ?_) ?_
  · unfold i_aast at h
    split at h
    · split at h <;> cases h; rfl
    · cases h
  · intro p l e R s m args below meth c nL Q cells slots ls st w r hx hl hf _ _ kk H locs la hI hL
    have core : ∀ (v a t ci n : Nat) (i : Int32) (st' : List ma_V) (C : String), ma_rx ci = C → ma_cok ci → 3 ≤ t → (ma_tys E)[t]? = some (e_cy E t, .object C) → (ma_sh w)[a]? = some (.inr (t, n)) → ma_in i n = true → (ma_sh w)[v]? = some (.inl ci) →
        (∀ (H1 : Heap) (locs1 : List Loc), ma_In E (pu_ar w a i.toNatClampNeg (some v)) s H1 locs1 → W p l e R s m args below meth c H1 locs1 cells slots Q (F0 m (pc + 1) la (st'.map (ma_v E)))) →
        W p l e R s m args below meth c H locs cells slots Q (F0 m pc la (.ref (e_lo E + v) :: .int i :: .ref (e_lo E + a) :: st'.map (ma_v E))) := by
      intro v a t ci n i st' C hC hc ht hty h1 h2 h3 k1
      subst hC
      have hK := hx.2.2.2.2.2.1.1
      have hat := hI.1.2 _ _ h1
      have hav : ma_av E w a t = .inr (.inr (.inr (.inr (fun j => (ma_ar w a j).map (fun k => e_lo E + k))))) := by
        unfold ma_av
        split <;> first | omega | rfl
      have hat' : H[e_lo E + a]? = some (arrV (e_cy E t) n (fun j => va_rf ((ma_ar w a j).map (fun k => e_lo E + k)))) := by
        have : H[e_lo E + a]? = some (vp_cell (e_cy E t) (n, ma_av E w a t)) := hat
        rw [this, hav]
        rfl
      obtain ⟨r', hr', cellV, g1, g2, g3, -⟩ := hI.1.2 _ _ h3
      have hr2 : r' = (ma_rx ci, ma_tx ci, ma_nf ci) := Option.some.inj (hr'.symm.trans hc.1)
      subst hr2
      have hcls := (hK.1 ci _ hc.1).2
      obtain ⟨kA, comp, q1, q2, q3, -⟩ := (hK.2 t _ hty).2
      have hcomp : comp = (e_dd E).1 ci := Option.some.inj (q3.symm.trans hcls.1)
      subst hcomp
      obtain ⟨kC, hkC, -⟩ := hcls.2
      have hin := ma_in_vp h2
      have hlt : i.toNatClampNeg < n := Nat.not_le.mp fun q => hin (Or.inr q)
      refine W.aast hx.1 hx.2.1 hat' (fun q h => by cases h) (fun h => by cases h) q1 q2 rfl hkC ⟨fun q => hin (Or.inl q), by rw [arrV_size]; exact hlt⟩ g1 (fun q h => by rw [g3] at h; cases h) (by rw [g2]; exact hkC) (by rw [g2]; exact va_assign hcls) rfl rfl hd fun H1 e z oq => ?_
      refine k1 H1 _ (hI.set h1 rfl ?_ z oq (fun _ _ h => ma_ce_ar h))
      have hav2 : ma_av E (pu_ar w a i.toNatClampNeg (some v)) a t = .inr (.inr (.inr (.inr (fun j => (ma_ar (pu_ar w a i.toNatClampNeg (some v)) a j).map (fun k => e_lo E + k))))) := by
        unfold ma_av
        split <;> first | omega | rfl
      show H1[e_lo E + a]? = some (vp_cell (e_cy E t) (n, ma_av E (pu_ar w a i.toNatClampNeg (some v)) a t))
      rw [e, hav2, vp_cell_q, arrV_store]
      congr 2
      funext q
      by_cases hq : q = i.toNatClampNeg
      · subst hq
        simp [updV, pu_ar, ma_ar, ma_u2, va_rf]
      · simp [updV, pu_ar, ma_ar, ma_u2, hq]
    unfold i_aast at hf
    split at hf
    · next v i a st' hs =>
      split at hf <;> cases hf
      next ho =>
      dsimp only at hs ho
      subst hs
      rw [Bool.or_eq_true, Bool.and_eq_true, Bool.and_eq_true, decide_eq_true_eq, decide_eq_true_eq] at ho
      rcases ho with ⟨ho, hv⟩ | ⟨ho, hv⟩
      · obtain ⟨n, h1, h2⟩ := ma_ok_at ho
        exact core v a 3 1 n i st' RX1 rfl hc1 (by omega) rfl h1 h2 hv (fun H1 locs1 h => kk H1 locs1 la h hL)
      · obtain ⟨n, h1, h2⟩ := ma_ok_at ho
        exact core v a 4 2 n i st' RX2 rfl hc2 (by omega) rfl h1 h2 hv (fun H1 locs1 h => kk H1 locs1 la h hL)
    · cases hf
theorem ma_ce_add {w : ma_W} {k : Nat} {x y : ma_Sh} (h : k ≠ (ma_sh w).length) : ma_ce E (ma_add w x) k y = ma_ce E w k y := by
  have e : k ≠ w.1.length := h
  cases y with
  | inl ci =>
    have e2 : ma_fv E (ma_add w x) k ci = ma_fv E w k ci := by
      funext i
      simp [ma_fv, ma_add, ma_fi, ma_fr, ma_u1, e]
    simp only [ma_ce, e2]
  | inr q =>
    have e3 : ma_av E (ma_add w x) k q.1 = ma_av E w k q.1 := by
      unfold ma_av
      have a1 : ma_ai (ma_add w x) k = ma_ai w k := by simp [ma_add, ma_ai, ma_u1, e]
      have a2 : ma_al (ma_add w x) k = ma_al w k := by simp [ma_add, ma_al, ma_u1, e]
      have a3 : ma_ar (ma_add w x) k = ma_ar w k := by simp [ma_add, ma_ar, ma_u1, e]
      rw [a1, a2, a3]
    exact congrArg (fun z => (Sum.inl (e_cy E q.1, q.2, z) : va_E)) e3
theorem ma_In.add {w : ma_W} {s : State} {H H1 : Heap} {locs : List Loc} {x : ma_Sh} (hI : ma_In E w s H locs) (hz : H1.size = H.size + 1) (o1 : ∀ q, q < H.size → H1[q]? = H[q]?) (hat : va_at (e_dd E) vwCl (e_lo E + (ma_sh w).length, ma_ce E (ma_add w x) (ma_sh w).length x) H1) : ma_In E (ma_add w x) s H1 locs := by
  have hs : ma_sh (ma_add w x) = ma_sh w ++ [x] := rfl
  refine ⟨⟨by rw [hz, hI.1.1, hs, List.length_append]; rfl, fun k y hk => ?_⟩, Nat.le_trans hI.2.1 (by omega), fun q h1 h2 => (o1 q (Nat.lt_of_lt_of_le h1 hI.2.1)).trans (hI.2.2.1 q h1 h2), hI.2.2.2⟩
  rw [hs] at hk
  by_cases hl : k < (ma_sh w).length
  · rw [List.getElem?_append_left hl] at hk
    rw [ma_ce_add (by omega)]
    exact (hI.1.2 k y hk).kept (o1 _ (by show e_lo E + k < _; rw [hI.1.1]; omega))
  · rw [List.getElem?_append_right (by omega)] at hk
    have hz2 : k - (ma_sh w).length < 1 := (List.getElem?_eq_some_iff.mp hk).1
    have hk2 : k = (ma_sh w).length := by omega
    subst hk2
    rw [Nat.sub_self] at hk
    cases hk
    exact hat
theorem ma_add_len {w : ma_W} {x : ma_Sh} : (ma_sh (ma_add w x)).length - (ma_sh w).length = 1 := by
  show (ma_sh w ++ [x]).length - _ = 1
  rw [List.length_append]
  show (ma_sh w).length + 1 - _ = 1
  omega
theorem ma_add_szs {w : ma_W} {x : ma_Sh} : ma_szs (ma_sh (ma_add w x)) - ma_szs (ma_sh w) = ma_sz x := by
  show ma_szs (ma_sh w ++ [x]) - _ = _
  unfold ma_szs
  rw [List.map_append, List.sum_append]
  simp
/-- the types of our fields -/
def ma_ck2 (ci : Nat) : Prop := ∀ k, k < ma_nf ci → ma_isr (ma_ty ci k) = true ∨ ma_ty ci k = .int ∨ ma_ty ci k = .boolean
theorem sn_new {ci i : Nat} (hc : ma_cok ci) (hc2 : ma_ck2 ci) (hw1 : Jvm.Cond.classLink (ma_on own) i (ma_rx ci) ∈ ma_big) (hw2 : Jvm.Cond.instantiable (ma_rx ci) (ma_nf ci) ∈ ma_big) (hw3 : Jvm.Cond.initialized (ma_rx ci) ∈ ma_big) (hd : decode cc pc = .ok (.new i, 3)) : ma_Snd E cc own lv ini pc (i_new ci (pc + 3)) := by
  refine ⟨fun c c' h => by cases h; exact ⟨[.inl ci], rfl⟩, ?_⟩
  intro p l e R s m args below meth c nL Q cells slots ls st w r hx hl hf _ _ h3 h4 kk H locs la hI hL
  cases hf
  dsimp only at h3 h4 kk
  rw [ma_add_len] at h3 kk
  rw [ma_add_szs] at h4 kk
  have hts := hx.2.2.2.2.1
  have hK := hx.2.2.2.2.2.1.1
  have hKn := hK.1 ci _ hc.1
  refine W.newcK hx.1 hx.2.1 hx.2.2.2.1 (hts _ hw1) (hts _ hw2) (hts _ hw3) rfl hd h3 h4 hKn.2.1 rfl fun H1 kC hkC e1 z1 o1 => ?_
  rw [hI.1.1]
  refine kk H1 _ la (hI.add z1 o1 ?_) hL
  rw [hI.1.1] at e1
  refine ⟨_, hc.1, (u_born (ma_ty ci) hts hc.2.1 hKn hkC e1 hc.2.2.1).to (fun j hj => ?_)⟩
  show defaultValue (ma_ty ci j) = vp_V ((List.range (ma_nf ci)).map (ma_fv E (ma_add w (.inl ci)) (ma_sh w).length ci)) j
  unfold vp_V
  rw [List.getD_eq_getElem?_getD, ma_fs_at hj]
  show _ = ma_fv E (ma_add w (.inl ci)) (ma_sh w).length ci j
  have f1 : ma_fi (ma_add w (.inl ci)) (ma_sh w).length j = 0 := by simp [ma_add, ma_fi, ma_u1, ma_sh]
  have f2 : ma_fr (ma_add w (.inl ci)) (ma_sh w).length j = none := by simp [ma_add, ma_fr, ma_u1, ma_sh]
  unfold ma_fv
  rw [f1, f2]
  rcases hc2 j hj with h | h | h
  · rw [h]
    revert h
    cases ma_ty ci j <;> intro h <;> first | rfl | cases h
  · rw [h]; rfl
  · rw [h]; rfl
theorem sn_nwa_core {t i : Nat} {x : Int32} {ty : FieldType} {n : Nat} {p : Program} {l : Launch} {e : Env} {R : Room} {s : State} {m : MethodId} {args : Array Value} {below : List Frame} {meth : Method} {c : Code} {nL : Nat} {Q : State → Prop} {cells slots : Nat} {w : ma_W} {H : Heap} {locs : List Loc}
    {g : JFrame} (hI : ma_In E w s H locs)
    (k : ∀ H1, ma_In E (ma_add w (.inr (t, n))) s H1 locs → W p l e R s m args below meth c H1 locs (cells + 1) (slots + n) Q g) (H1 : Heap) (hz : H1.size = H.size + 1) (o1 : ∀ q, q < H.size → H1[q]? = H[q]?) (hcell : H1[H.size]? = some (vp_cell (e_cy E t) (n, ma_av E (ma_add w (.inr (t, n))) (ma_sh w).length t))) : W p l e R s m args below meth c H1 locs (cells + 1) (slots + n) Q g := by
  refine k H1 (hI.add hz o1 ?_)
  rw [hI.1.1] at hcell
  exact hcell
theorem ma_new_av {w : ma_W} {t n : Nat} : ma_av E (ma_add w (.inr (t, n))) (ma_sh w).length t = match t with
  | 0 => .inl (fun _ => 0)
  | 1 => .inl (fun _ => 0)
  | 2 => .inr (.inl (fun _ => 0))
  | _ => .inr (.inr (.inr (.inr (fun _ => none)))) := by
  have a1 : ma_ai (ma_add w (.inr (t, n))) (ma_sh w).length = fun _ => 0 := by simp [ma_add, ma_ai, ma_u1, ma_sh]
  have a2 : ma_al (ma_add w (.inr (t, n))) (ma_sh w).length = fun _ => 0 := by simp [ma_add, ma_al, ma_u1, ma_sh]
  have a3 : ma_ar (ma_add w (.inr (t, n))) (ma_sh w).length = fun _ => none := by simp [ma_add, ma_ar, ma_u1, ma_sh]
  unfold ma_av
  rw [a1, a2, a3]
  rfl
theorem sn_nwa_e {t n : Nat} (c c') (h : i_nwa t n c = some c') : ∃ x, ma_sh c'.2.2.2 = ma_sh c.2.2 ++ x := by
  unfold i_nwa at h
  split at h
  · split at h <;> cases h
    exact ⟨[_], rfl⟩
  · cases h
theorem sn_nwa {t : Nat} {at_ : ArrayType} {ty : FieldType} (ht : newarray.typeOf at_ = ty) (hb : componentBytes ty ≤ 8) (hty : (ma_tys E)[t]? = some (e_cy E t, ty)) (hno : ∀ C, ty ≠ .object C)
    (hav : ∀ (w : ma_W) (n : Nat), vp_cell (e_cy E t) (n, ma_av E (ma_add w (.inr (t, n))) (ma_sh w).length t) = arrV (e_cy E t) n (fun _ => defaultValue ty))
    (hw : Jvm.Cond.arrayClass ty ∈ ma_big) (hd : decode cc pc = .ok (.newarray at_, 2)) : ma_Snd E cc own lv ini pc (i_nwa t (pc + 2)) := by
  subst ht
  refine ⟨sn_nwa_e, ?_⟩
  intro p l e R s m args below meth c nL Q cells slots ls st w r hx hl hf _ _ h3 h4 kk H locs la hI hL
  unfold i_nwa at hf
  split at hf
  · next x st' hs =>
    split at hf <;> cases hf
    next ho =>
    dsimp only at hs ho h3 h4 kk
    subst hs
    rw [ma_add_len] at h3 kk
    rw [ma_add_szs] at h4 kk
    have hts := hx.2.2.2.2.1
    have hK := hx.2.2.2.2.2.1.1
    have hRA := (hK.2 t _ hty).2
    have hnm : s.vm.findClass ("[" ++ (newarray.typeOf at_).toString) = some (e_cy E t) := by
      revert hRA
      unfold va_RA
      dsimp only
      split
      · next C hC => exact absurd hC (hno C)
      · exact id
    refine va_newaK (N := x.toNatClampNeg) hx.1 hx.2.1 (hts _ hw) rfl hd rfl ho.1 rfl (by
      have := Nat.mul_le_mul ho.2 hb
      omega) h3 h4 rfl fun H1 cA e1 z1 o1 hAr hNm => ?_
    have hcA : cA = e_cy E t := Option.some.inj (hNm.symm.trans hnm)
    subst hcA
    have k2 := sn_nwa_core (t := t) (n := x.toNatClampNeg) (i := 0) (x := x) (ty := .int) (nL := nL) (g := F0 m (pc + 2) la ((vR (ma_sh w).length :: st').map (ma_v E))) (R := R) (p := p) (l := l) (e := e) (m := m) (args := args) (below := below) (meth := meth) (c := c) (Q := Q) (cells := cells) (slots := slots) hI (fun H1 h => kk H1 _ la h hL) H1 z1 o1 (by rw [hav]; exact e1)
    rw [List.map_cons] at k2
    rw [hI.1.1]
    exact k2
  · cases hf
theorem sn_anw {t ci i : Nat} {C : String} (hC : ma_rx ci = C) (ht : 3 ≤ t) (hty : (ma_tys E)[t]? = some (e_cy E t, .object C)) (hao : ∀ s, ma_en E s s.heap → va_AO C s) (hw : Jvm.Cond.classLink (ma_on own) i C ∈ ma_big) (hd : decode cc pc = .ok (.anewarray i, 3)) : ma_Snd E cc own lv ini pc (i_nwa t (pc + 3)) := by
  refine ⟨sn_nwa_e, ?_⟩
  intro p l e R s m args below meth c nL Q cells slots ls st w r hx hl hf _ _ h3 h4 kk H locs la hI hL
  unfold i_nwa at hf
  split at hf
  · next x st' hs =>
    split at hf <;> cases hf
    next ho =>
    dsimp only at hs ho h3 h4 kk
    subst hs
    rw [ma_add_len] at h3 kk
    rw [ma_add_szs] at h4 kk
    have hts := hx.2.2.2.2.1
    have hK := hx.2.2.2.2.2.1.1
    obtain ⟨kA', comp', q1, q2, q3, q4⟩ := (hK.2 t _ hty).2
    refine W.anew hx.1 hx.2.1 hx.2.2.2.1 (hts _ hw) (va_AO.use (hao s hx.2.2.2.2.2.1)) rfl hd rfl ho.1 (by omega) h3 h4 fun cA kA comp f1 f2 f3 f4 => ?_
    have hcA : cA = e_cy E t := Option.some.inj (f1.symm.trans q4)
    subst hcA
    have k2 := sn_nwa_core (t := t) (n := x.toNatClampNeg) (i := 0) (x := x) (ty := .int) (nL := nL) (g := F0 m (pc + 3) la ((vR (ma_sh w).length :: st').map (ma_v E))) (R := R) (p := p) (l := l) (e := e) (m := m) (args := args) (below := below) (meth := meth) (c := c) (Q := Q) (cells := cells) (slots := slots) hI (fun H1 h => kk H1 _ la h hL) (H.push ({ cls := e_cy E t, slots := Array.replicate x.toNatClampNeg .null, vm := .none } : Cell)) (by rw [Array.size_push]) (fun q hq => by rw [Array.getElem?_push, if_neg (Nat.ne_of_lt hq)]) (by
      rw [Array.getElem?_push_size, arrV_new, ma_new_av]
      match t, ht with
      | t' + 3, _ => rfl)
    rw [List.map_cons] at k2
    rw [hI.1.1]
    exact k2
  · cases hf
theorem ma_catsum (st : List ma_V) (E : ma_E) : ((st.map (ma_v E)).map fun v => v.category).sum = (st.map ma_cat).sum := by
  induction st with
  | nil => rfl
  | cons v st ih =>
    simp only [List.map_cons, List.sum_cons, ih]
    congr 1
    by_cases hv : ∃ x, v = vL x
    · obtain ⟨x, rfl⟩ := hv; rfl
    · rw [ma_v_cat (fun x hx => hv ⟨x, hx⟩)]
      match v, hv with
      | .inl _, _ => rfl
      | .inr (.inl x), hv => exact absurd ⟨x, rfl⟩ hv
      | .inr (.inr _), _ => rfl
theorem sn_mmx {i : Nat} (h1 : Jvm.Cond.methodLink (ma_on own) i Lib.Math.max.name ∈ ma_big) (h2 : Jvm.Cond.static Lib.Math.max.name ∈ ma_big) (h3 : Jvm.Cond.initialized "java/lang/Math" ∈ ma_big) (h4 : Jvm.Cond.code Lib.Math.max.name Lib.Math.max.code 2 (some .int) ∈ ma_big) (hlv : 1 ≤ lv) (hd : decode cc pc = .ok (.invokestatic i, 3)) : ma_Snd E cc own lv ini pc (i_lim 2 (i_bin (fun x y => if x < y then y else x) (pc + 3))) := by
  refine ma_snd0 (fun c c' h => ?_) ?_
  · unfold i_lim i_bin at h
    split at h
    · split at h <;> cases h; rfl
    · cases h
  · intro p l e R s m args below meth c nL Q cells slots ls st w r hx hl hf hc hs2 kk H locs la hI hL
    unfold i_lim i_bin at hf
    split at hf
    · next hlim =>
      split at hf <;> cases hf
      next y x st' hs =>
      dsimp only at hs hlim
      subst hs
      have hts := hx.2.2.2.2.1
      have hfr := hx.2.2.2.2.2.2.2.1
      have hlo := hx.2.2.2.2.2.2.2.2.1
      exact va_mmax hx.1 hx.2.1 (by rw [hx.2.2.1, hL.1]) hx.2.2.2.1 (hts _ h1) (hts _ h2) (hts _ h3) (hts _ h4) (by omega) (by rw [ma_catsum]; have : ((List.drop 2 (Sum.inl y :: Sum.inl x :: st')).map ma_cat).sum = (st'.map ma_cat).sum := rfl; omega) hc hs2 hd (kk H locs la hI hL)
    · cases hf
theorem sn_mmn {i : Nat} (h1 : Jvm.Cond.methodLink (ma_on own) i Lib.Math.min.name ∈ ma_big) (h2 : Jvm.Cond.static Lib.Math.min.name ∈ ma_big) (h3 : Jvm.Cond.initialized "java/lang/Math" ∈ ma_big) (h4 : Jvm.Cond.code Lib.Math.min.name Lib.Math.min.code 2 (some .int) ∈ ma_big) (hlv : 1 ≤ lv) (hd : decode cc pc = .ok (.invokestatic i, 3)) : ma_Snd E cc own lv ini pc (i_lim 2 (i_bin (fun x y => if y < x then y else x) (pc + 3))) := by
  refine ma_snd0 (fun c c' h => ?_) ?_
  · unfold i_lim i_bin at h
    split at h
    · split at h <;> cases h; rfl
    · cases h
  · intro p l e R s m args below meth c nL Q cells slots ls st w r hx hl hf hc hs2 kk H locs la hI hL
    unfold i_lim i_bin at hf
    split at hf
    · next hlim =>
      split at hf <;> cases hf
      next y x st' hs =>
      dsimp only at hs hlim
      subst hs
      have hts := hx.2.2.2.2.1
      have hfr := hx.2.2.2.2.2.2.2.1
      have hlo := hx.2.2.2.2.2.2.2.2.1
      exact va_mmin hx.1 hx.2.1 (by rw [hx.2.2.1, hL.1]) hx.2.2.2.1 (hts _ h1) (hts _ h2) (hts _ h3) (hts _ h4) (by omega) (by rw [ma_catsum]; have : ((List.drop 2 (Sum.inl y :: Sum.inl x :: st')).map ma_cat).sum = (st'.map ma_cat).sum := rfl; omega) hc hs2 hd (kk H locs la hI hL)
    · cases hf
theorem sn_oin {i : Nat} (h1 : Jvm.Cond.methodLink (ma_on own) i Lib.objectInit ∈ ma_big) (h2 : Jvm.Cond.instanceMethod Lib.objectInit ∈ ma_big) (h3 : Jvm.Cond.code Lib.objectInit ⟨#[0xb1]⟩ 1 none ∈ ma_big) (hlv : 1 ≤ lv) (hd : decode cc pc = .ok (.invokespecial i, 3)) : ma_Snd E cc own lv ini pc (i_lim 1 (i_oin (pc + 3))) := by
  refine ma_snd0 (fun c c' h => ?_) ?_
  · unfold i_lim i_oin at h
    split at h
    · split at h <;> cases h; rfl
    · cases h
  · intro p l e R s m args below meth c nL Q cells slots ls st w r hx hl hf hc hs2 kk H locs la hI hL
    unfold i_lim i_oin at hf
    split at hf
    · next hlim =>
      split at hf <;> cases hf
      next a st' hs =>
      dsimp only at hs hlim
      subst hs
      have hts := hx.2.2.2.2.1
      have hfr := hx.2.2.2.2.2.2.2.1
      have hlo := hx.2.2.2.2.2.2.2.2.1
      have h8 : ((st'.map (ma_v E)).map fun v => v.category).sum ≤ 8 := by rw [ma_catsum]; exact hlim
      exact W.objInit hx.1 hx.2.1 hx.2.2.2.1 (hts _ h1) (hts _ h2) (hts _ h3) rfl (by rw [hx.2.2.1]; exact hL.1) (rest := st'.map (ma_v E)) rfl hd (by omega) (by show 2 * 0 + ((st'.map (ma_v E)).map fun v => v.category).sum + 12 ≤ R.locals; omega) (kk H locs la hI hL)
    · cases hf
end S11
