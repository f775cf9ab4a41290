/-! ===== the world, written; new cells; the JDK's own ===== -/
section S10
variable {E : ma_E}
theorem ma_In.set {w w' : ma_W} {s : State} {H H1 : Heap} {locs : List Loc} {o j : Nat} {x : ma_Sh} (hI : ma_In E w s H locs) (ho : (ma_sh w)[o]? = some x) (hsh : ma_sh w' = ma_sh w) (hat : va_at (e_dd E) vwCl (e_lo E + o, ma_ce E w' o x) H1) (hz : H1.size = H.size) (oq : ∀ q, q ≠ e_lo E + o → H1[q]? = H[q]?) (hel : ∀ (k : Nat) (y : ma_Sh), k ≠ o → ma_ce E w' k y = ma_ce E w k y) : ma_In E w' s H1 (locs ++ [⟨e_lo E + o, j⟩]) := by
  refine ⟨⟨by rw [hz, hsh]; exact hI.1.1, fun k y hk => ?_⟩, hI.2.put hz oq (Nat.le_add_right _ _)⟩
  rw [hsh] at hk
  by_cases hko : k = o
  · subst hko
    rw [ho] at hk
    cases hk
    exact hat
  · rw [hel k y hko]
    exact (hI.1.2 k y hk).kept (oq _ (by show e_lo E + k ≠ e_lo E + o; omega))
theorem ma_ce_fi {w : ma_W} {o j k : Nat} {v : Int32} {y : ma_Sh} (h : k ≠ o) : ma_ce E (pu_fi w o j v) k y = ma_ce E w k y := by
  cases y with
  | inl ci =>
    have e : ma_fv E (pu_fi w o j v) k ci = ma_fv E w k ci := by
      funext i
      simp [ma_fv, pu_fi, ma_fi, ma_fr, ma_u2, h]
    simp only [ma_ce, e]
  | inr q => rfl
theorem ma_ce_fr {w : ma_W} {o j k : Nat} {v : Option Nat} {y : ma_Sh} (h : k ≠ o) : ma_ce E (pu_fr w o j v) k y = ma_ce E w k y := by
  cases y with
  | inl ci =>
    have e : ma_fv E (pu_fr w o j v) k ci = ma_fv E w k ci := by
      funext i
      simp [ma_fv, pu_fr, ma_fi, ma_fr, ma_u2, h]
    simp only [ma_ce, e]
  | inr q => rfl
theorem ma_av_ai {w : ma_W} {g : Nat → Nat → Int32} {k t : Nat} (h : g k = ma_ai w k) : ma_av E (w.1, w.2.1, w.2.2.1, g, w.2.2.2.2) k t = ma_av E w k t := by
  unfold ma_av
  split
  · show Sum.inl (g k) = _; rw [h]
  · show Sum.inl (g k) = _; rw [h]
  · rfl
  · rfl
theorem ma_ce_ai {w : ma_W} {o j k : Nat} {v : Int32} {y : ma_Sh} (h : k ≠ o) : ma_ce E (pu_ai w o j v) k y = ma_ce E w k y := by
  cases y with
  | inl ci => rfl
  | inr q =>
    show (Sum.inl (e_cy E q.1, q.2, ma_av E (pu_ai w o j v) k q.1) : va_E) = _
    have e := ma_av_ai (E := E) (w := w) (g := ma_u2 (ma_ai w) o j v) (k := k) (t := q.1) (by funext i; simp [ma_u2, h])
    exact congrArg (fun z => (Sum.inl (e_cy E q.1, q.2, z) : va_E)) e
theorem ma_ce_ax {w : ma_W} {o k : Nat} {g : Nat → Int32} {y : ma_Sh} (h : k ≠ o) : ma_ce E (pu_ax w o g) k y = ma_ce E w k y := by
  cases y with
  | inl ci => rfl
  | inr q =>
    have e := ma_av_ai (E := E) (w := w) (g := ma_u1 (ma_ai w) o g) (k := k) (t := q.1) (by simp [ma_u1, h])
    exact congrArg (fun z => (Sum.inl (e_cy E q.1, q.2, z) : va_E)) e
theorem ma_ce_al {w : ma_W} {o j k : Nat} {v : Int64} {y : ma_Sh} (h : k ≠ o) : ma_ce E (pu_al w o j v) k y = ma_ce E w k y := by
  cases y with
  | inl ci => rfl
  | inr q =>
    have e : ma_av E (pu_al w o j v) k q.1 = ma_av E w k q.1 := by
      unfold ma_av
      split
      · rfl
      · rfl
      · have : ma_al (pu_al w o j v) k = ma_al w k := by funext i; simp [pu_al, ma_al, ma_u2, h]
        rw [this]
      · rfl
    exact congrArg (fun z => (Sum.inl (e_cy E q.1, q.2, z) : va_E)) e
theorem ma_ce_ar {w : ma_W} {o j k : Nat} {v : Option Nat} {y : ma_Sh} (h : k ≠ o) : ma_ce E (pu_ar w o j v) k y = ma_ce E w k y := by
  cases y with
  | inl ci => rfl
  | inr q =>
    have e : ma_av E (pu_ar w o j v) k q.1 = ma_av E w k q.1 := by
      unfold ma_av
      split
      · rfl
      · rfl
      · rfl
      · have : ma_ar (pu_ar w o j v) k = ma_ar w k := by funext i; simp [pu_ar, ma_ar, ma_u2, h]
        rw [this]
    exact congrArg (fun z => (Sum.inl (e_cy E q.1, q.2, z) : va_E)) e
variable {cc : ByteArray} {own lv pc : Nat} {ini : Bool}
/-- a step that writes and makes nothing -/
theorem ma_snd1 {f : ma_F}
    (hw : ∀ c c', f c = some c' → ma_sh c'.2.2.2 = ma_sh c.2.2)
    (h : ∀ {p : Program} {l : Launch} {e : Env} {R : Room} {s : State} {m : MethodId} {args : Array Value} {below : List Frame} {meth : Method} {c : Code} {nL : Nat} {Q : State → Prop} {cells slots : Nat} {ls st : List ma_V} {w : ma_W} {r : Nat × ma_C},
      ma_Cx E p R s m args meth c cc nL own lv ini → ls.length = nL → f (ls, st, w) = some r → cells ≤ R.cells → slots ≤ R.slots → ma_G E p l e R s m args below meth c nL Q r.1 r.2.1 r.2.2.1 r.2.2.2 cells slots → ma_G E p l e R s m args below meth c nL Q pc ls st w cells slots) : ma_Snd E cc own lv ini pc f := by
  refine ⟨fun c c' hc => ⟨[], by rw [hw c c' hc, List.append_nil]⟩, ?_⟩
  intro p l e R s m args below meth c nL Q cells slots ls st w r hx hl hf h1 h2 h3 h4 k
  have e1 : ma_sh r.2.2.2 = ma_sh w := hw _ _ hf
  rw [e1, Nat.sub_self, Nat.sub_self, Nat.add_zero, Nat.add_zero] at k
  exact h hx hl hf h1 h2 k
/-- a field, written: the cell behind it -/
theorem ma_put {p : Program} {l : Launch} {e : Env} {R : Room} {s : State} {m : MethodId} {args : Array Value} {below : List Frame} {meth : Method} {c : Code} {nL : Nat} {Q : State → Prop} {cells slots : Nat} {w w' : ma_W} {H : Heap} {locs : List Loc} {la : Array Slot} {rest : List Value} {ci k i o : Nat} {v : Value}
    (hx : ma_Cx E p R s m args meth c cc nL own lv ini) (hI : ma_In E w s H locs) (ho : (ma_sh w)[o]? = some (.inl ci)) (hc : ma_cok ci) (hk : k < ma_nf ci) (hw : Jvm.Cond.fieldLink (ma_on own) i (ma_rx ci) (ma_tx ci k).2.1 (ma_tx ci k).2.2.1 ∈ ma_big) (hfin : (ma_tx ci k).2.2.2 = false ∨ (ini = true ∧ ma_rx ci = ma_on own)) (hn : narrow (ma_ty ci k) v = v) (hfit : fits (ma_ty ci k) v = true) (hd : decode cc pc = .ok (.putfield i, 3))
    (hsh : ma_sh w' = ma_sh w) (hel : ∀ (k : Nat) (y : ma_Sh), k ≠ o → ma_ce E w' k y = ma_ce E w k y) (hv : ∀ j, ma_fv E w' o ci j = if j = k then v else ma_fv E w o ci j)
    (kk : ∀ (H1 : Heap) (locs1 : List Loc), ma_In E w' s H1 locs1 → W p l e R s m args below meth c H1 locs1 cells slots Q (F0 m (pc + 3) la rest)) : W p l e R s m args below meth c H locs cells slots Q (F0 m pc la (v :: .ref (e_lo E + o) :: rest)) := by
  have hts := hx.2.2.2.2.1
  have hin := hc.2.1
  have hK := hx.2.2.2.2.2.1.1
  have hap := va_apart (own := ma_on own) hts hin (ma_ty ci) hc.2.2.1 hc.2.2.2.1 hK hc.1
  obtain ⟨r, h1, cell, q1, q2, q3, q4⟩ := hI.1.2 _ _ ho
  have hr : r = (ma_rx ci, ma_tx ci, ma_nf ci) := Option.some.inj (h1.symm.trans hc.1)
  subst hr
  obtain ⟨hS, hfc, kC, hkC, hkind⟩ := hK.1 ci _ hc.1
  obtain ⟨cf, kf, fi, f, hi, hsl⟩ := hS k hk
  have hlay := hts _ (hin _ (u_in_lay hk))
  unfold u_lay at hlay
  have hst := (u_facts hfc hkC (u_lays hts hin hk) hi).1
  have hlink := hts _ hw
  have hi2 : s.fieldFound? (ma_rx ci) (ma_tx ci k).2.1 (ma_tx ci k).2.2.1 = some (cf, kf, fi, f) := by
    have := hi
    rw [hc.2.2.2.2 k hk] at this
    exact this
  have fin : ∀ (H' : Heap), H'[e_lo E + o]? = some (cell.setSlot f.slot v) → H'.size = H.size → (∀ q, q ≠ e_lo E + o → H'[q]? = H[q]?) → ma_In E w' s H' (locs ++ [⟨e_lo E + o, f.slot⟩]) := by
    intro H' e1 e2 e3
    rw [hsl] at e1 ⊢
    refine hI.set ho hsh ?_ e2 e3 hel
    refine ⟨_, hc.1, t_OB.to (V := updV (vp_V ((List.range (ma_nf ci)).map (ma_fv E w o ci))) k v) ⟨_, e1, q2, q3, t_set q4 hap hk v⟩ (fun j hj => ?_)⟩
    show updV _ k v j = vp_V ((List.range (ma_nf ci)).map (ma_fv E w' o ci)) j
    unfold updV vp_V
    simp only [List.getD_eq_getElem?_getD]
    rw [ma_fs_at hj, ma_fs_at hj, hv j]
    by_cases hjk : j = k
    · rw [if_pos hjk, if_pos hjk]; rfl
    · rw [if_neg hjk, if_neg hjk]
  rcases Bool.eq_false_or_eq_true (ma_tx ci k).2.2.2 with hb | hb
  · rw [if_pos hb] at hlay
    rcases hfin with h | ⟨h, hdecl⟩
    · rw [h] at hb; cases hb
    have hcf : m.cls = cf := by
      obtain ⟨_, _, c', _, _, _, -, -, hf', -, -, -, hown2, -⟩ := Cond.laysFinal_spec hlay
      have e1 : c' = cf := by have := hi.symm.trans hf'; simp at this; exact this.1.symm
      rw [hc.2.2.2.2 k hk, hdecl] at hown2
      rw [← e1]; exact Option.some.inj (hx.2.2.2.1.symm.trans hown2)
    have h6 := u_fits hfc hkC hkind (Or.inr hlay) hi (hc.2.2.1 k hk) hn hfit
    exact W.putFinK hx.1 hx.2.1 hx.2.2.2.1 hlink hi2 hst hcf (hx.2.2.2.2.2.2.2.2.2 h) (by rw [q2]; exact h6) q1 q3 (by rw [hsl]; exact k2_hasslot (q4 k hk)) rfl rfl hd fun H' e1 e2 e3 => kk H' _ (fin H' e1 e2 e3)
  · rw [if_neg (by rw [hb]; decide)] at hlay
    have h6 := u_store hfc hkC hkind hlay hi (hc.2.2.1 k hk) hn hfit
    exact W.putK hx.1 hx.2.1 (f := f) ⟨hx.2.2.2.1, hlink, ⟨_, _, _, hi2⟩, hst⟩ (by rw [q2]; exact h6) q1 q3 (by rw [hsl]; exact k2_hasslot (q4 k hk)) rfl rfl hd fun H' e1 e2 e3 => kk H' _ (fin H' e1 e2 e3)
theorem ma_nar_n {t : FieldType} {x : Int32} (ht : ma_isr t = false) (h : ma_nar t x = true) (hp : t = .int ∨ t = .boolean) : narrow t (.int x) = .int x ∧ fits t (.int x) = true := by
  rcases hp with rfl | rfl
  · exact ⟨rfl, rfl⟩
  · unfold ma_nar at h
    dsimp only at h
    rw [Bool.and_eq_true, decide_eq_true_eq] at h
    refine ⟨?_, h.2⟩
    have h1 := h.1
    unfold vp_nar at h1
    split at h1
    · next y hy => rw [hy, h1]
    · next hn =>
      exfalso
      have : ∃ y, narrow .boolean (.int x) = .int y := by
        unfold narrow
        exact ⟨_, rfl⟩
      obtain ⟨y, hy⟩ := this
      exact hn y hy
theorem sn_pti {ci k i : Nat} (hc : ma_cok ci) (hk : k < ma_nf ci) (hr : ma_isr (ma_ty ci k) = false) (hp : ma_ty ci k = .int ∨ ma_ty ci k = .boolean) (hw : Jvm.Cond.fieldLink (ma_on own) i (ma_rx ci) (ma_tx ci k).2.1 (ma_tx ci k).2.2.1 ∈ ma_big) (hfin : (ma_tx ci k).2.2.2 = false ∨ (ini = true ∧ ma_rx ci = ma_on own)) (hd : decode cc pc = .ok (.putfield i, 3)) : ma_Snd E cc own lv ini pc (i_pti ci k (pc + 3)) := by
  refine ma_snd1 (fun c c' h => ?_) ?_
  · unfold i_pti at h
    split at h
    · split at h <;> cases h; rfl
    · cases h
  · intro p l e R s m args below meth c nL Q cells slots ls st w r hx hl hf _ _ kk H locs la hI hL
    unfold i_pti at hf
    split at hf
    · next x o st' hs =>
      split at hf <;> cases hf
      next ho =>
      dsimp only at hs ho
      subst hs
      obtain ⟨n1, n2⟩ := ma_nar_n hr ho.2 hp
      refine ma_put (w' := pu_fi w o k x) (v := .int x) hx hI ho.1 hc hk hw hfin n1 n2 hd rfl (fun _ _ h => ma_ce_fi h) (fun j => ?_) (fun H1 locs1 h1 => kk H1 locs1 la h1 hL)
      unfold ma_fv
      by_cases hj : j = k
      · subst hj
        rw [if_pos rfl, hr]
        simp [ma_fi, pu_fi, ma_u2]
      · rw [if_neg hj]
        simp [ma_fi, ma_fr, pu_fi, ma_u2, hj]
    · cases hf
theorem ma_fit_ref {t : FieldType} {a : Nat} (h : ma_isr t = true) : narrow t (.ref a) = .ref a ∧ fits t (.ref a) = true := by
  cases t <;> first | exact ⟨rfl, rfl⟩ | cases h
theorem sn_ptr {ci k i : Nat} (hc : ma_cok ci) (hk : k < ma_nf ci) (hr : ma_isr (ma_ty ci k) = true) (hw : Jvm.Cond.fieldLink (ma_on own) i (ma_rx ci) (ma_tx ci k).2.1 (ma_tx ci k).2.2.1 ∈ ma_big) (hfin : (ma_tx ci k).2.2.2 = false ∨ (ini = true ∧ ma_rx ci = ma_on own)) (hd : decode cc pc = .ok (.putfield i, 3)) : ma_Snd E cc own lv ini pc (i_ptr ci k (pc + 3)) := by
  refine ma_snd1 (fun c c' h => ?_) ?_
  · unfold i_ptr at h
    split at h
    · split at h <;> cases h; rfl
    · cases h
  · intro p l e R s m args below meth c nL Q cells slots ls st w r hx hl hf _ _ kk H locs la hI hL
    unfold i_ptr at hf
    split at hf
    · next a o st' hs =>
      split at hf <;> cases hf
      next ho =>
      dsimp only at hs ho
      subst hs
      obtain ⟨n1, n2⟩ := ma_fit_ref (a := e_lo E + a) hr
      refine ma_put (w' := pu_fr w o k (some a)) (v := .ref (e_lo E + a)) hx hI ho hc hk hw hfin n1 n2 hd rfl (fun _ _ h => ma_ce_fr h) (fun j => ?_) (fun H1 locs1 h1 => kk H1 locs1 la h1 hL)
      unfold ma_fv
      by_cases hj : j = k
      · subst hj
        rw [if_pos rfl, hr]
        simp [ma_fr, pu_fr, ma_u2, va_rf]
      · rw [if_neg hj]
        simp [ma_fi, ma_fr, pu_fr, ma_u2, hj]
    · cases hf
theorem sn_iast (hd : decode cc pc = .ok (.iastore, 1)) : ma_Snd E cc own lv ini pc (i_iast (pc + 1)) := by
  refine ma_snd1 (fun c c' h => ?_) ?_
  · unfold i_iast at h
    split at h
    · split at h <;> cases h; rfl
    · cases h
  · intro p l e R s m args below meth c nL Q cells slots ls st w r hx hl hf _ _ kk H locs la hI hL
    unfold i_iast at hf
    split at hf
    · next x i a st' hs =>
      split at hf <;> cases hf
      next ho =>
      dsimp only at hs ho
      subst hs
      obtain ⟨n, h1, h2⟩ := ma_ok_at ho
      have hat := hI.1.2 _ _ h1
      have hK := (hx.2.2.2.2.2.1.1.2 0 _ rfl).1 n (fun j => .int (ma_ai w a j))
      have hin := ma_in_vp h2
      refine W.iast hx.1 hx.2.1 hat hK (fun q => by cases q) (by show ¬ (i < 0 ∨ (arrV _ _ _).slots.size ≤ _); rw [arrV_size]; exact hin) rfl rfl hd fun H1 e z oq => ?_
      refine kk H1 _ la (hI.set h1 rfl ?_ z oq (fun _ _ h => ma_ce_ai h)) hL
      show H1[e_lo E + a]? = some (vp_cell _ _)
      rw [e]
      show some ((arrV (e_cy E 0) n (fun j => .int (ma_ai w a j))).setSlot i.toNatClampNeg (.int x)) = some (arrV (e_cy E 0) n (fun j => .int (ma_ai (pu_ai w a i.toNatClampNeg x) a j)))
      rw [arrV_store]
      congr 2
      funext q
      by_cases hq : q = i.toNatClampNeg
      · subst hq
        simp [updV, pu_ai, ma_ai, ma_u2]
      · simp [updV, pu_ai, ma_ai, ma_u2, hq]
    · cases hf
theorem sn_bast (hd : decode cc pc = .ok (.bastore, 1)) : ma_Snd E cc own lv ini pc (i_bast (pc + 1)) := by
  refine ma_snd1 (fun c c' h => ?_) ?_
  · unfold i_bast at h
    split at h
    · split at h <;> cases h; rfl
    · cases h
  · intro p l e R s m args below meth c nL Q cells slots ls st w r hx hl hf _ _ kk H locs la hI hL
    unfold i_bast at hf
    split at hf
    · next x i a st' hs =>
      split at hf <;> cases hf
      next ho =>
      dsimp only at hs ho
      subst hs
      obtain ⟨n, h1, h2⟩ := ma_ok_at ho
      have hat := hI.1.2 _ _ h1
      have hK := (hx.2.2.2.2.2.1.1.2 1 _ rfl).1 n (fun j => .int (ma_ai w a j))
      have hin := ma_in_vp h2
      refine W.bast hx.1 hx.2.1 hat hK (fun q => by cases q) (by show ¬ (i < 0 ∨ (arrV _ _ _).slots.size ≤ _); rw [arrV_size]; exact hin) rfl rfl hd fun H1 e z oq => ?_
      refine kk H1 _ la (hI.set h1 rfl ?_ z oq (fun _ _ h => ma_ce_ai h)) hL
      show H1[e_lo E + a]? = some (vp_cell _ _)
      rw [e]
      show some ((arrV (e_cy E 1) n (fun j => .int (ma_ai w a j))).setSlot i.toNatClampNeg (narrow .byte (.int x))) = some (arrV (e_cy E 1) n (fun j => .int (ma_ai (pu_ai w a i.toNatClampNeg (vp_nar .byte x)) a j)))
      rw [arrV_store]
      congr 2
      funext q
      by_cases hq : q = i.toNatClampNeg
      · subst hq
        simp [updV, pu_ai, ma_ai, ma_u2, vp_nar, narrow]
      · simp [updV, pu_ai, ma_ai, ma_u2, hq]
    · cases hf
theorem sn_last (hd : decode cc pc = .ok (.lastore, 1)) : ma_Snd E cc own lv ini pc (i_last (pc + 1)) := by
  refine ma_snd1 (fun c c' h => ?_) ?_
  · unfold i_last at h
    split at h
    · split at h <;> cases h; rfl
    · cases h
  · intro p l e R s m args below meth c nL Q cells slots ls st w r hx hl hf _ _ kk H locs la hI hL
    unfold i_last at hf
    split at hf
    · next x i a st' hs =>
      split at hf <;> cases hf
      next ho =>
      dsimp only at hs ho
      subst hs
      obtain ⟨n, h1, h2⟩ := ma_ok_at ho
      have hat := hI.1.2 _ _ h1
      have hK := (hx.2.2.2.2.2.1.1.2 2 _ rfl).1 n (fun j => .long (ma_al w a j))
      have hin := ma_in_vp h2
      refine W.last hx.1 hx.2.1 hat hK (fun q => by cases q) (by show ¬ (i < 0 ∨ (arrV _ _ _).slots.size ≤ _); rw [arrV_size]; exact hin) rfl rfl hd fun H1 e z oq => ?_
      refine kk H1 _ la (hI.set h1 rfl ?_ z oq (fun _ _ h => ma_ce_al h)) hL
      show H1[e_lo E + a]? = some (vp_cell _ _)
      rw [e]
      show some ((arrV (e_cy E 2) n (fun j => .long (ma_al w a j))).setSlot i.toNatClampNeg (.long x)) = some (arrV (e_cy E 2) n (fun j => .long (ma_al (pu_al w a i.toNatClampNeg x) a j)))
      rw [arrV_store]
      congr 2
      funext q
      by_cases hq : q = i.toNatClampNeg
      · subst hq
        simp [updV, pu_al, ma_al, ma_u2]
      · simp [updV, pu_al, ma_al, ma_u2, hq]
    · cases hf
end S10
