/-! ===== steps that leave the world as it is ===== -/
theorem ma_snd0 {E : ma_E} {cc : ByteArray} {own lv pc : Nat} {ini : Bool} {f : ma_F}
    (hw : ∀ c c', f c = some c' → c'.2.2.2 = c.2.2)
    (h : ∀ {p : Program} {l : Launch} {e : Env} {R : Room} {s : State} {m : MethodId} {args : Array Value} {below : List Frame} {meth : Method} {c : Code} {nL : Nat} {Q : State → Prop} {cells slots : Nat} {ls st : List ma_V} {w : ma_W} {r : Nat × ma_C},
      ma_Cx E p R s m args meth c cc nL own lv ini → ls.length = nL → f (ls, st, w) = some r → cells ≤ R.cells → slots ≤ R.slots → ma_G E p l e R s m args below meth c nL Q r.1 r.2.1 r.2.2.1 w cells slots → ma_G E p l e R s m args below meth c nL Q pc ls st w cells slots) : ma_Snd E cc own lv ini pc f := by
  refine ⟨fun c c' hc => ⟨[], by rw [hw c c' hc, List.append_nil]⟩, ?_⟩
  intro p l e R s m args below meth c nL Q cells slots ls st w r hx hl hf h1 h2 h3 h4 k
  have e1 : r.2.2.2 = w := hw _ _ hf
  rw [e1, Nat.sub_self, Nat.sub_self, Nat.add_zero, Nat.add_zero] at k
  exact h hx hl hf h1 h2 k
section S7
variable {E : ma_E} {cc : ByteArray} {own lv pc : Nat} {ini : Bool}
theorem sn_ild_n {k : Fin 4} (hd : decode cc pc = .ok (.iload_n k, 1)) : ma_Snd E cc own lv ini pc (i_ild k.val (pc + 1)) := by
  refine ma_snd0 (fun c c' h => ?_) ?_
  · unfold i_ild at h; split at h <;> cases h; rfl
  · intro p l e R s m args below meth c nL Q cells slots ls st w r hx hl hf _ _ kk H locs la hI hL
    unfold i_ild at hf; split at hf <;> cases hf
    next x hk => exact lv_iload_n hx.1 hx.2.1 hd rfl (hL.2.2.2 _ _ hk rfl) (kk H locs la hI hL)
theorem sn_ild {k : Nat} (hd : decode cc pc = .ok (.iload k, 2)) : ma_Snd E cc own lv ini pc (i_ild k (pc + 2)) := by
  refine ma_snd0 (fun c c' h => ?_) ?_
  · unfold i_ild at h; split at h <;> cases h; rfl
  · intro p l e R s m args below meth c nL Q cells slots ls st w r hx hl hf _ _ kk H locs la hI hL
    unfold i_ild at hf; split at hf <;> cases hf
    next x hk => exact lv_iload hx.1 hx.2.1 hd (hL.2.2.2 _ _ hk rfl) (kk H locs la hI hL)
theorem sn_lld_n {k : Fin 4} (hd : decode cc pc = .ok (.lload_n k, 1)) : ma_Snd E cc own lv ini pc (i_lld k.val (pc + 1)) := by
  refine ma_snd0 (fun c c' h => ?_) ?_
  · unfold i_lld at h; split at h <;> cases h; rfl
  · intro p l e R s m args below meth c nL Q cells slots ls st w r hx hl hf _ _ kk H locs la hI hL
    unfold i_lld at hf; split at hf <;> cases hf
    next x hk => exact lv_lload_n hx.1 hx.2.1 hd rfl (hL.2.2.2 _ _ hk rfl) (kk H locs la hI hL)
theorem sn_lld {k : Nat} (hd : decode cc pc = .ok (.lload k, 2)) : ma_Snd E cc own lv ini pc (i_lld k (pc + 2)) := by
  refine ma_snd0 (fun c c' h => ?_) ?_
  · unfold i_lld at h; split at h <;> cases h; rfl
  · intro p l e R s m args below meth c nL Q cells slots ls st w r hx hl hf _ _ kk H locs la hI hL
    unfold i_lld at hf; split at hf <;> cases hf
    next x hk => exact lv_lload hx.1 hx.2.1 hd (hL.2.2.2 _ _ hk rfl) (kk H locs la hI hL)
theorem ma_sp_ref {a : Nat} (h : a = 1 ∨ 3 ≤ a) : ∃ q, ma_sp E a = .ref q := by
  unfold ma_sp
  rw [if_neg (by omega)]
  repeat' split
  all_goals exact ⟨_, rfl⟩
theorem ma_sp_df {a : Nat} (h : a = 1 ∨ 3 ≤ a) : ma_df (vS a) = true := by
  match a, h with
  | 0, h => omega
  | n + 1, _ => rfl
theorem sn_ald_n {k : Fin 4} (hd : decode cc pc = .ok (.aload_n k, 1)) : ma_Snd E cc own lv ini pc (i_ald k.val (pc + 1)) := by
  refine ma_snd0 (fun c c' h => ?_) ?_
  · unfold i_ald at h
    split at h
    · cases h; rfl
    · split at h <;> cases h; rfl
    · cases h
  · intro p l e R s m args below meth c nL Q cells slots ls st w r hx hl hf _ _ kk H locs la hI hL
    unfold i_ald at hf
    split at hf
    · next a hk => cases hf; exact lv_aload_n hx.1 hx.2.1 hd rfl (hL.2.2.2 _ _ hk rfl) (kk H locs la hI hL)
    · next a hk =>
      split at hf <;> cases hf
      next ha =>
      obtain ⟨q, hq⟩ := ma_sp_ref (E := E) ha
      have h1 := hL.2.2.2 _ _ hk (ma_sp_df ha)
      have h2 : ma_v E (vS a) = .ref q := hq
      have h3 := kk H locs la hI hL
      rw [h2] at h1
      rw [List.map_cons, h2] at h3
      exact lv_aload_n hx.1 hx.2.1 hd rfl h1 h3
    · cases hf
theorem sn_ald {k : Nat} (hd : decode cc pc = .ok (.aload k, 2)) : ma_Snd E cc own lv ini pc (i_ald k (pc + 2)) := by
  refine ma_snd0 (fun c c' h => ?_) ?_
  · unfold i_ald at h
    split at h
    · cases h; rfl
    · split at h <;> cases h; rfl
    · cases h
  · intro p l e R s m args below meth c nL Q cells slots ls st w r hx hl hf _ _ kk H locs la hI hL
    unfold i_ald at hf
    split at hf
    · next a hk => cases hf; exact lv_aload hx.1 hx.2.1 hd (hL.2.2.2 _ _ hk rfl) (kk H locs la hI hL)
    · next a hk =>
      split at hf <;> cases hf
      next ha =>
      obtain ⟨q, hq⟩ := ma_sp_ref (E := E) ha
      have h1 := hL.2.2.2 _ _ hk (ma_sp_df ha)
      have h2 : ma_v E (vS a) = .ref q := hq
      have h3 := kk H locs la hI hL
      rw [h2] at h1
      rw [List.map_cons, h2] at h3
      exact lv_aload hx.1 hx.2.1 hd h1 h3
    · cases hf
theorem sn_ist_n {k : Fin 4} (hd : decode cc pc = .ok (.istore_n k, 1)) : ma_Snd E cc own lv ini pc (i_ist k.val (pc + 1)) := by
  refine ma_snd0 (fun c c' h => ?_) ?_
  · unfold i_ist at h
    split at h
    · split at h <;> cases h; rfl
    · cases h
  · intro p l e R s m args below meth c nL Q cells slots ls st w r hx hl hf _ _ kk H locs la hI hL
    unfold i_ist at hf
    split at hf
    · next x st' hs =>
      split at hf <;> cases hf
      next hk =>
      dsimp only at hs hk
      subst hs
      exact lv_istore_n hx.1 hx.2.1 hd rfl hL.has (by omega) rfl (fun la' hl' => kk H locs la' hI (hL.st1 (v := vI x) hl'))
    · cases hf
theorem sn_ist {k : Nat} (hd : decode cc pc = .ok (.istore k, 2)) : ma_Snd E cc own lv ini pc (i_ist k (pc + 2)) := by
  refine ma_snd0 (fun c c' h => ?_) ?_
  · unfold i_ist at h
    split at h
    · split at h <;> cases h; rfl
    · cases h
  · intro p l e R s m args below meth c nL Q cells slots ls st w r hx hl hf _ _ kk H locs la hI hL
    unfold i_ist at hf
    split at hf
    · next x st' hs =>
      split at hf <;> cases hf
      next hk =>
      dsimp only at hs hk
      subst hs
      exact lv_istore hx.1 hx.2.1 hd hL.has (by omega) rfl (fun la' hl' => kk H locs la' hI (hL.st1 (v := vI x) hl'))
    · cases hf
theorem sn_lst_n {k : Fin 4} (hd : decode cc pc = .ok (.lstore_n k, 1)) : ma_Snd E cc own lv ini pc (i_lst k.val (pc + 1)) := by
  refine ma_snd0 (fun c c' h => ?_) ?_
  · unfold i_lst at h
    split at h
    · split at h <;> cases h; rfl
    · cases h
  · intro p l e R s m args below meth c nL Q cells slots ls st w r hx hl hf _ _ kk H locs la hI hL
    unfold i_lst at hf
    split at hf
    · next x st' hs =>
      split at hf <;> cases hf
      next hk =>
      dsimp only at hs hk
      subst hs
      exact lv_lstore_n hx.1 hx.2.1 hd rfl hL.has (by omega) rfl (fun la' hl' => kk H locs la' hI (hL.st2 hl'))
    · cases hf
theorem sn_lst {k : Nat} (hd : decode cc pc = .ok (.lstore k, 2)) : ma_Snd E cc own lv ini pc (i_lst k (pc + 2)) := by
  refine ma_snd0 (fun c c' h => ?_) ?_
  · unfold i_lst at h
    split at h
    · split at h <;> cases h; rfl
    · cases h
  · intro p l e R s m args below meth c nL Q cells slots ls st w r hx hl hf _ _ kk H locs la hI hL
    unfold i_lst at hf
    split at hf
    · next x st' hs =>
      split at hf <;> cases hf
      next hk =>
      dsimp only at hs hk
      subst hs
      exact lv_lstore hx.1 hx.2.1 hd hL.has (by omega) rfl (fun la' hl' => kk H locs la' hI (hL.st2 hl'))
    · cases hf
theorem sn_ast_w {k n : Nat} (c c') (h : i_ast k n c = some c') : c'.2.2.2 = c.2.2 := by
  unfold i_ast at h
  split at h
  · split at h <;> cases h; rfl
  · split at h <;> cases h; rfl
  · cases h
theorem sn_ast_n {k : Fin 4} (hd : decode cc pc = .ok (.astore_n k, 1)) : ma_Snd E cc own lv ini pc (i_ast k.val (pc + 1)) := by
  refine ma_snd0 sn_ast_w ?_
  intro p l e R s m args below meth c nL Q cells slots ls st w r hx hl hf _ _ kk H locs la hI hL
  unfold i_ast at hf
  split at hf
  · next a st' hs =>
    split at hf <;> cases hf
    next hk =>
    dsimp only at hs hk
    subst hs
    exact lv_astore_n hx.1 hx.2.1 hd rfl hL.has (by omega) rfl (fun la' hl' => kk H locs la' hI (hL.st1 (v := vR a) hl'))
  · next a st' hs =>
    split at hf <;> cases hf
    next hk =>
    dsimp only at hs hk
    subst hs
    obtain ⟨q, hq⟩ := ma_sp_ref (E := E) hk.2
    have h2 : ma_v E (vS a) = .ref q := hq
    show W p l e R s m args below meth c H locs cells slots Q (F0 m pc la (ma_v E (vS a) :: st'.map (ma_v E)))
    rw [h2]
    exact lv_astore_n hx.1 hx.2.1 hd rfl hL.has (by omega) rfl (fun la' hl' => kk H locs la' hI (hL.st1 (v := vS a) (by rw [h2]; exact hl')))
  · cases hf
theorem sn_ast {k : Nat} (hd : decode cc pc = .ok (.astore k, 2)) : ma_Snd E cc own lv ini pc (i_ast k (pc + 2)) := by
  refine ma_snd0 sn_ast_w ?_
  intro p l e R s m args below meth c nL Q cells slots ls st w r hx hl hf _ _ kk H locs la hI hL
  unfold i_ast at hf
  split at hf
  · next a st' hs =>
    split at hf <;> cases hf
    next hk =>
    dsimp only at hs hk
    subst hs
    exact lv_astore hx.1 hx.2.1 hd hL.has (by omega) rfl (fun la' hl' => kk H locs la' hI (hL.st1 (v := vR a) hl'))
  · next a st' hs =>
    split at hf <;> cases hf
    next hk =>
    dsimp only at hs hk
    subst hs
    obtain ⟨q, hq⟩ := ma_sp_ref (E := E) hk.2
    have h2 : ma_v E (vS a) = .ref q := hq
    show W p l e R s m args below meth c H locs cells slots Q (F0 m pc la (ma_v E (vS a) :: st'.map (ma_v E)))
    rw [h2]
    exact lv_astore hx.1 hx.2.1 hd hL.has (by omega) rfl (fun la' hl' => kk H locs la' hI (hL.st1 (v := vS a) (by rw [h2]; exact hl')))
  · cases hf
theorem sn_inc {k : Nat} {d : Int} (hd : decode cc pc = .ok (.iinc k d, 3)) : ma_Snd E cc own lv ini pc (i_inc k d (pc + 3)) := by
  refine ma_snd0 (fun c c' h => ?_) ?_
  · unfold i_inc at h; split at h <;> cases h; rfl
  · intro p l e R s m args below meth c nL Q cells slots ls st w r hx hl hf _ _ kk H locs la hI hL
    unfold i_inc at hf; split at hf <;> cases hf
    next x hk =>
    dsimp only at hk
    obtain ⟨j, hj⟩ := List.getElem?_of_mem (ma_ll_mem (E := E).mpr ⟨_, hk, rfl, rfl⟩)
    have hlt := (List.getElem?_eq_some_iff.mp hk).1
    exact lv_iinc hx.1 hx.2.1 hd hL.has (k := j) (x := x) hj rfl (by omega) rfl (fun la' hl' => kk H locs la' hI (hL.st1 (v := vI (x + Int32.ofInt d)) hl'))
theorem sn_con_w {v : Int32} {n : Nat} (c c') (h : i_con v n c = some c') : c'.2.2.2 = c.2.2 := by cases h; rfl
theorem sn_iconst {n : Int} (hd : decode cc pc = .ok (.iconst n, 1)) : ma_Snd E cc own lv ini pc (i_con (Int32.ofInt n) (pc + 1)) := by
  refine ma_snd0 sn_con_w ?_
  intro p l e R s m args below meth c nL Q cells slots ls st w r hx hl hf _ _ kk H locs la hI hL
  cases hf
  exact lv_iconst hx.1 hx.2.1 hd rfl (kk H locs la hI hL)
theorem sn_bipush {n : Int} (hd : decode cc pc = .ok (.bipush n, 2)) : ma_Snd E cc own lv ini pc (i_con (Int8.ofInt n).toInt32 (pc + 2)) := by
  refine ma_snd0 sn_con_w ?_
  intro p l e R s m args below meth c nL Q cells slots ls st w r hx hl hf _ _ kk H locs la hI hL
  cases hf
  exact lv_bipush hx.1 hx.2.1 hd rfl (kk H locs la hI hL)
theorem sn_sipush {n : Int} (hd : decode cc pc = .ok (.sipush n, 3)) : ma_Snd E cc own lv ini pc (i_con (Int16.ofInt n).toInt32 (pc + 3)) := by
  refine ma_snd0 sn_con_w ?_
  intro p l e R s m args below meth c nL Q cells slots ls st w r hx hl hf _ _ kk H locs la hI hL
  cases hf
  exact lv_sipush hx.1 hx.2.1 hd rfl (kk H locs la hI hL)
theorem sn_lcn_w {v : Int64} {n : Nat} (c c') (h : i_lcn v n c = some c') : c'.2.2.2 = c.2.2 := by cases h; rfl
theorem sn_lconst {n : Fin 2} (hd : decode cc pc = .ok (.lconst n, 1)) : ma_Snd E cc own lv ini pc (i_lcn (Int64.ofNat n.val) (pc + 1)) := by
  refine ma_snd0 sn_lcn_w ?_
  intro p l e R s m args below meth c nL Q cells slots ls st w r hx hl hf _ _ kk H locs la hI hL
  cases hf
  exact lv_lconst hx.1 hx.2.1 hd rfl (kk H locs la hI hL)
theorem sn_ldc {i : Nat} {v : Int32} (hw : Jvm.Cond.constant (ma_on own) i v ∈ ma_big) (hd : decode cc pc = .ok (.ldc i, 2)) : ma_Snd E cc own lv ini pc (i_con v (pc + 2)) := by
  refine ma_snd0 sn_con_w ?_
  intro p l e R s m args below meth c nL Q cells slots ls st w r hx hl hf _ _ kk H locs la hI hL
  cases hf
  exact lv_ldc hx.1 hx.2.1 hx.2.2.2.1 (hx.2.2.2.2.1 _ hw) hd (kk H locs la hI hL)
theorem sn_ldcw {i : Nat} {v : Int32} (hw : Jvm.Cond.constant (ma_on own) i v ∈ ma_big) (hd : decode cc pc = .ok (.ldc_w i, 3)) : ma_Snd E cc own lv ini pc (i_con v (pc + 3)) := by
  refine ma_snd0 sn_con_w ?_
  intro p l e R s m args below meth c nL Q cells slots ls st w r hx hl hf _ _ kk H locs la hI hL
  cases hf
  exact lv_ldcw hx.1 hx.2.1 hx.2.2.2.1 (hx.2.2.2.2.1 _ hw) hd (kk H locs la hI hL)
theorem sn_ldc2 {i : Nat} {v : Int64} (hw : Jvm.Cond.constantLong (ma_on own) i v ∈ ma_big) (hd : decode cc pc = .ok (.ldc2_w i, 3)) : ma_Snd E cc own lv ini pc (i_lcn v (pc + 3)) := by
  refine ma_snd0 sn_lcn_w ?_
  intro p l e R s m args below meth c nL Q cells slots ls st w r hx hl hf _ _ kk H locs la hI hL
  cases hf
  exact lv_ldc2 hx.1 hx.2.1 hx.2.2.2.1 (hx.2.2.2.2.1 _ hw) hd (kk H locs la hI hL)
end S7
