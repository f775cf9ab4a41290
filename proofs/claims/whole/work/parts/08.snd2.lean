/-! ===== arithmetic, jumps, switches ===== -/
section S8
variable {E : ma_E} {cc : ByteArray} {own lv pc : Nat} {ini : Bool}
theorem sn_bin {F : Int32 → Int32 → Int32} {n : Nat}
    (h : ∀ {p : Program} {l : Launch} {e : Env} {R : Room} {s : State} {m : MethodId} {args : Array Value} {below : List Frame} {meth : Method} {c : Code} {H : Heap} {locs : List Loc} {cells slots : Nat} {Q : State → Prop} {la : Array Slot} {rest : List Value} {x y : Int32}, p.tables.exec = Jvm.exec → c.code = cc → W p l e R s m args below meth c H locs cells slots Q (F0 m n la (.int (F x y) :: rest)) → W p l e R s m args below meth c H locs cells slots Q (F0 m pc la (.int y :: .int x :: rest))) : ma_Snd E cc own lv ini pc (i_bin F n) := by
  refine ma_snd0 (fun c c' h => ?_) ?_
  · unfold i_bin at h; split at h <;> cases h; rfl
  · intro p l e R s m args below meth c nL Q cells slots ls st w r hx hl hf _ _ kk H locs la hI hL
    unfold i_bin at hf; split at hf <;> cases hf
    next y x st' hs =>
    dsimp only at hs
    subst hs
    exact h hx.1 hx.2.1 (kk H locs la hI hL)
theorem sn_dvi {F : Int32 → Int32 → Int32} {n : Nat}
    (h : ∀ {p : Program} {l : Launch} {e : Env} {R : Room} {s : State} {m : MethodId} {args : Array Value} {below : List Frame} {meth : Method} {c : Code} {H : Heap} {locs : List Loc} {cells slots : Nat} {Q : State → Prop} {la : Array Slot} {rest : List Value} {x y : Int32}, p.tables.exec = Jvm.exec → c.code = cc → ¬ y = 0 → W p l e R s m args below meth c H locs cells slots Q (F0 m n la (.int (F x y) :: rest)) → W p l e R s m args below meth c H locs cells slots Q (F0 m pc la (.int y :: .int x :: rest))) : ma_Snd E cc own lv ini pc (i_dvi F n) := by
  refine ma_snd0 (fun c c' h => ?_) ?_
  · unfold i_dvi at h
    split at h
    · split at h <;> cases h; rfl
    · cases h
  · intro p l e R s m args below meth c nL Q cells slots ls st w r hx hl hf _ _ kk H locs la hI hL
    unfold i_dvi at hf
    split at hf
    · next y x st' hs =>
      split at hf <;> cases hf
      next hy =>
      dsimp only at hs
      subst hs
      exact h hx.1 hx.2.1 hy (kk H locs la hI hL)
    · cases hf
theorem sn_lbn {F : Int64 → Int64 → Int64} {n : Nat}
    (h : ∀ {p : Program} {l : Launch} {e : Env} {R : Room} {s : State} {m : MethodId} {args : Array Value} {below : List Frame} {meth : Method} {c : Code} {H : Heap} {locs : List Loc} {cells slots : Nat} {Q : State → Prop} {la : Array Slot} {rest : List Value} {x y : Int64}, p.tables.exec = Jvm.exec → c.code = cc → W p l e R s m args below meth c H locs cells slots Q (F0 m n la (.long (F x y) :: rest)) → W p l e R s m args below meth c H locs cells slots Q (F0 m pc la (.long y :: .long x :: rest))) : ma_Snd E cc own lv ini pc (i_lbn F n) := by
  refine ma_snd0 (fun c c' h => ?_) ?_
  · unfold i_lbn at h; split at h <;> cases h; rfl
  · intro p l e R s m args below meth c nL Q cells slots ls st w r hx hl hf _ _ kk H locs la hI hL
    unfold i_lbn at hf; split at hf <;> cases hf
    next y x st' hs =>
    dsimp only at hs
    subst hs
    exact h hx.1 hx.2.1 (kk H locs la hI hL)
theorem sn_ldv {F : Int64 → Int64 → Int64} {n : Nat}
    (h : ∀ {p : Program} {l : Launch} {e : Env} {R : Room} {s : State} {m : MethodId} {args : Array Value} {below : List Frame} {meth : Method} {c : Code} {H : Heap} {locs : List Loc} {cells slots : Nat} {Q : State → Prop} {la : Array Slot} {rest : List Value} {x y : Int64}, p.tables.exec = Jvm.exec → c.code = cc → ¬ y = 0 → W p l e R s m args below meth c H locs cells slots Q (F0 m n la (.long (F x y) :: rest)) → W p l e R s m args below meth c H locs cells slots Q (F0 m pc la (.long y :: .long x :: rest))) : ma_Snd E cc own lv ini pc (i_ldv F n) := by
  refine ma_snd0 (fun c c' h => ?_) ?_
  · unfold i_ldv at h
    split at h
    · split at h <;> cases h; rfl
    · cases h
  · intro p l e R s m args below meth c nL Q cells slots ls st w r hx hl hf _ _ kk H locs la hI hL
    unfold i_ldv at hf
    split at hf
    · next y x st' hs =>
      split at hf <;> cases hf
      next hy =>
      dsimp only at hs
      subst hs
      exact h hx.1 hx.2.1 hy (kk H locs la hI hL)
    · cases hf
theorem sn_lsh {F : Int64 → Int32 → Int64} {n : Nat}
    (h : ∀ {p : Program} {l : Launch} {e : Env} {R : Room} {s : State} {m : MethodId} {args : Array Value} {below : List Frame} {meth : Method} {c : Code} {H : Heap} {locs : List Loc} {cells slots : Nat} {Q : State → Prop} {la : Array Slot} {rest : List Value} {x : Int64} {y : Int32}, p.tables.exec = Jvm.exec → c.code = cc → W p l e R s m args below meth c H locs cells slots Q (F0 m n la (.long (F x y) :: rest)) → W p l e R s m args below meth c H locs cells slots Q (F0 m pc la (.int y :: .long x :: rest))) : ma_Snd E cc own lv ini pc (i_lsh F n) := by
  refine ma_snd0 (fun c c' h => ?_) ?_
  · unfold i_lsh at h; split at h <;> cases h; rfl
  · intro p l e R s m args below meth c nL Q cells slots ls st w r hx hl hf _ _ kk H locs la hI hL
    unfold i_lsh at hf; split at hf <;> cases hf
    next y x st' hs =>
    dsimp only at hs
    subst hs
    exact h hx.1 hx.2.1 (kk H locs la hI hL)
theorem sn_lcp (hd : decode cc pc = .ok (.lcmp, 1)) : ma_Snd E cc own lv ini pc (i_lcp (pc + 1)) := by
  refine ma_snd0 (fun c c' h => ?_) ?_
  · unfold i_lcp at h; split at h <;> cases h; rfl
  · intro p l e R s m args below meth c nL Q cells slots ls st w r hx hl hf _ _ kk H locs la hI hL
    unfold i_lcp at hf; split at hf <;> cases hf
    next y x st' hs =>
    dsimp only at hs
    subst hs
    exact W.lcmp hx.1 hx.2.1 hd (kk H locs la hI hL)
theorem sn_una {F : Int32 → Int32} {n : Nat}
    (h : ∀ {p : Program} {l : Launch} {e : Env} {R : Room} {s : State} {m : MethodId} {args : Array Value} {below : List Frame} {meth : Method} {c : Code} {H : Heap} {locs : List Loc} {cells slots : Nat} {Q : State → Prop} {la : Array Slot} {rest : List Value} {x : Int32}, p.tables.exec = Jvm.exec → c.code = cc → W p l e R s m args below meth c H locs cells slots Q (F0 m n la (.int (F x) :: rest)) → W p l e R s m args below meth c H locs cells slots Q (F0 m pc la (.int x :: rest))) : ma_Snd E cc own lv ini pc (i_una F n) := by
  refine ma_snd0 (fun c c' h => ?_) ?_
  · unfold i_una at h; split at h <;> cases h; rfl
  · intro p l e R s m args below meth c nL Q cells slots ls st w r hx hl hf _ _ kk H locs la hI hL
    unfold i_una at hf; split at hf <;> cases hf
    next x st' hs =>
    dsimp only at hs
    subst hs
    exact h hx.1 hx.2.1 (kk H locs la hI hL)
theorem sn_i2l (hd : decode cc pc = .ok (.i2l, 1)) : ma_Snd E cc own lv ini pc (i_i2l (pc + 1)) := by
  refine ma_snd0 (fun c c' h => ?_) ?_
  · unfold i_i2l at h; split at h <;> cases h; rfl
  · intro p l e R s m args below meth c nL Q cells slots ls st w r hx hl hf _ _ kk H locs la hI hL
    unfold i_i2l at hf; split at hf <;> cases hf
    next x st' hs =>
    dsimp only at hs
    subst hs
    exact lv_i2l hx.1 hx.2.1 hd rfl (kk H locs la hI hL)
theorem sn_l2i (hd : decode cc pc = .ok (.l2i, 1)) : ma_Snd E cc own lv ini pc (i_l2i (pc + 1)) := by
  refine ma_snd0 (fun c c' h => ?_) ?_
  · unfold i_l2i at h; split at h <;> cases h; rfl
  · intro p l e R s m args below meth c nL Q cells slots ls st w r hx hl hf _ _ kk H locs la hI hL
    unfold i_l2i at hf; split at hf <;> cases hf
    next x st' hs =>
    dsimp only at hs
    subst hs
    exact lv_l2i hx.1 hx.2.1 hd rfl (kk H locs la hI hL)
theorem ma_c1_cat {v : ma_V} (h : ma_c1 v = true) : (ma_v E v).category = 1 := by
  refine ma_v_cat (fun x hx => ?_)
  subst hx
  cases h
theorem sn_dup (hd : decode cc pc = .ok (.dup, 1)) : ma_Snd E cc own lv ini pc (i_dup (pc + 1)) := by
  refine ma_snd0 (fun c c' h => ?_) ?_
  · unfold i_dup at h
    split at h
    · split at h <;> cases h; rfl
    · cases h
  · intro p l e R s m args below meth c nL Q cells slots ls st w r hx hl hf _ _ kk H locs la hI hL
    unfold i_dup at hf
    split at hf
    · next v st' hs =>
      split at hf <;> cases hf
      next hv =>
      dsimp only at hs
      subst hs
      exact lv_dup hx.1 hx.2.1 hd (ma_c1_cat hv) (kk H locs la hI hL)
    · cases hf
theorem sn_pop (hd : decode cc pc = .ok (.pop, 1)) : ma_Snd E cc own lv ini pc (i_pop (pc + 1)) := by
  refine ma_snd0 (fun c c' h => ?_) ?_
  · unfold i_pop at h
    split at h
    · split at h <;> cases h; rfl
    · cases h
  · intro p l e R s m args below meth c nL Q cells slots ls st w r hx hl hf _ _ kk H locs la hI hL
    unfold i_pop at hf
    split at hf
    · next v st' hs =>
      split at hf <;> cases hf
      next hv =>
      dsimp only at hs
      subst hs
      exact lv_pop hx.1 hx.2.1 hd (ma_c1_cat hv) (kk H locs la hI hL)
    · cases hf
theorem sn_du2 (hd : decode cc pc = .ok (.dup2, 1)) : ma_Snd E cc own lv ini pc (i_du2 (pc + 1)) := by
  refine ma_snd0 (fun c c' h => ?_) ?_
  · unfold i_du2 at h
    split at h
    · split at h <;> cases h; rfl
    · cases h
  · intro p l e R s m args below meth c nL Q cells slots ls st w r hx hl hf _ _ kk H locs la hI hL
    unfold i_du2 at hf
    split at hf
    · next v u st' hs =>
      split at hf <;> cases hf
      next hv =>
      dsimp only at hs
      subst hs
      rw [Bool.and_eq_true] at hv
      exact lv_dup2_11 hx.1 hx.2.1 hd (ma_c1_cat hv.1) (ma_c1_cat hv.2) (kk H locs la hI hL)
    · cases hf
theorem sn_tgt {off : Int} (h : 0 ≤ (pc : Int) + off) : (pc : Int) + off = (ma_tgt pc off : Int) := by
  unfold ma_tgt
  omega
theorem sn_if2 {k : Jvm.ClassFile.Cond} {off : Int} (hd : decode cc pc = .ok (.if_icmp k off, 3)) (h0 : 0 ≤ (pc : Int) + off) : ma_Snd E cc own lv ini pc (i_if2 (ma_cmp k) (ma_tgt pc off) (pc + 3)) := by
  refine ma_snd0 (fun c c' h => ?_) ?_
  · unfold i_if2 at h; split at h <;> cases h; rfl
  · intro p l e R s m args below meth c nL Q cells slots ls st w r hx hl hf _ _ kk H locs la hI hL
    unfold i_if2 at hf; split at hf <;> cases hf
    next y x st' hs =>
    dsimp only at hs
    subst hs
    have k1 := kk H locs la hI hL
    have ht := sn_tgt h0
    cases k with
    | eq => exact lv_icmp_eq hx.1 hx.2.1 hd ht (fun h => by simpa [ma_cmp, h] using k1) (fun h => by simpa [ma_cmp, h] using k1)
    | ne => exact lv_icmp_ne hx.1 hx.2.1 hd ht (fun h => by simpa [ma_cmp, h] using k1) (fun h => by simpa [ma_cmp, h] using k1)
    | lt => exact lv_icmp_lt hx.1 hx.2.1 hd ht (fun h => by simpa [ma_cmp, h] using k1) (fun h => by simpa [ma_cmp, h] using k1)
    | ge => exact lv_icmp_ge hx.1 hx.2.1 hd ht (fun h => by simpa [ma_cmp, h] using k1) (fun h => by simpa [ma_cmp, h] using k1)
    | gt => exact lv_icmp_gt hx.1 hx.2.1 hd ht (fun h => by simpa [ma_cmp, h] using k1) (fun h => by simpa [ma_cmp, h] using k1)
    | le => exact lv_icmp_le hx.1 hx.2.1 hd ht (fun h => by simpa [ma_cmp, h] using k1) (fun h => by simpa [ma_cmp, h] using k1)
theorem sn_if1 {k : Jvm.ClassFile.Cond} {off : Int} (hd : decode cc pc = .ok (.ifCond k off, 3)) (h0 : 0 ≤ (pc : Int) + off) : ma_Snd E cc own lv ini pc (i_if1 (ma_cm0 k) (ma_tgt pc off) (pc + 3)) := by
  refine ma_snd0 (fun c c' h => ?_) ?_
  · unfold i_if1 at h; split at h <;> cases h; rfl
  · intro p l e R s m args below meth c nL Q cells slots ls st w r hx hl hf _ _ kk H locs la hI hL
    unfold i_if1 at hf; split at hf <;> cases hf
    next x st' hs =>
    dsimp only at hs
    subst hs
    have k1 := kk H locs la hI hL
    have ht := sn_tgt h0
    cases k with
    | eq => exact lv_if_eq hx.1 hx.2.1 hd ht (fun h => by simpa [ma_cm0, h] using k1) (fun h => by simpa [ma_cm0, h] using k1)
    | ne => exact lv_if_ne hx.1 hx.2.1 hd ht (fun h => by simpa [ma_cm0, h] using k1) (fun h => by simpa [ma_cm0, h] using k1)
    | lt => exact lv_if_lt hx.1 hx.2.1 hd ht (fun h => by simpa [ma_cm0, h] using k1) (fun h => by simpa [ma_cm0, h] using k1)
    | ge => exact lv_if_ge hx.1 hx.2.1 hd ht (fun h => by simpa [ma_cm0, h] using k1) (fun h => by simpa [ma_cm0, h] using k1)
    | gt => exact lv_if_gt hx.1 hx.2.1 hd ht (fun h => by simpa [ma_cm0, h] using k1) (fun h => by simpa [ma_cm0, h] using k1)
    | le => exact lv_if_le hx.1 hx.2.1 hd ht (fun h => by simpa [ma_cm0, h] using k1) (fun h => by simpa [ma_cm0, h] using k1)
theorem sn_gto {off : Int} (hd : decode cc pc = .ok (.goto off, 3)) (h0 : 0 ≤ (pc : Int) + off) : ma_Snd E cc own lv ini pc (i_gto (ma_tgt pc off)) := by
  refine ma_snd0 (fun c c' h => by cases h; rfl) ?_
  intro p l e R s m args below meth c nL Q cells slots ls st w r hx hl hf _ _ kk H locs la hI hL
  cases hf
  exact lv_goto hx.1 hx.2.1 hd (sn_tgt h0) (kk H locs la hI hL)
theorem sn_swi {g : Int32 → Option Nat}
    (h : ∀ {p : Program} {l : Launch} {e : Env} {R : Room} {s : State} {m : MethodId} {args : Array Value} {below : List Frame} {meth : Method} {c : Code} {H : Heap} {locs : List Loc} {cells slots : Nat} {Q : State → Prop} {la : Array Slot} {rest : List Value} {x : Int32} {t : Nat}, p.tables.exec = Jvm.exec → c.code = cc → g x = some t → W p l e R s m args below meth c H locs cells slots Q (F0 m t la rest) → W p l e R s m args below meth c H locs cells slots Q (F0 m pc la (.int x :: rest))) : ma_Snd E cc own lv ini pc (i_swi g) := by
  refine ma_snd0 (fun c c' h => ?_) ?_
  · unfold i_swi at h
    split at h
    · split at h <;> cases h; rfl
    · cases h
  · intro p l e R s m args below meth c nL Q cells slots ls st w r hx hl hf _ _ kk H locs la hI hL
    unfold i_swi at hf
    split at hf
    · next x st' hs =>
      split at hf <;> cases hf
      next t ht =>
      dsimp only at hs
      subst hs
      exact h hx.1 hx.2.1 ht (kk H locs la hI hL)
    · cases hf
theorem sn_tsw {dflt lo hi : Int} {offs : Array Int} {len : Nat} (hd : decode cc pc = .ok (.tableswitch dflt lo hi offs, len)) : ma_Snd E cc own lv ini pc (i_swi (ma_tsw pc dflt lo hi offs)) := by
  refine sn_swi ?_
  intro p l e R s m args below meth c H locs cells slots Q la rest x t hx hb ht kk
  unfold ma_tsw at ht
  by_cases hc : x.toInt < lo ∨ hi < x.toInt
  · rw [if_pos hc] at ht
    dsimp only at ht
    split at ht <;> cases ht
    next h0 => exact lv_tableOut hx hb hd hc (sn_tgt h0) kk
  · rw [if_neg hc] at ht
    split at ht
    · next off ho =>
      split at ht <;> cases ht
      next h0 => exact lv_tableIn hx hb hd (fun q => hc (Or.inl q)) (fun q => hc (Or.inr q)) ho (sn_tgt h0) kk
    · cases ht
theorem sn_lsw {dflt : Int} {ps : Array (Int × Int)} {len : Nat} (hd : decode cc pc = .ok (.lookupswitch dflt ps, len)) (hp : (ps.toList.zip (ps.toList.drop 1)).all (fun q => decide (q.1.1 < q.2.1)) = true) : ma_Snd E cc own lv ini pc (i_swi (ma_lsw pc dflt ps)) := by
  refine sn_swi ?_
  intro p l e R s m args below meth c H locs cells slots Q la rest x t hx hb ht kk
  unfold ma_lsw at ht
  split at ht <;> cases ht
  next h0 => exact lv_lookup hx hb hd hp rfl (sn_tgt h0) kk
end S8
