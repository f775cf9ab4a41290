/-! ===== System.arraycopy between rows of ints ===== -/
section S12
variable {E : ma_E} {cc : ByteArray} {own lv pc : Nat} {ini : Bool}
theorem ma_nn {z : Int32} (hz : ¬ z < 0) : z.toInt = (z.toNatClampNeg : Int) := by
  have hz0 : (0 : Int) ≤ z.toInt := by
    have := Int32.not_lt.mp hz
    simpa using Int32.le_iff_toInt_le.mp this
  show z.toInt = ((z.toInt.toNat : Nat) : Int)
  omega
set_option maxHeartbeats 1000000 in
theorem sn_cpy {i : Nat} (w1 : Jvm.Cond.methodLink (ma_on own) i arraycopyName ∈ ma_big) (w2 : Jvm.Cond.native arraycopyName ∈ ma_big) (w3 : Jvm.Cond.static arraycopyName ∈ ma_big) (w4 : Jvm.Cond.initialized "java/lang/System" ∈ ma_big) (hlv : 1 ≤ lv) (hd : decode cc pc = .ok (.invokestatic i, 3)) : ma_Snd E cc own lv ini pc (i_lim 5 (i_cpy (pc + 3))) := by
  refine ma_snd1 (fun c c' h => ?_) ?_
  · unfold i_lim i_cpy at h
    split at h
    · split at h
      · split at h
        · split at h <;> cases h; rfl
        · cases h
      · cases h
    · cases h
  · intro p l e R s m args below meth c nL Q cells slots ls st w r hx hl hf hc hs2 kk H locs la hI hL
    unfold i_lim i_cpy at hf
    split at hf
    · next hlim =>
      split at hf
      · next z dp a sp a0 st' hs =>
        split at hf
        · next q q0 hq hq0 =>
          split at hf <;> cases hf
          next ho =>
          obtain ⟨n0, n1⟩ := q0
          obtain ⟨m0, m1⟩ := q
          dsimp only at hs hlim hq hq0 ho
          subst hs
          obtain ⟨rfl, rfl, h1, h2, h3, h4, h5⟩ := ho
          have hts := hx.2.2.2.2.1
          have hK := hx.2.2.2.2.2.1.1
          have hfr := hx.2.2.2.2.2.2.2.1
          have hlo := hx.2.2.2.2.2.2.2.2.1
          have h8 : ((st'.map (ma_v E)).map fun v => v.category).sum ≤ 8 := by rw [ma_catsum]; exact hlim
          intro T hT X
          have c0 : H[e_lo E + a0]? = some (arrV (e_cy E 0) n1 (fun j => .int (ma_ai w a0 j))) := hI.1.2 _ _ hq0
          have c1 : H[e_lo E + a]? = some (arrV (e_cy E 0) m1 (fun j => .int (ma_ai w a j))) := hI.1.2 _ _ hq
          obtain ⟨-, k0, hk0, cm0, hkk0⟩ := (hK.2 0 _ rfl).1 n1 (fun j => .int (ma_ai w a0 j))
          have e5 : nativeFrameWords "java/lang/System" "arraycopy" 5 = 7 := by decide +kernel
          obtain ⟨vm', X', step⟩ := X.arraycopy hx.1 hx.2.2.2.1 (hts _ w1) (hts _ w2) (hts _ w3) (hts _ w4) (src := e_lo E + a0) (dst := e_lo E + a) (cs := arrV (e_cy E 0) n1 (fun j => .int (ma_ai w a0 j))) (cd := arrV (e_cy E 0) m1 (fun j => .int (ma_ai w a j))) (srcPos := sp) (destPos := dp) (n := z) (by rw [hT]; exact c0) (by rw [hT]; exact c1)
            (fun _ h => by cases h) (fun _ h => by cases h) (fun h => by cases h) (fun h => by cases h) hk0 hk0 hkk0 hkk0 (by simp [refKind]) h1 h2 h3
            (by rw [ma_nn h1, ma_nn h3, arrV_size]; omega)
            (by rw [ma_nn h2, ma_nn h3, arrV_size]; omega)
            (fun vm₁ _ i hi => by
              have e : (arrV (e_cy E 0) n1 (fun j => Value.int (ma_ai w a0 j))).slots.getD (sp.toNatClampNeg + i) .null = .int (ma_ai w a0 (sp.toNatClampNeg + i)) := by
                rw [Array.getD_eq_getD_getElem?, arrV_read _ _ (by omega)]
                rfl
              rw [e]
              exact ⟨rfl, trivial⟩)
            (g := F0 m pc la (.int z :: .int dp :: .ref (e_lo E + a) :: .int sp :: .ref (e_lo E + a0) :: st'.map (ma_v E))) rfl (by rw [hx.2.2.1]; exact hL.1) (rest := st'.map (ma_v E)) rfl (by rw [hx.2.1]; exact hd) (by omega) (by show 2 * 0 + _ + _ ≤ _; rw [e5]; omega)
          have e1 : copied (arrV (e_cy E 0) n1 (fun j => .int (ma_ai w a0 j))) (arrV (e_cy E 0) m1 (fun j => .int (ma_ai w a j))) sp dp z = arrV (e_cy E 0) m1 (fun j => .int (va_cpy (ma_ai w a0) (ma_ai w a) sp.toNatClampNeg dp.toNatClampNeg z.toNatClampNeg j)) := va_copied (fun y => .int y) (e_cy E 0) (e_cy E 0) (ma_ai w a0) (ma_ai w a) h4
          rw [e1] at X' step
          have hl2 : e_lo E + a < H.size := (Array.getElem?_eq_some_iff.mp c1).1
          generalize hcN : arrV (e_cy E 0) m1 (fun j => .int (va_cpy (ma_ai w a0) (ma_ai w a) sp.toNatClampNeg dp.toNatClampNeg z.toNatClampNeg j)) = cN at X' step
          have hheap : ((T.setVm vm').setCell (e_lo E + a) cN).heap = H.setIfInBounds (e_lo E + a) cN := by rw [← hT]; rfl
          have oq : ∀ q : Nat, q ≠ e_lo E + a → (H.setIfInBounds (e_lo E + a) cN)[q]? = H[q]? := fun q hq => by simp [Array.getElem?_setIfInBounds, Ne.symm hq]
          have hin : ∀ L : List Loc, (∀ x ∈ L, ma_A E x.base) → ma_In E (pu_ax w a (va_cpy (ma_ai w a0) (ma_ai w a) sp.toNatClampNeg dp.toNatClampNeg z.toNatClampNeg)) s (H.setIfInBounds (e_lo E + a) cN) (locs ++ L) := by
            intro L hLL
            have h9 := hI.set (w' := pu_ax w a (va_cpy (ma_ai w a0) (ma_ai w a) sp.toNatClampNeg dp.toNatClampNeg z.toNatClampNeg)) (H1 := H.setIfInBounds (e_lo E + a) cN) (j := 0) hq rfl (by
              show (H.setIfInBounds (e_lo E + a) cN)[e_lo E + a]? = some (arrV (e_cy E 0) m1 (fun j => .int (ma_ai (pu_ax w a (va_cpy (ma_ai w a0) (ma_ai w a) sp.toNatClampNeg dp.toNatClampNeg z.toNatClampNeg)) a j)))
              have e10 : ma_ai (pu_ax w a (va_cpy (ma_ai w a0) (ma_ai w a) sp.toNatClampNeg dp.toNatClampNeg z.toNatClampNeg)) a = va_cpy (ma_ai w a0) (ma_ai w a) sp.toNatClampNeg dp.toNatClampNeg z.toNatClampNeg := by simp [pu_ax, ma_ai, ma_u1]
              rw [e10, hcN]
              simp [Array.getElem?_setIfInBounds, hl2]) (by simp) oq (fun _ _ h => ma_ce_ax h)
            exact ⟨h9.1, h9.2.1, h9.2.2.1, fun x hx => (List.mem_append.mp hx).elim (hI.2.2.2 x) (hLL x)⟩
          obtain ⟨t, a1, b1⟩ := kk _ _ la (hin _ (fun x hx => by
            obtain ⟨y, -, hy⟩ := List.mem_map.mp hx
            rw [← hy]
            exact Nat.le_add_right _ _)) hL _ hheap X'
          exact ⟨t, step t a1, b1⟩
        · cases hf
      · cases hf
    · cases hf
end S12
