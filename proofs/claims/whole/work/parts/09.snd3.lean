/-! ===== fields and arrays, read ===== -/
/-- what the tables say of a class of ours -/
def ma_cok (ci : Nat) : Prop := vwCl[ci]? = some (ma_rx ci, ma_tx ci, ma_nf ci) ∧ (∀ w ∈ u_ws (ma_rx ci) (ma_tx ci) (ma_nf ci), w ∈ ma_big) ∧ (∀ k, k < ma_nf ci → parseFieldDescriptor (ma_tx ci k).2.2.1 = some (ma_ty ci k)) ∧ (∀ a, a < ma_nf ci → ∀ b, b < ma_nf ci → a ≠ b → (ma_tx ci a).2.1 ≠ (ma_tx ci b).2.1) ∧ (∀ k, k < ma_nf ci → (ma_tx ci k).1 = ma_rx ci)
theorem ma_one {D : va_G} {cl : List vw_C} {q : Nat × va_E} {H : Heap} (h : va_at D cl q H) : va_P D cl [q] H := by
  intro k x hk
  have hz : k < 1 := (List.getElem?_eq_some_iff.mp hk).1
  rw [show k = 0 by omega] at hk
  cases hk
  exact h
theorem ma_in_vp {i : Int32} {n : Nat} (h : ma_in i n = true) : vp_in i n := by
  unfold ma_in at h
  rw [Bool.and_eq_true, decide_eq_true_eq] at h
  have h1 : ¬ i < 0 := by simpa using h.1
  exact fun q => q.elim h1 (fun q => by omega)
theorem ma_ok_at {w : ma_W} {a t : Nat} {i : Int32} (h : ma_ok w a t i = true) : ∃ n, (ma_sh w)[a]? = some (.inr (t, n)) ∧ ma_in i n = true := by
  unfold ma_ok at h
  split at h
  · next q hq =>
    rw [Bool.and_eq_true, decide_eq_true_eq] at h
    obtain ⟨t', n⟩ := q
    obtain ⟨rfl, h2⟩ := h
    exact ⟨n, hq, h2⟩
  · cases h
theorem ma_fs_at {E : ma_E} {w : ma_W} {o ci k : Nat} (hk : k < ma_nf ci) : ((List.range (ma_nf ci)).map (ma_fv E w o ci))[k]? = some (ma_fv E w o ci k) := by
  rw [List.getElem?_map, List.getElem?_range hk]
  rfl
section S9
variable {E : ma_E} {cc : ByteArray} {own lv pc : Nat} {ini : Bool}
theorem sn_get_w {f : ma_F} {n : Nat} {v : Nat → ma_W → ma_V} {ci : Nat} (c c') (hf : ∀ c, f c = match c.2.1 with
  | .inr (.inr (.inl (some o))) :: st => if (ma_sh c.2.2)[o]? = some (.inl ci) then some (n, c.1, v o c.2.2 :: st, c.2.2) else none
  | _ => none) (h : f c = some c') : c'.2.2.2 = c.2.2 := by
  rw [hf] at h
  split at h
  · split at h <;> cases h; rfl
  · cases h
theorem sn_gti {ci k i : Nat} (hc : ma_cok ci) (hk : k < ma_nf ci) (hr : ma_isr (ma_ty ci k) = false) (hw : Jvm.Cond.fieldLink (ma_on own) i (ma_rx ci) (ma_tx ci k).2.1 (ma_tx ci k).2.2.1 ∈ ma_big) (hd : decode cc pc = .ok (.getfield i, 3)) : ma_Snd E cc own lv ini pc (i_gti ci k (pc + 3)) := by
  refine ma_snd0 (fun c c' h => sn_get_w (v := fun o w => vI (ma_fi w o k)) c c' (fun _ => rfl) h) ?_
  intro p l e R s m args below meth c nL Q cells slots ls st w r hx hl hf _ _ kk H locs la hI hL
  unfold i_gti at hf
  split at hf
  · next o st' hs =>
    split at hf <;> cases hf
    next ho =>
    dsimp only at hs ho
    subst hs
    have hat := hI.1.2 _ _ ho
    refine va_get (ci := ci) (v := .int (ma_fi w o k)) (fs := (List.range (ma_nf ci)).map (ma_fv E w o ci)) hx.1 hx.2.1 hx.2.2.2.2.1 hc.2.1 hx.2.2.2.1 hx.2.2.2.2.2.1.1 (ma_one hat) 0 rfl hc.1 k hk (hx.2.2.2.2.1 _ hw) (fun x h => by rw [hc.2.2.2.2 k hk] at h; exact h) ?_ hd (kk H locs la hI hL)
    rw [ma_fs_at hk]
    unfold ma_fv
    rw [hr]
    rfl
  · cases hf
theorem ma_v_q (q : Option Nat) : ma_v E (vQ q) = va_rf (q.map (fun k => e_lo E + k)) := by cases q <;> rfl
theorem sn_gtr {ci k i : Nat} (hc : ma_cok ci) (hk : k < ma_nf ci) (hr : ma_isr (ma_ty ci k) = true) (hw : Jvm.Cond.fieldLink (ma_on own) i (ma_rx ci) (ma_tx ci k).2.1 (ma_tx ci k).2.2.1 ∈ ma_big) (hd : decode cc pc = .ok (.getfield i, 3)) : ma_Snd E cc own lv ini pc (i_gtr ci k (pc + 3)) := by
  refine ma_snd0 (fun c c' h => sn_get_w (v := fun o w => vQ (ma_fr w o k)) c c' (fun _ => rfl) h) ?_
  intro p l e R s m args below meth c nL Q cells slots ls st w r hx hl hf _ _ kk H locs la hI hL
  unfold i_gtr at hf
  split at hf
  · next o st' hs =>
    split at hf <;> cases hf
    next ho =>
    dsimp only at hs ho
    subst hs
    have hat := hI.1.2 _ _ ho
    refine va_get (ci := ci) (v := ma_v E (vQ (ma_fr w o k))) (fs := (List.range (ma_nf ci)).map (ma_fv E w o ci)) hx.1 hx.2.1 hx.2.2.2.2.1 hc.2.1 hx.2.2.2.1 hx.2.2.2.2.2.1.1 (ma_one hat) 0 rfl hc.1 k hk (hx.2.2.2.2.1 _ hw) (fun x h => by rw [hc.2.2.2.2 k hk] at h; exact h) ?_ hd (kk H locs la hI hL)
    rw [ma_fs_at hk, ma_v_q]
    unfold ma_fv
    rw [hr]
    rfl
  · cases hf
theorem sn_iald (hd : decode cc pc = .ok (.iaload, 1)) : ma_Snd E cc own lv ini pc (i_iald (pc + 1)) := by
  refine ma_snd0 (fun c c' h => ?_) ?_
  · unfold i_iald at h
    split at h
    · split at h <;> cases h; rfl
    · cases h
  · intro p l e R s m args below meth c nL Q cells slots ls st w r hx hl hf _ _ kk H locs la hI hL
    unfold i_iald at hf
    split at hf
    · next i a st' hs =>
      split at hf <;> cases hf
      next ho =>
      dsimp only at hs ho
      subst hs
      obtain ⟨n, h1, h2⟩ := ma_ok_at ho
      have hat := hI.1.2 _ _ h1
      exact va_iald (f := ma_ai w a) (n := n) hx.1 hx.2.1 hx.2.2.2.2.2.1.1 (ma_one hat) 0 0 rfl rfl (ma_in_vp h2) hd (kk H locs la hI hL)
    · cases hf
theorem sn_lald (hd : decode cc pc = .ok (.laload, 1)) : ma_Snd E cc own lv ini pc (i_lald (pc + 1)) := by
  refine ma_snd0 (fun c c' h => ?_) ?_
  · unfold i_lald at h
    split at h
    · split at h <;> cases h; rfl
    · cases h
  · intro p l e R s m args below meth c nL Q cells slots ls st w r hx hl hf _ _ kk H locs la hI hL
    unfold i_lald at hf
    split at hf
    · next i a st' hs =>
      split at hf <;> cases hf
      next ho =>
      dsimp only at hs ho
      subst hs
      obtain ⟨n, h1, h2⟩ := ma_ok_at ho
      have hat := hI.1.2 _ _ h1
      exact va_lald (f := ma_al w a) (n := n) hx.1 hx.2.1 hx.2.2.2.2.2.1.1 (ma_one hat) 0 2 rfl rfl (ma_in_vp h2) hd (kk H locs la hI hL)
    · cases hf
theorem sn_aald (hd : decode cc pc = .ok (.aaload, 1)) : ma_Snd E cc own lv ini pc (i_aald (pc + 1)) := by
  refine ma_snd0 (fun c c' h => ?_) ?_
  · unfold i_aald at h
    split at h
    · split at h <;> cases h; rfl
    · cases h
  · intro p l e R s m args below meth c nL Q cells slots ls st w r hx hl hf _ _ kk H locs la hI hL
    unfold i_aald at hf
    split at hf
    · next i a st' hs =>
      split at hf <;> cases hf
      next ho =>
      dsimp only at hs ho
      subst hs
      rw [Bool.or_eq_true] at ho
      have k1 := kk H locs la hI hL
      dsimp only at k1
      rw [List.map_cons, ma_v_q] at k1
      rcases ho with ho | ho
      · obtain ⟨n, h1, h2⟩ := ma_ok_at ho
        have hat := hI.1.2 _ _ h1
        exact va_aldq (C := RX1) (f := fun j => (ma_ar w a j).map (fun k => e_lo E + k)) (n := n) hx.1 hx.2.1 hx.2.2.2.2.2.1.1 (ma_one hat) 0 3 rfl rfl (ma_in_vp h2) hd k1
      · obtain ⟨n, h1, h2⟩ := ma_ok_at ho
        have hat := hI.1.2 _ _ h1
        exact va_aldq (C := RX2) (f := fun j => (ma_ar w a j).map (fun k => e_lo E + k)) (n := n) hx.1 hx.2.1 hx.2.2.2.2.2.1.1 (ma_one hat) 0 4 rfl rfl (ma_in_vp h2) hd k1
    · cases hf
theorem ma_sp_str {a : Nat} (h3 : 3 ≤ a) (h : a % 2 = 1) : ma_sp E a = .ref (e_ak E ((a - 3) / 2)) := by
  unfold ma_sp
  rw [if_neg (by omega), if_neg (by omega), if_pos h]
theorem ma_sp_byt {a : Nat} (h3 : 3 ≤ a) (h : a % 2 = 0) : ma_sp E a = .ref (e_av E ((a - 4) / 2)) := by
  unfold ma_sp
  rw [if_neg (by omega), if_neg (by omega), if_neg (by omega)]
theorem ma_lens_at {i : Nat} : ma_lens.getD i 0 = ma_len i := by
  unfold ma_lens ma_len
  simp only [List.getD_eq_getElem?_getD, List.getElem?_map]
  cases ma_tx1[i]? <;> rfl
theorem ma_byts_at {i j : Nat} (h : j < ma_len i) : (ma_byts.getD i []).getD j 0 = ma_chr i j := by
  unfold ma_byts ma_chr
  unfold ma_len at h
  simp only [List.getD_eq_getElem?_getD, List.getElem?_map] at h ⊢
  cases hq : ma_tx1[i]? with
  | none => rw [hq] at h; simp at h
  | some l =>
    rw [hq] at h
    simp only [Option.map_some, Option.getD_some, List.getElem?_map] at h ⊢
    cases hj : l[j]? with
    | none => exact absurd (List.getElem?_eq_none_iff.mp hj) (by omega)
    | some x => rfl
theorem ma_str_at {w : ma_W} {s : State} {H : Heap} {locs : List Loc} {a : Nat} (hen : ma_en E s s.heap) (hI : ma_In E w s H locs) (h3 : 3 ≤ a) (h33 : a < 33) (h : a % 2 = 0) : va_T .byte (e_av E ((a - 4) / 2)) (ma_len ((a - 4) / 2)) (fun j => .int ((ma_byts.getD ((a - 4) / 2) []).getD j 0)) (ma_A E) s H := by
  obtain ⟨-, -, -, -, -, -, h7, -⟩ := hen
  have h8 := (h7.1 ((a - 4) / 2) (by omega)).2.2.2.kept hI.2.2.1
  rw [ma_lens_at] at h8
  exact h8
theorem sn_bald (hd : decode cc pc = .ok (.baload, 1)) : ma_Snd E cc own lv ini pc (i_bald (pc + 1)) := by
  refine ma_snd0 (fun c c' h => ?_) ?_
  · unfold i_bald at h
    split at h
    · split at h <;> cases h; rfl
    · split at h <;> cases h; rfl
    · cases h
  · intro p l e R s m args below meth c nL Q cells slots ls st w r hx hl hf _ _ kk H locs la hI hL
    unfold i_bald at hf
    split at hf
    · next i a st' hs =>
      split at hf <;> cases hf
      next ho =>
      dsimp only at hs ho
      subst hs
      obtain ⟨n, h1, h2⟩ := ma_ok_at ho
      have hat := hI.1.2 _ _ h1
      exact va_bald (f := ma_ai w a) (n := n) hx.1 hx.2.1 hx.2.2.2.2.2.1.1 (ma_one hat) 0 1 rfl rfl (ma_in_vp h2) hd (kk H locs la hI hL)
    · next i a st' hs =>
      split at hf <;> cases hf
      next ho =>
      dsimp only at hs ho
      subst hs
      obtain ⟨ha, hb, hc, hd2⟩ := ho
      obtain ⟨cell, t1, t2, t3, t4, t5, t6, -⟩ := ma_str_at hx.2.2.2.2.2.1 hI ha hb hc
      have h1 := ma_in_vp hd2
      have hlt : i.toNatClampNeg < ma_len ((a - 4) / 2) := Nat.not_le.mp fun q => h1 (Or.inr q)
      have k1 := kk H locs la hI hL
      show W p l e R s m args below meth c H locs cells slots Q (F0 m pc la (.int i :: ma_sp E a :: st'.map (ma_v E)))
      rw [ma_sp_byt ha hc]
      refine W.bald (v := .int (ma_chr ((a - 4) / 2) i.toNatClampNeg)) hx.1 hx.2.1 t1 t2 t3 ?_ ?_ rfl rfl hd k1
      · exact fun q => h1 (q.elim Or.inl (fun q => Or.inr (Nat.le_trans t4 q)))
      · rw [t6 _ hlt]; dsimp only; rw [ma_byts_at hlt]
    · cases hf
theorem sn_alen (hd : decode cc pc = .ok (.arraylength, 1)) : ma_Snd E cc own lv ini pc (i_alen (pc + 1)) := by
  refine ma_snd0 (fun c c' h => ?_) ?_
  · unfold i_alen at h
    split at h
    · split at h <;> cases h; rfl
    · cases h
  · intro p l e R s m args below meth c nL Q cells slots ls st w r hx hl hf _ _ kk H locs la hI hL
    unfold i_alen at hf
    split at hf
    · next a st' hs =>
      split at hf <;> cases hf
      next ho =>
      dsimp only at hs ho
      subst hs
      obtain ⟨ha, hb, hc⟩ := ho
      obtain ⟨cell, t1, t2, t3, t4, t5, t6, -⟩ := ma_str_at hx.2.2.2.2.2.1 hI ha hb hc
      have k1 := kk H locs la hI hL
      show W p l e R s m args below meth c H locs cells slots Q (F0 m pc la (ma_sp E a :: st'.map (ma_v E)))
      rw [ma_sp_byt ha hc]
      exact W.alen (n := Int32.ofNat (ma_len ((a - 4) / 2))) hx.1 hx.2.1 t1 t2 t5 rfl rfl hd k1
    · cases hf
theorem sn_sld (hd : decode cc pc = .ok (.iaload, 1)) : ma_Snd E cc own lv ini pc (i_sld (e_xs E) (e_ll E) (pc + 1)) := by
  refine ma_snd0 (fun c c' h => ?_) ?_
  · unfold i_sld at h
    split at h
    · split at h <;> cases h; rfl
    · cases h
  · intro p l e R s m args below meth c nL Q cells slots ls st w r hx hl hf _ _ kk H locs la hI hL
    unfold i_sld at hf
    split at hf
    · next i st' hs =>
      split at hf <;> cases hf
      next ho =>
      dsimp only at hs ho
      subst hs
      have hen := hx.2.2.2.2.2.1
      exact va_sld hx.1 hx.2.1 hen.2.1 (Nat.lt_of_lt_of_le hen.2.2.1 hx.2.2.2.2.2.2.1) (Nat.not_le.mpr hen.2.2.1) hI.2 (ma_in_vp ho) hd (kk H locs la hI hL)
    · cases hf
theorem sn_sln (hd : decode cc pc = .ok (.arraylength, 1)) : ma_Snd E cc own lv ini pc (i_sln (e_ll E) (pc + 1)) := by
  refine ma_snd0 (fun c c' h => ?_) ?_
  · unfold i_sln at h
    split at h <;> cases h; rfl
  · intro p l e R s m args below meth c nL Q cells slots ls st w r hx hl hf _ _ kk H locs la hI hL
    unfold i_sln at hf
    split at hf <;> cases hf
    next st' hs =>
    dsimp only at hs
    subst hs
    have hen := hx.2.2.2.2.2.1
    exact va_slen hx.1 hx.2.1 hen.2.1 (Nat.lt_of_lt_of_le hen.2.2.1 hx.2.2.2.2.2.2.1) (Nat.not_le.mpr hen.2.2.1) hI.2 hd (kk H locs la hI hL)
/-- a text constant -/
theorem sn_ldcS {i j : Nat} (hj : j < 15) (hi : (ma_stx.getD j (0, "")).1 = i) (ho : own = 3) (hd : decode cc pc = .ok (.ldc i, 2)) : ma_Snd E cc own lv ini pc (i_spc (3 + 2 * j) (pc + 2)) := by
  refine ma_snd0 (fun c c' h => by cases h; rfl) ?_
  intro p l e R s m args below meth c nL Q cells slots ls st w r hx hl hf _ _ kk H locs la hI hL
  cases hf
  subst ho
  have h6 := hx.2.2.2.2.2.1.2.2.2.2.2.1 j hj
  rw [hi] at h6
  have k1 := kk H locs la hI hL
  have e1 : ma_v E (vS (3 + 2 * j)) = .ref (e_ak E j) := by
    show ma_sp E (3 + 2 * j) = _
    rw [ma_sp_str (by omega) (by omega), show (3 + 2 * j - 3) / 2 = j by omega]
  dsimp only at k1
  rw [List.map_cons, e1] at k1
  exact va_ldcS hx.1 hx.2.1 hx.2.2.2.1 h6 hd k1
theorem sn_gts {i k : Nat} {nm ds : String} (hw : Jvm.Cond.fieldLink (ma_on own) i "java/lang/String" nm ds ∈ ma_big) (hk : (k = 0 ∧ nm = "value" ∧ ds = "[B") ∨ (¬ k = 0 ∧ nm = "coder" ∧ ds = "B")) (hd : decode cc pc = .ok (.getfield i, 3)) : ma_Snd E cc own lv ini pc (i_gts k (pc + 3)) := by
  refine ma_snd0 (fun c c' h => ?_) ?_
  · unfold i_gts at h
    split at h
    · split at h <;> cases h; rfl
    · cases h
  · intro p l e R s m args below meth c nL Q cells slots ls st w r hx hl hf _ _ kk H locs la hI hL
    unfold i_gts at hf
    split at hf
    · next a st' hs =>
      split at hf <;> cases hf
      next ho =>
      dsimp only at hs ho
      subst hs
      obtain ⟨ha, hb, hc⟩ := ho
      obtain ⟨-, -, -, -, -, -, h7, -⟩ := hx.2.2.2.2.2.1
      have h8 := h7.1 ((a - 3) / 2) (by omega)
      have k1 := kk H locs la hI hL
      show W p l e R s m args below meth c H locs cells slots Q (F0 m pc la (ma_sp E a :: st'.map (ma_v E)))
      rw [ma_sp_str ha hc]
      rcases hk with ⟨k0, rfl, rfl⟩ | ⟨k0, rfl, rfl⟩
      · rw [if_pos k0] at k1
        have e1 : ma_v E (vS (a + 1)) = .ref (e_av E ((a - 3) / 2)) := by
          show ma_sp E (a + 1) = _
          rw [ma_sp_byt (by omega) (by omega), show a + 1 - 4 = a - 3 by omega]
        dsimp only at k1
        rw [List.map_cons, e1] at k1
        exact vk_getf hx.1 hx.2.1 h8.2.2.1 hI.2 hx.2.2.2.1 (hx.2.2.2.2.1 _ hw) (fun _ h => h) hd k1
      · rw [if_neg k0] at k1
        exact vk_getf hx.1 hx.2.1 h8.2.1 hI.2 hx.2.2.2.1 (hx.2.2.2.2.1 _ hw) (fun _ h => h) hd k1
    · cases hf
theorem sn_gsc {i : Nat} (hw : Jvm.Cond.fieldLink (ma_on own) i "java/lang/String" "COMPACT_STRINGS" "Z" ∈ ma_big) (hd : decode cc pc = .ok (.getstatic i, 3)) : ma_Snd E cc own lv ini pc (i_con 1 (pc + 3)) := by
  refine ma_snd0 sn_con_w ?_
  intro p l e R s m args below meth c nL Q cells slots ls st w r hx hl hf _ _ kk H locs la hI hL
  cases hf
  obtain ⟨-, -, -, -, -, -, -, h8, -⟩ := hx.2.2.2.2.2.1
  exact va_gets hx.1 hx.2.1 h8 hI.2 hx.2.2.2.1 (hx.2.2.2.2.1 _ hw) (fun _ h => h) hd (kk H locs la hI hL)
theorem sn_gsf {i : Nat} (hw : Jvm.Cond.fieldLink (ma_on own) i "jdk/internal/util/Preconditions" "SIOOBE_FORMATTER" "Ljava/util/function/BiFunction;" ∈ ma_big) (hd : decode cc pc = .ok (.getstatic i, 3)) : ma_Snd E cc own lv ini pc (i_spc 2 (pc + 3)) := by
  refine ma_snd0 (fun c c' h => by cases h; rfl) ?_
  intro p l e R s m args below meth c nL Q cells slots ls st w r hx hl hf _ _ kk H locs la hI hL
  cases hf
  obtain ⟨-, -, -, -, -, -, -, -, h9⟩ := hx.2.2.2.2.2.1
  exact va_gets hx.1 hx.2.1 h9 hI.2 hx.2.2.2.1 (hx.2.2.2.2.1 _ hw) (fun _ h => h) hd (kk H locs la hI hL)
end S9
