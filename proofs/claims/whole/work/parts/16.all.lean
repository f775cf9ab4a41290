/-! ===== every step of a method's instructions is one of the great machine ===== -/
theorem ma_g_some {b : Bool} {f g : ma_F} (h : ma_g b f = some (Sum.inl g)) : b = true ∧ f = g := by
  unfold ma_g at h
  split at h
  · next hb => cases h; exact ⟨hb, rfl⟩
  · cases h
theorem ma_j_some {pc : Nat} {off : Int} {F : Nat → ma_F} {b : Bool} {g : ma_F} (h : ma_j pc off F b = some (Sum.inl g)) : b = true ∧ 0 ≤ (pc : Int) + off ∧ F (ma_tgt pc off) = g := by
  unfold ma_j at h
  split at h
  · next hb =>
    cases h
    rw [Bool.and_eq_true, decide_eq_true_eq] at hb
    exact ⟨hb.1, hb.2, rfl⟩
  · cases h
theorem ma_inv_inl {own lv pc sort idx : Nat} {f : ma_F} (h : ma_inv own lv pc sort idx = some (Sum.inl f)) : ∃ q, (idx, q) ∈ ma_mls own ∧ 1 ≤ lv ∧
    ((sort = 0 ∧ q.1 = 6 ∧ f = i_lim 2 (i_bin (fun x y => if x < y then y else x) (pc + 3))) ∨ (sort = 0 ∧ q.1 = 7 ∧ f = i_lim 2 (i_bin (fun x y => if y < x then y else x) (pc + 3))) ∨ (sort = 0 ∧ q.1 = 8 ∧ f = i_lim 5 (i_cpy (pc + 3))) ∨ (sort = 2 ∧ q.1 = 9 ∧ f = i_lim 1 (i_oin (pc + 3)))) := by
  unfold ma_inv at h
  split at h
  · next q hq =>
    refine ⟨q, ma_lk_mem hq, ?_⟩
    obtain ⟨k, rest⟩ := q
    dsimp only at h ⊢
    split at h
    all_goals first
      | (obtain ⟨h1, h2⟩ := ma_g_some h; rw [decide_eq_true_eq] at h1; subst h2; refine ⟨h1, ?_⟩; simp; done)
      | cases h
  · cases h
section S16
variable {E : ma_E} {cc : ByteArray} {own lv pc : Nat} {ini : Bool}
theorem sn_inv {sort i : Nat} {ins : Instr} {f : ma_F} (hi : (sort = 0 ∧ ins = .invokestatic i) ∨ (sort = 1 ∧ ins = .invokevirtual i) ∨ (sort = 2 ∧ ins = .invokespecial i)) (h : ma_inv own lv pc sort i = some (Sum.inl f)) (hd : decode cc pc = .ok (ins, 3)) : ma_Snd E cc own lv ini pc f := by
  obtain ⟨q, hq, hlv, hk⟩ := ma_inv_inl h
  have hok := ma_mls_ok own _ hq
  obtain ⟨k, rest⟩ := q
  dsimp only at hk
  rcases hk with ⟨rfl, rfl, rfl⟩ | ⟨rfl, rfl, rfl⟩ | ⟨rfl, rfl, rfl⟩ | ⟨rfl, rfl, rfl⟩
  · rcases hi with ⟨-, rfl⟩ | ⟨h, -⟩ | ⟨h, -⟩
    · exact sn_mmx (ma_wd_in hok) (ma_wd_in ma_n0) (ma_wd_in ma_n2) (ma_wd_in ma_n3) hlv hd
    · cases h
    · cases h
  · rcases hi with ⟨-, rfl⟩ | ⟨h, -⟩ | ⟨h, -⟩
    · exact sn_mmn (ma_wd_in hok) (ma_wd_in ma_n1) (ma_wd_in ma_n2) (ma_wd_in ma_n4) hlv hd
    · cases h
    · cases h
  · rcases hi with ⟨-, rfl⟩ | ⟨h, -⟩ | ⟨h, -⟩
    · exact sn_cpy (ma_wd_in hok) (ma_wd_in ma_n5) (ma_wd_in ma_n6) (ma_wd_in ma_n7) hlv hd
    · cases h
    · cases h
  · rcases hi with ⟨h, -⟩ | ⟨h, -⟩ | ⟨-, rfl⟩
    · cases h
    · cases h
    · exact sn_oin (ma_wd_in hok) (ma_wd_in ma_n8) (ma_wd_in ma_n9) hlv hd
theorem ma_fok_at {i : Nat} {q : Nat × Nat × Nat} (h : ma_lk (ma_fls own) i = some q) : Jvm.Cond.fieldLink (ma_on own) i (ma_rx q.1) (ma_tx q.1 q.2.1).2.1 (ma_tx q.1 q.2.1).2.2.1 ∈ ma_big ∧ q.1 < 7 ∧ q.2.1 < ma_nf q.1 := by
  have h1 := ma_fls_ok own _ (ma_lk_mem h)
  unfold ma_fok at h1
  rw [Bool.and_eq_true, Bool.and_eq_true, decide_eq_true_eq, decide_eq_true_eq] at h1
  exact ⟨ma_wd_in h1.1.1, h1.1.2, h1.2⟩
theorem ma_tyc {ci k : Nat} (hc : ma_ck2 ci) (hk : k < ma_nf ci) (hr : ma_isr (ma_ty ci k) = false) : ma_ty ci k = .int ∨ ma_ty ci k = .boolean := by
  rcases hc k hk with h | h
  · rw [hr] at h; cases h
  · exact h
theorem ma_own_rx (h : own < 7) : ma_rx own = ma_on own := by
  match own, h with
  | 0, _ => rfl
  | 1, _ => rfl
  | 2, _ => rfl
  | 3, _ => rfl
  | 4, _ => rfl
  | 5, _ => rfl
  | 6, _ => rfl
set_option maxHeartbeats 4000000 in
theorem sn_all {ins : Instr} {len : Nat} {f : ma_F} (hd : decode cc pc = .ok (ins, len)) (h : ma_sem (e_xs E) (e_ll E) own lv ini pc ins len = some (Sum.inl f)) : ma_Snd E cc own lv ini pc f := by
  cases ins with
  | aload_n k =>
    obtain ⟨h1, h2⟩ := ma_g_some h
    have h3 := eq_of_beq h1
    subst h3
    subst h2
    exact sn_ald_n hd
  | aload k =>
    obtain ⟨h1, h2⟩ := ma_g_some h
    have h3 := eq_of_beq h1
    subst h3
    subst h2
    exact sn_ald hd
  | iload_n k =>
    obtain ⟨h1, h2⟩ := ma_g_some h
    have h3 := eq_of_beq h1
    subst h3
    subst h2
    exact sn_ild_n hd
  | iload k =>
    obtain ⟨h1, h2⟩ := ma_g_some h
    have h3 := eq_of_beq h1
    subst h3
    subst h2
    exact sn_ild hd
  | lload_n k =>
    obtain ⟨h1, h2⟩ := ma_g_some h
    have h3 := eq_of_beq h1
    subst h3
    subst h2
    exact sn_lld_n hd
  | lload k =>
    obtain ⟨h1, h2⟩ := ma_g_some h
    have h3 := eq_of_beq h1
    subst h3
    subst h2
    exact sn_lld hd
  | istore_n k =>
    obtain ⟨h1, h2⟩ := ma_g_some h
    have h3 := eq_of_beq h1
    subst h3
    subst h2
    exact sn_ist_n hd
  | istore k =>
    obtain ⟨h1, h2⟩ := ma_g_some h
    have h3 := eq_of_beq h1
    subst h3
    subst h2
    exact sn_ist hd
  | lstore_n k =>
    obtain ⟨h1, h2⟩ := ma_g_some h
    have h3 := eq_of_beq h1
    subst h3
    subst h2
    exact sn_lst_n hd
  | lstore k =>
    obtain ⟨h1, h2⟩ := ma_g_some h
    have h3 := eq_of_beq h1
    subst h3
    subst h2
    exact sn_lst hd
  | astore_n k =>
    obtain ⟨h1, h2⟩ := ma_g_some h
    have h3 := eq_of_beq h1
    subst h3
    subst h2
    exact sn_ast_n hd
  | astore k =>
    obtain ⟨h1, h2⟩ := ma_g_some h
    have h3 := eq_of_beq h1
    subst h3
    subst h2
    exact sn_ast hd
  | iinc k d =>
    obtain ⟨h1, h2⟩ := ma_g_some h
    have h3 := eq_of_beq h1
    subst h3
    subst h2
    exact sn_inc hd
  | iconst n =>
    obtain ⟨h1, h2⟩ := ma_g_some h
    have h3 := eq_of_beq h1
    subst h3
    subst h2
    exact sn_iconst hd
  | bipush n =>
    obtain ⟨h1, h2⟩ := ma_g_some h
    have h3 := eq_of_beq h1
    subst h3
    subst h2
    exact sn_bipush hd
  | sipush n =>
    obtain ⟨h1, h2⟩ := ma_g_some h
    have h3 := eq_of_beq h1
    subst h3
    subst h2
    exact sn_sipush hd
  | lconst n =>
    obtain ⟨h1, h2⟩ := ma_g_some h
    have h3 := eq_of_beq h1
    subst h3
    subst h2
    exact sn_lconst hd
  | ldc i =>
    change (match ma_lk (ma_ccs own) i with
      | some q => ma_g (len == 2) (i_con q.1 (pc + 2))
      | none => match ma_lk (ma_sts own) i with
        | some q => ma_g (len == 2) (i_spc (3 + 2 * q.1) (pc + 2))
        | none => none) = _ at h
    split at h
    · next q hq =>
      obtain ⟨h1, h2⟩ := ma_g_some h
      have h3 := eq_of_beq h1
      subst h3
      subst h2
      exact sn_ldc (ma_wd_in (ma_ccs_ok own _ (ma_lk_mem hq))) hd
    · split at h
      · next q hq =>
        obtain ⟨h1, h2⟩ := ma_g_some h
        have h3 := eq_of_beq h1
        subst h3
        subst h2
        obtain ⟨h4, h5, h6⟩ := ma_sts_ok own _ (ma_lk_mem hq)
        exact sn_ldcS h5 h6 h4 hd
      · cases h
  | ldc_w i =>
    change (match ma_lk (ma_ccs own) i with
      | some q => ma_g (len == 3) (i_con q.1 (pc + 3))
      | none => none) = _ at h
    split at h
    · next q hq =>
      obtain ⟨h1, h2⟩ := ma_g_some h
      have h3 := eq_of_beq h1
      subst h3
      subst h2
      exact sn_ldcw (ma_wd_in (ma_ccs_ok own _ (ma_lk_mem hq))) hd
    · cases h
  | ldc2_w i =>
    change (match ma_lk (ma_lcs own) i with
      | some q => ma_g (len == 3) (i_lcn q.1 (pc + 3))
      | none => none) = _ at h
    split at h
    · next q hq =>
      obtain ⟨h1, h2⟩ := ma_g_some h
      have h3 := eq_of_beq h1
      subst h3
      subst h2
      exact sn_ldc2 (ma_wd_in (ma_lcs_ok own _ (ma_lk_mem hq))) hd
    · cases h
  | iadd =>
    obtain ⟨h1, h2⟩ := ma_g_some h
    have h3 := eq_of_beq h1
    subst h3
    subst h2
    exact sn_bin (fun hx hb k => lv_iadd hx hb hd k)
  | isub =>
    obtain ⟨h1, h2⟩ := ma_g_some h
    have h3 := eq_of_beq h1
    subst h3
    subst h2
    exact sn_bin (fun hx hb k => lv_isub hx hb hd k)
  | imul =>
    obtain ⟨h1, h2⟩ := ma_g_some h
    have h3 := eq_of_beq h1
    subst h3
    subst h2
    exact sn_bin (fun hx hb k => lv_imul hx hb hd k)
  | iand =>
    obtain ⟨h1, h2⟩ := ma_g_some h
    have h3 := eq_of_beq h1
    subst h3
    subst h2
    exact sn_bin (fun hx hb k => lv_iand hx hb hd k)
  | ior =>
    obtain ⟨h1, h2⟩ := ma_g_some h
    have h3 := eq_of_beq h1
    subst h3
    subst h2
    exact sn_bin (fun hx hb k => lv_ior hx hb hd k)
  | ixor =>
    obtain ⟨h1, h2⟩ := ma_g_some h
    have h3 := eq_of_beq h1
    subst h3
    subst h2
    exact sn_bin (fun hx hb k => lv_ixor hx hb hd k)
  | ishl =>
    obtain ⟨h1, h2⟩ := ma_g_some h
    have h3 := eq_of_beq h1
    subst h3
    subst h2
    exact sn_bin (fun hx hb k => lv_ishl hx hb hd k)
  | ishr =>
    obtain ⟨h1, h2⟩ := ma_g_some h
    have h3 := eq_of_beq h1
    subst h3
    subst h2
    exact sn_bin (fun hx hb k => lv_ishr hx hb hd k)
  | iushr =>
    obtain ⟨h1, h2⟩ := ma_g_some h
    have h3 := eq_of_beq h1
    subst h3
    subst h2
    exact sn_bin (fun hx hb k => lv_iushr hx hb hd rfl k)
  | idiv =>
    obtain ⟨h1, h2⟩ := ma_g_some h
    have h3 := eq_of_beq h1
    subst h3
    subst h2
    exact sn_dvi (fun hx hb hy k => lv_idiv hx hb hd hy k)
  | irem =>
    obtain ⟨h1, h2⟩ := ma_g_some h
    have h3 := eq_of_beq h1
    subst h3
    subst h2
    exact sn_dvi (fun hx hb hy k => lv_irem hx hb hd hy k)
  | ladd =>
    obtain ⟨h1, h2⟩ := ma_g_some h
    have h3 := eq_of_beq h1
    subst h3
    subst h2
    exact sn_lbn (fun hx hb k => lv_ladd hx hb hd k)
  | lsub =>
    obtain ⟨h1, h2⟩ := ma_g_some h
    have h3 := eq_of_beq h1
    subst h3
    subst h2
    exact sn_lbn (fun hx hb k => lv_lsub hx hb hd k)
  | lmul =>
    obtain ⟨h1, h2⟩ := ma_g_some h
    have h3 := eq_of_beq h1
    subst h3
    subst h2
    exact sn_lbn (fun hx hb k => lv_lmul hx hb hd k)
  | land =>
    obtain ⟨h1, h2⟩ := ma_g_some h
    have h3 := eq_of_beq h1
    subst h3
    subst h2
    exact sn_lbn (fun hx hb k => lv_land hx hb hd k)
  | lor =>
    obtain ⟨h1, h2⟩ := ma_g_some h
    have h3 := eq_of_beq h1
    subst h3
    subst h2
    exact sn_lbn (fun hx hb k => lv_lor hx hb hd k)
  | ldiv =>
    obtain ⟨h1, h2⟩ := ma_g_some h
    have h3 := eq_of_beq h1
    subst h3
    subst h2
    exact sn_ldv (fun hx hb hy k => lv_ldiv hx hb hd hy k)
  | lrem =>
    obtain ⟨h1, h2⟩ := ma_g_some h
    have h3 := eq_of_beq h1
    subst h3
    subst h2
    exact sn_ldv (fun hx hb hy k => lv_lrem hx hb hd hy k)
  | lshl =>
    obtain ⟨h1, h2⟩ := ma_g_some h
    have h3 := eq_of_beq h1
    subst h3
    subst h2
    exact sn_lsh (fun hx hb k => lv_lshl hx hb hd rfl k)
  | lshr =>
    obtain ⟨h1, h2⟩ := ma_g_some h
    have h3 := eq_of_beq h1
    subst h3
    subst h2
    exact sn_lsh (fun hx hb k => lv_lshr hx hb hd rfl k)
  | lushr =>
    obtain ⟨h1, h2⟩ := ma_g_some h
    have h3 := eq_of_beq h1
    subst h3
    subst h2
    exact sn_lsh (fun hx hb k => lv_lushr hx hb hd rfl k)
  | lcmp =>
    obtain ⟨h1, h2⟩ := ma_g_some h
    have h3 := eq_of_beq h1
    subst h3
    subst h2
    exact sn_lcp hd
  | ineg =>
    obtain ⟨h1, h2⟩ := ma_g_some h
    have h3 := eq_of_beq h1
    subst h3
    subst h2
    exact sn_una (fun hx hb k => lv_ineg hx hb hd k)
  | i2b =>
    obtain ⟨h1, h2⟩ := ma_g_some h
    have h3 := eq_of_beq h1
    subst h3
    subst h2
    exact sn_una (fun hx hb k => lv_i2b hx hb hd rfl k)
  | i2s =>
    obtain ⟨h1, h2⟩ := ma_g_some h
    have h3 := eq_of_beq h1
    subst h3
    subst h2
    exact sn_una (fun hx hb k => lv_i2s hx hb hd rfl k)
  | i2c =>
    obtain ⟨h1, h2⟩ := ma_g_some h
    have h3 := eq_of_beq h1
    subst h3
    subst h2
    exact sn_una (fun hx hb k => lv_i2c hx hb hd rfl k)
  | i2l =>
    obtain ⟨h1, h2⟩ := ma_g_some h
    have h3 := eq_of_beq h1
    subst h3
    subst h2
    exact sn_i2l hd
  | l2i =>
    obtain ⟨h1, h2⟩ := ma_g_some h
    have h3 := eq_of_beq h1
    subst h3
    subst h2
    exact sn_l2i hd
  | dup =>
    obtain ⟨h1, h2⟩ := ma_g_some h
    have h3 := eq_of_beq h1
    subst h3
    subst h2
    exact sn_dup hd
  | pop =>
    obtain ⟨h1, h2⟩ := ma_g_some h
    have h3 := eq_of_beq h1
    subst h3
    subst h2
    exact sn_pop hd
  | dup2 =>
    obtain ⟨h1, h2⟩ := ma_g_some h
    have h3 := eq_of_beq h1
    subst h3
    subst h2
    exact sn_du2 hd
  | if_icmp k off =>
    change ma_j pc off (fun t => i_if2 (ma_cmp k) t (pc + 3)) (len == 3) = _ at h
    obtain ⟨h1, h0, h2⟩ := ma_j_some h
    have h3 := eq_of_beq h1
    subst h3
    subst h2
    exact sn_if2 hd h0
  | ifCond k off =>
    change ma_j pc off (fun t => i_if1 (ma_cm0 k) t (pc + 3)) (len == 3) = _ at h
    obtain ⟨h1, h0, h2⟩ := ma_j_some h
    have h3 := eq_of_beq h1
    subst h3
    subst h2
    exact sn_if1 hd h0
  | goto off =>
    change ma_j pc off (i_gto) (len == 3) = _ at h
    obtain ⟨h1, h0, h2⟩ := ma_j_some h
    have h3 := eq_of_beq h1
    subst h3
    subst h2
    exact sn_gto hd h0
  | tableswitch dflt lo hi offs =>
    cases h
    exact sn_tsw hd
  | lookupswitch dflt ps =>
    obtain ⟨h1, h2⟩ := ma_g_some h
    subst h2
    exact sn_lsw hd h1
  | getfield i =>
    change (match ma_lk (ma_fls own) i with
      | some q => ma_g (len == 3) (if ma_isr (ma_ty q.1 q.2.1) then i_gtr q.1 q.2.1 (pc + 3) else i_gti q.1 q.2.1 (pc + 3))
      | none => if own = 10 ∧ (i = 9 ∨ i = 15) then ma_g (len == 3) (i_gts (if i = 9 then 0 else 1) (pc + 3)) else none) = _ at h
    split at h
    · next q hq =>
      obtain ⟨h1, h2⟩ := ma_g_some h
      have h3 := eq_of_beq h1
      subst h3
      subst h2
      obtain ⟨w1, w2, w3⟩ := ma_fok_at hq
      obtain ⟨c1, c2⟩ := ma_cok_all q.1 w2
      by_cases hr : ma_isr (ma_ty q.1 q.2.1) = true
      · rw [if_pos hr]
        exact sn_gtr c1 w3 hr w1 hd
      · rw [if_neg hr]
        exact sn_gti c1 w3 (by simpa using hr) w1 hd
    · split at h
      · next hc =>
        obtain ⟨h1, h2⟩ := ma_g_some h
        have h3 := eq_of_beq h1
        subst h3
        subst h2
        obtain ⟨rfl, rfl | rfl⟩ := hc
        · exact sn_gts (ma_wd_in ma_sf0) (Or.inl ⟨rfl, rfl, rfl⟩) hd
        · exact sn_gts (ma_wd_in ma_sf1) (Or.inr ⟨by decide, rfl, rfl⟩) hd
      · cases h
  | putfield i =>
    change (match ma_lk (ma_fls own) i with
      | some q => ma_g (len == 3 && (!(ma_tx q.1 q.2.1).2.2.2 || (ini && q.1 == own))) (if ma_isr (ma_ty q.1 q.2.1) then i_ptr q.1 q.2.1 (pc + 3) else i_pti q.1 q.2.1 (pc + 3))
      | none => none) = _ at h
    split at h
    · next q hq =>
      obtain ⟨h1, h2⟩ := ma_g_some h
      rw [Bool.and_eq_true] at h1
      have h3 := eq_of_beq h1.1
      subst h3
      subst h2
      obtain ⟨w1, w2, w3⟩ := ma_fok_at hq
      obtain ⟨c1, c2⟩ := ma_cok_all q.1 w2
      have hfin : (ma_tx q.1 q.2.1).2.2.2 = false ∨ (ini = true ∧ ma_rx q.1 = ma_on own) := by
        have h5 := h1.2
        rw [Bool.or_eq_true, Bool.and_eq_true] at h5
        rcases h5 with h5 | h5
        · exact Or.inl (by simpa using h5)
        · have h6 := eq_of_beq h5.2
          exact Or.inr ⟨h5.1, by rw [h6]; exact ma_own_rx (by omega)⟩
      by_cases hr : ma_isr (ma_ty q.1 q.2.1) = true
      · rw [if_pos hr]
        exact sn_ptr c1 w3 hr w1 hfin hd
      · rw [if_neg hr]
        have hr' : ma_isr (ma_ty q.1 q.2.1) = false := by simpa using hr
        exact sn_pti c1 w3 hr' (ma_tyc c2 w3 hr') w1 hfin hd
    · cases h
  | getstatic i =>
    change (if own = 10 ∧ i = 38 then ma_g (len == 3) (i_con 1 (pc + 3)) else if own = 10 ∧ i = 1053 then ma_g (len == 3) (i_spc 2 (pc + 3)) else none) = _ at h
    split at h
    · next hc =>
      obtain ⟨h1, h2⟩ := ma_g_some h
      have h3 := eq_of_beq h1
      subst h3
      subst h2
      obtain ⟨rfl, rfl⟩ := hc
      exact sn_gsc (ma_wd_in ma_ss0) hd
    · split at h
      · next hc =>
        obtain ⟨h1, h2⟩ := ma_g_some h
        have h3 := eq_of_beq h1
        subst h3
        subst h2
        obtain ⟨rfl, rfl⟩ := hc
        exact sn_gsf (ma_wd_in ma_ss1) hd
      · cases h
  | iaload =>
    obtain ⟨h1, h2⟩ := ma_g_some h
    have h3 := eq_of_beq h1
    subst h3
    subst h2
    split
    · exact sn_sld hd
    · exact sn_iald hd
  | arraylength =>
    obtain ⟨h1, h2⟩ := ma_g_some h
    have h3 := eq_of_beq h1
    subst h3
    subst h2
    split
    · exact sn_sln hd
    · exact sn_alen hd
  | baload =>
    obtain ⟨h1, h2⟩ := ma_g_some h
    have h3 := eq_of_beq h1
    subst h3
    subst h2
    exact sn_bald hd
  | laload =>
    obtain ⟨h1, h2⟩ := ma_g_some h
    have h3 := eq_of_beq h1
    subst h3
    subst h2
    exact sn_lald hd
  | aaload =>
    obtain ⟨h1, h2⟩ := ma_g_some h
    have h3 := eq_of_beq h1
    subst h3
    subst h2
    exact sn_aald hd
  | iastore =>
    obtain ⟨h1, h2⟩ := ma_g_some h
    have h3 := eq_of_beq h1
    subst h3
    subst h2
    exact sn_iast hd
  | bastore =>
    obtain ⟨h1, h2⟩ := ma_g_some h
    have h3 := eq_of_beq h1
    subst h3
    subst h2
    exact sn_bast hd
  | lastore =>
    obtain ⟨h1, h2⟩ := ma_g_some h
    have h3 := eq_of_beq h1
    subst h3
    subst h2
    exact sn_last hd
  | aastore =>
    obtain ⟨h1, h2⟩ := ma_g_some h
    have h3 := eq_of_beq h1
    subst h3
    subst h2
    exact sn_aast (ma_cok_all 1 (by omega)).1 (ma_cok_all 2 (by omega)).1 hd
  | new i =>
    change (match ma_lk (ma_cls own) i with
      | some q => ma_g (len == 3) (i_new q.1 (pc + 3))
      | none => none) = _ at h
    split at h
    · next q hq =>
      obtain ⟨h1, h2⟩ := ma_g_some h
      have h3 := eq_of_beq h1
      subst h3
      subst h2
      have h5 := ma_cls_ok own _ (ma_lk_mem hq)
      unfold ma_clk at h5
      rw [Bool.and_eq_true, Bool.and_eq_true, Bool.and_eq_true, decide_eq_true_eq] at h5
      obtain ⟨c1, c2⟩ := ma_cok_all q.1 h5.2
      exact sn_new c1 c2 (ma_wd_in h5.1.1.1) (ma_wd_in h5.1.1.2) (ma_wd_in h5.1.2) hd
    · cases h
  | newarray t =>
    cases t with
    | int =>
      obtain ⟨h1, h2⟩ := ma_g_some h
      have h3 := eq_of_beq h1
      subst h3
      subst h2
      exact sn_nwa (ty := .int) rfl (by decide) rfl (fun _ h => by cases h) (fun w n => by rw [ma_new_av]; rfl) (ma_wd_in ma_na0) hd
    | byte =>
      obtain ⟨h1, h2⟩ := ma_g_some h
      have h3 := eq_of_beq h1
      subst h3
      subst h2
      exact sn_nwa (ty := .byte) rfl (by decide) rfl (fun _ h => by cases h) (fun w n => by rw [ma_new_av]; rfl) (ma_wd_in ma_na1) hd
    | long =>
      obtain ⟨h1, h2⟩ := ma_g_some h
      have h3 := eq_of_beq h1
      subst h3
      subst h2
      exact sn_nwa (ty := .long) rfl (by decide) rfl (fun _ h => by cases h) (fun w n => by rw [ma_new_av]; rfl) (ma_wd_in ma_na2) hd
    | _ => cases h
  | anewarray i =>
    change (if own = 5 ∧ i = 33 then ma_g (len == 3) (i_nwa 3 (pc + 3)) else if own = 5 ∧ i = 39 then ma_g (len == 3) (i_nwa 4 (pc + 3)) else none) = _ at h
    split at h
    · next hc =>
      obtain ⟨h1, h2⟩ := ma_g_some h
      have h3 := eq_of_beq h1
      subst h3
      subst h2
      obtain ⟨rfl, rfl⟩ := hc
      exact sn_anw (ci := 1) (C := RX1) rfl (by omega) rfl (fun s h => h.2.2.2.2.1.1) (ma_wd_in ma_nq0) hd
    · split at h
      · next hc =>
        obtain ⟨h1, h2⟩ := ma_g_some h
        have h3 := eq_of_beq h1
        subst h3
        subst h2
        obtain ⟨rfl, rfl⟩ := hc
        exact sn_anw (ci := 2) (C := RX2) rfl (by omega) rfl (fun s h => h.2.2.2.2.1.2) (ma_wd_in ma_nq1) hd
      · cases h
  | invokestatic i =>
    change (if len = 3 then ma_inv own lv pc 0 i else none) = _ at h
    split at h
    · next hl => subst hl; exact sn_inv (Or.inl ⟨rfl, rfl⟩) h hd
    · cases h
  | invokevirtual i =>
    change (if len = 3 then ma_inv own lv pc 1 i else none) = _ at h
    split at h
    · next hl => subst hl; exact sn_inv (Or.inr (Or.inl ⟨rfl, rfl⟩)) h hd
    · cases h
  | invokespecial i =>
    change (if len = 3 then ma_inv own lv pc 2 i else none) = _ at h
    split at h
    · next hl => subst hl; exact sn_inv (Or.inr (Or.inr ⟨rfl, rfl⟩)) h hd
    · cases h
  | return_ =>
    change (if len = 1 then some (Sum.inr (Sum.inr 0)) else none) = _ at h
    split at h <;> cases h
  | ireturn =>
    change (if len = 1 then some (Sum.inr (Sum.inr 1)) else none) = _ at h
    split at h <;> cases h
  | lreturn =>
    change (if len = 1 then some (Sum.inr (Sum.inr 2)) else none) = _ at h
    split at h <;> cases h
  | areturn =>
    change (if len = 1 then some (Sum.inr (Sum.inr 3)) else none) = _ at h
    split at h <;> cases h
  | _ => cases h
end S16
