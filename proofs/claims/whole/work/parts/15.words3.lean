/-! ===== the words of the calls; every step of the small machine is one of the great one ===== -/
def ma_par (y : MethodName) (n : Nat) : Bool := decide ((parseMethodDescriptor y.desc).map (fun d => d.parameters.length) = some n)
def ma_sl (k : Nat) (y : MethodName) : Bool := if k < 2000 then ma_wd k (.selects y.cls y y) else match lw_privs[k - 2000]? with
  | some z => decide (z.1 = y)
  | none => false
theorem ma_sl_in {k : Nat} {y : MethodName} (h : ma_sl k y = true) : Jvm.Cond.selects y.cls y y ∈ ma_big := by
  unfold ma_sl at h
  split at h
  · exact ma_wd_in h
  · split at h
    · next z hz =>
      rw [decide_eq_true_eq] at h
      subst h
      exact List.mem_filter.mpr ⟨List.mem_append_left _ (List.mem_map.mpr ⟨z, List.mem_of_getElem? hz, rfl⟩), rfl⟩
    · cases h
def ma_mok1 (own : Nat) (q : Nat × Nat × Nat × Nat × Nat × Nat × Nat × Nat) (t : ma_M) : Bool := match q.2.1 with
  | 0 => ma_wd q.2.2.2.2.2.1 (.methodLink (ma_on own) q.1 t.2.2.2.2.1) && ma_wd q.2.2.2.2.2.2.1 (.static t.2.2.2.2.1) && ma_par t.2.2.2.2.1 q.2.2.2.2.1
  | 1 => ma_wd q.2.2.2.2.2.1 (.methodLink (ma_on own) q.1 t.2.2.2.2.1) && ma_wd q.2.2.2.2.2.2.1 (.instanceMethod t.2.2.2.2.1) && ma_sl q.2.2.2.2.2.2.2 t.2.2.2.2.1 && decide (t.2.2.2.2.1.cls = ma_rx q.2.2.1) && decide (q.2.2.1 < 7) && decide (1 ≤ q.2.2.2.2.1) && ma_par t.2.2.2.2.1 (q.2.2.2.2.1 - 1)
  | 2 => ma_wd q.2.2.2.2.2.1 (.methodLink (ma_on own) q.1 t.2.2.2.2.1) && ma_wd q.2.2.2.2.2.2.1 (.instanceMethod t.2.2.2.2.1) && ma_sl q.2.2.2.2.2.2.2 t.2.2.2.2.1 && decide (t.2.2.2.2.1.cls = "java/lang/String") && decide (1 ≤ q.2.2.2.2.1) && ma_par t.2.2.2.2.1 (q.2.2.2.2.1 - 1)
  | 3 => ma_wd q.2.2.2.2.2.1 (.methodLink (ma_on own) q.1 t.2.2.2.2.1) && ma_wd q.2.2.2.2.2.2.1 (.instanceMethod t.2.2.2.2.1) && decide (t.2.2.2.2.1.name = "<init>") && decide (t.2.2.2.1 = none) && decide (1 ≤ q.2.2.2.2.1) && ma_par t.2.2.2.2.1 (q.2.2.2.2.1 - 1)
  | 4 => decide (Jvm.Cond.methodLinkNest (ma_on own) q.1 t.2.2.2.2.1 RX5 ∈ ma_nws) && ma_wd q.2.2.2.2.2.2.1 (.static t.2.2.2.2.1) && ma_par t.2.2.2.2.1 q.2.2.2.2.1
  | 5 => decide (Jvm.Cond.methodLinkNest (ma_on own) q.1 t.2.2.2.2.1 RX5 ∈ ma_nws) && ma_wd q.2.2.2.2.2.2.1 (.instanceMethod t.2.2.2.2.1) && decide (t.2.2.2.2.1.name = "<init>") && decide (t.2.2.2.1 = none) && decide (1 ≤ q.2.2.2.2.1) && ma_par t.2.2.2.2.1 (q.2.2.2.2.1 - 1)
  | _ => false
def ma_mok (own : Nat) (q : Nat × Nat × Nat × Nat × Nat × Nat × Nat × Nat) : Bool := match q.2.1 with
  | 6 => ma_wd q.2.2.2.2.2.1 (.methodLink (ma_on own) q.1 Lib.Math.max.name)
  | 7 => ma_wd q.2.2.2.2.2.1 (.methodLink (ma_on own) q.1 Lib.Math.min.name)
  | 8 => ma_wd q.2.2.2.2.2.1 (.methodLink (ma_on own) q.1 arraycopyName)
  | 9 => ma_wd q.2.2.2.2.2.1 (.methodLink (ma_on own) q.1 Lib.objectInit)
  | _ => match ma_mts q.2.2.2.1 with
    | some t => decide (t.1 ≠ 7) && ma_mok1 own q t
    | none => false
theorem ma_mls_ok : ∀ own, ∀ q ∈ ma_mls own, ma_mok own q = true
  | 0 => by decide +kernel
  | 1 => by decide +kernel
  | 2 => by decide +kernel
  | 3 => by decide +kernel
  | 4 => by decide +kernel
  | 5 => by decide +kernel
  | 6 => by decide +kernel
  | 7 => by decide +kernel
  | 8 => fun _ h => absurd h List.not_mem_nil
  | 9 => fun _ h => absurd h List.not_mem_nil
  | 10 => by decide +kernel
  | 11 => by decide +kernel
  | 12 => by decide +kernel
  | _ + 13 => fun _ h => absurd h List.not_mem_nil
theorem ma_cok_all : ∀ ci, ci < 7 → ma_cok ci ∧ ma_ck2 ci := by
  have hws : ∀ ci, ci < 7 → ∀ w ∈ u_ws (ma_rx ci) (ma_tx ci) (ma_nf ci), w ∈ tables_1 ∧ goodWord w = true := by
    have h : ∀ ci, ci < 7 → (u_ws (ma_rx ci) (ma_tx ci) (ma_nf ci)).all (fun w => decide (w ∈ tables_1) && goodWord w) = true := by decide +kernel
    intro ci hci w hw
    have := List.all_eq_true.mp (h ci hci) w hw
    rw [Bool.and_eq_true, decide_eq_true_eq] at this
    exact this
  have h2 : ∀ ci, ci < 7 → ∀ k, k < ma_nf ci → parseFieldDescriptor (ma_tx ci k).2.2.1 = some (ma_ty ci k) := by decide +kernel
  have h3 : ∀ ci, ci < 7 → ∀ a, a < ma_nf ci → ∀ b, b < ma_nf ci → a ≠ b → (ma_tx ci a).2.1 ≠ (ma_tx ci b).2.1 := by decide +kernel
  have h4 : ∀ ci, ci < 7 → ∀ k, k < ma_nf ci → (ma_tx ci k).1 = ma_rx ci := by decide +kernel
  have h5 : ∀ ci, ci < 7 → ∀ k, k < ma_nf ci → ma_isr (ma_ty ci k) = true ∨ ma_ty ci k = .int ∨ ma_ty ci k = .boolean := by decide +kernel
  intro ci hci
  refine ⟨⟨?_, fun w hw => ma_tb_in (hws ci hci w hw).1 (hws ci hci w hw).2, h2 ci hci, h3 ci hci, h4 ci hci⟩, h5 ci hci⟩
  match ci, hci with
  | 0, _ => rfl
  | 1, _ => rfl
  | 2, _ => rfl
  | 3, _ => rfl
  | 4, _ => rfl
  | 5, _ => rfl
  | 6, _ => rfl
