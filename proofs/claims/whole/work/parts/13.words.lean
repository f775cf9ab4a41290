/-! ===== the tables' words that the links need ===== -/
def ma_wd (i : Nat) (c : Jvm.Cond) : Bool := decide (tables_1[i]? = some c) && goodWord c
theorem ma_tb_in {c : Jvm.Cond} (h : c ∈ tables_1) (hg : goodWord c = true) : c ∈ ma_big := List.mem_filter.mpr ⟨List.mem_append_right _ h, hg⟩
theorem ma_wd_in {i : Nat} {c : Jvm.Cond} (h : ma_wd i c = true) : c ∈ ma_big := by
  unfold ma_wd at h
  rw [Bool.and_eq_true, decide_eq_true_eq] at h
  exact ma_tb_in (List.mem_of_getElem? h.1) h.2
theorem ma_lk_mem {α : Type} : ∀ {l : List (Nat × α)} {i : Nat} {v : α}, ma_lk l i = some v → (i, v) ∈ l
  | [], _, _, h => by cases h
  | q :: l, i, v, h => by
    unfold ma_lk at h
    by_cases hi : i = q.1
    · rw [if_pos hi] at h
      cases h
      rw [hi]
      exact List.mem_cons_self
    · rw [if_neg hi] at h
      exact List.mem_cons_of_mem _ (ma_lk_mem h)
def ma_fok (own : Nat) (q : Nat × Nat × Nat × Nat) : Bool := ma_wd q.2.2.2 (.fieldLink (ma_on own) q.1 (ma_rx q.2.1) (ma_tx q.2.1 q.2.2.1).2.1 (ma_tx q.2.1 q.2.2.1).2.2.1) && decide (q.2.1 < 7) && decide (q.2.2.1 < ma_nf q.2.1)
theorem ma_fls_ok : ∀ own, ∀ q ∈ ma_fls own, ma_fok own q = true
  | 0 => by decide +kernel
  | 1 => by decide +kernel
  | 2 => by decide +kernel
  | 3 => by decide +kernel
  | 4 => by decide +kernel
  | 5 => by decide +kernel
  | 6 => by decide +kernel
  | 7 => fun _ h => absurd h List.not_mem_nil
  | 8 => fun _ h => absurd h List.not_mem_nil
  | 9 => fun _ h => absurd h List.not_mem_nil
  | 10 => fun _ h => absurd h List.not_mem_nil
  | 11 => fun _ h => absurd h List.not_mem_nil
  | 12 => fun _ h => absurd h List.not_mem_nil
  | 13 => fun _ h => absurd h List.not_mem_nil
  | 14 => fun _ h => absurd h List.not_mem_nil
  | 15 => fun _ h => absurd h List.not_mem_nil
  | 16 => fun _ h => absurd h List.not_mem_nil
  | 17 => fun _ h => absurd h List.not_mem_nil
  | 18 => fun _ h => absurd h List.not_mem_nil
  | 19 => fun _ h => absurd h List.not_mem_nil
  | _ + 20 => fun _ h => absurd h List.not_mem_nil
def ma_clk (own : Nat) (q : Nat × Nat × Nat × Nat × Nat) : Bool := ma_wd q.2.2.1 (.classLink (ma_on own) q.1 (ma_rx q.2.1)) && ma_wd q.2.2.2.1 (.instantiable (ma_rx q.2.1) (ma_nf q.2.1)) && ma_wd q.2.2.2.2 (.initialized (ma_rx q.2.1)) && decide (q.2.1 < 7)
theorem ma_cls_ok : ∀ own, ∀ q ∈ ma_cls own, ma_clk own q = true
  | 0 => fun _ h => absurd h List.not_mem_nil
  | 1 => fun _ h => absurd h List.not_mem_nil
  | 2 => fun _ h => absurd h List.not_mem_nil
  | 3 => fun _ h => absurd h List.not_mem_nil
  | 4 => fun _ h => absurd h List.not_mem_nil
  | 5 => by decide +kernel
  | 6 => fun _ h => absurd h List.not_mem_nil
  | 7 => by decide +kernel
  | 8 => fun _ h => absurd h List.not_mem_nil
  | 9 => fun _ h => absurd h List.not_mem_nil
  | 10 => fun _ h => absurd h List.not_mem_nil
  | 11 => fun _ h => absurd h List.not_mem_nil
  | 12 => fun _ h => absurd h List.not_mem_nil
  | 13 => fun _ h => absurd h List.not_mem_nil
  | 14 => fun _ h => absurd h List.not_mem_nil
  | 15 => fun _ h => absurd h List.not_mem_nil
  | 16 => fun _ h => absurd h List.not_mem_nil
  | 17 => fun _ h => absurd h List.not_mem_nil
  | 18 => fun _ h => absurd h List.not_mem_nil
  | 19 => fun _ h => absurd h List.not_mem_nil
  | _ + 20 => fun _ h => absurd h List.not_mem_nil
theorem ma_ccs_ok : ∀ own, ∀ q ∈ ma_ccs own, ma_wd q.2.2 (.constant (ma_on own) q.1 q.2.1) = true
  | 0 => fun _ h => absurd h List.not_mem_nil
  | 1 => fun _ h => absurd h List.not_mem_nil
  | 2 => fun _ h => absurd h List.not_mem_nil
  | 3 => fun _ h => absurd h List.not_mem_nil
  | 4 => by decide +kernel
  | 5 => fun _ h => absurd h List.not_mem_nil
  | 6 => by decide +kernel
  | 7 => fun _ h => absurd h List.not_mem_nil
  | 8 => fun _ h => absurd h List.not_mem_nil
  | 9 => fun _ h => absurd h List.not_mem_nil
  | 10 => fun _ h => absurd h List.not_mem_nil
  | 11 => fun _ h => absurd h List.not_mem_nil
  | 12 => fun _ h => absurd h List.not_mem_nil
  | 13 => fun _ h => absurd h List.not_mem_nil
  | 14 => fun _ h => absurd h List.not_mem_nil
  | 15 => fun _ h => absurd h List.not_mem_nil
  | 16 => by decide +kernel
  | 17 => fun _ h => absurd h List.not_mem_nil
  | 18 => fun _ h => absurd h List.not_mem_nil
  | 19 => fun _ h => absurd h List.not_mem_nil
  | _ + 20 => fun _ h => absurd h List.not_mem_nil
theorem ma_lcs_ok : ∀ own, ∀ q ∈ ma_lcs own, ma_wd q.2.2 (.constantLong (ma_on own) q.1 q.2.1) = true
  | 0 => fun _ h => absurd h List.not_mem_nil
  | 1 => fun _ h => absurd h List.not_mem_nil
  | 2 => fun _ h => absurd h List.not_mem_nil
  | 3 => fun _ h => absurd h List.not_mem_nil
  | 4 => fun _ h => absurd h List.not_mem_nil
  | 5 => by decide +kernel
  | 6 => by decide +kernel
  | 7 => by decide +kernel
  | 8 => fun _ h => absurd h List.not_mem_nil
  | 9 => fun _ h => absurd h List.not_mem_nil
  | 10 => fun _ h => absurd h List.not_mem_nil
  | 11 => fun _ h => absurd h List.not_mem_nil
  | 12 => fun _ h => absurd h List.not_mem_nil
  | 13 => fun _ h => absurd h List.not_mem_nil
  | 14 => fun _ h => absurd h List.not_mem_nil
  | 15 => fun _ h => absurd h List.not_mem_nil
  | 16 => fun _ h => absurd h List.not_mem_nil
  | 17 => fun _ h => absurd h List.not_mem_nil
  | 18 => fun _ h => absurd h List.not_mem_nil
  | 19 => fun _ h => absurd h List.not_mem_nil
  | _ + 20 => fun _ h => absurd h List.not_mem_nil
theorem ma_sts_ok : ∀ own, ∀ q ∈ ma_sts own, own = 3 ∧ q.2.1 < 15 ∧ (ma_stx.getD q.2.1 (0, "")).1 = q.1
  | 0 => fun _ h => absurd h List.not_mem_nil
  | 1 => fun _ h => absurd h List.not_mem_nil
  | 2 => fun _ h => absurd h List.not_mem_nil
  | 3 => by decide +kernel
  | 4 => fun _ h => absurd h List.not_mem_nil
  | 5 => fun _ h => absurd h List.not_mem_nil
  | 6 => fun _ h => absurd h List.not_mem_nil
  | 7 => fun _ h => absurd h List.not_mem_nil
  | 8 => fun _ h => absurd h List.not_mem_nil
  | 9 => fun _ h => absurd h List.not_mem_nil
  | 10 => fun _ h => absurd h List.not_mem_nil
  | 11 => fun _ h => absurd h List.not_mem_nil
  | 12 => fun _ h => absurd h List.not_mem_nil
  | 13 => fun _ h => absurd h List.not_mem_nil
  | 14 => fun _ h => absurd h List.not_mem_nil
  | 15 => fun _ h => absurd h List.not_mem_nil
  | 16 => fun _ h => absurd h List.not_mem_nil
  | 17 => fun _ h => absurd h List.not_mem_nil
  | 18 => fun _ h => absurd h List.not_mem_nil
  | 19 => fun _ h => absurd h List.not_mem_nil
  | _ + 20 => fun _ h => absurd h List.not_mem_nil
theorem ma_sf0 : ma_wd 1251 (.fieldLink (ma_on 10) 9 "java/lang/String" "value" "[B") = true := by decide +kernel
theorem ma_sf1 : ma_wd 1252 (.fieldLink (ma_on 10) 15 "java/lang/String" "coder" "B") = true := by decide +kernel
theorem ma_ss0 : ma_wd 259 (.fieldLink (ma_on 10) 38 "java/lang/String" "COMPACT_STRINGS" "Z") = true := by decide +kernel
theorem ma_ss1 : ma_wd 275 (.fieldLink (ma_on 10) 1053 "jdk/internal/util/Preconditions" "SIOOBE_FORMATTER" "Ljava/util/function/BiFunction;") = true := by decide +kernel
theorem ma_n0 : ma_wd 473 (.static Lib.Math.max.name) = true := by decide +kernel
theorem ma_n1 : ma_wd 470 (.static Lib.Math.min.name) = true := by decide +kernel
theorem ma_n2 : ma_wd 14 (.initialized "java/lang/Math") = true := by decide +kernel
theorem ma_n3 : ma_wd 474 (.code Lib.Math.max.name Lib.Math.max.code 2 (some .int)) = true := by decide +kernel
theorem ma_n4 : ma_wd 471 (.code Lib.Math.min.name Lib.Math.min.code 2 (some .int)) = true := by decide +kernel
theorem ma_n5 : ma_wd 365 (.native arraycopyName) = true := by decide +kernel
theorem ma_n6 : ma_wd 364 (.static arraycopyName) = true := by decide +kernel
theorem ma_n7 : ma_wd 12 (.initialized "java/lang/System") = true := by decide +kernel
theorem ma_n8 : ma_wd 21 (.instanceMethod Lib.objectInit) = true := by decide +kernel
theorem ma_n9 : ma_wd 22 (.code Lib.objectInit ⟨#[0xb1]⟩ 1 none) = true := by decide +kernel
theorem ma_na0 : ma_wd 85 (.arrayClass .int) = true := by decide +kernel
theorem ma_na1 : ma_wd 113 (.arrayClass .byte) = true := by decide +kernel
theorem ma_na2 : ma_wd 168 (.arrayClass .long) = true := by decide +kernel
theorem ma_nq0 : ma_wd 114 (.classLink (ma_on 5) 33 RX1) = true := by decide +kernel
theorem ma_nq1 : ma_wd 116 (.classLink (ma_on 5) 39 RX2) = true := by decide +kernel
