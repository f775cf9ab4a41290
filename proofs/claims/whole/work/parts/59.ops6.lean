/-! ===== written ===== -/
theorem WF.fell_ix {S : Row} {n : Nat} {i : Int32} (W : WF S n) (h : isw 0 (S 3 - 1) i = true) : ∃ k o, i = nI k ∧ k < 100 ∧ o < n ∧ lf S o 5 = nI (k + 1) := by
  have h8 := W.n8
  obtain ⟨d, hd, he⟩ := W.fel
  cases d with
  | zero =>
    rw [hd, show nI 0 - 1 = -1 from rfl] at h
    unfold isw at h
    rw [Bool.and_eq_true] at h
    have h1 : ¬ i < 0 := by simpa using h.1
    have h2 : ¬ (-1) < i := by simpa using h.2
    rw [nn_of h1] at h2
    have h3 := nn_int (i := i.toNatClampNeg) clamp_lt
    rw [Int32.lt_iff_toInt_lt, h3, show (-1 : Int32).toInt = -1 from rfl] at h2
    omega
  | succ e =>
    rw [hd, nI_pred] at h
    obtain ⟨k, hk, rfl⟩ := isw_nn e rfl (by omega) h
    obtain ⟨o, ho, h5⟩ := W.all k (by omega)
    exact ⟨k, o, rfl, by omega, ho, h5⟩
theorem op_written {i : Int32} : TOP 75 2 164 2 [vI i] := by
  refine TOP.rd (fun xs L S n W => ?_)
  by_cases h : isw 0 (S 3 - 1) i = true
  · obtain ⟨k, o, rfl, hk, ho, h5⟩ := W.fell_ix h
    refine ⟨vI (sgnK S k n), fun f a g hT => ?_, fun f a g hM => ?_⟩
    · show rn xs L 75 0 [vR 0, vI (nI k)] [] (mw f a g) = _
      have hf := hT.fel
      simp [b75_0, b75_14, b75_17, b75_25, b75_28, e_within, hf, h, bI, c_signOf tr1 W hT.L ho hk h5]
    · show rn xs L 164 0 [vR 44, vI (nI k)] [] (mw f a g) = _
      have hi : ev xs L 115 6 [vL (nI k).toInt64, vL 0, vL (S 3 - 1).toInt64] (mw f a g) = some (some (vI 1), mw f a g) := e_isIn.trans (by rw [isl_w (lo := 0) (hi := S 3 - 1) (by decide) rfl, h]; rfl)
      have h3 := hM 3 (by decide)
      rw [b164_0, h3, hi]
      simp [b164_15, b164_18, b164_23, b164_26, m_signOf hM W]
  · refine ⟨vI (-3), fun f a g hT => ?_, fun f a g hM => ?_⟩
    · show rn xs L 75 0 [vR 0, vI i] [] (mw f a g) = _
      have hf := hT.fel
      simp [b75_0, b75_14, b75_17, b75_25, b75_28, e_within, hf, h, bI]
    · show rn xs L 164 0 [vR 44, vI i] [] (mw f a g) = _
      have h' : isw 0 (S 3 - 1) i = false := by simpa using h
      have hi : ev xs L 115 6 [vL i.toInt64, vL 0, vL (S 3 - 1).toInt64] (mw f a g) = some (some (vI 0), mw f a g) := e_isIn.trans (by rw [isl_w (lo := 0) (hi := S 3 - 1) (by decide) rfl, h']; rfl)
      have h3 := hM 3 (by decide)
      rw [b164_0, h3, hi]
      simp [b164_15, b164_18, b164_23, b164_26]
