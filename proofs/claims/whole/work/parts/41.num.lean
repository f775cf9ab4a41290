/-! ===== small numbers ===== -/
theorem nn_add {i j : Nat} : nI i + nI j = nI (i + j) := nI_add i j
theorem nn_mul {i j : Nat} : nI i * nI j = nI (i * j) := pk_mul i j
theorem nn_add1 {i : Nat} : nI i + (1 : Int32) = nI (i + 1) := nI_1 i
theorem nn_int {i : Nat} (h : i < 2147483648) : (nI i).toInt = i := nI_toInt h
theorem nn_nat {i : Nat} (h : i < 2147483648) : (nI i).toNatClampNeg = i := nI_clamp h
theorem nn_lt {i j : Nat} (hi : i < 2147483648) (hj : j < 2147483648) : (nI i < nI j) ↔ i < j := nI_ltI hi hj
theorem nn_le {i j : Nat} (hi : i < 2147483648) (hj : j < 2147483648) : (nI i ≤ nI j) ↔ i ≤ j := nI_leI hi hj
theorem nn_eq {i j : Nat} (hi : i < 2147483648) (hj : j < 2147483648) : (nI i = nI j) ↔ i = j := nI_eq hi hj
theorem nn_neg {i : Nat} (hi : i < 2147483648) : (nI i < 0) ↔ False := ⟨fun h => nI_pos hi h, False.elim⟩
theorem nn_in {i n : Nat} (hi : i < 2147483648) : ma_in (nI i) n = decide (i < n) := by
  unfold ma_in
  rw [nn_nat hi]
  simp [nn_neg hi]
theorem of_toInt {x : Int32} {k : Nat} (h : x.toInt = k) : x = nI k := by
  have hk : k < 2147483648 := by have := x.toInt_lt; omega
  apply Int32.toInt_inj.mp
  rw [nn_int hk, h]
theorem clamp_lt {x : Int32} : x.toNatClampNeg < 2147483648 := by
  have := x.toInt_lt
  unfold Int32.toNatClampNeg
  omega
theorem nn_of {x : Int32} (h : ¬ x < 0) : x = nI x.toNatClampNeg := by
  obtain ⟨j, hj, rfl⟩ := nI_of h
  rw [nn_nat hj]
theorem in_nn {x : Int32} {n : Nat} (h : ma_in x n = true) : ∃ k, k < n ∧ x = nI k := by
  unfold ma_in at h
  rw [Bool.and_eq_true, decide_eq_true_eq] at h
  have h1 : ¬ x < 0 := by simpa using h.1
  exact ⟨_, h.2, nn_of h1⟩
/-- lo = 0 -/
theorem isw_nn {x M : Int32} (m : Nat) (hM : M = nI m) (hm : m < 2147483648) (h : isw 0 M x = true) : ∃ k, k ≤ m ∧ x = nI k := by
  subst hM
  unfold isw at h
  rw [Bool.and_eq_true] at h
  have h1 : ¬ x < 0 := by simpa using h.1
  have h2 : ¬ nI m < x := by simpa using h.2
  refine ⟨_, ?_, nn_of h1⟩
  rw [nn_of h1, nn_lt hm clamp_lt] at h2
  omega
theorem and_lt {x m : Nat} {y : Int32} (hx : x < m) (hm : m ≤ 2147483648) : ∃ k, k < m ∧ nI x &&& y = nI k := by
  have h0 : (nI x).toBitVec.toNat = x := pk_tn (by omega)
  have h4 : (nI x &&& y).toBitVec.toNat ≤ x := by
    rw [Int32.toBitVec_and, BitVec.toNat_and, h0]
    exact Nat.and_le_left
  refine ⟨(nI x &&& y).toBitVec.toNat, by omega, of_toInt ?_⟩
  show (nI x &&& y).toBitVec.toInt = _
  rw [BitVec.toInt_eq_toNat_cond, if_pos (by omega)]
/-- a set: its number, how many are in it -/
def bs (p : Nat → Bool) : Nat → Nat
  | 0 => 0
  | i + 1 => bs p i + (if p i then 2 ^ i else 0)
def ct (p : Nat → Bool) : Nat → Nat
  | 0 => 0
  | i + 1 => ct p i + (if p i then 1 else 0)
theorem bs_lt {p : Nat → Bool} : ∀ i, bs p i < 2 ^ i
  | 0 => by simp [bs]
  | i + 1 => by
    have := bs_lt (p := p) i
    unfold bs
    rw [Nat.pow_succ]
    split <;> omega
theorem bs_lt8 {p : Nat → Bool} {i : Nat} (h : i ≤ 8) : bs p i < 256 := Nat.lt_of_lt_of_le (bs_lt i) (Nat.pow_le_pow_right (by decide) h)
theorem bs_congr {p q : Nat → Bool} : ∀ {i : Nat}, (∀ j, j < i → p j = q j) → bs p i = bs q i
  | 0, _ => rfl
  | i + 1, h => by
    unfold bs
    rw [bs_congr (fun j hj => h j (by omega)), h i (by omega)]
theorem ct_congr {p q : Nat → Bool} : ∀ {i : Nat}, (∀ j, j < i → p j = q j) → ct p i = ct q i
  | 0, _ => rfl
  | i + 1, h => by
    unfold ct
    rw [ct_congr (fun j hj => h j (by omega)), h i (by omega)]
def bit (i : Nat) : Int32 := (1 : Int32) <<< (nI i &&& 31)
theorem or_bit_all : ∀ i : Fin 8, ∀ x : Fin 128, x.val < 2 ^ i.val → nI x.val ||| bit i.val = nI (x.val + 2 ^ i.val) := by decide +kernel
theorem or_bit {i x : Nat} (hi : i < 8) (hx : x < 2 ^ i) : nI x ||| bit i = nI (x + 2 ^ i) := by
  have : x < 128 := Nat.lt_of_lt_of_le hx (Nat.pow_le_pow_right (n := 2) (by decide) (show i ≤ 7 by omega))
  exact or_bit_all ⟨i, hi⟩ ⟨x, this⟩ hx
def pN (x : Nat) : Nat := x % 2 + x / 2 % 2 + x / 4 % 2 + x / 8 % 2 + x / 16 % 2 + x / 32 % 2 + x / 64 % 2 + x / 128 % 2
theorem pN_bs8 (p0 p1 p2 p3 p4 p5 p6 p7 : Bool) : pN (((((((((0 + if p0 then 1 else 0) + if p1 then 2 else 0) + if p2 then 4 else 0) + if p3 then 8 else 0) + if p4 then 16 else 0) + if p5 then 32 else 0) + if p6 then 64 else 0) + if p7 then 128 else 0)) = ((((((((0 + if p0 then 1 else 0) + if p1 then 1 else 0) + if p2 then 1 else 0) + if p3 then 1 else 0) + if p4 then 1 else 0) + if p5 then 1 else 0) + if p6 then 1 else 0) + if p7 then 1 else 0) := by
  revert p0 p1 p2 p3 p4 p5 p6 p7
  decide +kernel
theorem bs_up {p : Nat → Bool} {n : Nat} : ∀ k, bs (fun j => decide (j < n) && p j) (n + k) = bs p n
  | 0 => bs_congr (fun j hj => by have h2 : j < n := hj; simp [h2])
  | k + 1 => by
    rw [← Nat.add_assoc]
    show bs _ (n + k) + _ = _
    rw [bs_up k]
    have h2 : ¬ n + k < n := by omega
    simp [h2]
theorem ct_up {p : Nat → Bool} {n : Nat} : ∀ k, ct (fun j => decide (j < n) && p j) (n + k) = ct p n
  | 0 => ct_congr (fun j hj => by have h2 : j < n := hj; simp [h2])
  | k + 1 => by
    rw [← Nat.add_assoc]
    show ct _ (n + k) + _ = _
    rw [ct_up k]
    have h2 : ¬ n + k < n := by omega
    simp [h2]
theorem pN_bs {p : Nat → Bool} {n : Nat} (h : n ≤ 8) : pN (bs p n) = ct p n := by
  rw [← bs_up (p := p) (8 - n), ← ct_up (p := p) (8 - n), show n + (8 - n) = 8 by omega]
  exact pN_bs8 _ _ _ _ _ _ _ _
