/-! ===== the class's reader: names, numbers, the semicolon ===== -/
def wrd (i : Nat) : List Nat := ma_tx1.getD i []
theorem ma_len_w (i : Nat) : ma_len i = (wrd i).length := rfl
theorem shr_all : ∀ n, n < 16 → nI n >>> ((0 : Int32) &&& 31) = nI n := by decide
theorem len_all : ∀ i, i < 15 → ma_len i < 16 := by decide
theorem chr_all : ∀ i, i < 15 → ∀ j, j < ma_len i → (((ma_chr i j &&& (255 : Int32)).toUInt32 % 65536).toInt32 = nI ((wrd i).getD j 0) ∧ vp_nar .char (((ma_chr i j &&& (255 : Int32)).toUInt32 % 65536).toInt32) = (((ma_chr i j &&& (255 : Int32)).toUInt32 % 65536).toInt32) ∧ (wrd i).getD j 0 < 128) := by decide +kernel
section S87
variable {xs : Nat → Int32} {L : Nat} {f a : Nat → Nat → Int32} {g : Nat → Nat → Int64} {B : Nat → Nat} {l p : Nat}
theorem c_len {i k : Nat} (hi : i < 15) (hk : k = 3 + 2 * i) : ev xs L 221 1 [vS k] (mw f a g) = some (some (vI (nI (ma_len i))), mw f a g) := by
  subst hk
  have h1 : 3 ≤ 3 + 2 * i ∧ 3 + 2 * i < 33 ∧ (3 + 2 * i) % 2 = 1 := by omega
  have h0 : 3 ≤ 3 + 2 * i ∧ 3 + 2 * i < 33 := by omega
  have e222 : ev xs L 222 1 [vS (3 + 2 * i)] (mw f a g) = some (some (vI 0), mw f a g) := by
    show rn xs L 222 0 [vS (3 + 2 * i)] [] (mw f a g) = _
    rw [b222_0, if_neg (by decide), b222_6 _ h0 h1]
  show rn xs L 221 0 [vS (3 + 2 * i)] [] (mw f a g) = _
  rw [b221_0 _ h0 h1, e222]
  simp only [Option.bind_some, Option.toList_some, List.cons_append, List.nil_append]
  rw [b221_9, show (3 + 2 * i + 1 - 4) / 2 = i by omega]
  exact congrArg (fun v => some (some (vI v), mw f a g)) (shr_all _ (len_all i hi))
theorem c_chr {i j k : Nat} (hi : i < 15) (hk : k = 3 + 2 * i) (hj : j < ma_len i) : ev xs L 223 2 [vS k, vI (nI j)] (mw f a g) = some (some (vI (nI ((wrd i).getD j 0))), mw f a g) := by
  subst hk
  have h1 : 3 ≤ 3 + 2 * i ∧ 3 + 2 * i < 33 ∧ (3 + 2 * i) % 2 = 1 := by omega
  have h2 : 3 ≤ 3 + 2 * i + 1 ∧ 3 + 2 * i + 1 < 33 ∧ (3 + 2 * i + 1) % 2 = 0 := by omega
  have h0 : 3 ≤ 3 + 2 * i ∧ 3 + 2 * i < 33 := by omega
  have h02 : 3 ≤ 3 + 2 * i + 1 ∧ 3 + 2 * i + 1 < 33 := by omega
  have hl := len_all i hi
  obtain ⟨q1, q2, q3⟩ := chr_all i hi j hj
  have hix : (3 + 2 * i + 1 - 4) / 2 = i := by omega
  have hin : ma_in (nI j) (ma_len i) = true := in_of hj (by omega)
  have e224 : ev xs L 224 1 [vS (3 + 2 * i)] (mw f a g) = some (some (vI 1), mw f a g) := by
    show rn xs L 224 0 [vS (3 + 2 * i)] [] (mw f a g) = _
    rw [b224_0, if_neg (by decide), b224_6 _ h0 h1, if_pos rfl, b224_13]
  have e231 : ev xs L 231 3 [vI (nI j), vI (nI (ma_len i)), vS 2] (mw f a g) = some (some (vI (nI j)), mw f a g) := by
    show rn xs L 231 0 [vI (nI j), vI (nI (ma_len i)), vS 2] [] (mw f a g) = _
    rw [b231_0, if_neg (nI_pos (by omega)), b231_4, if_pos (by rw [nn_lt (by omega) (by omega)]; exact hj), b231_16]
  have e225 : ev xs L 225 2 [vI (nI j), vI (nI (ma_len i))] (mw f a g) = some (none, mw f a g) := by
    show rn xs L 225 0 [vI (nI j), vI (nI (ma_len i))] [] (mw f a g) = _
    rw [b225_0, e231]
    simp only [Option.bind_some, Option.toList_some, List.cons_append, List.nil_append]
    rw [b225_8]
  have e226 : ev xs L 226 2 [vS (3 + 2 * i + 1), vI (nI j)] (mw f a g) = some (some (vI (nI ((wrd i).getD j 0))), mw f a g) := by
    show rn xs L 226 0 [vS (3 + 2 * i + 1), vI (nI j)] [] (mw f a g) = _
    rw [b226_0 _ _ h02 h2, hix]
    have e225' : ev xs L 225 2 [vI (nI j), vI (Int32.ofNat (ma_len i))] (mw f a g) = some (none, mw f a g) := e225
    rw [e225']
    simp only [Option.bind_some, Option.toList_none, List.nil_append]
    rw [b226_6 _ _ h02 h2 (by rw [hix]; exact hin) (by rw [hix, nn_nat (by omega)]; exact q2), hix, nn_nat (by omega), q1]
  rw [q1] at q2
  show rn xs L 223 0 [vS (3 + 2 * i), vI (nI j)] [] (mw f a g) = _
  rw [b223_0 _ _ h0 h1, e224]
  simp only [Option.bind_some, Option.toList_some, List.cons_append, List.nil_append]
  rw [b223_4, if_neg (by decide), b223_7 _ _ h0 h1, e226]
  simp only [Option.bind_some, Option.toList_some, List.cons_append, List.nil_append]
  rw [b223_15 _ _ _ q2]
theorem eqW_cut {s : Nat} {w : List Nat} {j : Nat} (hj : j < w.length) : eqW B (s + j) (w.drop j) = (decide (B (s + j) = w.getD j 0) && eqW B (s + (j + 1)) (w.drop (j + 1))) := by
  have : w.drop j = w.getD j 0 :: w.drop (j + 1) := by
    rw [List.getD_eq_getElem?_getD, List.getElem?_eq_getElem hj]
    exact List.drop_eq_getElem_cons hj
  rw [this]
  rfl
theorem c_name0 {i k s e c : Nat} {ft : Int32} (hi : i < 15) (hk : k = 3 + 2 * i) (hB : byC a B l) (hl : l ≤ 200) (h : cX f l c s e ft) (he : s + (wrd i).length ≤ l) : ∀ (r j : Nat), j + r = (wrd i).length → rn xs L 19 38 [vR 25, vS k, vI (nI j)] [] (mw f a g) = some (some (vI (bI (eqW B (s + j) ((wrd i).drop j)))), mw f a g)
  | 0, j, hj => by
    have hlen := len_all i hi
    have hlw := ma_len_w i
    have h1 : 3 ≤ k ∧ k < 33 ∧ k % 2 = 1 := by omega
    have h0 : 3 ≤ k ∧ k < 33 := by omega
    rw [b19_38 _ _ h0 h1, c_len hi hk]
    simp only [Option.bind_some, Option.toList_some, List.cons_append, List.nil_append]
    rw [b19_43, if_neg (by rw [nn_lt (by omega) (by omega)]; omega), b19_73, List.drop_of_length_le (by omega)]
    rfl
  | r + 1, j, hj => by
    have hlen := len_all i hi
    have hlw := ma_len_w i
    have h1 : 3 ≤ k ∧ k < 33 ∧ k % 2 = 1 := by omega
    have h0 : 3 ≤ k ∧ k < 33 := by omega
    have hj2 : j < ma_len i := by omega
    have hin : ma_in (f 25 3 + nI j) 200 = true := by rw [h.st, nn_add]; exact in_of (by omega) (by decide)
    obtain ⟨hb, hab⟩ := hB (s + j) (by omega)
    obtain ⟨_, _, q3⟩ := chr_all i hi j hj2
    have hq := sB_eq (B (s + j)) hb _ q3
    rw [b19_38 _ _ h0 h1, c_len hi hk]
    simp only [Option.bind_some, Option.toList_some, List.cons_append, List.nil_append]
    rw [b19_43, if_pos (by rw [nn_lt (by omega) (by omega)]; omega), b19_46 _ _ hin h0 h1, c_chr hi hk hj2]
    simp only [Option.bind_some, Option.toList_some, List.cons_append, List.nil_append]
    rw [b19_62, h.st, nn_add, nn_nat (by omega), hab, eqW_cut (by omega)]
    by_cases z : B (s + j) = (wrd i).getD j 0
    · rw [if_pos (hq.mpr z), b19_67, nn_add1, c_name0 hi hk hB hl h he r (j + 1) (by omega), decide_eq_true z, Bool.true_and]
    · rw [if_neg (fun q => z (hq.mp q)), b19_65, decide_eq_false z]
      rfl
def cS (f : Nat → Nat → Int32) (B : Nat → Nat) (l p : Nat) (ft : Int32) : Prop := cX f l (sgm B l p) (stt B l p) (enn B l p) ft
theorem c_isName {i k : Nat} {ft : Int32} (hi : i < 15) (hk : k = 3 + 2 * i) (hB : byC a B l) (hl : l ≤ 200) (hp : p ≤ l) (h : cS f B l p ft) : ev xs L 19 3 [vR 25, vS k] (mw f a g) = some (some (vI (bI (nmB B l p (wrd i)))), mw f a g) := by
  have hlen := len_all i hi
  have hlw := ma_len_w i
  have hst := stt_le (B := B) hp
  have hen := enn_le (B := B) hp
  have hsi : sgm B l p = 0 ∨ sgm B l p = 1 ∨ sgm B l p = 2 ∨ sgm B l p = 3 := srt_in _
  have h1 : 3 ≤ k ∧ k < 33 ∧ k % 2 = 1 := by omega
  have h0 : 3 ≤ k ∧ k < 33 := by omega
  have h : cX f l (sgm B l p) (stt B l p) (enn B l p) ft := h
  show rn xs L 19 0 [vR 25, vS k, vS 0] [] (mw f a g) = _
  unfold nmB
  rw [b19_0, h.srt]
  by_cases z1 : sgm B l p = 1
  · rw [if_pos (by rw [z1]; rfl), b19_8 _ _ h0 h1, c_len hi hk]
    simp only [Option.bind_some, Option.toList_some, List.cons_append, List.nil_append]
    rw [b19_21, h.en, h.st, pk_sub hen.1, decide_eq_true z1]
    by_cases z2 : enn B l p - stt B l p = (wrd i).length
    · rw [if_pos (by rw [nn_eq (by omega) (by omega)]; omega), b19_24, h.en, if_neg (by rw [show (200 : Int32) = nI 200 from rfl, nn_lt (by omega) (by omega)]; omega), b19_36, decide_eq_true z2]
      have := c_name0 (xs := xs) (L := L) (g := g) hi hk hB hl h (show stt B l p + (wrd i).length ≤ l by omega) (wrd i).length 0 (by omega)
      exact this
    · rw [if_neg (by rw [nn_eq (by omega) (by omega)]; omega), b19_34, decide_eq_false z2]
      rfl
  · rw [if_neg (by rw [show (1 : Int32) = nI 1 from rfl, nn_eq (by omega) (by omega)]; exact z1), b19_34, decide_eq_false z1]
    rfl
/-- a fault is told: where the word at p begins -/
def cF (f : Nat → Nat → Int32) (B : Nat → Nat) (l p : Nat) : Prop := f 25 1 = nI l ∧ f 25 5 = nI (stt B l p)
theorem c_next (hB : byC a B l) (hl : l ≤ 200) (hp : p ≤ l) {ft : Int32} (h : cS f B l p ft) : ∃ f', ev xs L 16 1 [vR 25] (mw f a g) = some (none, mw f' a g) ∧ cS f' B l (enn B l p) ft ∧ frT f f' := by
  have h' : cX f l (sgm B l p) (stt B l p) (enn B l p) ft := h
  exact c_step hB hl h'.len h'.en h'.flt (enn_le (B := B) hp).2.1
theorem cF.of (h : cX f l (sgm B l p) (stt B l p) (enn B l p) (-1)) : cF (ma_u2 f 25 5 (nI (stt B l p))) B l p := by
  refine ⟨?_, ?_⟩
  · rw [u2_at, if_neg (by omega)]; exact h.len
  · rw [u2_at, if_pos ⟨rfl, rfl⟩]
theorem c_value0 {s e c : Nat} {ft : Int32} (hB : byC a B l) (hl : l ≤ 200) (he : e ≤ l) (h : cX f l c s e ft) (hd : ∀ i, s ≤ i → i < e → 48 ≤ B i ∧ B i ≤ 57) : ∀ (r i v : Nat), i + r = e → s ≤ i → rn xs L 24 7 [vR 25, vI (nI v), vI (nI i)] [] (mw f a g) = some (some (vI (nI (vP B r i v))), mw f a g)
  | 0, i, v, hi, hs => by
    rw [b24_7, h.en, if_neg (by rw [nn_lt (by omega) (by omega)]; omega), b24_43]
    rfl
  | r + 1, i, v, hi, hs => by
    obtain ⟨hb, hab⟩ := hB i (by omega)
    have hdi := hd i hs (by omega)
    have hin : ma_in (nI i) 200 = true := in_of (by omega) (by decide)
    obtain ⟨_, _, _, _, q5, _⟩ := sB_all (B i) hb
    have hv : nI v * 10 + a 26 i - 48 = nI (v * 10 + B i - 48) := by
      rw [hab, q5 (by omega), show (10 : Int32) = nI 10 from rfl, show (48 : Int32) = nI 48 from rfl, nn_mul, nn_add, pk_sub (by omega)]
    rw [b24_7, h.en, if_pos (by rw [nn_lt (by omega) (by omega)]; omega), b24_15, if_pos (by rw [show (200 : Int32) = nI 200 from rfl, nn_lt (by omega) (by omega)]; omega), b24_22 _ _ hin, nn_nat (by omega), hv, nn_add1, c_value0 hB hl he h hd r (i + 1) _ (by omega) (by omega)]
    rfl
theorem c_number {m : Nat} (hm : m ≤ 99) (hB : byC a B l) (hl : l ≤ 200) (hp : p ≤ l) (h : cS f B l p (-1)) :
    (∀ v, numO B l p m = some v → ∃ f', ev xs L 23 3 [vR 25, vI (nI m)] (mw f a g) = some (some (vI (nI v)), mw f' a g) ∧ cS f' B l (enn B l p) (-1) ∧ frT f f') ∧
    (numO B l p m = none → ∃ f', ev xs L 23 3 [vR 25, vI (nI m)] (mw f a g) = some (some (vI (-1)), mw f' a g) ∧ cF f' B l p ∧ frT f f') := by
  have hst := stt_le (B := B) hp
  have hen := enn_le (B := B) hp
  have hsi : sgm B l p = 0 ∨ sgm B l p = 1 ∨ sgm B l p = 2 ∨ sgm B l p = 3 := srt_in _
  have h' : cX f l (sgm B l p) (stt B l p) (enn B l p) (-1) := h
  have bad : ∀ v : Nat, rn xs L 23 37 [vR 25, vI (nI m), vI (nI v)] [] (mw f a g) = some (some (vI (-1)), mw (ma_u2 f 25 5 (nI (stt B l p))) a g) := fun v => by rw [b23_37, h'.st]
  have no : rn xs L 23 28 [vR 25, vI (nI m), vS 0] [] (mw f a g) = some (some (vI (-1)), mw (ma_u2 f 25 5 (nI (stt B l p))) a g) := by
    rw [b23_28, nn_add1, if_pos (by rw [nn_lt (by omega) (by omega)]; omega), bad]
  have c3 : ((3 : Int32) < f 25 4 - f 25 3) ↔ 3 < enn B l p - stt B l p := by
    rw [h'.en, h'.st, pk_sub hen.1, show (3 : Int32) = nI 3 from rfl, nn_lt (by omega) (by omega)]
  have main : rn xs L 23 0 [vR 25, vI (nI m), vS 0] [] (mw f a g) = if sgm B l p = 2 ∧ enn B l p - stt B l p ≤ 3 then (if nI m < nI (vll B l p) then rn xs L 23 37 [vR 25, vI (nI m), vI (nI (vll B l p))] [] (mw f a g) else rn xs L 23 47 [vR 25, vI (nI m), vI (nI (vll B l p))] [] (mw f a g)) else some (some (vI (-1)), mw (ma_u2 f 25 5 (nI (stt B l p))) a g) := by
    rw [b23_0, h'.srt]
    by_cases z2 : sgm B l p = 2
    · rw [if_pos (by rw [z2]; rfl), b23_8]
      by_cases z3 : enn B l p - stt B l p ≤ 3
      · have hd := fun i h1 h2 => tok_2 (B := B) (l := l) (p := p) (i := i) z2 h1 h2
        have e24 : ev xs L 24 3 [vR 25] (mw f a g) = some (some (vI (nI (vll B l p))), mw f a g) := by
          show rn xs L 24 0 [vR 25, vS 0, vS 0] [] (mw f a g) = _
          rw [b24_0, h'.st, show vI (0 : Int32) = vI (nI 0) from rfl, c_value0 hB hl hen.2.1 h' hd (enn B l p - stt B l p) (stt B l p) 0 (by omega) (Nat.le_refl _), vP_vC z3 (fun j h1 h2 => hd j h1 (by omega))]
          unfold vll
          rw [if_pos z2]
        rw [if_neg (fun z => absurd (c3.mp z) (by omega)), b23_21, e24]
        simp only [Option.bind_some, Option.toList_some, List.cons_append, List.nil_append]
        rw [b23_25, if_pos (show sgm B l p = 2 ∧ enn B l p - stt B l p ≤ 3 from ⟨z2, z3⟩)]
      · rw [if_pos (c3.mpr (by omega)), no, if_neg (fun z => z3 z.2)]
    · rw [if_neg (by rw [show (2 : Int32) = nI 2 from rfl, nn_eq (by omega) (by omega)]; exact z2), no, if_neg (fun z => z2 z.1)]
  have hvl : vll B l p ≤ 9999 := by
    unfold vll
    by_cases z2 : sgm B l p = 2
    · rw [if_pos z2]
      exact vC_le _ _ _ (fun j h1 h2 => tok_2 z2 h1 (by omega)) (by omega)
    · rw [if_neg z2]; omega
  constructor
  · intro v hv
    unfold numO at hv
    by_cases c : sgm B l p = 2 ∧ enn B l p - stt B l p ≤ 3 ∧ vll B l p ≤ m
    · rw [if_pos c] at hv
      have hv2 := Option.some.inj hv
      subst hv2
      obtain ⟨f', e1, h1, r1⟩ := c_next (xs := xs) (L := L) (g := g) hB hl hp h
      refine ⟨f', ?_, h1, r1⟩
      show rn xs L 23 0 [vR 25, vI (nI m), vS 0] [] (mw f a g) = _
      rw [main, if_pos ⟨c.1, c.2.1⟩, if_neg (by rw [nn_lt (by omega) (by omega)]; omega), b23_47, e1]
      simp only [Option.bind_some, Option.toList_none, List.nil_append]
      rw [b23_51]
    · rw [if_neg c] at hv
      cases hv
  · intro hv
    refine ⟨ma_u2 f 25 5 (nI (stt B l p)), ?_, cF.of h', frT.u⟩
    show rn xs L 23 0 [vR 25, vI (nI m), vS 0] [] (mw f a g) = _
    rw [main]
    by_cases c : sgm B l p = 2 ∧ enn B l p - stt B l p ≤ 3
    · have c2 : ¬ vll B l p ≤ m := fun z => by
        unfold numO at hv
        rw [if_pos ⟨c.1, c.2, z⟩] at hv
        cases hv
      rw [if_pos c, if_pos (by rw [nn_lt (by omega) (by omega)]; omega), bad]
    · rw [if_neg c]
theorem c_semi (hB : byC a B l) (hl : l ≤ 200) (hp : p ≤ l) (h : cS f B l p (-1)) :
    (semB B l p = true → ∃ f', ev xs L 25 2 [vR 25] (mw f a g) = some (some (vI 1), mw f' a g) ∧ cS f' B l (enn B l p) (-1) ∧ frT f f') ∧
    (semB B l p = false → ∃ f', ev xs L 25 2 [vR 25] (mw f a g) = some (some (vI 0), mw f' a g) ∧ cF f' B l p ∧ frT f f') := by
  have hst := stt_le (B := B) hp
  have hen := enn_le (B := B) hp
  have hsi : sgm B l p = 0 ∨ sgm B l p = 1 ∨ sgm B l p = 2 ∨ sgm B l p = 3 := srt_in _
  have h' : cX f l (sgm B l p) (stt B l p) (enn B l p) (-1) := h
  have main : rn xs L 25 0 [vR 25, vS 0] [] (mw f a g) = if semB B l p = true then rn xs L 25 32 [vR 25, vS 0] [] (mw f a g) else rn xs L 25 36 [vR 25, vS 0] [] (mw f a g) := by
    unfold semB
    rw [b25_0, h'.srt]
    by_cases z3 : sgm B l p = 3
    · have hlt := (hen.2.2 (by omega)).2
      obtain ⟨hb, hab⟩ := hB (stt B l p) hlt
      have hin : ma_in (f 25 3) 200 = true := by rw [h'.st]; exact in_of (by omega) (by decide)
      have hq : (sB (B (stt B l p)) = 59) ↔ B (stt B l p) = 59 := sB_eq _ hb 59 (by decide)
      rw [if_pos (by rw [z3]; rfl), b25_8, h'.st, if_pos (by rw [show (200 : Int32) = nI 200 from rfl, nn_lt (by omega) (by omega)]; omega), b25_18 _ hin, h'.st, nn_nat (by omega), hab, decide_eq_true z3, Bool.true_and]
      by_cases z : B (stt B l p) = 59
      · rw [if_pos (hq.mpr z), if_pos (decide_eq_true z)]
      · rw [if_neg (fun q => z (hq.mp q)), if_neg (by rw [decide_eq_true_eq]; exact z)]
    · rw [if_neg (by rw [show (3 : Int32) = nI 3 from rfl, nn_eq (by omega) (by omega)]; exact z3), decide_eq_false z3, Bool.false_and, if_neg (by decide)]
  constructor
  · intro hs
    obtain ⟨f', e1, h1, r1⟩ := c_next (xs := xs) (L := L) (g := g) hB hl hp h
    refine ⟨f', ?_, h1, r1⟩
    show rn xs L 25 0 [vR 25, vS 0] [] (mw f a g) = _
    rw [main, if_pos hs, b25_32, if_neg (by decide), b25_42, e1]
    simp only [Option.bind_some, Option.toList_none, List.nil_append]
    rw [b25_46 _ (Or.inr rfl)]
  · intro hs
    refine ⟨ma_u2 f 25 5 (nI (stt B l p)), ?_, cF.of h', frT.u⟩
    show rn xs L 25 0 [vR 25, vS 0] [] (mw f a g) = _
    rw [main, hs, if_neg (by decide), b25_36, if_pos rfl, b25_49 _ (Or.inl rfl), h'.st]
theorem c_passName {i k : Nat} (hi : i < 15) (hk : k = 3 + 2 * i) (hB : byC a B l) (hl : l ≤ 200) (hp : p ≤ l) (h : cS f B l p (-1)) :
    (nmB B l p (wrd i) = true → ∃ f', ev xs L 27 3 [vR 25, vS k] (mw f a g) = some (some (vI 1), mw f' a g) ∧ cS f' B l (enn B l p) (-1) ∧ frT f f') ∧
    (nmB B l p (wrd i) = false → ∃ f', ev xs L 27 3 [vR 25, vS k] (mw f a g) = some (some (vI 0), mw f' a g) ∧ cF f' B l p ∧ frT f f') := by
  have h' : cX f l (sgm B l p) (stt B l p) (enn B l p) (-1) := h
  have h0 : 3 ≤ k ∧ k < 33 := by omega
  have main : rn xs L 27 0 [vR 25, vS k, vS 0] [] (mw f a g) = if bI (nmB B l p (wrd i)) = 0 then rn xs L 27 17 [vR 25, vS k, vI (bI (nmB B l p (wrd i)))] [] (mw f a g) else rn xs L 27 10 [vR 25, vS k, vI (bI (nmB B l p (wrd i)))] [] (mw f a g) := by
    rw [b27_0 _ _ h0, c_isName hi hk hB hl hp h]
    simp only [Option.bind_some, Option.toList_some, List.cons_append, List.nil_append]
    rw [b27_5]
  constructor
  · intro hs
    obtain ⟨f', e1, h1, r1⟩ := c_next (xs := xs) (L := L) (g := g) hB hl hp h
    refine ⟨f', ?_, h1, r1⟩
    show rn xs L 27 0 [vR 25, vS k, vS 0] [] (mw f a g) = _
    rw [main, hs, if_neg (by decide), b27_10, e1]
    simp only [Option.bind_some, Option.toList_none, List.nil_append]
    rw [b27_14 _ _ bI_01]
    rfl
  · intro hs
    refine ⟨ma_u2 f 25 5 (nI (stt B l p)), ?_, cF.of h', frT.u⟩
    show rn xs L 27 0 [vR 25, vS k, vS 0] [] (mw f a g) = _
    rw [main, hs, if_pos (by decide), b27_17 _ _ bI_01, h'.st]
    rfl
end S87
