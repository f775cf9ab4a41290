/-! ===== the words of a text: pure ===== -/
def srtB (b : Nat) : Nat := if 97 ≤ b ∧ b ≤ 122 then 1 else if 48 ≤ b ∧ b ≤ 57 then 2 else 3
def srt (B : Nat → Nat) (l i : Nat) : Nat := if i < l then srtB (B i) else 0
def skp (B : Nat → Nat) : Nat → Nat → Nat
  | 0, p => p
  | r + 1, p => if B p = 32 then skp B r (p + 1) else p
def stt (B : Nat → Nat) (l p : Nat) : Nat := skp B (l - p) p
def ext (B : Nat → Nat) (l c : Nat) : Nat → Nat → Nat
  | 0, e => e
  | r + 1, e => if srt B l e = c then ext B l c r (e + 1) else e
def sgm (B : Nat → Nat) (l p : Nat) : Nat := srt B l (stt B l p)
def enn (B : Nat → Nat) (l p : Nat) : Nat := if sgm B l p = 0 then stt B l p else if sgm B l p = 3 then stt B l p + 1 else ext B l (sgm B l p) (l - (stt B l p + 1)) (stt B l p + 1)
def vC (B : Nat → Nat) : Nat → Nat → Nat → Nat
  | 0, _, v => v
  | r + 1, i, v => vC B r (i + 1) (if 999 < v then v else 10 * v + B i - 48)
def vll (B : Nat → Nat) (l p : Nat) : Nat := if sgm B l p = 2 then vC B (enn B l p - stt B l p) (stt B l p) 0 else 0
section S86
variable {B : Nat → Nat} {l : Nat}
theorem srtB_in (b : Nat) : srtB b = 1 ∨ srtB b = 2 ∨ srtB b = 3 := by
  unfold srtB
  split
  · exact Or.inl rfl
  · split
    · exact Or.inr (Or.inl rfl)
    · exact Or.inr (Or.inr rfl)
theorem srt_in (i : Nat) : srt B l i = 0 ∨ srt B l i = 1 ∨ srt B l i = 2 ∨ srt B l i = 3 := by
  unfold srt
  split
  · exact Or.inr (srtB_in _)
  · exact Or.inl rfl
theorem srt_lt {i : Nat} (h : srt B l i ≠ 0) : i < l := by
  unfold srt at h
  split at h
  · assumption
  · exact absurd rfl h
theorem srt_2 {i : Nat} (h : srt B l i = 2) : 48 ≤ B i ∧ B i ≤ 57 := by
  unfold srt srtB at h
  split at h
  · split at h
    · cases h
    · split at h
      · assumption
      · cases h
  · cases h
theorem skp_le : ∀ r p, p ≤ skp B r p ∧ skp B r p ≤ p + r
  | 0, p => ⟨Nat.le_refl _, Nat.le_refl _⟩
  | r + 1, p => by
    have ih := skp_le r (p + 1)
    unfold skp
    split <;> omega
theorem ext_le {c : Nat} : ∀ r e, e ≤ ext B l c r e ∧ ext B l c r e ≤ e + r
  | 0, e => ⟨Nat.le_refl _, Nat.le_refl _⟩
  | r + 1, e => by
    have ih := ext_le (c := c) r (e + 1)
    unfold ext
    split <;> omega
theorem ext_srt {c : Nat} : ∀ r e i, e ≤ i → i < ext B l c r e → srt B l i = c
  | 0, e, i, h1, h2 => by
    have : ext B l c 0 e = e := rfl
    omega
  | r + 1, e, i, h1, h2 => by
    by_cases h : srt B l e = c
    · have he : ext B l c (r + 1) e = ext B l c r (e + 1) := by rw [ext, if_pos h]
      rw [he] at h2
      by_cases hi : i = e
      · rw [hi]; exact h
      · exact ext_srt r (e + 1) i (by omega) h2
    · have he : ext B l c (r + 1) e = e := by rw [ext, if_neg h]
      omega
theorem stt_le {p : Nat} (h : p ≤ l) : p ≤ stt B l p ∧ stt B l p ≤ l := by
  have := skp_le (B := B) (l - p) p
  unfold stt
  omega
theorem enn_le {p : Nat} (h : p ≤ l) : stt B l p ≤ enn B l p ∧ enn B l p ≤ l ∧ (sgm B l p ≠ 0 → stt B l p < enn B l p ∧ stt B l p < l) := by
  have hs := stt_le (B := B) h
  unfold enn
  by_cases h0 : sgm B l p = 0
  · rw [if_pos h0]
    exact ⟨Nat.le_refl _, hs.2, fun q => absurd h0 q⟩
  · have hl : stt B l p < l := srt_lt h0
    rw [if_neg h0]
    by_cases h3 : sgm B l p = 3
    · rw [if_pos h3]
      exact ⟨by omega, by omega, fun _ => ⟨by omega, hl⟩⟩
    · rw [if_neg h3]
      have := ext_le (B := B) (l := l) (c := sgm B l p) (l - (stt B l p + 1)) (stt B l p + 1)
      exact ⟨by omega, by omega, fun _ => ⟨by omega, hl⟩⟩
theorem tok_2 {p i : Nat} (h : sgm B l p = 2) (h1 : stt B l p ≤ i) (h2 : i < enn B l p) : 48 ≤ B i ∧ B i ≤ 57 := by
  unfold enn at h2
  rw [if_neg (by omega), if_neg (by omega), h] at h2
  by_cases e : i = stt B l p
  · rw [e]; exact srt_2 h
  · exact srt_2 (ext_srt _ _ _ (by omega) h2)
theorem ext_one {c s : Nat} (h : srt B l s = c) (hl : s < l) : ext B l c (l - s) s = ext B l c (l - (s + 1)) (s + 1) := by
  rw [show l - s = (l - (s + 1)) + 1 by omega, ext, if_pos h]
theorem vC_le : ∀ (r i v : Nat), (∀ j, i ≤ j → j < i + r → 48 ≤ B j ∧ B j ≤ 57) → v ≤ 9999 → vC B r i v ≤ 9999
  | 0, i, v, _, hv => hv
  | r + 1, i, v, h, hv => by
    have hb := h i (by omega) (by omega)
    refine vC_le r (i + 1) _ (fun j h1 h2 => h j (by omega) (by omega)) ?_
    split <;> omega
/-- the class's own value, of three digits at most -/
def vP (B : Nat → Nat) : Nat → Nat → Nat → Nat
  | 0, _, v => v
  | r + 1, i, v => vP B r (i + 1) (v * 10 + B i - 48)
theorem vP_vC {r i : Nat} (hr : r ≤ 3) (h : ∀ j, i ≤ j → j < i + r → 48 ≤ B j ∧ B j ≤ 57) : vP B r i 0 = vC B r i 0 := by
  have hx : r = 0 ∨ r = 1 ∨ r = 2 ∨ r = 3 := by omega
  rcases hx with rfl | rfl | rfl | rfl
  · rfl
  · show 0 * 10 + B i - 48 = if 999 < 0 then 0 else 10 * 0 + B i - 48
    rw [if_neg (by decide)]
  · have h0 := h i (by omega) (by omega)
    have h1 := h (i + 1) (by omega) (by omega)
    unfold vP vC
    rw [if_neg (by decide)]
    unfold vP vC
    rw [if_neg (by omega)]
    unfold vP vC
    omega
  · have h0 := h i (by omega) (by omega)
    have h1 := h (i + 1) (by omega) (by omega)
    have h2 := h (i + 1 + 1) (by omega) (by omega)
    unfold vP vC
    rw [if_neg (by decide)]
    unfold vP vC
    rw [if_neg (by omega)]
    unfold vP vC
    rw [if_neg (by omega)]
    unfold vP vC
    omega
/-- is the word from s to e that one? -/
def eqW (B : Nat → Nat) : Nat → List Nat → Bool
  | _, [] => true
  | s, c :: r => decide (B s = c) && eqW B (s + 1) r
def nmB (B : Nat → Nat) (l p : Nat) (w : List Nat) : Bool := decide (sgm B l p = 1) && decide (enn B l p - stt B l p = w.length) && eqW B (stt B l p) w
theorem eqW_inj : ∀ (s : Nat) (w w2 : List Nat), w.length = w2.length → eqW B s w = true → eqW B s w2 = true → w = w2
  | _, [], [], _, _, _ => rfl
  | _, [], _ :: _, h, _, _ => by cases h
  | _, _ :: _, [], h, _, _ => by cases h
  | s, c :: r, c2 :: r2, h, h1, h2 => by
    unfold eqW at h1 h2
    rw [Bool.and_eq_true, decide_eq_true_eq] at h1 h2
    have h3 := eqW_inj (s + 1) r r2 (by simpa using h) h1.2 h2.2
    rw [← h1.1, ← h2.1, h3]
theorem nmB_inj {p : Nat} {w w2 : List Nat} (h1 : nmB B l p w = true) (h2 : nmB B l p w2 = true) : w = w2 := by
  unfold nmB at h1 h2
  rw [Bool.and_eq_true, Bool.and_eq_true, decide_eq_true_eq, decide_eq_true_eq] at h1 h2
  exact eqW_inj _ _ _ (h1.1.2.symm.trans h2.1.2) h1.2 h2.2
/-- a number no greater than m -/
def numO (B : Nat → Nat) (l p m : Nat) : Option Nat := if sgm B l p = 2 ∧ enn B l p - stt B l p ≤ 3 ∧ vll B l p ≤ m then some (vll B l p) else none
theorem numO_le {p m v : Nat} (h : numO B l p m = some v) : v ≤ m ∧ sgm B l p = 2 := by
  unfold numO at h
  split at h
  · next hc =>
    have := Option.some.inj h
    exact ⟨by omega, hc.1⟩
  · cases h
def semB (B : Nat → Nat) (l p : Nat) : Bool := decide (sgm B l p = 3) && decide (B (stt B l p) = 59)
end S86
theorem sB_all : ∀ b, b < 256 → ((sB b < 97 ↔ (b < 97 ∨ 128 ≤ b)) ∧ (122 < sB b ↔ (122 < b ∧ b < 128)) ∧ (sB b < 48 ↔ (b < 48 ∨ 128 ≤ b)) ∧ (57 < sB b ↔ (57 < b ∧ b < 128)) ∧ (b < 128 → sB b = nI b) ∧ (128 ≤ b → sB b < 0)) := by decide +kernel
theorem sB_eq (b : Nat) (hb : b < 256) (c : Nat) (hc : c < 128) : sB b = nI c ↔ b = c := by
  obtain ⟨_, _, _, _, q5, q6⟩ := sB_all b hb
  by_cases h : b < 128
  · rw [q5 h, nn_eq (by omega) (by omega)]
  · constructor
    · intro z
      have := q6 (by omega)
      rw [z] at this
      exact absurd this (nI_pos (by omega))
    · intro z
      omega
section S86b
variable {xs : Nat → Int32} {L : Nat} {f a : Nat → Nat → Int32} {g : Nat → Nat → Int64} {B : Nat → Nat} {l : Nat}
/-- the tape's bytes: the class's, the model's -/
def byC (a : Nat → Nat → Int32) (B : Nat → Nat) (l : Nat) : Prop := ∀ i, i < l → B i < 256 ∧ a 26 i = sB (B i)
def byM (a : Nat → Nat → Int32) (B : Nat → Nat) (l : Nat) : Prop := ∀ i, i < l → B i < 256 ∧ a 49 i = nI (B i)
theorem c_sortAt {i : Nat} (hB : byC a B l) (hl : l ≤ 200) (h1 : f 25 1 = nI l) (hi : i ≤ 200) : ev xs L 17 3 [vR 25, vI (nI i)] (mw f a g) = some (some (vI (nI (srt B l i))), mw f a g) := by
  show rn xs L 17 0 [vR 25, vI (nI i), vS 0] [] (mw f a g) = _
  unfold srt
  rw [b17_0, if_neg (nI_pos (by omega)), b17_4, h1]
  by_cases h : i < l
  · obtain ⟨hb, ha⟩ := hB i h
    obtain ⟨q1, q2, q3, q4, q5, _⟩ := sB_all (B i) hb
    have hin : ma_in (nI i) 200 = true := in_of (by omega) (by decide)
    rw [if_pos ((nn_lt (by omega) (by omega)).mpr h), b17_12, if_pos (by rw [show (200 : Int32) = nI 200 from rfl, nn_lt (by omega) (by omega)]; omega), b17_21 _ _ hin, nn_nat (by omega), ha, if_pos h]
    have dig : rn xs L 17 44 [vR 25, vI (nI i), vI (sB (B i))] [] (mw f a g) = some (some (vI (nI (if 48 ≤ B i ∧ B i ≤ 57 then 2 else 3))), mw f a g) := by
      rw [b17_44]
      by_cases c1 : sB (B i) < 48
      · rw [if_pos c1, b17_60, if_neg (by have := q3.mp c1; omega)]
        rfl
      · rw [if_neg c1, b17_50]
        by_cases c2 : 57 < sB (B i)
        · rw [if_pos c2, b17_60, if_neg (by have := q4.mp c2; omega)]
          rfl
        · have : ¬ (B i < 48 ∨ 128 ≤ B i) := fun z => c1 (q3.mpr z)
          have : ¬ (57 < B i ∧ B i < 128) := fun z => c2 (q4.mpr z)
          rw [if_neg c2, b17_56, if_pos (by omega)]
          rfl
    unfold srtB
    by_cases c1 : sB (B i) < 97
    · have := q1.mp c1
      rw [if_pos c1, dig, if_neg (show ¬ (97 ≤ B i ∧ B i ≤ 122) by omega)]
    · have hn1 : ¬ (B i < 97 ∨ 128 ≤ B i) := fun z => c1 (q1.mpr z)
      rw [if_neg c1, b17_34]
      by_cases c2 : 122 < sB (B i)
      · have := q2.mp c2
        rw [if_pos c2, dig, if_neg (show ¬ (97 ≤ B i ∧ B i ≤ 122) by omega)]
      · have : ¬ (122 < B i ∧ B i < 128) := fun z => c2 (q2.mpr z)
        rw [if_neg c2, b17_40, if_pos (show 97 ≤ B i ∧ B i ≤ 122 by omega)]
        rfl
  · rw [if_neg (fun z => h ((nn_lt (by omega) (by omega)).mp z)), b17_19, if_neg h]
    rfl
def cX (f : Nat → Nat → Int32) (l : Nat) (c : Nat) (s : Nat) (e : Nat) (ft : Int32) : Prop := (f 25 1 = nI l) ∧ (f 25 2 = nI c) ∧ (f 25 3 = nI s) ∧ (f 25 4 = nI e) ∧ (f 25 5 = ft)
theorem cX.len {f : Nat → Nat → Int32} {l : Nat} {c : Nat} {s : Nat} {e : Nat} {ft : Int32} (h : cX f l c s e ft) : f 25 1 = nI l := h.1
theorem cX.srt {f : Nat → Nat → Int32} {l : Nat} {c : Nat} {s : Nat} {e : Nat} {ft : Int32} (h : cX f l c s e ft) : f 25 2 = nI c := h.2.1
theorem cX.st {f : Nat → Nat → Int32} {l : Nat} {c : Nat} {s : Nat} {e : Nat} {ft : Int32} (h : cX f l c s e ft) : f 25 3 = nI s := h.2.2.1
theorem cX.en {f : Nat → Nat → Int32} {l : Nat} {c : Nat} {s : Nat} {e : Nat} {ft : Int32} (h : cX f l c s e ft) : f 25 4 = nI e := h.2.2.2.1
theorem cX.flt {f : Nat → Nat → Int32} {l : Nat} {c : Nat} {s : Nat} {e : Nat} {ft : Int32} (h : cX f l c s e ft) : f 25 5 = ft := h.2.2.2.2
theorem cX.mk {f : Nat → Nat → Int32} {l : Nat} {c : Nat} {s : Nat} {e : Nat} {ft : Int32} (len : f 25 1 = nI l) (srt : f 25 2 = nI c) (st : f 25 3 = nI s) (en : f 25 4 = nI e) (flt : f 25 5 = ft) : cX f l c s e ft := ⟨len, srt, st, en, flt⟩
def frT (f f' : Nat → Nat → Int32) : Prop := ∀ q, q ≠ 25 → f' q = f q
theorem frT.rf : frT f f := fun _ _ => rfl
theorem frT.tr {f f' f2 : Nat → Nat → Int32} (h : frT f f') (h2 : frT f' f2) : frT f f2 := fun q hq => (h2 q hq).trans (h q hq)
theorem frT.u {k : Nat} {v : Int32} : frT f (ma_u2 f 25 k v) := fun _ hq => u2_ne hq
theorem c_step1 {flt : Int32} (hB : byC a B l) (hl : l ≤ 200) : ∀ (r i : Nat) (f : Nat → Nat → Int32), i + r = l → f 25 1 = nI l → f 25 3 = nI i → f 25 5 = flt → ∃ f', rn xs L 16 8 [vR 25] [] (mw f a g) = rn xs L 16 46 [vR 25] [] (mw f' a g) ∧ f' 25 1 = nI l ∧ f' 25 3 = nI (skp B r i) ∧ f' 25 5 = flt ∧ frT f f'
  | 0, i, f, hi, h1, h3, h5 => by
    refine ⟨f, ?_, h1, h3, h5, frT.rf⟩
    rw [b16_8, h1, h3, if_neg (by rw [nn_lt (by omega) (by omega)]; omega)]
  | r + 1, i, f, hi, h1, h3, h5 => by
    obtain ⟨hb, ha⟩ := hB i (by omega)
    have hin : ma_in (f 25 3) 200 = true := by rw [h3]; exact in_of (by omega) (by decide)
    have h32 : (sB (B i) = 32) ↔ B i = 32 := sB_eq (B i) hb 32 (by decide)
    rw [b16_8, h1, h3, if_pos (by rw [nn_lt (by omega) (by omega)]; omega), b16_19 hin, h3, nn_nat (by omega), ha]
    by_cases c : B i = 32
    · obtain ⟨f', e1, g1, g3, g5, gf⟩ := c_step1 (flt := flt) hB hl r (i + 1) (ma_u2 f 25 3 (nI (i + 1))) (by omega) (by rw [u2_at, if_neg (by omega)]; exact h1) (by rw [u2_at, if_pos ⟨rfl, rfl⟩]) (by rw [u2_at, if_neg (by omega)]; exact h5)
      refine ⟨f', ?_, g1, ?_, g5, frT.u.tr gf⟩
      · rw [if_pos (h32.mpr c), b16_33, h3, nn_add1]
        exact e1
      · rw [g3, skp, if_pos c]
    · refine ⟨f, ?_, h1, ?_, h5, frT.rf⟩
      · rw [if_neg (fun z => c (h32.mp z))]
      · rw [skp, if_neg c]; exact h3
theorem c_step2 {flt : Int32} {c s : Nat} (hB : byC a B l) (hl : l ≤ 200) (hc : c = 1 ∨ c = 2) : ∀ (r e : Nat) (f : Nat → Nat → Int32), e + r = l → cX f l c s e flt → ∃ f', rn xs L 16 84 [vR 25] [] (mw f a g) = some (none, mw f' a g) ∧ cX f' l c s (ext B l c r e) flt ∧ frT f f'
  | 0, e, f, he, h => by
    refine ⟨f, ?_, h, frT.rf⟩
    rw [b16_84, h.srt, if_neg (by rw [show (3 : Int32) = nI 3 from rfl, nn_eq (by omega) (by omega)]; omega), b16_92, h.en, h.len, if_neg (by rw [nn_lt (by omega) (by omega)]; omega), b16_131]
  | r + 1, e, f, he, h => by
    have hsi := srt_in (B := B) (l := l) e
    rw [b16_84, h.srt, if_neg (by rw [show (3 : Int32) = nI 3 from rfl, nn_eq (by omega) (by omega)]; omega), b16_92, h.en, h.len, if_pos (by rw [nn_lt (by omega) (by omega)]; omega), b16_103, h.en, c_sortAt hB hl h.len (by omega)]
    simp only [Option.bind_some, Option.toList_some, List.cons_append, List.nil_append]
    rw [b16_111, h.srt]
    by_cases q : srt B l e = c
    · obtain ⟨f', e1, h1, r1⟩ := c_step2 (flt := flt) (s := s) hB hl hc r (e + 1) (ma_u2 f 25 4 (nI (e + 1))) (by omega) (cX.mk (by rw [u2_at, if_neg (by omega)]; exact h.len) (by rw [u2_at, if_neg (by omega)]; exact h.srt) (by rw [u2_at, if_neg (by omega)]; exact h.st) (by rw [u2_at, if_pos ⟨rfl, rfl⟩]) (by rw [u2_at, if_neg (by omega)]; exact h.flt))
      refine ⟨f', ?_, ?_, frT.u.tr r1⟩
      · rw [if_pos (by rw [q]), b16_118, h.en, nn_add1]
        exact e1
      · rw [ext, if_pos q]; exact h1
    · refine ⟨f, ?_, ?_, frT.rf⟩
      · rw [if_neg (by rw [nn_eq (by omega) (by omega)]; exact q), b16_131]
      · rw [ext, if_neg q]; exact h
theorem c_step {flt : Int32} {p : Nat} (hB : byC a B l) (hl : l ≤ 200) (h1 : f 25 1 = nI l) (h4 : f 25 4 = nI p) (h5 : f 25 5 = flt) (hp : p ≤ l) : ∃ f', ev xs L 16 1 [vR 25] (mw f a g) = some (none, mw f' a g) ∧ cX f' l (sgm B l p) (stt B l p) (enn B l p) flt ∧ frT f f' := by
  have hst := stt_le (B := B) hp
  obtain ⟨f1, e1, g1, g3, g5, r1⟩ := c_step1 (xs := xs) (L := L) (g := g) (flt := flt) hB hl (l - p) p (ma_u2 f 25 3 (nI p)) (by omega) (by rw [u2_at, if_neg (by omega)]; exact h1) (by rw [u2_at, if_pos ⟨rfl, rfl⟩]) (by rw [u2_at, if_neg (by omega)]; exact h5)
  have g3' : f1 25 3 = nI (stt B l p) := g3
  have k3 : ma_u2 f1 25 4 (f1 25 3) 25 3 = nI (stt B l p) := by rw [u2_at, if_neg (by omega)]; exact g3'
  have k1 : ma_u2 f1 25 4 (f1 25 3) 25 1 = nI l := by rw [u2_at, if_neg (by omega)]; exact g1
  have hs0 : rn xs L 16 0 [vR 25] [] (mw f a g) = rn xs L 16 63 [vR 25] [vI (nI (sgm B l p)), vR 25] (mw (ma_u2 f1 25 4 (f1 25 3)) a g) := by
    rw [b16_0, h4, e1, b16_46, k3, c_sortAt hB hl k1 (by omega)]
    simp only [Option.bind_some, Option.toList_some, List.cons_append, List.nil_append]
    rfl
  have hX : cX (ma_u2 (ma_u2 f1 25 4 (f1 25 3)) 25 2 (nI (sgm B l p))) l (sgm B l p) (stt B l p) (stt B l p) flt := by
    refine cX.mk ?_ ?_ ?_ ?_ ?_
    · rw [u2_at, if_neg (by omega)]; exact k1
    · rw [u2_at, if_pos ⟨rfl, rfl⟩]
    · rw [u2_at, if_neg (by omega)]; exact k3
    · rw [u2_at, if_neg (by omega), u2_at, if_pos ⟨rfl, rfl⟩]; exact g3'
    · rw [u2_at, if_neg (by omega), u2_at, if_neg (by omega)]; exact g5
  have rX : frT f (ma_u2 (ma_u2 f1 25 4 (f1 25 3)) 25 2 (nI (sgm B l p))) := (frT.u.tr r1).tr (frT.u.tr frT.u)
  have hsi : sgm B l p = 0 ∨ sgm B l p = 1 ∨ sgm B l p = 2 ∨ sgm B l p = 3 := srt_in _
  show ∃ f', rn xs L 16 0 [vR 25] [] (mw f a g) = _ ∧ _
  rw [hs0, b16_63, hX.srt]
  by_cases z0 : sgm B l p = 0
  · refine ⟨ma_u2 (ma_u2 f1 25 4 (f1 25 3)) 25 2 (nI (sgm B l p)), ?_, ?_, rX⟩
    · rw [if_pos (by rw [z0]; rfl), b16_73]
    · unfold enn
      rw [if_pos z0]
      exact hX
  · have hlt := srt_lt (B := B) (l := l) (i := stt B l p) z0
    have hX2 : cX (ma_u2 (ma_u2 (ma_u2 f1 25 4 (f1 25 3)) 25 2 (nI (sgm B l p))) 25 4 (nI (stt B l p + 1))) l (sgm B l p) (stt B l p) (stt B l p + 1) flt := by
      refine cX.mk ?_ ?_ ?_ ?_ ?_
      · rw [u2_at, if_neg (by omega)]; exact hX.len
      · rw [u2_at, if_neg (by omega)]; exact hX.srt
      · rw [u2_at, if_neg (by omega)]; exact hX.st
      · rw [u2_at, if_pos ⟨rfl, rfl⟩]
      · rw [u2_at, if_neg (by omega)]; exact hX.flt
    rw [if_neg (nI_ne0 (by omega) (by omega)), b16_74, hX.en, nn_add1]
    by_cases z3 : sgm B l p = 3
    · refine ⟨ma_u2 (ma_u2 (ma_u2 f1 25 4 (f1 25 3)) 25 2 (nI (sgm B l p))) 25 4 (nI (stt B l p + 1)), ?_, ?_, rX.tr frT.u⟩
      · rw [b16_84, hX2.srt, if_pos (by rw [z3]; rfl), b16_131]
      · unfold enn
        rw [if_neg z0, if_pos z3]
        exact hX2
    · obtain ⟨f2, e2, h2, r2⟩ := c_step2 (xs := xs) (L := L) (g := g) (flt := flt) (s := stt B l p) hB hl (show sgm B l p = 1 ∨ sgm B l p = 2 by omega) (l - (stt B l p + 1)) (stt B l p + 1) _ (by omega) hX2
      refine ⟨f2, e2, ?_, (rX.tr frT.u).tr r2⟩
      unfold enn
      rw [if_neg z0, if_neg z3]
      exact h2
end S86b
