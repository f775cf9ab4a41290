/-! ===== the model's reader: tokens ===== -/
def bt (B : Nat → Nat) (l i : Nat) : Int32 := if i < l then nI (B i) else -1
def mX (f : Nat → Nat → Int32) (l : Nat) (c : Nat) (s : Nat) (e : Nat) (v : Nat) (w : Int32) : Prop := (f 44 6 = nI l) ∧ (f 44 7 = nI c) ∧ (f 44 8 = nI s) ∧ (f 44 9 = nI e) ∧ (f 44 10 = nI v) ∧ (f 44 11 = w)
theorem mX.len {f : Nat → Nat → Int32} {l : Nat} {c : Nat} {s : Nat} {e : Nat} {v : Nat} {w : Int32} (h : mX f l c s e v w) : f 44 6 = nI l := h.1
theorem mX.srt {f : Nat → Nat → Int32} {l : Nat} {c : Nat} {s : Nat} {e : Nat} {v : Nat} {w : Int32} (h : mX f l c s e v w) : f 44 7 = nI c := h.2.1
theorem mX.st {f : Nat → Nat → Int32} {l : Nat} {c : Nat} {s : Nat} {e : Nat} {v : Nat} {w : Int32} (h : mX f l c s e v w) : f 44 8 = nI s := h.2.2.1
theorem mX.en {f : Nat → Nat → Int32} {l : Nat} {c : Nat} {s : Nat} {e : Nat} {v : Nat} {w : Int32} (h : mX f l c s e v w) : f 44 9 = nI e := h.2.2.2.1
theorem mX.val {f : Nat → Nat → Int32} {l : Nat} {c : Nat} {s : Nat} {e : Nat} {v : Nat} {w : Int32} (h : mX f l c s e v w) : f 44 10 = nI v := h.2.2.2.2.1
theorem mX.wr {f : Nat → Nat → Int32} {l : Nat} {c : Nat} {s : Nat} {e : Nat} {v : Nat} {w : Int32} (h : mX f l c s e v w) : f 44 11 = w := h.2.2.2.2.2
theorem mX.mk {f : Nat → Nat → Int32} {l : Nat} {c : Nat} {s : Nat} {e : Nat} {v : Nat} {w : Int32} (len : f 44 6 = nI l) (srt : f 44 7 = nI c) (st : f 44 8 = nI s) (en : f 44 9 = nI e) (val : f 44 10 = nI v) (wr : f 44 11 = w) : mX f l c s e v w := ⟨len, srt, st, en, val, wr⟩
def frX (f f' : Nat → Nat → Int32) : Prop := (∀ q, q ≠ 44 → f' q = f q) ∧ (∀ k, k < 7 ∨ 11 < k → f' 44 k = f 44 k)
theorem frX.rf {f : Nat → Nat → Int32} : frX f f := ⟨fun _ _ => rfl, fun _ _ => rfl⟩
theorem frX.tr {f f' f2 : Nat → Nat → Int32} (h : frX f f') (h2 : frX f' f2) : frX f f2 := ⟨fun q hq => (h2.1 q hq).trans (h.1 q hq), fun q hq => (h2.2 q hq).trans (h.2 q hq)⟩
theorem frX.u {f : Nat → Nat → Int32} {k : Nat} {v : Int32} (h : 7 ≤ k ∧ k ≤ 11) : frX f (ma_u2 f 44 k v) := ⟨fun _ hq => u2_ne hq, fun j hj => by rw [u2_at, if_neg (by omega)]⟩
section S88
variable {xs : Nat → Int32} {L : Nat} {f a : Nat → Nat → Int32} {g : Nat → Nat → Int64} {B : Nat → Nat} {l p : Nat}
theorem m_byteAt {i : Nat} (hB : byM a B l) (hl : l ≤ 200) (h6 : f 44 6 = nI l) (hi : i < 1000) : ev xs L 119 2 [vR 44, vI (nI i)] (mw f a g) = some (some (vI (bt B l i)), mw f a g) := by
  show rn xs L 119 0 [vR 44, vI (nI i)] [] (mw f a g) = _
  unfold bt
  rw [b119_0, h6]
  by_cases h : i < l
  · have hin : ma_in (nI i) 200 = true := in_of (by omega) (by decide)
    rw [if_pos ((nn_lt (by omega) (by omega)).mpr h), b119_8 _ hin, nn_nat (by omega), (hB i h).2, if_pos h]
  · rw [if_neg (fun z => h ((nn_lt (by omega) (by omega)).mp z)), b119_17, if_neg h]
theorem m_alpha {i : Nat} (hB : byM a B l) : ev xs L 120 1 [vI (bt B l i)] (mw f a g) = some (some (vI (bI (decide (srt B l i = 1)))), mw f a g) := by
  show rn xs L 120 0 [vI (bt B l i)] [] (mw f a g) = _
  unfold bt srt
  by_cases h : i < l
  · have hb := (hB i h).1
    rw [if_pos h, if_pos h, b120_0]
    unfold srtB
    by_cases c1 : B i < 97
    · rw [if_pos (by rw [show (97 : Int32) = nI 97 from rfl, nn_lt (by omega) (by omega)]; exact c1), b120_16, if_neg (by omega)]
      by_cases c2 : 48 ≤ B i ∧ B i ≤ 57
      · rw [if_pos c2]; rfl
      · rw [if_neg c2]; rfl
    · rw [if_neg (by rw [show (97 : Int32) = nI 97 from rfl, nn_lt (by omega) (by omega)]; exact c1), b120_6]
      by_cases c2 : 122 < B i
      · rw [if_pos (by rw [show (122 : Int32) = nI 122 from rfl, nn_lt (by omega) (by omega)]; exact c2), b120_16, if_neg (by omega), if_neg (by omega)]
        rfl
      · rw [if_neg (by rw [show (122 : Int32) = nI 122 from rfl, nn_lt (by omega) (by omega)]; exact c2), b120_12, if_pos (by omega)]
        rfl
  · rw [if_neg h, if_neg h, b120_0, if_pos (by decide), b120_16]
    rfl
theorem m_digit {i : Nat} (hB : byM a B l) : ev xs L 121 1 [vI (bt B l i)] (mw f a g) = some (some (vI (bI (decide (srt B l i = 2)))), mw f a g) := by
  show rn xs L 121 0 [vI (bt B l i)] [] (mw f a g) = _
  unfold bt srt
  by_cases h : i < l
  · have hb := (hB i h).1
    rw [if_pos h, if_pos h, b121_0]
    unfold srtB
    by_cases c1 : B i < 48
    · rw [if_pos (by rw [show (48 : Int32) = nI 48 from rfl, nn_lt (by omega) (by omega)]; exact c1), b121_16, if_neg (by omega), if_neg (by omega)]
      rfl
    · rw [if_neg (by rw [show (48 : Int32) = nI 48 from rfl, nn_lt (by omega) (by omega)]; exact c1), b121_6]
      by_cases c2 : 57 < B i
      · rw [if_pos (by rw [show (57 : Int32) = nI 57 from rfl, nn_lt (by omega) (by omega)]; exact c2), b121_16]
        by_cases c3 : 97 ≤ B i ∧ B i ≤ 122
        · rw [if_pos c3]; rfl
        · rw [if_neg c3, if_neg (by omega)]; rfl
      · rw [if_neg (by rw [show (57 : Int32) = nI 57 from rfl, nn_lt (by omega) (by omega)]; exact c2), b121_12, if_neg (by omega), if_pos (by omega)]
        rfl
  · rw [if_neg h, if_neg h, b121_0, if_pos (by decide), b121_16]
    rfl
theorem m_step1 {w : Int32} {l1 : ma_V} (hB : byM a B l) (hl : l ≤ 200) : ∀ (r i : Nat) (f : Nat → Nat → Int32), i + r = l → f 44 6 = nI l → f 44 8 = nI i → f 44 11 = w → ∃ f', rn xs L 118 8 [vR 44, l1] [] (mw f a g) = rn xs L 118 34 [vR 44, l1] [] (mw f' a g) ∧ f' 44 6 = nI l ∧ f' 44 8 = nI (skp B r i) ∧ f' 44 11 = w ∧ frX f f'
  | 0, i, f, hi, h1, h3, h5 => by
    refine ⟨f, ?_, h1, h3, h5, frX.rf⟩
    have hb : bt B l i = -1 := by unfold bt; rw [if_neg (by omega)]
    rw [b118_8, h3, m_byteAt hB hl h1 (by omega), hb]
    simp only [Option.bind_some, Option.toList_some, List.cons_append, List.nil_append]
    rw [b118_16, if_neg (by decide)]
  | r + 1, i, f, hi, h1, h3, h5 => by
    have hb0 := (hB i (by omega)).1
    have hb : bt B l i = nI (B i) := by unfold bt; rw [if_pos (by omega)]
    have h32 : (nI (B i) = 32) ↔ B i = 32 := by rw [show (32 : Int32) = nI 32 from rfl, nn_eq (by omega) (by omega)]
    rw [b118_8, h3, m_byteAt hB hl h1 (by omega), hb]
    simp only [Option.bind_some, Option.toList_some, List.cons_append, List.nil_append]
    rw [b118_16]
    by_cases c : B i = 32
    · obtain ⟨f', e1, g1, g3, g5, gf⟩ := m_step1 (w := w) hB hl r (i + 1) (ma_u2 f 44 8 (nI (i + 1))) (by omega) (by rw [u2_at, if_neg (by omega)]; exact h1) (by rw [u2_at, if_pos ⟨rfl, rfl⟩]) (by rw [u2_at, if_neg (by omega)]; exact h5)
      refine ⟨f', ?_, g1, ?_, g5, (frX.u (by omega)).tr gf⟩
      · rw [if_pos (h32.mpr c), b118_21, h3, nn_add1]
        exact e1
      · rw [g3, skp, if_pos c]
    · refine ⟨f, ?_, h1, ?_, h5, frX.rf⟩
      · rw [if_neg (fun z => c (h32.mp z))]
      · rw [skp, if_neg c]; exact h3
theorem mX.en' {c s e e2 v : Nat} {w : Int32} (h : mX f l c s e v w) : mX (ma_u2 f 44 9 (nI e2)) l c s e2 v w :=
  mX.mk (by rw [u2_at, if_neg (by omega)]; exact h.len) (by rw [u2_at, if_neg (by omega)]; exact h.srt) (by rw [u2_at, if_neg (by omega)]; exact h.st) (by rw [u2_at, if_pos ⟨rfl, rfl⟩]) (by rw [u2_at, if_neg (by omega)]; exact h.val) (by rw [u2_at, if_neg (by omega)]; exact h.wr)
theorem mX.val' {c s e v v2 : Nat} {w : Int32} (h : mX f l c s e v w) : mX (ma_u2 f 44 10 (nI v2)) l c s e v2 w :=
  mX.mk (by rw [u2_at, if_neg (by omega)]; exact h.len) (by rw [u2_at, if_neg (by omega)]; exact h.srt) (by rw [u2_at, if_neg (by omega)]; exact h.st) (by rw [u2_at, if_neg (by omega)]; exact h.en) (by rw [u2_at, if_pos ⟨rfl, rfl⟩]) (by rw [u2_at, if_neg (by omega)]; exact h.wr)
theorem mX.wr' {c s e v : Nat} {w w2 : Int32} (h : mX f l c s e v w) : mX (ma_u2 f 44 11 w2) l c s e v w2 :=
  mX.mk (by rw [u2_at, if_neg (by omega)]; exact h.len) (by rw [u2_at, if_neg (by omega)]; exact h.srt) (by rw [u2_at, if_neg (by omega)]; exact h.st) (by rw [u2_at, if_neg (by omega)]; exact h.en) (by rw [u2_at, if_neg (by omega)]; exact h.val) (by rw [u2_at, if_pos ⟨rfl, rfl⟩])
/-- letters -/
theorem m_step2 {s v : Nat} {w : Int32} {l1 : Int32} (hB : byM a B l) (hl : l ≤ 200) : ∀ (r e : Nat) (f : Nat → Nat → Int32), e + r = l → mX f l 1 s e v w → ∃ f', rn xs L 118 91 [vR 44, vI l1] [] (mw f a g) = rn xs L 118 126 [vR 44, vI l1] [] (mw f' a g) ∧ mX f' l 1 s (ext B l 1 r e) v w ∧ frX f f'
  | 0, e, f, he, h => by
    refine ⟨f, ?_, h, frX.rf⟩
    have hsr : srt B l e = 0 := by unfold srt; rw [if_neg (by omega)]
    rw [b118_91, h.srt, if_pos (show nI 1 = 1 from rfl), b118_99, h.en, m_byteAt hB hl h.len (by omega)]
    simp only [Option.bind_some, Option.toList_some, List.cons_append, List.nil_append]
    rw [b118_107, m_alpha hB, hsr]
    simp only [Option.bind_some, Option.toList_some, List.cons_append, List.nil_append]
    rw [b118_110, if_pos (by decide)]
  | r + 1, e, f, he, h => by
    rw [b118_91, h.srt, if_pos (show nI 1 = 1 from rfl), b118_99, h.en, m_byteAt hB hl h.len (by omega)]
    simp only [Option.bind_some, Option.toList_some, List.cons_append, List.nil_append]
    rw [b118_107, m_alpha hB]
    simp only [Option.bind_some, Option.toList_some, List.cons_append, List.nil_append]
    rw [b118_110]
    by_cases q : srt B l e = 1
    · obtain ⟨f', e1, h1, r1⟩ := m_step2 (s := s) (v := v) (w := w) (l1 := l1) hB hl r (e + 1) (ma_u2 f 44 9 (nI (e + 1))) (by omega) h.en'
      refine ⟨f', ?_, ?_, (frX.u (by omega)).tr r1⟩
      · rw [decide_eq_true q, if_neg (by decide), b118_113, h.en, nn_add1]
        exact e1
      · rw [ext, if_pos q]; exact h1
    · refine ⟨f, ?_, ?_, frX.rf⟩
      · rw [decide_eq_false q, if_pos (by decide)]
      · rw [ext, if_neg q]; exact h
/-- digits -/
theorem m_step3 {s : Nat} {w : Int32} {l1 : Int32} (hB : byM a B l) (hl : l ≤ 200) : ∀ (r e v : Nat) (f : Nat → Nat → Int32), e + r = l → v ≤ 9999 → mX f l 2 s e v w → ∃ f', rn xs L 118 126 [vR 44, vI l1] [] (mw f a g) = rn xs L 118 201 [vR 44, vI l1] [] (mw f' a g) ∧ mX f' l 2 s (ext B l 2 r e) (vC B (ext B l 2 r e - e) e v) w ∧ frX f f'
  | 0, e, v, f, he, hv, h => by
    have hx : ext B l 2 0 e = e := rfl
    refine ⟨f, ?_, ?_, frX.rf⟩
    · have hsr : srt B l e = 0 := by unfold srt; rw [if_neg (by omega)]
      rw [b118_126, h.srt, if_pos (show nI 2 = 2 from rfl), b118_134, h.en, m_byteAt hB hl h.len (by omega)]
      simp only [Option.bind_some, Option.toList_some, List.cons_append, List.nil_append]
      rw [b118_142, m_digit hB, hsr]
      simp only [Option.bind_some, Option.toList_some, List.cons_append, List.nil_append]
      rw [b118_145, if_pos (by decide)]
    · rw [hx, Nat.sub_self]; exact h
  | r + 1, e, v, f, he, hv, h => by
    have hbt : bt B l e = nI (B e) := by unfold bt; rw [if_pos (by omega)]
    rw [b118_126, h.srt, if_pos (show nI 2 = 2 from rfl), b118_134, h.en, m_byteAt hB hl h.len (by omega)]
    simp only [Option.bind_some, Option.toList_some, List.cons_append, List.nil_append]
    rw [b118_142, m_digit hB]
    simp only [Option.bind_some, Option.toList_some, List.cons_append, List.nil_append]
    rw [b118_145]
    by_cases q : srt B l e = 2
    · have hd := srt_2 q
      have hx : ext B l 2 (r + 1) e = ext B l 2 r (e + 1) := by rw [ext, if_pos q]
      have hge := (ext_le (B := B) (l := l) (c := 2) r (e + 1)).1
      have hvc : vC B (ext B l 2 (r + 1) e - e) e v = vC B (ext B l 2 r (e + 1) - (e + 1)) (e + 1) (if 999 < v then v else 10 * v + B e - 48) := by
        rw [hx, show ext B l 2 r (e + 1) - e = (ext B l 2 r (e + 1) - (e + 1)) + 1 by omega]
        rfl
      rw [hvc, hx, decide_eq_true q, if_neg (by decide), b118_148, h.val]
      by_cases hc : 999 < v
      · obtain ⟨f', e1, h1, r1⟩ := m_step3 (s := s) (w := w) (l1 := l1) hB hl r (e + 1) v (ma_u2 (ma_u2 f 44 10 (nI v)) 44 9 (nI (e + 1))) (by omega) hv (h.val' (v2 := v)).en'
        refine ⟨f', ?_, ?_, ((frX.u (by omega)).tr (frX.u (by omega))).tr r1⟩
        · rw [if_pos (by rw [show (999 : Int32) = nI 999 from rfl, nn_lt (by omega) (by omega)]; exact hc), b118_159, h.val, (h.val' (v2 := v)).en, nn_add1]
          exact e1
        · rw [if_pos hc]; exact h1
      · have hnv : (10 : Int32) * nI v + nI (B e) - 48 = nI (10 * v + B e - 48) := by
          rw [show (10 : Int32) = nI 10 from rfl, show (48 : Int32) = nI 48 from rfl, nn_mul, nn_add, pk_sub (by omega)]
        obtain ⟨f', e1, h1, r1⟩ := m_step3 (s := s) (w := w) (l1 := l1) hB hl r (e + 1) (10 * v + B e - 48) (ma_u2 (ma_u2 f 44 10 (nI (10 * v + B e - 48))) 44 9 (nI (e + 1))) (by omega) (by omega) (h.val' (v2 := 10 * v + B e - 48)).en'
        refine ⟨f', ?_, ?_, ((frX.u (by omega)).tr (frX.u (by omega))).tr r1⟩
        · rw [if_neg (by rw [show (999 : Int32) = nI 999 from rfl, nn_lt (by omega) (by omega)]; exact hc), b118_166, h.en, h.val, m_byteAt hB hl h.len (by omega), hbt]
          simp only [Option.bind_some, Option.toList_some, List.cons_append, List.nil_append]
          rw [b118_181, hnv, (h.val' (v2 := 10 * v + B e - 48)).en, nn_add1]
          exact e1
        · rw [if_neg hc]; exact h1
    · have hx : ext B l 2 (r + 1) e = e := by rw [ext, if_neg q]
      refine ⟨f, ?_, ?_, frX.rf⟩
      · rw [decide_eq_false q, if_pos (by decide)]
      · rw [hx, Nat.sub_self]; exact h
def mS (f : Nat → Nat → Int32) (B : Nat → Nat) (l p : Nat) (w : Int32) : Prop := mX f l (sgm B l p) (stt B l p) (enn B l p) (vll B l p) w
theorem m_step {w : Int32} (hB : byM a B l) (hl : l ≤ 200) (h6 : f 44 6 = nI l) (h9 : f 44 9 = nI p) (h11 : f 44 11 = w) (hp : p ≤ l) : ∃ f', ev xs L 118 2 [vR 44] (mw f a g) = some (none, mw f' a g) ∧ mS f' B l p w ∧ frX f f' := by
  have hst := stt_le (B := B) hp
  obtain ⟨f1, e1, g6, g8, g11, r1⟩ := m_step1 (xs := xs) (L := L) (g := g) (w := w) (l1 := vS 0) hB hl (l - p) p (ma_u2 f 44 8 (nI p)) (by omega) (by rw [u2_at, if_neg (by omega)]; exact h6) (by rw [u2_at, if_pos ⟨rfl, rfl⟩]) (by rw [u2_at, if_neg (by omega)]; exact h11)
  have g8' : f1 44 8 = nI (stt B l p) := g8
  have k8 : ma_u2 f1 44 9 (f1 44 8) 44 8 = nI (stt B l p) := by rw [u2_at, if_neg (by omega)]; exact g8'
  have k6 : ma_u2 f1 44 9 (f1 44 8) 44 6 = nI l := by rw [u2_at, if_neg (by omega)]; exact g6
  have r2 : frX f (ma_u2 f1 44 9 (f1 44 8)) := ((frX.u (by omega)).tr r1).tr (frX.u (by omega))
  have hs0 : rn xs L 118 0 [vR 44, vS 0] [] (mw f a g) = rn xs L 118 50 [vR 44, vS 0] [vI (bt B l (stt B l p))] (mw (ma_u2 f1 44 9 (f1 44 8)) a g) := by
    rw [b118_0, h9, e1, b118_34, k8, m_byteAt hB hl k6 (by omega)]
    simp only [Option.bind_some, Option.toList_some, List.cons_append, List.nil_append]
  have mk : ∀ c : Nat, mX (ma_u2 (ma_u2 (ma_u2 f1 44 9 (f1 44 8)) 44 7 (nI c)) 44 10 0) l c (stt B l p) (stt B l p) 0 w := fun c =>
    mX.mk (by rw [u2_at, if_neg (by omega), u2_at, if_neg (by omega)]; exact k6) (by rw [u2_at, if_neg (by omega), u2_at, if_pos ⟨rfl, rfl⟩]) (by rw [u2_at, if_neg (by omega), u2_at, if_neg (by omega)]; exact k8) (by rw [u2_at, if_neg (by omega), u2_at, if_neg (by omega), u2_at, if_pos ⟨rfl, rfl⟩]; exact g8') (by rw [u2_at, if_pos ⟨rfl, rfl⟩]; rfl) (by rw [u2_at, if_neg (by omega), u2_at, if_neg (by omega), u2_at, if_neg (by omega)]; exact g11)
  have rmk : ∀ c : Nat, frX f (ma_u2 (ma_u2 (ma_u2 f1 44 9 (f1 44 8)) 44 7 (nI c)) 44 10 0) := fun c => (r2.tr (frX.u (by omega))).tr (frX.u (by omega))
  have fin : ∀ (f3 : Nat → Nat → Int32) (l1 : Int32) (c e v : Nat), c ≤ 2 → mX f3 l c (stt B l p) e v w → ∃ f', rn xs L 118 201 [vR 44, vI l1] [] (mw f3 a g) = some (none, mw f' a g) ∧ mX f' l c (stt B l p) e v w ∧ frX f3 f' := by
    intro f3 l1 c e v hc h3
    refine ⟨ma_u2 f3 44 9 (nI e), ?_, h3.en', frX.u (by omega)⟩
    rw [b118_201, h3.srt, if_neg (by rw [show (2 : Int32) = nI 2 from rfl, nn_lt (by omega) (by omega)]; omega), h3.en, b118_218, Int32.add_zero]
  show ∃ f', rn xs L 118 0 [vR 44, vS 0] [] (mw f a g) = _ ∧ _
  rw [hs0, b118_50]
  have hsi : sgm B l p = 0 ∨ sgm B l p = 1 ∨ sgm B l p = 2 ∨ sgm B l p = 3 := srt_in _
  by_cases z0 : sgm B l p = 0
  · have hlt : ¬ stt B l p < l := fun q => by
      have : sgm B l p = srtB (B (stt B l p)) := by unfold sgm srt; rw [if_pos q]
      have := srtB_in (B (stt B l p))
      omega
    have hb : bt B l (stt B l p) = -1 := by unfold bt; rw [if_neg hlt]
    have h3 := mk 0
    obtain ⟨f4, e4, h4, r4⟩ := fin _ (-1) 0 _ _ (by omega) h3
    have hs : mS f4 B l p w := by
      unfold mS enn vll
      rw [z0, if_pos rfl, if_neg (by decide)]
      exact h4
    refine ⟨f4, ?_, hs, (rmk 0).tr r4⟩
    rw [hb, if_pos (by decide), b118_56]
    have e5 : rn xs L 118 91 [vR 44, vI (-1)] [] (mw (ma_u2 (ma_u2 (ma_u2 f1 44 9 (f1 44 8)) 44 7 (nI 0)) 44 10 0) a g) = some (none, mw f4 a g) := by
      rw [b118_91, h3.srt, if_neg (by decide), b118_126, h3.srt, if_neg (by decide)]
      exact e4
    exact e5
  · have hlt := srt_lt (B := B) (l := l) (i := stt B l p) z0
    have hb0 := (hB _ hlt).1
    have hb : bt B l (stt B l p) = nI (B (stt B l p)) := by unfold bt; rw [if_pos hlt]
    have hsg : srt B l (stt B l p) = sgm B l p := rfl
    have hA := m_alpha (xs := xs) (L := L) (f := ma_u2 f1 44 9 (f1 44 8)) (g := g) (i := stt B l p) hB
    have hD := m_digit (xs := xs) (L := L) (f := ma_u2 f1 44 9 (f1 44 8)) (g := g) (i := stt B l p) hB
    rw [hb, hsg] at hA hD
    rw [hb, if_neg (nI_pos (by omega)), b118_60, hA]
    simp only [Option.bind_some, Option.toList_some, List.cons_append, List.nil_append]
    rw [b118_64]
    by_cases z1 : sgm B l p = 1
    · have h3 := mk 1
      obtain ⟨f4, e4, h4, r4⟩ := m_step2 (xs := xs) (L := L) (g := g) (l1 := nI (B (stt B l p))) hB hl (l - stt B l p) (stt B l p) _ (by omega) h3
      obtain ⟨f5, e5, h5, r5⟩ := fin f4 (nI (B (stt B l p))) 1 _ _ (by omega) h4
      refine ⟨f5, ?_, ?_, ((rmk 1).tr r4).tr r5⟩
      · rw [decide_eq_true z1, if_neg (by decide), b118_67]
        have e6 : rn xs L 118 91 [vR 44, vI (nI (B (stt B l p)))] [] (mw (ma_u2 (ma_u2 (ma_u2 f1 44 9 (f1 44 8)) 44 7 (nI 1)) 44 10 0) a g) = some (none, mw f5 a g) := by
          rw [e4, b118_126, h4.srt, if_neg (by decide)]
          exact e5
        exact e6
      · unfold mS enn vll
        rw [z1, if_neg (by decide), if_neg (by decide), if_neg (by decide), ← ext_one (by rw [hsg]; exact z1) hlt]
        exact h5
    · rw [decide_eq_false z1, if_pos (by decide), b118_71, hD]
      simp only [Option.bind_some, Option.toList_some, List.cons_append, List.nil_append]
      rw [b118_75]
      by_cases z2 : sgm B l p = 2
      · have h3 := mk 2
        obtain ⟨f4, e4, h4, r4⟩ := m_step3 (xs := xs) (L := L) (g := g) (l1 := nI (B (stt B l p))) hB hl (l - stt B l p) (stt B l p) 0 _ (by omega) (by omega) h3
        obtain ⟨f5, e5, h5, r5⟩ := fin f4 (nI (B (stt B l p))) 2 _ _ (by omega) h4
        refine ⟨f5, ?_, ?_, ((rmk 2).tr r4).tr r5⟩
        · rw [decide_eq_true z2, if_neg (by decide), b118_78]
          have e6 : rn xs L 118 91 [vR 44, vI (nI (B (stt B l p)))] [] (mw (ma_u2 (ma_u2 (ma_u2 f1 44 9 (f1 44 8)) 44 7 (nI 2)) 44 10 0) a g) = some (none, mw f5 a g) := by
            rw [b118_91, h3.srt, if_neg (by decide), e4]
            exact e5
          exact e6
        · have hen : enn B l p = ext B l 2 (l - stt B l p) (stt B l p) := by
            unfold enn
            rw [z2, if_neg (by decide), if_neg (by decide), ← ext_one (by rw [hsg]; exact z2) hlt]
          unfold mS vll
          rw [hen, z2, if_pos rfl]
          exact h5
      · have z3 : sgm B l p = 3 := by omega
        have h3 := mk 3
        refine ⟨ma_u2 (ma_u2 (ma_u2 (ma_u2 f1 44 9 (f1 44 8)) 44 7 (nI 3)) 44 10 0) 44 9 (nI (stt B l p + 1)), ?_, ?_, (rmk 3).tr (frX.u (by omega))⟩
        · rw [decide_eq_false z2, if_pos (by decide), b118_82]
          have e6 : rn xs L 118 91 [vR 44, vI (nI (B (stt B l p)))] [] (mw (ma_u2 (ma_u2 (ma_u2 f1 44 9 (f1 44 8)) 44 7 (nI 3)) 44 10 0) a g) = some (none, mw (ma_u2 (ma_u2 (ma_u2 (ma_u2 f1 44 9 (f1 44 8)) 44 7 (nI 3)) 44 10 0) 44 9 (nI (stt B l p + 1))) a g) := by
            rw [b118_91, h3.srt, if_neg (by decide), b118_126, h3.srt, if_neg (by decide), b118_201, h3.srt, if_pos (by decide), h3.en, b118_214, nn_add1]
          exact e6
        · unfold mS enn vll
          rw [z3, if_neg (by decide), if_pos rfl, if_neg (by decide)]
          exact h3.en'
end S88
