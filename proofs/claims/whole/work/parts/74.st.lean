/-! ===== the whole state of both sides ===== -/
def sB (b : Nat) : Int32 := (nI b).toInt8.toInt32
def KEPT (f a : Nat → Nat → Int32) : Prop := f 0 3 = f 44 4 ∧ (f 44 4 = 0 ∨ (f 44 4 = 1 ∧ ∃ S n, WF S n ∧ isT 17 f a S n 0 ∧ isM a 46 S))
def TAPE (f a : Nat → Nat → Int32) : Prop := ∃ l, l ≤ 200 ∧ f 25 1 = nI l ∧ f 44 6 = nI l ∧ ∀ i, i < l → ∃ b, b < 256 ∧ a 49 i = nI b ∧ a 26 i = sB b
def ROWS (f a : Nat → Nat → Int32) : Prop := ∃ r, r ≤ 10 ∧ f 0 6 = nI r ∧ f 44 14 = nI r ∧ ∀ i, i < 30 → a 27 i = a 51 i
def SHT (f a : Nat → Nat → Int32) (g : Nat → Nat → Int64) (q : Nat) : Prop := (f (32 + 2 * q) 1 = -1 ∧ a 52 q = -1) ∨ ∃ s l, s < 4 ∧ l ≤ 40 ∧ f (32 + 2 * q) 1 = nI s ∧ a 52 q = nI s ∧ f (32 + 2 * q) 2 = nI l ∧ a 53 q = nI l ∧ ∀ i, i < 40 → g (32 + 2 * q + 1) i = (a 54 (40 * q + i)).toInt64
def SHL (f a : Nat → Nat → Int32) (h : Nat) : Prop := (f (40 + h) 0 = 2 ∧ a 55 h = 0) ∨ (∃ o, o < 8 ∧ f (40 + h) 0 = 0 ∧ a 55 h = 1 ∧ f (40 + h) 1 = nI o ∧ a 56 h = nI o) ∨ (∃ s, s < 4 ∧ f (40 + h) 0 = 1 ∧ a 55 h = 2 ∧ f (40 + h) 2 = nI s ∧ a 56 h = nI s ∧ f (40 + h) 1 = a 57 h)
def ACTS (f a : Nat → Nat → Int32) : Prop := ∃ r, r ≤ 30 ∧ f 30 4 = nI r ∧ f 44 22 = nI r ∧ ∀ i, i < r → a 31 i = a 58 i
def ST (f : Nat → Nat → Int32) (a : Nat → Nat → Int32) (g : Nat → Nat → Int64) : Prop := (∃ S n, WF S n ∧ isT 1 f a S n 0 ∧ isM a 45 S) ∧ (KEPT f a) ∧ (TAPE f a) ∧ (ROWS f a) ∧ (∀ q, q < 4 → SHT f a g q) ∧ (∀ h, h < 4 → SHL f a h) ∧ (ACTS f a)
theorem ST.tree {f : Nat → Nat → Int32} {a : Nat → Nat → Int32} {g : Nat → Nat → Int64} (h : ST f a g) : ∃ S n, WF S n ∧ isT 1 f a S n 0 ∧ isM a 45 S := h.1
theorem ST.kept {f : Nat → Nat → Int32} {a : Nat → Nat → Int32} {g : Nat → Nat → Int64} (h : ST f a g) : KEPT f a := h.2.1
theorem ST.tape {f : Nat → Nat → Int32} {a : Nat → Nat → Int32} {g : Nat → Nat → Int64} (h : ST f a g) : TAPE f a := h.2.2.1
theorem ST.rows {f : Nat → Nat → Int32} {a : Nat → Nat → Int32} {g : Nat → Nat → Int64} (h : ST f a g) : ROWS f a := h.2.2.2.1
theorem ST.shts {f : Nat → Nat → Int32} {a : Nat → Nat → Int32} {g : Nat → Nat → Int64} (h : ST f a g) : ∀ q, q < 4 → SHT f a g q := h.2.2.2.2.1
theorem ST.shls {f : Nat → Nat → Int32} {a : Nat → Nat → Int32} {g : Nat → Nat → Int64} (h : ST f a g) : ∀ h, h < 4 → SHL f a h := h.2.2.2.2.2.1
theorem ST.acts {f : Nat → Nat → Int32} {a : Nat → Nat → Int32} {g : Nat → Nat → Int64} (h : ST f a g) : ACTS f a := h.2.2.2.2.2.2
theorem ST.mk {f : Nat → Nat → Int32} {a : Nat → Nat → Int32} {g : Nat → Nat → Int64} (tree : ∃ S n, WF S n ∧ isT 1 f a S n 0 ∧ isM a 45 S) (kept : KEPT f a) (tape : TAPE f a) (rows : ROWS f a) (shts : ∀ q, q < 4 → SHT f a g q) (shls : ∀ h, h < 4 → SHL f a h) (acts : ACTS f a) : ST f a g := ⟨tree, kept, tape, rows, shts, shls, acts⟩
section S74
variable {f a f' a' : Nat → Nat → Int32} {g g' : Nat → Nat → Int64}
theorem KEPT.of (h : KEPT f a) (e0 : f' 0 3 = f 0 3) (e1 : f' 44 4 = f 44 4) (eT : ∀ q, 17 ≤ q → q < 25 → f' q = f q ∧ a' q = a q) (e46 : a' 46 = a 46) : KEPT f' a' := by
  obtain ⟨h1, h2⟩ := h
  refine ⟨by rw [e0, e1]; exact h1, ?_⟩
  rw [e1]
  rcases h2 with h2 | ⟨h2, S, n, W, hT, hM⟩
  · exact Or.inl h2
  · exact Or.inr ⟨h2, S, n, W, hT.keep (fun q h3 h4 => eT q h3 (by omega)), hM.of e46⟩
theorem TAPE.of (h : TAPE f a) (e0 : f' 25 1 = f 25 1) (e1 : f' 44 6 = f 44 6) (e2 : a' 49 = a 49) (e3 : a' 26 = a 26) : TAPE f' a' := by
  obtain ⟨l, h1, h2, h3, h4⟩ := h
  exact ⟨l, h1, e0.trans h2, e1.trans h3, fun i hi => by rw [e2, e3]; exact h4 i hi⟩
theorem ROWS.of (h : ROWS f a) (e0 : f' 0 6 = f 0 6) (e1 : f' 44 14 = f 44 14) (e2 : a' 27 = a 27) (e3 : a' 51 = a 51) : ROWS f' a' := by
  obtain ⟨l, h1, h2, h3, h4⟩ := h
  exact ⟨l, h1, e0.trans h2, e1.trans h3, fun i hi => by rw [e2, e3]; exact h4 i hi⟩
theorem SHT.of {q : Nat} (h : SHT f a g q) (e0 : f' (32 + 2 * q) = f (32 + 2 * q)) (e1 : a' 52 q = a 52 q) (e2 : a' 53 q = a 53 q) (e3 : ∀ i, i < 40 → a' 54 (40 * q + i) = a 54 (40 * q + i)) (e4 : g' (32 + 2 * q + 1) = g (32 + 2 * q + 1)) : SHT f' a' g' q := by
  rcases h with ⟨h1, h2⟩ | ⟨s, l, h1, h2, h3, h4, h5, h6, h7⟩
  · exact Or.inl ⟨by rw [e0]; exact h1, by rw [e1]; exact h2⟩
  · exact Or.inr ⟨s, l, h1, h2, by rw [e0]; exact h3, by rw [e1]; exact h4, by rw [e0]; exact h5, by rw [e2]; exact h6, fun i hi => by rw [e4, e3 i hi]; exact h7 i hi⟩
theorem SHL.of {q : Nat} (h : SHL f a q) (e0 : f' (40 + q) = f (40 + q)) (e1 : a' 55 q = a 55 q) (e2 : a' 56 q = a 56 q) (e3 : a' 57 q = a 57 q) : SHL f' a' q := by
  unfold SHL at h ⊢
  rw [e0, e1, e2, e3]
  exact h
theorem ACTS.of (h : ACTS f a) (e0 : f' 30 4 = f 30 4) (e1 : f' 44 22 = f 44 22) (e2 : a' 31 = a 31) (e3 : a' 58 = a 58) : ACTS f' a' := by
  obtain ⟨l, h1, h2, h3, h4⟩ := h
  exact ⟨l, h1, e0.trans h2, e1.trans h3, fun i hi => by rw [e2, e3]; exact h4 i hi⟩
/-- all but the tree -/
theorem ST.of (h : ST f a g) (ht : ∃ S n, WF S n ∧ isT 1 f' a' S n 0 ∧ isM a' 45 S) (ef : ∀ q, q = 0 ∨ 17 ≤ q → f' q = f q) (ea : ∀ q, 17 ≤ q → q ≠ 45 → q ≠ 47 → q ≠ 48 → q ≠ 50 → a' q = a q) (eg : ∀ q, g' q = g q) : ST f' a' g' := by
  have e0 := ef 0 (by omega)
  have e44 := ef 44 (by omega)
  have e25 := ef 25 (by omega)
  have e30 := ef 30 (by omega)
  have ax : ∀ q, 17 ≤ q → q ≠ 45 → q ≠ 47 → q ≠ 48 → q ≠ 50 → a' q = a q := ea
  refine ST.mk ht (h.kept.of (by rw [e0]) (by rw [e44]) (fun q h1 h2 => ⟨ef q (by omega), ea q (by omega) (by omega) (by omega) (by omega) (by omega)⟩) (ea 46 (by decide) (by decide) (by decide) (by decide) (by decide))) (h.tape.of (by rw [e25]) (by rw [e44]) (ea 49 (by decide) (by decide) (by decide) (by decide) (by decide)) (ea 26 (by decide) (by decide) (by decide) (by decide) (by decide))) (h.rows.of (by rw [e0]) (by rw [e44]) (ea 27 (by decide) (by decide) (by decide) (by decide) (by decide)) (ea 51 (by decide) (by decide) (by decide) (by decide) (by decide))) (fun q hq => (h.shts q hq).of (ef _ (by omega)) (by rw [ea 52 (by decide) (by decide) (by decide) (by decide) (by decide)]) (by rw [ea 53 (by decide) (by decide) (by decide) (by decide) (by decide)]) (fun i hi => by rw [ea 54 (by decide) (by decide) (by decide) (by decide) (by decide)]) (eg _)) (fun q hq => (h.shls q hq).of (ef _ (by omega)) (by rw [ea 55 (by decide) (by decide) (by decide) (by decide) (by decide)]) (by rw [ea 56 (by decide) (by decide) (by decide) (by decide) (by decide)]) (by rw [ea 57 (by decide) (by decide) (by decide) (by decide) (by decide)])) (h.acts.of (by rw [e30]) (by rw [e44]) (ea 31 (by decide) (by decide) (by decide) (by decide) (by decide)) (ea 58 (by decide) (by decide) (by decide) (by decide) (by decide)))
end S74
/-- class method mc and model method mm answer alike, one behind the other, and the state holds on -/
def OPS (mc nc mm nm : Nat) (as : List ma_V) : Prop := ∀ (xs : Nat → Int32) (L : Nat) (f a : Nat → Nat → Int32) (g : Nat → Nat → Int64), ST f a g → ∃ (v : ma_V) (f1 a1 : Nat → Nat → Int32) (g1 : Nat → Nat → Int64) (f2 a2 : Nat → Nat → Int32) (g2 : Nat → Nat → Int64),
  ev xs L mc nc (vR 0 :: as) (mw f a g) = some (some v, mw f1 a1 g1) ∧ ev xs L mm nm (vR 44 :: as) (mw f1 a1 g1) = some (some v, mw f2 a2 g2) ∧ ST f2 a2 g2
theorem TOP.ops {mc nc mm nm : Nat} {as : List ma_V} (h : TOP mc nc mm nm as) : OPS mc nc mm nm as := by
  intro xs L f a g hs
  obtain ⟨S, n, W, hT, hM⟩ := hs.tree
  obtain ⟨v, S', n', W', hc, hm⟩ := h xs L S n W
  obtain ⟨f1, a1, e1, hT1, hs1⟩ := hc f a g hT
  have x45 : a1 45 = a 45 := (hs1 45 (Or.inr (by decide))).2.1
  obtain ⟨a2, e2, hM2, ha2⟩ := hm f1 a1 g (hM.of x45)
  have ef : ∀ q, q = 0 ∨ 17 ≤ q → f1 q = f q := fun q hq => (hs1 q (by omega)).1
  have ea : ∀ q, 17 ≤ q → q ≠ 45 → q ≠ 47 → q ≠ 48 → q ≠ 50 → a2 q = a q := fun q h0 h1 h2 h3 h4 => (ha2 q h1 h2 h3 h4).trans (hs1 q (Or.inr h0)).2.1
  refine ⟨v, f1, a1, g, f1, a2, g, e1, e2, hs.of ⟨S', n', W', hT1.keep (fun q h1 h2 => ⟨rfl, ha2 q (by omega) (by omega) (by omega) (by omega)⟩), hM2⟩ ef ea (fun _ => rfl)⟩
/-- calls that change nothing but what is tried -/
theorem OPS.rd {mc nc mm nm : Nat} {as : List ma_V} (h : ∀ (xs : Nat → Int32) (L : Nat) (f a : Nat → Nat → Int32) (g : Nat → Nat → Int64), ST f a g → ∃ v, ev xs L mc nc (vR 0 :: as) (mw f a g) = some (some v, mw f a g) ∧ ev xs L mm nm (vR 44 :: as) (mw f a g) = some (some v, mw f a g)) : OPS mc nc mm nm as := by
  intro xs L f a g hs
  obtain ⟨v, h1, h2⟩ := h xs L f a g hs
  exact ⟨v, f, a, g, f, a, g, h1, h2, hs⟩
