/-! ===== what the rows say: the document's words over a row of numbers ===== -/
abbrev Row := Nat → Int32
/-- of leaf i: kind 0, bough 1, hold 2, sign 3, hangs 4, as the how manyth 5 -/
def lf (S : Row) (i c : Nat) : Int32 := S (14 + 6 * i + c)
def hg (S : Row) (i : Nat) : Bool := decide (lf S i 4 = 1)
def hgB (S : Row) (b : Int32) (i : Nat) : Bool := decide (lf S i 4 = 1) && decide (lf S i 1 = b)
def setOf (p : Nat → Bool) (n : Nat) : Int32 := nI (bs p n)
/-- how many of a set -/
def szI (x : Int32) : Int32 := nI (pN x.toNatClampNeg)
def noBit (o : Nat) : Int32 := bit o ^^^ (-1)
def matesR (S : Row) (n o : Nat) : Int32 := szI (setOf (hgB S (lf S o 1)) n &&& noBit o)
def losR (S : Row) (n o : Nat) : Int32 :=
  if lf S o 0 = 1 then 1 + S 4 + S (8 + (lf S o 1).toNatClampNeg) + S 5
  else if lf S o 0 = 2 then 1 + S 4 + S (8 + (lf S o 1).toNatClampNeg) - matesR S n o
  else if lf S o 0 = 3 then 2 * (1 + S 4 + S (8 + (lf S o 1).toNatClampNeg) + S 5)
  else if lf S o 0 = 4 then 1 + S 4 + S (8 + (lf S o 1).toNatClampNeg) - matesR S n o + (if S 1 - S 1 / 2 * 2 = 0 then S 6 else 0)
  else if lf S o 0 = 5 then (if S 1 - S 1 / 5 * 5 = 0 then 1 + S 4 + S (8 + (lf S o 1).toNatClampNeg) else 0)
  else 1 + S 4 + S (8 + (lf S o 1).toNatClampNeg)
def rankR (S : Row) (o : Nat) : Int32 :=
  if lf S o 0 = 1 then lf S o 3 + 3
  else if lf S o 0 = 2 then 10 - lf S o 3
  else if lf S o 0 = 3 then lf S o 3 + 3 + lf S o 1
  else if lf S o 0 = 4 then 2 * (10 - lf S o 3)
  else if lf S o 0 = 5 then 0 - lf S o 3
  else lf S o 3
def clp (v : Int32) : Int32 := if v < 0 then 0 else if 99 < v then 99 else v
/-- is o in the set of the tied? -/
def td (ti : Int32) (o : Nat) : Bool := !decide ((ti >>> (nI o &&& 31)) &&& 1 = 0)
def up1 (S : Row) (k : Nat) (v : Int32) : Row := fun j => if j = k then v else S j
def hld (S : Row) (n : Nat) (ti : Int32) (o : Nat) : Int32 := if td ti o || !hg S o then lf S o 2 else clp (lf S o 2 - losR S n o)
/-- the first m have lost what they lose -/
def lostS (S : Row) (n : Nat) (ti : Int32) : Nat → Row
  | 0 => S
  | m + 1 => up1 (lostS S n ti m) (14 + 6 * m + 2) (hld S n ti m)
def encO : Option Nat → Int32
  | none => -1
  | some b => nI b
/-- who falls among the first m -/
def bst (S : Row) (n : Nat) (ti : Int32) : Nat → Option Nat
  | 0 => none
  | m + 1 => if hg S m && decide (hld S n ti m = 0) && !td ti m then
      (match bst S n ti m with
        | none => some m
        | some b => if rankR S b < rankR S m then some m else some b)
    else bst S n ti m
def fellS (S : Row) (o : Nat) : Row := up1 (up1 (up1 S 3 (S 3 + 1)) (14 + 6 * o + 4) 0) (14 + 6 * o + 5) (S 3 + 1)
def fallO (S : Row) : Option Nat → Row
  | none => S
  | some b => fellS S b
/-- a day -/
def passS (S : Row) (n : Nat) (ti : Int32) : Row := up1 (fallO (lostS S n ti n) (bst S n ti n)) 1 (S 1 + 1)
def whoS (S : Row) (n : Nat) (ti : Int32) : Option Nat := bst S n ti n
/-- what always holds of a row -/
def WF (S : Row) (n : Nat) : Prop := (n ≤ 8) ∧ (S 0 = nI n) ∧ (∀ k, k < 3 → ∃ v, v ≤ 9 ∧ S (4 + k) = nI v) ∧ (∃ v, v ≤ 99 ∧ S 7 = nI v) ∧ (∀ i, i < n → ∃ v, v ≤ 5 ∧ lf S i 0 = nI v) ∧ (∀ i, i < n → ∃ v, v ≤ 5 ∧ lf S i 1 = nI v) ∧ (∀ i, i < n → ∃ v, v ≤ 99 ∧ lf S i 2 = nI v) ∧ (∀ i, i < n → ∃ v, v ≤ 9 ∧ lf S i 3 = nI v) ∧ (∀ i, i < n → lf S i 4 = if lf S i 5 = 0 then 1 else 0) ∧ (∃ d, S 3 = nI d ∧ ct (hg S) n + d = n) ∧ (∀ i, i < n → ∃ d, lf S i 5 = nI d ∧ d ≤ n - ct (hg S) n) ∧ (∀ i j, i < n → j < n → lf S i 5 = lf S j 5 → lf S i 5 = 0 ∨ i = j) ∧ (∀ k, k < n - ct (hg S) n → ∃ i, i < n ∧ lf S i 5 = nI (k + 1))
theorem WF.n8 {S : Row} {n : Nat} (h : WF S n) : n ≤ 8 := h.1
theorem WF.cn {S : Row} {n : Nat} (h : WF S n) : S 0 = nI n := h.2.1
theorem WF.law {S : Row} {n : Nat} (h : WF S n) : ∀ k, k < 3 → ∃ v, v ≤ 9 ∧ S (4 + k) = nI v := h.2.2.1
theorem WF.gale {S : Row} {n : Nat} (h : WF S n) : ∃ v, v ≤ 99 ∧ S 7 = nI v := h.2.2.2.1
theorem WF.knd {S : Row} {n : Nat} (h : WF S n) : ∀ i, i < n → ∃ v, v ≤ 5 ∧ lf S i 0 = nI v := h.2.2.2.2.1
theorem WF.bgh {S : Row} {n : Nat} (h : WF S n) : ∀ i, i < n → ∃ v, v ≤ 5 ∧ lf S i 1 = nI v := h.2.2.2.2.2.1
theorem WF.hol {S : Row} {n : Nat} (h : WF S n) : ∀ i, i < n → ∃ v, v ≤ 99 ∧ lf S i 2 = nI v := h.2.2.2.2.2.2.1
theorem WF.sgn {S : Row} {n : Nat} (h : WF S n) : ∀ i, i < n → ∃ v, v ≤ 9 ∧ lf S i 3 = nI v := h.2.2.2.2.2.2.2.1
theorem WF.hgs {S : Row} {n : Nat} (h : WF S n) : ∀ i, i < n → lf S i 4 = if lf S i 5 = 0 then 1 else 0 := h.2.2.2.2.2.2.2.2.1
theorem WF.fel {S : Row} {n : Nat} (h : WF S n) : ∃ d, S 3 = nI d ∧ ct (hg S) n + d = n := h.2.2.2.2.2.2.2.2.2.1
theorem WF.nth {S : Row} {n : Nat} (h : WF S n) : ∀ i, i < n → ∃ d, lf S i 5 = nI d ∧ d ≤ n - ct (hg S) n := h.2.2.2.2.2.2.2.2.2.2.1
theorem WF.one {S : Row} {n : Nat} (h : WF S n) : ∀ i j, i < n → j < n → lf S i 5 = lf S j 5 → lf S i 5 = 0 ∨ i = j := h.2.2.2.2.2.2.2.2.2.2.2.1
theorem WF.all {S : Row} {n : Nat} (h : WF S n) : ∀ k, k < n - ct (hg S) n → ∃ i, i < n ∧ lf S i 5 = nI (k + 1) := h.2.2.2.2.2.2.2.2.2.2.2.2
theorem WF.mk {S : Row} {n : Nat} (n8 : n ≤ 8) (cn : S 0 = nI n) (law : ∀ k, k < 3 → ∃ v, v ≤ 9 ∧ S (4 + k) = nI v) (gale : ∃ v, v ≤ 99 ∧ S 7 = nI v) (knd : ∀ i, i < n → ∃ v, v ≤ 5 ∧ lf S i 0 = nI v) (bgh : ∀ i, i < n → ∃ v, v ≤ 5 ∧ lf S i 1 = nI v) (hol : ∀ i, i < n → ∃ v, v ≤ 99 ∧ lf S i 2 = nI v) (sgn : ∀ i, i < n → ∃ v, v ≤ 9 ∧ lf S i 3 = nI v) (hgs : ∀ i, i < n → lf S i 4 = if lf S i 5 = 0 then 1 else 0) (fel : ∃ d, S 3 = nI d ∧ ct (hg S) n + d = n) (nth : ∀ i, i < n → ∃ d, lf S i 5 = nI d ∧ d ≤ n - ct (hg S) n) (one : ∀ i j, i < n → j < n → lf S i 5 = lf S j 5 → lf S i 5 = 0 ∨ i = j) (all : ∀ k, k < n - ct (hg S) n → ∃ i, i < n ∧ lf S i 5 = nI (k + 1)) : WF S n := ⟨n8, cn, law, gale, knd, bgh, hol, sgn, hgs, fel, nth, one, all⟩
/-- array q of the world holds the row -/
def isM (a : Nat → Nat → Int32) (q : Nat) (S : Row) : Prop := ∀ k, k < 62 → a q k = S k
/-- all of the class's tree t but the holds, what fell and z -/
def isL (t : Nat) (f : Nat → Nat → Int32) (a : Nat → Nat → Int32) (S : Row) (n : Nat) : Prop := (f t 7 = nI n) ∧ (f t 9 = S 1) ∧ (∀ k, k < 4 → a (t + 1) k = S (4 + k)) ∧ (∀ k, k < 6 → a (t + 2) k = S (8 + k)) ∧ (∀ i, i < n → a (t + 3) i = lf S i 0) ∧ (∀ i, i < n → a (t + 4) i = lf S i 1) ∧ (∀ i, i < n → a (t + 6) i = lf S i 3) ∧ (∀ i, i < n → a (t + 7) i = lf S i 5)
theorem isL.cnt {t : Nat} {f : Nat → Nat → Int32} {a : Nat → Nat → Int32} {S : Row} {n : Nat} (h : isL t f a S n) : f t 7 = nI n := h.1
theorem isL.day {t : Nat} {f : Nat → Nat → Int32} {a : Nat → Nat → Int32} {S : Row} {n : Nat} (h : isL t f a S n) : f t 9 = S 1 := h.2.1
theorem isL.law {t : Nat} {f : Nat → Nat → Int32} {a : Nat → Nat → Int32} {S : Row} {n : Nat} (h : isL t f a S n) : ∀ k, k < 4 → a (t + 1) k = S (4 + k) := h.2.2.1
theorem isL.swy {t : Nat} {f : Nat → Nat → Int32} {a : Nat → Nat → Int32} {S : Row} {n : Nat} (h : isL t f a S n) : ∀ k, k < 6 → a (t + 2) k = S (8 + k) := h.2.2.2.1
theorem isL.knd {t : Nat} {f : Nat → Nat → Int32} {a : Nat → Nat → Int32} {S : Row} {n : Nat} (h : isL t f a S n) : ∀ i, i < n → a (t + 3) i = lf S i 0 := h.2.2.2.2.1
theorem isL.bgh {t : Nat} {f : Nat → Nat → Int32} {a : Nat → Nat → Int32} {S : Row} {n : Nat} (h : isL t f a S n) : ∀ i, i < n → a (t + 4) i = lf S i 1 := h.2.2.2.2.2.1
theorem isL.sgn {t : Nat} {f : Nat → Nat → Int32} {a : Nat → Nat → Int32} {S : Row} {n : Nat} (h : isL t f a S n) : ∀ i, i < n → a (t + 6) i = lf S i 3 := h.2.2.2.2.2.2.1
theorem isL.nth {t : Nat} {f : Nat → Nat → Int32} {a : Nat → Nat → Int32} {S : Row} {n : Nat} (h : isL t f a S n) : ∀ i, i < n → a (t + 7) i = lf S i 5 := h.2.2.2.2.2.2.2
theorem isL.mk {t : Nat} {f : Nat → Nat → Int32} {a : Nat → Nat → Int32} {S : Row} {n : Nat} (cnt : f t 7 = nI n) (day : f t 9 = S 1) (law : ∀ k, k < 4 → a (t + 1) k = S (4 + k)) (swy : ∀ k, k < 6 → a (t + 2) k = S (8 + k)) (knd : ∀ i, i < n → a (t + 3) i = lf S i 0) (bgh : ∀ i, i < n → a (t + 4) i = lf S i 1) (sgn : ∀ i, i < n → a (t + 6) i = lf S i 3) (nth : ∀ i, i < n → a (t + 7) i = lf S i 5) : isL t f a S n := ⟨cnt, day, law, swy, knd, bgh, sgn, nth⟩
def isT (t : Nat) (f : Nat → Nat → Int32) (a : Nat → Nat → Int32) (S : Row) (n : Nat) (ti : Int32) : Prop := (isL t f a S n) ∧ (f t 8 = S 3) ∧ (f t 10 = S 2) ∧ (f t 11 = ti) ∧ (∀ i, i < n → a (t + 5) i = lf S i 2)
theorem isT.L {t : Nat} {f : Nat → Nat → Int32} {a : Nat → Nat → Int32} {S : Row} {n : Nat} {ti : Int32} (h : isT t f a S n ti) : isL t f a S n := h.1
theorem isT.fel {t : Nat} {f : Nat → Nat → Int32} {a : Nat → Nat → Int32} {S : Row} {n : Nat} {ti : Int32} (h : isT t f a S n ti) : f t 8 = S 3 := h.2.1
theorem isT.z {t : Nat} {f : Nat → Nat → Int32} {a : Nat → Nat → Int32} {S : Row} {n : Nat} {ti : Int32} (h : isT t f a S n ti) : f t 10 = S 2 := h.2.2.1
theorem isT.tie {t : Nat} {f : Nat → Nat → Int32} {a : Nat → Nat → Int32} {S : Row} {n : Nat} {ti : Int32} (h : isT t f a S n ti) : f t 11 = ti := h.2.2.2.1
theorem isT.hol {t : Nat} {f : Nat → Nat → Int32} {a : Nat → Nat → Int32} {S : Row} {n : Nat} {ti : Int32} (h : isT t f a S n ti) : ∀ i, i < n → a (t + 5) i = lf S i 2 := h.2.2.2.2
theorem isT.mk {t : Nat} {f : Nat → Nat → Int32} {a : Nat → Nat → Int32} {S : Row} {n : Nat} {ti : Int32} (L : isL t f a S n) (fel : f t 8 = S 3) (z : f t 10 = S 2) (tie : f t 11 = ti) (hol : ∀ i, i < n → a (t + 5) i = lf S i 2) : isT t f a S n ti := ⟨L, fel, z, tie, hol⟩
/-- the others are as they were -/
def same (P : Nat → Prop) (f a : Nat → Nat → Int32) (g : Nat → Nat → Int64) (f' a' : Nat → Nat → Int32) (g' : Nat → Nat → Int64) : Prop := ∀ o, P o → f' o = f o ∧ a' o = a o ∧ g' o = g o
theorem same.refl {P : Nat → Prop} {f a : Nat → Nat → Int32} {g : Nat → Nat → Int64} : same P f a g f a g := fun _ _ => ⟨rfl, rfl, rfl⟩
theorem same.trans {P : Nat → Prop} {f a f' a' f2 a2 : Nat → Nat → Int32} {g g' g2 : Nat → Nat → Int64} (h : same P f a g f' a' g') (h2 : same P f' a' g' f2 a2 g2) : same P f a g f2 a2 g2 := fun o ho => by
  obtain ⟨x, y, z⟩ := h o ho
  obtain ⟨x2, y2, z2⟩ := h2 o ho
  exact ⟨x2.trans x, y2.trans y, z2.trans z⟩
theorem same.mono {P Q : Nat → Prop} {f a f' a' : Nat → Nat → Int32} {g g' : Nat → Nat → Int64} (h : same P f a g f' a' g') (hq : ∀ o, Q o → P o) : same Q f a g f' a' g' := fun o ho => h o (hq o ho)
theorem u2_at {α : Type} {f : Nat → Nat → α} {q i q' i' : Nat} {v : α} : ma_u2 f q i v q' i' = if q' = q ∧ i' = i then v else f q' i' := rfl
theorem u2_ne {α : Type} {f : Nat → Nat → α} {q i q' : Nat} {v : α} (h : q' ≠ q) : ma_u2 f q i v q' = f q' := by
  funext j
  rw [u2_at, if_neg (fun x => h x.1)]
theorem u1_at {α : Type} {f : Nat → Nat → α} {q q' i' : Nat} {v : Nat → α} : ma_u1 f q v q' i' = if q' = q then v i' else f q' i' := by
  unfold ma_u1
  split <;> rfl
theorem u1_ne {α : Type} {f : Nat → Nat → α} {q q' : Nat} {v : Nat → α} (h : q' ≠ q) : ma_u1 f q v q' = f q' := by
  unfold ma_u1
  rw [if_neg h]
