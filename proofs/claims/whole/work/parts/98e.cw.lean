/-! ===== the world while it is made ===== -/
/-- the first n of the shapes -/
def cw (n : Nat) (f : Nat → Nat → Int32) (fr : Nat → Nat → Option Nat) (a : Nat → Nat → Int32) (g : Nat → Nat → Int64) (ar : Nat → Nat → Option Nat) : ma_W := (SH.take n, f, fr, a, g, ar)
/-- nothing stands from n on -/
def Fz (n : Nat) (f : Nat → Nat → Int32) (fr : Nat → Nat → Option Nat) (a : Nat → Nat → Int32) (g : Nat → Nat → Int64) (ar : Nat → Nat → Option Nat) : Prop := ∀ q, n ≤ q → (f q = fun _ => 0) ∧ (fr q = fun _ => none) ∧ (a q = fun _ => 0) ∧ (g q = fun _ => 0) ∧ (ar q = fun _ => none)
section S98E
variable {n o k : Nat} {f a : Nat → Nat → Int32} {fr ar : Nat → Nat → Option Nat} {g : Nat → Nat → Int64}
theorem u2_row {α : Type} {F : Nat → Nat → α} {q : Nat} {v : α} (h : q ≠ o) : ma_u2 F o k v q = F q := by
  funext j
  show (if q = o ∧ j = k then v else F q j) = F q j
  rw [if_neg (fun x => h x.1)]
theorem Fz.up (h : Fz n f fr a g ar) : Fz (n + 1) f fr a g ar := fun q hq => h q (by omega)
theorem Fz.uf {v : Int32} (h : Fz n f fr a g ar) (ho : o < n) : Fz n (ma_u2 f o k v) fr a g ar := fun q hq => by rw [u2_row (by omega)]; exact h q hq
theorem Fz.ur {v : Option Nat} (h : Fz n f fr a g ar) (ho : o < n) : Fz n f (ma_u2 fr o k v) a g ar := fun q hq => by rw [u2_row (by omega)]; exact h q hq
theorem Fz.ua {v : Int32} (h : Fz n f fr a g ar) (ho : o < n) : Fz n f fr (ma_u2 a o k v) g ar := fun q hq => by rw [u2_row (by omega)]; exact h q hq
theorem Fz.ux {v : Option Nat} (h : Fz n f fr a g ar) (ho : o < n) : Fz n f fr a g (ma_u2 ar o k v) := fun q hq => by rw [u2_row (by omega)]; exact h q hq
theorem u1_row {α : Type} {F : Nat → Nat → α} {z : Nat → α} (h : F n = z) : ma_u1 F n z = F := by
  funext q
  show (if q = n then z else F q) = F q
  by_cases e : q = n
  · rw [if_pos e, e, h]
  · rw [if_neg e]
theorem cw_len (hn : n ≤ 59) : (ma_sh (cw n f fr a g ar)).length = n := by
  show (SH.take n).length = n
  rw [List.length_take, show SH.length = 59 from rfl]
  omega
theorem cw_add {x : ma_Sh} (hn : n ≤ 59) (hs : SH[n]? = some x) (hz : Fz n f fr a g ar) : ma_add (cw n f fr a g ar) x = cw (n + 1) f fr a g ar := by
  obtain ⟨h1, h2, h3, h4, h5⟩ := hz n (Nat.le_refl _)
  have hl : (SH.take n).length = n := cw_len (f := f) (fr := fr) (a := a) (g := g) (ar := ar) hn
  have hsh : SH.take n ++ [x] = SH.take (n + 1) := by rw [List.take_succ, hs]; rfl
  show (SH.take n ++ [x], ma_u1 f (SH.take n).length (fun _ => 0), ma_u1 fr (SH.take n).length (fun _ => none), ma_u1 a (SH.take n).length (fun _ => 0), ma_u1 g (SH.take n).length (fun _ => 0), ma_u1 ar (SH.take n).length (fun _ => none)) = _
  rw [hl, hsh, u1_row h1, u1_row h2, u1_row h3, u1_row h4, u1_row h5]
  rfl
variable {xs : Nat → Int32} {L m pc nx : Nat} {ls st : List ma_V} {w : ma_W}
theorem k_oin {o : Nat} (hp : ma_pg xs L m pc = some (.inl (i_lim 1 (i_oin nx))) ∧ ∃ t, ma_mts m = some t) (h : (st.map ma_cat).sum ≤ 8) : rn xs L m pc ls (vR o :: st) w = rn xs L m nx ls st w := rn_step (c := (nx, ls, st, w)) hp (by
  have h' : ((List.drop 1 (vR o :: st)).map ma_cat).sum ≤ 8 := h
  unfold i_lim
  dsimp only
  rw [if_pos h']
  rfl)
theorem k_inc {k : Nat} {d : Int} {x y z : Int32} {ls2 : List ma_V} (hp : ma_pg xs L m pc = some (.inl (i_inc k d nx)) ∧ ∃ t, ma_mts m = some t) (hd : Int32.ofInt d = y) (hk : ls[k]? = some (vI x)) (hz : x + y = z) (h : (ma_kill ls k).set k (vI z) = ls2) : rn xs L m pc ls st w = rn xs L m nx ls2 st w := r_inc hp hd hk (by rw [hz]; exact h)
theorem k_new {ci : Nat} (hp : ma_pg xs L m pc = some (.inl (i_new ci nx)) ∧ ∃ t, ma_mts m = some t) (hn : n ≤ 59) (hs : SH[n]? = some (.inl ci)) (hz : Fz n f fr a g ar) : rn xs L m pc ls st (cw n f fr a g ar) = rn xs L m nx ls (vR n :: st) (cw (n + 1) f fr a g ar) := rn_step (c := (nx, ls, vR n :: st, cw (n + 1) f fr a g ar)) hp (by
  unfold i_new
  dsimp only
  rw [cw_len hn, cw_add hn hs hz])
theorem k_nwa {t N : Nat} {x : Int32} (hp : ma_pg xs L m pc = some (.inl (i_nwa t nx)) ∧ ∃ t, ma_mts m = some t) (hx : ¬ x < 0 ∧ x.toNatClampNeg ≤ 60000) (hN : x.toNatClampNeg = N) (hn : n ≤ 59) (hs : SH[n]? = some (.inr (t, N))) (hz : Fz n f fr a g ar) : rn xs L m pc ls (vI x :: st) (cw n f fr a g ar) = rn xs L m nx ls (vR n :: st) (cw (n + 1) f fr a g ar) := rn_step (c := (nx, ls, vR n :: st, cw (n + 1) f fr a g ar)) hp (by
  unfold i_nwa
  dsimp only
  rw [if_pos hx, hN, cw_len hn, cw_add hn hs hz])
theorem k_ptr {ci k o b : Nat} (hp : ma_pg xs L m pc = some (.inl (i_ptr ci k nx)) ∧ ∃ t, ma_mts m = some t) (ho : (SH.take n)[o]? = some (.inl ci)) : rn xs L m pc ls (vR b :: vR o :: st) (cw n f fr a g ar) = rn xs L m nx ls st (cw n f (ma_u2 fr o k (some b)) a g ar) := rn_step (c := (nx, ls, st, cw n f (ma_u2 fr o k (some b)) a g ar)) hp (by
  have h : (ma_sh (cw n f fr a g ar))[o]? = some (.inl ci) := ho
  unfold i_ptr
  dsimp only
  rw [if_pos h]
  rfl)
theorem k_pti {ci k o : Nat} {x : Int32} (hp : ma_pg xs L m pc = some (.inl (i_pti ci k nx)) ∧ ∃ t, ma_mts m = some t) (ho : (SH.take n)[o]? = some (.inl ci)) (hn : ma_nar (ma_ty ci k) x = true) : rn xs L m pc ls (vI x :: vR o :: st) (cw n f fr a g ar) = rn xs L m nx ls st (cw n (ma_u2 f o k x) fr a g ar) := r_pti hp ho hn
theorem k_gtr {ci k o b : Nat} (hp : ma_pg xs L m pc = some (.inl (i_gtr ci k nx)) ∧ ∃ t, ma_mts m = some t) (ho : (SH.take n)[o]? = some (.inl ci)) (hb : fr o k = some b) : rn xs L m pc ls (vR o :: st) (cw n f fr a g ar) = rn xs L m nx ls (vR b :: st) (cw n f fr a g ar) := r_gtr hp ho hb
theorem k_iast {b N j : Nat} {i x : Int32} (hp : ma_pg xs L m pc = some (.inl (i_iast nx)) ∧ ∃ t, ma_mts m = some t) (h1 : (SH.take n)[b]? = some (.inr (0, N))) (h2 : ma_in i N = true) (hj : i.toNatClampNeg = j) : rn xs L m pc ls (vI x :: vI i :: vR b :: st) (cw n f fr a g ar) = rn xs L m nx ls st (cw n f fr (ma_u2 a b j x) g ar) := r_iasc hp h1 h2 hj
theorem k_aast {b c t N j : Nat} {i : Int32} (hp : ma_pg xs L m pc = some (.inl (i_aast nx)) ∧ ∃ t, ma_mts m = some t) (ht : t = 3 ∨ t = 4) (h1 : (SH.take n)[b]? = some (.inr (t, N))) (h2 : ma_in i N = true) (hj : i.toNatClampNeg = j) (hc : (SH.take n)[c]? = some (.inl (ma_el t))) : rn xs L m pc ls (vR c :: vI i :: vR b :: st) (cw n f fr a g ar) = rn xs L m nx ls st (cw n f fr a g (ma_u2 ar b j (some c))) := rn_step (c := (nx, ls, st, cw n f fr a g (ma_u2 ar b j (some c)))) hp (by
  have h1' : (ma_sh (cw n f fr a g ar))[b]? = some (.inr (t, N)) := h1
  have hc' : (ma_sh (cw n f fr a g ar))[c]? = some (.inl (ma_el t)) := hc
  have hok : ma_ok (cw n f fr a g ar) b t i = true := ma_ok_of h1' h2
  unfold i_aast
  dsimp only
  subst hj
  rcases ht with rfl | rfl
  · rw [if_pos (by rw [hok, hc']; rfl)]
    rfl
  · rw [if_pos (by rw [hok, hc']; simp [ma_el])]
    rfl)
end S98E
