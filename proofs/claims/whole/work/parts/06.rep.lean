/-! ===== what the heap holds when the small machine is in a world ===== -/
/-- lo: where our cells begin; String constants: their addresses, those of their bytes; a static of the JDK's; classes and slots; classes of arrays by kind; the script: its cell, its length, its ints -/
abbrev ma_E : Type := Nat × (Nat → Nat) × (Nat → Nat) × Option Nat × va_G × (Nat → ClassId) × Nat × Nat × (Nat → Int32)
def e_lo (E : ma_E) : Nat := E.1
def e_ak (E : ma_E) : Nat → Nat := E.2.1
def e_av (E : ma_E) : Nat → Nat := E.2.2.1
def e_fm (E : ma_E) : Option Nat := E.2.2.2.1
def e_dd (E : ma_E) : va_G := E.2.2.2.2.1
def e_cy (E : ma_E) : Nat → ClassId := E.2.2.2.2.2.1
def e_bb (E : ma_E) : Nat := E.2.2.2.2.2.2.1
def e_ll (E : ma_E) : Nat := E.2.2.2.2.2.2.2.1
def e_xs (E : ma_E) : Nat → Int32 := E.2.2.2.2.2.2.2.2
def ma_sp (E : ma_E) (k : Nat) : Value := if k = 2 then va_rf (e_fm E) else if k = 1 then .ref (e_bb E) else if k % 2 = 1 then .ref (e_ak E ((k - 3) / 2)) else .ref (e_av E ((k - 4) / 2))
def ma_v (E : ma_E) (v : ma_V) : Value := match v with
  | .inl x => .int x
  | .inr (.inl x) => .long x
  | .inr (.inr (.inl none)) => .null
  | .inr (.inr (.inl (some k))) => .ref (e_lo E + k)
  | .inr (.inr (.inr k)) => ma_sp E k
def ma_fv (E : ma_E) (w : ma_W) (o ci j : Nat) : Value := if ma_isr (ma_ty ci j) then va_rf ((ma_fr w o j).map (fun k => e_lo E + k)) else .int (ma_fi w o j)
def ma_av (E : ma_E) (w : ma_W) (k t : Nat) : (Nat → Int32) ⊕ (Nat → Int64) ⊕ (Nat → UInt32) ⊕ (Nat → UInt64) ⊕ (Nat → Option Nat) := match t with
  | 0 => .inl (ma_ai w k)
  | 1 => .inl (ma_ai w k)
  | 2 => .inr (.inl (ma_al w k))
  | _ => .inr (.inr (.inr (.inr (fun j => (ma_ar w k j).map (fun a => e_lo E + a)))))
def ma_ce (E : ma_E) (w : ma_W) (k : Nat) (x : ma_Sh) : va_E := match x with
  | .inl ci => .inr (ci, (List.range (ma_nf ci)).map (ma_fv E w k ci))
  | .inr q => .inl (e_cy E q.1, q.2, ma_av E w k q.1)
def ma_hp (E : ma_E) (w : ma_W) (H : Heap) : Prop := H.size = e_lo E + (ma_sh w).length ∧ ∀ (k : Nat) (x : ma_Sh), (ma_sh w)[k]? = some x → va_at (e_dd E) vwCl (e_lo E + k, ma_ce E w k x) H
def ma_A (E : ma_E) : Nat → Prop := fun q => e_lo E ≤ q
def ma_tys (E : ma_E) : List (ClassId × FieldType) := [(e_cy E 0, .int), (e_cy E 1, .byte), (e_cy E 2, .long), (e_cy E 3, .object RX1), (e_cy E 4, .object RX2)]
def ma_nws : List Jvm.Cond := [.methodLinkNest RX5 24 yX3_init RX5, .methodLinkNest RX5 47 yX0_init RX5, .methodLinkNest RX5 52 yX1_init RX5, .methodLinkNest RX5 53 yX2_init RX5, .methodLinkNest RX3 60 yX5_mostOfLaw RX5, .methodLinkNest RX4 80 yX5_held RX5, .methodLinkNest RX0 40 yX5_isUnder RX5]
def ma_stx : List (Nat × String) := [(109, "wind"), (111, "cold"), (113, "wet"), (115, "gale"), (121, "red"), (123, "yellow"), (125, "scarlet"), (127, "gold"), (129, "evergreen"), (131, "leaf"), (39, "sway"), (75, "is"), (83, "on"), (85, "hold"), (91, "sign")]
def ma_lens : List Nat := ma_tx1.map (fun l => l.length)
def ma_byts : List (List Int32) := ma_tx1.map (fun l => l.map Int32.ofNat)
/-- what of the machine stays as it is -/
def ma_en (E : ma_E) (U : State) (H : Heap) : Prop :=
  va_K (e_dd E) vwCl (ma_tys E) U ∧ va_X (e_bb E) (e_ll E) (e_xs E) U H ∧ e_bb E < e_lo E ∧ (∀ w ∈ ma_nws, va_Nw w U) ∧ (va_AO RX1 U ∧ va_AO RX2 U) ∧
  (∀ i, i < 15 → vk_R RX3 (ma_stx.getD i (0, "")).1 (ma_stx.getD i (0, "")).2 (e_ak E i) U) ∧ vk_S 15 ma_lens ma_byts (e_ak E) (e_av E) (ma_A E) U H ∧
  va_Z "java/lang/String" "COMPACT_STRINGS" "Z" (.int 1) (ma_A E) U H ∧ va_Z "jdk/internal/util/Preconditions" "SIOOBE_FORMATTER" "Ljava/util/function/BiFunction;" (va_rf (e_fm E)) (ma_A E) U H
theorem ma_nws_moved {s U : State} (hW : s.WarmedH U.vm) (h : ∀ w ∈ ma_nws, va_Nw w s) : ∀ w ∈ ma_nws, va_Nw w U := by
  intro w hw
  have h1 := h w hw
  simp only [ma_nws, List.mem_cons, List.not_mem_nil, or_false] at hw
  rcases hw with rfl | rfl | rfl | rfl | rfl | rfl | rfl <;> exact va_Nw.warmM hW h1
theorem ma_en_moved {E : ma_E} {s U : State} {H : Heap} (hW : s.WarmedH U.vm) (h : ma_en E s H) : ma_en E U H := by
  obtain ⟨h1, h2, h3, h4, h5, h6, h7, h8, h9⟩ := h
  exact ⟨va_K.moved hW.alike h1, va_X.moved hW.alike h2, h3, ma_nws_moved hW h4, ⟨va_AO.moved hW.alike h5.1, va_AO.moved hW.alike h5.2⟩, fun i hi => vk_R.warm hW (h6 i hi), vk_S.moved hW.alike h7, va_Z.moved hW.alike h8, va_Z.moved hW.alike h9⟩
theorem ma_en_same {E : ma_E} {s U : State} {H : Heap} (hv : s.vm = U.vm) (h : ma_en E s H) : ma_en E U H := by
  obtain ⟨h1, h2, h3, h4, h5, h6, h7, h8, h9⟩ := h
  have hA : s.vm.Alike U.vm := by rw [hv]; exact Vm.Alike.refl _
  refine ⟨va_K.moved hA h1, va_X.moved hA h2, h3, fun w hw => ?_, ⟨va_AO.moved hA h5.1, va_AO.moved hA h5.2⟩, fun i hi => vk_R.same hv.symm (h6 i hi), vk_S.moved hA h7, va_Z.moved hA h8, va_Z.moved hA h9⟩
  have h10 := h4 w hw
  simp only [ma_nws, List.mem_cons, List.not_mem_nil, or_false] at hw
  rcases hw with rfl | rfl | rfl | rfl | rfl | rfl | rfl <;> exact va_Nw.same rfl hv h10
theorem ma_en_kept {E : ma_E} {s : State} {H H1 : Heap} (hz : e_lo E ≤ H.size) (hk : ∀ q, q < e_lo E → H1[q]? = H[q]?) (h : ma_en E s H) : ma_en E s H1 := by
  obtain ⟨h1, h2, h3, h4, h5, h6, h7, h8, h9⟩ := h
  have hq : ∀ a : Nat, a < H.size → ¬ ma_A E a → H1[a]? = H[a]? := fun a _ h => hk a (Nat.not_le.mp h)
  exact ⟨h1, va_X.kept h2 (hk _ h3), h3, h4, h5, h6, vk_S.kept h7 hq, va_Z.kept h8 hq, va_Z.kept h9 hq⟩
/-- locals -/
def ma_df (v : ma_V) : Bool := match v with
  | .inr (.inr (.inr 0)) => false
  | _ => true
def ma_Ls (E : ma_E) (la : Array Slot) (nL : Nat) (ls : List ma_V) : Prop := la.size = nL ∧ lv_wf la ∧ ls.length = nL ∧ ∀ (j : Nat) (v : ma_V), ls[j]? = some v → ma_df v = true → la[j]? = some (.val (ma_v E v))
def ma_ll (E : ma_E) (ls : List ma_V) : List (Nat × Value) := (List.range ls.length).filterMap (fun j => match ls[j]? with
  | some v => if ma_df v then some (j, ma_v E v) else none
  | none => none)
theorem ma_ll_mem {E : ma_E} {ls : List ma_V} {j : Nat} {x : Value} : (j, x) ∈ ma_ll E ls ↔ ∃ v, ls[j]? = some v ∧ ma_df v = true ∧ x = ma_v E v := by
  unfold ma_ll
  constructor
  · intro h
    obtain ⟨i, -, hi⟩ := List.mem_filterMap.mp h
    cases hv : ls[i]? with
    | none => simp [hv] at hi
    | some v =>
      simp only [hv] at hi
      by_cases hd : ma_df v = true
      · rw [if_pos hd] at hi
        cases hi
        exact ⟨v, hv, hd, rfl⟩
      · rw [if_neg hd] at hi
        cases hi
  · rintro ⟨v, h1, h2, rfl⟩
    refine List.mem_filterMap.mpr ⟨j, List.mem_range.mpr (List.getElem?_eq_some_iff.mp h1).1, ?_⟩
    simp only [h1, h2, if_true]
theorem ma_Ls.has {E : ma_E} {la : Array Slot} {nL : Nat} {ls : List ma_V} (h : ma_Ls E la nL ls) : lv_has la nL (ma_ll E ls) := by
  refine ⟨h.1, h.2.1, fun q hq => ?_⟩
  obtain ⟨v, h1, h2, h3⟩ := ma_ll_mem.mp hq
  rw [h3]
  exact h.2.2.2 q.1 v h1 h2
theorem ma_kill_len (ls : List ma_V) (k : Nat) : (ma_kill ls k).length = ls.length := by
  unfold ma_kill
  split
  · rfl
  · split
    · simp
    · rfl
theorem ma_v_cat {E : ma_E} {v : ma_V} (h : ∀ x, v ≠ vL x) : (ma_v E v).category = 1 := by
  match v, h with
  | .inl x, _ => rfl
  | .inr (.inl x), h => exact absurd rfl (h x)
  | .inr (.inr (.inl none)), _ => rfl
  | .inr (.inr (.inl (some k))), _ => rfl
  | .inr (.inr (.inr k)), _ =>
    show (ma_sp E k).category = 1
    unfold ma_sp
    repeat' split
    · cases e_fm E <;> rfl
    all_goals rfl
theorem ma_kill_get {ls : List ma_V} {k j : Nat} {u : ma_V} (h : (ma_kill ls k)[j]? = some u) (hd : ma_df u = true) : ls[j]? = some u ∧ ¬ (j + 1 = k ∧ ∃ x, u = vL x) := by
  unfold ma_kill at h
  split at h
  · exact ⟨h, fun q => by omega⟩
  · next i =>
    split at h
    · next x hx =>
      by_cases hj : j = i
      · subst hj
        rw [List.getElem?_set_self (List.getElem?_eq_some_iff.mp hx).1] at h
        cases h
        cases hd
      · rw [List.getElem?_set_ne (Ne.symm hj)] at h
        exact ⟨h, fun q => hj (by omega)⟩
    · next hx =>
      refine ⟨h, fun q => ?_⟩
      obtain ⟨q1, x, rfl⟩ := q
      have : j = i := by omega
      subst this
      exact hx x h
theorem ma_Ls.st1 {E : ma_E} {la la' : Array Slot} {nL k : Nat} {ls : List ma_V} {v : ma_V} (h0 : ma_Ls E la nL ls) (h : lv_has la' nL ((k, ma_v E v) :: (ma_ll E ls).filter (fun q => !(q.1 == k) && !(q.1 + 1 == k && q.2.category == 2)))) : ma_Ls E la' nL ((ma_kill ls k).set k v) := by
  refine ⟨h.1, h.2.1, by rw [List.length_set, ma_kill_len]; exact h0.2.2.1, fun j u hj hd => ?_⟩
  by_cases hjk : j = k
  · subst hjk
    have hlt : j < (ma_kill ls j).length := by
      have := (List.getElem?_eq_some_iff.mp hj).1
      rwa [List.length_set] at this
    rw [List.getElem?_set_self hlt] at hj
    cases hj
    exact h.2.2 (j, ma_v E v) List.mem_cons_self
  · rw [List.getElem?_set_ne (Ne.symm hjk)] at hj
    obtain ⟨h1, h2⟩ := ma_kill_get hj hd
    refine h.2.2 (j, ma_v E u) (List.mem_cons_of_mem _ (List.mem_filter.mpr ⟨ma_ll_mem.mpr ⟨u, h1, hd, rfl⟩, ?_⟩))
    by_cases hj1 : j + 1 = k
    · have hc : (ma_v E u).category = 1 := ma_v_cat (fun x hx => h2 ⟨hj1, x, hx⟩)
      simp [hjk, hc]
    · simp [hjk, hj1]
theorem ma_Ls.st2 {E : ma_E} {la la' : Array Slot} {nL k : Nat} {ls : List ma_V} {x : Int64} (h0 : ma_Ls E la nL ls) (h : lv_has la' nL ((k, Value.long x) :: (ma_ll E ls).filter (fun q => !(q.1 == k) && (!(q.1 == k + 1) && !(q.1 + 1 == k && q.2.category == 2))))) : ma_Ls E la' nL (((ma_kill ls k).set k (vL x)).set (k + 1) (vS 0)) := by
  refine ⟨h.1, h.2.1, by rw [List.length_set, List.length_set, ma_kill_len]; exact h0.2.2.1, fun j u hj hd => ?_⟩
  by_cases hjk1 : j = k + 1
  · subst hjk1
    have hlt := (List.getElem?_eq_some_iff.mp hj).1
    rw [List.length_set] at hlt
    rw [List.getElem?_set_self hlt] at hj
    cases hj
    cases hd
  · rw [List.getElem?_set_ne (Ne.symm hjk1)] at hj
    by_cases hjk : j = k
    · subst hjk
      have hlt : j < (ma_kill ls j).length := by
        have := (List.getElem?_eq_some_iff.mp hj).1
        rwa [List.length_set] at this
      rw [List.getElem?_set_self hlt] at hj
      cases hj
      exact h.2.2 (j, Value.long x) List.mem_cons_self
    · rw [List.getElem?_set_ne (Ne.symm hjk)] at hj
      obtain ⟨h1, h2⟩ := ma_kill_get hj hd
      refine h.2.2 (j, ma_v E u) (List.mem_cons_of_mem _ (List.mem_filter.mpr ⟨ma_ll_mem.mpr ⟨u, h1, hd, rfl⟩, ?_⟩))
      by_cases hj1 : j + 1 = k
      · have hc : (ma_v E u).category = 1 := ma_v_cat (fun x hx => h2 ⟨hj1, x, hx⟩)
        simp [hjk, hjk1, hc]
      · simp [hjk, hjk1, hj1]
/-- the tables' words that may stand in a method's list -/
def ma_big : List Jvm.Cond := lw_tbl.filter goodWord
/-- where the machine stands in a method -/
def ma_Cx (E : ma_E) (p : Program) (R : Room) (s : State) (m : MethodId) (args : Array Value) (meth : Method) (c : Code) (cc : ByteArray) (nL own lv : Nat) (ini : Bool) : Prop :=
  p.tables.exec = Jvm.exec ∧ c.code = cc ∧ c.maxLocals = nL ∧ s.vm.findClass (ma_on own) = some m.cls ∧ (∀ w ∈ ma_big, w.before args s = true) ∧ ma_en E s s.heap ∧ e_lo E ≤ s.heap.size ∧ lv ≤ R.frames ∧ 36 * lv ≤ R.locals ∧ (ini = true → meth.name = "<init>")
def ma_In (E : ma_E) (w : ma_W) (s : State) (H : Heap) (locs : List Loc) : Prop := ma_hp E w H ∧ va_S (ma_A E) s.heap H locs
/-- from here on it goes well -/
def ma_G (E : ma_E) (p : Program) (l : Launch) (e : Env) (R : Room) (s : State) (m : MethodId) (args : Array Value) (below : List Frame) (meth : Method) (c : Code) (nL : Nat) (Q : State → Prop) (pc : Nat) (ls st : List ma_V) (w : ma_W) (cells slots : Nat) : Prop :=
  ∀ (H : Heap) (locs : List Loc) (la : Array Slot), ma_In E w s H locs → ma_Ls E la nL ls → W p l e R s m args below meth c H locs cells slots Q (F0 m pc la (st.map (ma_v E)))
/-- a step of the small machine is one of the great one -/
def ma_Snd (E : ma_E) (cc : ByteArray) (own lv : Nat) (ini : Bool) (pc : Nat) (f : ma_F) : Prop :=
  (∀ (c c' : _), f c = some c' → ∃ t, ma_sh c'.2.2.2 = ma_sh c.2.2 ++ t) ∧
  ∀ {p : Program} {l : Launch} {e : Env} {R : Room} {s : State} {m : MethodId} {args : Array Value} {below : List Frame} {meth : Method} {c : Code} {nL : Nat} {Q : State → Prop} {cells slots : Nat} {ls st : List ma_V} {w : ma_W} {r : Nat × ma_C},
    ma_Cx E p R s m args meth c cc nL own lv ini → ls.length = nL → f (ls, st, w) = some r → cells ≤ R.cells → slots ≤ R.slots →
    cells + ((ma_sh r.2.2.2).length - (ma_sh w).length) ≤ R.cells → slots + (ma_szs (ma_sh r.2.2.2) - ma_szs (ma_sh w)) ≤ R.slots →
    ma_G E p l e R s m args below meth c nL Q r.1 r.2.1 r.2.2.1 r.2.2.2 (cells + ((ma_sh r.2.2.2).length - (ma_sh w).length)) (slots + (ma_szs (ma_sh r.2.2.2) - ma_szs (ma_sh w))) →
    ma_G E p l e R s m args below meth c nL Q pc ls st w cells slots
