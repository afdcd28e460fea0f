/-! The words that every contract here rests on: the tables' words that a call keeps -/
def gt : List Cond := lw_tbl.filter goodWord
theorem gt_mem {w : Cond} (n : Nat) (h : lw_tbl[n]? = some w) (hg : goodWord w = true) : w ∈ gt := List.mem_filter.mpr ⟨List.mem_of_getElem? h, hg⟩
theorem gt_in {w : Cond} (h : w ∈ gt) : w ∈ gt ∧ ((w.onTables && w.keeps) = true ∨ ∃ ty, w = .arrayClass ty) := ⟨h, good_of_word (List.mem_filter.mp h).2⟩
theorem gt_good {w : Cond} (hc : w ∈ gt) : GoodIn gt (w :: gt) := fun v hv => (List.mem_cons.mp hv).elim (fun e => e ▸ gt_in hc) gt_in
/-! Values and cells of my own: ints, references by the place in the list of cells (none: null), the script -/
abbrev AV : Type := Int32 ⊕ (Option Nat ⊕ Unit)
abbrev aI (x : Int32) : AV := Sum.inl x
abbrev aO (o : Option Nat) : AV := Sum.inr (Sum.inl o)
abbrev aR (k : Nat) : AV := Sum.inr (Sum.inl (some k))
abbrev aN : AV := Sum.inr (Sum.inl none)
abbrev aS : AV := Sum.inr (Sum.inr ())
abbrev AE : Type := (Nat × Nat × (Nat → Int32)) ⊕ ((Nat × Nat × (Nat → Option Nat)) ⊕ (Nat × List AV))
abbrev eA (t n : Nat) (f : Nat → Int32) : AE := Sum.inl (t, n, f)
abbrev eQ (t n : Nat) (f : Nat → Option Nat) : AE := Sum.inr (Sum.inl (t, n, f))
abbrev eO (ci : Nat) (fs : List AV) : AE := Sum.inr (Sum.inr (ci, fs))
/-- class ids and slots, array classes, the first cell's address, the script's address -/
abbrev GD : Type := va_G × (Nat → ClassId) × Nat × Nat
def toV (g : GD) : AV → Value
  | .inl x => .int x
  | .inr (.inl o) => va_rf (o.map (fun k => g.2.2.1 + k))
  | .inr (.inr _) => .ref g.2.2.2
def toE (g : GD) : AE → va_E
  | .inl a => .inl (g.2.1 a.1, a.2.1, .inl a.2.2)
  | .inr (.inl a) => .inl (g.2.1 a.1, a.2.1, .inr (.inr (.inr (.inr (fun j => (a.2.2 j).map (fun k => g.2.2.1 + k))))))
  | .inr (.inr o) => .inr (o.1, o.2.map (toV g))
abbrev xcl : List vw_C := [(RX0, TX0, 7), (RX1, TX1, 5), (RX2, TX2, 3), (RX3, TX3, 5), (RX4, TX4, 7), (RX5, TX5, 12), (RX6, TX6, 27)]
def tysG (g : GD) : List (ClassId × FieldType) := [(g.2.1 0, .int), (g.2.1 1, .boolean), (g.2.1 2, .object RX2), (g.2.1 3, .object RX1), (g.2.1 4, .object RX4), (g.2.1 5, .object RX0)]
def Kk (g : GD) (U : State) : Prop := va_K g.1 xcl (tysG g) U ∧ (va_AO RX2 U ∧ va_AO RX1 U ∧ va_AO RX4 U ∧ va_AO RX0 U) ∧ va_Nw (.methodLinkNest RX5 45 yX3_init RX5) U ∧ va_Nw (.methodLinkNest RX5 56 yX2_init RX5) U
theorem Kk.warm {g : GD} {s U : State} (hW : s.WarmedH U.vm) (h : Kk g s) : Kk g U := by
  obtain ⟨h1, ⟨a, b, c, d⟩, h3, h4⟩ := h
  exact ⟨va_K.moved hW.alike h1, ⟨a.moved hW.alike, b.moved hW.alike, c.moved hW.alike, d.moved hW.alike⟩, va_Nw.warmM hW h3, va_Nw.warmM hW h4⟩
theorem Kk.same {g : GD} {u U : State} (hvm : u.vm = U.vm) (h : Kk g u) : Kk g U := by
  obtain ⟨h1, ⟨a, b, c, d⟩, h3, h4⟩ := h
  have hA : u.vm.Alike U.vm := by rw [hvm]; exact Vm.Alike.refl _
  exact ⟨va_K.moved hA h1, ⟨a.moved hA, b.moved hA, c.moved hA, d.moved hA⟩, va_Nw.same rfl hvm h3, va_Nw.same rfl hvm h4⟩
/-- the heap is, from the first cell's address on, the list L -/
def Hs (g : GD) (L : List AE) (H : Heap) : Prop := H.size = g.2.2.1 + L.length ∧ ∀ (k : Nat) (e : AE), L[k]? = some e → va_at g.1 xcl (g.2.2.1 + k, toE g e) H
theorem Hs.set {g : GD} {L : List AE} {H H1 : Heap} {k : Nat} {e : AE} (h : Hs g L H) (he : va_at g.1 xcl (g.2.2.1 + k, toE g e) H1) (hz : H1.size = H.size) (oq : ∀ q : Nat, q ≠ g.2.2.1 + k → H1[q]? = H[q]?) : Hs g (L.set k e) H1 := by
  refine ⟨by rw [hz, List.length_set]; exact h.1, fun j x hj => ?_⟩
  by_cases hjk : j = k
  · subst hjk
    have hl : j < L.length := by
      have := (List.getElem?_eq_some_iff.mp hj).1
      simpa using this
    rw [List.getElem?_set_self hl] at hj
    cases hj
    exact he
  · rw [List.getElem?_set_ne (Ne.symm hjk)] at hj
    exact (h.2 j x hj).kept (oq _ (by omega))
theorem Hs.push {g : GD} {L : List AE} {H H1 : Heap} {e : AE} (h : Hs g L H) (he : va_at g.1 xcl (g.2.2.1 + L.length, toE g e) H1) (hz : H1.size = H.size + 1) (oq : ∀ q : Nat, q < H.size → H1[q]? = H[q]?) : Hs g (L ++ [e]) H1 := by
  have h1 := h.1
  refine ⟨by rw [hz, List.length_append]; simp; omega, fun j x hj => ?_⟩
  by_cases hjk : j < L.length
  · rw [List.getElem?_append_left hjk] at hj
    exact (h.2 j x hj).kept (oq _ (by omega))
  · rw [List.getElem?_append_right (by omega)] at hj
    have hz : j - L.length < 1 := (List.getElem?_eq_some_iff.mp hj).1
    have hj0 : j = L.length := by omega
    subst hj0
    rw [Nat.sub_self] at hj
    cases hj
    exact he
theorem Hs.P {g : GD} {L : List AE} {H : Heap} {k : Nat} {e : AE} (h : Hs g L H) (hk : L[k]? = some e) : va_P g.1 xcl [(g.2.2.1 + k, toE g e)] H := by
  intro j q hq
  have hz : j < 1 := (List.getElem?_eq_some_iff.mp hq).1
  rw [show j = 0 by omega] at hq
  cases hq
  exact h.2 k e hk
/-- the locals -/
def Lv (g : GD) (ls : Array Slot) (nL : Nat) (lv : List (Option AV)) : Prop := ls.size = nL ∧ lv_wf ls ∧ lv.length = nL ∧ ∀ (i : Nat) (v : AV), lv[i]? = some (some v) → ls[i]? = some (.val (toV g v))
theorem toV_cat (g : GD) (v : AV) : (toV g v).category = 1 := by
  rcases v with x | o | u
  · rfl
  · cases o <;> rfl
  · rfl
theorem Lv.has {g : GD} {ls : Array Slot} {nL : Nat} {lv : List (Option AV)} (h : Lv g ls nL lv) {i : Nat} {v : AV} (hi : lv[i]? = some (some v)) : lv_has ls nL [(i, toV g v)] := ⟨h.1, h.2.1, fun q hq => by rw [List.mem_singleton.mp hq]; exact h.2.2.2 i v hi⟩
def lvp (g : GD) (lv : List (Option AV)) : List (Nat × Value) := (List.range lv.length).filterMap (fun i => match lv[i]? with | some (some v) => some (i, toV g v) | _ => none)
theorem Lv.hp {g : GD} {ls : Array Slot} {nL : Nat} {lv : List (Option AV)} (h : Lv g ls nL lv) : lv_has ls nL (lvp g lv) := by
  refine ⟨h.1, h.2.1, fun q hq => ?_⟩
  obtain ⟨i, -, hi⟩ := List.mem_filterMap.mp hq
  cases hv : lv[i]? with
  | none => rw [hv] at hi; cases hi
  | some o =>
    cases o with
    | none => rw [hv] at hi; cases hi
    | some v => rw [hv] at hi; cases hi; exact h.2.2.2 i v hv
theorem lvp_mem {g : GD} {lv : List (Option AV)} {i : Nat} {v : AV} (h : lv[i]? = some (some v)) : (i, toV g v) ∈ lvp g lv := by
  refine List.mem_filterMap.mpr ⟨i, List.mem_range.mpr (List.getElem?_eq_some_iff.mp h).1, ?_⟩
  rw [h]
theorem Lv.store {g : GD} {ls : Array Slot} {nL : Nat} {lv : List (Option AV)} (h : Lv g ls nL lv) {i : Nat} (v : AV) {ls' : Array Slot} (hs : lv_has ls' nL ((i, toV g v) :: (lvp g lv).filter (fun q => !(q.1 == i) && !(q.1 + 1 == i && q.2.category == 2)))) : Lv g ls' nL (lv.set i (some v)) := by
  refine ⟨hs.1, hs.2.1, by rw [List.length_set]; exact h.2.2.1, fun j w hj => ?_⟩
  by_cases hji : j = i
  · subst hji
    have hl : j < lv.length := by
      have := (List.getElem?_eq_some_iff.mp hj).1
      simpa using this
    rw [List.getElem?_set_self hl] at hj
    cases hj
    exact hs.2.2 (j, toV g v) List.mem_cons_self
  · rw [List.getElem?_set_ne (Ne.symm hji)] at hj
    refine hs.2.2 (j, toV g w) (List.mem_cons_of_mem _ (List.mem_filter.mpr ⟨lvp_mem hj, ?_⟩))
    simp [hji, toV_cat]
/-- the judgement: from pc, with these locals, this stack, these cells, the end comes -/
abbrev ZT : Type := Heap → List Loc → Nat → Nat → Nat → Array Slot → List Value → Prop
def V (g : GD) (Z : ZT) (H0 : Heap) (nL : Nat) (L : List AE) (k n pc : Nat) (lv : List (Option AV)) (st : List AV) : Prop :=
  ∀ (H : Heap) (locs : List Loc) (ls : Array Slot), Hs g L H → va_S (fun q => g.2.2.1 ≤ q) H0 H locs → Lv g ls nL lv → Z H locs k n pc ls (st.map (toV g))
def Cx (g : GD) (Z : ZT) (H0 : Heap) (nL : Nat) (own : String) (cc : ByteArray) (nm : String) (rm : Room) : Prop :=
  ∃ (p : Program) (l : Launch) (e : Env) (s : State) (m : MethodId) (args : Array Value) (below : List Frame) (meth : Method) (c : Code) (QQ : State → Prop),
    (Z = fun H locs k n pc ls st => W p l e rm s m args below meth c H locs k n QQ (F0 m pc ls st)) ∧ H0 = s.heap ∧ p.tables.exec = Jvm.exec ∧ c.code = cc ∧ c.maxLocals = nL ∧ s.vm.findClass own = some m.cls ∧ (∀ w ∈ gt, w.before args s = true) ∧ Kk g s ∧ meth.name = nm ∧ g.2.2.1 ≤ s.heap.size
/-- a method: its name, its bytes, its locals, what it returns, its room -/
abbrev MD : Type := MethodName × ByteArray × Nat × Option FieldType × Room
def EvQ (g : GD) (Q : Option AV → List AE → Prop) : Array Value → State → Outcome → State → Prop := fun _ st o t => (∃ (v : Option AV) (L : List AE), o = .returned (v.map (toV g)) ∧ Q v L ∧ Hs g L t.heap) ∧ va_F (fun q => g.2.2.1 ≤ q) st t
def Ev (g : GD) (y : MD) (av : List AV) (L : List AE) (Q : Option AV → List AE → Prop) : Prop :=
  ∀ l : Launch, Met l y.1 (.code y.1 y.2.1 y.2.2.1 y.2.2.2.1 :: gt) y.2.2.2.2 (va_Pc (av.map (toV g)) (fun U => Hs g L U.heap ∧ Kk g U)) (EvQ g Q) y.2.2.2.2.cells y.2.2.2.2.slots (fun q => g.2.2.1 ≤ q)
abbrev EvP (g : GD) (y : MD) (av : List AV) (L : List AE) (v : Option AV) : Prop := Ev g y av L (fun v' L' => v' = v ∧ L' = L)
/-- what a return gives -/
def Rx (g : GD) (Z : ZT) (H0 : Heap) (cc : ByteArray) (rt : Option FieldType) (rm : Room) (Q : Option AV → List AE → Prop) : Prop :=
  ∃ (p : Program) (l : Launch) (e : Env) (s : State) (m : MethodId) (args : Array Value) (below : List Frame) (meth : Method) (c : Code),
    (Z = fun H locs k n pc ls st => W p l e rm s m args below meth c H locs k n (MQ below (EvQ g Q) args s rm.cells rm.slots (fun q => g.2.2.1 ≤ q)) (F0 m pc ls st)) ∧ H0 = s.heap ∧ p.tables.exec = Jvm.exec ∧ c.code = cc ∧ meth.sig.returnType = rt ∧ meth.locks = false
theorem Ev.of {g : GD} {y : MD} {av : List AV} {L : List AE} {Q : Option AV → List AE → Prop} (lv : List (Option AV)) (hy : plainName y.1.cls = true) (hlv : lv = av.map some ++ List.replicate (y.2.2.1 - av.length) none) (hn : av.length ≤ y.2.2.1)
    (body : ∀ (Z : ZT) (H0 : Heap), Cx g Z H0 y.2.2.1 y.1.cls y.2.1 y.1.name y.2.2.2.2 → Rx g Z H0 y.2.1 y.2.2.2.1 y.2.2.2.2 Q → V g Z H0 y.2.2.1 L 0 0 0 lv []) : Ev g y av L Q := by
  intro l
  refine Met.ofW (cc := y.2.1) (maxL := y.2.2.1) (ret := y.2.2.2.1) hy rfl ?_
  intro p e s m args below meth c s₁ B hml hv
  obtain ⟨rfl, hH, hK⟩ := hv
  have hts := atoms_spec (ws := .code y.1 y.2.1 y.2.2.1 y.2.2.2.1 :: gt) B.pre
  have hown : s.vm.findClass y.1.cls = some m.cls := findClass_of_methodNamed B.named
  have hnm : meth.name = y.1.name := (name_of_methodNamed B.named B.method).1
  have hg0 : g.2.2.1 ≤ s.heap.size := by rw [hH.1]; omega
  have key := body (fun H locs k n pc ls st => W p l e (headSpec (.code y.1 y.2.1 y.2.2.1 y.2.2.2.1 :: gt) y.2.2.2.2).room s m (av.map (toV g)).toArray below meth c H locs k n (MQ below (EvQ g Q) (av.map (toV g)).toArray s y.2.2.2.2.cells y.2.2.2.2.slots (fun q => g.2.2.1 ≤ q)) (F0 m pc ls st)) s.heap
    ⟨p, l, e, s, m, _, below, meth, c, _, rfl, rfl, B.exec, B.bytes, hml, hown, fun w hw => hts w (List.mem_cons_of_mem _ hw), hK, hnm, hg0⟩
    ⟨p, l, e, s, m, _, below, meth, c, rfl, rfl, B.exec, B.bytes, B.returns, B.notSynchronized⟩
  have hcat : ∀ vs : List AV, (lg_sl (vs.map (toV g))).length = vs.length ∧ ∀ (i j : Nat) (v : AV), vs[j]? = some v → (i + j, toV g v) ∈ lv_args i (vs.map (toV g)) := by
    intro vs
    induction vs with
    | nil => exact ⟨rfl, fun i j v h => by simp at h⟩
    | cons w vs ih =>
      have hc := toV_cat g w
      refine ⟨?_, fun i j v h => ?_⟩
      · have h1 : lg_sl (List.map (toV g) (w :: vs)) = Slot.val (toV g w) :: lg_sl (vs.map (toV g)) := by simp [lg_sl, hc]
        rw [h1, List.length_cons, List.length_cons, ih.1]
      · cases j with
        | zero => simp at h; subst h; simp [lv_args]
        | succ j =>
          simp only [List.map_cons, lv_args]
          rw [if_neg (by omega)]
          refine List.mem_cons_of_mem _ ?_
          have := ih.2 (i + 1) j v (by simpa using h)
          rw [show i + (j + 1) = i + 1 + j by omega]
          exact this
  have hl := lv_entry (av.map (toV g)) (n := y.2.2.1) (by rw [(hcat av).1]; exact hn)
  rw [lg_entry_eq]
  refine key s.heap [] _ hH va_S.rf ⟨hl.1, hl.2.1, ?_, fun i v hi => ?_⟩
  · rw [hlv]; simp; omega
  · rw [hlv] at hi
    by_cases hi2 : i < av.length
    · rw [List.getElem?_append_left (by simpa using hi2), List.getElem?_map] at hi
      have h3 : av[i]? = some v := by
        cases h4 : av[i]? with
        | none => rw [h4] at hi; cases hi
        | some z => rw [h4] at hi; cases hi; rfl
      have := (hcat av).2 0 i v h3
      rw [Nat.zero_add] at this
      exact hl.2.2 (i, toV g v) this
    · rw [List.getElem?_append_right (by simpa using Nat.not_lt.mp hi2)] at hi
      have := List.mem_of_getElem? hi
      rw [List.mem_replicate] at this
      cases this.2
