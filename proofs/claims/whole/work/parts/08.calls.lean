section AL1
variable {g : GD} {Z : ZT} {H0 : Heap} {nL : Nat} {own nm : String} {cc : ByteArray} {rm : Room} {L : List AE} {k n pc : Nat} {lv : List (Option AV)} {st : List AV}
theorem va_S.new1 {H H1 : Heap} {locs : List Loc} {A : Nat → Prop} (h : va_S A H0 H locs) (z : H1.size = H.size + 1) (oq : ∀ q : Nat, q < H.size → H1[q]? = H[q]?) : va_S A H0 H1 locs :=
  ⟨Nat.le_trans h.1 (by omega), fun x h1 h2 => (oq x (Nat.lt_of_lt_of_le h1 h.1)).trans (h.2.1 x h1 h2), h.2.2⟩
/-- fields of a new object: as their types have them -/
def dfl (ty : FieldType) : AV := match ty with
  | .object _ => aN
  | .array _ => aN
  | _ => aI 0
theorem dfl_ok (g : GD) {ty : FieldType} (h : ty = .int ∨ ty = .boolean ∨ (∃ s, ty = .object s) ∨ ∃ t, ty = .array t) : defaultValue ty = toV g (dfl ty) := by
  rcases h with rfl | rfl | ⟨s, rfl⟩ | ⟨t, rfl⟩ <;> rfl
theorem V.new (C : Cx g Z H0 nL own cc nm rm) {index ci k' n' : Nat} {q : vw_C} {fs : List AV} (hcl : Cond.classLink own index q.1 ∈ gt) (hins : Cond.instantiable q.1 q.2.2 ∈ gt) (hini : Cond.initialized q.1 ∈ gt) (hq : xcl[ci]? = some q) (hfs : ∀ j, j < q.2.2 → ∃ ty, parseFieldDescriptor (q.2.1 j).2.2.1 = some ty ∧ fs[j]? = some (dfl ty) ∧ (ty = .int ∨ ty = .boolean ∨ (∃ s, ty = .object s) ∨ ∃ t, ty = .array t)) (hd : decode cc pc = .ok (.new index, 3)) (hk : k + 1 = k') (hn : n + q.2.2 = n') (hc : k' ≤ rm.cells) (hsl : n' ≤ rm.slots)
    (kk : V g Z H0 nL (L ++ [eO ci fs]) k' n' (pc + 3) lv (aR L.length :: st)) : V g Z H0 nL L k n pc lv st := by
  obtain ⟨p, l, e, s, m, args, below, meth, c, QQ, rfl, rfl, hx, hb, hml, hown, hts, hK, hnm, hg0⟩ := C
  subst hk hn
  intro H locs ls hH hS hlv
  obtain ⟨hin, ⟨ty0, hty⟩, hnmq⟩ := xcl_ok hq
  have hKn := hK.1.1 ci _ hq
  refine W.newcK hx hb hown (hts _ hcl) (hts _ hins) (hts _ hini) rfl hd hc hsl hKn.2.1 hH.1 fun H1 kC hkC e1 z1 o1 => ?_
  have o2 : ∀ x, x < H.size → H1[x]? = H[x]? := fun x hx => o1 x (by rw [← hH.1]; exact hx)
  have z2 : H1.size = H.size + 1 := by rw [z1, hH.1]
  refine kk H1 locs ls (hH.push (e := eO ci fs) ?_ z2 o2) (hS.new1 z2 o2) hlv
  refine ⟨q, hq, (u_born ty0 hts hin hKn hkC e1 hty).to (fun j hj => ?_)⟩
  obtain ⟨ty, h1, h2, h3⟩ := hfs j hj
  have e2 : ty0 j = ty := Option.some.inj ((hty j hj).symm.trans h1)
  rw [e2, dfl_ok g h3]
  show _ = vp_V (fs.map (toV g)) j
  simp [vp_V, h2]
theorem V.newI (C : Cx g Z H0 nL own cc nm rm) {x : Int32} {N k' n' : Nat} (hw : Cond.arrayClass .int ∈ gt) (hd : decode cc pc = .ok (.newarray .int, 2)) (h0 : ¬ x < 0) (hN : x.toNatClampNeg = N) (hby : N * 4 ≤ 536870912) (hk : k + 1 = k') (hn : n + N = n') (hc : k' ≤ rm.cells) (hsl : n' ≤ rm.slots)
    (kk : V g Z H0 nL (L ++ [eA 0 N (fun _ => 0)]) k' n' (pc + 2) lv (aR L.length :: st)) : V g Z H0 nL L k n pc lv (aI x :: st) := by
  obtain ⟨p, l, e, s, m, args, below, meth, c, QQ, rfl, rfl, hx, hb, hml, hown, hts, hK, hnm, hg0⟩ := C
  subst hk hn
  intro H locs ls hH hS hlv
  refine va_newaK hx hb (atype := .int) (hts _ hw) rfl hd rfl h0 hN hby hc hsl hH.1 fun H1 cA e1 z1 o1 hAr hNm => ?_
  have hcA : cA = g.2.1 0 := by
    have := (hK.1.2 0 (g.2.1 0, .int) rfl).2
    exact Option.some.inj (hNm.symm.trans this)
  subst hcA
  have o2 : ∀ x, x < H.size → H1[x]? = H[x]? := fun x hx => o1 x (by rw [← hH.1]; exact hx)
  have z2 : H1.size = H.size + 1 := by rw [z1, hH.1]
  exact kk H1 locs ls (hH.push (e := eA 0 N (fun _ => 0)) e1 z2 o2) (hS.new1 z2 o2) hlv
theorem V.newZ (C : Cx g Z H0 nL own cc nm rm) {x : Int32} {N k' n' : Nat} (hw : Cond.arrayClass .boolean ∈ gt) (hd : decode cc pc = .ok (.newarray .boolean, 2)) (h0 : ¬ x < 0) (hN : x.toNatClampNeg = N) (hby : N * componentBytes .boolean ≤ 536870912) (hk : k + 1 = k') (hn : n + N = n') (hc : k' ≤ rm.cells) (hsl : n' ≤ rm.slots)
    (kk : V g Z H0 nL (L ++ [eA 1 N (fun _ => 0)]) k' n' (pc + 2) lv (aR L.length :: st)) : V g Z H0 nL L k n pc lv (aI x :: st) := by
  obtain ⟨p, l, e, s, m, args, below, meth, c, QQ, rfl, rfl, hx, hb, hml, hown, hts, hK, hnm, hg0⟩ := C
  subst hk hn
  intro H locs ls hH hS hlv
  refine va_newaK hx hb (atype := .boolean) (hts _ hw) rfl hd rfl h0 hN hby hc hsl hH.1 fun H1 cA e1 z1 o1 hAr hNm => ?_
  have hcA : cA = g.2.1 1 := by
    have := (hK.1.2 1 (g.2.1 1, .boolean) rfl).2
    exact Option.some.inj (hNm.symm.trans this)
  subst hcA
  have o2 : ∀ x, x < H.size → H1[x]? = H[x]? := fun x hx => o1 x (by rw [← hH.1]; exact hx)
  have z2 : H1.size = H.size + 1 := by rw [z1, hH.1]
  exact kk H1 locs ls (hH.push (e := eA 1 N (fun _ => 0)) e1 z2 o2) (hS.new1 z2 o2) hlv
theorem arC_AO {g : GD} {s : State} (hK : Kk g s) {t : Nat} (h : 2 ≤ t ∧ t ≤ 5) : va_AO (arC t) s := by
  obtain ⟨h1, h2⟩ := h
  obtain ⟨-, ⟨a, b, c, d⟩, -⟩ := hK
  match t, h1, h2 with
  | 2, _, _ => exact a
  | 3, _, _ => exact b
  | 4, _, _ => exact c
  | 5, _, _ => exact d
theorem V.newQ (C : Cx g Z H0 nL own cc nm rm) {index t : Nat} {x : Int32} {N k' n' : Nat} (ht : 2 ≤ t ∧ t ≤ 5) (hcl : Cond.classLink own index (arC t) ∈ gt) (hd : decode cc pc = .ok (.anewarray index, 3)) (h0 : ¬ x < 0) (hN : x.toNatClampNeg = N) (hby : N * 4 ≤ 536870912) (hk : k + 1 = k') (hn : n + N = n') (hc : k' ≤ rm.cells) (hsl : n' ≤ rm.slots)
    (kk : V g Z H0 nL (L ++ [eQ t N (fun _ => none)]) k' n' (pc + 3) lv (aR L.length :: st)) : V g Z H0 nL L k n pc lv (aI x :: st) := by
  obtain ⟨p, l, e, s, m, args, below, meth, c, QQ, rfl, rfl, hx, hb, hml, hown, hts, hK, hnm, hg0⟩ := C
  subst hk hn
  subst hN
  intro H locs ls hH hS hlv
  refine W.anew hx hb hown (hts _ hcl) (va_AO.use (arC_AO hK ht)) rfl hd rfl h0 hby hc hsl fun cA kA comp f1 f2 f3 f4 => ?_
  generalize hH1 : H.push ({ cls := cA, slots := Array.replicate x.toNatClampNeg .null, vm := .none } : Cell) = H1
  have z1 : H1.size = H.size + 1 := by rw [← hH1, Array.size_push]
  have e1 : H1[H.size]? = some (arrV cA x.toNatClampNeg (fun _ => .null)) := by rw [← hH1, Array.getElem?_push_size, ← arrV_new]
  have o1 : ∀ q : Nat, q < H.size → H1[q]? = H[q]? := fun q hq => by rw [← hH1, Array.getElem?_push, if_neg (Nat.ne_of_lt hq)]
  have hcA : cA = g.2.1 t := by
    obtain ⟨kA', comp', k1, k2, k3, k4⟩ := (hK.1.2 t _ (arC_ok g ht)).2
    exact Option.some.inj (f1.symm.trans k4)
  subst hcA
  have hz : H.size = g.2.2.1 + L.length := hH.1
  rw [hz] at e1 ⊢
  exact kk H1 locs ls (hH.push (e := eQ t x.toNatClampNeg (fun _ => none)) e1 (by rw [z1]) o1) (hS.new1 z1 o1) hlv
theorem V.objInit (C : Cx g Z H0 nL own cc nm rm) {index a : Nat} (hl : Cond.methodLink own index objectInit ∈ gt) (hi : Cond.instanceMethod objectInit ∈ gt) (hco : Cond.code objectInit ⟨#[0xb1]⟩ 1 none ∈ gt) (hd : decode cc pc = .ok (.invokespecial index, 3)) (hst : st.length ≤ 4) (hf : 1 ≤ rm.frames ∧ 16 ≤ rm.locals) (kk : V g Z H0 nL L k n (pc + 3) lv st) : V g Z H0 nL L k n pc lv (aR a :: st) := by
  obtain ⟨p, l, e, s, m, args, below, meth, c, QQ, rfl, rfl, hx, hb, hml, hown, hts, hK, hnm, hg0⟩ := C
  intro H locs ls hH hS hlv
  have hsum : ((st.map (toV g)).map fun v => v.category).sum = st.length := by
    clear kk hd hst hf
    induction st with
    | nil => rfl
    | cons v vs ih => simp only [List.map_cons, List.sum_cons, ih, toV_cat, List.length_cons]; omega
  refine W.objInit hx hb hown (hts _ hl) (hts _ hi) (hts _ hco) rfl (by show ls.size = _; rw [hml]; exact hlv.1) rfl hd hf.1 (by show 2 * 0 + _ + 12 ≤ _; rw [hsum]; omega) ?_
  exact kk H locs ls hH hS hlv
theorem cat_sum (g : GD) (st : List AV) : ((st.map (toV g)).map fun v => v.category).sum = st.length := by
  induction st with
  | nil => rfl
  | cons v vs ih => simp only [List.map_cons, List.sum_cons, ih, toV_cat, List.length_cons]; omega
theorem V.widen {k' n' : Nat} (C : Cx g Z H0 nL own cc nm rm) (hk : k ≤ k') (hn : n ≤ n') (kk : V g Z H0 nL L k' n' pc lv st) : V g Z H0 nL L k n pc lv st := by
  obtain ⟨p, l, e, s, m, args, below, meth, c, QQ, rfl, rfl, -⟩ := C
  intro H locs ls hH hS hlv
  exact W.widen hk hn (kk H locs ls hH hS hlv)
/-! calls -/
/-- a callee's own words -/
def MO (y : MD) (n : Nat) : Prop := Cond.code y.1 y.2.1 y.2.2.1 y.2.2.2.1 ∈ gt ∧ Cond.initialized y.1.cls ∈ gt ∧ (y.1.cls ≠ "java/lang/invoke/MethodHandle" ∧ y.1.cls ≠ "java/lang/invoke/VarHandle") ∧ (parseMethodDescriptor y.1.desc).map (fun d => d.parameters.length) = some n
def RmOk (y : MD) (rm : Room) (k n : Nat) : Prop := y.2.2.2.2.frames + 1 ≤ rm.frames ∧ 8 + (y.2.2.1 + 11) + y.2.2.2.2.locals ≤ rm.locals ∧ k + y.2.2.2.2.cells ≤ rm.cells ∧ n + y.2.2.2.2.slots ≤ rm.slots
theorem Pc_blind {g : GD} {av : List AV} {L : List AE} : FrameBlind (va_Pc (av.map (toV g)) (fun U => Hs g L U.heap ∧ Kk g U)) := by
  intro a U f mk h
  obtain ⟨h1, h2, h3⟩ := h
  exact ⟨h1, h2, Kk.same rfl h3⟩
theorem V.after {p : Program} {l : Launch} {e : Env} {s : State} {m : MethodId} {args : Array Value} {below : List Frame} {meth : Method} {c : Code} {QQ : State → Prop} {H : Heap} {locs : List Loc} {ls : Array Slot} {stk rest : List Value} {Q : Option AV → List AE → Prop} {mc ms : Nat} {a : Array Value}
    (hr : va_Run p l e rm s m args below meth c H locs k n mc ms (F0 m pc ls stk) rest (EvQ g Q a) (fun q => g.2.2.1 ≤ q)) (hS : va_S (fun q => g.2.2.1 ≤ q) s.heap H locs)
    (kk : ∀ (v : Option AV) (L1 : List AE) (H1 : Heap) (locs1 : List Loc), Q v L1 → Hs g L1 H1 → va_S (fun q => g.2.2.1 ≤ q) s.heap H1 locs1 → W p l e rm s m args below meth c H1 locs1 (k + mc) (n + ms) QQ (F0 m (pc + 3) ls ((v.map (toV g)).toList ++ rest))) : W p l e rm s m args below meth c H locs k n QQ (F0 m pc ls stk) := by
  intro T hT X
  obtain ⟨v, st₀, t, T', L2, h0, X', hL, e1, e2, ⟨⟨v', L1, hv, hq, hH1⟩, hz, hk⟩, st⟩ := hr T hT X
  cases hv
  rw [h0] at hz hk
  obtain ⟨t2, a1, b1⟩ := kk v' L1 T'.heap (locs ++ L2) hq (by rw [e1]; exact hH1) ⟨Nat.le_trans hS.1 (by rw [e1]; exact hz), fun q h1 h2 => by rw [e1, hk q (Nat.lt_of_lt_of_le h1 hS.1) h2]; exact hS.2.1 q h1 h2, fun q hq => by
      rcases List.mem_append.mp hq with h | h
      · exact hS.2.2 q h
      · exact hL q h⟩ T' rfl X'
  exact ⟨t2, st t2 a1, b1⟩
theorem V.callV (C : Cx g Z H0 nL own cc nm rm) {index a ci np : Nat} {y : MD} {As rest stk : List AV} {fs : List AV} {q : vw_C} {Q : Option AV → List AE → Prop} (hm : MO y np) (hi : Cond.instanceMethod y.1 ∈ gt) (hse : Cond.selects y.1.cls y.1 y.1 ∈ gt) (hl : Cond.methodLink own index y.1 ∈ gt) (hev : Ev g y (aR a :: As) L Q) (hd : decode cc pc = .ok (.invokevirtual index, 3)) (hstk : stk = As.reverse ++ aR a :: rest) (hlen : As.length = np) (hL : L[a]? = some (eO ci fs)) (hq : xcl[ci]? = some q) (hqn : q.1 = y.1.cls) (hrl : rest.length ≤ 8) (hroom : RmOk y rm k n)
    (kk : ∀ (v : Option AV) (L1 : List AE), Q v L1 → V g Z H0 nL L1 (k + y.2.2.2.2.cells) (n + y.2.2.2.2.slots) (pc + 3) lv (v.toList ++ rest)) : V g Z H0 nL L k n pc lv stk := by
  obtain ⟨p, l, e, s, m, args, below, meth, c, QQ, rfl, rfl, hx, hb, hml, hown, hts, hK, hnm, hg0⟩ := C
  obtain ⟨hc, hin, hnn, hd2⟩ := hm
  subst hstk
  intro H locs ls hH hS hlv
  have hstack : (As.reverse ++ aR a :: rest).map (toV g) = (As.map (toV g)).reverse ++ Value.ref (g.2.2.1 + a) :: rest.map (toV g) := by simp [toV, va_rf]
  rw [hstack]
  have hcw : CallW rm s args own y.1.cls index y.1 y.2.1 y.2.2.1 y.2.2.2.1 (.code y.1 y.2.1 y.2.2.1 y.2.2.2.1 :: gt) y.2.2.2.2 y.2.2.2.2.cells y.2.2.2.2.slots np :=
    ⟨callB_of np hts (gt_good hc) rfl rfl rfl (hts _ hin) (hts _ hl) ⟨hnn.1, hnn.2, hd2⟩ ⟨hroom.1, hroom.2.1⟩, hts _ hi, hts _ hse⟩
  have hrun := va_runV (p := p) (l := l) (e := e) (R := rm) (s := s) (m := m) (args := args) (below := below) (meth := meth) (c := c) (H := H) (locs := locs) (cells := k) (slots := n) (g := F0 m pc ls ((As.map (toV g)).reverse ++ Value.ref (g.2.2.1 + a) :: rest.map (toV g))) (b := g.2.2.1 + a) (As := As.map (toV g)) (rest := rest.map (toV g)) (nL := nL) (Ts := gt) ⟨hx, hb, hml, hown, hts⟩ (hev l) hcw
    ⟨Pc_blind, by rw [← hqn]; exact va_recv hK.1 (hH.P hL) hq (q0 := 0) (by rfl), fun U hU hW => ⟨rfl, by rw [hU]; exact hH, hK.warm hW⟩⟩ rfl (by simpa using hlen) hlv.1 rfl (by show 2 * 0 + _ ≤ 8; rw [cat_sum]; omega) hd ⟨hroom.2.2.1, hroom.2.2.2⟩
  refine V.after hrun hS (fun v L1 H1 locs1 hv1 hH1 hS1 => ?_)
  have := kk v L1 hv1 H1 locs1 ls hH1 hS1 hlv
  have e3 : (v.toList ++ rest).map (toV g) = (v.map (toV g)).toList ++ rest.map (toV g) := by cases v <;> rfl
  rw [e3] at this
  exact this
theorem V.callS (C : Cx g Z H0 nL own cc nm rm) {index np : Nat} {y : MD} {As rest stk : List AV} {Q : Option AV → List AE → Prop} (hm : MO y np) (hi : Cond.static y.1 ∈ gt) (hl : Cond.methodLink own index y.1 ∈ gt) (hev : Ev g y As L Q) (hd : decode cc pc = .ok (.invokestatic index, 3)) (hstk : stk = As.reverse ++ rest) (hlen : As.length = np) (hrl : rest.length ≤ 8) (hroom : RmOk y rm k n)
    (kk : ∀ (v : Option AV) (L1 : List AE), Q v L1 → V g Z H0 nL L1 (k + y.2.2.2.2.cells) (n + y.2.2.2.2.slots) (pc + 3) lv (v.toList ++ rest)) : V g Z H0 nL L k n pc lv stk := by
  obtain ⟨p, l, e, s, m, args, below, meth, c, QQ, rfl, rfl, hx, hb, hml, hown, hts, hK, hnm, hg0⟩ := C
  obtain ⟨hc, hin, hnn, hd2⟩ := hm
  subst hstk
  intro H locs ls hH hS hlv
  have hstack : (As.reverse ++ rest).map (toV g) = (As.map (toV g)).reverse ++ rest.map (toV g) := by simp
  rw [hstack]
  have hcw : CallB rm s args own index y.1 y.2.1 y.2.2.1 y.2.2.2.1 (.code y.1 y.2.1 y.2.2.1 y.2.2.2.1 :: gt) y.2.2.2.2 y.2.2.2.2.cells y.2.2.2.2.slots np :=
    callB_of np hts (gt_good hc) rfl rfl rfl (hts _ hin) (hts _ hl) ⟨hnn.1, hnn.2, hd2⟩ ⟨hroom.1, hroom.2.1⟩
  have hrun := va_runS (p := p) (l := l) (e := e) (R := rm) (s := s) (m := m) (args := args) (below := below) (meth := meth) (c := c) (H := H) (locs := locs) (cells := k) (slots := n) (g := F0 m pc ls ((As.map (toV g)).reverse ++ rest.map (toV g))) (As := As.map (toV g)) (rest := rest.map (toV g)) (nL := nL) (Ts := gt) ⟨hx, hb, hml, hown, hts⟩ (hev l) ⟨hcw, hts _ hi⟩
    ⟨Pc_blind, fun U hU hW => ⟨rfl, by rw [hU]; exact hH, hK.warm hW⟩⟩ rfl (by simpa using hlen) hlv.1 rfl (by show 2 * 0 + _ ≤ 8; rw [cat_sum]; omega) hd ⟨hroom.2.2.1, hroom.2.2.2⟩
  refine V.after hrun hS (fun v L1 H1 locs1 hv1 hH1 hS1 => ?_)
  have := kk v L1 hv1 H1 locs1 ls hH1 hS1 hlv
  have e3 : (v.toList ++ rest).map (toV g) = (v.map (toV g)).toList ++ rest.map (toV g) := by cases v <;> rfl
  rw [e3] at this
  exact this
theorem V.callI (C : Cx g Z H0 nL own cc nm rm) {index a np : Nat} {y : MD} {As rest stk : List AV} {Q : Option AV → List AE → Prop} (hm : MO y np) (hrt : y.2.2.2.1 = none) (hi : Cond.instanceMethod y.1 ∈ gt) (hnm : y.1.name = "<init>") (hl : Cond.methodLink own index y.1 ∈ gt) (hev : Ev g y (aR a :: As) L Q) (hd : decode cc pc = .ok (.invokespecial index, 3)) (hstk : stk = As.reverse ++ aR a :: rest) (hlen : As.length = np) (hrl : rest.length ≤ 8) (hroom : RmOk y rm k n)
    (kk : ∀ (v : Option AV) (L1 : List AE), Q v L1 → V g Z H0 nL L1 (k + y.2.2.2.2.cells) (n + y.2.2.2.2.slots) (pc + 3) lv (v.toList ++ rest)) : V g Z H0 nL L k n pc lv stk := by
  obtain ⟨p, l, e, s, m, args, below, meth, c, QQ, rfl, rfl, hx, hb, hml, hown, hts, hK, hnm0, hg0⟩ := C
  obtain ⟨y1, y2, y3, y4, y5⟩ := y
  simp only at hrt
  subst hrt
  obtain ⟨hc, hin, hnn, hd2⟩ := hm
  subst hstk
  intro H locs ls hH hS hlv
  have hstack : (As.reverse ++ aR a :: rest).map (toV g) = (As.map (toV g)).reverse ++ Value.ref (g.2.2.1 + a) :: rest.map (toV g) := by simp [toV, va_rf]
  rw [hstack]
  have hcw := callB_of (R := rm) (rm := y5) (mc := y5.cells) (ms := y5.slots) np hts (gt_good hc) rfl rfl rfl (hts _ hin) (hts _ hl) ⟨hnn.1, hnn.2, hd2⟩ ⟨hroom.1, hroom.2.1⟩
  have hrun := va_runI (p := p) (l := l) (e := e) (R := rm) (s := s) (m := m) (args := args) (below := below) (meth := meth) (c := c) (H := H) (locs := locs) (cells := k) (slots := n) (g := F0 m pc ls ((As.map (toV g)).reverse ++ Value.ref (g.2.2.1 + a) :: rest.map (toV g))) (b := g.2.2.1 + a) (As := As.map (toV g)) (rest := rest.map (toV g)) (nL := nL) (Ts := gt) ⟨hx, hb, hml, hown, hts⟩ (hev l) ⟨hcw, hnm, hts _ hi⟩
    ⟨Pc_blind, fun U hU hW => ⟨rfl, by rw [hU]; exact hH, hK.warm hW⟩⟩ rfl (by simpa using hlen) hlv.1 rfl (by show 2 * 0 + _ ≤ 8; rw [cat_sum]; omega) hd ⟨hroom.2.2.1, hroom.2.2.2⟩
  refine V.after hrun hS (fun v L1 H1 locs1 hv1 hH1 hS1 => ?_)
  have := kk v L1 hv1 H1 locs1 ls hH1 hS1 hlv
  have e3 : (v.toList ++ rest).map (toV g) = (v.map (toV g)).toList ++ rest.map (toV g) := by cases v <;> rfl
  rw [e3] at this
  exact this
theorem V.callIN (C : Cx g Z H0 nL own cc nm rm) {index a np : Nat} {host : String} {y : MD} {As rest stk : List AV} {Q : Option AV → List AE → Prop} (hm : MO y np) (hrt : y.2.2.2.1 = none) (hi : Cond.instanceMethod y.1 ∈ gt) (hnm : y.1.name = "<init>") (hl : ∀ s, Kk g s → va_Nw (.methodLinkNest own index y.1 host) s) (hev : Ev g y (aR a :: As) L Q) (hd : decode cc pc = .ok (.invokespecial index, 3)) (hstk : stk = As.reverse ++ aR a :: rest) (hlen : As.length = np) (hrl : rest.length ≤ 8) (hroom : RmOk y rm k n)
    (kk : ∀ (v : Option AV) (L1 : List AE), Q v L1 → V g Z H0 nL L1 (k + y.2.2.2.2.cells) (n + y.2.2.2.2.slots) (pc + 3) lv (v.toList ++ rest)) : V g Z H0 nL L k n pc lv stk := by
  obtain ⟨p, l, e, s, m, args, below, meth, c, QQ, rfl, rfl, hx, hb, hml, hown, hts, hK, hnm0, hg0⟩ := C
  obtain ⟨y1, y2, y3, y4, y5⟩ := y
  simp only at hrt
  subst hrt
  obtain ⟨hc, hin, hnn, hd2⟩ := hm
  subst hstk
  intro H locs ls hH hS hlv
  have hstack : (As.reverse ++ aR a :: rest).map (toV g) = (As.map (toV g)).reverse ++ Value.ref (g.2.2.1 + a) :: rest.map (toV g) := by simp [toV, va_rf]
  rw [hstack]
  have hcw := va_cnB (R := rm) (rm := y5) (mc := y5.cells) (ms := y5.slots) np hts (gt_good hc) rfl rfl rfl (hl s hK) (hts _ hin) ⟨hnn.1, hnn.2, hd2⟩ ⟨hroom.1, hroom.2.1⟩
  have hrun := va_runIN (p := p) (l := l) (e := e) (R := rm) (s := s) (m := m) (args := args) (below := below) (meth := meth) (c := c) (H := H) (locs := locs) (cells := k) (slots := n) (g := F0 m pc ls ((As.map (toV g)).reverse ++ Value.ref (g.2.2.1 + a) :: rest.map (toV g))) (b := g.2.2.1 + a) (As := As.map (toV g)) (rest := rest.map (toV g)) (nL := nL) (Ts := gt) ⟨hx, hb, hml, hown, hts⟩ (hev l) ⟨hcw, hnm, hts _ hi⟩
    ⟨Pc_blind, fun U hU hW => ⟨rfl, by rw [hU]; exact hH, hK.warm hW⟩⟩ rfl (by simpa using hlen) hlv.1 rfl (by show 2 * 0 + _ ≤ 8; rw [cat_sum]; omega) hd ⟨hroom.2.2.1, hroom.2.2.2⟩
  refine V.after hrun hS (fun v L1 H1 locs1 hv1 hH1 hS1 => ?_)
  have := kk v L1 hv1 H1 locs1 ls hH1 hS1 hlv
  have e3 : (v.toList ++ rest).map (toV g) = (v.map (toV g)).toList ++ rest.map (toV g) := by cases v <;> rfl
  rw [e3] at this
  exact this
/-! returns -/
theorem V.iret {rt : FieldType} {Q : Option AV → List AE → Prop} {x : Int32} (X : Rx g Z H0 cc (some rt) rm Q) (hd : decode cc pc = .ok (.ireturn, 1)) (hn : narrow rt (.int x) = .int x) (hk : k ≤ rm.cells) (hsl : n ≤ rm.slots) (hq : Q (some (aI x)) L) : V g Z H0 nL L k n pc lv [aI x] := by
  obtain ⟨p, l, e, s, m, args, below, meth, c, rfl, rfl, hx, hb, hr, hlocks⟩ := X
  intro H locs ls hH hS hlv
  refine W.widen hk hsl ?_
  exact W.zret hx hb hr hn (fun t ht hW => ⟨⟨some (aI x), L, rfl, hq, by rw [ht]; exact hH⟩, hS.F ht⟩) hS.2.2 hd
theorem V.vret {Q : Option AV → List AE → Prop} (X : Rx g Z H0 cc none rm Q) (hd : decode cc pc = .ok (.return_, 1)) (hk : k ≤ rm.cells) (hsl : n ≤ rm.slots) (hq : Q none L) : V g Z H0 nL L k n pc lv [] := by
  obtain ⟨p, l, e, s, m, args, below, meth, c, rfl, rfl, hx, hb, hr, hlocks⟩ := X
  intro H locs ls hH hS hlv
  refine W.widen hk hsl ?_
  exact W.vret hx hb hr (fun t ht hW => ⟨⟨none, L, rfl, hq, by rw [ht]; exact hH⟩, hS.F ht⟩) hS.2.2 hd
theorem V.aret {rt : FieldType} {Q : Option AV → List AE → Prop} {o : Option Nat} (X : Rx g Z H0 cc (some rt) rm Q) (hd : decode cc pc = .ok (.areturn, 1)) (hrt : (∃ n, rt = .object n) ∨ ∃ t, rt = .array t) (hk : k ≤ rm.cells) (hsl : n ≤ rm.slots) (hq : Q (some (aO o)) L) : V g Z H0 nL L k n pc lv [aO o] := by
  obtain ⟨p, l, e, s, m, args, below, meth, c, rfl, rfl, hx, hb, hr, hlocks⟩ := X
  intro H locs ls hH hS hlv
  refine W.widen hk hsl ?_
  refine W.aret (v := toV g (aO o)) hx hb hr hrt ?_ (fun t ht hW => ⟨⟨some (aO o), L, rfl, hq, by rw [ht]; exact hH⟩, hS.F ht⟩) hS.2.2 hd
  cases o with
  | none => exact Or.inl rfl
  | some a => exact Or.inr ⟨_, rfl⟩
end AL1
