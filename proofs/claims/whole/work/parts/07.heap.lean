/-- a field link: class own, entry index: field kf of class ci -/
def FL (own : String) (index ci kf : Nat) (ty : FieldType) (fin : Bool) : Prop := ∃ q : vw_C, xcl[ci]? = some q ∧ kf < q.2.2 ∧ Cond.fieldLink own index (q.2.1 kf).1 (q.2.1 kf).2.1 (q.2.1 kf).2.2.1 ∈ gt ∧ parseFieldDescriptor (q.2.1 kf).2.2.1 = some ty ∧ (q.2.1 kf).2.2.2 = fin ∧ (fin = true → (q.2.1 kf).1 = own)
def FG (own : String) (index ci kf : Nat) : Prop := ∃ q : vw_C, xcl[ci]? = some q ∧ kf < q.2.2 ∧ Cond.fieldLink own index (q.2.1 kf).1 (q.2.1 kf).2.1 (q.2.1 kf).2.2.1 ∈ gt
section HP1
variable {g : GD} {Z : ZT} {H0 : Heap} {nL : Nat} {own nm : String} {cc : ByteArray} {rm : Room} {L : List AE} {k n pc : Nat} {lv : List (Option AV)} {st : List AV}
theorem V.get (C : Cx g Z H0 nL own cc nm rm) {index ci kf a : Nat} {fs : List AV} {v : AV} (hf : FG own index ci kf) (hd : decode cc pc = .ok (.getfield index, 3)) (hL : L[a]? = some (eO ci fs)) (hv : fs[kf]? = some v) (kk : V g Z H0 nL L k n (pc + 3) lv (v :: st)) : V g Z H0 nL L k n pc lv (aR a :: st) := by
  obtain ⟨p, l, e, s, m, args, below, meth, c, QQ, rfl, rfl, hx, hb, hml, hown, hts, hK, -⟩ := C
  obtain ⟨⟨CN, T, N⟩, hq, hk, hl⟩ := hf
  intro H locs ls hH hS hlv
  have hv' : (fs.map (toV g))[kf]? = some (toV g v) := by rw [List.getElem?_map, hv]; rfl
  exact va_get (D := g.1) (cl := xcl) (ci := ci) (v := toV g v) hx hb hts (xcl_ok hq).1 hown hK.1 (hH.P hL) 0 (by rfl) hq kf hk (hts _ hl) (fun _ h => h) hv' hd (kk H locs ls hH hS hlv)
theorem x_put {p : Program} {l : Launch} {e : Env} {R : Room} {s : State} {m : MethodId} {args : Array Value} {below : List Frame} {meth : Method} {c : Code} {H : Heap} {locs : List Loc} {cells slots : Nat} {Q : State → Prop} {ls : Array Slot} {rest : List Value} {D : va_G} {a : Nat} {tys : List (ClassId × FieldType)}
    (hexec : p.tables.exec = Jvm.exec) (hb : c.code = cc) {ref : String} {q : vw_C} {ci index : Nat} (hts : ∀ w ∈ gt, w.before args s = true) (hown : s.vm.findClass own = some m.cls) (hK : va_K D xcl tys s) {fs : List Value} (hat : va_at D xcl (a, .inr (ci, fs)) H) (hc : xcl[ci]? = some q) (kf : Nat) (hk : kf < q.2.2) (hlink : (Cond.fieldLink own index (q.2.1 kf).1 (q.2.1 kf).2.1 (q.2.1 kf).2.2.1).before args s = true) {fin : Bool} (hfin : (q.2.1 kf).2.2.2 = fin) (hin2 : fin = true → meth.name = "<init>" ∧ (q.2.1 kf).1 = own) {ty : FieldType} {v : Value} (hd : parseFieldDescriptor (q.2.1 kf).2.2.1 = some ty) (hn : narrow ty v = v) (hfit : fits ty v = true) (hl : kf < fs.length)
    (hdg : decode cc pc = .ok (.putfield index, 3)) (kk : ∀ (H1 : Heap) (lo : Loc), lo.base = a → va_at D xcl (a, .inr (ci, fs.set kf v)) H1 → H1.size = H.size → (∀ x : Nat, x ≠ a → H1[x]? = H[x]?) → W p l e R s m args below meth c H1 (locs ++ [lo]) cells slots Q (F0 m (pc + 3) ls rest)) : W p l e R s m args below meth c H locs cells slots Q (F0 m pc ls (v :: .ref a :: rest)) := by
  obtain ⟨hin, ⟨ty0, hty⟩, hnm⟩ := xcl_ok hc
  have hap := va_apart (own := own) hts hin ty0 hty hnm hK hc
  obtain ⟨r, h1, cell, q1, q2, q3, q4⟩ := hat
  have hr : r = q := Option.some.inj (h1.symm.trans hc)
  subst hr
  obtain ⟨hS, hfc, kC, hkC, hkind⟩ := hK.1 ci _ hc
  obtain ⟨cf, kf', fi, f, hi, hsl⟩ := hS kf hk
  have hlay := hts _ (hin _ (u_in_lay hk))
  unfold u_lay at hlay
  have hst := (u_facts hfc hkC (u_lays hts hin hk) hi).1
  cases fin with
  | false =>
    rw [if_neg (by rw [hfin]; decide)] at hlay
    have h6 := u_store hfc hkC hkind hlay hi hd hn hfit
    refine W.putK hexec hb (f := f) ⟨hown, hlink, ⟨_, _, _, hi⟩, hst⟩ (by rw [q2]; exact h6) q1 q3 (by rw [hsl]; exact k2_hasslot (q4 kf hk)) rfl rfl hdg fun H' e1 e2 e3 => ?_
    rw [hsl] at e1 ⊢
    exact kk H' _ rfl ⟨_, hc, t_OB.to (V := updV (vp_V fs) kf v) ⟨_, e1, q2, q3, t_set q4 hap hk v⟩ (fun j _ => vp_updV_set hl v j)⟩ e2 e3
  | true =>
    rw [if_pos hfin] at hlay
    have hcf : m.cls = cf := by
      obtain ⟨_, _, c', _, _, _, -, -, hf', -, -, -, hown2, -⟩ := Cond.laysFinal_spec hlay
      have e1 : c' = cf := by have := hi.symm.trans hf'; simp at this; exact this.1.symm
      rw [(hin2 rfl).2] at hown2
      rw [← e1]; exact Option.some.inj (hown.symm.trans hown2)
    have h6 := u_fits hfc hkC hkind (Or.inr hlay) hi hd hn hfit
    refine W.putFinK hexec hb hown hlink hi hst hcf (hin2 rfl).1 (by rw [q2]; exact h6) q1 q3 (by rw [hsl]; exact k2_hasslot (q4 kf hk)) rfl rfl hdg fun H' e1 e2 e3 => ?_
    rw [hsl] at e1 ⊢
    exact kk H' _ rfl ⟨_, hc, t_OB.to (V := updV (vp_V fs) kf v) ⟨_, e1, q2, q3, t_set q4 hap hk v⟩ (fun j _ => vp_updV_set hl v j)⟩ e2 e3
theorem va_S.put1 {g : GD} {H H1 : Heap} {locs : List Loc} {a : Nat} {lo : Loc} (h : va_S (fun q => g.2.2.1 ≤ q) H0 H locs) (hlo : lo.base = g.2.2.1 + a) (z : H1.size = H.size) (oq : ∀ q : Nat, q ≠ g.2.2.1 + a → H1[q]? = H[q]?) : va_S (fun q => g.2.2.1 ≤ q) H0 H1 (locs ++ [lo]) := by
  refine ⟨by rw [z]; exact h.1, fun q h1 h2 => ?_, fun q hq => ?_⟩
  · rw [oq q (fun e => h2 (by rw [e]; exact Nat.le_add_right _ _))]
    exact h.2.1 q h1 h2
  · rcases List.mem_append.mp hq with h1 | h1
    · exact h.2.2 q h1
    · rw [List.mem_singleton.mp h1, hlo]
      exact Nat.le_add_right _ _
theorem V.put (C : Cx g Z H0 nL own cc nm rm) {index ci kf a : Nat} {ty : FieldType} {fin : Bool} {fs : List AV} {v : AV} {L' : List AE} (hf : FL own index ci kf ty fin) (hd : decode cc pc = .ok (.putfield index, 3)) (hL : L[a]? = some (eO ci fs)) (hfit : narrow ty (toV g v) = toV g v ∧ fits ty (toV g v) = true) (hlen : kf < fs.length) (hin : fin = true → nm = "<init>") (hs : L.set a (eO ci (fs.set kf v)) = L') (kk : V g Z H0 nL L' k n (pc + 3) lv st) : V g Z H0 nL L k n pc lv (v :: aR a :: st) := by
  obtain ⟨p, l, e, s, m, args, below, meth, c, QQ, rfl, rfl, hx, hb, hml, hown, hts, hK, hnm, hg0⟩ := C
  obtain ⟨q, hq, hk, hl, hp, hfi, hfo⟩ := hf
  subst hs
  intro H locs ls hH hS hlv
  have hat : va_at g.1 xcl (g.2.2.1 + a, .inr (ci, fs.map (toV g))) H := hH.2 a _ hL
  refine x_put (own := own) (ref := own) (ci := ci) (q := q) (v := toV g v) hx hb hts hown hK.1 hat hq kf hk (hts _ hl) hfi (fun h => ⟨hnm.trans (hin h), hfo h⟩) hp hfit.1 hfit.2 (by simpa using hlen) hd (fun H1 lo hlo h1 h2 h3 => ?_)
  refine kk H1 _ ls (hH.set (k := a) (e := eO ci (fs.set kf v)) ?_ h2 h3) (hS.put1 hlo h2 h3) hlv
  have e1 : toE g (eO ci (fs.set kf v)) = .inr (ci, (fs.map (toV g)).set kf (toV g v)) := by
    show Sum.inr (ci, (fs.set kf v).map (toV g)) = _
    rw [List.map_set]
  rw [e1]
  exact h1
theorem V.iald (C : Cx g Z H0 nL own cc nm rm) {a N : Nat} {f : Nat → Int32} {i x : Int32} (hd : decode cc pc = .ok (.iaload, 1)) (hL : L[a]? = some (eA 0 N f)) (hi : vp_in i N) (hv : f i.toNatClampNeg = x) (kk : V g Z H0 nL L k n (pc + 1) lv (aI x :: st)) : V g Z H0 nL L k n pc lv (aI i :: aR a :: st) := by
  obtain ⟨p, l, e, s, m, args, below, meth, c, QQ, rfl, rfl, hx, hb, hml, hown, hts, hK, -⟩ := C
  subst hv
  intro H locs ls hH hS hlv
  exact va_iald (D := g.1) (cl := xcl) (tys := tysG g) hx hb hK.1 (hH.P hL) 0 0 (by rfl) (by rfl) hi hd (kk H locs ls hH hS hlv)
theorem V.zald (C : Cx g Z H0 nL own cc nm rm) {a N : Nat} {f : Nat → Int32} {i x : Int32} (hd : decode cc pc = .ok (.baload, 1)) (hL : L[a]? = some (eA 1 N f)) (hi : vp_in i N) (hv : f i.toNatClampNeg = x) (kk : V g Z H0 nL L k n (pc + 1) lv (aI x :: st)) : V g Z H0 nL L k n pc lv (aI i :: aR a :: st) := by
  obtain ⟨p, l, e, s, m, args, below, meth, c, QQ, rfl, rfl, hx, hb, hml, hown, hts, hK, -⟩ := C
  subst hv
  intro H locs ls hH hS hlv
  exact va_zald (D := g.1) (cl := xcl) (tys := tysG g) hx hb hK.1 (hH.P hL) 0 1 (by rfl) (by rfl) hi hd (kk H locs ls hH hS hlv)
/-- which class an array of references is over -/
def arC : Nat → String
  | 2 => RX2
  | 3 => RX1
  | 4 => RX4
  | _ => RX0
theorem arC_ok (g : GD) {t : Nat} (h : 2 ≤ t ∧ t ≤ 5) : (tysG g)[t]? = some (g.2.1 t, .object (arC t)) := by
  obtain ⟨h1, h2⟩ := h
  match t, h1, h2 with
  | 2, _, _ => rfl
  | 3, _, _ => rfl
  | 4, _, _ => rfl
  | 5, _, _ => rfl
theorem V.aald (C : Cx g Z H0 nL own cc nm rm) {a N t : Nat} {f : Nat → Option Nat} {i : Int32} {o : Option Nat} (ht : 2 ≤ t ∧ t ≤ 5) (hd : decode cc pc = .ok (.aaload, 1)) (hL : L[a]? = some (eQ t N f)) (hi : vp_in i N) (hv : f i.toNatClampNeg = o) (kk : V g Z H0 nL L k n (pc + 1) lv (aO o :: st)) : V g Z H0 nL L k n pc lv (aI i :: aR a :: st) := by
  obtain ⟨p, l, e, s, m, args, below, meth, c, QQ, rfl, rfl, hx, hb, hml, hown, hts, hK, -⟩ := C
  subst hv
  intro H locs ls hH hS hlv
  exact va_aldq (D := g.1) (cl := xcl) (tys := tysG g) (f := fun j => (f j).map (fun k => g.2.2.1 + k)) hx hb hK.1 (hH.P hL) 0 t (by rfl) (arC_ok g ht) hi hd (kk H locs ls hH hS hlv)
theorem V.alen (C : Cx g Z H0 nL own cc nm rm) {a N : Nat} {f : Nat → Int32} {x : Int32} (hd : decode cc pc = .ok (.arraylength, 1)) (hL : L[a]? = some (eA 0 N f)) (hv : Int32.ofNat N = x) (kk : V g Z H0 nL L k n (pc + 1) lv (aI x :: st)) : V g Z H0 nL L k n pc lv (aR a :: st) := by
  obtain ⟨p, l, e, s, m, args, below, meth, c, QQ, rfl, rfl, hx, hb, hml, hown, hts, hK, -⟩ := C
  intro H locs ls hH hS hlv
  exact va_alen (D := g.1) (cl := xcl) (tys := tysG g) hx hb hK.1 (hH.P hL) 0 0 (x := (N, .inl f)) (by rfl) (ty := .int) (by rfl) hv hd (kk H locs ls hH hS hlv)
theorem arr_hin {cA : ClassId} {N : Nat} {z : Nat → Value} {i : Int32} (hi : vp_in i N) : ¬ (i < 0 ∨ (arrV cA N z).slots.size ≤ i.toNatClampNeg) := by rw [arrV_size]; exact hi
theorem V.iast (C : Cx g Z H0 nL own cc nm rm) {a N : Nat} {f : Nat → Int32} {i x : Int32} {L' : List AE} (hd : decode cc pc = .ok (.iastore, 1)) (hL : L[a]? = some (eA 0 N f)) (hi : vp_in i N) (hs : L.set a (eA 0 N (upd f i.toNatClampNeg x)) = L') (kk : V g Z H0 nL L' k n (pc + 1) lv st) : V g Z H0 nL L k n pc lv (aI x :: aI i :: aR a :: st) := by
  obtain ⟨p, l, e, s, m, args, below, meth, c, QQ, rfl, rfl, hx, hb, hml, hown, hts, hK, -⟩ := C
  subst hs
  intro H locs ls hH hS hlv
  have hc : H[g.2.2.1 + a]? = some (vp_cell (g.2.1 0) (N, .inl f)) := hH.2 a _ hL
  have hA := (hK.1.2 0 (g.2.1 0, .int) rfl).1 N (fun j => .int (f j))
  refine W.iast hx hb hc hA (fun q => by cases q) (arr_hin hi) rfl rfl hd fun H1 e1 z oq => ?_
  refine kk H1 _ ls (hH.set (k := a) (e := eA 0 N (upd f i.toNatClampNeg x)) ?_ z oq) (hS.put1 rfl z oq) hlv
  show H1[g.2.2.1 + a]? = some (vp_cell _ _)
  rw [e1, vp_cell_i, vp_cell_i, arrV_store]
  congr 2
  funext q
  by_cases hq : q = i.toNatClampNeg
  · subst hq; simp [updV, upd]
  · simp [updV, upd, hq]
theorem V.zast (C : Cx g Z H0 nL own cc nm rm) {a N : Nat} {f : Nat → Int32} {i x : Int32} {L' : List AE} (hd : decode cc pc = .ok (.bastore, 1)) (hL : L[a]? = some (eA 1 N f)) (hi : vp_in i N) (hx01 : x = 0 ∨ x = 1) (hs : L.set a (eA 1 N (upd f i.toNatClampNeg x)) = L') (kk : V g Z H0 nL L' k n (pc + 1) lv st) : V g Z H0 nL L k n pc lv (aI x :: aI i :: aR a :: st) := by
  obtain ⟨p, l, e, s, m, args, below, meth, c, QQ, rfl, rfl, hx, hb, hml, hown, hts, hK, -⟩ := C
  subst hs
  intro H locs ls hH hS hlv
  have hc : H[g.2.2.1 + a]? = some (vp_cell (g.2.1 1) (N, .inl f)) := hH.2 a _ hL
  have hA := (hK.1.2 1 (g.2.1 1, .boolean) rfl).1 N (fun j => .int (f j))
  have hnar : narrow .boolean (.int x) = .int x := by rcases hx01 with rfl | rfl <;> rfl
  refine W.zast hx hb hc hA (fun q => by cases q) (arr_hin hi) rfl rfl hd fun H1 e1 z oq => ?_
  refine kk H1 _ ls (hH.set (k := a) (e := eA 1 N (upd f i.toNatClampNeg x)) ?_ z oq) (hS.put1 rfl z oq) hlv
  show H1[g.2.2.1 + a]? = some (vp_cell _ _)
  rw [e1, hnar, vp_cell_i, vp_cell_i, arrV_store]
  congr 2
  funext q
  by_cases hq : q = i.toNatClampNeg
  · subst hq; simp [updV, upd]
  · simp [updV, upd, hq]
theorem V.aast (C : Cx g Z H0 nL own cc nm rm) {a N t ci v : Nat} {f : Nat → Option Nat} {i : Int32} {fs : List AV} {q : vw_C} {L' : List AE} (ht : 2 ≤ t ∧ t ≤ 5) (hd : decode cc pc = .ok (.aastore, 1)) (hL : L[a]? = some (eQ t N f)) (hv : L[v]? = some (eO ci fs)) (hq : xcl[ci]? = some q) (hqt : q.1 = arC t) (hi : vp_in i N) (hs : L.set a (eQ t N (va_up f i.toNatClampNeg (some v))) = L') (kk : V g Z H0 nL L' k n (pc + 1) lv st) : V g Z H0 nL L k n pc lv (aR v :: aI i :: aR a :: st) := by
  obtain ⟨p, l, e, s, m, args, below, meth, c, QQ, rfl, rfl, hx, hb, hml, hown, hts, hK, -⟩ := C
  subst hs
  intro H locs ls hH hS hlv
  have hc : H[g.2.2.1 + a]? = some (vp_cell (g.2.1 t) (N, .inr (.inr (.inr (.inr (fun j => (f j).map (fun k => g.2.2.1 + k))))))) := hH.2 a _ hL
  have hlt : i.toNatClampNeg < N := Nat.not_le.mp fun z => hi (Or.inr z)
  have h0 : ¬ i < 0 := fun z => hi (Or.inl z)
  obtain ⟨r', hr', cellV, g1, g2, g3, -⟩ := hH.2 v _ hv
  have hcls := (hK.1.1 ci q hq).2
  have ht2 := arC_ok g ht
  rw [← hqt] at ht2
  obtain ⟨kA, comp, k1, k2, k3, -⟩ := (hK.1.2 t _ ht2).2
  have hcomp : comp = g.1.1 ci := Option.some.inj (k3.symm.trans hcls.1)
  subst hcomp
  obtain ⟨kC, hkC, -⟩ := hcls.2
  refine W.aast hx hb hc (fun z h => by cases h) (fun h => by cases h) k1 k2 rfl hkC ⟨h0, by show _ < (arrV _ _ _).slots.size; rw [arrV_size]; exact hlt⟩ g1 (fun z h => by rw [g3] at h; cases h) (by rw [g2]; exact hkC) (by rw [g2]; exact va_assign hcls) rfl rfl hd fun H1 e1 z oq => ?_
  refine kk H1 _ ls (hH.set (k := a) (e := eQ t N (va_up f i.toNatClampNeg (some v))) ?_ z oq) (hS.put1 rfl z oq) hlv
  show H1[g.2.2.1 + a]? = some (vp_cell _ _)
  rw [e1, vp_cell_q, vp_cell_q, arrV_store]
  congr 2
  funext q
  by_cases hq : q = i.toNatClampNeg
  · subst hq; simp [updV, va_up, va_rf]
  · simp [updV, va_up, hq]
end HP1
