/-! truth values, numbers within -/
noncomputable def cI {α : Type} (p : Prop) (a b : α) : α := @ite α p (Classical.propDecidable p) a b
theorem cI_t {α : Type} {p : Prop} {a b : α} (h : p) : cI p a b = a := if_pos h
theorem cI_f {α : Type} {p : Prop} {a b : α} (h : ¬ p) : cI p a b = b := if_neg h
theorem cI_iff {α : Type} {p q : Prop} {a b : α} (h : p ↔ q) : cI p a b = cI q a b := by rw [propext h]
noncomputable def b2 (p : Prop) : Int32 := cI p 1 0
theorem b2_t {p : Prop} (h : p) : b2 p = 1 := cI_t h
theorem b2_f {p : Prop} (h : ¬ p) : b2 p = 0 := cI_f h
theorem b2_01 (p : Prop) : b2 p = 0 ∨ b2 p = 1 := by
  by_cases h : p
  · exact Or.inr (b2_t h)
  · exact Or.inl (b2_f h)
theorem b2_nar (p : Prop) : narrow .boolean (.int (b2 p)) = .int (b2 p) := by
  rcases b2_01 p with h | h <;> rw [h] <;> rfl
theorem b2_iff {p q : Prop} (h : p ↔ q) : b2 p = b2 q := by rw [propext h]
abbrev isN (x : Int32) (n : Nat) : Prop := 0 ≤ x.toInt ∧ x.toInt < (n : Int)
theorem isN_iff (x : Int32) (n : Nat) : isN x n ↔ (0 ≤ x.toInt ∧ x.toInt < n) := Iff.rfl
theorem isN_ex {x : Int32} {n : Nat} (h : isN x n) (hn : n < 2 ^ 31) : ∃ j : Nat, j < n ∧ x = nI j := by
  obtain ⟨h1, h2⟩ := h
  have h3 : ¬ x < 0 := by
    intro q
    have := Int32.lt_iff_toInt_lt.mp q
    simp at this
    omega
  obtain ⟨j, hj, rfl⟩ := nI_of h3
  rw [nI_toInt hj] at h2
  exact ⟨j, by omega, rfl⟩
theorem isN_nI {j n : Nat} (hj : j < n) (hn : n < 2 ^ 31) : isN (nI j) n := by
  unfold isN
  rw [nI_toInt (by omega)]
  omega
theorem isN_lt {x : Int32} {n : Nat} (hn : n < 2 ^ 31) : isN x n ↔ ¬ x < 0 ∧ x < nI n := by
  unfold isN
  rw [Int32.lt_iff_toInt_lt, Int32.lt_iff_toInt_lt, nI_toInt hn]
  simp
theorem isN_not {x : Int32} {n : Nat} (hn : n < 2 ^ 31) (h : ¬ isN x n) : x < 0 ∨ nI n ≤ x := by
  rw [isN_lt hn] at h
  by_cases h0 : x < 0
  · exact Or.inl h0
  · exact Or.inr (Int32.not_lt.mp (fun q => h ⟨h0, q⟩))
theorem isN_cases (x : Int32) (n : Nat) (hn : n < 2 ^ 31) : (∃ j : Nat, j < n ∧ x = nI j) ∨ ¬ isN x n := by
  by_cases h : isN x n
  · exact Or.inl (isN_ex h hn)
  · exact Or.inr h
theorem nI_inj {a b : Nat} (ha : a < 2 ^ 31) (hb : b < 2 ^ 31) (h : nI a = nI b) : a = b := (nI_eq ha hb).mp h
theorem pq {v w : Int32} {L : List AE} (h : v = w) : some (aI v) = some (aI w) ∧ L = L := ⟨by rw [h], rfl⟩
theorem RmOk.mk' {y : MD} {rm : Room} {k n : Nat} (a : y.2.2.2.2.frames + 1 ≤ rm.frames) (b : 8 + (y.2.2.1 + 11) + y.2.2.2.2.locals ≤ rm.locals) (c : k + y.2.2.2.2.cells ≤ rm.cells) (d : n + y.2.2.2.2.slots ≤ rm.slots) : RmOk y rm k n := ⟨a, b, c, d⟩
section MR1
variable {g : GD} {Z : ZT} {H0 : Heap} {nL : Nat} {own nm : String} {cc : ByteArray} {rm : Room} {L : List AE} {k n pc : Nat} {lv : List (Option AV)} {st : List AV}
theorem V.top {x x' : Int32} (h : x = x') (kk : V g Z H0 nL L k n pc lv (aI x' :: st)) : V g Z H0 nL L k n pc lv (aI x :: st) := h ▸ kk
theorem V.ialdN (C : Cx g Z H0 nL own cc nm rm) {a N j : Nat} {f : Nat → Int32} (hd : decode cc pc = .ok (.iaload, 1)) (hL : L[a]? = some (eA 0 N f)) (hj : j < N) (hN : N < 2 ^ 31) (kk : V g Z H0 nL L k n (pc + 1) lv (aI (f j) :: st)) : V g Z H0 nL L k n pc lv (aI (nI j) :: aR a :: st) :=
  V.iald C hd hL (vp_in_nI hj hN) (by rw [nI_clamp (by omega)]) kk
theorem V.zaldN (C : Cx g Z H0 nL own cc nm rm) {a N j : Nat} {f : Nat → Int32} (hd : decode cc pc = .ok (.baload, 1)) (hL : L[a]? = some (eA 1 N f)) (hj : j < N) (hN : N < 2 ^ 31) (kk : V g Z H0 nL L k n (pc + 1) lv (aI (f j) :: st)) : V g Z H0 nL L k n pc lv (aI (nI j) :: aR a :: st) :=
  V.zald C hd hL (vp_in_nI hj hN) (by rw [nI_clamp (by omega)]) kk
theorem V.aaldN (C : Cx g Z H0 nL own cc nm rm) {a N j t : Nat} {f : Nat → Option Nat} {o : Option Nat} (ht : 2 ≤ t ∧ t ≤ 5) (hd : decode cc pc = .ok (.aaload, 1)) (hL : L[a]? = some (eQ t N f)) (hj : j < N) (hN : N < 2 ^ 31) (hv : f j = o) (kk : V g Z H0 nL L k n (pc + 1) lv (aO o :: st)) : V g Z H0 nL L k n pc lv (aI (nI j) :: aR a :: st) :=
  V.aald C ht hd hL (vp_in_nI hj hN) (by rw [nI_clamp (by omega)]; exact hv) kk
theorem V.iastN (C : Cx g Z H0 nL own cc nm rm) {a N j : Nat} {f : Nat → Int32} {x : Int32} (hd : decode cc pc = .ok (.iastore, 1)) (hL : L[a]? = some (eA 0 N f)) (hj : j < N) (hN : N < 2 ^ 31) (kk : V g Z H0 nL (L.set a (eA 0 N (upd f j x))) k n (pc + 1) lv st) : V g Z H0 nL L k n pc lv (aI x :: aI (nI j) :: aR a :: st) :=
  V.iast C hd hL (vp_in_nI hj hN) (by rw [nI_clamp (by omega)]) kk
theorem V.zastN (C : Cx g Z H0 nL own cc nm rm) {a N j : Nat} {f : Nat → Int32} {x : Int32} (hd : decode cc pc = .ok (.bastore, 1)) (hL : L[a]? = some (eA 1 N f)) (hj : j < N) (hN : N < 2 ^ 31) (hx : x = 0 ∨ x = 1) (kk : V g Z H0 nL (L.set a (eA 1 N (upd f j x))) k n (pc + 1) lv st) : V g Z H0 nL L k n pc lv (aI x :: aI (nI j) :: aR a :: st) :=
  V.zast C hd hL (vp_in_nI hj hN) hx (by rw [nI_clamp (by omega)]) kk
theorem V.aastN (C : Cx g Z H0 nL own cc nm rm) {a N j t ci v : Nat} {f : Nat → Option Nat} {fs : List AV} {q : vw_C} (ht : 2 ≤ t ∧ t ≤ 5) (hd : decode cc pc = .ok (.aastore, 1)) (hL : L[a]? = some (eQ t N f)) (hv : L[v]? = some (eO ci fs)) (hq : xcl[ci]? = some q) (hqt : q.1 = arC t) (hj : j < N) (hN : N < 2 ^ 31) (kk : V g Z H0 nL (L.set a (eQ t N (va_up f j (some v)))) k n (pc + 1) lv st) : V g Z H0 nL L k n pc lv (aR v :: aI (nI j) :: aR a :: st) :=
  V.aast C ht hd hL hv hq hqt (vp_in_nI hj hN) (by rw [nI_clamp (by omega)]) kk
theorem V.callVp (C : Cx g Z H0 nL own cc nm rm) {index a ci np : Nat} {y : MD} {As rest stk : List AV} {fs : List AV} {q : vw_C} {v : AV} (hm : MO y np) (hi : Cond.instanceMethod y.1 ∈ gt) (hse : Cond.selects y.1.cls y.1 y.1 ∈ gt) (hl : Cond.methodLink own index y.1 ∈ gt) (hev : EvP g y (aR a :: As) L (some v)) (hd : decode cc pc = .ok (.invokevirtual index, 3)) (hstk : stk = As.reverse ++ aR a :: rest) (hlen : As.length = np) (hL : L[a]? = some (eO ci fs)) (hq : xcl[ci]? = some q) (hqn : q.1 = y.1.cls) (hrl : rest.length ≤ 8) (hroom : RmOk y rm k n) (hz : y.2.2.2.2.cells = 0 ∧ y.2.2.2.2.slots = 0)
    (kk : V g Z H0 nL L k n (pc + 3) lv (v :: rest)) : V g Z H0 nL L k n pc lv stk := by
  refine V.callV C hm hi hse hl hev hd hstk hlen hL hq hqn hrl hroom (fun v' L1 h => ?_)
  obtain ⟨rfl, rfl⟩ := h
  rw [hz.1, hz.2]
  exact kk
theorem V.callSp (C : Cx g Z H0 nL own cc nm rm) {index np : Nat} {y : MD} {As rest stk : List AV} {v : AV} (hm : MO y np) (hi : Cond.static y.1 ∈ gt) (hl : Cond.methodLink own index y.1 ∈ gt) (hev : EvP g y As L (some v)) (hd : decode cc pc = .ok (.invokestatic index, 3)) (hstk : stk = As.reverse ++ rest) (hlen : As.length = np) (hrl : rest.length ≤ 8) (hroom : RmOk y rm k n) (hz : y.2.2.2.2.cells = 0 ∧ y.2.2.2.2.slots = 0)
    (kk : V g Z H0 nL L k n (pc + 3) lv (v :: rest)) : V g Z H0 nL L k n pc lv stk := by
  refine V.callS C hm hi hl hev hd hstk hlen hrl hroom (fun v' L1 h => ?_)
  obtain ⟨rfl, rfl⟩ := h
  rw [hz.1, hz.2]
  exact kk
theorem V.ifb_eq (C : Cx g Z H0 nL own cc nm rm) {p : Prop} {off : Int} {tgt : Nat} (hd : decode cc pc = .ok (.ifCond .eq off, 3)) (ht : (pc : Int) + off = (tgt : Int)) (kt : ¬ p → V g Z H0 nL L k n tgt lv st) (kf : p → V g Z H0 nL L k n (pc + 3) lv st) : V g Z H0 nL L k n pc lv (aI (b2 p) :: st) :=
  V.if_eq C hd ht (fun h => kt (fun hp => by rw [b2_t hp] at h; exact absurd h (by decide))) (fun h => kf (Classical.byContradiction fun hp => h (b2_f hp)))
theorem V.ifb_ne (C : Cx g Z H0 nL own cc nm rm) {p : Prop} {off : Int} {tgt : Nat} (hd : decode cc pc = .ok (.ifCond .ne off, 3)) (ht : (pc : Int) + off = (tgt : Int)) (kt : p → V g Z H0 nL L k n tgt lv st) (kf : ¬ p → V g Z H0 nL L k n (pc + 3) lv st) : V g Z H0 nL L k n pc lv (aI (b2 p) :: st) :=
  V.if_ne C hd ht (fun h => kt (Classical.byContradiction fun hp => h (b2_f hp))) (fun h => kf (fun hp => by rw [b2_t hp] at h; exact absurd h (by decide)))
theorem V.norm {a N t : Nat} {f f' : Nat → Int32} (hL : L[a]? = some (eA t N f)) (hf : ∀ j, j < N → f j = f' j) (kk : V g Z H0 nL (L.set a (eA t N f')) k n pc lv st) : V g Z H0 nL L k n pc lv st := by
  intro H locs ls hH hS hlv
  refine kk H locs ls (hH.set (k := a) (e := eA t N f') ?_ rfl (fun _ _ => rfl)) hS hlv
  have h1 : H[g.2.2.1 + a]? = some (vp_cell (g.2.1 t) (N, .inl f)) := hH.2 a _ hL
  show H[g.2.2.1 + a]? = some (vp_cell (g.2.1 t) (N, .inl f'))
  rw [h1, vp_cell_i, vp_cell_i]
  unfold arrV
  congr 2
  congr 1
  funext j
  dsimp only
  rw [hf j.val j.isLt]
theorem V.normQ {a N t : Nat} {f f' : Nat → Option Nat} (hL : L[a]? = some (eQ t N f)) (hf : ∀ j, j < N → f j = f' j) (kk : V g Z H0 nL (L.set a (eQ t N f')) k n pc lv st) : V g Z H0 nL L k n pc lv st := by
  intro H locs ls hH hS hlv
  refine kk H locs ls (hH.set (k := a) (e := eQ t N f') ?_ rfl (fun _ _ => rfl)) hS hlv
  have h1 : H[g.2.2.1 + a]? = some (vp_cell (g.2.1 t) (N, .inr (.inr (.inr (.inr (fun j => (f j).map (fun k => g.2.2.1 + k))))))) := hH.2 a _ hL
  show H[g.2.2.1 + a]? = some (vp_cell (g.2.1 t) (N, .inr (.inr (.inr (.inr (fun j => (f' j).map (fun k => g.2.2.1 + k)))))))
  rw [h1, vp_cell_q, vp_cell_q]
  unfold arrV
  congr 2
  congr 1
  funext j
  dsimp only
  rw [hf j.val j.isLt]
end MR1
theorem set_same {L : List AE} {a : Nat} {e : AE} (h : L[a]? = some e) : L.set a e = L := by
  apply List.ext_getElem?
  intro i
  by_cases hi : i = a
  · subst hi
    rw [List.getElem?_set_self (List.getElem?_eq_some_iff.mp h).1, h]
  · rw [List.getElem?_set_ne (Ne.symm hi)]
theorem get_set {L : List AE} {a : Nat} {e e0 : AE} (h : L[a]? = some e0) : (L.set a e)[a]? = some e := List.getElem?_set_self (List.getElem?_eq_some_iff.mp h).1
theorem get_ne {L : List AE} {a j : Nat} {e : AE} (h : j ≠ a) : (L.set a e)[j]? = L[j]? := List.getElem?_set_ne (Ne.symm h)
