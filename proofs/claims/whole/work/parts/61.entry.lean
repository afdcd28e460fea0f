theorem tb_in {w : Cond} (n : Nat) (h : lw_tbl[n]? = some w) : w ∈ lw_tbl := List.mem_of_getElem? h
/-- the classes and arrays as the tables have them at the entry -/
theorem Kk_entry {s : State} {args : Array Value} (hts : ∀ w ∈ lw_tbl, w.before args s = true) (h0 b : Nat) : ∃ g : GD, g.2.2.1 = h0 ∧ g.2.2.2 = b ∧ Kk g s := by
  have hg : ∀ w ∈ gt, w.before args s = true := fun w hw => hts w (List.mem_filter.mp hw).1
  obtain ⟨c0, i0, k0⟩ := u_known hg (xcl_ok (ci := 0) rfl).1 (hg _ is_RX0)
  obtain ⟨c1, i1, k1⟩ := u_known hg (xcl_ok (ci := 1) rfl).1 (hg _ is_RX1)
  obtain ⟨c2, i2, k2⟩ := u_known hg (xcl_ok (ci := 2) rfl).1 (hg _ is_RX2)
  obtain ⟨c3, i3, k3⟩ := u_known hg (xcl_ok (ci := 3) rfl).1 (hg _ is_RX3)
  obtain ⟨c4, i4, k4⟩ := u_known hg (xcl_ok (ci := 4) rfl).1 (hg _ is_RX4)
  obtain ⟨c5, i5, k5⟩ := u_known hg (xcl_ok (ci := 5) rfl).1 (hg _ is_RX5)
  obtain ⟨c6, i6, k6⟩ := u_known hg (xcl_ok (ci := 6) rfl).1 (hg _ is_RX6)
  obtain ⟨a0, ka0, co0, f0, g0, e0⟩ := Cond.arrayClass_spec (hg _ ar_i)
  obtain ⟨a1, ka1, co1, f1, g1, e1⟩ := Cond.arrayClass_spec (hg _ ar_z)
  have o2 : (Cond.arrayOver (.object RX2)).before args s = true := hts _ (tb_in 73 (by decide +kernel))
  have o3 : (Cond.arrayOver (.object RX1)).before args s = true := hts _ (tb_in 75 (by decide +kernel))
  have o4 : (Cond.arrayOver (.object RX4)).before args s = true := hts _ (tb_in 77 (by decide +kernel))
  have o5 : (Cond.arrayOver (.object RX0)).before args s = true := hts _ (tb_in 79 (by decide +kernel))
  obtain ⟨co2, a2, ka2, p2, q2, r2, s2, t2⟩ := Cond.arrayOver_spec o2
  obtain ⟨co3, a3, ka3, p3, q3, r3, s3, t3⟩ := Cond.arrayOver_spec o3
  obtain ⟨co4, a4, ka4, p4, q4, r4, s4, t4⟩ := Cond.arrayOver_spec o4
  obtain ⟨co5, a5, ka5, p5, q5, r5, s5, t5⟩ := Cond.arrayOver_spec o5
  refine ⟨((fun c => match c with | 0 => c0 | 1 => c1 | 2 => c2 | 3 => c3 | 4 => c4 | 5 => c5 | _ => c6, fun c => match c with | 0 => i0 | 1 => i1 | 2 => i2 | 3 => i3 | 4 => i4 | 5 => i5 | _ => i6), fun t => match t with | 0 => a0 | 1 => a1 | 2 => a2 | 3 => a3 | 4 => a4 | _ => a5, h0, b), rfl, rfl, ⟨fun c q hq => ?_, fun k q hk => ?_⟩, ⟨va_AO.of o2, va_AO.of o3, va_AO.of o4, va_AO.of o5⟩, va_Nw.of rfl (hts _ (tb_in 82 (by decide +kernel))), va_Nw.of rfl (hts _ (tb_in 109 (by decide +kernel)))⟩
  · match c, hq with
    | 0, hq => cases Option.some.inj hq; exact k0
    | 1, hq => cases Option.some.inj hq; exact k1
    | 2, hq => cases Option.some.inj hq; exact k2
    | 3, hq => cases Option.some.inj hq; exact k3
    | 4, hq => cases Option.some.inj hq; exact k4
    | 5, hq => cases Option.some.inj hq; exact k5
    | 6, hq => cases Option.some.inj hq; exact k6
    | n + 7, hq => simp [xcl] at hq
  · match k, hk with
    | 0, hq => cases Option.some.inj hq; exact ⟨fun n z => ⟨fun k h => (by cases h), ka0, g0, co0, e0⟩, f0⟩
    | 1, hq => cases Option.some.inj hq; exact ⟨fun n z => ⟨fun k h => (by cases h), ka1, g1, co1, e1⟩, f1⟩
    | 2, hq => cases Option.some.inj hq; exact ⟨fun n z => ⟨fun k h => (by cases h), ka2, r2, co2, s2⟩, ⟨ka2, co2, r2, s2, p2, t2⟩⟩
    | 3, hq => cases Option.some.inj hq; exact ⟨fun n z => ⟨fun k h => (by cases h), ka3, r3, co3, s3⟩, ⟨ka3, co3, r3, s3, p3, t3⟩⟩
    | 4, hq => cases Option.some.inj hq; exact ⟨fun n z => ⟨fun k h => (by cases h), ka4, r4, co4, s4⟩, ⟨ka4, co4, r4, s4, p4, t4⟩⟩
    | 5, hq => cases Option.some.inj hq; exact ⟨fun n z => ⟨fun k h => (by cases h), ka5, r5, co5, s5⟩, ⟨ka5, co5, r5, s5, p5, t5⟩⟩
    | n + 6, hq => simp [tysG] at hq
/-- the law's own frame -/
def LX (g : GD) (Z : ZT) (H0 : Heap) (Ln : Nat) (xs : Nat → Int32) : Prop :=
  ∃ (p : Program) (l : Launch) (e : Env) (s : State) (m : MethodId) (below : List Frame) (meth : Method) (c : Code),
    (Z = fun H locs k n pc ls st => W p l e room_1 s m #[Value.ref g.2.2.2] below meth c H locs k n (lw_Z below #[Value.ref g.2.2.2] s) (F0 m pc ls st)) ∧ H0 = s.heap ∧ p.tables.exec = Jvm.exec ∧ c.code = code ∧ meth.sig.returnType = ret ∧ meth.locks = false ∧ va_X g.2.2.2 Ln xs s s.heap ∧ g.2.2.2 < s.heap.size ∧ g.2.2.1 = s.heap.size
section LWV
variable {g : GD} {Z : ZT} {H0 : Heap} {nL Ln : Nat} {xs : Nat → Int32} {L : List AE} {k n pc : Nat} {lv : List (Option AV)} {st : List AV}
theorem V.sldN (E : LX g Z H0 Ln xs) {j : Nat} (hd : decode code pc = .ok (.iaload, 1)) (hj : j < Ln) (hL : Ln < 2 ^ 31) (kk : V g Z H0 nL L k n (pc + 1) lv (aI (xs j) :: st)) : V g Z H0 nL L k n pc lv (aI (nI j) :: aS :: st) := by
  obtain ⟨p, l, e, s, m, below, meth, c, rfl, rfl, hx, hb, hr, hlo, hX, hbl, hg⟩ := E
  intro H locs ls hH hS hlv
  have := kk H locs ls hH hS hlv
  refine va_sld (A := fun q => g.2.2.1 ≤ q) hx hb hX hbl (by rw [hg]; omega) hS (vp_in_nI hj hL) hd ?_
  rw [nI_clamp (by omega)]
  exact this
theorem V.slen (E : LX g Z H0 Ln xs) (hd : decode code pc = .ok (.arraylength, 1)) (kk : V g Z H0 nL L k n (pc + 1) lv (aI (nI Ln) :: st)) : V g Z H0 nL L k n pc lv (aS :: st) := by
  obtain ⟨p, l, e, s, m, below, meth, c, rfl, rfl, hx, hb, hr, hlo, hX, hbl, hg⟩ := E
  intro H locs ls hH hS hlv
  exact va_slen (A := fun q => g.2.2.1 ≤ q) hx hb hX hbl (by rw [hg]; omega) hS hd (kk H locs ls hH hS hlv)
theorem V.lret (E : LX g Z H0 Ln xs) (hk : k ≤ 600000) (hn : n ≤ 7302250) (hd : decode code pc = .ok (.ireturn, 1)) : V g Z H0 nL L k n pc lv [aI 1] := by
  obtain ⟨p, l, e, s, m, below, meth, c, rfl, rfl, hx, hb, hr, hlo, hX, hbl, hg⟩ := E
  intro H locs ls hH hS hlv
  refine va_forget (fun q hq => ?_) ?_
  · rw [← hg]; exact hS.2.2 q hq
  · refine W.widen hk hn ?_
    exact lw_ret hx hb hr hlo hd
theorem RmL {y : MD} (h1 : y.2.2.2.2.frames + 1 ≤ 9) (h2 : 8 + (y.2.2.1 + 11) + y.2.2.2.2.locals ≤ 340) (h3 : y.2.2.2.2.cells ≤ 22) (h4 : y.2.2.2.2.slots ≤ 807) (hk : k ≤ 590000) (hn : n ≤ 7300000) : RmOk y room_1 k n := ⟨h1, Nat.le_trans h2 (by decide), by show k + _ ≤ 600000; omega, by show n + _ ≤ 7302250; omega⟩
end LWV
theorem and31 (x : Int32) : ∃ c, c < 32 ∧ x &&& 31 = nI c := by
  refine ⟨x.toBitVec.toNat % 32, by omega, ?_⟩
  apply Int32.toBitVec_inj.mp
  rw [Int32.toBitVec_and]
  show x.toBitVec &&& 31#32 = BitVec.ofNat 32 (x.toBitVec.toNat % 32)
  apply BitVec.eq_of_toNat_eq
  rw [BitVec.toNat_and, BitVec.toNat_ofNat, BitVec.toNat_ofNat]
  rw [show 31 % 2 ^ 32 = 2 ^ 5 - 1 from rfl, Nat.and_two_pow_sub_one_eq_mod]
  omega
/-! what holds between two calls -/
def LI (r d t b : Nat) (A : ST) (L : List AE) : Prop := MR r d t b A L ∧ (∃ da ta ba gr hc, XR0 r d t b A da ta ba gr hc L ∧ Rl t b A gr hc) ∧ Inv r d t b A ∧ Jv r t b A
theorem MR.frX {r d t b : Nat} {A : ST} {L L' : List AE} (h : MR r d t b A L) (hF : FrX L L') : MR r d t b A L' := by
  refine ⟨(hF.2 23 (by omega) (by omega)).trans h.1, fun j hj => ?_⟩
  have := mad_ok j hj
  exact (hF.2 _ (by omega) (by omega)).trans (h.2 j hj)
theorem XR0.frM {r d t b : Nat} {A : ST} {da ta ba : Nat → Nat} {gr hc : Nat → Int32} {L L' : List AE} (h : XR0 r d t b A da ta ba gr hc L) (hF : FrM L L') : XR0 r d t b A da ta ba gr hc L' := by
  obtain ⟨hf, ⟨q, s, p, l, rc, hS⟩, hD, hT, hB, hl, h30, h6⟩ := id h
  have hk := hF.2
  refine ⟨hf.kept (fun k h1 => hk k (by omega)) (fun _ _ => rfl), ⟨q, s, p, l, rc, hS.kept (fun k h1 h2 => hk k (by omega))⟩, hD.kept (fun k h1 => hk _ (by have := h.d46 h1; omega)) (fun _ _ _ _ => rfl), hT.kept (fun k h1 => hk _ (by have := h.t46 h1; omega)) (fun _ _ _ _ => rfl) (fun _ _ => rfl), hB.kept (fun k h1 => ⟨hk _ (by have := h.b46 h1; omega), hk _ (by have := h.b46 h1; omega)⟩) (fun _ _ _ _ => rfl) (fun _ => rfl) (fun _ _ => rfl), by rw [hF.1]; exact hl, h30, h6⟩
theorem XR0_26 {r d t b : Nat} {A : ST} {da ta ba : Nat → Nat} {gr hc f : Nat → Int32} {L : List AE} (h : XR0 r d t b A da ta ba gr hc L) : XR0 r d t b (st26 A f) da ta ba gr hc L := h
theorem Rl_26 {t b : Nat} {A : ST} {gr hc f : Nat → Int32} (h : Rl t b A gr hc) : Rl t b (st26 A f) gr hc := h
