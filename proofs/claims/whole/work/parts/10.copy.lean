section CP1
variable {g : GD} {Z : ZT} {H0 : Heap} {nL : Nat} {own nm : String} {cc : ByteArray} {rm : Room} {L : List AE} {k n pc : Nat} {lv : List (Option AV)} {st : List AV}
/-- System.arraycopy within one array of ints -/
theorem V.copyI (C : Cx g Z H0 nL own cc nm rm) {index a N : Nat} {f : Nat → Int32} {sp dp z : Int32} {L' : List AE} (hl : Cond.methodLink own index arraycopyName ∈ gt) (hd : decode cc pc = .ok (.invokestatic index, 3)) (hL : L[a]? = some (eA 0 N f)) (h1 : ¬ sp < 0) (h2 : ¬ dp < 0) (h3 : ¬ z < 0) (h4 : sp.toNatClampNeg + z.toNatClampNeg ≤ N) (h5 : dp.toNatClampNeg + z.toNatClampNeg ≤ N) (hrm : 1 ≤ rm.frames ∧ 40 ≤ rm.locals) (hst : st.length ≤ 8)
    (hs : L.set a (eA 0 N (va_cpy f f sp.toNatClampNeg dp.toNatClampNeg z.toNatClampNeg)) = L') (kk : V g Z H0 nL L' k n (pc + 3) lv st) : V g Z H0 nL L k n pc lv (aI z :: aI dp :: aR a :: aI sp :: aR a :: st) := by
  obtain ⟨p, l, e, s, m, args, below, meth, c, QQ, rfl, rfl, hx, hb, hml, hown, hts, hK, hnm, hg0⟩ := C
  subst hs
  intro H locs ls hH hS hlv T hT X
  have nn : ∀ z : Int32, ¬ z < 0 → z.toInt = (z.toNatClampNeg : Int) := by
    intro z hz
    have hz0 : (0 : Int) ≤ z.toInt := by
      have := Int32.not_lt.mp hz
      simpa using Int32.le_iff_toInt_le.mp this
    show z.toInt = ((z.toInt.toNat : Nat) : Int)
    omega
  have hnf : nativeFrameWords "java/lang/System" "arraycopy" 5 = 7 := by decide +kernel
  have hc0 : H[g.2.2.1 + a]? = some (vp_cell (g.2.1 0) (N, .inl f)) := hH.2 a _ hL
  obtain ⟨-, k0, hk0, cm0, hkk0⟩ := (hK.1.2 0 (g.2.1 0, .int) rfl).1 N (fun j => .int (f j))
  obtain ⟨vm', X', step⟩ := X.arraycopy hx hown (hts _ hl) (hts _ ac_n) (hts _ ac_s) (hts _ ac_i) (src := g.2.2.1 + a) (dst := g.2.2.1 + a) (cs := vp_cell (g.2.1 0) (N, .inl f)) (cd := vp_cell (g.2.1 0) (N, .inl f)) (srcPos := sp) (destPos := dp) (n := z) (by rw [hT]; exact hc0) (by rw [hT]; exact hc0)
    (fun _ h => by cases h) (fun _ h => by cases h) (fun h => by cases h) (fun h => by cases h) hk0 hk0 hkk0 hkk0 (by simp [refKind]) h1 h2 h3
    (by rw [nn sp h1, nn z h3]; show ¬ _ > ((arrV (g.2.1 0) N (fun j => .int (f j))).slots.size : Int); rw [arrV_size]; omega)
    (by rw [nn dp h2, nn z h3]; show ¬ _ > ((arrV (g.2.1 0) N (fun j => .int (f j))).slots.size : Int); rw [arrV_size]; omega)
    (fun vm₁ _ i hi => by
      have e : (vp_cell (g.2.1 0) (N, .inl f)).slots.getD (sp.toNatClampNeg + i) .null = .int (f (sp.toNatClampNeg + i)) := by
        show (arrV (g.2.1 0) N (fun j => .int (f j))).slots.getD _ _ = _
        rw [Array.getD_eq_getD_getElem?, arrV_read _ _ (by omega)]
        rfl
      refine ⟨?_, ?_⟩
      · rw [e]; rfl
      · rw [e]
        exact trivial)
    (g := F0 m pc ls ((aI z :: aI dp :: aR a :: aI sp :: aR a :: st).map (toV g))) rfl (by show ls.size = _; rw [hml]; exact hlv.1) (rest := st.map (toV g)) rfl (by rw [hb]; exact hd) hrm.1 (by show 2 * 0 + _ + _ ≤ _; rw [cat_sum, hnf]; omega)
  have e1 : copied (vp_cell (g.2.1 0) (N, .inl f)) (vp_cell (g.2.1 0) (N, .inl f)) sp dp z = vp_cell (g.2.1 0) (N, .inl (va_cpy f f sp.toNatClampNeg dp.toNatClampNeg z.toNatClampNeg)) := va_copied (fun z => .int z) (g.2.1 0) (g.2.1 0) f f h4
  rw [e1] at X' step
  have hlt : g.2.2.1 + a < H.size := (Array.getElem?_eq_some_iff.mp hc0).1
  have hheap : ((T.setVm vm').setCell (g.2.2.1 + a) (vp_cell (g.2.1 0) (N, .inl (va_cpy f f sp.toNatClampNeg dp.toNatClampNeg z.toNatClampNeg)))).heap = H.setIfInBounds (g.2.2.1 + a) (vp_cell (g.2.1 0) (N, .inl (va_cpy f f sp.toNatClampNeg dp.toNatClampNeg z.toNatClampNeg))) := by rw [← hT]; rfl
  have oq : ∀ q : Nat, q ≠ g.2.2.1 + a → (H.setIfInBounds (g.2.2.1 + a) (vp_cell (g.2.1 0) (N, .inl (va_cpy f f sp.toNatClampNeg dp.toNatClampNeg z.toNatClampNeg))))[q]? = H[q]? := fun q hq => by simp [Array.getElem?_setIfInBounds, Ne.symm hq]
  obtain ⟨t, a1, b1⟩ := kk _ _ ls (hH.set (k := a) (e := eA 0 N (va_cpy f f sp.toNatClampNeg dp.toNatClampNeg z.toNatClampNeg)) (show (H.setIfInBounds (g.2.2.1 + a) _)[g.2.2.1 + a]? = some _ by simp [Array.getElem?_setIfInBounds, hlt]) (by simp) oq) ⟨by simp; exact hS.1, fun q g1 g2 => by
      rw [oq q (fun e => g2 (by rw [e]; exact Nat.le_add_right _ _))]
      exact hS.2.1 q g1 g2, fun q hq => by
      rcases List.mem_append.mp hq with h | h
      · exact hS.2.2 q h
      · obtain ⟨w, -, hw⟩ := List.mem_map.mp h
        rw [← hw]
        exact Nat.le_add_right _ _⟩ hlv _ hheap X'
  exact ⟨t, step t a1, b1⟩
end CP1
