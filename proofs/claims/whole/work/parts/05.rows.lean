section RW1
variable {g : GD} {Z : ZT} {H0 : Heap} {nL : Nat} {own nm : String} {cc : ByteArray} {rm : Room} {L : List AE} {k n pc : Nat} {lv : List (Option AV)} {st : List AV}
theorem V.iconst (C : Cx g Z H0 nL own cc nm rm) {z : Int} {x : Int32} (hd : decode cc pc = .ok (.iconst z, 1)) (hv : Int32.ofInt z = x) (kk : V g Z H0 nL L k n (pc + 1) lv (aI x :: st)) : V g Z H0 nL L k n pc lv st := by
  obtain ⟨p, l, e, s, m, args, below, meth, c, QQ, rfl, rfl, hx, hb, -⟩ := C
  intro H locs ls hH hS hl
  exact lv_iconst hx hb hd hv (kk H locs ls hH hS hl)
theorem V.bipush (C : Cx g Z H0 nL own cc nm rm) {z : Int} {x : Int32} (hd : decode cc pc = .ok (.bipush z, 2)) (hv : (Int8.ofInt z).toInt32 = x) (kk : V g Z H0 nL L k n (pc + 2) lv (aI x :: st)) : V g Z H0 nL L k n pc lv st := by
  obtain ⟨p, l, e, s, m, args, below, meth, c, QQ, rfl, rfl, hx, hb, -⟩ := C
  intro H locs ls hH hS hl
  exact lv_bipush hx hb hd hv (kk H locs ls hH hS hl)
theorem V.sipush (C : Cx g Z H0 nL own cc nm rm) {z : Int} {x : Int32} (hd : decode cc pc = .ok (.sipush z, 3)) (hv : (Int16.ofInt z).toInt32 = x) (kk : V g Z H0 nL L k n (pc + 3) lv (aI x :: st)) : V g Z H0 nL L k n pc lv st := by
  obtain ⟨p, l, e, s, m, args, below, meth, c, QQ, rfl, rfl, hx, hb, -⟩ := C
  intro H locs ls hH hS hl
  exact lv_sipush hx hb hd hv (kk H locs ls hH hS hl)
theorem V.ldcw (C : Cx g Z H0 nL own cc nm rm) {index : Nat} {x : Int32} (hw : Cond.constant own index x ∈ gt) (hd : decode cc pc = .ok (.ldc_w index, 3)) (kk : V g Z H0 nL L k n (pc + 3) lv (aI x :: st)) : V g Z H0 nL L k n pc lv st := by
  obtain ⟨p, l, e, s, m, args, below, meth, c, QQ, rfl, rfl, hx, hb, hml, hown, hts, -⟩ := C
  intro H locs ls hH hS hl
  exact lv_ldcw hx hb hown (hts _ hw) hd (kk H locs ls hH hS hl)
theorem V.null (C : Cx g Z H0 nL own cc nm rm) (hd : decode cc pc = .ok (.aconst_null, 1)) (kk : V g Z H0 nL L k n (pc + 1) lv (aN :: st)) : V g Z H0 nL L k n pc lv st := by
  obtain ⟨p, l, e, s, m, args, below, meth, c, QQ, rfl, rfl, hx, hb, -⟩ := C
  intro H locs ls hH hS hl
  exact lv_null hx hb hd (kk H locs ls hH hS hl)
theorem V.ild_n (C : Cx g Z H0 nL own cc nm rm) {j : Fin 4} {x : Int32} (hd : decode cc pc = .ok (.iload_n j, 1)) (hv : lv[(j : Nat)]? = some (some (aI x))) (kk : V g Z H0 nL L k n (pc + 1) lv (aI x :: st)) : V g Z H0 nL L k n pc lv st := by
  obtain ⟨p, l, e, s, m, args, below, meth, c, QQ, rfl, rfl, hx, hb, -⟩ := C
  intro H locs ls hH hS hl
  exact lv_iload_n hx hb hd rfl (hl.2.2.2 _ _ hv) (kk H locs ls hH hS hl)
theorem V.ild (C : Cx g Z H0 nL own cc nm rm) {j : Nat} {x : Int32} (hd : decode cc pc = .ok (.iload j, 2)) (hv : lv[j]? = some (some (aI x))) (kk : V g Z H0 nL L k n (pc + 2) lv (aI x :: st)) : V g Z H0 nL L k n pc lv st := by
  obtain ⟨p, l, e, s, m, args, below, meth, c, QQ, rfl, rfl, hx, hb, -⟩ := C
  intro H locs ls hH hS hl
  exact lv_iload hx hb hd (hl.2.2.2 _ _ hv) (kk H locs ls hH hS hl)
theorem V.ald_n (C : Cx g Z H0 nL own cc nm rm) {j : Fin 4} {o : Option Nat ⊕ Unit} (hd : decode cc pc = .ok (.aload_n j, 1)) (hv : lv[(j : Nat)]? = some (some (.inr o))) (kk : V g Z H0 nL L k n (pc + 1) lv (.inr o :: st)) : V g Z H0 nL L k n pc lv st := by
  obtain ⟨p, l, e, s, m, args, below, meth, c, QQ, rfl, rfl, hx, hb, -⟩ := C
  intro H locs ls hH hS hl
  have h := hl.2.2.2 _ _ hv
  rcases o with o | u
  · cases o with
    | none => exact lv_aload_nN hx hb hd rfl h (kk H locs ls hH hS hl)
    | some a => exact lv_aload_n hx hb hd rfl h (kk H locs ls hH hS hl)
  · exact lv_aload_n hx hb hd rfl h (kk H locs ls hH hS hl)
theorem V.ald (C : Cx g Z H0 nL own cc nm rm) {j : Nat} {o : Option Nat ⊕ Unit} (hd : decode cc pc = .ok (.aload j, 2)) (hv : lv[j]? = some (some (.inr o))) (kk : V g Z H0 nL L k n (pc + 2) lv (.inr o :: st)) : V g Z H0 nL L k n pc lv st := by
  obtain ⟨p, l, e, s, m, args, below, meth, c, QQ, rfl, rfl, hx, hb, -⟩ := C
  intro H locs ls hH hS hl
  have h := hl.2.2.2 _ _ hv
  rcases o with o | u
  · cases o with
    | none => exact lv_aloadN hx hb hd h (kk H locs ls hH hS hl)
    | some a => exact lv_aload hx hb hd h (kk H locs ls hH hS hl)
  · exact lv_aload hx hb hd h (kk H locs ls hH hS hl)
theorem Lv.lt {ls : Array Slot} (hl : Lv g ls nL lv) {i : Nat} (h : i < lv.length) : i < nL := by rw [← hl.2.2.1]; exact h
theorem V.ist_n (C : Cx g Z H0 nL own cc nm rm) {j : Fin 4} {x : Int32} {lv' : List (Option AV)} (hd : decode cc pc = .ok (.istore_n j, 1)) (hj : (j : Nat) < lv.length) (hs : lv.set (j : Nat) (some (aI x)) = lv') (kk : V g Z H0 nL L k n (pc + 1) lv' st) : V g Z H0 nL L k n pc lv (aI x :: st) := by
  obtain ⟨p, l, e, s, m, args, below, meth, c, QQ, rfl, rfl, hx, hb, -⟩ := C
  subst hs
  intro H locs ls hH hS hl
  exact lv_istore_n hx hb hd rfl hl.hp (hl.lt hj) rfl (fun ls' h' => kk H locs ls' hH hS (hl.store (aI x) h'))
theorem V.ist (C : Cx g Z H0 nL own cc nm rm) {j : Nat} {x : Int32} {lv' : List (Option AV)} (hd : decode cc pc = .ok (.istore j, 2)) (hj : j < lv.length) (hs : lv.set j (some (aI x)) = lv') (kk : V g Z H0 nL L k n (pc + 2) lv' st) : V g Z H0 nL L k n pc lv (aI x :: st) := by
  obtain ⟨p, l, e, s, m, args, below, meth, c, QQ, rfl, rfl, hx, hb, -⟩ := C
  subst hs
  intro H locs ls hH hS hl
  exact lv_istore hx hb hd hl.hp (hl.lt hj) rfl (fun ls' h' => kk H locs ls' hH hS (hl.store (aI x) h'))
theorem V.ast_n (C : Cx g Z H0 nL own cc nm rm) {j : Fin 4} {o : Option Nat ⊕ Unit} {lv' : List (Option AV)} (hd : decode cc pc = .ok (.astore_n j, 1)) (hj : (j : Nat) < lv.length) (hs : lv.set (j : Nat) (some (.inr o)) = lv') (kk : V g Z H0 nL L k n (pc + 1) lv' st) : V g Z H0 nL L k n pc lv (.inr o :: st) := by
  obtain ⟨p, l, e, s, m, args, below, meth, c, QQ, rfl, rfl, hx, hb, -⟩ := C
  subst hs
  intro H locs ls hH hS hl
  rcases o with o | u
  · cases o with
    | none => exact lv_astore_nN hx hb hd rfl hl.hp (hl.lt hj) rfl (fun ls' h' => kk H locs ls' hH hS (hl.store aN h'))
    | some a => exact lv_astore_n hx hb hd rfl hl.hp (hl.lt hj) rfl (fun ls' h' => kk H locs ls' hH hS (hl.store (aR a) h'))
  · exact lv_astore_n hx hb hd rfl hl.hp (hl.lt hj) rfl (fun ls' h' => kk H locs ls' hH hS (hl.store aS h'))
theorem V.ast (C : Cx g Z H0 nL own cc nm rm) {j : Nat} {o : Option Nat ⊕ Unit} {lv' : List (Option AV)} (hd : decode cc pc = .ok (.astore j, 2)) (hj : j < lv.length) (hs : lv.set j (some (.inr o)) = lv') (kk : V g Z H0 nL L k n (pc + 2) lv' st) : V g Z H0 nL L k n pc lv (.inr o :: st) := by
  obtain ⟨p, l, e, s, m, args, below, meth, c, QQ, rfl, rfl, hx, hb, -⟩ := C
  subst hs
  intro H locs ls hH hS hl
  rcases o with o | u
  · cases o with
    | none => exact lv_astoreN hx hb hd hl.hp (hl.lt hj) rfl (fun ls' h' => kk H locs ls' hH hS (hl.store aN h'))
    | some a => exact lv_astore hx hb hd hl.hp (hl.lt hj) rfl (fun ls' h' => kk H locs ls' hH hS (hl.store (aR a) h'))
  · exact lv_astore hx hb hd hl.hp (hl.lt hj) rfl (fun ls' h' => kk H locs ls' hH hS (hl.store aS h'))
theorem V.iinc (C : Cx g Z H0 nL own cc nm rm) {j : Nat} {z : Int} {x y : Int32} {lv' : List (Option AV)} (hd : decode cc pc = .ok (.iinc j z, 3)) (hv : lv[j]? = some (some (aI x))) (hy : x + Int32.ofInt z = y) (hs : lv.set j (some (aI y)) = lv') (kk : V g Z H0 nL L k n (pc + 3) lv' st) : V g Z H0 nL L k n pc lv st := by
  obtain ⟨p, l, e, s, m, args, below, meth, c, QQ, rfl, rfl, hx, hb, -⟩ := C
  subst hs
  intro H locs ls hH hS hl
  obtain ⟨i, hi⟩ := List.getElem?_of_mem (lvp_mem (g := g) hv)
  exact lv_iinc hx hb hd hl.hp hi hy (hl.lt (List.getElem?_eq_some_iff.mp hv).1) rfl (fun ls' h' => kk H locs ls' hH hS (hl.store (aI y) h'))
theorem V.iadd (C : Cx g Z H0 nL own cc nm rm) {x y : Int32} (hd : decode cc pc = .ok (.iadd, 1)) (kk : V g Z H0 nL L k n (pc + 1) lv (aI (x + y) :: st)) : V g Z H0 nL L k n pc lv (aI y :: aI x :: st) := by
  obtain ⟨p, l, e, s, m, args, below, meth, c, QQ, rfl, rfl, hx, hb, -⟩ := C
  intro H locs ls hH hS hl
  exact lv_iadd hx hb hd (kk H locs ls hH hS hl)
theorem V.isub (C : Cx g Z H0 nL own cc nm rm) {x y : Int32} (hd : decode cc pc = .ok (.isub, 1)) (kk : V g Z H0 nL L k n (pc + 1) lv (aI (x - y) :: st)) : V g Z H0 nL L k n pc lv (aI y :: aI x :: st) := by
  obtain ⟨p, l, e, s, m, args, below, meth, c, QQ, rfl, rfl, hx, hb, -⟩ := C
  intro H locs ls hH hS hl
  exact lv_isub hx hb hd (kk H locs ls hH hS hl)
theorem V.imul (C : Cx g Z H0 nL own cc nm rm) {x y : Int32} (hd : decode cc pc = .ok (.imul, 1)) (kk : V g Z H0 nL L k n (pc + 1) lv (aI (x * y) :: st)) : V g Z H0 nL L k n pc lv (aI y :: aI x :: st) := by
  obtain ⟨p, l, e, s, m, args, below, meth, c, QQ, rfl, rfl, hx, hb, -⟩ := C
  intro H locs ls hH hS hl
  exact lv_imul hx hb hd (kk H locs ls hH hS hl)
theorem V.iand (C : Cx g Z H0 nL own cc nm rm) {x y : Int32} (hd : decode cc pc = .ok (.iand, 1)) (kk : V g Z H0 nL L k n (pc + 1) lv (aI (x &&& y) :: st)) : V g Z H0 nL L k n pc lv (aI y :: aI x :: st) := by
  obtain ⟨p, l, e, s, m, args, below, meth, c, QQ, rfl, rfl, hx, hb, -⟩ := C
  intro H locs ls hH hS hl
  exact lv_iand hx hb hd (kk H locs ls hH hS hl)
theorem V.ior (C : Cx g Z H0 nL own cc nm rm) {x y : Int32} (hd : decode cc pc = .ok (.ior, 1)) (kk : V g Z H0 nL L k n (pc + 1) lv (aI (x ||| y) :: st)) : V g Z H0 nL L k n pc lv (aI y :: aI x :: st) := by
  obtain ⟨p, l, e, s, m, args, below, meth, c, QQ, rfl, rfl, hx, hb, -⟩ := C
  intro H locs ls hH hS hl
  exact lv_ior hx hb hd (kk H locs ls hH hS hl)
theorem V.ixor (C : Cx g Z H0 nL own cc nm rm) {x y : Int32} (hd : decode cc pc = .ok (.ixor, 1)) (kk : V g Z H0 nL L k n (pc + 1) lv (aI (x ^^^ y) :: st)) : V g Z H0 nL L k n pc lv (aI y :: aI x :: st) := by
  obtain ⟨p, l, e, s, m, args, below, meth, c, QQ, rfl, rfl, hx, hb, -⟩ := C
  intro H locs ls hH hS hl
  exact lv_ixor hx hb hd (kk H locs ls hH hS hl)
theorem V.idiv (C : Cx g Z H0 nL own cc nm rm) {x y : Int32} (hd : decode cc pc = .ok (.idiv, 1)) (hne : ¬ y = 0) (kk : V g Z H0 nL L k n (pc + 1) lv (aI (x / y) :: st)) : V g Z H0 nL L k n pc lv (aI y :: aI x :: st) := by
  obtain ⟨p, l, e, s, m, args, below, meth, c, QQ, rfl, rfl, hx, hb, -⟩ := C
  intro H locs ls hH hS hl
  exact lv_idiv hx hb hd hne (kk H locs ls hH hS hl)
theorem V.irem (C : Cx g Z H0 nL own cc nm rm) {x y : Int32} (hd : decode cc pc = .ok (.irem, 1)) (hne : ¬ y = 0) (kk : V g Z H0 nL L k n (pc + 1) lv (aI (x - x / y * y) :: st)) : V g Z H0 nL L k n pc lv (aI y :: aI x :: st) := by
  obtain ⟨p, l, e, s, m, args, below, meth, c, QQ, rfl, rfl, hx, hb, -⟩ := C
  intro H locs ls hH hS hl
  exact lv_irem hx hb hd hne (kk H locs ls hH hS hl)
theorem V.ineg (C : Cx g Z H0 nL own cc nm rm) {x : Int32} (hd : decode cc pc = .ok (.ineg, 1)) (kk : V g Z H0 nL L k n (pc + 1) lv (aI (-x) :: st)) : V g Z H0 nL L k n pc lv (aI x :: st) := by
  obtain ⟨p, l, e, s, m, args, below, meth, c, QQ, rfl, rfl, hx, hb, -⟩ := C
  intro H locs ls hH hS hl
  exact lv_ineg hx hb hd (kk H locs ls hH hS hl)
theorem V.ishl (C : Cx g Z H0 nL own cc nm rm) {x y : Int32} (hd : decode cc pc = .ok (.ishl, 1)) (kk : V g Z H0 nL L k n (pc + 1) lv (aI (x <<< (y &&& 31)) :: st)) : V g Z H0 nL L k n pc lv (aI y :: aI x :: st) := by
  obtain ⟨p, l, e, s, m, args, below, meth, c, QQ, rfl, rfl, hx, hb, -⟩ := C
  intro H locs ls hH hS hl
  exact lv_ishl hx hb hd (kk H locs ls hH hS hl)
theorem V.ishr (C : Cx g Z H0 nL own cc nm rm) {x y : Int32} (hd : decode cc pc = .ok (.ishr, 1)) (kk : V g Z H0 nL L k n (pc + 1) lv (aI (x >>> (y &&& 31)) :: st)) : V g Z H0 nL L k n pc lv (aI y :: aI x :: st) := by
  obtain ⟨p, l, e, s, m, args, below, meth, c, QQ, rfl, rfl, hx, hb, -⟩ := C
  intro H locs ls hH hS hl
  exact lv_ishr hx hb hd (kk H locs ls hH hS hl)
theorem V.iushr (C : Cx g Z H0 nL own cc nm rm) {x y : Int32} (hd : decode cc pc = .ok (.iushr, 1)) (kk : V g Z H0 nL L k n (pc + 1) lv (aI ((x.toUInt32 >>> (y.toUInt32 &&& Int32.toUInt32 31)).toInt32) :: st)) : V g Z H0 nL L k n pc lv (aI y :: aI x :: st) := by
  obtain ⟨p, l, e, s, m, args, below, meth, c, QQ, rfl, rfl, hx, hb, -⟩ := C
  intro H locs ls hH hS hl
  exact lv_iushr hx hb hd rfl (kk H locs ls hH hS hl)
theorem V.dup (C : Cx g Z H0 nL own cc nm rm) {v : AV} (hd : decode cc pc = .ok (.dup, 1)) (kk : V g Z H0 nL L k n (pc + 1) lv (v :: v :: st)) : V g Z H0 nL L k n pc lv (v :: st) := by
  obtain ⟨p, l, e, s, m, args, below, meth, c, QQ, rfl, rfl, hx, hb, -⟩ := C
  intro H locs ls hH hS hl
  exact lv_dup hx hb hd (toV_cat g v) (kk H locs ls hH hS hl)
theorem V.dup_x1 (C : Cx g Z H0 nL own cc nm rm) {v w : AV} (hd : decode cc pc = .ok (.dup_x1, 1)) (kk : V g Z H0 nL L k n (pc + 1) lv (v :: w :: v :: st)) : V g Z H0 nL L k n pc lv (v :: w :: st) := by
  obtain ⟨p, l, e, s, m, args, below, meth, c, QQ, rfl, rfl, hx, hb, -⟩ := C
  intro H locs ls hH hS hl
  exact lv_dup_x1 hx hb hd (toV_cat g v) (toV_cat g w) (kk H locs ls hH hS hl)
theorem V.dup2 (C : Cx g Z H0 nL own cc nm rm) {v w : AV} (hd : decode cc pc = .ok (.dup2, 1)) (kk : V g Z H0 nL L k n (pc + 1) lv (v :: w :: v :: w :: st)) : V g Z H0 nL L k n pc lv (v :: w :: st) := by
  obtain ⟨p, l, e, s, m, args, below, meth, c, QQ, rfl, rfl, hx, hb, -⟩ := C
  intro H locs ls hH hS hl
  exact lv_dup2_11 hx hb hd (toV_cat g v) (toV_cat g w) (kk H locs ls hH hS hl)
theorem V.goto (C : Cx g Z H0 nL own cc nm rm) {off : Int} {tgt : Nat} (hd : decode cc pc = .ok (.goto off, 3)) (ht : (pc : Int) + off = (tgt : Int)) (kk : V g Z H0 nL L k n tgt lv st) : V g Z H0 nL L k n pc lv st := by
  obtain ⟨p, l, e, s, m, args, below, meth, c, QQ, rfl, rfl, hx, hb, -⟩ := C
  intro H locs ls hH hS hl
  exact lv_goto hx hb hd ht (kk H locs ls hH hS hl)
theorem V.if_eq (C : Cx g Z H0 nL own cc nm rm) {x : Int32} {off : Int} {tgt : Nat} (hd : decode cc pc = .ok (.ifCond .eq off, 3)) (ht : (pc : Int) + off = (tgt : Int)) (kt : x = 0 → V g Z H0 nL L k n tgt lv st) (kf : ¬ x = 0 → V g Z H0 nL L k n (pc + 3) lv st) : V g Z H0 nL L k n pc lv (aI x :: st) := by
  obtain ⟨p, l, e, s, m, args, below, meth, c, QQ, rfl, rfl, hx, hb, -⟩ := C
  intro H locs ls hH hS hl
  exact lv_if_eq hx hb hd ht (fun h => kt h H locs ls hH hS hl) (fun h => kf h H locs ls hH hS hl)
theorem V.icmp_eq (C : Cx g Z H0 nL own cc nm rm) {x y : Int32} {off : Int} {tgt : Nat} (hd : decode cc pc = .ok (.if_icmp .eq off, 3)) (ht : (pc : Int) + off = (tgt : Int)) (kt : x = y → V g Z H0 nL L k n tgt lv st) (kf : ¬ x = y → V g Z H0 nL L k n (pc + 3) lv st) : V g Z H0 nL L k n pc lv (aI y :: aI x :: st) := by
  obtain ⟨p, l, e, s, m, args, below, meth, c, QQ, rfl, rfl, hx, hb, -⟩ := C
  intro H locs ls hH hS hl
  exact lv_icmp_eq hx hb hd ht (fun h => kt h H locs ls hH hS hl) (fun h => kf h H locs ls hH hS hl)
theorem V.if_ne (C : Cx g Z H0 nL own cc nm rm) {x : Int32} {off : Int} {tgt : Nat} (hd : decode cc pc = .ok (.ifCond .ne off, 3)) (ht : (pc : Int) + off = (tgt : Int)) (kt : ¬ x = 0 → V g Z H0 nL L k n tgt lv st) (kf : x = 0 → V g Z H0 nL L k n (pc + 3) lv st) : V g Z H0 nL L k n pc lv (aI x :: st) := by
  obtain ⟨p, l, e, s, m, args, below, meth, c, QQ, rfl, rfl, hx, hb, -⟩ := C
  intro H locs ls hH hS hl
  exact lv_if_ne hx hb hd ht (fun h => kt h H locs ls hH hS hl) (fun h => kf h H locs ls hH hS hl)
theorem V.icmp_ne (C : Cx g Z H0 nL own cc nm rm) {x y : Int32} {off : Int} {tgt : Nat} (hd : decode cc pc = .ok (.if_icmp .ne off, 3)) (ht : (pc : Int) + off = (tgt : Int)) (kt : ¬ x = y → V g Z H0 nL L k n tgt lv st) (kf : x = y → V g Z H0 nL L k n (pc + 3) lv st) : V g Z H0 nL L k n pc lv (aI y :: aI x :: st) := by
  obtain ⟨p, l, e, s, m, args, below, meth, c, QQ, rfl, rfl, hx, hb, -⟩ := C
  intro H locs ls hH hS hl
  exact lv_icmp_ne hx hb hd ht (fun h => kt h H locs ls hH hS hl) (fun h => kf h H locs ls hH hS hl)
theorem V.if_lt (C : Cx g Z H0 nL own cc nm rm) {x : Int32} {off : Int} {tgt : Nat} (hd : decode cc pc = .ok (.ifCond .lt off, 3)) (ht : (pc : Int) + off = (tgt : Int)) (kt : x < 0 → V g Z H0 nL L k n tgt lv st) (kf : ¬ x < 0 → V g Z H0 nL L k n (pc + 3) lv st) : V g Z H0 nL L k n pc lv (aI x :: st) := by
  obtain ⟨p, l, e, s, m, args, below, meth, c, QQ, rfl, rfl, hx, hb, -⟩ := C
  intro H locs ls hH hS hl
  exact lv_if_lt hx hb hd ht (fun h => kt h H locs ls hH hS hl) (fun h => kf h H locs ls hH hS hl)
theorem V.icmp_lt (C : Cx g Z H0 nL own cc nm rm) {x y : Int32} {off : Int} {tgt : Nat} (hd : decode cc pc = .ok (.if_icmp .lt off, 3)) (ht : (pc : Int) + off = (tgt : Int)) (kt : x < y → V g Z H0 nL L k n tgt lv st) (kf : ¬ x < y → V g Z H0 nL L k n (pc + 3) lv st) : V g Z H0 nL L k n pc lv (aI y :: aI x :: st) := by
  obtain ⟨p, l, e, s, m, args, below, meth, c, QQ, rfl, rfl, hx, hb, -⟩ := C
  intro H locs ls hH hS hl
  exact lv_icmp_lt hx hb hd ht (fun h => kt h H locs ls hH hS hl) (fun h => kf h H locs ls hH hS hl)
theorem V.if_ge (C : Cx g Z H0 nL own cc nm rm) {x : Int32} {off : Int} {tgt : Nat} (hd : decode cc pc = .ok (.ifCond .ge off, 3)) (ht : (pc : Int) + off = (tgt : Int)) (kt : 0 ≤ x → V g Z H0 nL L k n tgt lv st) (kf : ¬ 0 ≤ x → V g Z H0 nL L k n (pc + 3) lv st) : V g Z H0 nL L k n pc lv (aI x :: st) := by
  obtain ⟨p, l, e, s, m, args, below, meth, c, QQ, rfl, rfl, hx, hb, -⟩ := C
  intro H locs ls hH hS hl
  exact lv_if_ge hx hb hd ht (fun h => kt h H locs ls hH hS hl) (fun h => kf h H locs ls hH hS hl)
theorem V.icmp_ge (C : Cx g Z H0 nL own cc nm rm) {x y : Int32} {off : Int} {tgt : Nat} (hd : decode cc pc = .ok (.if_icmp .ge off, 3)) (ht : (pc : Int) + off = (tgt : Int)) (kt : y ≤ x → V g Z H0 nL L k n tgt lv st) (kf : ¬ y ≤ x → V g Z H0 nL L k n (pc + 3) lv st) : V g Z H0 nL L k n pc lv (aI y :: aI x :: st) := by
  obtain ⟨p, l, e, s, m, args, below, meth, c, QQ, rfl, rfl, hx, hb, -⟩ := C
  intro H locs ls hH hS hl
  exact lv_icmp_ge hx hb hd ht (fun h => kt h H locs ls hH hS hl) (fun h => kf h H locs ls hH hS hl)
theorem V.if_gt (C : Cx g Z H0 nL own cc nm rm) {x : Int32} {off : Int} {tgt : Nat} (hd : decode cc pc = .ok (.ifCond .gt off, 3)) (ht : (pc : Int) + off = (tgt : Int)) (kt : 0 < x → V g Z H0 nL L k n tgt lv st) (kf : ¬ 0 < x → V g Z H0 nL L k n (pc + 3) lv st) : V g Z H0 nL L k n pc lv (aI x :: st) := by
  obtain ⟨p, l, e, s, m, args, below, meth, c, QQ, rfl, rfl, hx, hb, -⟩ := C
  intro H locs ls hH hS hl
  exact lv_if_gt hx hb hd ht (fun h => kt h H locs ls hH hS hl) (fun h => kf h H locs ls hH hS hl)
theorem V.icmp_gt (C : Cx g Z H0 nL own cc nm rm) {x y : Int32} {off : Int} {tgt : Nat} (hd : decode cc pc = .ok (.if_icmp .gt off, 3)) (ht : (pc : Int) + off = (tgt : Int)) (kt : y < x → V g Z H0 nL L k n tgt lv st) (kf : ¬ y < x → V g Z H0 nL L k n (pc + 3) lv st) : V g Z H0 nL L k n pc lv (aI y :: aI x :: st) := by
  obtain ⟨p, l, e, s, m, args, below, meth, c, QQ, rfl, rfl, hx, hb, -⟩ := C
  intro H locs ls hH hS hl
  exact lv_icmp_gt hx hb hd ht (fun h => kt h H locs ls hH hS hl) (fun h => kf h H locs ls hH hS hl)
theorem V.if_le (C : Cx g Z H0 nL own cc nm rm) {x : Int32} {off : Int} {tgt : Nat} (hd : decode cc pc = .ok (.ifCond .le off, 3)) (ht : (pc : Int) + off = (tgt : Int)) (kt : x ≤ 0 → V g Z H0 nL L k n tgt lv st) (kf : ¬ x ≤ 0 → V g Z H0 nL L k n (pc + 3) lv st) : V g Z H0 nL L k n pc lv (aI x :: st) := by
  obtain ⟨p, l, e, s, m, args, below, meth, c, QQ, rfl, rfl, hx, hb, -⟩ := C
  intro H locs ls hH hS hl
  exact lv_if_le hx hb hd ht (fun h => kt h H locs ls hH hS hl) (fun h => kf h H locs ls hH hS hl)
theorem V.icmp_le (C : Cx g Z H0 nL own cc nm rm) {x y : Int32} {off : Int} {tgt : Nat} (hd : decode cc pc = .ok (.if_icmp .le off, 3)) (ht : (pc : Int) + off = (tgt : Int)) (kt : x ≤ y → V g Z H0 nL L k n tgt lv st) (kf : ¬ x ≤ y → V g Z H0 nL L k n (pc + 3) lv st) : V g Z H0 nL L k n pc lv (aI y :: aI x :: st) := by
  obtain ⟨p, l, e, s, m, args, below, meth, c, QQ, rfl, rfl, hx, hb, -⟩ := C
  intro H locs ls hH hS hl
  exact lv_icmp_le hx hb hd ht (fun h => kt h H locs ls hH hS hl) (fun h => kf h H locs ls hH hS hl)
theorem V.acmp_eq (C : Cx g Z H0 nL own cc nm rm) {ox oy : Option Nat} {off : Int} {tgt : Nat} (hd : decode cc pc = .ok (.if_acmp .eq off, 3)) (ht : (pc : Int) + off = (tgt : Int)) (kt : ox = oy → V g Z H0 nL L k n tgt lv st) (kf : ¬ ox = oy → V g Z H0 nL L k n (pc + 3) lv st) : V g Z H0 nL L k n pc lv (aO oy :: aO ox :: st) := by
  obtain ⟨p, l, e, s, m, args, below, meth, c, QQ, rfl, rfl, hx, hb, -⟩ := C
  intro H locs ls hH hS hl
  have hinj : ∀ {a b : Option Nat}, a.map (fun k => g.2.2.1 + k) = b.map (fun k => g.2.2.1 + k) → a = b := by
    intro a b h
    cases a <;> cases b <;> simp at h ⊢
    exact h
  exact lv_acmp_eq hx hb hd ht (fun h => kt (hinj h) H locs ls hH hS hl) (fun h => kf (fun q => h (by rw [q])) H locs ls hH hS hl)
theorem V.acmp_ne (C : Cx g Z H0 nL own cc nm rm) {ox oy : Option Nat} {off : Int} {tgt : Nat} (hd : decode cc pc = .ok (.if_acmp .ne off, 3)) (ht : (pc : Int) + off = (tgt : Int)) (kt : ¬ ox = oy → V g Z H0 nL L k n tgt lv st) (kf : ox = oy → V g Z H0 nL L k n (pc + 3) lv st) : V g Z H0 nL L k n pc lv (aO oy :: aO ox :: st) := by
  obtain ⟨p, l, e, s, m, args, below, meth, c, QQ, rfl, rfl, hx, hb, -⟩ := C
  intro H locs ls hH hS hl
  have hinj : ∀ {a b : Option Nat}, a.map (fun k => g.2.2.1 + k) = b.map (fun k => g.2.2.1 + k) → a = b := by
    intro a b h
    cases a <;> cases b <;> simp at h ⊢
    exact h
  exact lv_acmp_ne hx hb hd ht (fun h => kt (fun q => h (by rw [q])) H locs ls hH hS hl) (fun h => kf (hinj h) H locs ls hH hS hl)
theorem V.ifnull (C : Cx g Z H0 nL own cc nm rm) {a : Nat} {off : Int} (hd : decode cc pc = .ok (.ifnull off, 3)) (kk : V g Z H0 nL L k n (pc + 3) lv st) : V g Z H0 nL L k n pc lv (aR a :: st) := by
  obtain ⟨p, l, e, s, m, args, below, meth, c, QQ, rfl, rfl, hx, hb, -⟩ := C
  intro H locs ls hH hS hl
  exact lv_ifnull hx hb hd (kk H locs ls hH hS hl)
theorem V.ifnullN (C : Cx g Z H0 nL own cc nm rm) {off : Int} {tgt : Nat} (hd : decode cc pc = .ok (.ifnull off, 3)) (ht : (pc : Int) + off = (tgt : Int)) (kk : V g Z H0 nL L k n tgt lv st) : V g Z H0 nL L k n pc lv (aN :: st) := by
  obtain ⟨p, l, e, s, m, args, below, meth, c, QQ, rfl, rfl, hx, hb, -⟩ := C
  intro H locs ls hH hS hl
  exact lv_ifnullN hx hb hd ht (kk H locs ls hH hS hl)
theorem V.ifnonnull (C : Cx g Z H0 nL own cc nm rm) {a : Nat} {off : Int} {tgt : Nat} (hd : decode cc pc = .ok (.ifnonnull off, 3)) (ht : (pc : Int) + off = (tgt : Int)) (kk : V g Z H0 nL L k n tgt lv st) : V g Z H0 nL L k n pc lv (aR a :: st) := by
  obtain ⟨p, l, e, s, m, args, below, meth, c, QQ, rfl, rfl, hx, hb, -⟩ := C
  intro H locs ls hH hS hl
  exact lv_ifnonnull hx hb hd ht (kk H locs ls hH hS hl)
theorem V.ifnonnullN (C : Cx g Z H0 nL own cc nm rm) {off : Int} (hd : decode cc pc = .ok (.ifnonnull off, 3)) (kk : V g Z H0 nL L k n (pc + 3) lv st) : V g Z H0 nL L k n pc lv (aN :: st) := by
  obtain ⟨p, l, e, s, m, args, below, meth, c, QQ, rfl, rfl, hx, hb, -⟩ := C
  intro H locs ls hH hS hl
  exact lv_ifnonnullN hx hb hd (kk H locs ls hH hS hl)
theorem V.lookup (C : Cx g Z H0 nL own cc nm rm) {dflt off : Int} {ps : Array (Int × Int)} {len tgt : Nat} {x : Int32} (hd : decode cc pc = .ok (.lookupswitch dflt ps, len)) (hp : (ps.toList.zip (ps.toList.drop 1)).all (fun (a, next) => a.1 < next.1) = true) (ho : Op.lookupswitch.offset ps.toList dflt x.toInt = off) (ht : (pc : Int) + off = (tgt : Int)) (kk : V g Z H0 nL L k n tgt lv st) : V g Z H0 nL L k n pc lv (aI x :: st) := by
  obtain ⟨p, l, e, s, m, args, below, meth, c, QQ, rfl, rfl, hx, hb, -⟩ := C
  intro H locs ls hH hS hl
  exact lv_lookup hx hb hd hp ho ht (kk H locs ls hH hS hl)
theorem V.tableOut (C : Cx g Z H0 nL own cc nm rm) {dflt lo hi : Int} {offs : Array Int} {len tgt : Nat} {x : Int32} (hd : decode cc pc = .ok (.tableswitch dflt lo hi offs, len)) (h : x.toInt < lo ∨ hi < x.toInt) (ht : (pc : Int) + dflt = (tgt : Int)) (kk : V g Z H0 nL L k n tgt lv st) : V g Z H0 nL L k n pc lv (aI x :: st) := by
  obtain ⟨p, l, e, s, m, args, below, meth, c, QQ, rfl, rfl, hx, hb, -⟩ := C
  intro H locs ls hH hS hl
  exact lv_tableOut hx hb hd h ht (kk H locs ls hH hS hl)
theorem V.tableIn (C : Cx g Z H0 nL own cc nm rm) {dflt lo hi off : Int} {offs : Array Int} {len tgt : Nat} {x : Int32} (hd : decode cc pc = .ok (.tableswitch dflt lo hi offs, len)) (h1 : ¬ x.toInt < lo) (h2 : ¬ hi < x.toInt) (ho : offs[(x.toInt - lo).toNat]? = some off) (ht : (pc : Int) + off = (tgt : Int)) (kk : V g Z H0 nL L k n tgt lv st) : V g Z H0 nL L k n pc lv (aI x :: st) := by
  obtain ⟨p, l, e, s, m, args, below, meth, c, QQ, rfl, rfl, hx, hb, -⟩ := C
  intro H locs ls hH hS hl
  exact lv_tableIn hx hb hd h1 h2 ho ht (kk H locs ls hH hS hl)
end RW1
