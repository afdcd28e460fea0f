section XPF
variable {A : ST} {ta ba : Nat → Nat} {gr hc : Nat → Int32} {i : Nat} {x y : Int32} {o : Option Nat}
theorem u_ss (A : ST) (j i : Nat) (x : Int32) : up2 A j i x j i = x := by rw [up2_s]; exact pk_us
theorem dset2 : (dfs A ta i).set 2 (aI x) = dfs (up2 A 8 i x) ta i := by
  show [aI (A 5 i), aI (A 6 i), aI x, aI (A 9 i), aO (kref A ta i)] = [aI (A 5 i), aI (A 6 i), aI (up2 A 8 i x 8 i), aI (A 9 i), aO (kref A ta i)]
  rw [u_ss]
theorem dset3 : (dfs A ta i).set 3 (aI x) = dfs (up2 A 9 i x) ta i := by
  show [aI (A 5 i), aI (A 6 i), aI (A 8 i), aI x, aO (kref A ta i)] = [aI (A 5 i), aI (A 6 i), aI (A 8 i), aI (up2 A 9 i x 9 i), aO (kref A ta i)]
  rw [u_ss]
theorem dset4 (h : o = kref (up2 A 7 i y) ta i) : (dfs A ta i).set 4 (aO o) = dfs (up2 A 7 i y) ta i := by
  show [aI (A 5 i), aI (A 6 i), aI (A 8 i), aI (A 9 i), aO o] = [aI (A 5 i), aI (A 6 i), aI (A 8 i), aI (A 9 i), aO (kref (up2 A 7 i y) ta i)]
  rw [h]
theorem tset3 : (tfs A ba gr i).set 3 (aI x) = tfs A ba (upd gr i x) i := by
  show [aI (nI i), aI (A 11 i), aI (A 12 i), aI x, aI (A 14 i), aO (href A ba i), aI (A 15 i)] = [aI (nI i), aI (A 11 i), aI (A 12 i), aI (upd gr i x i), aI (A 14 i), aO (href A ba i), aI (A 15 i)]
  rw [pk_us]
theorem tset3p (h : href A ba i = href (up2 A 13 i x) ba i) : (tfs A ba gr i).set 3 (aI x) = tfs (up2 A 13 i x) ba (upd gr i x) i := by
  show [aI (nI i), aI (A 11 i), aI (A 12 i), aI x, aI (A 14 i), aO (href A ba i), aI (A 15 i)] = [aI (nI i), aI (A 11 i), aI (A 12 i), aI (upd gr i x i), aI (A 14 i), aO (href (up2 A 13 i x) ba i), aI (A 15 i)]
  rw [pk_us, h]
theorem tset4 : (tfs A ba gr i).set 4 (aI x) = tfs (up2 A 14 i x) ba gr i := by
  show [aI (nI i), aI (A 11 i), aI (A 12 i), aI (gr i), aI x, aO (href A ba i), aI (A 15 i)] = [aI (nI i), aI (A 11 i), aI (A 12 i), aI (gr i), aI (up2 A 14 i x 14 i), aO (href A ba i), aI (A 15 i)]
  rw [u_ss]
theorem tset5 (h : o = href (up2 A 13 i y) ba i) : (tfs A ba gr i).set 5 (aO o) = tfs (up2 A 13 i y) ba gr i := by
  show [aI (nI i), aI (A 11 i), aI (A 12 i), aI (gr i), aI (A 14 i), aO o, aI (A 15 i)] = [aI (nI i), aI (A 11 i), aI (A 12 i), aI (gr i), aI (A 14 i), aO (href (up2 A 13 i y) ba i), aI (A 15 i)]
  rw [h]
theorem tset6 : (tfs A ba gr i).set 6 (aI x) = tfs (up2 A 15 i x) ba gr i := by
  show [aI (nI i), aI (A 11 i), aI (A 12 i), aI (gr i), aI (A 14 i), aO (href A ba i), aI x] = [aI (nI i), aI (A 11 i), aI (A 12 i), aI (gr i), aI (A 14 i), aO (href A ba i), aI (up2 A 15 i x 15 i)]
  rw [u_ss]
theorem bset2 : (bfs A ta ba hc i).set 2 (aI x) = bfs (up2 A 17 i x) ta ba hc i := by
  show [aI (nI i), aR (ba i + 1), aI x, aI (hc i), aI (A 21 i), aI (A 19 i), aO (wref A ta i)] = [aI (nI i), aR (ba i + 1), aI (up2 A 17 i x 17 i), aI (hc i), aI (A 21 i), aI (A 19 i), aO (wref A ta i)]
  rw [u_ss]
theorem bset3 : (bfs A ta ba hc i).set 3 (aI x) = bfs A ta ba (upd hc i x) i := by
  show [aI (nI i), aR (ba i + 1), aI (A 17 i), aI x, aI (A 21 i), aI (A 19 i), aO (wref A ta i)] = [aI (nI i), aR (ba i + 1), aI (A 17 i), aI (upd hc i x i), aI (A 21 i), aI (A 19 i), aO (wref A ta i)]
  rw [pk_us]
theorem bset4 : (bfs A ta ba hc i).set 4 (aI x) = bfs (up2 A 21 i x) ta ba hc i := by
  show [aI (nI i), aR (ba i + 1), aI (A 17 i), aI (hc i), aI x, aI (A 19 i), aO (wref A ta i)] = [aI (nI i), aR (ba i + 1), aI (A 17 i), aI (hc i), aI (up2 A 21 i x 21 i), aI (A 19 i), aO (wref A ta i)]
  rw [u_ss]
theorem bset5 : (bfs A ta ba hc i).set 5 (aI x) = bfs (up2 A 19 i x) ta ba hc i := by
  show [aI (nI i), aR (ba i + 1), aI (A 17 i), aI (hc i), aI (A 21 i), aI x, aO (wref A ta i)] = [aI (nI i), aR (ba i + 1), aI (A 17 i), aI (hc i), aI (A 21 i), aI (up2 A 19 i x 19 i), aO (wref A ta i)]
  rw [u_ss]
theorem bset6 (h : o = wref (up2 A 18 i y) ta i) : (bfs A ta ba hc i).set 6 (aO o) = bfs (up2 A 18 i y) ta ba hc i := by
  show [aI (nI i), aR (ba i + 1), aI (A 17 i), aI (hc i), aI (A 21 i), aI (A 19 i), aO o] = [aI (nI i), aR (ba i + 1), aI (A 17 i), aI (hc i), aI (A 21 i), aI (A 19 i), aO (wref (up2 A 18 i y) ta i)]
  rw [h]
end XPF
section XPR
variable {g : GD} {Z : ZT} {H0 : Heap} {nL : Nat} {own nm : String} {cc : ByteArray} {rm : Room} {L L0 : List AE} {k n pc : Nat} {lv : List (Option AV)} {st : List AV} {r d t b : Nat} {A A' : ST} {da ta ba : Nat → Nat} {gr hc : Nat → Int32}
theorem V.putD (C : Cx g Z H0 nL own cc nm rm) (hX : XR0 r d t b A da ta ba gr hc L) (hF : FrX L0 L) {i index kf : Nat} {ty : FieldType} {v : AV} (hi : i < d) (hf : FL own index 1 kf ty false) (hd : decode cc pc = .ok (.putfield index, 3)) (hfit : narrow ty (toV g v) = toV g v ∧ fits ty (toV g v) = true) (hk : kf < 5) (ha : agr [5, 6, 7, 8, 9] i A A') (hs : (dfs A ta i).set kf v = dfs A' ta i) (kk : ∀ L' : List AE, XR0 r d t b A' da ta ba gr hc L' → FrX L0 L' → V g Z H0 nL L' k n (pc + 3) lv st) : V g Z H0 nL L k n pc lv (v :: aR (da i) :: st) :=
  V.put C hf hd (hX.dd hi) hfit hk (fun h => by cases h) (by rw [hs]) (kk _ (hX.setD hi ha) (hF.st (Or.inr (hX.d46 hi))))
theorem V.putT (C : Cx g Z H0 nL own cc nm rm) (hX : XR0 r d t b A da ta ba gr hc L) (hF : FrX L0 L) {i index kf : Nat} {ty : FieldType} {v : AV} (hi : i < t) (hf : FL own index 4 kf ty false) (hd : decode cc pc = .ok (.putfield index, 3)) (hfit : narrow ty (toV g v) = toV g v ∧ fits ty (toV g v) = true) (hk : kf < 7) (gr' : Nat → Int32) (ha : agr [11, 12, 13, 14, 15] i A A') (hg : ∀ k, k ≠ i → gr' k = gr k) (hs : (tfs A ba gr i).set kf v = tfs A' ba gr' i) (kk : ∀ L' : List AE, XR0 r d t b A' da ta ba gr' hc L' → FrX L0 L' → V g Z H0 nL L' k n (pc + 3) lv st) : V g Z H0 nL L k n pc lv (v :: aR (ta i) :: st) :=
  V.put C hf hd (hX.tt hi) hfit hk (fun h => by cases h) (by rw [hs]) (kk _ (hX.setT hi ha hg) (hF.st (Or.inr (hX.t46 hi))))
theorem V.putB (C : Cx g Z H0 nL own cc nm rm) (hX : XR0 r d t b A da ta ba gr hc L) (hF : FrX L0 L) {i index kf : Nat} {ty : FieldType} {v : AV} (hi : i < b) (hf : FL own index 0 kf ty false) (hd : decode cc pc = .ok (.putfield index, 3)) (hfit : narrow ty (toV g v) = toV g v ∧ fits ty (toV g v) = true) (hk : kf < 7) (hc' : Nat → Int32) (ha : agr [17, 18, 19, 21] i A A') (hg : ∀ k, k ≠ i → hc' k = hc k) (hs : (bfs A ta ba hc i).set kf v = bfs A' ta ba hc' i) (kk : ∀ L' : List AE, XR0 r d t b A' da ta ba gr hc' L' → FrX L0 L' → V g Z H0 nL L' k n (pc + 3) lv st) : V g Z H0 nL L k n pc lv (v :: aR (ba i) :: st) :=
  V.put C hf hd (hX.bb hi) hfit hk (fun h => by cases h) (by rw [hs]) (kk _ (hX.setB hi ha hg) (hF.st (Or.inr (hX.b46 hi))))
theorem V.putR (C : Cx g Z H0 nL own cc nm rm) (hX : XR0 r d t b A da ta ba gr hc L) (hF : FrX L0 L) {i index kf : Nat} {ty : FieldType} {v : AV} (hi : i < 5) (hf : FL own index 2 kf ty false) (hd : decode cc pc = .ok (.putfield index, 3)) (hfit : narrow ty (toV g v) = toV g v ∧ fits ty (toV g v) = true) (hk : kf < 3) (ha : agr [23, 24] i A A') (hs : [aR (14 + 2 * i), aI (A 23 i), aI (A 24 i)].set kf v = [aR (14 + 2 * i), aI (A' 23 i), aI (A' 24 i)]) (kk : ∀ L' : List AE, XR0 r d t b A' da ta ba gr hc L' → FrX L0 L' → V g Z H0 nL L' k n (pc + 3) lv st) : V g Z H0 nL L k n pc lv (v :: aR (13 + 2 * i) :: st) :=
  V.put C hf hd (hX.rl hi) hfit hk (fun h => by cases h) (by rw [hs]) (kk _ (hX.rule hi ha) (hF.st (Or.inl (by omega))))
theorem V.rowR (C : Cx g Z H0 nL own cc nm rm) (hX : XR0 r d t b A da ta ba gr hc L) (hF : FrX L0 L) {i m : Nat} {x : Int32} (hi : i < 5) (hm : m < 4) (hd : decode cc pc = .ok (.iastore, 1)) (kk : ∀ L' : List AE, XR0 r d t b (up2 A 22 (4 * i + m) x) da ta ba gr hc L' → FrX L0 L' → V g Z H0 nL L' k n (pc + 1) lv st) : V g Z H0 nL L k n pc lv (aI x :: aI (nI m) :: aR (14 + 2 * i) :: st) :=
  V.iastN C hd (hX.rr hi) hm (by decide) (kk _ (hX.row hi hm x) (hF.st (Or.inl (by omega))))
end XPR
theorem zfit (g : GD) {x : Int32} (h : x = 0 ∨ x = 1) : narrow .boolean (toV g (aI x)) = toV g (aI x) ∧ fits .boolean (toV g (aI x)) = true := by
  rcases h with rfl | rfl <;> exact ⟨rfl, rfl⟩
theorem ofit (g : GD) {s : String} (o : Option Nat) : narrow (.object s) (toV g (aO o)) = toV g (aO o) ∧ fits (.object s) (toV g (aO o)) = true := by
  cases o <;> exact ⟨rfl, rfl⟩
theorem rmA_o {A : ST} {r i j : Nat} (h2 : j ≠ 2) (h3 : j ≠ 3) : rmA A r i j = A j := by
  funext k
  unfold rmA
  rw [if_neg (fun q => h2 q.1), if_neg (fun q => h3 q.1)]
