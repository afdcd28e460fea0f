/-! the class's own cells -/
abbrev xfs (r d t b : Nat) : List AV := [aR 1, aR 2, aR 3, aR 4, aR 5, aR 6, aR 7, aR 8, aI (nI r), aI (nI d), aI (nI t), aI (nI b)]
def xw (A : ST) (r : Nat) : Nat → Int32 := fun j => if j < 8 * r then A 2 j else -1
def xv (A : ST) (r : Nat) : Nat → Int32 := fun j => if j < 8 * r then A 3 j else 9
noncomputable def msk (A : ST) (i : Nat) : Nat := bsn (fun x => A 25 (20 * i + x) = 1) 20
def xq (n : Nat) (f : Nat → Nat) : Nat → Option Nat := fun i => if i < n then some (f i) else none
noncomputable def kref (A : ST) (ta : Nat → Nat) (i : Nat) : Option Nat := cI (A 7 i = -1) none (some (ta (A 7 i).toNatClampNeg))
noncomputable def href (A : ST) (ba : Nat → Nat) (i : Nat) : Option Nat := cI (100 ≤ A 13 i) (some (ba (A 13 i - 100).toNatClampNeg)) none
noncomputable def wref (A : ST) (ta : Nat → Nat) (i : Nat) : Option Nat := cI (A 18 i = -1) none (some (ta (A 18 i).toNatClampNeg))
noncomputable abbrev dfs (A : ST) (ta : Nat → Nat) (i : Nat) : List AV := [aI (A 5 i), aI (A 6 i), aI (A 8 i), aI (A 9 i), aO (kref A ta i)]
noncomputable abbrev tfs (A : ST) (ba : Nat → Nat) (gr : Nat → Int32) (i : Nat) : List AV := [aI (nI i), aI (A 11 i), aI (A 12 i), aI (gr i), aI (A 14 i), aO (href A ba i), aI (A 15 i)]
noncomputable abbrev bfs (A : ST) (ta ba : Nat → Nat) (hc : Nat → Int32) (i : Nat) : List AV := [aI (nI i), aR (ba i + 1), aI (A 17 i), aI (hc i), aI (A 21 i), aI (A 19 i), aO (wref A ta i)]
def rowF (A : ST) (i : Nat) : Nat → Int32 := fun j => if j < 4 then A 22 (4 * i + j) else 0
def newF (A : ST) (i : Nat) : Nat → Int32 := fun j => if j < 8 then A 20 (8 * i + j) else 0
def XF (r d t b : Nat) (A : ST) (da ta ba : Nat → Nat) (L : List AE) : Prop := L[0]? = some (eO 5 (xfs r d t b)) ∧ L[1]? = some (eA 0 160 (xw A r)) ∧ L[2]? = some (eA 0 160 (xv A r)) ∧ L[3]? = some (eQ 2 5 (fun i => some (13 + 2 * i))) ∧ L[4]? = some (eA 0 7 (fun i => nI (msk A i))) ∧ L[5]? = some (eQ 3 15 (xq d da)) ∧ L[6]? = some (eQ 4 30 (xq t ta)) ∧ L[7]? = some (eQ 5 6 (xq b ba)) ∧ ∀ i, i < 5 → L[13 + 2 * i]? = some (eO 2 [aR (14 + 2 * i), aI (A 23 i), aI (A 24 i)]) ∧ L[14 + 2 * i]? = some (eA 0 4 (rowF A i))
def XS (q s p l : Nat → Int32) (rc : Int32) (L : List AE) : Prop := L[8]? = some (eO 3 [aR 9, aR 10, aR 11, aR 12, aI rc]) ∧ L[9]? = some (eA 0 20 q) ∧ L[10]? = some (eA 0 20 s) ∧ L[11]? = some (eA 0 20 p) ∧ L[12]? = some (eA 0 20 l)
def XD (d : Nat) (A : ST) (da ta : Nat → Nat) (L : List AE) : Prop := (∀ i, i < d → L[da i]? = some (eO 1 (dfs A ta i)) ∧ 46 ≤ da i) ∧ ∀ i j, i < d → j < d → da i = da j → i = j
def XT (t : Nat) (A : ST) (ta ba : Nat → Nat) (gr : Nat → Int32) (L : List AE) : Prop := ∀ i, i < t → L[ta i]? = some (eO 4 (tfs A ba gr i)) ∧ 46 ≤ ta i
def XB (b : Nat) (A : ST) (ta ba : Nat → Nat) (hc : Nat → Int32) (L : List AE) : Prop := ∀ i, i < b → L[ba i]? = some (eO 0 (bfs A ta ba hc i)) ∧ L[ba i + 1]? = some (eA 0 8 (newF A i)) ∧ 46 ≤ ba i
def XR0 (r d t b : Nat) (A : ST) (da ta ba : Nat → Nat) (gr hc : Nat → Int32) (L : List AE) : Prop := XF r d t b A da ta ba L ∧ (∃ q s p l rc, XS q s p l rc L) ∧ XD d A da ta L ∧ XT t A ta ba gr L ∧ XB b A ta ba hc L ∧ 46 ≤ L.length ∧ t ≤ 30 ∧ b ≤ 6
def Rl (t b : Nat) (A : ST) (gr hc : Nat → Int32) : Prop := (∀ i, i < t → ¬ 100 ≤ A 13 i → gr i = A 13 i) ∧ (∀ i, i < b → hc i = nI (cnt (hol A i) t)) ∧ ∀ i, i < b → cnt (hol A i) t ≤ 4
def FrX (L L' : List AE) : Prop := L.length ≤ L'.length ∧ ∀ k, 23 ≤ k → k < 46 → L'[k]? = L[k]?
theorem FrX.rf {L : List AE} : FrX L L := ⟨Nat.le_refl _, fun _ _ _ => rfl⟩
theorem FrX.tr {L L1 L2 : List AE} (h : FrX L L1) (h2 : FrX L1 L2) : FrX L L2 := ⟨Nat.le_trans h.1 h2.1, fun k a c => (h2.2 k a c).trans (h.2 k a c)⟩
theorem FrX.st {L L1 : List AE} {a : Nat} {e : AE} (h : FrX L L1) (ha : a < 23 ∨ 46 ≤ a) : FrX L (L1.set a e) := ⟨by rw [List.length_set]; exact h.1, fun k h1 h2 => (get_ne (by omega)).trans (h.2 k h1 h2)⟩
/-- numbers that agree but for the fields S of one index -/
def agr (S : List Nat) (i : Nat) (A A' : ST) : Prop := (∀ j, j ∉ S → A' j = A j) ∧ ∀ j k, k ≠ i → A' j k = A j k
theorem agr_rf {S : List Nat} {i : Nat} {A : ST} : agr S i A A := ⟨fun _ _ => rfl, fun _ _ _ => rfl⟩
theorem agr_up {S : List Nat} {i j : Nat} {A A' : ST} {x : Int32} (hj : j ∈ S) (h : agr S i A A') : agr S i A (up2 A' j i x) := by
  refine ⟨fun q hq => ?_, fun q k hk => ?_⟩
  · rw [up2_n (show q ≠ j from fun e => hq (by rw [e]; exact hj))]; exact h.1 q hq
  · by_cases e : q = j
    · subst e; rw [up2_s, pk_un hk]; exact h.2 q k hk
    · rw [up2_n e]; exact h.2 q k hk
theorem cell_ne {L : List AE} {a c : Nat} {e1 e2 : AE} (h1 : L[a]? = some e1) (h2 : L[c]? = some e2) (h : e1 ≠ e2) : a ≠ c := fun q => by subst q; exact h (Option.some.inj (h1.symm.trans h2))
section XRS
variable {r d t b : Nat} {A A' : ST} {da ta ba : Nat → Nat} {gr gr' hc hc' : Nat → Int32} {L L' : List AE}
theorem XF.kept (h : XF r d t b A da ta ba L) (hk : ∀ k, k < 23 → L'[k]? = L[k]?) (hA : ∀ j, j = 2 ∨ j = 3 ∨ j = 22 ∨ j = 23 ∨ j = 24 ∨ j = 25 → A' j = A j) : XF r d t b A' da ta ba L' := by
  obtain ⟨h0, h1, h2, h3, h4, h5, h6, h7, h8⟩ := h
  have e4 : (fun i => nI (msk A' i)) = fun i => nI (msk A i) := by funext i; unfold msk; rw [hA 25 (by omega)]
  refine ⟨(hk 0 (by omega)).trans h0, (hk 1 (by omega)).trans (by rw [h1]; unfold xw; rw [hA 2 (by omega)]), (hk 2 (by omega)).trans (by rw [h2]; unfold xv; rw [hA 3 (by omega)]), (hk 3 (by omega)).trans h3, (hk 4 (by omega)).trans (by rw [h4, e4]), (hk 5 (by omega)).trans h5, (hk 6 (by omega)).trans h6, (hk 7 (by omega)).trans h7, fun i hi => ⟨(hk _ (by omega)).trans ?_, (hk _ (by omega)).trans ?_⟩⟩
  · rw [(h8 i hi).1, hA 23 (by omega), hA 24 (by omega)]
  · rw [(h8 i hi).2]; unfold rowF; rw [hA 22 (by omega)]
theorem XS.kept {q s p l : Nat → Int32} {rc : Int32} (h : XS q s p l rc L) (hk : ∀ k, 8 ≤ k → k < 13 → L'[k]? = L[k]?) : XS q s p l rc L' := ⟨(hk 8 (by omega) (by omega)).trans h.1, (hk 9 (by omega) (by omega)).trans h.2.1, (hk 10 (by omega) (by omega)).trans h.2.2.1, (hk 11 (by omega) (by omega)).trans h.2.2.2.1, (hk 12 (by omega) (by omega)).trans h.2.2.2.2⟩
theorem XD.kept (h : XD d A da ta L) (hk : ∀ i, i < d → L'[da i]? = L[da i]?) (hA : ∀ j i, (j = 5 ∨ j = 6 ∨ j = 7 ∨ j = 8 ∨ j = 9) → i < d → A' j i = A j i) : XD d A' da ta L' := by
  refine ⟨fun i hi => ⟨(hk i hi).trans ?_, (h.1 i hi).2⟩, h.2⟩
  rw [(h.1 i hi).1]
  unfold dfs kref
  rw [hA 5 i (by omega) hi, hA 6 i (by omega) hi, hA 7 i (by omega) hi, hA 8 i (by omega) hi, hA 9 i (by omega) hi]
theorem XT.kept (h : XT t A ta ba gr L) (hk : ∀ i, i < t → L'[ta i]? = L[ta i]?) (hA : ∀ j i, (j = 11 ∨ j = 12 ∨ j = 13 ∨ j = 14 ∨ j = 15) → i < t → A' j i = A j i) (hg : ∀ i, i < t → gr' i = gr i) : XT t A' ta ba gr' L' := by
  refine fun i hi => ⟨(hk i hi).trans ?_, (h i hi).2⟩
  rw [(h i hi).1]
  unfold tfs href
  rw [hA 11 i (by omega) hi, hA 12 i (by omega) hi, hA 13 i (by omega) hi, hA 14 i (by omega) hi, hA 15 i (by omega) hi, hg i hi]
theorem XB.kept (h : XB b A ta ba hc L) (hk : ∀ i, i < b → L'[ba i]? = L[ba i]? ∧ L'[ba i + 1]? = L[ba i + 1]?) (hA : ∀ j i, (j = 17 ∨ j = 18 ∨ j = 19 ∨ j = 21) → i < b → A' j i = A j i) (h20 : ∀ k, A' 20 k = A 20 k) (hg : ∀ i, i < b → hc' i = hc i) : XB b A' ta ba hc' L' := by
  refine fun i hi => ⟨(hk i hi).1.trans ?_, (hk i hi).2.trans ?_, (h i hi).2.2⟩
  · rw [(h i hi).1]
    unfold bfs wref
    rw [hA 17 i (by omega) hi, hA 18 i (by omega) hi, hA 19 i (by omega) hi, hA 21 i (by omega) hi, hg i hi]
  · rw [(h i hi).2.1]
    unfold newF
    simp only [h20]
theorem XR0.ff (h : XR0 r d t b A da ta ba gr hc L) : XF r d t b A da ta ba L := h.1
theorem XR0.dd (h : XR0 r d t b A da ta ba gr hc L) {i : Nat} (hi : i < d) : L[da i]? = some (eO 1 (dfs A ta i)) := (h.2.2.1.1 i hi).1
theorem XR0.d46 (h : XR0 r d t b A da ta ba gr hc L) {i : Nat} (hi : i < d) : 46 ≤ da i := (h.2.2.1.1 i hi).2
end XRS
section XRT
variable {r d t b : Nat} {A A' : ST} {da ta ba : Nat → Nat} {gr gr' hc hc' : Nat → Int32} {L L' : List AE}
theorem XR0.tt (h : XR0 r d t b A da ta ba gr hc L) {i : Nat} (hi : i < t) : L[ta i]? = some (eO 4 (tfs A ba gr i)) := (h.2.2.2.1 i hi).1
theorem XR0.t46 (h : XR0 r d t b A da ta ba gr hc L) {i : Nat} (hi : i < t) : 46 ≤ ta i := (h.2.2.2.1 i hi).2
theorem XR0.bb (h : XR0 r d t b A da ta ba gr hc L) {i : Nat} (hi : i < b) : L[ba i]? = some (eO 0 (bfs A ta ba hc i)) := (h.2.2.2.2.1 i hi).1
theorem XR0.bl (h : XR0 r d t b A da ta ba gr hc L) {i : Nat} (hi : i < b) : L[ba i + 1]? = some (eA 0 8 (newF A i)) := (h.2.2.2.2.1 i hi).2.1
theorem XR0.b46 (h : XR0 r d t b A da ta ba gr hc L) {i : Nat} (hi : i < b) : 46 ≤ ba i := (h.2.2.2.2.1 i hi).2.2
theorem XR0.ti (h : XR0 r d t b A da ta ba gr hc L) {i j : Nat} (hi : i < t) (hj : j < t) (e : ta i = ta j) : i = j := by
  have h1 := h.tt hi
  have h2 := h.tt hj
  have h3 := h.2.2.2.2.2.2.1
  rw [e] at h1
  have := Option.some.inj (h1.symm.trans h2)
  simp only [Sum.inr.injEq, Prod.mk.injEq, List.cons.injEq, Sum.inl.injEq] at this
  exact nI_inj (by omega) (by omega) this.2.1
theorem XR0.bi (h : XR0 r d t b A da ta ba gr hc L) {i j : Nat} (hi : i < b) (hj : j < b) (e : ba i = ba j) : i = j := by
  have h1 := h.bb hi
  have h2 := h.bb hj
  have h3 := h.2.2.2.2.2.2.2
  rw [e] at h1
  have := Option.some.inj (h1.symm.trans h2)
  simp only [Sum.inr.injEq, Prod.mk.injEq, List.cons.injEq, Sum.inl.injEq] at this
  exact nI_inj (by omega) (by omega) this.2.1
theorem ne_eO {c1 c2 : Nat} {f1 f2 : List AV} (h : c1 ≠ c2) : (eO c1 f1 : AE) ≠ eO c2 f2 := fun q => h (by injection q with q; injection q with q; exact (Prod.mk.inj q).1)
theorem ne_eOA {c1 t n : Nat} {f1 : List AV} {f : Nat → Int32} : (eO c1 f1 : AE) ≠ eA t n f := fun q => by cases q
theorem XR0.setD (h : XR0 r d t b A da ta ba gr hc L) {i : Nat} (hi : i < d) (ha : agr [5, 6, 7, 8, 9] i A A') : XR0 r d t b A' da ta ba gr hc (L.set (da i) (eO 1 (dfs A' ta i))) := by
  have h46 := h.d46 hi
  obtain ⟨hF, ⟨q, s, p, l, rc, hS⟩, hD, hT, hB, hl, h30, h6⟩ := id h
  refine ⟨hF.kept (fun k hk => get_ne (by omega)) (fun j hj => ha.1 j (by simp; omega)), ⟨q, s, p, l, rc, hS.kept (fun k _ hk => get_ne (by omega))⟩, ⟨fun k hk => ⟨?_, (hD.1 k hk).2⟩, hD.2⟩, hT.kept (fun k hk => get_ne (cell_ne (h.tt hk) (h.dd hi) (ne_eO (by decide)))) (fun j k hj _ => congrFun (ha.1 j (by simp; omega)) k) (fun _ _ => rfl), hB.kept (fun k hk => ⟨get_ne (cell_ne (h.bb hk) (h.dd hi) (ne_eO (by decide))), get_ne (cell_ne (h.bl hk) (h.dd hi) ne_eOA.symm)⟩) (fun j k hj _ => congrFun (ha.1 j (by simp; omega)) k) (fun k => congrFun (ha.1 20 (by simp)) k) (fun _ _ => rfl), by rw [List.length_set]; exact hl, h30, h6⟩
  by_cases e : k = i
  · subst e; exact get_set (h.dd hi)
  · rw [get_ne (fun q => e (hD.2 k i hk hi q)), h.dd hk]
    unfold dfs kref
    rw [ha.2 5 k e, ha.2 6 k e, ha.2 7 k e, ha.2 8 k e, ha.2 9 k e]
theorem XR0.setT (h : XR0 r d t b A da ta ba gr hc L) {i : Nat} (hi : i < t) (ha : agr [11, 12, 13, 14, 15] i A A') (hg : ∀ k, k ≠ i → gr' k = gr k) : XR0 r d t b A' da ta ba gr' hc (L.set (ta i) (eO 4 (tfs A' ba gr' i))) := by
  have h46 := h.t46 hi
  obtain ⟨hF, ⟨q, s, p, l, rc, hS⟩, hD, hT, hB, hl, h30, h6⟩ := id h
  refine ⟨hF.kept (fun k hk => get_ne (by omega)) (fun j hj => ha.1 j (by simp; omega)), ⟨q, s, p, l, rc, hS.kept (fun k _ hk => get_ne (by omega))⟩, hD.kept (fun k hk => get_ne (cell_ne (h.dd hk) (h.tt hi) (ne_eO (by decide)))) (fun j k hj _ => congrFun (ha.1 j (by simp; omega)) k), fun k hk => ⟨?_, (hT k hk).2⟩, hB.kept (fun k hk => ⟨get_ne (cell_ne (h.bb hk) (h.tt hi) (ne_eO (by decide))), get_ne (cell_ne (h.bl hk) (h.tt hi) ne_eOA.symm)⟩) (fun j k hj _ => congrFun (ha.1 j (by simp; omega)) k) (fun k => congrFun (ha.1 20 (by simp)) k) (fun _ _ => rfl), by rw [List.length_set]; exact hl, h30, h6⟩
  by_cases e : k = i
  · subst e; exact get_set (h.tt hi)
  · rw [get_ne (fun q => e (h.ti hk hi q)), h.tt hk]
    unfold tfs href
    rw [ha.2 11 k e, ha.2 12 k e, ha.2 13 k e, ha.2 14 k e, ha.2 15 k e, hg k e]
theorem XR0.setB (h : XR0 r d t b A da ta ba gr hc L) {i : Nat} (hi : i < b) (ha : agr [17, 18, 19, 21] i A A') (hg : ∀ k, k ≠ i → hc' k = hc k) : XR0 r d t b A' da ta ba gr hc' (L.set (ba i) (eO 0 (bfs A' ta ba hc' i))) := by
  have h46 := h.b46 hi
  obtain ⟨hF, ⟨q, s, p, l, rc, hS⟩, hD, hT, hB, hl, h30, h6⟩ := id h
  refine ⟨hF.kept (fun k hk => get_ne (by omega)) (fun j hj => ha.1 j (by simp; omega)), ⟨q, s, p, l, rc, hS.kept (fun k _ hk => get_ne (by omega))⟩, hD.kept (fun k hk => get_ne (cell_ne (h.dd hk) (h.bb hi) (ne_eO (by decide)))) (fun j k hj _ => congrFun (ha.1 j (by simp; omega)) k), hT.kept (fun k hk => get_ne (cell_ne (h.tt hk) (h.bb hi) (ne_eO (by decide)))) (fun j k hj _ => congrFun (ha.1 j (by simp; omega)) k) (fun _ _ => rfl), fun k hk => ⟨?_, ?_, (hB k hk).2.2⟩, by rw [List.length_set]; exact hl, h30, h6⟩
  · by_cases e : k = i
    · subst e; exact get_set (h.bb hi)
    · rw [get_ne (fun q => e (h.bi hk hi q)), h.bb hk]
      unfold bfs wref
      rw [ha.2 17 k e, ha.2 18 k e, ha.2 19 k e, ha.2 21 k e, hg k e]
  · rw [get_ne (cell_ne (h.bl hk) (h.bb hi) ne_eOA.symm), h.bl hk]; unfold newF; rw [ha.1 20 (by simp)]
theorem XR0.bli (h : XR0 r d t b A da ta ba gr hc L) {i j : Nat} (hi : i < b) (hj : j < b) (e : ba i + 1 = ba j + 1) : i = j := h.bi hi hj (by omega)
theorem XR0.setN (h : XR0 r d t b A da ta ba gr hc L) {i : Nat} (hi : i < b) (ha : ∀ j, j ≠ 20 → A' j = A j) (hb : ∀ k j, k < b → k ≠ i → j < 8 → A' 20 (8 * k + j) = A 20 (8 * k + j)) : XR0 r d t b A' da ta ba gr hc (L.set (ba i + 1) (eA 0 8 (newF A' i))) := by
  have h46 := h.b46 hi
  obtain ⟨hF, ⟨q, s, p, l, rc, hS⟩, hD, hT, hB, hl, h30, h6⟩ := id h
  refine ⟨hF.kept (fun k hk => get_ne (by omega)) (fun j hj => ha j (by omega)), ⟨q, s, p, l, rc, hS.kept (fun k _ hk => get_ne (by omega))⟩, hD.kept (fun k hk => get_ne (cell_ne (h.dd hk) (h.bl hi) ne_eOA)) (fun j k hj _ => congrFun (ha j (by omega)) k), hT.kept (fun k hk => get_ne (cell_ne (h.tt hk) (h.bl hi) ne_eOA)) (fun j k hj _ => congrFun (ha j (by omega)) k) (fun _ _ => rfl), fun k hk => ⟨?_, ?_, (hB k hk).2.2⟩, by rw [List.length_set]; exact hl, h30, h6⟩
  · rw [get_ne (cell_ne (h.bb hk) (h.bl hi) ne_eOA), h.bb hk]
    unfold bfs wref
    rw [ha 17 (by decide), ha 18 (by decide), ha 19 (by decide), ha 21 (by decide)]
  · by_cases e : k = i
    · subst e; exact get_set (h.bl hi)
    · rw [get_ne (fun q => e (h.bli hk hi q)), h.bl hk]
      have e2 : newF A k = newF A' k := by
        funext j
        unfold newF
        by_cases hj : j < 8
        · rw [if_pos hj, if_pos hj, hb k j hk e hj]
        · rw [if_neg hj, if_neg hj]
      rw [e2]
/-- a change within the first 23 cells, but not of the search -/
theorem XR0.setF (h : XR0 r d t b A da ta ba gr hc L) {r' a : Nat} {e : AE} (ha : a < 8 ∨ (13 ≤ a ∧ a < 23)) (hF : XF r' d t b A' da ta ba (L.set a e)) (hA : ∀ j, j ≠ 2 → j ≠ 3 → j ≠ 22 → j ≠ 23 → j ≠ 24 → j ≠ 25 → A' j = A j) : XR0 r' d t b A' da ta ba gr hc (L.set a e) := by
  obtain ⟨-, ⟨q, s, p, l, rc, hS⟩, hD, hT, hB, hl, h30, h6⟩ := id h
  refine ⟨hF, ⟨q, s, p, l, rc, hS.kept (fun k hk1 hk => get_ne (by omega))⟩, hD.kept (fun k hk => get_ne (by have := h.d46 hk; omega)) (fun j k hj _ => congrFun (hA j (by omega) (by omega) (by omega) (by omega) (by omega) (by omega)) k), hT.kept (fun k hk => get_ne (by have := h.t46 hk; omega)) (fun j k hj _ => congrFun (hA j (by omega) (by omega) (by omega) (by omega) (by omega) (by omega)) k) (fun _ _ => rfl), hB.kept (fun k hk => ⟨get_ne (by have := h.b46 hk; omega), get_ne (by have := h.b46 hk; omega)⟩) (fun j k hj _ => congrFun (hA j (by omega) (by omega) (by omega) (by omega) (by omega) (by omega)) k) (fun k => congrFun (hA 20 (by omega) (by omega) (by omega) (by omega) (by omega) (by omega)) k) (fun _ _ => rfl), by rw [List.length_set]; exact hl, h30, h6⟩
/-- a change of the search alone -/
theorem XR0.setS (h : XR0 r d t b A da ta ba gr hc L) (hk : ∀ k, (k < 8 ∨ 13 ≤ k) → L'[k]? = L[k]?) (hlen : L'.length = L.length) {q s p l : Nat → Int32} {rc : Int32} (hS : XS q s p l rc L') : XR0 r d t b A da ta ba gr hc L' := by
  obtain ⟨⟨h0, h1, h2, h3, h4, h5, h7, h8, h9⟩, -, hD, hT, hB, hl, h30, h6⟩ := id h
  refine ⟨⟨(hk 0 (by omega)).trans h0, (hk 1 (by omega)).trans h1, (hk 2 (by omega)).trans h2, (hk 3 (by omega)).trans h3, (hk 4 (by omega)).trans h4, (hk 5 (by omega)).trans h5, (hk 6 (by omega)).trans h7, (hk 7 (by omega)).trans h8, fun i hi => ⟨(hk _ (by omega)).trans (h9 i hi).1, (hk _ (by omega)).trans (h9 i hi).2⟩⟩, ⟨q, s, p, l, rc, hS⟩, hD.kept (fun k hk2 => hk _ (by have := h.d46 hk2; omega)) (fun _ _ _ _ => rfl), hT.kept (fun k hk2 => hk _ (by have := h.t46 hk2; omega)) (fun _ _ _ _ => rfl) (fun _ _ => rfl), hB.kept (fun k hk2 => ⟨hk _ (by have := h.b46 hk2; omega), hk _ (by have := h.b46 hk2; omega)⟩) (fun _ _ _ _ => rfl) (fun _ => rfl) (fun _ _ => rfl), by rw [hlen]; exact hl, h30, h6⟩
end XRT
