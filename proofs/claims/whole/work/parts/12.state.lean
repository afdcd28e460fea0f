abbrev ST : Type := Nat → Nat → Int32
def up2 (A : ST) (j i : Nat) (x : Int32) : ST := fun j' => if j' = j then upd (A j) i x else A j'
theorem up2_s {A : ST} {j i : Nat} {x : Int32} : up2 A j i x j = upd (A j) i x := if_pos rfl
theorem up2_n {A : ST} {j j' i : Nat} {x : Int32} (h : j' ≠ j) : up2 A j i x j' = A j' := if_neg h
/-- the model's arrays, by their fields: where, of what, how long -/
def mad : Nat → Nat
  | 2 => 24
  | 3 => 25
  | 5 => 26
  | 6 => 27
  | 7 => 28
  | 8 => 29
  | 9 => 30
  | 11 => 31
  | 12 => 32
  | 13 => 33
  | 14 => 34
  | 15 => 35
  | 17 => 36
  | 18 => 37
  | 19 => 38
  | 20 => 39
  | 21 => 40
  | 22 => 41
  | 23 => 42
  | 24 => 43
  | 25 => 44
  | 26 => 45
  | _ => 0
def mty : Nat → Nat
  | 8 => 1
  | 9 => 1
  | 15 => 1
  | 25 => 1
  | _ => 0
def mln : Nat → Nat
  | 2 => 160
  | 3 => 160
  | 5 => 15
  | 6 => 15
  | 7 => 15
  | 8 => 15
  | 9 => 15
  | 11 => 30
  | 12 => 30
  | 13 => 30
  | 14 => 30
  | 15 => 30
  | 17 => 6
  | 18 => 6
  | 19 => 6
  | 20 => 48
  | 21 => 6
  | 22 => 20
  | 23 => 5
  | 24 => 5
  | 25 => 140
  | 26 => 20
  | _ => 0
def mis : List Nat := [2, 3, 5, 6, 7, 8, 9, 11, 12, 13, 14, 15, 17, 18, 19, 20, 21, 22, 23, 24, 25, 26]
abbrev mfs (r d t b : Nat) : List AV := [aI 0, aI (nI r), aR 24, aR 25, aI (nI d), aR 26, aR 27, aR 28, aR 29, aR 30, aI (nI t), aR 31, aR 32, aR 33, aR 34, aR 35, aI (nI b), aR 36, aR 37, aR 38, aR 39, aR 40, aR 41, aR 42, aR 43, aR 44, aR 45]
def MR (r d t b : Nat) (A : ST) (L : List AE) : Prop := L[23]? = some (eO 6 (mfs r d t b)) ∧ ∀ j ∈ mis, L[mad j]? = some (eA (mty j) (mln j) (A j))
theorem mad_ok : ∀ j ∈ mis, 24 ≤ mad j ∧ mad j < 46 := by decide
theorem mad_inj : ∀ j ∈ mis, ∀ i ∈ mis, mad j = mad i → j = i := by decide
def FrM (L L' : List AE) : Prop := L'.length = L.length ∧ ∀ k, (k < 23 ∨ 46 ≤ k) → L'[k]? = L[k]?
theorem FrM.rf {L : List AE} : FrM L L := ⟨rfl, fun _ _ => rfl⟩
theorem FrM.tr {L L1 L2 : List AE} (h : FrM L L1) (h2 : FrM L1 L2) : FrM L L2 := ⟨h2.1.trans h.1, fun k hk => (h2.2 k hk).trans (h.2 k hk)⟩
theorem FrM.st {L L1 : List AE} {a : Nat} {e : AE} (h : FrM L L1) (ha : 23 ≤ a ∧ a < 46) : FrM L (L1.set a e) := ⟨by rw [List.length_set]; exact h.1, fun k hk => (get_ne (by omega)).trans (h.2 k hk)⟩
theorem MR.st {r d t b : Nat} {A : ST} {L : List AE} (h : MR r d t b A L) (j : Nat) (hj : j ∈ mis) (i : Nat) (x : Int32) : MR r d t b (up2 A j i x) (L.set (mad j) (eA (mty j) (mln j) (upd (A j) i x))) := by
  have hm := mad_ok j hj
  refine ⟨(get_ne (by omega)).trans h.1, fun j' hj' => ?_⟩
  by_cases e : j' = j
  · subst e
    rw [get_set (h.2 j' hj), up2_s]
  · rw [get_ne (fun q => e (mad_inj j' hj' j hj q)), up2_n e]
    exact h.2 j' hj'
theorem MR.fs {r d t b : Nat} {A : ST} {L : List AE} (h : MR r d t b A L) (r' d' t' b' : Nat) : MR r' d' t' b' A (L.set 23 (eO 6 (mfs r' d' t' b'))) := by
  refine ⟨get_set h.1, fun j' hj' => ?_⟩
  have hm := mad_ok j' hj'
  exact (get_ne (by omega)).trans (h.2 j' hj')
theorem in_isN {x : Int32} {n : Nat} (hn : n < 2 ^ 31) : (0 ≤ x ∧ x ≤ nI n - 1) ↔ isN x n := by
  have h1 : (nI n - 1).toInt = (n : Int) - 1 := by
    rw [Int32.toInt_sub, nI_toInt hn]
    have : (1 : Int32).toInt = 1 := by decide
    rw [this, Int.bmod_eq_of_le] <;> omega
  rw [Int32.le_iff_toInt_le, Int32.le_iff_toInt_le, h1]
  have h0 : (0 : Int32).toInt = 0 := by decide
  rw [h0]
  unfold isN
  omega
theorem in_k {x a c : Int32} {lo : Int} {hi : Int} (ha : a.toInt = lo) (hc : c.toInt = hi) : (a ≤ x ∧ x ≤ c) ↔ (lo ≤ x.toInt ∧ x.toInt ≤ hi) := by
  rw [Int32.le_iff_toInt_le, Int32.le_iff_toInt_le, ha, hc]
