section XAC
variable {r d t b : Nat} {A : ST} {da ta ba : Nat → Nat} {gr hc : Nat → Int32} {L : List AE}
theorem XR0.x0 (h : XR0 r d t b A da ta ba gr hc L) : L[0]? = some (eO 5 (xfs r d t b)) := h.1.1
theorem XR0.x1 (h : XR0 r d t b A da ta ba gr hc L) : L[1]? = some (eA 0 160 (xw A r)) := h.1.2.1
theorem XR0.x2 (h : XR0 r d t b A da ta ba gr hc L) : L[2]? = some (eA 0 160 (xv A r)) := h.1.2.2.1
theorem XR0.x3 (h : XR0 r d t b A da ta ba gr hc L) : L[3]? = some (eQ 2 5 (fun i => some (13 + 2 * i))) := h.1.2.2.2.1
theorem XR0.x4 (h : XR0 r d t b A da ta ba gr hc L) : L[4]? = some (eA 0 7 (fun i => nI (msk A i))) := h.1.2.2.2.2.1
theorem XR0.x5 (h : XR0 r d t b A da ta ba gr hc L) : L[5]? = some (eQ 3 15 (xq d da)) := h.1.2.2.2.2.2.1
theorem XR0.x6 (h : XR0 r d t b A da ta ba gr hc L) : L[6]? = some (eQ 4 30 (xq t ta)) := h.1.2.2.2.2.2.2.1
theorem XR0.x7 (h : XR0 r d t b A da ta ba gr hc L) : L[7]? = some (eQ 5 6 (xq b ba)) := h.1.2.2.2.2.2.2.2.1
theorem XR0.rl (h : XR0 r d t b A da ta ba gr hc L) {i : Nat} (hi : i < 5) : L[13 + 2 * i]? = some (eO 2 [aR (14 + 2 * i), aI (A 23 i), aI (A 24 i)]) := (h.1.2.2.2.2.2.2.2.2 i hi).1
theorem XR0.rr (h : XR0 r d t b A da ta ba gr hc L) {i : Nat} (hi : i < 5) : L[14 + 2 * i]? = some (eA 0 4 (rowF A i)) := (h.1.2.2.2.2.2.2.2.2 i hi).2
theorem xw_in {i j : Nat} (hi : i < r) (hj : j < 8) : xw A r (8 * i + j) = A 2 (8 * i + j) := if_pos (by omega)
theorem xv_in {i j : Nat} (hi : i < r) (hj : j < 8) : xv A r (8 * i + j) = A 3 (8 * i + j) := if_pos (by omega)
theorem rowF_in {i j : Nat} (hj : j < 4) : rowF A i j = A 22 (4 * i + j) := if_pos hj
theorem newF_in {i j : Nat} (hj : j < 8) : newF A i j = A 20 (8 * i + j) := if_pos hj
theorem kref_neg {i : Nat} (h : A 7 i = -1) : kref A ta i = none := cI_t h
theorem kref_k {i k : Nat} (h : A 7 i = nI k) (hk : k < 2 ^ 31) : kref A ta i = some (ta k) := by
  unfold kref
  rw [h, cI_f (nI_neg hk), nI_clamp hk]
theorem wref_neg {i : Nat} (h : A 18 i = -1) : wref A ta i = none := cI_t h
theorem wref_k {i k : Nat} (h : A 18 i = nI k) (hk : k < 2 ^ 31) : wref A ta i = some (ta k) := by
  unfold wref
  rw [h, cI_f (nI_neg hk), nI_clamp hk]
theorem href_r {i k : Nat} (h : A 13 i = nI k) (hk : k < 100) : href A ba i = none := by
  unfold href
  rw [h, cI_f (fun q => by have := (nI_leI (a := 100) (by omega) (by omega)).mp q; omega)]
theorem href_w {i w : Nat} (h : A 13 i = nI (100 + w)) (hw : w < 2 ^ 30) : href A ba i = some (ba w) := by
  unfold href
  rw [h, cI_t (show (100 : Int32) ≤ nI (100 + w) from (nI_leI (a := 100) (by omega) (by omega)).mpr (by omega)), show nI (100 + w) - 100 = nI w from nsub 100 w, nI_clamp (by omega)]
theorem Rl.g (h : Rl t b A gr hc) {i k : Nat} (hi : i < t) (hk : A 13 i = nI k) (hk2 : k < 100) : gr i = A 13 i := h.1 i hi (fun q => by rw [hk] at q; have := (nI_leI (a := 100) (by omega) (by omega)).mp q; omega)
end XAC
section XTO
variable {g : GD} {Z : ZT} {H0 : Heap} {nL : Nat} {L : List AE} {k n pc : Nat} {lv : List (Option AV)} {st : List AV}
theorem V.topO {o o' : Option Nat} (h : o = o') (kk : V g Z H0 nL L k n pc lv (aO o' :: st)) : V g Z H0 nL L k n pc lv (aO o :: st) := h ▸ kk
end XTO
theorem nI_and (a c : Nat) : nI a &&& nI c = nI (a &&& c) := by
  apply Int32.toBitVec_inj.mp
  rw [Int32.toBitVec_and]
  show BitVec.ofNat 32 a &&& BitVec.ofNat 32 c = BitVec.ofNat 32 (a &&& c)
  apply BitVec.eq_of_toNat_eq
  rw [BitVec.toNat_and, BitVec.toNat_ofNat, BitVec.toNat_ofNat, BitVec.toNat_ofNat, Nat.and_mod_two_pow]
theorem bit1_20 : ∀ k, k < 20 → (1 : Int32) <<< (nI k &&& 31) = nI (2 ^ k) := by decide +kernel
theorem and_pow (m j : Nat) : m &&& 2 ^ j = 0 ↔ m / 2 ^ j % 2 = 0 := by
  constructor
  · intro h
    have h1 : (m &&& 2 ^ j).testBit j = false := by rw [h]; simp
    rw [Nat.testBit_and, Nat.testBit_two_pow_self, Bool.and_true, Nat.testBit_eq_decide_div_mod_eq] at h1
    simp at h1
    omega
  · intro h
    apply Nat.eq_of_testBit_eq
    intro i
    rw [Nat.testBit_and, Nat.zero_testBit, Nat.testBit_two_pow]
    by_cases e : j = i
    · subst e
      rw [Nat.testBit_eq_decide_div_mod_eq, h]
      simp
    · simp [e]
theorem msk_lt (A : ST) (i : Nat) : msk A i < 2 ^ 20 := bsn_lt _ 20
theorem msk_bit {A : ST} {i j : Nat} (hj : j < 20) : nI (msk A i) &&& ((1 : Int32) <<< (nI j &&& 31)) = 0 ↔ ¬ A 25 (20 * i + j) = 1 := by
  have hb := bsn_bit (G := fun x => A 25 (20 * i + x) = 1) (n := 20) hj
  have hm := msk_lt A i
  have hl : msk A i &&& 2 ^ j ≤ msk A i := Nat.and_le_left
  rw [bit1_20 j hj, nI_and, show (0 : Int32) = nI 0 from rfl, nI_eq (by omega) (by omega), and_pow]
  show bsn (fun x => A 25 (20 * i + x) = 1) 20 / 2 ^ j % 2 = 0 ↔ _
  rw [hb]
  by_cases h : A 25 (20 * i + j) = 1
  · rw [cI_t h]; simp [h]
  · rw [cI_f h]; simp [h]
