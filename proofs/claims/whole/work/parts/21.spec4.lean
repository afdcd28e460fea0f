section IB
variable {g : GD} {Z : ZT} {H0 : Heap} {nL : Nat} {own nm : String} {cc : ByteArray} {rm : Room} {L : List AE} {k n pc : Nat} {lv : List (Option AV)} {st : List AV}
theorem V.icmpB_ne (C : Cx g Z H0 nL own cc nm rm) {p : Prop} {off : Int} {tgt : Nat} (hd : decode cc pc = .ok (.if_icmp .ne off, 3)) (ht : (pc : Int) + off = (tgt : Int)) (kt : ¬ p → V g Z H0 nL L k n tgt lv st) (kf : p → V g Z H0 nL L k n (pc + 3) lv st) : V g Z H0 nL L k n pc lv (aI 1 :: aI (b2 p) :: st) :=
  V.icmp_ne C hd ht (fun h => kt (fun q => h (b2_t q))) (fun h => kf (Classical.byContradiction fun q => by rw [b2_f q] at h; exact absurd h (by decide)))
end IB
/-- news told to w, the shift so far -/
def shA (A : ST) (w k : Nat) : ST := fun j p => if j = 20 ∧ 8 * w + k < p ∧ p < 8 * w + 8 then A 20 (p - 1) else A j p
theorem shA_7 (A : ST) (w : Nat) : shA A w 7 = A := by
  funext j p
  unfold shA
  rw [if_neg (by omega)]
theorem shA_v (A : ST) (w k : Nat) : shA A w (k + 1) 20 (8 * w + k) = A 20 (8 * w + k) := by
  unfold shA
  rw [if_neg (by omega)]
theorem shA_s (A : ST) (w k : Nat) (hk : k < 7) : up2 (shA A w (k + 1)) 20 (8 * w + (k + 1)) (A 20 (8 * w + k)) = shA A w k := by
  funext j p
  unfold up2 upd shA
  by_cases hj : j = 20
  · subst hj
    rw [if_pos rfl]
    by_cases hp : p = 8 * w + (k + 1)
    · subst hp
      rw [if_pos rfl, if_pos (by omega)]
      congr 1
    · rw [if_neg hp]
      by_cases h : 8 * w + (k + 1) < p ∧ p < 8 * w + 8
      · rw [if_pos (by omega), if_pos (by omega)]
      · rw [if_neg (by omega), if_neg (by omega)]
  · rw [if_neg hj, if_neg (by omega), if_neg (by omega)]
noncomputable def tlA (A : ST) (w : Nat) (x : Int32) : ST := up2 (up2 (shA A w 0) 20 (8 * w) x) 21 w (A 21 w + cI (A 21 w < 8) 1 0)
noncomputable def tiN (A : ST) (room : Int32) (G : Nat → Prop) (x : Int32) : Nat → ST
  | 0 => A
  | n + 1 => cI (A 17 n = room ∧ ¬ G n) (tlA (tiN A room G x n) n x) (tiN A room G x n)
theorem tlA_o (A : ST) (w : Nat) (x : Int32) {j : Nat} (h0 : j ≠ 20) (h1 : j ≠ 21) : tlA A w x j = A j := by
  unfold tlA
  rw [up2_n h1, up2_n h0]
  funext p
  unfold shA
  rw [if_neg (by omega)]
theorem tiN_o (A : ST) (room : Int32) (G : Nat → Prop) (x : Int32) (n : Nat) {j : Nat} (h0 : j ≠ 20) (h1 : j ≠ 21) : tiN A room G x n j = A j := by
  induction n with
  | zero => rfl
  | succ n ih =>
    show (cI _ _ _ : ST) j = _
    by_cases h : A 17 n = room ∧ ¬ G n
    · rw [cI_t h, tlA_o _ _ _ h0 h1, ih]
    · rw [cI_f h, ih]
theorem tiN_t {A : ST} {room : Int32} {G : Nat → Prop} {x : Int32} {n : Nat} (h : A 17 n = room) (h2 : ¬ G n) : tiN A room G x (n + 1) = tlA (tiN A room G x n) n x := cI_t ⟨h, h2⟩
theorem tiN_f {A : ST} {room : Int32} {G : Nat → Prop} {x : Int32} {n : Nat} (h : ¬ (A 17 n = room ∧ ¬ G n)) : tiN A room G x (n + 1) = tiN A room G x n := cI_f h
/-- all that go are told of -/
noncomputable def tdN (A : ST) (b : Nat) (G : Nat → Prop) (room to : Int32) (j : Nat) : Nat → ST
  | 0 => A
  | n + 1 => cI (G n) (tiN (tiN (tdN A b G room to j n) room G (nI (1000 * n + 10 * j)) b) to G (nI (1000 * n + 10 * j + 1)) b) (tdN A b G room to j n)
theorem tdN_o (A : ST) (b : Nat) (G : Nat → Prop) (room to : Int32) (j n : Nat) {q : Nat} (h0 : q ≠ 20) (h1 : q ≠ 21) : tdN A b G room to j n q = A q := by
  induction n with
  | zero => rfl
  | succ n ih =>
    show (cI _ _ _ : ST) q = _
    by_cases h : G n
    · rw [cI_t h, tiN_o _ _ _ _ _ h0 h1, tiN_o _ _ _ _ _ h0 h1, ih]
    · rw [cI_f h, ih]
theorem tdN_t {A : ST} {b : Nat} {G : Nat → Prop} {room to : Int32} {j n : Nat} (h : G n) : tdN A b G room to j (n + 1) = tiN (tiN (tdN A b G room to j n) room G (nI (1000 * n + 10 * j)) b) to G (nI (1000 * n + 10 * j + 1)) b := cI_t h
theorem tdN_f {A : ST} {b : Nat} {G : Nat → Prop} {room to : Int32} {j n : Nat} (h : ¬ G n) : tdN A b G room to j (n + 1) = tdN A b G room to j n := cI_f h
/-- all that go have come -/
noncomputable def cmN (A : ST) (G : Nat → Prop) (room to : Int32) : Nat → ST
  | 0 => A
  | n + 1 => cI (G n) (up2 (up2 (cmN A G room to n) 19 n room) 17 n to) (cmN A G room to n)
theorem cmN_t {A : ST} {G : Nat → Prop} {room to : Int32} {n : Nat} (h : G n) : cmN A G room to (n + 1) = up2 (up2 (cmN A G room to n) 19 n room) 17 n to := cI_t h
theorem cmN_f {A : ST} {G : Nat → Prop} {room to : Int32} {n : Nat} (h : ¬ G n) : cmN A G room to (n + 1) = cmN A G room to n := cI_f h
/-- a rule's turn -/
noncomputable def tnA (A : ST) (i j : Nat) : ST := cI (A 2 (8 * i + j) < nI 300) A (up2 A 24 (A 2 (8 * i + j) - 300).toNatClampNeg (nI (((A 24 (A 2 (8 * i + j) - 300).toNatClampNeg).toNatClampNeg + 1) % (A 23 (A 2 (8 * i + j) - 300).toNatClampNeg).toNatClampNeg)))
theorem tnA_lt {A : ST} {i j : Nat} (h : A 2 (8 * i + j) < nI 300) : tnA A i j = A := cI_t h
theorem tnA_rule {A : ST} {i j k q m : Nat} (h : A 2 (8 * i + j) = nI (300 + k)) (hk : k < 5) (hq : A 24 k = nI q) (hq2 : q < 2 ^ 31) (hm : A 23 k = nI m) (hm2 : m < 2 ^ 31) : tnA A i j = up2 A 24 k (nI ((q + 1) % m)) := by
  unfold tnA
  rw [h, cI_f (nlt (b := 300) (by omega) (by omega) (by omega)), show nI (300 + k) - 300 = nI k from nsub 300 k, nI_clamp (by omega), hq, nI_clamp hq2, hm, nI_clamp hm2]
theorem tnA_o (A : ST) (i j : Nat) {q : Nat} (h : q ≠ 24) : tnA A i j q = A q := by
  unfold tnA
  by_cases h2 : A 2 (8 * i + j) < nI 300
  · rw [cI_t h2]
  · rw [cI_f h2, up2_n h]
noncomputable def mvA (A : ST) (b : Nat) (G : Nat → Prop) (th : Int32) (i j : Nat) : ST :=
  cI (th = -1) (cmN (tdN (tnA A i j) b G (nI i) (ldT A i j) j b) G (nI i) (ldT A i j) b) (up2 (cmN (tdN (tnA A i j) b G (nI i) (ldT A i j) j b) G (nI i) (ldT A i j) b) 13 th.toNatClampNeg (ldT A i j))
/-- who goes -/
def goG (A : ST) (w : Nat) : Nat → Prop := fun q => (A 18 w = -1 ∧ q = w) ∨ (A 18 w ≠ -1 ∧ A 18 q = A 18 w)
noncomputable def gbS (A : ST) (b w j : Nat) : Int32 × ST :=
  cI (A 18 w ≠ -1 ∧ A 11 (A 18 w).toNatClampNeg = 3) (cI (A 15 (A 18 w).toNatClampNeg = 1) (-21) (-24), A)
    (cI (wyT A (A 17 w).toNatClampNeg j (cI (A 18 w = -1) 0 (A 12 (A 18 w).toNatClampNeg)) = 0) (ldT A (A 17 w).toNatClampNeg j, mvA A b (goG A w) (A 18 w) (A 17 w).toNatClampNeg j) (-(wyT A (A 17 w).toNatClampNeg j (cI (A 18 w = -1) 0 (A 12 (A 18 w).toNatClampNeg))), A))
noncomputable def S_go (r d t b : Nat) (A : ST) (x y : Int32) : RT := ok1 x b (fun w => ok1 y 8 (fun j => ((gbS A b w j).1, r, d, t, b, (gbS A b w j).2)) (-1, r, d, t, b, A)) (-1, r, d, t, b, A)
noncomputable def puS (A : ST) (b w k j : Nat) : Int32 × ST := cI (wyT A (A 17 w).toNatClampNeg j (A 12 k) = 0) (ldT A (A 17 w).toNatClampNeg j, mvA A b (fun q => A 18 q = nI k ∨ q = w) (nI k) (A 17 w).toNatClampNeg j) (-(wyT A (A 17 w).toNatClampNeg j (A 12 k)), A)
noncomputable def S_push (r d t b : Nat) (A : ST) (x y z : Int32) : RT := ok1 x b (fun w => ok1 y t (fun k => ok1 z 8 (fun j => cI (hasT A w k) (cI (A 11 k = 0 ∨ A 14 k ≠ -1) (-30, r, d, t, b, A) (cI (A 18 w = -1) ((puS A b w k j).1, r, d, t, b, (puS A b w k j).2) (-20, r, d, t, b, A))) (-10, r, d, t, b, A)) (-1, r, d, t, b, A)) (-1, r, d, t, b, A)) (-1, r, d, t, b, A)
/-- the direction back, -1 if there is none -/
noncomputable def bkD (A : ST) (w : Nat) : Int32 := cI (A 19 w = -1) (-1) (fnd (fun j => ldT A (A 17 w).toNatClampNeg j = A 19 w) (-1) 8 0)
noncomputable def S_back (r d t b : Nat) (A : ST) (x : Int32) : RT := ok1 x b (fun w => cI (bkD A w = -1) (0, r, d, t, b, A) ((gbS A b w (bkD A w).toNatClampNeg).1, r, d, t, b, (gbS A b w (bkD A w).toNatClampNeg).2)) (-1, r, d, t, b, A)
theorem wyT_nn {r d t b : Nat} {A : ST} (hI : Inv r d t b A) {i j : Nat} (hi : i < r) (hj : j < 8) (s : Int32) : nng (wyT A i j s) := by
  have hN := hI.cn
  unfold wyT
  by_cases h1 : A 2 (8 * i + j) = -1
  · rw [cI_t h1]; exact Or.inr (by decide)
  · rw [cI_f h1]
    by_cases h2 : 200 ≤ A 2 (8 * i + j) ∧ A 2 (8 * i + j) ≤ 249
    · rw [cI_t h2]
      rcases hI.cw hi hj with hw | ⟨k, hk, hw⟩ | ⟨k, hk, hw, hs⟩ | ⟨k, hk, hw⟩ | ⟨k, hk, hw⟩
      · exact absurd hw h1
      · rw [hw] at h2; have := (nI_leI (a := 200) (by omega) (by omega)).mp h2.1; omega
      · rw [hw] at h2; have := (nI_leI (a := 200) (by omega) (by omega)).mp h2.1; omega
      · rw [hw, show (50 : Int32) = nI 50 from rfl, nI_add, show (200 : Int32) = nI 200 from rfl, pk_sub (by omega)]
        exact Or.inr ((nI_ltI (a := 0) (by omega) (by omega)).mpr (by omega))
      · rw [hw] at h2; have := (nI_leI (b := 249) (by omega) (by omega)).mp h2.2; omega
    · rw [cI_f h2]
      exact cI_ind (P := nng) (cI_ind (P := nng) (Or.inr (by decide)) (Or.inr (by decide))) (cI_ind (P := nng) (Or.inr (by decide)) (cI_ind (P := nng) (Or.inr (by decide)) (Or.inl rfl)))
/-- a way that may be gone leads to a room; its rule isn't empty -/
theorem wyT_0 {r d t b : Nat} {A : ST} (hI : Inv r d t b A) {i j : Nat} (hi : i < r) (hj : j < 8) {s : Int32} (h : wyT A i j s = 0) : ∃ x, x < r ∧ ldT A i j = nI x := by
  rcases ldT_ok hI hi hj with hl | hl
  · exfalso
    have hn : ldT A i j < 0 := by rw [hl]; decide
    unfold wyT at h
    by_cases h1 : A 2 (8 * i + j) = -1
    · rw [cI_t h1] at h; exact absurd h (by decide)
    · rw [cI_f h1] at h
      by_cases h2 : 200 ≤ A 2 (8 * i + j) ∧ A 2 (8 * i + j) ≤ 249
      · have hN := hI.cn
        rw [cI_t h2] at h
        rcases hI.cw hi hj with hw | ⟨k, hk, hw⟩ | ⟨k, hk, hw, hs⟩ | ⟨k, hk, hw⟩ | ⟨k, hk, hw⟩
        · exact h1 hw
        · rw [hw] at h2; have := (nI_leI (a := 200) (by omega) (by omega)).mp h2.1; omega
        · rw [hw] at h2; have := (nI_leI (a := 200) (by omega) (by omega)).mp h2.1; omega
        · rw [hw, show (50 : Int32) = nI 50 from rfl, nI_add, show (200 : Int32) = nI 200 from rfl, pk_sub (by omega)] at h
          have := nI_inj (b := 0) (by omega) (by omega) h; omega
        · rw [hw] at h2; have := (nI_leI (b := 249) (by omega) (by omega)).mp h2.2; omega
      · rw [cI_f h2] at h
        by_cases h3 : (100 ≤ A 2 (8 * i + j) ∧ A 2 (8 * i + j) ≤ 199) ∧ ¬ A 8 (A 2 (8 * i + j) - 100).toNatClampNeg = 1
        · rw [cI_t h3] at h
          revert h
          exact cI_ind (P := fun z : Int32 => z = 0 → False) (by decide) (by decide)
        · rw [cI_f h3, cI_t hn] at h
          exact absurd h (by decide)
  · exact hl
