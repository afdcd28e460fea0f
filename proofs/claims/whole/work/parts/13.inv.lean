/-! what holds of the numbers at every time -/
def wOk (r d : Nat) (A : ST) (i : Nat) (w : Int32) : Prop := w = -1 ∨ (∃ k, k < r ∧ w = nI k) ∨ (∃ k, k < d ∧ w = nI (100 + k) ∧ (A 5 k = nI i ∨ A 6 k = nI i)) ∨ (∃ k, k < 50 ∧ w = nI (200 + k)) ∨ (∃ k, k < 5 ∧ w = nI (300 + k))
def dOk (r t : Nat) (A : ST) (i : Nat) : Prop := (∃ a, a < r ∧ A 5 i = nI a) ∧ (A 6 i = -1 ∨ ∃ a, a < r ∧ A 6 i = nI a) ∧ A 5 i ≠ A 6 i ∧ (A 7 i = -1 ∨ ∃ k, k < t ∧ A 7 i = nI k ∧ A 11 k = 0) ∧ (A 8 i = 0 ∨ A 8 i = 1) ∧ (A 9 i = 0 ∨ A 9 i = 1)
def tOk (r b : Nat) (A : ST) (i : Nat) : Prop := (∃ k, k < 4 ∧ A 11 i = nI k) ∧ ((∃ k, k < r ∧ A 13 i = nI k) ∨ (∃ w, w < b ∧ A 13 i = nI (100 + w) ∧ A 11 i = 0 ∧ A 14 i = -1)) ∧ (A 14 i = -1 ∨ ∃ k, k < 7 ∧ A 14 i = nI k ∧ A 11 i = 1) ∧ (A 15 i = 0 ∨ A 15 i = 1) ∧ ∃ k, 1 ≤ k ∧ k ≤ 9 ∧ A 12 i = nI k
def bOk (r t : Nat) (A : ST) (i : Nat) : Prop := (∃ k, k < r ∧ A 17 i = nI k) ∧ (A 18 i = -1 ∨ ∃ k, k < t ∧ A 18 i = nI k ∧ (A 11 k = 2 ∨ A 11 k = 3)) ∧ (A 19 i = -1 ∨ ∃ k, k < r ∧ A 19 i = nI k) ∧ ∃ k, k ≤ 8 ∧ A 21 i = nI k
def rOk (r : Nat) (A : ST) (i : Nat) : Prop := ∃ m k, m ≤ 4 ∧ A 23 i = nI m ∧ A 24 i = nI k ∧ (k < m ∨ (m = 0 ∧ k = 0)) ∧ ∀ j, j < m → ∃ x, x < r ∧ A 22 (4 * i + j) = nI x
def Inv (r d t b : Nat) (A : ST) : Prop := (r ≤ 20 ∧ d ≤ 15 ∧ t ≤ 30 ∧ b ≤ 6) ∧ (∀ i j, i < r → j < 8 → wOk r d A i (A 2 (8 * i + j))) ∧ (∀ i, i < d → dOk r t A i) ∧ (∀ i, i < t → tOk r b A i) ∧ (∀ i, i < b → bOk r t A i) ∧ (∀ i, i < 5 → rOk r A i) ∧ (∀ i j, i < 7 → j < 20 → (A 25 (20 * i + j) = 0 ∨ (A 25 (20 * i + j) = 1 ∧ j < r))) ∧ (∀ i, d ≤ i → A 8 i = 0 ∧ A 9 i = 0) ∧ (∀ i, t ≤ i → A 15 i = 0) ∧ ∀ i, b ≤ i → A 21 i = 0 ∧ ∀ j, j < 8 → A 20 (8 * i + j) = 0
section IV
variable {r d t b : Nat} {A : ST}
theorem Inv.cn (h : Inv r d t b A) : r ≤ 20 ∧ d ≤ 15 ∧ t ≤ 30 ∧ b ≤ 6 := h.1
theorem Inv.cw (h : Inv r d t b A) {i j : Nat} (hi : i < r) (hj : j < 8) : wOk r d A i (A 2 (8 * i + j)) := h.2.1 i j hi hj
theorem Inv.cd (h : Inv r d t b A) {i : Nat} (hi : i < d) : dOk r t A i := h.2.2.1 i hi
theorem Inv.ct (h : Inv r d t b A) {i : Nat} (hi : i < t) : tOk r b A i := h.2.2.2.1 i hi
theorem Inv.cb (h : Inv r d t b A) {i : Nat} (hi : i < b) : bOk r t A i := h.2.2.2.2.1 i hi
theorem Inv.cr (h : Inv r d t b A) {i : Nat} (hi : i < 5) : rOk r A i := h.2.2.2.2.2.1 i hi
theorem Inv.cg (h : Inv r d t b A) {i j : Nat} (hi : i < 7) (hj : j < 20) : A 25 (20 * i + j) = 0 ∨ (A 25 (20 * i + j) = 1 ∧ j < r) := h.2.2.2.2.2.2.1 i j hi hj
theorem Inv.zd (h : Inv r d t b A) {i : Nat} (hi : d ≤ i) : A 8 i = 0 ∧ A 9 i = 0 := h.2.2.2.2.2.2.2.1 i hi
theorem Inv.zt (h : Inv r d t b A) {i : Nat} (hi : t ≤ i) : A 15 i = 0 := h.2.2.2.2.2.2.2.2.1 i hi
theorem Inv.zb (h : Inv r d t b A) {i : Nat} (hi : b ≤ i) : A 21 i = 0 ∧ ∀ j, j < 8 → A 20 (8 * i + j) = 0 := h.2.2.2.2.2.2.2.2.2 i hi
end IV
/-! numbers -/
theorem nI_neg {n : Nat} (h : n < 2 ^ 31) : nI n ≠ -1 := by
  intro q
  have := congrArg Int32.toInt q
  rw [nI_toInt h] at this
  have h1 : (-1 : Int32).toInt = -1 := by decide
  omega
theorem nI_mul8 (i j : Nat) : (8 : Int32) * nI i + nI j = nI (8 * i + j) := by
  rw [show (8 : Int32) = nI 8 from rfl, pk_mul, nI_add]
theorem nI_mulk (k i j : Nat) : nI k * nI i + nI j = nI (k * i + j) := by
  rw [pk_mul, nI_add]
theorem i32_lt {x y : Int32} : x < y ↔ x.toInt < y.toInt := Int32.lt_iff_toInt_lt
theorem i32_le {x y : Int32} : x ≤ y ↔ x.toInt ≤ y.toInt := Int32.le_iff_toInt_le
theorem i32_eq {x y : Int32} : x = y ↔ x.toInt = y.toInt := Int32.toInt_inj.symm
theorem tI_k {n : Nat} (h : n < 2 ^ 31) : (nI n).toInt = (n : Int) := nI_toInt h
