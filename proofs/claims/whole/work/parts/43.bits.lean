/-! how many bits a number below 2^20 has -/
def bsum (m : Nat) : Nat → Nat
  | 0 => 0
  | n + 1 => bsum m n + m / 2 ^ n % 2
theorem bsum_cnt (m n : Nat) : cnt (fun k => m / 2 ^ k % 2 = 1) n = bsum m n := by
  induction n with
  | zero => rfl
  | succ n ih =>
    show cnt _ n + cI (m / 2 ^ n % 2 = 1) 1 0 = bsum m n + m / 2 ^ n % 2
    rw [ih]
    by_cases h : m / 2 ^ n % 2 = 1
    · rw [cI_t h, h]
    · rw [cI_f h]; omega
theorem and_dig (d k y M : Nat) (hd : d < 256) (hk : k < 256) : (d + 256 * y) &&& (k + 256 * M) = (d &&& k) + 256 * (y &&& M) := by
  have hdk : d &&& k < 256 := Nat.lt_of_le_of_lt Nat.and_le_left hd
  have e1 : d + 256 * y = 2 ^ 8 * y + d := by omega
  have e2 : k + 256 * M = 2 ^ 8 * M + k := by omega
  have e3 : (d &&& k) + 256 * (y &&& M) = 2 ^ 8 * (y &&& M) + (d &&& k) := by omega
  rw [e1, e2, e3]
  apply Nat.eq_of_testBit_eq
  intro i
  rw [Nat.testBit_and, Nat.testBit_two_pow_mul_add y (show d < 2 ^ 8 from hd), Nat.testBit_two_pow_mul_add M (show k < 2 ^ 8 from hk), Nat.testBit_two_pow_mul_add (y &&& M) (show d &&& k < 2 ^ 8 from hdk)]
  by_cases h : i < 8
  · rw [if_pos h, if_pos h, if_pos h, Nat.testBit_and]
  · rw [if_neg h, if_neg h, if_neg h, Nat.testBit_and]
def g1 (p : Nat) : Nat := p - (p / 2 &&& 85)
def g2 (u : Nat) : Nat := (u &&& 51) + (u / 4 &&& 51)
def g3 (w : Nat) : Nat := (w + w / 16) % 16
theorem bc_a : ∀ p, p < 256 → ∀ b, b < 2 → (p / 2 + 128 * b) &&& 85 = p / 2 &&& 85 := by decide +kernel
theorem bc_a2 : ∀ p, p < 16 → p / 2 &&& 21845 = p / 2 &&& 85 := by decide +kernel
theorem bc_b : ∀ p, p < 256 → ∀ b, b < 4 → (p / 4 + 64 * b) &&& 51 = p / 4 &&& 51 := by decide +kernel
theorem bc_b2 : ∀ p, p < 16 → p / 4 &&& 13107 = p / 4 &&& 51 := by decide +kernel
theorem bc_b3 : ∀ p, p < 16 → p &&& 13107 = p &&& 51 := by decide +kernel
theorem bc_c : ∀ p, p < 256 → g2 (g1 p) ≤ 68 ∧ g2 (g1 p) % 16 ≤ 4 ∧ g1 p < 256 ∧ (p / 2 &&& 85) ≤ p := by decide +kernel
theorem bc_c2 : ∀ p, p < 16 → g2 (g1 p) ≤ 4 ∧ g1 p < 16 ∧ (p / 2 &&& 85) ≤ p := by decide +kernel
theorem bc_d : ∀ w, w < 5 → w &&& 3855 = w := by decide +kernel
theorem bc_e : ∀ p, p < 256 → g3 (g2 (g1 p)) = bsum p 8 := by decide +kernel
theorem bc_e2 : ∀ p, p < 16 → g2 (g1 p) = bsum p 4 := by decide +kernel
theorem bsum_le (m n : Nat) : bsum m n ≤ n := by
  induction n with
  | zero => exact Nat.le_refl 0
  | succ n ih => show bsum m n + m / 2 ^ n % 2 ≤ n + 1; omega
abbrev bc1 (m : Nat) : Nat := m - (m / 2 ^ 1 &&& 1431655765)
abbrev bc2 (v : Nat) : Nat := (v &&& 858993459) + (v / 2 ^ 2 &&& 858993459)
abbrev bc3 (v : Nat) : Nat := (v + v / 2 ^ 4) &&& 252645135
abbrev bc4 (v : Nat) : Nat := v + v / 2 ^ 8
abbrev bc5 (v : Nat) : Nat := v + v / 2 ^ 16
theorem bc1_ok {p0 p1 p2 : Nat} (h0 : p0 < 256) (h1 : p1 < 256) (h2 : p2 < 16) : bc1 (p0 + 256 * (p1 + 256 * p2)) = g1 p0 + 256 * (g1 p1 + 256 * g1 p2) := by
  have e : (p0 + 256 * (p1 + 256 * p2)) / 2 ^ 1 = (p0 / 2 + 128 * (p1 % 2)) + 256 * ((p1 / 2 + 128 * (p2 % 2)) + 256 * (p2 / 2)) := by omega
  have c0 := (bc_c p0 h0).2.2.2
  have c1 := (bc_c p1 h1).2.2.2
  have c2 := (bc_c2 p2 h2).2.2
  show _ - (_ &&& 1431655765) = _
  rw [e, show (1431655765 : Nat) = 85 + 256 * (85 + 256 * 21845) from rfl, and_dig _ _ _ _ (by omega) (by omega), and_dig _ _ _ _ (by omega) (by omega), bc_a p0 h0 _ (by omega), bc_a p1 h1 _ (by omega), bc_a2 p2 h2]
  unfold g1
  omega
theorem bc2_ok {u0 u1 u2 : Nat} (h0 : u0 < 256) (h1 : u1 < 256) (h2 : u2 < 16) : bc2 (u0 + 256 * (u1 + 256 * u2)) = g2 u0 + 256 * (g2 u1 + 256 * g2 u2) := by
  have e : (u0 + 256 * (u1 + 256 * u2)) / 2 ^ 2 = (u0 / 4 + 64 * (u1 % 4)) + 256 * ((u1 / 4 + 64 * (u2 % 4)) + 256 * (u2 / 4)) := by omega
  show (_ &&& 858993459) + (_ &&& 858993459) = _
  rw [e, show (858993459 : Nat) = 51 + 256 * (51 + 256 * 13107) from rfl, and_dig _ _ _ _ (by omega) (by omega), and_dig _ _ _ _ (by omega) (by omega), and_dig _ _ _ _ (by omega) (by omega), and_dig _ _ _ _ (by omega) (by omega), bc_b u0 h0 _ (by omega), bc_b u1 h1 _ (by omega), bc_b2 u2 h2, bc_b3 u2 h2]
  unfold g2
  omega
theorem bc3_ok {w0 w1 w2 : Nat} (h0 : w0 ≤ 68) (h1 : w1 ≤ 68) (h2 : w2 ≤ 4) (k1 : w1 % 16 ≤ 4) : bc3 (w0 + 256 * (w1 + 256 * w2)) = g3 w0 + 256 * (g3 w1 + 256 * w2) := by
  have e : (w0 + 256 * (w1 + 256 * w2)) + (w0 + 256 * (w1 + 256 * w2)) / 2 ^ 4 = (w0 + w0 / 16 + 16 * (w1 % 16)) + 256 * ((w1 + w1 / 16 + 16 * (w2 % 16)) + 256 * w2) := by omega
  show _ &&& 252645135 = _
  rw [e, show (252645135 : Nat) = 15 + 256 * (15 + 256 * 3855) from rfl, and_dig _ _ _ _ (by omega) (by omega), and_dig _ _ _ _ (by omega) (by omega), bc_d w2 (by omega)]
  have a : ∀ x, x &&& 15 = x % 16 := fun x => Nat.and_two_pow_sub_one_eq_mod x 4
  rw [a, a]
  unfold g3
  omega
theorem bsum_split {p0 p1 p2 : Nat} (h0 : p0 < 256) (h1 : p1 < 256) (h2 : p2 < 16) : bsum (p0 + 256 * (p1 + 256 * p2)) 20 = bsum p0 8 + bsum p1 8 + bsum p2 4 := by
  have a : ∀ n, n ≤ 8 → bsum (p0 + 256 * (p1 + 256 * p2)) n = bsum p0 n := by
    intro n
    induction n with
    | zero => intro _; rfl
    | succ n ih =>
      intro hn
      show bsum _ n + _ / 2 ^ n % 2 = bsum p0 n + p0 / 2 ^ n % 2
      rw [ih (by omega)]
      congr 1
      have : n = 0 ∨ n = 1 ∨ n = 2 ∨ n = 3 ∨ n = 4 ∨ n = 5 ∨ n = 6 ∨ n = 7 := by omega
      rcases this with rfl | rfl | rfl | rfl | rfl | rfl | rfl | rfl <;> omega
  have b : ∀ n, n ≤ 8 → bsum (p0 + 256 * (p1 + 256 * p2)) (8 + n) = bsum p0 8 + bsum p1 n := by
    intro n
    induction n with
    | zero => intro _; exact a 8 (by omega)
    | succ n ih =>
      intro hn
      show bsum _ (8 + n) + _ / 2 ^ (8 + n) % 2 = bsum p0 8 + (bsum p1 n + p1 / 2 ^ n % 2)
      rw [ih (by omega), Nat.add_assoc]
      congr 2
      have : n = 0 ∨ n = 1 ∨ n = 2 ∨ n = 3 ∨ n = 4 ∨ n = 5 ∨ n = 6 ∨ n = 7 := by omega
      rcases this with rfl | rfl | rfl | rfl | rfl | rfl | rfl | rfl <;> omega
  have c : ∀ n, n ≤ 4 → bsum (p0 + 256 * (p1 + 256 * p2)) (16 + n) = bsum p0 8 + bsum p1 8 + bsum p2 n := by
    intro n
    induction n with
    | zero => intro _; exact b 8 (by omega)
    | succ n ih =>
      intro hn
      show bsum _ (16 + n) + _ / 2 ^ (16 + n) % 2 = bsum p0 8 + bsum p1 8 + (bsum p2 n + p2 / 2 ^ n % 2)
      rw [ih (by omega), Nat.add_assoc]
      congr 2
      have : n = 0 ∨ n = 1 ∨ n = 2 ∨ n = 3 := by omega
      rcases this with rfl | rfl | rfl | rfl <;> omega
  exact c 4 (by omega)
theorem bc_end {c0 c1 c2 : Nat} (h0 : c0 ≤ 8) (h1 : c1 ≤ 8) (h2 : c2 ≤ 4) : bc5 (bc4 (c0 + 256 * (c1 + 256 * c2))) % 2 ^ 6 = c0 + c1 + c2 := by
  have e1 : (c0 + 256 * (c1 + 256 * c2)) / 2 ^ 8 = c1 + 256 * c2 := by omega
  have e2 : bc4 (c0 + 256 * (c1 + 256 * c2)) = (c0 + c1) + 256 * (c1 + c2) + 65536 * c2 := by
    show _ + _ / 2 ^ 8 = _
    rw [e1]; omega
  rw [e2]
  have e3 : ((c0 + c1) + 256 * (c1 + c2) + 65536 * c2) / 2 ^ 16 = c2 := by omega
  show (_ + _ / 2 ^ 16) % 2 ^ 6 = _
  rw [e3]; omega
theorem bc_ok {m : Nat} (hm : m < 2 ^ 20) : bc5 (bc4 (bc3 (bc2 (bc1 m)))) &&& 63 = cnt (fun k => m / 2 ^ k % 2 = 1) 20 := by
  obtain ⟨p0, p1, p2, h0, h1, h2, rfl⟩ : ∃ p0 p1 p2, p0 < 256 ∧ p1 < 256 ∧ p2 < 16 ∧ m = p0 + 256 * (p1 + 256 * p2) := ⟨m % 256, m / 256 % 256, m / 65536, by omega, by omega, by omega, by omega⟩
  obtain ⟨a1, a2, a3, -⟩ := bc_c p0 h0
  obtain ⟨b1, b2, b3, -⟩ := bc_c p1 h1
  obtain ⟨c1, c2, -⟩ := bc_c2 p2 h2
  rw [bsum_cnt, bsum_split h0 h1 h2, bc1_ok h0 h1 h2, bc2_ok a3 b3 c2, bc3_ok a1 b1 c1 b2, bc_e p0 h0, bc_e p1 h1, bc_e2 p2 h2]
  have d0 := bsum_le p0 8
  have d1 := bsum_le p1 8
  have d2 := bsum_le p2 4
  show (bc5 (bc4 _)) &&& 2 ^ 6 - 1 = _
  rw [Nat.and_two_pow_sub_one_eq_mod]
  exact bc_end d0 d1 d2
theorem bsn_tb {G : Nat → Prop} {n k : Nat} : (bsn G n).testBit k = true ↔ k < n ∧ G k := by
  by_cases h : k < n
  · rw [Nat.testBit_eq_decide_div_mod_eq, bsn_bit h]
    by_cases g : G k
    · rw [cI_t g]; simp [h, g]
    · rw [cI_f g]; simp [h, g]
  · have h1 := bsn_lt G n
    have h2 : bsn G n < 2 ^ k := Nat.lt_of_lt_of_le h1 (Nat.pow_le_pow_right (by omega) (by omega))
    rw [Nat.testBit_lt_two_pow h2]
    simp [h]
theorem nI_ext {x : Int32} {m : Nat} (h : ∀ k, k < 32 → (x.toBitVec.getLsbD k = true ↔ m.testBit k = true)) : x = nI m := by
  apply Int32.toBitVec_inj.mp
  apply BitVec.eq_of_getLsbD_eq
  intro k hk
  show x.toBitVec.getLsbD k = (BitVec.ofNat 32 m).getLsbD k
  rw [BitVec.getLsbD_ofNat]
  have := h k hk
  simp only [hk, decide_true, Bool.true_and]
  exact Bool.eq_iff_iff.mpr this
theorem nI_bit {m k : Nat} (hk : k < 32) : (nI m).toBitVec.getLsbD k = m.testBit k := by
  show (BitVec.ofNat 32 m).getLsbD k = _
  rw [BitVec.getLsbD_ofNat]
  simp [hk]
theorem msk_or {A : ST} {i j : Nat} (hj : j < 20) : nI (msk A i) ||| ((1 : Int32) <<< (nI j &&& 31)) = nI (msk (up2 A 25 (20 * i + j) 1) i) := by
  rw [bit1_20 j hj]
  apply nI_ext
  intro k hk
  rw [Int32.toBitVec_or, BitVec.getLsbD_or, nI_bit hk, nI_bit hk, Bool.or_eq_true, Nat.testBit_two_pow]
  unfold msk
  rw [bsn_tb, bsn_tb, up2_s]
  by_cases e : k = j
  · subst e
    rw [pk_us]
    simp [hj]
  · rw [pk_un (by omega)]
    have : ¬ j = k := fun z => e z.symm
    simp [this]
theorem msk_and {A : ST} {i j : Nat} (hj : j < 20) : nI (msk A i) &&& (((1 : Int32) <<< (nI j &&& 31)) ^^^ (-1)) = nI (msk (up2 A 25 (20 * i + j) 0) i) := by
  rw [bit1_20 j hj]
  apply nI_ext
  intro k hk
  have em : (-1 : Int32).toBitVec.getLsbD k = true := by
    rw [show (-1 : Int32).toBitVec = BitVec.allOnes 32 by decide, BitVec.getLsbD_allOnes]
    exact decide_eq_true hk
  rw [Int32.toBitVec_and, BitVec.getLsbD_and, Int32.toBitVec_xor, BitVec.getLsbD_xor, em, nI_bit hk, nI_bit hk, Bool.and_eq_true, Nat.testBit_two_pow]
  unfold msk
  rw [bsn_tb, bsn_tb, up2_s]
  by_cases e : k = j
  · subst e
    rw [pk_us]
    simp
  · rw [pk_un (by omega)]
    have : ¬ j = k := fun z => e z.symm
    simp [this]
theorem msk_o {A : ST} {i j k : Nat} {z : Int32} (hj : j < 20) (hk : k ≠ i) : msk (up2 A 25 (20 * i + j) z) k = msk A k := by
  unfold msk
  refine bsn_congr (fun x hx => ?_)
  rw [up2_s, pk_un (by omega)]
theorem msk_cnt (A : ST) (i : Nat) : cnt (fun k => msk A i / 2 ^ k % 2 = 1) 20 = cnt (fun k => A 25 (20 * i + k) = 1) 20 := by
  refine cnt_congr (fun k hk => ?_)
  have hb := bsn_bit (G := fun x => A 25 (20 * i + x) = 1) (n := 20) hk
  show bsn (fun x => A 25 (20 * i + x) = 1) 20 / 2 ^ k % 2 = 1 ↔ _
  rw [hb]
  by_cases h : A 25 (20 * i + k) = 1
  · rw [cI_t h]; simp [h]
  · rw [cI_f h]; simp [h]
