noncomputable def ok1 {α : Type} (x : Int32) (n : Nat) (f : Nat → α) (e : α) : α := cI (isN x n) (f x.toNatClampNeg) e
theorem ok1_t {α : Type} {i n : Nat} {f : Nat → α} {e : α} (hi : i < n) (hn : n < 2 ^ 31) : ok1 (nI i) n f e = f i := by
  unfold ok1
  rw [cI_t (isN_nI hi hn), nI_clamp (by omega)]
theorem ok1_f {α : Type} {x : Int32} {n : Nat} {f : Nat → α} {e : α} (h : ¬ isN x n) : ok1 x n f e = e := cI_f h
noncomputable def cnt (P : Nat → Prop) : Nat → Nat
  | 0 => 0
  | n + 1 => cnt P n + cI (P n) 1 0
theorem cnt_t {P : Nat → Prop} {i : Nat} (h : P i) : nI (cnt P i) + 1 = nI (cnt P (i + 1)) := by
  rw [nI_1]
  show _ = nI (cnt P i + cI (P i) 1 0)
  rw [cI_t h]
theorem cnt_f {P : Nat → Prop} {i : Nat} (h : ¬ P i) : nI (cnt P i) + 0 = nI (cnt P (i + 1)) := by
  rw [show (0 : Int32) = nI 0 from rfl, nI_add]
  show _ = nI (cnt P i + cI (P i) 1 0)
  rw [cI_f h]
theorem cnt_le (P : Nat → Prop) (n : Nat) : cnt P n ≤ n := by
  induction n with
  | zero => exact Nat.le_refl 0
  | succ n ih =>
    show cnt P n + cI (P n) 1 0 ≤ n + 1
    by_cases h : P n
    · rw [cI_t h]; omega
    · rw [cI_f h]; omega
theorem b2_mono {P Q : Nat → Prop} {i : Nat} : True := trivial
/-- being w holds the key of door e -/
def keyH (A : ST) (w e : Nat) : Prop := ∃ k, k < 2 ^ 31 ∧ A 7 e = nI k ∧ hol A w k
theorem keyH_k {A : ST} {w e k : Nat} (h : A 7 e = nI k) (hk : k < 2 ^ 31) : keyH A w e ↔ hol A w k := by
  constructor
  · rintro ⟨k2, h2, h3, h4⟩
    have := nI_inj h2 hk (h3.symm.trans h)
    subst this
    exact h4
  · exact fun q => ⟨k, hk, h, q⟩
theorem keyH_neg {A : ST} {w e : Nat} (h : A 7 e = -1) : ¬ keyH A w e := by
  rintro ⟨k2, h2, h3, -⟩
  exact nI_neg h2 (h3.symm.trans h)
noncomputable def ldT (A : ST) (i j : Nat) : Int32 :=
  cI (A 2 (8 * i + j) < nI 100) (A 2 (8 * i + j)) (cI (A 2 (8 * i + j) < nI 200) (cI (A 8 (A 2 (8 * i + j) - 100).toNatClampNeg = 1) (cI (A 5 (A 2 (8 * i + j) - 100).toNatClampNeg = nI i) (A 6 (A 2 (8 * i + j) - 100).toNatClampNeg) (A 5 (A 2 (8 * i + j) - 100).toNatClampNeg)) (-1)) (cI (A 2 (8 * i + j) < nI 300) (-1) (cI (A 23 (A 2 (8 * i + j) - 300).toNatClampNeg = 0) (-1) (A 22 (4 * (A 2 (8 * i + j) - 300).toNatClampNeg + (A 24 (A 2 (8 * i + j) - 300).toNatClampNeg).toNatClampNeg)))))
theorem nlt {a b : Nat} (ha : a < 2 ^ 31) (hb : b < 2 ^ 31) (h : ¬ a < b) : ¬ nI a < nI b := fun q => h ((nI_ltI ha hb).mp q)
theorem ylt {a b : Nat} (ha : a < 2 ^ 31) (hb : b < 2 ^ 31) (h : a < b) : nI a < nI b := (nI_ltI ha hb).mpr h
theorem ldT_neg {A : ST} {i j : Nat} (h : A 2 (8 * i + j) = -1) : ldT A i j = -1 := by
  unfold ldT
  rw [h, cI_t (by decide)]
theorem ldT_room {A : ST} {i j k : Nat} (h : A 2 (8 * i + j) = nI k) (hk : k < 100) : ldT A i j = nI k := by
  unfold ldT
  rw [h, cI_t (ylt (b := 100) (by omega) (by omega) hk)]
theorem ldT_door {A : ST} {i j k : Nat} (h : A 2 (8 * i + j) = nI (100 + k)) (hk : k < 100) : ldT A i j = cI (A 8 k = 1) (cI (A 5 k = nI i) (A 6 k) (A 5 k)) (-1) := by
  unfold ldT
  rw [h, cI_f (nlt (b := 100) (by omega) (by omega) (by omega)), cI_t (ylt (b := 200) (by omega) (by omega) (by omega)), show nI (100 + k) - 100 = nI k from nsub 100 k, nI_clamp (by omega)]
theorem ldT_blk {A : ST} {i j k : Nat} (h : A 2 (8 * i + j) = nI (200 + k)) (hk : k < 50) : ldT A i j = -1 := by
  unfold ldT
  rw [h, cI_f (nlt (b := 100) (by omega) (by omega) (by omega)), cI_f (nlt (b := 200) (by omega) (by omega) (by omega)), cI_t (ylt (b := 300) (by omega) (by omega) (by omega))]
theorem ldT_rule {A : ST} {i j k q : Nat} (h : A 2 (8 * i + j) = nI (300 + k)) (hk : k < 5) (hq : A 24 k = nI q) (hq2 : q < 2 ^ 31) : ldT A i j = cI (A 23 k = 0) (-1) (A 22 (4 * k + q)) := by
  unfold ldT
  rw [h, cI_f (nlt (b := 100) (by omega) (by omega) (by omega)), cI_f (nlt (b := 200) (by omega) (by omega) (by omega)), cI_f (nlt (b := 300) (by omega) (by omega) (by omega)), show nI (300 + k) - 300 = nI k from nsub 300 k, nI_clamp (by omega), hq, nI_clamp hq2]
theorem ldT_ok {r d t b : Nat} {A : ST} (hI : Inv r d t b A) {i j : Nat} (hi : i < r) (hj : j < 8) : ldT A i j = -1 ∨ ∃ x, x < r ∧ ldT A i j = nI x := by
  have hN := hI.cn
  rcases hI.cw hi hj with hw | ⟨k, hk, hw⟩ | ⟨k, hk, hw, hs⟩ | ⟨k, hk, hw⟩ | ⟨k, hk, hw⟩
  · exact Or.inl (ldT_neg hw)
  · exact Or.inr ⟨k, hk, ldT_room hw (by omega)⟩
  · rw [ldT_door hw (by omega)]
    obtain ⟨⟨a, ha, ea⟩, h6, -⟩ := hI.cd hk
    by_cases h8 : A 8 k = 1
    · rw [cI_t h8]
      by_cases h5 : A 5 k = nI i
      · rw [cI_t h5]
        rcases h6 with h6 | ⟨c, hc, ec⟩
        · exact Or.inl h6
        · exact Or.inr ⟨c, hc, ec⟩
      · rw [cI_f h5]
        exact Or.inr ⟨a, ha, ea⟩
    · rw [cI_f h8]; exact Or.inl rfl
  · exact Or.inl (ldT_blk hw hk)
  · obtain ⟨m, q, hm, e1, e2, hq, hx⟩ := hI.cr hk
    rw [ldT_rule hw hk e2 (by omega)]
    by_cases h0 : A 23 k = 0
    · rw [cI_t h0]; exact Or.inl rfl
    · rw [cI_f h0]
      rcases hq with hq | ⟨hq, -⟩
      · obtain ⟨x, hx1, hx2⟩ := hx q hq
        exact Or.inr ⟨x, hx1, hx2⟩
      · subst hq; exact absurd e1 h0
noncomputable def wyT (A : ST) (i j : Nat) (s : Int32) : Int32 :=
  cI (A 2 (8 * i + j) = -1) 25 (cI (200 ≤ A 2 (8 * i + j) ∧ A 2 (8 * i + j) ≤ 249) (50 + A 2 (8 * i + j) - 200) (cI ((100 ≤ A 2 (8 * i + j) ∧ A 2 (8 * i + j) ≤ 199) ∧ ¬ A 8 (A 2 (8 * i + j) - 100).toNatClampNeg = 1) (cI (A 9 (A 2 (8 * i + j) - 100).toNatClampNeg = 1) 27 26) (cI (ldT A i j < 0) 28 (cI (A 3 (8 * i + j) < s) 29 0))))
