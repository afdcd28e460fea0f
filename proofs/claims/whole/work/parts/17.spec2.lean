/-- the first of n numbers from i on with P -/
noncomputable def fnd (P : Nat → Prop) (e : Int32) : Nat → Nat → Int32
  | 0, _ => e
  | n + 1, i => cI (P i) (nI i) (fnd P e n (i + 1))
theorem fnd_t {P : Nat → Prop} {e : Int32} {n i : Nat} (h : P i) : fnd P e (n + 1) i = nI i := cI_t h
theorem fnd_f {P : Nat → Prop} {e : Int32} {n i : Nat} (h : ¬ P i) : fnd P e (n + 1) i = fnd P e n (i + 1) := cI_f h
theorem fnd_none {P : Nat → Prop} {e : Int32} {n i : Nat} (h : ∀ j, i ≤ j → j < i + n → ¬ P j) : fnd P e n i = e := by
  induction n generalizing i with
  | zero => rfl
  | succ n ih =>
    rw [fnd_f (h i (by omega) (by omega))]
    exact ih (fun j h1 h2 => h j (by omega) (by omega))
theorem fnd_short {P : Nat → Prop} {e : Int32} {n m i : Nat} (h : ∀ j, i + n ≤ j → j < i + n + m → ¬ P j) : fnd P e (n + m) i = fnd P e n i := by
  induction n generalizing i with
  | zero =>
    rw [Nat.zero_add]
    exact fnd_none (fun j h1 h2 => h j (by omega) (by omega))
  | succ n ih =>
    rw [show n + 1 + m = (n + m) + 1 by omega]
    by_cases hp : P i
    · rw [fnd_t hp, fnd_t hp]
    · rw [fnd_f hp, fnd_f hp]
      exact ih (fun j h1 h2 => h j (by omega) (by omega))
noncomputable def lsO (A : ST) (i : Nat) : Int32 := fnd (fun x => A 25 (20 * i + x) = 1) (-3) 20 0
/-- a set of numbers below n as bits -/
noncomputable def bsn (G : Nat → Prop) : Nat → Nat
  | 0 => 0
  | n + 1 => bsn G n + cI (G n) (2 ^ n) 0
theorem bsn_lt (G : Nat → Prop) (n : Nat) : bsn G n < 2 ^ n := by
  induction n with
  | zero => show 0 < 1; omega
  | succ n ih =>
    show bsn G n + cI (G n) (2 ^ n) 0 < 2 ^ (n + 1)
    rw [Nat.pow_succ]
    by_cases h : G n
    · rw [cI_t h]; omega
    · rw [cI_f h]; omega
theorem or_bit : ∀ n, n < 6 → ∀ a, a < 2 ^ n → nI a ||| ((1 : Int32) <<< (nI n &&& 31)) = nI (a + 2 ^ n) := by decide +kernel
theorem or_bit2 : ∀ k, k < 6 → ∀ m, m < 64 → m / 2 ^ k % 2 = 0 → nI m ||| ((1 : Int32) <<< (nI k &&& 31)) = nI (m + 2 ^ k) := by decide +kernel
theorem sh_bit : ∀ k, k < 6 → ∀ m, m < 64 → (nI m >>> (nI k &&& 31)) &&& 1 = nI (m / 2 ^ k % 2) := by decide +kernel
theorem bit1 : ∀ k, k < 6 → (1 : Int32) <<< (nI k &&& 31) = nI (2 ^ k) := by decide +kernel
theorem bsn_bit {G : Nat → Prop} {n k : Nat} (hk : k < n) : bsn G n / 2 ^ k % 2 = cI (G k) 1 0 := by
  induction n with
  | zero => omega
  | succ n ih =>
    show (bsn G n + cI (G n) (2 ^ n) 0) / 2 ^ k % 2 = _
    by_cases h : k = n
    · subst h
      have h1 := bsn_lt G k
      by_cases hg : G k
      · rw [cI_t hg, cI_t hg, Nat.add_div_right _ (Nat.pow_pos (by omega)), Nat.div_eq_of_lt h1]
      · rw [cI_f hg, cI_f hg, Nat.add_zero, Nat.div_eq_of_lt h1]
    · have hk2 : k < n := by omega
      by_cases hg : G n
      · rw [cI_t hg]
        have h2 : 2 ^ n = 2 ^ k * (2 * 2 ^ (n - k - 1)) := by
          rw [← Nat.pow_succ', ← Nat.pow_add]
          congr 1
          omega
        rw [h2, Nat.add_mul_div_left _ _ (Nat.pow_pos (by omega)), Nat.add_mul_mod_self_left]
        exact ih hk2
      · rw [cI_f hg, Nat.add_zero]
        exact ih hk2
theorem bsn_congr {G G' : Nat → Prop} {n : Nat} (h : ∀ k, k < n → (G k ↔ G' k)) : bsn G n = bsn G' n := by
  induction n with
  | zero => rfl
  | succ n ih =>
    show bsn G n + cI (G n) (2 ^ n) 0 = bsn G' n + cI (G' n) (2 ^ n) 0
    rw [ih (fun k hk => h k (by omega)), cI_iff (h n (by omega))]
theorem bsn_add {G : Nat → Prop} {n w : Nat} (hw : w < n) (hg : ¬ G w) : bsn (fun k => G k ∨ k = w) n = bsn G n + 2 ^ w := by
  induction n with
  | zero => omega
  | succ n ih =>
    show bsn _ n + cI (G n ∨ n = w) (2 ^ n) 0 = bsn G n + cI (G n) (2 ^ n) 0 + 2 ^ w
    by_cases h : n = w
    · subst h
      rw [cI_t (Or.inr rfl), cI_f hg]
      have : bsn (fun k => G k ∨ k = n) n = bsn G n := bsn_congr (fun k hk => ⟨fun q => q.elim id (fun z => by omega), Or.inl⟩)
      rw [this]
      omega
    · rw [ih (by omega), cI_iff (show (G n ∨ n = w) ↔ G n from ⟨fun q => q.elim id (fun z => absurd z h), Or.inl⟩)]
      omega
theorem bsn_one {n w : Nat} (hw : w < n) : bsn (fun k => k = w) n = 2 ^ w := by
  have h := bsn_add (G := fun _ => False) (n := n) hw (fun q => q)
  have h0 : bsn (fun _ => False) n = 0 := by
    clear h hw
    induction n with
    | zero => rfl
    | succ n ih => show bsn _ n + cI False (2 ^ n) 0 = 0; rw [ih, cI_f (fun q => q)]
  rw [h0, Nat.zero_add] at h
  rw [← h]
  exact bsn_congr (fun k _ => ⟨Or.inr, fun q => q.elim False.elim id⟩)
noncomputable def atT (A : ST) (d w c j : Nat) : Int32 := cI (hasD A w j) (cI (c < 2) (cI (A 8 j = b2 (c = 0)) 11 (cI (c = 0 ∧ A 9 j = 1) 12 0)) (cI (A 9 j = b2 (c = 2)) 11 (cI (A 7 j = -1) 13 (cI (keyH A w j) 0 (cI (∃ e, e < d ∧ (fun e => e ≠ j ∧ keyH A w e) e) 15 14))))) 10
noncomputable def hdT (A : ST) (t w c i : Nat) : Int32 := cI (c = 1) (cI (hol A w i) 0 18) (cI (hasT A w i) (cI (c = 0) (cI (hol A w i) 11 (cI (A 11 i = 0) (cI (cnt (hol A w) t = 4) 17 0) 16)) (cI (c = 2) (cI (A 11 i = 2 ∨ A 11 i = 3) (cI (A 18 w = -1) (cI (A 15 i = 1) 21 0) 20) 19) (cI (A 11 i = 3) (cI (A 15 i = b2 (c = 4)) 11 0) 22))) 10)
noncomputable def F_way (r : Nat) (A : ST) (x y : Int32) : Int32 := ok1 x r (fun i => ok1 y 8 (fun j => A 2 (8 * i + j)) (-1)) (-1)
noncomputable def F_leads (r : Nat) (A : ST) (x y : Int32) : Int32 := ok1 x r (fun i => ok1 y 8 (fun j => ldT A i j) (-1)) (-1)
noncomputable def F_state (d : Nat) (A : ST) (x : Int32) : Int32 := ok1 x d (fun j => cI (A 8 j = 1) 1 0 + cI (A 9 j = 1) 2 0 + cI (A 7 j = -1) 0 4 + cI (A 6 j = -1) 0 8) (-1)
noncomputable def thI (A : ST) (i c : Nat) : Int32 := cI (c = 0) (cI (A 14 i = -1) (A 13 i) (lsO A (A 14 i).toNatClampNeg)) (cI (c = 1) (A 11 i) (cI (c = 2) (A 12 i) (cI (c = 3) (A 15 i) (cI (A 14 i = -1) (-3) (A 14 i)))))
noncomputable def F_thingIs (t : Nat) (A : ST) (x y : Int32) : Int32 := ok1 x t (fun i => ok1 y 5 (fun c => thI A i c) (-1)) (-1)
noncomputable def beI (t : Nat) (A : ST) (i c : Nat) : Int32 := cI (c = 0) (A 17 i) (cI (c = 1) (cI (A 18 i = -1) (-3) (A 18 i)) (cI (c = 2) (cI (A 19 i = -1) (-3) (A 19 i)) (cI (c = 3) (nI (cnt (hol A i) t)) (A 21 i))))
noncomputable def F_beingIs (t b : Nat) (A : ST) (x y : Int32) : Int32 := ok1 x b (fun i => ok1 y 5 (fun c => beI t A i c) (-1)) (-1)
noncomputable def F_news (b : Nat) (A : ST) (x y : Int32) : Int32 := ok1 x b (fun i => ok1 y (A 21 i).toNatClampNeg (fun j => A 20 (8 * i + j)) (-1)) (-1)
noncomputable def hrP (d t b : Nat) (A : ST) (i c : Nat) (z : Int32) : Int32 := cI (c = 0) (ok1 z d (fun j => b2 (hasD A i j)) 0) (cI (c = 1) (ok1 z t (fun j => b2 (hasT A i j)) 0) (ok1 z b (fun j => b2 ((shIn A i ∧ A 18 j = A 18 i) ∨ (¬ shIn A i ∧ A 17 j = A 17 i))) 0))
noncomputable def F_here (d t b : Nat) (A : ST) (x y z : Int32) : Int32 := ok1 x b (fun i => ok1 y 3 (fun c => hrP d t b A i c z) 0) 0
def cw4 (A : ST) (k : Nat) : Prop := A 2 k ≠ -1
def cw5 (A : ST) (k : Nat) : Prop := ldT A (k / 8) (k % 8) ≠ -1
noncomputable def ctI (r d t b : Nat) (A : ST) (c : Nat) : Int32 := cI (c = 0) (nI r) (cI (c = 1) (nI d) (cI (c = 2) (nI t) (cI (c = 3) (nI b) (cI (c = 4) (nI (cnt (cw4 A) (8 * r))) (nI (cnt (cw5 A) (8 * r)))))))
noncomputable def F_count (r d t b : Nat) (A : ST) (x : Int32) : Int32 := ok1 x 6 (fun c => ctI r d t b A c) (-1)
