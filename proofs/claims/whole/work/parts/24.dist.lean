/-! ways through rooms, by their lengths -/
def pth (A : ST) (r : Nat) : Nat → Nat → Nat → Prop
  | 0, i, y => i = y
  | n + 1, i, y => ∃ j x, j < 8 ∧ x < r ∧ ldT A i j = nI x ∧ pth A r n x y
noncomputable def dst (A : ST) (r i y : Nat) : Nat := @dite Nat (∃ n, pth A r n i y) (Classical.propDecidable _) (fun h => Classical.choose (pk_least _ h)) (fun _ => 99)
section DS
variable {A : ST} {r i y n : Nat}
theorem dst_spec (h : ∃ n, pth A r n i y) : pth A r (dst A r i y) i y ∧ ∀ j, j < dst A r i y → ¬ pth A r j i y := by
  have e : dst A r i y = Classical.choose (pk_least _ h) := dif_pos h
  rw [e]
  exact Classical.choose_spec (pk_least _ h)
theorem dst_none (h : ¬ ∃ n, pth A r n i y) : dst A r i y = 99 := dif_neg h
theorem dst_le (h : pth A r n i y) : dst A r i y ≤ n := by
  rcases Nat.lt_or_ge n (dst A r i y) with q | q
  · exact absurd h ((dst_spec ⟨n, h⟩).2 n q)
  · exact q
theorem dst_0 : dst A r y y = 0 := by
  have := dst_le (A := A) (r := r) (n := 0) (i := y) (y := y) rfl
  omega
theorem php : ∀ (r n : Nat) (f : Nat → Nat), (∀ i, i < n → f i < r) → (∀ i j, i < n → j < n → f i = f j → i = j) → n ≤ r := by
  intro r
  induction r with
  | zero =>
    intro n f h1 h2
    rcases Nat.eq_zero_or_pos n with q | q
    · omega
    · exact absurd (h1 0 q) (by omega)
  | succ r ih =>
    intro n f h1 h2
    rcases Nat.eq_zero_or_pos n with q | q
    · omega
    · -- the last one's value is put in the place of r
      have := ih (n - 1) (fun i => if f i = r then f (n - 1) else f i) (fun i hi => by
          have a := h1 i (by omega)
          have c := h1 (n - 1) (by omega)
          by_cases e : f i = r
          · simp only [e, if_true]
            have : f (n - 1) ≠ r := fun z => by
              have := h2 i (n - 1) (by omega) (by omega) (e.trans z.symm)
              omega
            omega
          · simp only [e, if_false]
            omega) (fun i j hi hj e => by
          by_cases e1 : f i = r <;> by_cases e2 : f j = r
          · exact h2 i j (by omega) (by omega) (e1.trans e2.symm)
          · simp only [e1, e2, if_true, if_false] at e
            have := h2 (n - 1) j (by omega) (by omega) e
            omega
          · simp only [e1, e2, if_true, if_false] at e
            have := h2 i (n - 1) (by omega) (by omega) e
            omega
          · simp only [e1, e2, if_false] at e
            exact h2 i j (by omega) (by omega) e)
      omega
/-- on a shortest way every shorter length is met -/
theorem dst_steps : ∀ (n i : Nat), i < r → pth A r n i y → (∀ m, m < n → ¬ pth A r m i y) → ∃ f : Nat → Nat, ∀ k, k ≤ n → f k < r ∧ pth A r k (f k) y ∧ ∀ m, m < k → ¬ pth A r m (f k) y := by
  intro n
  induction n with
  | zero =>
    intro i hi h _
    exact ⟨fun _ => i, fun k hk => ⟨hi, by rw [show k = 0 by omega]; exact h, fun m hm => by omega⟩⟩
  | succ n ih =>
    intro i hi h hmin
    obtain ⟨j, x, hj, hx, hl, hp⟩ := h
    obtain ⟨f, hf⟩ := ih x hx hp (fun m hm q => hmin (m + 1) (by omega) ⟨j, x, hj, hx, hl, q⟩)
    refine ⟨fun k => if k = n + 1 then i else f k, fun k hk => ?_⟩
    by_cases e : k = n + 1
    · subst e
      simp only [if_true]
      exact ⟨hi, ⟨j, x, hj, hx, hl, hp⟩, hmin⟩
    · simp only [e, if_false]
      exact hf k (by omega)
theorem dst_lt (hi : i < r) (h : ∃ n, pth A r n i y) : dst A r i y < r := by
  obtain ⟨h1, h2⟩ := dst_spec h
  obtain ⟨f, hf⟩ := dst_steps _ i hi h1 h2
  have := php r (dst A r i y + 1) f (fun k hk => (hf k (by omega)).1) (fun k m hk hm e => by
    rcases Nat.lt_trichotomy k m with q | q | q
    · exact absurd (by rw [← e]; exact (hf k (by omega)).2.1) ((hf m (by omega)).2.2 k q)
    · exact q
    · exact absurd (by rw [e]; exact (hf m (by omega)).2.1) ((hf k (by omega)).2.2 m q))
  omega
theorem dst_99 (hi : i < r) (hr : r ≤ 20) : dst A r i y = 99 ↔ ¬ ∃ n, pth A r n i y := by
  constructor
  · intro h q
    have := dst_lt hi q
    omega
  · exact dst_none
theorem dst_le99 (hi : i < r) (hr : r ≤ 20) : dst A r i y ≤ 99 := by
  by_cases h : ∃ n, pth A r n i y
  · have := dst_lt hi h; omega
  · rw [dst_none h]; omega
/-- a first step -/
theorem dst_step (hi : i < r) (hr : r ≤ 20) (h : dst A r i y = n + 1) (h9 : n + 1 ≠ 99) : ∃ j x, j < 8 ∧ x < r ∧ ldT A i j = nI x ∧ dst A r x y = n := by
  have he : ∃ n, pth A r n i y := Classical.byContradiction fun q => h9 (h.symm.trans (dst_none q))
  obtain ⟨h1, h2⟩ := dst_spec he
  rw [h] at h1 h2
  obtain ⟨j, x, hj, hx, hl, hp⟩ := h1
  refine ⟨j, x, hj, hx, hl, ?_⟩
  have a := dst_le hp
  rcases Nat.lt_or_ge (dst A r x y) n with q | q
  · exact absurd ⟨j, x, hj, hx, hl, (dst_spec ⟨n, hp⟩).1⟩ (h2 (dst A r x y + 1) (by omega))
  · omega
end DS
/-- what the relaxing keeps -/
def mInv (A : ST) (r y n : Nat) (f : Nat → Nat) : Prop := (∀ i, i < r → f i ≤ 99 ∧ (f i = 99 ∨ pth A r (f i) i y)) ∧ ∀ i m, i < r → m ≤ n → pth A r m i y → f i ≤ m
def mInv2 (A : ST) (r y n k : Nat) (f : Nat → Nat) : Prop := mInv A r y n f ∧ ∀ k' x m, k' < k → x < r → ldT A (k' / 8) (k' % 8) = nI x → m ≤ n → pth A r m x y → f (k' / 8) ≤ m + 1
theorem mInv_0 {A : ST} {r y : Nat} {f : Nat → Nat} (h : ∀ i, i < r → f i = if i = y then 0 else 99) : mInv A r y 0 f := by
  refine ⟨fun i hi => ?_, fun i m hi hm hp => ?_⟩
  · rw [h i hi]
    by_cases e : i = y
    · rw [if_pos e]; exact ⟨by omega, Or.inr e⟩
    · rw [if_neg e]; exact ⟨by omega, Or.inl rfl⟩
  · rw [show m = 0 by omega] at hp
    have hp' : i = y := hp
    rw [h i hi, if_pos hp']
    omega
theorem mInv_in {A : ST} {r y n : Nat} {f : Nat → Nat} (h : mInv A r y n f) : mInv2 A r y n 0 f := ⟨h, fun k' x m hk => absurd hk (by omega)⟩
theorem mInv_out {A : ST} {r y n : Nat} {f : Nat → Nat} (h : mInv2 A r y n (8 * r) f) : mInv A r y (n + 1) f := by
  refine ⟨h.1.1, fun i m hi hm hp => ?_⟩
  cases m with
  | zero => exact h.1.2 i 0 hi (by omega) hp
  | succ m =>
    obtain ⟨j, x, hj, hx, hl, hp⟩ := hp
    have := h.2 (8 * i + j) x m (by omega) hx (by rw [show (8 * i + j) / 8 = i by omega, show (8 * i + j) % 8 = j by omega]; exact hl) (by omega) hp
    rw [show (8 * i + j) / 8 = i by omega] at this
    exact this
theorem mInv_skip {A : ST} {r y n k : Nat} {f : Nat → Nat} (h : mInv2 A r y n k f) (hs : ∀ x m, x < r → ldT A (k / 8) (k % 8) = nI x → m ≤ n → pth A r m x y → f (k / 8) ≤ m + 1) : mInv2 A r y n (k + 1) f := by
  refine ⟨h.1, fun k' x m hk hx hl hm hp => ?_⟩
  by_cases e : k' = k
  · subst e; exact hs x m hx hl hm hp
  · exact h.2 k' x m (by omega) hx hl hm hp
theorem mInv_set {A : ST} {r y n k x : Nat} {f : Nat → Nat} (hr : r ≤ 20) (h : mInv2 A r y n k f) (hk : k / 8 < r) (hx : x < r) (hl : ldT A (k / 8) (k % 8) = nI x) (hlt : f x + 1 < f (k / 8)) : mInv2 A r y n (k + 1) (fun p => if p = k / 8 then f x + 1 else f p) := by
  have hk9 := h.1.1 (k / 8) hk
  have hx9 := h.1.1 x hx
  have mono : ∀ p, (fun p => if p = k / 8 then f x + 1 else f p) p ≤ f p := by
    intro p
    by_cases e : p = k / 8
    · subst e; simp only [if_true]; omega
    · simp only [e, if_false]; omega
  refine ⟨⟨fun p hp => ?_, fun p m hp hm hq => Nat.le_trans (mono p) (h.1.2 p m hp hm hq)⟩, fun k' x' m hk' hx' hl' hm hp => ?_⟩
  · by_cases e : p = k / 8
    · subst e
      simp only [if_true]
      refine ⟨by omega, Or.inr ⟨k % 8, x, by omega, hx, hl, ?_⟩⟩
      exact hx9.2.resolve_left (by omega)
    · simp only [e, if_false]
      exact h.1.1 p hp
  · by_cases e : k' = k
    · subst e
      have e2 : x' = x := nI_inj (by omega) (by omega) (hl'.symm.trans hl)
      subst e2
      simp only [if_true]
      have := h.1.2 x' m hx hm hp
      omega
    · exact Nat.le_trans (mono _) (h.2 k' x' m (by omega) hx' hl' hm hp)
theorem mInv_end {A : ST} {r y : Nat} {f : Nat → Nat} (hr : r ≤ 20) (h : mInv A r y r f) {i : Nat} (hi : i < r) : f i = dst A r i y := by
  obtain ⟨h1, h2⟩ := h.1 i hi
  by_cases q : ∃ n, pth A r n i y
  · have a := dst_lt hi q
    have c := h.2 i _ hi (Nat.le_of_lt a) (dst_spec q).1
    rcases h2 with h2 | h2
    · omega
    · have := dst_le h2
      omega
  · rw [dst_none q]
    rcases h2 with h2 | h2
    · exact h2
    · exact absurd ⟨_, h2⟩ q
noncomputable def stI (A : ST) (r y i : Nat) : Int32 := fnd (fun j => ∃ x, x < r ∧ ldT A i j = nI x ∧ dst A r x y + 1 = dst A r i y) (-1) 8 0
noncomputable def rmK (A : ST) (r y i : Nat) : Nat → Nat
  | 0 => i
  | k + 1 => (ldT A (rmK A r y i k) (stI A r y (rmK A r y i k)).toNatClampNeg).toNatClampNeg
theorem fnd_some {P : Nat → Prop} {e : Int32} : ∀ {n i j : Nat}, i ≤ j → j < i + n → P j → ∃ k, i ≤ k ∧ k ≤ j ∧ P k ∧ (∀ m, i ≤ m → m < k → ¬ P m) ∧ fnd P e n i = nI k := by
  intro n
  induction n with
  | zero => intro i j h1 h2; omega
  | succ n ih =>
    intro i j h1 h2 hp
    by_cases h : P i
    · exact ⟨i, Nat.le_refl i, h1, h, fun m a c => by omega, fnd_t h⟩
    · have : i ≠ j := fun q => h (q ▸ hp)
      obtain ⟨k, a, c, d, f, g⟩ := ih (i := i + 1) (j := j) (by omega) (by omega) hp
      refine ⟨k, by omega, c, d, fun m m1 m2 => ?_, by rw [fnd_f h]; exact g⟩
      by_cases q : m = i
      · subst q; exact h
      · exact f m (by omega) m2
theorem stI_ok {A : ST} {r y i n : Nat} (hi : i < r) (hr : r ≤ 20) (h : dst A r i y = n + 1) (h9 : n + 1 ≠ 99) : ∃ j x, j < 8 ∧ x < r ∧ stI A r y i = nI j ∧ ldT A i j = nI x ∧ dst A r x y = n ∧ ∀ m, m < j → ¬ ∃ x, x < r ∧ ldT A i m = nI x ∧ dst A r x y + 1 = dst A r i y := by
  obtain ⟨j, x, hj, hx, hl, hd⟩ := dst_step hi hr h h9
  obtain ⟨k, -, hk, ⟨x2, hx2, hl2, hd2⟩, hmin, he⟩ := fnd_some (P := fun j => ∃ x, x < r ∧ ldT A i j = nI x ∧ dst A r x y + 1 = dst A r i y) (e := -1) (n := 8) (i := 0) (j := j) (by omega) (by omega) ⟨x, hx, hl, by omega⟩
  exact ⟨k, x2, by omega, hx2, he, hl2, by omega, fun m hm => hmin m (by omega) hm⟩
theorem rmK_ok {A : ST} {r y i n : Nat} (hi : i < r) (hr : r ≤ 20) (h : dst A r i y = n) (h9 : n ≠ 99) : ∀ k, k ≤ n → rmK A r y i k < r ∧ dst A r (rmK A r y i k) y = n - k := by
  intro k
  induction k with
  | zero => intro _; exact ⟨hi, h⟩
  | succ k ih =>
    intro hk
    obtain ⟨h1, h2⟩ := ih (by omega)
    have hn : n < r := by
      have : ∃ n, pth A r n i y := Classical.byContradiction fun q => h9 (h.symm.trans (dst_none q))
      have := dst_lt hi this
      omega
    obtain ⟨j, x, hj, hx, hs, hl, hd, -⟩ := stI_ok (A := A) (y := y) (n := n - k - 1) h1 hr (by omega) (by omega)
    have e : rmK A r y i (k + 1) = x := by
      show (ldT A (rmK A r y i k) (stI A r y (rmK A r y i k)).toNatClampNeg).toNatClampNeg = x
      rw [hs, nI_clamp (by omega), hl, nI_clamp (by omega)]
    rw [e]
    exact ⟨hx, by omega⟩
def st26 (A : ST) (f : Nat → Int32) : ST := fun j => if j = 26 then f else A j
theorem st26_s {A : ST} {f : Nat → Int32} : st26 A f 26 = f := if_pos rfl
theorem st26_n {A : ST} {f : Nat → Int32} {j : Nat} (h : j ≠ 26) : st26 A f j = A j := if_neg h
theorem st26_self (A : ST) : st26 A (A 26) = A := by
  funext j
  by_cases h : j = 26
  · subst h; exact st26_s
  · exact st26_n h
theorem st26_up {A : ST} {f : Nat → Int32} {i : Nat} {x : Int32} : up2 (st26 A f) 26 i x = st26 A (upd f i x) := by
  funext j
  by_cases h : j = 26
  · subst h; rw [up2_s, st26_s, st26_s]
  · rw [up2_n h, st26_n h, st26_n h]
theorem st26_up2 {A : ST} {f : Nat → Int32} {j i : Nat} {x : Int32} (h : j ≠ 26) : up2 (st26 A f) j i x = st26 (up2 A j i x) f := by
  funext q
  by_cases e : q = j
  · subst e; rw [up2_s, st26_n h, st26_n h, up2_s]
  · rw [up2_n e]
    by_cases e2 : q = 26
    · subst e2; rw [st26_s, st26_s]
    · rw [st26_n e2, st26_n e2, up2_n e]
theorem Inv_26 {r d t b : Nat} {A : ST} {f : Nat → Int32} (h : Inv r d t b A) : Inv r d t b (st26 A f) := h
theorem ldT_26 {A : ST} {f : Nat → Int32} : ldT (st26 A f) = ldT A := rfl
theorem wyT_26 {A : ST} {f : Nat → Int32} : wyT (st26 A f) = wyT A := rfl
theorem tlA_26 {A : ST} {f : Nat → Int32} {w : Nat} {x : Int32} : tlA (st26 A f) w x = st26 (tlA A w x) f := by
  unfold tlA
  have e : shA (st26 A f) w 0 = st26 (shA A w 0) f := by
    funext j p
    by_cases h : j = 26
    · subst h; rw [st26_s]; unfold shA; rw [if_neg (by omega), st26_s]
    · rw [st26_n h]; unfold shA; rw [st26_n h, st26_n (show (20 : Nat) ≠ 26 by decide)]
  rw [e, st26_up2 (by decide), st26_up2 (by decide), st26_n (show (21 : Nat) ≠ 26 by decide)]
theorem cI_fun {α β : Type} {p : Prop} {a b : α} (F : α → β) : F (cI p a b) = cI p (F a) (F b) := by
  by_cases h : p
  · rw [cI_t h, cI_t h]
  · rw [cI_f h, cI_f h]
theorem tiN_26 {A : ST} {f : Nat → Int32} {room : Int32} {G : Nat → Prop} {x : Int32} (n : Nat) : tiN (st26 A f) room G x n = st26 (tiN A room G x n) f := by
  induction n with
  | zero => rfl
  | succ n ih =>
    show cI _ (tlA (tiN (st26 A f) room G x n) n x) (tiN (st26 A f) room G x n) = st26 (cI _ (tlA (tiN A room G x n) n x) (tiN A room G x n)) f
    rw [ih, tlA_26, cI_fun (fun z => st26 z f)]
    rfl
theorem tdN_26 {A : ST} {f : Nat → Int32} {b : Nat} {G : Nat → Prop} {room to : Int32} {j : Nat} (n : Nat) : tdN (st26 A f) b G room to j n = st26 (tdN A b G room to j n) f := by
  induction n with
  | zero => rfl
  | succ n ih =>
    by_cases h : G n
    · rw [tdN_t h, tdN_t h, ih, tiN_26, tiN_26]
    · rw [tdN_f h, tdN_f h, ih]
theorem cmN_26 {A : ST} {f : Nat → Int32} {G : Nat → Prop} {room to : Int32} (n : Nat) : cmN (st26 A f) G room to n = st26 (cmN A G room to n) f := by
  induction n with
  | zero => rfl
  | succ n ih =>
    by_cases h : G n
    · rw [cmN_t h, cmN_t h, ih, st26_up2 (by decide), st26_up2 (by decide)]
    · rw [cmN_f h, cmN_f h, ih]
theorem tnA_26 {A : ST} {f : Nat → Int32} {i j : Nat} : tnA (st26 A f) i j = st26 (tnA A i j) f := by
  unfold tnA
  by_cases h : A 2 (8 * i + j) < nI 300
  · rw [cI_t h, cI_t (show st26 A f 2 (8 * i + j) < nI 300 from h)]
  · rw [cI_f h, cI_f (show ¬ st26 A f 2 (8 * i + j) < nI 300 from h), st26_up2 (by decide)]
    rfl
theorem mvA_26 {A : ST} {f : Nat → Int32} {b : Nat} {G : Nat → Prop} {th : Int32} {i j : Nat} : mvA (st26 A f) b G th i j = st26 (mvA A b G th i j) f := by
  unfold mvA
  rw [ldT_26, tnA_26, tdN_26, cmN_26, st26_up2 (by decide), cI_fun (fun z => st26 z f)]
theorem gbS_26 {A : ST} {f : Nat → Int32} {b w j : Nat} : gbS (st26 A f) b w j = ((gbS A b w j).1, st26 (gbS A b w j).2 f) := by
  unfold gbS
  rw [mvA_26, wyT_26, ldT_26]
  rw [cI_fun (fun z : Int32 × ST => (z.1, st26 z.2 f)) |>.symm.symm]
  by_cases h : A 18 w ≠ -1 ∧ A 11 (A 18 w).toNatClampNeg = 3
  · rw [cI_t h, cI_t (show st26 A f 18 w ≠ -1 ∧ st26 A f 11 (st26 A f 18 w).toNatClampNeg = 3 from h)]
    rfl
  · rw [cI_f h, cI_f (show ¬ (st26 A f 18 w ≠ -1 ∧ st26 A f 11 (st26 A f 18 w).toNatClampNeg = 3) from h)]
    by_cases h2 : wyT A (A 17 w).toNatClampNeg j (cI (A 18 w = -1) 0 (A 12 (A 18 w).toNatClampNeg)) = 0
    · rw [cI_t h2, cI_t (show wyT A (st26 A f 17 w).toNatClampNeg j (cI (st26 A f 18 w = -1) 0 (st26 A f 12 (st26 A f 18 w).toNatClampNeg)) = 0 from h2)]
      rfl
    · rw [cI_f h2, cI_f (show ¬ wyT A (st26 A f 17 w).toNatClampNeg j (cI (st26 A f 18 w = -1) 0 (st26 A f 12 (st26 A f 18 w).toNatClampNeg)) = 0 from h2)]
      rfl
noncomputable def S_follow (r d t b : Nat) (A : ST) (x y : Int32) : RT := ok1 x b (fun w => ok1 y b (fun v => cI (A 17 w = A 17 v) (A 17 w, r, d, t, b, A) (cI (dst A r (A 17 w).toNatClampNeg (A 17 v).toNatClampNeg = 99) (-31, r, d, t, b, A) ((gbS A b w (stI A r (A 17 v).toNatClampNeg (A 17 w).toNatClampNeg).toNatClampNeg).1, r, d, t, b, (gbS A b w (stI A r (A 17 v).toNatClampNeg (A 17 w).toNatClampNeg).toNatClampNeg).2))) (-1, r, d, t, b, A)) (-1, r, d, t, b, A)
noncomputable def F_route (r : Nat) (A : ST) (x y z : Int32) : Int32 := ok1 x r (fun i => ok1 y r (fun e => cI (-1 ≤ z) (cI (dst A r i e = 99 ∨ nI (dst A r i e) ≤ z) (-1) (cI (z = -1) (nI (dst A r i e)) (stI A r e (rmK A r e i z.toNatClampNeg)))) (-1)) (-1)) (-1)
abbrev MQf (L : List AE) (p : RT) : Option AV → List AE → Prop := fun v L' => v = some (aI p.1) ∧ (∃ f, MR p.2.1 p.2.2.1 p.2.2.2.1 p.2.2.2.2.1 (st26 p.2.2.2.2.2 f) L') ∧ FrM L L'
