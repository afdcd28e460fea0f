theorem hear_eq {A : ST} {w : Nat} {x : Int32} : upd (va_cpy (newF A w) (newF A w) 0 1 7) 0 x = newF (up2 (shA A w 0) 20 (8 * w) x) w := by
  funext j
  unfold upd va_cpy newF
  by_cases h0 : j = 0
  · subst h0
    rw [if_pos rfl, if_pos (by omega), Nat.add_zero, u_ss]
  · rw [if_neg h0]
    by_cases h : j < 8
    · rw [if_pos (by omega), if_pos (by omega), if_pos h, up2_s, pk_un (by omega)]
      unfold shA
      rw [if_pos (by omega)]
      congr 1
      omega
    · rw [if_neg (by omega), if_neg h, if_neg h]
theorem hear_o {A : ST} {w : Nat} {x : Int32} {j : Nat} (h : j ≠ 20) : up2 (shA A w 0) 20 (8 * w) x j = A j := by
  rw [up2_n h]
  funext p
  unfold shA
  rw [if_neg (by omega)]
theorem hear_k {A : ST} {w : Nat} {x : Int32} {k j : Nat} (hk : k ≠ w) (hj : j < 8) : up2 (shA A w 0) 20 (8 * w) x 20 (8 * k + j) = A 20 (8 * k + j) := by
  rw [up2_s, pk_un (by omega)]
  unfold shA
  rw [if_neg (by omega)]
theorem tl_v {k : Nat} (hk : k ≤ 8) : nI k + cI (nI k < 8) 1 0 = if k < 8 then nI (k + 1) else 8 := by
  by_cases h : k < 8
  · rw [cI_t (show nI k < 8 from (nI_ltI (b := 8) (by omega) (by omega)).mpr h), nI_1, if_pos h]
  · rw [show k = 8 by omega, cI_f (by decide), if_neg (by decide)]
    decide
def N21 (b : Nat) (A : ST) : Prop := ∀ v, v < b → ∃ k, k ≤ 8 ∧ A 21 v = nI k
def W18 (t b : Nat) (A : ST) : Prop := ∀ v, v < b → A 18 v = -1 ∨ ∃ k, k < t ∧ A 18 v = nI k
theorem N21_tl {b : Nat} {A : ST} {w : Nat} {x : Int32} (hw : w < b) (h : N21 b A) : N21 b (tlA A w x) := by
  intro v hv
  unfold tlA
  by_cases e : v = w
  · subst e
    rw [u_ss]
    obtain ⟨k, hk, e2⟩ := h v hv
    rw [e2, tl_v hk]
    by_cases h8 : k < 8
    · exact ⟨k + 1, by omega, if_pos h8⟩
    · exact ⟨8, by omega, if_neg h8⟩
  · rw [up2_k e, hear_o (by decide)]
    exact h v hv
theorem N21_ti {b : Nat} {A : ST} {room x : Int32} {G : Nat → Prop} (h : N21 b A) : ∀ n, n ≤ b → N21 b (tiN A room G x n) := by
  intro n
  induction n with
  | zero => exact fun _ => h
  | succ n ih =>
    intro hn
    show N21 b (cI _ _ _)
    exact cI_ind (P := N21 b) (N21_tl (by omega) (ih (by omega))) (ih (by omega))
theorem N21_td {b : Nat} {A : ST} {room to : Int32} {G : Nat → Prop} {j : Nat} (h : N21 b A) : ∀ n, n ≤ b → N21 b (tdN A b G room to j n) := by
  intro n
  induction n with
  | zero => exact fun _ => h
  | succ n ih =>
    intro hn
    show N21 b (cI _ _ _)
    exact cI_ind (P := N21 b) (N21_ti (N21_ti (ih (by omega)) b (Nat.le_refl b)) b (Nat.le_refl b)) (ih (by omega))
/-- who goes with w, by the thing o -/
def GW (t b : Nat) (A : ST) (ta : Nat → Nat) (w : Nat) (o : Option Nat) (G : Nat → Prop) : Prop := (o = none ∧ ∀ q, q < b → (G q ↔ q = w)) ∨ ∃ k, k < t ∧ o = some (ta k) ∧ ∀ q, q < b → (G q ↔ (q = w ∨ A 18 q = nI k))
theorem GW.kept {t b : Nat} {A A' : ST} {ta : Nat → Nat} {w : Nat} {o : Option Nat} {G : Nat → Prop} (h : GW t b A ta w o G) (e : A' 18 = A 18) : GW t b A' ta w o G := by
  unfold GW
  rw [e]
  exact h
theorem W18.kept {t b : Nat} {A A' : ST} (h : W18 t b A) (e : A' 18 = A 18) : W18 t b A' := by
  unfold W18
  rw [e]
  exact h
theorem cmN_o (A : ST) (G : Nat → Prop) (room to : Int32) (n : Nat) {j : Nat} (h0 : j ≠ 17) (h1 : j ≠ 19) : cmN A G room to n j = A j := by
  induction n with
  | zero => rfl
  | succ n ih =>
    show (cI _ _ _ : ST) j = _
    by_cases h : G n
    · rw [cI_t h, up2_n h0, up2_n h1, ih]
    · rw [cI_f h, ih]
theorem cmN_k (A : ST) (G : Nat → Prop) (room to : Int32) (n : Nat) {j k : Nat} (hk : n ≤ k) : cmN A G room to n j k = A j k := by
  induction n with
  | zero => rfl
  | succ n ih =>
    show (cI _ _ _ : ST) j k = _
    by_cases h : G n
    · rw [cI_t h, up2_k (by omega), up2_k (by omega), ih (by omega)]
    · rw [cI_f h, ih (by omega)]
/-- what stands in the way -/
noncomputable def obT (A : ST) (i j : Nat) : Int32 :=
  cI (A 2 (8 * i + j) = -1) 25 (cI (200 ≤ A 2 (8 * i + j) ∧ A 2 (8 * i + j) ≤ 249) (50 + A 2 (8 * i + j) - 200) (cI ((100 ≤ A 2 (8 * i + j) ∧ A 2 (8 * i + j) ≤ 199) ∧ ¬ A 8 (A 2 (8 * i + j) - 100).toNatClampNeg = 1) (cI (A 9 (A 2 (8 * i + j) - 100).toNatClampNeg = 1) 27 26) (cI (ldT A i j < 0) 28 0)))
theorem nle {a b : Nat} (ha : a < 2 ^ 31) (hb : b < 2 ^ 31) (h : ¬ a ≤ b) : ¬ nI a ≤ nI b := fun q => h ((nI_leI ha hb).mp q)
theorem yle {a b : Nat} (ha : a < 2 ^ 31) (hb : b < 2 ^ 31) (h : a ≤ b) : nI a ≤ nI b := (nI_leI ha hb).mpr h
theorem ob_neg {A : ST} {i j : Nat} (h : A 2 (8 * i + j) = -1) : obT A i j = 25 := cI_t h
theorem ob_blk {A : ST} {i j k : Nat} (h : A 2 (8 * i + j) = nI (200 + k)) (hk : k < 50) : obT A i j = 50 + nI (200 + k) - 200 := by
  unfold obT
  rw [h, cI_f (nI_neg (by omega)), cI_t ⟨yle (a := 200) (by omega) (by omega) (by omega), yle (b := 249) (by omega) (by omega) (by omega)⟩]
theorem ob_room {A : ST} {i j k : Nat} (h : A 2 (8 * i + j) = nI k) (hk : k < 100) : obT A i j = 0 := by
  have e := ldT_room h hk
  unfold obT
  rw [e, h, cI_f (nI_neg (by omega)), cI_f (fun q => nle (a := 200) (by omega) (by omega) (by omega) q.1), cI_f (fun q => nle (a := 100) (by omega) (by omega) (by omega) q.1.1), cI_f (fun q => by have := (nI_ltI (b := 0) (by omega) (by omega)).mp q; omega)]
theorem ob_door {r d t b : Nat} {A : ST} (hI : Inv r d t b A) {i j k : Nat} (hi : i < r) (h : A 2 (8 * i + j) = nI (100 + k)) (hk : k < d) (hs : A 5 k = nI i ∨ A 6 k = nI i) : obT A i j = cI (A 8 k = 1) (cI (A 6 k = -1) 28 0) (cI (A 9 k = 1) 27 26) := by
  have hN := hI.cn
  have e := ldT_door h (by omega)
  unfold obT
  rw [e, h, cI_f (nI_neg (by omega)), cI_f (fun q => nle (a := 200) (by omega) (by omega) (by omega) q.1), show nI (100 + k) - 100 = nI k from nsub 100 k, nI_clamp (by omega)]
  by_cases h8 : A 8 k = 1
  · rw [cI_f (fun q => q.2 h8), cI_t h8, cI_t h8]
    obtain ⟨⟨a, ha, ea⟩, h6, -⟩ := hI.cd hk
    rcases h6 with h6 | ⟨c, hc, ec⟩
    · have h5 : A 5 k = nI i := hs.elim id (fun q => absurd (q.symm.trans h6) (nI_neg (by omega)))
      rw [cI_t h5, h6, cI_t (by decide), cI_t rfl]
    · have hn : ¬ A 6 k = -1 := by rw [ec]; exact nI_neg (by omega)
      rw [cI_f hn, cI_f (fun q => ?_)]
      by_cases h5 : A 5 k = nI i
      · rw [cI_t h5, ec] at q
        have := (nI_ltI (b := 0) (by omega) (by omega)).mp q; omega
      · rw [cI_f h5, ea] at q
        have := (nI_ltI (b := 0) (by omega) (by omega)).mp q; omega
  · rw [cI_t ⟨⟨yle (a := 100) (by omega) (by omega) (by omega), yle (b := 199) (by omega) (by omega) (by omega)⟩, h8⟩, cI_f h8]
theorem ob_rule {r d t b : Nat} {A : ST} (hI : Inv r d t b A) {i j k : Nat} (h : A 2 (8 * i + j) = nI (300 + k)) (hk : k < 5) : obT A i j = cI (A 23 k = 0) 28 0 := by
  have hN := hI.cn
  obtain ⟨m, q, hm, e1, e2, hq, hx⟩ := hI.cr hk
  have e := ldT_rule h hk e2 (by omega)
  unfold obT
  rw [e, h, cI_f (nI_neg (by omega)), cI_f (fun q => nle (b := 249) (by omega) (by omega) (by omega) q.2), cI_f (fun q => nle (b := 199) (by omega) (by omega) (by omega) q.1.2)]
  by_cases h0 : A 23 k = 0
  · rw [cI_t h0, cI_t h0, cI_t (by decide)]
  · rw [cI_f h0, cI_f h0, cI_f (fun z => ?_)]
    rcases hq with hq | ⟨rfl, -⟩
    · obtain ⟨x, hx1, hx2⟩ := hx q hq
      rw [hx2] at z
      have := (nI_ltI (b := 0) (by omega) (by omega)).mp z; omega
    · exact h0 e1
theorem wy_ob {r d t b : Nat} {A : ST} (hI : Inv r d t b A) {i j : Nat} (hi : i < r) (hj : j < 8) {s : Int32} : wyT A i j s = cI (obT A i j = 0) (cI (A 3 (8 * i + j) < s) 29 0) (obT A i j) := by
  have hN := hI.cn
  unfold wyT obT
  by_cases h1 : A 2 (8 * i + j) = -1
  · rw [cI_t h1, cI_t h1, cI_f (by decide)]
  · rw [cI_f h1, cI_f h1]
    by_cases h2 : 200 ≤ A 2 (8 * i + j) ∧ A 2 (8 * i + j) ≤ 249
    · rw [cI_t h2, cI_t h2, cI_f (fun q => ?_)]
      rcases hI.cw hi hj with hw | ⟨k, hk, hw⟩ | ⟨k, hk, hw, hs⟩ | ⟨k, hk, hw⟩ | ⟨k, hk, hw⟩
      · exact h1 hw
      · rw [hw] at h2; have := (nI_leI (a := 200) (by omega) (by omega)).mp h2.1; omega
      · rw [hw] at h2; have := (nI_leI (a := 200) (by omega) (by omega)).mp h2.1; omega
      · rw [hw, show (50 : Int32) = nI 50 from rfl, nI_add, show (200 : Int32) = nI 200 from rfl, pk_sub (by omega)] at q
        have := nI_inj (b := 0) (by omega) (by omega) q; omega
      · rw [hw] at h2; have := (nI_leI (b := 249) (by omega) (by omega)).mp h2.2; omega
    · rw [cI_f h2, cI_f h2]
      by_cases h3 : (100 ≤ A 2 (8 * i + j) ∧ A 2 (8 * i + j) ≤ 199) ∧ ¬ A 8 (A 2 (8 * i + j) - 100).toNatClampNeg = 1
      · rw [cI_t h3, cI_t h3]
        by_cases h4 : A 9 (A 2 (8 * i + j) - 100).toNatClampNeg = 1
        · rw [cI_t h4, cI_f (by decide)]
        · rw [cI_f h4, cI_f (by decide)]
      · rw [cI_f h3, cI_f h3]
        by_cases h4 : ldT A i j < 0
        · rw [cI_t h4, cI_t h4, cI_f (by decide)]
        · rw [cI_f h4, cI_f h4, cI_t rfl]
noncomputable def mvT (A : ST) (th to : Int32) : ST := cI (th = -1) A (up2 A 13 th.toNatClampNeg to)
theorem mv_T (A : ST) (b : Nat) (G : Nat → Prop) (th : Int32) (i j : Nat) : mvA A b G th i j = mvT (cmN (tdN (tnA A i j) b G (nI i) (ldT A i j) j b) G (nI i) (ldT A i j) b) th (ldT A i j) := rfl
theorem mvT_n {A : ST} {to : Int32} : mvT A (-1) to = A := cI_t rfl
theorem mvT_k {A : ST} {to : Int32} {k : Nat} (hk : k < 2 ^ 31) : mvT A (nI k) to = up2 A 13 k to := by
  unfold mvT
  rw [cI_f (nI_neg hk), nI_clamp hk]
theorem Rl_move {t b : Nat} {A A' : ST} {gr hc : Nat → Int32} {k p x : Nat} (hR : Rl t b A gr hc) (hb : b ≤ 6) (hp : p < 100) (hx : x < 100) (hpl : A 13 k = nI p) (h13 : A' 13 = upd (A 13) k (nI x)) (h14 : A' 14 = A 14) : Rl t b A' (upd gr k (nI x)) hc := by
  have e : ∀ v, v < b → cnt (hol A' v) t = cnt (hol A v) t := fun v hv => cnt_congr (fun q _ => by
    unfold hol
    rw [h13, h14]
    by_cases e : q = k
    · subst e
      rw [pk_us]
      refine ⟨fun z => ?_, fun z => ?_⟩
      · have := nI_inj (by omega) (by omega) z.2; omega
      · have := nI_inj (by omega) (by omega) (hpl.symm.trans z.2); omega
    · rw [pk_un e])
  refine ⟨fun q hq z => ?_, fun v hv => ?_, fun v hv => ?_⟩
  · by_cases e2 : q = k
    · subst e2; rw [h13, pk_us, pk_us]
    · rw [h13, pk_un e2] at z ⊢
      rw [pk_un e2]
      exact hR.1 q hq z
  · rw [e v hv]; exact hR.2.1 v hv
  · rw [e v hv]; exact hR.2.2 v hv
/-- what else holds at every time: who is within a thing is where it is; widths aren't below 0 -/
def Jv (r t b : Nat) (A : ST) : Prop := (∀ q k, q < b → k < t → A 18 q = nI k → A 13 k = A 17 q) ∧ ∀ i j, i < r → j < 8 → ¬ A 3 (8 * i + j) < 0
noncomputable def trS (A : ST) (b : Nat) (G : Nat → Prop) (th s : Int32) (i j : Nat) : Int32 × ST := cI (wyT A i j s = 0) (ldT A i j, mvA A b G th i j) (-(wyT A i j s), A)
theorem gb_3 {A : ST} {b w j k : Nat} (h : A 18 w = nI k) (hk : k < 2 ^ 31) (h3 : A 11 k = 3) : gbS A b w j = (cI (A 15 k = 1) (-21) (-24), A) := by
  unfold gbS
  rw [h, nI_clamp hk, cI_t ⟨nI_neg hk, h3⟩]
theorem gb_n {A : ST} {b w j i : Nat} (h : A 18 w = -1) (h17 : A 17 w = nI i) (hi : i < 2 ^ 31) : gbS A b w j = trS A b (goG A w) (-1) 0 i j := by
  unfold gbS trS
  rw [cI_f (fun q => q.1 h), h17, nI_clamp hi, cI_t h, h]
theorem gb_k {A : ST} {b w j i k : Nat} (h : A 18 w = nI k) (hk : k < 2 ^ 31) (h3 : ¬ A 11 k = 3) (h17 : A 17 w = nI i) (hi : i < 2 ^ 31) : gbS A b w j = trS A b (goG A w) (nI k) (A 12 k) i j := by
  unfold gbS trS
  rw [h, nI_clamp hk, cI_f (fun q => h3 q.2), h17, nI_clamp hi, cI_f (nI_neg hk)]
theorem pu_k {A : ST} {b w j i k : Nat} (h17 : A 17 w = nI i) (hi : i < 2 ^ 31) : puS A b w k j = trS A b (fun q => A 18 q = nI k ∨ q = w) (nI k) (A 12 k) i j := by
  unfold puS trS
  rw [h17, nI_clamp hi]
theorem fnd_ex {P : Nat → Prop} (n i : Nat) : fnd P (-1) n i = -1 ∨ ∃ j, j < i + n ∧ fnd P (-1) n i = nI j ∧ P j := by
  induction n generalizing i with
  | zero => exact Or.inl rfl
  | succ n ih =>
    by_cases h : P i
    · exact Or.inr ⟨i, by omega, fnd_t h, h⟩
    · rw [fnd_f h]
      rcases ih (i + 1) with e | ⟨j, hj, e⟩
      · exact Or.inl e
      · exact Or.inr ⟨j, by omega, e⟩
theorem bkD_ex (A : ST) (w : Nat) : bkD A w = -1 ∨ ∃ j, j < 8 ∧ bkD A w = nI j := by
  unfold bkD
  by_cases h : A 19 w = -1
  · rw [cI_t h]; exact Or.inl rfl
  · rw [cI_f h]
    rcases fnd_ex (P := fun j => ldT A (A 17 w).toNatClampNeg j = A 19 w) 8 0 with e | ⟨j, hj, e, -⟩
    · exact Or.inl e
    · exact Or.inr ⟨j, by omega, e⟩
