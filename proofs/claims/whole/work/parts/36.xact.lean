theorem cnt_add {P P' : Nat → Prop} {t i : Nat} (hi : i < t) (ho : ∀ k, k ≠ i → (P' k ↔ P k)) (h1 : ¬ P i) (h2 : P' i) : cnt P' t = cnt P t + 1 := by
  induction t with
  | zero => omega
  | succ t ih =>
    show cnt P' t + cI (P' t) 1 0 = cnt P t + cI (P t) 1 0 + 1
    by_cases e : t = i
    · subst e
      have h3 : ∀ n, n ≤ t → cnt P' n = cnt P n := by
        intro n
        induction n with
        | zero => intro _; rfl
        | succ n ih2 =>
          intro hn
          show cnt P' n + cI (P' n) 1 0 = cnt P n + cI (P n) 1 0
          rw [ih2 (by omega), cI_iff (ho n (by omega))]
      rw [h3 t (by omega), cI_t h2, cI_f h1]
    · rw [ih (by omega), cI_iff (ho t e)]
      omega
theorem cnt_congr {P P' : Nat → Prop} {t : Nat} (ho : ∀ k, k < t → (P' k ↔ P k)) : cnt P' t = cnt P t := by
  induction t with
  | zero => rfl
  | succ t ih =>
    show cnt P' t + cI (P' t) 1 0 = cnt P t + cI (P t) 1 0
    rw [ih (fun k hk => ho k (by omega)), cI_iff (ho t (by omega))]
theorem hol_o {A : ST} {i v k : Nat} {x : Int32} (h : k ≠ i) : hol (up2 A 13 i x) v k ↔ hol A v k := by
  unfold hol
  rw [up2_s, pk_un h]
  exact Iff.rfl
noncomputable def opS (A : ST) (j : Nat) : Int32 × ST := cI (A 8 j = 1) (-11, A) (cI (A 9 j = 1) (-12, A) (1, up2 A 8 j 1))
noncomputable def clS (A : ST) (j : Nat) : Int32 × ST := cI (A 8 j = 1) (1, up2 A 8 j 0) (-11, A)
noncomputable def tkS (A : ST) (d w j : Nat) (z : Int32) : Int32 × ST := cI (A 9 j = z) (-11, A) (cI (A 7 j = -1) (-13, A) (cI (keyH A w j) (1, up2 A 9 j z) (cI (∃ e, e < d ∧ keyH A w e) (-15, A) (-14, A))))
noncomputable def tkT (A : ST) (t w i : Nat) : Int32 × ST := cI (hol A w i) (-11, A) (cI (A 11 i = 0) (cI (cnt (hol A w) t = 4) (-17, A) (1, up2 A 13 i (nI (100 + w)))) (-16, A))
noncomputable def drT (A : ST) (w i : Nat) : Int32 × ST := cI (hol A w i) (1, up2 A 13 i (A 17 w)) (-18, A)
noncomputable def cbT (A : ST) (w i : Nat) : Int32 × ST := cI (A 11 i = 2 ∨ A 11 i = 3) (cI (A 18 w = -1) (cI (A 15 i = 1) (-21, A) (1, up2 A 18 w (nI i))) (-20, A)) (-19, A)
noncomputable def shT (A : ST) (i : Nat) (z : Int32) : Int32 × ST := cI (A 11 i = 3) (cI (A 15 i = z) (-11, A) (1, up2 A 15 i z)) (-22, A)
abbrev pk6 (r d t b : Nat) (p : Int32 × ST) : RT := (p.1, r, d, t, b, p.2)
theorem act_none {r d t b : Nat} {A : ST} {w c j : Nat} (h : ¬ hasD A w j) : cI (atT A d w c j = 0) ((1, r, d, t, b, acA A c j) : RT) (-(atT A d w c j), r, d, t, b, A) = (-10, r, d, t, b, A) := by
  have e : atT A d w c j = 10 := cI_f h
  rw [e, cI_f (by decide)]
theorem act_0 {r d t b : Nat} {A : ST} (hI : Inv r d t b A) {w j : Nat} (hj : j < d) (h : hasD A w j) : cI (atT A d w 0 j = 0) ((1, r, d, t, b, acA A 0 j) : RT) (-(atT A d w 0 j), r, d, t, b, A) = pk6 r d t b (opS A j) := by
  have e : atT A d w 0 j = cI (A 8 j = 1) 11 (cI (A 9 j = 1) 12 0) := by
    unfold atT
    rw [cI_t h, cI_t (by decide), b2_t rfl, cI_iff (show ((0 : Nat) = 0 ∧ A 9 j = 1) ↔ A 9 j = 1 from ⟨fun q => q.2, fun q => ⟨rfl, q⟩⟩)]
  have e2 : acA A 0 j = up2 A 8 j 1 := by unfold acA; rw [cI_t (by decide), b2_t rfl]
  rw [e, e2]
  unfold opS
  by_cases h1 : A 8 j = 1
  · rw [cI_t h1, cI_t h1, cI_f (by decide)]
  · rw [cI_f h1, cI_f h1]
    by_cases h2 : A 9 j = 1
    · rw [cI_t h2, cI_t h2, cI_f (by decide)]
    · rw [cI_f h2, cI_f h2, cI_t rfl]
theorem act_1 {r d t b : Nat} {A : ST} (hI : Inv r d t b A) {w j : Nat} (hj : j < d) (h : hasD A w j) : cI (atT A d w 1 j = 0) ((1, r, d, t, b, acA A 1 j) : RT) (-(atT A d w 1 j), r, d, t, b, A) = pk6 r d t b (clS A j) := by
  have e : atT A d w 1 j = cI (A 8 j = 0) 11 0 := by
    unfold atT
    rw [cI_t h, cI_t (by decide), b2_f (by decide), cI_f (show ¬ ((1 : Nat) = 0 ∧ A 9 j = 1) from fun q => absurd q.1 (by decide))]
  have e2 : acA A 1 j = up2 A 8 j 0 := by unfold acA; rw [cI_t (by decide), b2_f (by decide)]
  rw [e, e2]
  unfold clS
  rcases (hI.cd hj).2.2.2.2.1 with h1 | h1
  · rw [cI_t h1, cI_f (show ¬ A 8 j = 1 from fun q => by rw [h1] at q; exact absurd q (by decide)), cI_f (by decide)]
  · rw [cI_t h1, cI_f (show ¬ A 8 j = 0 from fun q => by rw [h1] at q; exact absurd q (by decide)), cI_t rfl]
theorem act_2 {r d t b : Nat} {A : ST} (hI : Inv r d t b A) {w c j : Nat} (hj : j < d) (hc : c = 2 ∨ c = 3) (h : hasD A w j) : cI (atT A d w c j = 0) ((1, r, d, t, b, acA A c j) : RT) (-(atT A d w c j), r, d, t, b, A) = pk6 r d t b (tkS A d w j (b2 (c = 2))) := by
  have hc2 : ¬ c < 2 := by omega
  have e : atT A d w c j = cI (A 9 j = b2 (c = 2)) 11 (cI (A 7 j = -1) 13 (cI (keyH A w j) 0 (cI (∃ e, e < d ∧ (fun e => e ≠ j ∧ keyH A w e) e) 15 14))) := by
    unfold atT
    rw [cI_t h, cI_f hc2]
  have e2 : acA A c j = up2 A 9 j (b2 (c = 2)) := by unfold acA; rw [cI_f hc2]
  rw [e, e2]
  unfold tkS
  by_cases h1 : A 9 j = b2 (c = 2)
  · rw [cI_t h1, cI_t h1, cI_f (by decide)]
  · rw [cI_f h1, cI_f h1]
    by_cases h2 : A 7 j = -1
    · rw [cI_t h2, cI_t h2, cI_f (by decide)]
    · rw [cI_f h2, cI_f h2]
      by_cases h3 : keyH A w j
      · rw [cI_t h3, cI_t h3, cI_t rfl]
      · rw [cI_f h3, cI_f h3]
        by_cases h4 : ∃ e, e < d ∧ keyH A w e
        · have h5 : ∃ e, e < d ∧ (fun e => e ≠ j ∧ keyH A w e) e := by
            obtain ⟨e, he, q⟩ := h4
            exact ⟨e, he, fun z => h3 (z ▸ q), q⟩
          rw [cI_t h4, cI_t h5, cI_f (by decide)]
        · have h5 : ¬ ∃ e, e < d ∧ (fun e => e ≠ j ∧ keyH A w e) e := fun ⟨e, he, q⟩ => h4 ⟨e, he, q.2⟩
          rw [cI_f h4, cI_f h5, cI_f (by decide)]
section HD
variable {r d t b : Nat} {A : ST} {w i : Nat}
theorem hd_1 : cI (hdT A t w 1 i = 0) ((1, r, d, t, b, hdA A w 1 i) : RT) (-(hdT A t w 1 i), r, d, t, b, A) = pk6 r d t b (drT A w i) := by
  have e : hdT A t w 1 i = cI (hol A w i) 0 18 := cI_t rfl
  have e2 : hdA A w 1 i = up2 A 13 i (A 17 w) := by unfold hdA; rw [cI_f (by decide), cI_t rfl]
  rw [e, e2]
  unfold drT
  by_cases h : hol A w i
  · rw [cI_t h, cI_t h, cI_t rfl]
  · rw [cI_f h, cI_f h, cI_f (by decide)]
theorem hd_none {c : Nat} (hc : c ≠ 1) (h : ¬ hasT A w i) : cI (hdT A t w c i = 0) ((1, r, d, t, b, hdA A w c i) : RT) (-(hdT A t w c i), r, d, t, b, A) = (-10, r, d, t, b, A) := by
  have e : hdT A t w c i = 10 := by unfold hdT; rw [cI_f hc, cI_f h]
  rw [e, cI_f (by decide)]
theorem hd_0 (h : hasT A w i) : cI (hdT A t w 0 i = 0) ((1, r, d, t, b, hdA A w 0 i) : RT) (-(hdT A t w 0 i), r, d, t, b, A) = pk6 r d t b (tkT A t w i) := by
  have e : hdT A t w 0 i = cI (hol A w i) 11 (cI (A 11 i = 0) (cI (cnt (hol A w) t = 4) 17 0) 16) := by unfold hdT; rw [cI_f (by decide), cI_t h, cI_t rfl]
  have e2 : hdA A w 0 i = up2 A 13 i (nI (100 + w)) := cI_t rfl
  rw [e, e2]
  unfold tkT
  by_cases h1 : hol A w i
  · rw [cI_t h1, cI_t h1, cI_f (by decide)]
  · rw [cI_f h1, cI_f h1]
    by_cases h2 : A 11 i = 0
    · rw [cI_t h2, cI_t h2]
      by_cases h3 : cnt (hol A w) t = 4
      · rw [cI_t h3, cI_t h3, cI_f (by decide)]
      · rw [cI_f h3, cI_f h3, cI_t rfl]
    · rw [cI_f h2, cI_f h2, cI_f (by decide)]
theorem hd_2 (h : hasT A w i) : cI (hdT A t w 2 i = 0) ((1, r, d, t, b, hdA A w 2 i) : RT) (-(hdT A t w 2 i), r, d, t, b, A) = pk6 r d t b (cbT A w i) := by
  have e : hdT A t w 2 i = cI (A 11 i = 2 ∨ A 11 i = 3) (cI (A 18 w = -1) (cI (A 15 i = 1) 21 0) 20) 19 := by unfold hdT; rw [cI_f (by decide), cI_t h, cI_f (by decide), cI_t rfl]
  have e2 : hdA A w 2 i = up2 A 18 w (nI i) := by unfold hdA; rw [cI_f (by decide), cI_f (by decide), cI_t rfl]
  rw [e, e2]
  unfold cbT
  by_cases h1 : A 11 i = 2 ∨ A 11 i = 3
  · rw [cI_t h1, cI_t h1]
    by_cases h2 : A 18 w = -1
    · rw [cI_t h2, cI_t h2]
      by_cases h3 : A 15 i = 1
      · rw [cI_t h3, cI_t h3, cI_f (by decide)]
      · rw [cI_f h3, cI_f h3, cI_t rfl]
    · rw [cI_f h2, cI_f h2, cI_f (by decide)]
  · rw [cI_f h1, cI_f h1, cI_f (by decide)]
theorem hd_3 {c : Nat} (hc : c = 3 ∨ c = 4) (h : hasT A w i) : cI (hdT A t w c i = 0) ((1, r, d, t, b, hdA A w c i) : RT) (-(hdT A t w c i), r, d, t, b, A) = pk6 r d t b (shT A i (b2 (c = 4))) := by
  have e : hdT A t w c i = cI (A 11 i = 3) (cI (A 15 i = b2 (c = 4)) 11 0) 22 := by unfold hdT; rw [cI_f (by omega), cI_t h, cI_f (by omega), cI_f (by omega)]
  have e2 : hdA A w c i = up2 A 15 i (b2 (c = 4)) := by unfold hdA; rw [cI_f (by omega), cI_f (by omega), cI_f (by omega)]
  rw [e, e2]
  unfold shT
  by_cases h1 : A 11 i = 3
  · rw [cI_t h1, cI_t h1]
    by_cases h2 : A 15 i = b2 (c = 4)
    · rw [cI_t h2, cI_t h2, cI_f (by decide)]
    · rw [cI_f h2, cI_f h2, cI_t rfl]
  · rw [cI_f h1, cI_f h1, cI_f (by decide)]
end HD
theorem Rl_take {t b : Nat} {A : ST} {gr hc : Nat → Int32} {w i : Nat} (hR : Rl t b A gr hc) (hw : w < b) (hb : b ≤ 6) (hi : i < t) (hf : A 14 i = -1) (hn : ∀ v, v < b → ¬ hol A v i) (h4 : cnt (hol A w) t ≠ 4) : Rl t b (up2 A 13 i (nI (100 + w))) gr (upd hc w (hc w + 1)) := by
  have hself : hol (up2 A 13 i (nI (100 + w))) w i := ⟨hf, by rw [up2_s]; exact pk_us⟩
  have hw1 : cnt (hol (up2 A 13 i (nI (100 + w))) w) t = cnt (hol A w) t + 1 := cnt_add hi (fun k hk => hol_o hk) (hn w hw) hself
  have ho : ∀ v, v < b → v ≠ w → cnt (hol (up2 A 13 i (nI (100 + w))) v) t = cnt (hol A v) t := fun v hv hvw => cnt_congr (fun k _ => by
    by_cases e : k = i
    · subst e
      refine ⟨fun q => ?_, fun q => absurd q (hn v hv)⟩
      have q2 := q.2
      rw [up2_s, pk_us] at q2
      have := nI_inj (by omega) (by omega) q2
      omega
    · exact hol_o e)
  refine ⟨fun k hk q => ?_, fun v hv => ?_, fun v hv => ?_⟩
  · by_cases e : k = i
    · subst e
      rw [u_ss] at q
      exact absurd ((nI_leI (a := 100) (by omega) (by omega)).mpr (by omega)) q
    · rw [up2_s, pk_un e] at q ⊢
      exact hR.1 k hk q
  · by_cases e : v = w
    · subst e; rw [pk_us, hw1, hR.2.1 v hv, nI_1]
    · rw [pk_un e, ho v hv e]; exact hR.2.1 v hv
  · by_cases e : v = w
    · subst e; rw [hw1]; have := hR.2.2 v hv; omega
    · rw [ho v hv e]; exact hR.2.2 v hv
theorem Rl_drop {t b : Nat} {A : ST} {gr hc : Nat → Int32} {w i a : Nat} (hR : Rl t b A gr hc) (hw : w < b) (hb : b ≤ 6) (hi : i < t) (ht : t ≤ 30) (ha : A 17 w = nI a) (ha2 : a < 20) (hh : hol A w i) : Rl t b (up2 A 13 i (A 17 w)) (upd gr i (A 17 w)) (upd hc w (hc w - 1)) := by
  have hself : ∀ v, v < b → ¬ hol (up2 A 13 i (A 17 w)) v i := fun v hv q => by
    have q2 := q.2
    rw [up2_s, pk_us, ha] at q2
    have := nI_inj (by omega) (by omega) q2
    omega
  have hw1 : cnt (hol A w) t = cnt (hol (up2 A 13 i (A 17 w)) w) t + 1 := cnt_add hi (fun k hk => (hol_o hk).symm) (hself w hw) hh
  have ho : ∀ v, v < b → v ≠ w → cnt (hol (up2 A 13 i (A 17 w)) v) t = cnt (hol A v) t := fun v hv hvw => cnt_congr (fun k _ => by
    by_cases e : k = i
    · subst e
      refine ⟨fun q => absurd q (hself v hv), fun q => ?_⟩
      have := nI_inj (by omega) (by omega) (hh.2.symm.trans q.2)
      omega
    · exact hol_o e)
  refine ⟨fun k hk q => ?_, fun v hv => ?_, fun v hv => ?_⟩
  · by_cases e : k = i
    · subst e
      rw [u_ss, pk_us]
    · rw [up2_s, pk_un e] at q ⊢
      rw [pk_un e]
      exact hR.1 k hk q
  · by_cases e : v = w
    · subst e; rw [pk_us, hR.2.1 v hv, hw1, nI_pred]
    · rw [pk_un e, ho v hv e]; exact hR.2.1 v hv
  · by_cases e : v = w
    · subst e; have := hR.2.2 v hv; omega
    · rw [ho v hv e]; exact hR.2.2 v hv
