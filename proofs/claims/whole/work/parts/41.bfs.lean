/-! the search: its queue, who was found by whom -/
def lx (a j a' j' : Nat) : Prop := a < a' ∨ (a = a' ∧ j < j')
def BI (A : ST) (r i m h c : Nat) (Q P J : Nat → Nat) : Prop := 0 < m ∧ Q 0 = i ∧ (∀ k, k < m → Q k < r) ∧ (∀ k k', k < m → k' < m → Q k = Q k' → k = k') ∧ (∀ k, 0 < k → k < m → P k < k ∧ J k < 8 ∧ ldT A (Q (P k)) (J k) = nI (Q k) ∧ lx (P k) (J k) h c) ∧ (∀ k k', 0 < k → k < k' → k' < m → lx (P k) (J k) (P k') (J k')) ∧ ∀ a j y, a < m → j < 8 → lx a j h c → y < r → ldT A (Q a) j = nI y → ∃ k, k < m ∧ Q k = y ∧ (k = 0 ∨ P k < a ∨ (P k = a ∧ J k ≤ j))
def BH (m : Nat) (Q P J D : Nat → Nat) (q s p l : Nat → Int32) : Prop := (∀ k, k < m → q k = nI (Q k) ∧ s (Q k) = nI (D k)) ∧ (∀ k, 0 < k → k < m → p (Q k) = nI (Q (P k)) ∧ l (Q k) = nI (J k) ∧ D k = D (P k) + 1) ∧ D 0 = 0 ∧ ∀ x, x < 20 → (∀ k, k < m → Q k ≠ x) → s x = -1
theorem BI_0 {A : ST} {r i : Nat} (hi : i < r) : BI A r i 1 0 0 (fun _ => i) (fun _ => 0) (fun _ => 0) := by
  refine ⟨by omega, rfl, fun _ _ => hi, fun k k' h1 h2 _ => by omega, fun k h1 h2 => by omega, fun k k' h1 h2 h3 => by omega, fun a j y h1 h2 h3 => ?_⟩
  unfold lx at h3
  omega
section BF
variable {A : ST} {r i m h c : Nat} {Q P J D : Nat → Nat} {q s p l : Nat → Int32}
theorem BI.skip (hB : BI A r i m h c Q P J) (hk : ∀ y, y < r → ldT A (Q h) c = nI y → ∃ k, k < m ∧ Q k = y) : BI A r i m h (c + 1) Q P J := by
  obtain ⟨b0, b1, b2, b3, b4, b5, b6⟩ := hB
  refine ⟨b0, b1, b2, b3, fun k h1 h2 => ?_, b5, fun a j y h1 h2 h3 h4 h5 => ?_⟩
  · obtain ⟨c1, c2, c3, c4⟩ := b4 k h1 h2
    refine ⟨c1, c2, c3, ?_⟩
    unfold lx at c4 ⊢
    omega
  · by_cases e : lx a j h c
    · exact b6 a j y h1 h2 e h4 h5
    · have e2 : a = h ∧ j = c := by unfold lx at e h3; omega
      obtain ⟨rfl, rfl⟩ := e2
      obtain ⟨k, k1, k2⟩ := hk y h4 h5
      refine ⟨k, k1, k2, ?_⟩
      by_cases k0 : k = 0
      · exact Or.inl k0
      · have := (b4 k (by omega) k1).2.2.2
        unfold lx at this
        omega
theorem BI.add (hB : BI A r i m h c Q P J) (hh : h < m) (hc : c < 8) {y : Nat} (hy : y < r) (hl : ldT A (Q h) c = nI y) (hn : ∀ k, k < m → Q k ≠ y) (hr : r ≤ 20) : BI A r i (m + 1) h (c + 1) (fun k => if k = m then y else Q k) (fun k => if k = m then h else P k) (fun k => if k = m then c else J k) := by
  obtain ⟨b0, b1, b2, b3, b4, b5, b6⟩ := hB
  refine ⟨by omega, by dsimp only; rw [if_neg (by omega)]; exact b1, fun k hk => ?_, fun k k' h1 h2 e => ?_, fun k h1 h2 => ?_, fun k k' h1 h2 h3 => ?_, fun a j y' h1 h2 h3 h4 h5 => ?_⟩
  · by_cases e : k = m
    · simp only [e, if_true]; exact hy
    · simp only [e, if_false]; exact b2 k (by omega)
  · by_cases e1 : k = m <;> by_cases e2 : k' = m
    · omega
    · simp only [e1, e2, if_true, if_false] at e
      exact absurd e.symm (hn k' (by omega))
    · simp only [e1, e2, if_true, if_false] at e
      exact absurd e (hn k (by omega))
    · simp only [e1, e2, if_false] at e
      exact b3 k k' (by omega) (by omega) e
  · by_cases e : k = m
    · have e2 : ¬ h = m := by omega
      simp only [e, if_true, e2, if_false]
      exact ⟨by omega, hc, hl, Or.inr ⟨rfl, by omega⟩⟩
    · obtain ⟨c1, c2, c3, c4⟩ := b4 k h1 (by omega)
      have e2 : ¬ P k = m := by omega
      simp only [e, if_false, e2]
      refine ⟨c1, c2, c3, ?_⟩
      unfold lx at c4 ⊢
      omega
  · by_cases e : k' = m
    · have e2 : ¬ k = m := by omega
      simp only [e, if_true, e2, if_false]
      exact (b4 k h1 (by omega)).2.2.2
    · have e2 : ¬ k = m := by omega
      simp only [e, e2, if_false]
      exact b5 k k' h1 h2 (by omega)
  · by_cases e : a = m
    · unfold lx at h3; omega
    · simp only [e, if_false] at h5
      by_cases e1 : lx a j h c
      · obtain ⟨k, k1, k2, k3⟩ := b6 a j y' (by omega) h2 e1 h4 h5
        have e2 : ¬ k = m := by omega
        refine ⟨k, by omega, ?_⟩
        simp only [e2, if_false]
        exact ⟨k2, k3⟩
      · have e2 : a = h ∧ j = c := by unfold lx at e1 h3; omega
        obtain ⟨rfl, rfl⟩ := e2
        have : y' = y := nI_inj (by omega) (by omega) (h5.symm.trans hl)
        subst this
        refine ⟨m, by omega, ?_⟩
        simp only [if_true]
        exact ⟨trivial, Or.inr (Or.inr ⟨trivial, Nat.le_refl _⟩)⟩
theorem BI.next (hB : BI A r i m h 8 Q P J) : BI A r i m (h + 1) 0 Q P J := by
  obtain ⟨b0, b1, b2, b3, b4, b5, b6⟩ := hB
  refine ⟨b0, b1, b2, b3, fun k h1 h2 => ?_, b5, fun a j y h1 h2 h3 h4 h5 => b6 a j y h1 h2 (by unfold lx at h3 ⊢; omega) h4 h5⟩
  obtain ⟨c1, c2, c3, c4⟩ := b4 k h1 h2
  refine ⟨c1, c2, c3, ?_⟩
  unfold lx at c4 ⊢
  omega
theorem BI.le (hB : BI A r i m h c Q P J) : m ≤ r := php r m Q hB.2.2.1 hB.2.2.2.1
theorem BH.add (hB : BI A r i m h c Q P J) (hH : BH m Q P J D q s p l) (hh : h < m) {y : Nat} (hy : y < 20) (hn : ∀ k, k < m → Q k ≠ y) (hr : r ≤ 20) : BH (m + 1) (fun k => if k = m then y else Q k) (fun k => if k = m then h else P k) (fun k => if k = m then c else J k) (fun k => if k = m then D h + 1 else D k) (upd q m (nI y)) (upd s y (s (Q h) + 1)) (upd p y (nI (Q h))) (upd l y (nI c)) := by
  obtain ⟨b0, b1, b2, b3, b4, b5, b6⟩ := hB
  obtain ⟨a1, a2, a3, a4⟩ := hH
  refine ⟨fun k hk => ?_, fun k h1 hk => ?_, by dsimp only; rw [if_neg (by omega)]; exact a3, fun x hx hk => ?_⟩
  · by_cases e : k = m
    · subst e
      simp only [if_true]
      refine ⟨pk_us, ?_⟩
      rw [pk_us, (a1 h hh).2, nI_1]
    · simp only [e, if_false]
      refine ⟨(pk_un e).trans (a1 k (by omega)).1, (pk_un (hn k (by omega))).trans (a1 k (by omega)).2⟩
  · by_cases e : k = m
    · subst e
      have e2 : ¬ h = k := by omega
      simp only [if_true, e2, if_false]
      exact ⟨pk_us, pk_us, trivial⟩
    · have hp := (b4 k h1 (by omega)).1
      have e2 : ¬ P k = m := by omega
      simp only [e, if_false, e2]
      obtain ⟨d1, d2, d3⟩ := a2 k h1 (by omega)
      exact ⟨(pk_un (hn k (by omega))).trans d1, (pk_un (hn k (by omega))).trans d2, d3⟩
  · have e1 := hk m (by omega)
    simp only [if_true] at e1
    rw [pk_un (Ne.symm e1)]
    refine a4 x hx (fun k hk2 => ?_)
    have := hk k (by omega)
    simp only [show ¬ k = m by omega, if_false] at this
    exact this
theorem BD_mono (hB : BI A r i m h c Q P J) (hH : BH m Q P J D q s p l) : ∀ n k k', k' < n → k ≤ k' → k' < m → D k ≤ D k' := by
  intro n
  induction n with
  | zero => intro k k' h1; omega
  | succ n ih =>
    intro k k' h1 h2 h3
    rcases Nat.eq_or_lt_of_le h2 with e | e
    · rw [e]; exact Nat.le_refl _
    · by_cases k0 : k = 0
      · rw [k0, hH.2.2.1]; omega
      · have o := hB.2.2.2.2.2.1 k k' (by omega) e h3
        have p1 := (hB.2.2.2.2.1 k' (by omega) h3).1
        rw [(hH.2.1 k (by omega) (by omega)).2.2, (hH.2.1 k' (by omega) h3).2.2]
        have := ih (P k) (P k') (by omega) (by unfold lx at o; omega) (by omega)
        omega
theorem BD_m (hB : BI A r i m h c Q P J) (hH : BH m Q P J D q s p l) {k k' : Nat} (h2 : k ≤ k') (h3 : k' < m) : D k ≤ D k' := BD_mono hB hH (k' + 1) k k' (by omega) h2 h3
theorem pth_snoc {n x y j : Nat} : ∀ {i : Nat}, pth A r n i x → x < r → j < 8 → y < r → ldT A x j = nI y → pth A r (n + 1) i y := by
  induction n with
  | zero =>
    intro i h1 h2 h3 h4 h5
    have h1' : i = x := h1
    subst h1'
    exact ⟨j, y, h3, h4, h5, rfl⟩
  | succ n ih =>
    intro i h1 h2 h3 h4 h5
    obtain ⟨j', x', a1, a2, a3, a4⟩ := h1
    exact ⟨j', x', a1, a2, a3, ih a4 h2 h3 h4 h5⟩
theorem BP (hB : BI A r i m h c Q P J) (hH : BH m Q P J D q s p l) : ∀ n k, k < n → k < m → pth A r (D k) i (Q k) := by
  intro n
  induction n with
  | zero => intro k h1; omega
  | succ n ih =>
    intro k h1 h2
    by_cases k0 : k = 0
    · subst k0; rw [hH.2.2.1]; exact hB.2.1.symm
    · obtain ⟨c1, c2, c3, -⟩ := hB.2.2.2.2.1 k (by omega) h2
      rw [(hH.2.1 k (by omega) h2).2.2]
      exact pth_snoc (ih (P k) (by omega) (by omega)) (hB.2.2.1 _ (by omega)) c2 (hB.2.2.1 k h2) c3
end BF
section BE
variable {A : ST} {r i m : Nat} {Q P J D : Nat → Nat} {q s p l : Nat → Int32}
theorem BI.cl (hB : BI A r i m m 0 Q P J) {a j y : Nat} (ha : a < m) (hj : j < 8) (hy : y < r) (hl : ldT A (Q a) j = nI y) : ∃ k, k < m ∧ Q k = y ∧ (k = 0 ∨ P k < a ∨ (P k = a ∧ J k ≤ j)) := hB.2.2.2.2.2.2 a j y ha hj (Or.inl ha) hy hl
theorem BF_in (hB : BI A r i m m 0 Q P J) (hH : BH m Q P J D q s p l) {y : Nat} : ∀ n a, a < m → pth A r n (Q a) y → ∃ k, k < m ∧ Q k = y ∧ D k ≤ D a + n := by
  intro n
  induction n with
  | zero => intro a ha hp; exact ⟨a, ha, hp, by omega⟩
  | succ n ih =>
    intro a ha hp
    obtain ⟨j, x, hj, hx, hl, hp⟩ := hp
    obtain ⟨k, k1, k2, k3⟩ := hB.cl ha hj hx hl
    subst k2
    obtain ⟨k', c1, c2, c3⟩ := ih k k1 hp
    refine ⟨k', c1, c2, ?_⟩
    by_cases k0 : k = 0
    · subst k0; rw [hH.2.2.1] at c3; omega
    · have := (hH.2.1 k (by omega) k1).2.2
      have := BD_m hB hH (show P k ≤ a by omega) ha
      omega
theorem BF_D (hB : BI A r i m m 0 Q P J) (hH : BH m Q P J D q s p l) {k : Nat} (hk : k < m) : dst A r i (Q k) = D k := by
  have hp := BP hB hH (k + 1) k (by omega) hk
  have h1 := dst_le hp
  have h2 := (dst_spec ⟨_, hp⟩).1
  have h2' : pth A r (dst A r i (Q k)) (Q 0) (Q k) := by rw [hB.2.1]; exact h2
  obtain ⟨k', c1, c2, c3⟩ := BF_in hB hH _ 0 hB.1 h2'
  rw [hB.2.2.2.1 k' k c1 hk c2, hH.2.2.1] at c3
  omega
theorem BF_no (hB : BI A r i m m 0 Q P J) (hH : BH m Q P J D q s p l) {y : Nat} (hn : ∀ k, k < m → Q k ≠ y) : dst A r i y = 99 := by
  refine dst_none (fun ⟨n, hp⟩ => ?_)
  rw [← hB.2.1] at hp
  obtain ⟨k, c1, c2, -⟩ := BF_in hB hH n 0 hB.1 hp
  exact hn k c1 c2
theorem BF_s (hi : i < r) (hr : r ≤ 20) (hB : BI A r i m m 0 Q P J) (hH : BH m Q P J D q s p l) {y : Nat} (hy : y < r) : (dst A r i y = 99 ∧ s y = -1) ∨ ∃ t, t < m ∧ Q t = y ∧ dst A r i y = D t ∧ s y = nI (D t) ∧ D t < r := by
  by_cases h : ∃ k, k < m ∧ Q k = y
  · obtain ⟨k, hk, e⟩ := h
    refine Or.inr ⟨k, hk, e, ?_, ?_, ?_⟩
    · rw [← e]; exact BF_D hB hH hk
    · rw [← e]; exact (hH.1 k hk).2
    · have := BF_D hB hH hk
      rw [← this]
      exact dst_lt hi ⟨_, BP hB hH (k + 1) k (by omega) hk⟩
  · have h2 : ∀ k, k < m → Q k ≠ y := fun k hk e => h ⟨k, hk, e⟩
    exact Or.inl ⟨BF_no hB hH h2, hH.2.2.2 y (by omega) h2⟩
def anc (P : Nat → Nat) (t : Nat) : Nat → Nat
  | 0 => t
  | e + 1 => P (anc P t e)
theorem anc_ok (hB : BI A r i m m 0 Q P J) (hH : BH m Q P J D q s p l) {t : Nat} (ht : t < m) : ∀ e, e ≤ D t → anc P t e < m ∧ D (anc P t e) = D t - e := by
  intro e
  induction e with
  | zero => intro _; exact ⟨ht, rfl⟩
  | succ e ih =>
    intro he
    obtain ⟨h1, h2⟩ := ih (by omega)
    have h0 : anc P t e ≠ 0 := fun z => by rw [z, hH.2.2.1] at h2; omega
    have h3 := (hB.2.2.2.2.1 _ (by omega) h1).1
    have h4 := (hH.2.1 _ (by omega) h1).2.2
    show P (anc P t e) < m ∧ D (P (anc P t e)) = _
    exact ⟨by omega, by omega⟩
theorem anc_p (hB : BI A r i m m 0 Q P J) (hH : BH m Q P J D q s p l) {t : Nat} (ht : t < m) : ∀ e, e ≤ D t → pth A r e (Q (anc P t e)) (Q t) := by
  intro e
  induction e with
  | zero => intro _; rfl
  | succ e ih =>
    intro he
    obtain ⟨h1, h2⟩ := anc_ok hB hH ht e (by omega)
    have h0 : anc P t e ≠ 0 := fun z => by rw [z, hH.2.2.1] at h2; omega
    obtain ⟨c1, c2, c3, -⟩ := hB.2.2.2.2.1 _ (by omega) h1
    exact ⟨J (anc P t e), Q (anc P t e), c2, hB.2.2.1 _ h1, c3, ih (by omega)⟩
/-- who was found by an earlier one stands before -/
theorem B_ord (hB : BI A r i m m 0 Q P J) {k v : Nat} (hk : k < m) (hv : v < m) (hv0 : 0 < v) (h : k = 0 ∨ lx (P k) (J k) (P v) (J v)) : k < v := by
  by_cases k0 : k = 0
  · omega
  · have h' := h.resolve_left k0
    rcases Nat.lt_trichotomy k v with e | e | e
    · exact e
    · subst e; unfold lx at h'; omega
    · have := hB.2.2.2.2.2.1 v k hv0 e hk
      unfold lx at this h'
      omega
theorem B_no (hB : BI A r i m m 0 Q P J) (hH : BH m Q P J D q s p l) {t : Nat} (ht : t < m) : ∀ e a, e ≤ D t → a < m → pth A r e (Q a) (Q t) → a < anc P t e → False := by
  intro e
  induction e with
  | zero =>
    intro a _ ha hp hlt
    have := hB.2.2.2.1 a t ha ht hp
    have e0 : anc P t 0 = t := rfl
    omega
  | succ e ih =>
    intro a he ha hp hlt
    obtain ⟨j, x, hj, hx, hl, hp⟩ := hp
    obtain ⟨k, k1, k2, k3⟩ := hB.cl ha hj hx hl
    subst k2
    obtain ⟨h1, h2⟩ := anc_ok hB hH ht e (by omega)
    have h0 : anc P t e ≠ 0 := fun z => by rw [z, hH.2.2.1] at h2; omega
    have e1 : anc P t (e + 1) = P (anc P t e) := rfl
    exact ih k (by omega) k1 hp (B_ord hB k1 h1 (by omega) (by unfold lx; omega))
theorem B_main (hi : i < r) (hr : r ≤ 20) (hB : BI A r i m m 0 Q P J) (hH : BH m Q P J D q s p l) {t : Nat} (ht : t < m) : ∀ k, k ≤ D t → rmK A r (Q t) i k = Q (anc P t (D t - k)) ∧ (k < D t → stI A r (Q t) (rmK A r (Q t) i k) = nI (J (anc P t (D t - 1 - k)))) := by
  intro k
  have key : ∀ k, k < D t → stI A r (Q t) (Q (anc P t (D t - k))) = nI (J (anc P t (D t - 1 - k))) := by
    intro k hk
    obtain ⟨v1, v2⟩ := anc_ok hB hH ht (D t - 1 - k) (by omega)
    obtain ⟨u1, u2⟩ := anc_ok hB hH ht (D t - k) (by omega)
    have eu : anc P t (D t - k) = P (anc P t (D t - 1 - k)) := by
      rw [show D t - k = (D t - 1 - k) + 1 by omega]; rfl
    have v0 : anc P t (D t - 1 - k) ≠ 0 := fun z => by rw [z, hH.2.2.1] at v2; omega
    obtain ⟨c1, c2, c3, -⟩ := hB.2.2.2.2.1 _ (by omega) v1
    rw [← eu] at c1 c3
    -- distances from there
    have du : ∀ e, e ≤ D t → dst A r (Q (anc P t e)) (Q t) = e := by
      intro e he
      have hp := anc_p hB hH ht e he
      have a1 := dst_le hp
      obtain ⟨w1, w2⟩ := anc_ok hB hH ht e he
      obtain ⟨k', b1, b2, b3⟩ := BF_in hB hH _ _ w1 (dst_spec ⟨_, hp⟩).1
      rw [hB.2.2.2.1 k' t b1 ht b2] at b3
      omega
    have d1 := du (D t - k) (by omega)
    have d2 := du (D t - 1 - k) (by omega)
    obtain ⟨j, -, hj, ⟨x, hx, hl, hd⟩, -, he⟩ := fnd_some (P := fun j => ∃ x, x < r ∧ ldT A (Q (anc P t (D t - k))) j = nI x ∧ dst A r x (Q t) + 1 = dst A r (Q (anc P t (D t - k))) (Q t)) (e := -1) (n := 8) (i := 0) (j := J (anc P t (D t - 1 - k))) (by omega) (by omega) ⟨_, hB.2.2.1 _ v1, c3, by omega⟩
    have hj2 : j = J (anc P t (D t - 1 - k)) := by
      rcases Nat.eq_or_lt_of_le hj with z | z
      · exact z
      · exfalso
        obtain ⟨k', k1, k2, k3⟩ := hB.cl u1 (show j < 8 by omega) hx hl
        subst k2
        have hlt : k' < anc P t (D t - 1 - k) := B_ord hB k1 v1 (by omega) (by unfold lx; rw [← eu]; omega)
        have hne : dst A r (Q k') (Q t) = D t - 1 - k := by omega
        have hex : ∃ n, pth A r n (Q k') (Q t) := Classical.byContradiction fun z => by
          have := dst_none z
          have := dst_lt hi ⟨_, BP hB hH (t + 1) t (by omega) ht⟩
          rw [BF_D hB hH ht] at this
          omega
        have := (dst_spec hex).1
        rw [hne] at this
        exact B_no hB hH ht _ _ (by omega) k1 this hlt
    show fnd _ (-1) 8 0 = _
    rw [he, hj2]
  induction k with
  | zero =>
    intro _
    have e0 : Q (anc P t (D t - 0)) = i := by
      obtain ⟨u1, u2⟩ := anc_ok hB hH ht (D t - 0) (by omega)
      have : anc P t (D t - 0) = 0 := by
        rcases Nat.eq_zero_or_pos (anc P t (D t - 0)) with z | z
        · exact z
        · have := (hH.2.1 _ z u1).2.2; omega
      rw [this]; exact hB.2.1
    refine ⟨e0.symm, fun hk => ?_⟩
    show stI A r (Q t) i = _
    have := key 0 hk
    rw [e0] at this
    exact this
  | succ k ih =>
    intro hk
    obtain ⟨h1, h2⟩ := ih (by omega)
    have h3 := h2 (by omega)
    obtain ⟨v1, v2⟩ := anc_ok hB hH ht (D t - 1 - k) (by omega)
    have v0 : anc P t (D t - 1 - k) ≠ 0 := fun z => by rw [z, hH.2.2.1] at v2; omega
    obtain ⟨c1, c2, c3, -⟩ := hB.2.2.2.2.1 _ (by omega) v1
    have eu : anc P t (D t - k) = P (anc P t (D t - 1 - k)) := by
      rw [show D t - k = (D t - 1 - k) + 1 by omega]; rfl
    have hq := hB.2.2.1 _ v1
    have e1 : rmK A r (Q t) i (k + 1) = Q (anc P t (D t - (k + 1))) := by
      show (ldT A (rmK A r (Q t) i k) (stI A r (Q t) (rmK A r (Q t) i k)).toNatClampNeg).toNatClampNeg = _
      rw [h3, h1, nI_clamp (by omega), eu, c3, nI_clamp (by omega), show D t - (k + 1) = D t - 1 - k by omega]
    refine ⟨e1, fun hk2 => ?_⟩
    rw [e1]
    exact key (k + 1) hk2
end BE
/-! the search's cells -/
def FS (L L' : List AE) : Prop := L'.length = L.length ∧ ∀ k, (k < 8 ∨ 13 ≤ k) → L'[k]? = L[k]?
theorem FS.rf {L : List AE} : FS L L := ⟨rfl, fun _ _ => rfl⟩
theorem FS.st {L L1 : List AE} {a : Nat} {e : AE} (h : FS L L1) (ha : 8 ≤ a ∧ a < 13) : FS L (L1.set a e) := ⟨by rw [List.length_set]; exact h.1, fun k hk => (get_ne (by omega)).trans (h.2 k hk)⟩
theorem FS.X {L L1 : List AE} (h : FS L L1) : FrX L L1 := ⟨by rw [h.1]; exact Nat.le_refl _, fun k h1 _ => h.2 k (by omega)⟩
section XSs
variable {q s p l : Nat → Int32} {rc x : Int32} {L : List AE} {j : Nat}
theorem XS.q1 (h : XS q s p l rc L) {f : Nat → Int32} : XS f s p l rc (L.set 9 (eA 0 20 f)) := ⟨(get_ne (by decide)).trans h.1, get_set h.2.1, (get_ne (by decide)).trans h.2.2.1, (get_ne (by decide)).trans h.2.2.2.1, (get_ne (by decide)).trans h.2.2.2.2⟩
theorem XS.s1 (h : XS q s p l rc L) {f : Nat → Int32} : XS q f p l rc (L.set 10 (eA 0 20 f)) := ⟨(get_ne (by decide)).trans h.1, (get_ne (by decide)).trans h.2.1, get_set h.2.2.1, (get_ne (by decide)).trans h.2.2.2.1, (get_ne (by decide)).trans h.2.2.2.2⟩
theorem XS.p1 (h : XS q s p l rc L) {f : Nat → Int32} : XS q s f l rc (L.set 11 (eA 0 20 f)) := ⟨(get_ne (by decide)).trans h.1, (get_ne (by decide)).trans h.2.1, (get_ne (by decide)).trans h.2.2.1, get_set h.2.2.2.1, (get_ne (by decide)).trans h.2.2.2.2⟩
theorem XS.l1 (h : XS q s p l rc L) {f : Nat → Int32} : XS q s p f rc (L.set 12 (eA 0 20 f)) := ⟨(get_ne (by decide)).trans h.1, (get_ne (by decide)).trans h.2.1, (get_ne (by decide)).trans h.2.2.1, (get_ne (by decide)).trans h.2.2.2.1, get_set h.2.2.2.2⟩
theorem XS.r1 (h : XS q s p l rc L) {x : Int32} : XS q s p l x (L.set 8 (eO 3 [aR 9, aR 10, aR 11, aR 12, aI x])) := ⟨get_set h.1, (get_ne (by decide)).trans h.2.1, (get_ne (by decide)).trans h.2.2.1, (get_ne (by decide)).trans h.2.2.2.1, (get_ne (by decide)).trans h.2.2.2.2⟩
end XSs
theorem fill_s {f : Nat → Int32} {x : Int32} {k : Nat} : upd (fun j => if j < k then x else f j) k x = fun j => if j < k + 1 then x else f j := by
  funext j
  unfold upd
  by_cases e : j = k
  · subst e; rw [if_pos rfl, if_pos (by omega)]
  · rw [if_neg e]
    dsimp only
    by_cases h : j < k
    · rw [if_pos h, if_pos (by omega)]
    · rw [if_neg h, if_neg (by omega)]
theorem fill_0 {f : Nat → Int32} {x : Int32} : (fun j => if j < 0 then x else f j) = f := by
  funext j
  rw [if_neg (by omega)]
