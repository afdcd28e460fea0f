/-! every call keeps what holds -/
theorem cI_ind2 {α : Type} {P : α → Prop} {p : Prop} {a b : α} (ha : p → P a) (hb : ¬ p → P b) : P (cI p a b) := by
  by_cases h : p
  · rw [cI_t h]; exact ha h
  · rw [cI_f h]; exact hb h
theorem ok1_ind {α : Type} {P : α → Prop} {x : Int32} {n : Nat} {f : Nat → α} {e : α} (hn : n < 2 ^ 31) (hf : ∀ i, i < n → x = nI i → P (f i)) (he : ¬ isN x n → P e) : P (ok1 x n f e) := by
  rcases isN_cases x n hn with ⟨i, hi, rfl⟩ | h
  · rw [ok1_t hi hn]; exact hf i hi rfl
  · rw [ok1_f h]; exact he h
section KP
variable {r d t b r' d' t' b' : Nat} {A A' : ST}
theorem Inv_gen (h : Inv r d t b A) (hN : r' ≤ 20 ∧ d' ≤ 15 ∧ t' ≤ 30 ∧ b' ≤ 6) (hr : r ≤ r') (hd : d ≤ d') (ht : t ≤ t') (hb : b ≤ b')
    (h56 : ∀ k, k < d → A' 5 k = A 5 k ∧ A' 6 k = A 6 k) (h11 : ∀ k, k < t → A' 11 k = A 11 k)
    (w : ∀ i j, i < r' → j < 8 → (i < r ∧ A' 2 (8 * i + j) = A 2 (8 * i + j)) ∨ wOk r' d' A' i (A' 2 (8 * i + j)))
    (dd : ∀ i, i < d' → (i < d ∧ A' 7 i = A 7 i ∧ A' 8 i = A 8 i ∧ A' 9 i = A 9 i) ∨ dOk r' t' A' i)
    (tt : ∀ i, i < t' → (i < t ∧ A' 12 i = A 12 i ∧ A' 13 i = A 13 i ∧ A' 14 i = A 14 i ∧ A' 15 i = A 15 i) ∨ tOk r' b' A' i)
    (bb : ∀ i, i < b' → (i < b ∧ A' 17 i = A 17 i ∧ A' 18 i = A 18 i ∧ A' 19 i = A 19 i ∧ A' 21 i = A 21 i) ∨ bOk r' t' A' i)
    (rr : ∀ i, i < 5 → (A' 23 i = A 23 i ∧ A' 24 i = A 24 i ∧ ∀ j, j < 4 → A' 22 (4 * i + j) = A 22 (4 * i + j)) ∨ rOk r' A' i)
    (gg : ∀ i j, i < 7 → j < 20 → A' 25 (20 * i + j) = A 25 (20 * i + j) ∨ (A' 25 (20 * i + j) = 0 ∨ (A' 25 (20 * i + j) = 1 ∧ j < r')))
    (zd : ∀ i, d' ≤ i → A' 8 i = A 8 i ∧ A' 9 i = A 9 i) (zt : ∀ i, t' ≤ i → A' 15 i = A 15 i) (zb : ∀ i, b' ≤ i → A' 21 i = A 21 i ∧ ∀ j, j < 8 → A' 20 (8 * i + j) = A 20 (8 * i + j)) : Inv r' d' t' b' A' := by
  refine ⟨hN, fun i j hi hj => ?_, fun i hi => ?_, fun i hi => ?_, fun i hi => ?_, fun i hi => ?_, fun i j hi hj => ?_, fun i hi => ?_, fun i hi => ?_, fun i hi => ?_⟩
  · rcases w i j hi hj with ⟨h1, h2⟩ | h1
    · rw [h2]
      rcases h.cw h1 hj with q | ⟨k, hk, q⟩ | ⟨k, hk, q, q2⟩ | ⟨k, hk, q⟩ | ⟨k, hk, q⟩
      · exact Or.inl q
      · exact Or.inr (Or.inl ⟨k, by omega, q⟩)
      · exact Or.inr (Or.inr (Or.inl ⟨k, by omega, q, by rw [(h56 k hk).1, (h56 k hk).2]; exact q2⟩))
      · exact Or.inr (Or.inr (Or.inr (Or.inl ⟨k, hk, q⟩)))
      · exact Or.inr (Or.inr (Or.inr (Or.inr ⟨k, hk, q⟩)))
    · exact h1
  · rcases dd i hi with ⟨h1, h7, h8, h9⟩ | h1
    · obtain ⟨⟨a, ha, ea⟩, c2, c3, c4, c5, c6⟩ := h.cd h1
      unfold dOk
      rw [(h56 i h1).1, (h56 i h1).2, h7, h8, h9]
      refine ⟨⟨a, by omega, ea⟩, c2.imp id (fun ⟨a, ha, e⟩ => ⟨a, by omega, e⟩), c3, c4.imp id (fun ⟨k, hk, e, e2⟩ => ⟨k, by omega, e, by rw [h11 k hk]; exact e2⟩), c5, c6⟩
    · exact h1
  · rcases tt i hi with ⟨h1, h12, h13, h14, h15⟩ | h1
    · obtain ⟨c1, c2, c3, c4, c5⟩ := h.ct h1
      unfold tOk
      rw [h11 i h1, h12, h13, h14, h15]
      exact ⟨c1, c2.imp (fun ⟨k, hk, e⟩ => ⟨k, by omega, e⟩) (fun ⟨k, hk, e⟩ => ⟨k, by omega, e⟩), c3, c4, c5⟩
    · exact h1
  · rcases bb i hi with ⟨h1, h17, h18, h19, h21⟩ | h1
    · obtain ⟨⟨a, ha, ea⟩, c2, c3, c4⟩ := h.cb h1
      unfold bOk
      rw [h17, h18, h19, h21]
      exact ⟨⟨a, by omega, ea⟩, c2.imp id (fun ⟨k, hk, e, e2⟩ => ⟨k, by omega, e, by rw [h11 k hk]; exact e2⟩), c3.imp id (fun ⟨k, hk, e⟩ => ⟨k, by omega, e⟩), c4⟩
    · exact h1
  · rcases rr i hi with ⟨h23, h24, h22⟩ | h1
    · obtain ⟨m, k, hm, e1, e2, e3, e4⟩ := h.cr hi
      refine ⟨m, k, hm, by rw [h23]; exact e1, by rw [h24]; exact e2, e3, fun j hj => ?_⟩
      obtain ⟨x, hx, e⟩ := e4 j hj
      exact ⟨x, by omega, by rw [h22 j (by omega)]; exact e⟩
    · exact h1
  · rcases gg i j hi hj with h1 | h1
    · rw [h1]
      exact (h.cg hi hj).imp id (fun q => ⟨q.1, by omega⟩)
    · exact h1
  · rw [(zd i hi).1, (zd i hi).2]; exact h.zd (by omega)
  · rw [zt i hi]; exact h.zt (by omega)
  · refine ⟨by rw [(zb i hi).1]; exact (h.zb (by omega)).1, fun j hj => ?_⟩
    rw [(zb i hi).2 j hj]
    exact (h.zb (by omega)).2 j hj
def IjR (p : RT) : Prop := Inv p.2.1 p.2.2.1 p.2.2.2.1 p.2.2.2.2.1 p.2.2.2.2.2 ∧ Jv p.2.1 p.2.2.2.1 p.2.2.2.2.1 p.2.2.2.2.2
theorem IjR_mk {v : Int32} (h : Inv r d t b A) (hJ : Jv r t b A) : IjR (v, r, d, t, b, A) := ⟨h, hJ⟩
abbrev ddk (A' A : ST) (d r t : Nat) : Prop := ∀ i, i < d → (i < d ∧ A' 7 i = A 7 i ∧ A' 8 i = A 8 i ∧ A' 9 i = A 9 i) ∨ dOk r t A' i
theorem Ij_room (h : Inv r d t b A) (hJ : Jv r t b A) : IjR (S_room r d t b A) := by
  unfold S_room
  have hN := h.cn
  refine cI_ind2 (P := IjR) (fun _ => ⟨h, hJ⟩) (fun h20 => IjR_mk ?_ ⟨?_, ?_⟩)
  · have e : ∀ j, j ≠ 2 → j ≠ 3 → rmA A r 8 j = A j := fun j h2 h3 => rmA_o h2 h3
    refine Inv_gen h (r' := r + 1) (A' := rmA A r 8) (by omega) (by omega) (Nat.le_refl _) (Nat.le_refl _) (Nat.le_refl _) (fun k _ => ⟨by rw [e 5 (by decide) (by decide)], by rw [e 6 (by decide) (by decide)]⟩) (fun k _ => by rw [e 11 (by decide) (by decide)]) (fun i j hi hj => ?_) (fun i hi => Or.inl ⟨hi, by rw [e 7 (by decide) (by decide)], by rw [e 8 (by decide) (by decide)], by rw [e 9 (by decide) (by decide)]⟩) (fun i hi => Or.inl ⟨hi, by rw [e 12 (by decide) (by decide)], by rw [e 13 (by decide) (by decide)], by rw [e 14 (by decide) (by decide)], by rw [e 15 (by decide) (by decide)]⟩) (fun i hi => Or.inl ⟨hi, by rw [e 17 (by decide) (by decide)], by rw [e 18 (by decide) (by decide)], by rw [e 19 (by decide) (by decide)], by rw [e 21 (by decide) (by decide)]⟩) (fun i _ => Or.inl ⟨by rw [e 23 (by decide) (by decide)], by rw [e 24 (by decide) (by decide)], fun j _ => by rw [e 22 (by decide) (by decide)]⟩) (fun i j _ _ => Or.inl (by rw [e 25 (by decide) (by decide)])) (fun i _ => ⟨by rw [e 8 (by decide) (by decide)], by rw [e 9 (by decide) (by decide)]⟩) (fun i _ => by rw [e 15 (by decide) (by decide)]) (fun i _ => ⟨by rw [e 21 (by decide) (by decide)], fun j _ => by rw [e 20 (by decide) (by decide)]⟩)
    by_cases q : i < r
    · refine Or.inl ⟨q, ?_⟩
      unfold rmA
      rw [if_neg (by omega), if_neg (by omega)]
    · refine Or.inr (Or.inl ?_)
      unfold rmA
      rw [if_pos (by omega)]
  · intro q k hq hk hk2
    exact hJ.1 q k hq hk hk2
  · intro i j hi hj
    show ¬ rmA A r 8 3 (8 * i + j) < 0
    have hi : i < r + 1 := hi
    unfold rmA
    rw [if_neg (by omega)]
    by_cases q : i < r
    · rw [if_neg (by omega)]; exact hJ.2 i j q hj
    · rw [if_pos (by omega)]; decide
theorem Ij_door (h : Inv r d t b A) (hJ : Jv r t b A) (x y : Int32) : IjR (S_door r d t b A x y) := by
  have hN := h.cn
  unfold S_door
  refine ok1_ind (P := IjR) (by omega) (fun i hi _ => ?_) (fun _ => ⟨h, hJ⟩)
  refine cI_ind2 (P := IjR) (fun hy => ?_) (fun _ => ⟨h, hJ⟩)
  refine cI_ind2 (P := IjR) (fun _ => ⟨h, hJ⟩) (fun h15 => IjR_mk ?_ hJ)
  refine Inv_gen h (d' := d + 1) (by omega) (Nat.le_refl _) (by omega) (Nat.le_refl _) (Nat.le_refl _) (fun k hk => ⟨up2_k3 (by omega), up2_k3 (by omega)⟩) (fun _ _ => rfl) (fun _ _ hi _ => Or.inl ⟨hi, rfl⟩) (fun k hk => ?_) (fun k hk => Or.inl ⟨hk, rfl, rfl, rfl, rfl⟩) (fun k hk => Or.inl ⟨hk, rfl, rfl, rfl, rfl⟩) (fun _ _ => Or.inl ⟨rfl, rfl, fun _ _ => rfl⟩) (fun _ _ _ _ => Or.inl rfl) (fun _ _ => ⟨rfl, rfl⟩) (fun _ _ => rfl) (fun _ _ => ⟨rfl, fun _ _ => rfl⟩)
  by_cases e : k = d
  · subst e
    right
    have a5 : up2 (up2 (up2 A 5 k (nI i)) 6 k y) 7 k (-1) 5 k = nI i := by rw [up2_n (by decide), up2_n (by decide), u_ss]
    have a6 : up2 (up2 (up2 A 5 k (nI i)) 6 k y) 7 k (-1) 6 k = y := by rw [up2_n (by decide), u_ss]
    have z := h.zd (Nat.le_refl k)
    refine ⟨⟨i, hi, a5⟩, ?_, ?_, Or.inl (u_ss _ _ _ _), Or.inl z.1, Or.inl z.2⟩
    · show up2 (up2 (up2 A 5 k (nI i)) 6 k y) 7 k (-1) 6 k = -1 ∨ _
      rw [a6]
      exact hy.1.imp id (fun q => isN_ex q (by omega))
    · show up2 (up2 (up2 A 5 k (nI i)) 6 k y) 7 k (-1) 5 k ≠ up2 (up2 (up2 A 5 k (nI i)) 6 k y) 7 k (-1) 6 k
      rw [a5, a6]; exact hy.2
  · exact Or.inl ⟨by omega, up2_k3 e, rfl, rfl⟩
theorem Ij_exit (h : Inv r d t b A) (hJ : Jv r t b A) (x y w : Int32) : IjR (S_exit r d t b A x y w) := by
  have hN := h.cn
  unfold S_exit
  refine ok1_ind (P := IjR) (by omega) (fun i hi _ => ?_) (fun _ => ⟨h, hJ⟩)
  refine ok1_ind (P := IjR) (by omega) (fun j hj _ => ?_) (fun _ => ⟨h, hJ⟩)
  refine cI_ind2 (P := IjR) (fun hw => IjR_mk ?_ hJ) (fun _ => ⟨h, hJ⟩)
  refine Inv_gen h hN (Nat.le_refl _) (Nat.le_refl _) (Nat.le_refl _) (Nat.le_refl _) (fun _ _ => ⟨rfl, rfl⟩) (fun _ _ => rfl) (fun i' j' hi' hj' => ?_) (fun k hk => Or.inl ⟨hk, rfl, rfl, rfl⟩) (fun k hk => Or.inl ⟨hk, rfl, rfl, rfl, rfl⟩) (fun k hk => Or.inl ⟨hk, rfl, rfl, rfl, rfl⟩) (fun _ _ => Or.inl ⟨rfl, rfl, fun _ _ => rfl⟩) (fun _ _ _ _ => Or.inl rfl) (fun _ _ => ⟨rfl, rfl⟩) (fun _ _ => rfl) (fun _ _ => ⟨rfl, fun _ _ => rfl⟩)
  by_cases e : 8 * i' + j' = 8 * i + j
  · right
    have : i' = i := by omega
    subst this
    rw [e]
    show wOk r d A i' (up2 A 2 (8 * i' + j) w 2 (8 * i' + j))
    rw [u_ss]
    exact hw
  · exact Or.inl ⟨hi', up2_k e⟩
theorem Ij_width (h : Inv r d t b A) (hJ : Jv r t b A) (x y w : Int32) : IjR (S_width r d t b A x y w) := by
  have hN := h.cn
  unfold S_width
  refine ok1_ind (P := IjR) (by omega) (fun i hi _ => ?_) (fun _ => ⟨h, hJ⟩)
  refine ok1_ind (P := IjR) (by omega) (fun j hj _ => ?_) (fun _ => ⟨h, hJ⟩)
  refine cI_ind2 (P := IjR) (fun hw => IjR_mk h ⟨hJ.1, ?_⟩) (fun _ => ⟨h, hJ⟩)
  intro i' j' hi' hj'
  show ¬ up2 A 3 (8 * i + j) w 3 (8 * i' + j') < 0
  by_cases e : 8 * i' + j' = 8 * i + j
  · rw [e, u_ss]
    have := hw.1
    intro q
    rw [i32_le] at this
    rw [i32_lt] at q
    have e1 : (1 : Int32).toInt = 1 := by decide
    rw [e1] at this
    rw [k0] at q
    omega
  · rw [up2_k e]; exact hJ.2 i' j' hi' hj'
theorem Ij_turn (h : Inv r d t b A) (hJ : Jv r t b A) (x y : Int32) : IjR (S_turn r d t b A x y) := by
  have hN := h.cn
  unfold S_turn
  refine ok1_ind (P := IjR) (by omega) (fun i hi _ => ?_) (fun _ => ⟨h, hJ⟩)
  refine ok1_ind (P := IjR) (by omega) (fun j hj _ => ?_) (fun _ => ⟨h, hJ⟩)
  refine cI_ind2 (P := IjR) (fun _ => ⟨h, hJ⟩) (fun h4 => IjR_mk ?_ hJ)
  obtain ⟨m, k, hm, e1, e2, e3, e4⟩ := h.cr hi
  have hm4 : m ≠ 4 := fun q => h4 (by rw [e1, q]; rfl)
  refine Inv_gen h hN (Nat.le_refl _) (Nat.le_refl _) (Nat.le_refl _) (Nat.le_refl _) (fun _ _ => ⟨rfl, rfl⟩) (fun _ _ => rfl) (fun _ _ hi _ => Or.inl ⟨hi, rfl⟩) (fun k hk => Or.inl ⟨hk, rfl, rfl, rfl⟩) (fun k hk => Or.inl ⟨hk, rfl, rfl, rfl, rfl⟩) (fun k hk => Or.inl ⟨hk, rfl, rfl, rfl, rfl⟩) (fun i' hi' => ?_) (fun _ _ _ _ => Or.inl rfl) (fun _ _ => ⟨rfl, rfl⟩) (fun _ _ => rfl) (fun _ _ => ⟨rfl, fun _ _ => rfl⟩)
  show (up2 (up2 A 22 (4 * i + (A 23 i).toNatClampNeg) (nI j)) 23 i (A 23 i + 1) 23 i' = A 23 i' ∧ _) ∨ rOk r (up2 (up2 A 22 (4 * i + (A 23 i).toNatClampNeg) (nI j)) 23 i (A 23 i + 1)) i'
  rw [e1, nI_clamp (by omega), nI_1]
  by_cases e : i' = i
  · subst e
    right
    refine ⟨m + 1, k, by omega, u_ss _ _ _ _, e2, by omega, fun j' hj' => ?_⟩
    show ∃ x, x < r ∧ up2 A 22 (4 * i' + m) (nI j) 22 (4 * i' + j') = nI x
    by_cases q : j' = m
    · subst q; exact ⟨j, hj, u_ss _ _ _ _⟩
    · rw [up2_k (by omega)]; exact e4 j' (by omega)
  · exact Or.inl ⟨up2_k e, rfl, fun j' hj' => up2_k (A := A) (j := 22) (q := 22) (by omega)⟩
theorem Ij_region (h : Inv r d t b A) (hJ : Jv r t b A) (x y z : Int32) (hz : z = 0 ∨ z = 1) : IjR (S_region r d t b A x y z) := by
  have hN := h.cn
  unfold S_region
  refine ok1_ind (P := IjR) (by omega) (fun i hi _ => ?_) (fun _ => ⟨h, hJ⟩)
  refine ok1_ind (P := IjR) (by omega) (fun j hj _ => IjR_mk ?_ hJ) (fun _ => ⟨h, hJ⟩)
  refine Inv_gen h hN (Nat.le_refl _) (Nat.le_refl _) (Nat.le_refl _) (Nat.le_refl _) (fun _ _ => ⟨rfl, rfl⟩) (fun _ _ => rfl) (fun _ _ hi _ => Or.inl ⟨hi, rfl⟩) (fun k hk => Or.inl ⟨hk, rfl, rfl, rfl⟩) (fun k hk => Or.inl ⟨hk, rfl, rfl, rfl, rfl⟩) (fun k hk => Or.inl ⟨hk, rfl, rfl, rfl, rfl⟩) (fun _ _ => Or.inl ⟨rfl, rfl, fun _ _ => rfl⟩) (fun i' j' hi' hj' => ?_) (fun _ _ => ⟨rfl, rfl⟩) (fun _ _ => rfl) (fun _ _ => ⟨rfl, fun _ _ => rfl⟩)
  by_cases e : 20 * i' + j' = 20 * i + j
  · right
    rw [e]
    show up2 A 25 (20 * i + j) z 25 (20 * i + j) = 0 ∨ up2 A 25 (20 * i + j) z 25 (20 * i + j) = 1 ∧ _
    rw [u_ss]
    exact hz.imp id (fun q => ⟨q, show j' < r by omega⟩)
  · exact Or.inl (up2_k e)
theorem Ij_lock (h : Inv r d t b A) (hJ : Jv r t b A) (x y z : Int32) (hz : z = 0 ∨ z = 1) : IjR (S_lock r d t b A x y z) := by
  have hN := h.cn
  have key : ∀ j, j < d → ∀ v, (v = -1 ∨ ∃ k, k < t ∧ v = nI k ∧ A 11 k = 0) → IjR (1, r, d, t, b, up2 (up2 A 7 j v) 9 j z) := by
    intro j hj v hv
    refine IjR_mk ?_ hJ
    refine Inv_gen h hN (Nat.le_refl _) (Nat.le_refl _) (Nat.le_refl _) (Nat.le_refl _) (fun _ _ => ⟨rfl, rfl⟩) (fun _ _ => rfl) (fun _ _ hi _ => Or.inl ⟨hi, rfl⟩) (fun k hk => ?_) (fun k hk => Or.inl ⟨hk, rfl, rfl, rfl, rfl⟩) (fun k hk => Or.inl ⟨hk, rfl, rfl, rfl, rfl⟩) (fun _ _ => Or.inl ⟨rfl, rfl, fun _ _ => rfl⟩) (fun _ _ _ _ => Or.inl rfl) (fun k hk => ⟨rfl, ?_⟩) (fun _ _ => rfl) (fun _ _ => ⟨rfl, fun _ _ => rfl⟩)
    · by_cases e : k = j
      · subst e
        right
        obtain ⟨c1, c2, c3, c4, c5, c6⟩ := h.cd hj
        refine ⟨c1, c2, c3, ?_, c5, ?_⟩
        · show up2 A 7 k v 7 k = -1 ∨ ∃ k', k' < t ∧ up2 A 7 k v 7 k = nI k' ∧ A 11 k' = 0
          rw [u_ss]; exact hv
        · show up2 (up2 A 7 k v) 9 k z 9 k = 0 ∨ up2 (up2 A 7 k v) 9 k z 9 k = 1
          rw [u_ss]; exact hz
      · exact Or.inl ⟨hk, (up2_k (A := up2 A 7 j v) e).trans (up2_k e), rfl, (up2_k (A := up2 A 7 j v) e).trans (up2_k e)⟩
    · exact up2_k (A := up2 A 7 j v) (q := 9) (show k ≠ j by have : d ≤ k := hk; omega)
  unfold S_lock
  refine ok1_ind (P := IjR) (by omega) (fun j hj _ => ?_) (fun _ => ⟨h, hJ⟩)
  refine cI_ind2 (P := IjR) (fun hy => ?_) (fun _ => ?_)
  · exact cI_ind2 (P := IjR) (fun _ => key j hj y (Or.inl hy)) (fun _ => ⟨h, hJ⟩)
  · refine ok1_ind (P := IjR) (by omega) (fun k hk _ => ?_) (fun _ => ⟨h, hJ⟩)
    exact cI_ind2 (P := IjR) (fun h0 => key j hj (nI k) (Or.inr ⟨k, hk, rfl, h0⟩)) (fun _ => ⟨h, hJ⟩)
theorem up2_k2 {A : ST} {j q1 q2 i k : Nat} {x y : Int32} (h : k ≠ i) : up2 (up2 A q1 i x) q2 i y j k = A j k := by
  rw [up2_k h, up2_k h]
theorem up2_k4 {A : ST} {j q1 q2 q3 q4 i k : Nat} {x y z u : Int32} (h : k ≠ i) : up2 (up2 (up2 (up2 A q1 i x) q2 i y) q3 i z) q4 i u j k = A j k := by
  rw [up2_k h, up2_k h, up2_k h, up2_k h]
theorem w18k (h : Inv r d t b A) {q k : Nat} (hq : q < b) (hk : k < 2 ^ 31) (e : A 18 q = nI k) : k < t ∧ (A 11 k = 2 ∨ A 11 k = 3) := by
  have hN := h.cn
  rcases (h.cb hq).2.1 with e1 | ⟨k', hk', e1, e2⟩
  · exact absurd (e.symm.trans e1) (nI_neg hk)
  · have := nI_inj hk (by omega) (e.symm.trans e1)
    subst this
    exact ⟨hk', e2⟩
theorem Ij_thing (h : Inv r d t b A) (hJ : Jv r t b A) (x y z : Int32) : IjR (S_thing r d t b A x y z) := by
  have hN := h.cn
  unfold S_thing
  refine ok1_ind (P := IjR) (by omega) (fun i hi _ => ?_) (fun _ => ⟨h, hJ⟩)
  refine ok1_ind (P := IjR) (by omega) (fun c hc _ => ?_) (fun _ => ⟨h, hJ⟩)
  refine cI_ind2 (P := IjR) (fun hz => ?_) (fun _ => ⟨h, hJ⟩)
  refine cI_ind2 (P := IjR) (fun _ => ⟨h, hJ⟩) (fun h30 => IjR_mk ?_ ⟨?_, hJ.2⟩)
  · refine Inv_gen h (t' := t + 1) (by omega) (Nat.le_refl _) (Nat.le_refl _) (by omega) (Nat.le_refl _) (fun _ _ => ⟨rfl, rfl⟩) (fun k hk => up2_k4 (by omega)) (fun _ _ hi _ => Or.inl ⟨hi, rfl⟩) (fun k hk => Or.inl ⟨hk, rfl, rfl, rfl⟩) (fun k hk => ?_) (fun k hk => Or.inl ⟨hk, rfl, rfl, rfl, rfl⟩) (fun _ _ => Or.inl ⟨rfl, rfl, fun _ _ => rfl⟩) (fun _ _ _ _ => Or.inl rfl) (fun _ _ => ⟨rfl, rfl⟩) (fun k hk => rfl) (fun _ _ => ⟨rfl, fun _ _ => rfl⟩)
    by_cases e : k = t
    · subst e
      right
      have a11 : up2 (up2 (up2 (up2 A 11 k (nI c)) 12 k z) 13 k (nI i)) 14 k (-1) 11 k = nI c := by rw [up2_n (by decide), up2_n (by decide), up2_n (by decide), u_ss]
      have a12 : up2 (up2 (up2 (up2 A 11 k (nI c)) 12 k z) 13 k (nI i)) 14 k (-1) 12 k = z := by rw [up2_n (by decide), up2_n (by decide), u_ss]
      have a13 : up2 (up2 (up2 (up2 A 11 k (nI c)) 12 k z) 13 k (nI i)) 14 k (-1) 13 k = nI i := by rw [up2_n (by decide), u_ss]
      refine ⟨⟨c, hc, a11⟩, Or.inl ⟨i, hi, a13⟩, Or.inl (u_ss _ _ _ _), Or.inl (h.zt (Nat.le_refl k)), ?_⟩
      rw [a12]
      have e1 : (1 : Int32).toInt = 1 := by decide
      have e9 : (9 : Int32).toInt = 9 := by decide
      have z1 := i32_le.mp hz.1
      have z9 := i32_le.mp hz.2
      rw [e1] at z1
      rw [e9] at z9
      obtain ⟨m, hm, rfl⟩ := isN_ex (x := z) (n := 10) (by unfold isN; omega) (by omega)
      rw [nI_toInt (by omega)] at z1 z9
      exact ⟨m, by omega, by omega, rfl⟩
    · exact Or.inl ⟨by omega, up2_k4 e, up2_k4 e, up2_k4 e, rfl⟩
  · intro q k hq hk hk2
    have hkt := (w18k h hq (by omega) hk2).1
    show up2 (up2 (up2 (up2 A 11 t (nI c)) 12 t z) 13 t (nI i)) 14 t (-1) 13 k = A 17 q
    rw [up2_k4 (by omega)]
    exact hJ.1 q k hq hkt hk2
theorem Ij_floats (h : Inv r d t b A) (hJ : Jv r t b A) (x y : Int32) : IjR (S_floats r d t b A x y) := by
  have hN := h.cn
  unfold S_floats
  refine ok1_ind (P := IjR) (by omega) (fun i hi _ => ?_) (fun _ => ⟨h, hJ⟩)
  refine cI_ind2 (P := IjR) (fun h1 => ?_) (fun _ => ⟨h, hJ⟩)
  refine ok1_ind (P := IjR) (by omega) (fun j hj _ => IjR_mk ?_ hJ) (fun _ => ⟨h, hJ⟩)
  refine Inv_gen h hN (Nat.le_refl _) (Nat.le_refl _) (Nat.le_refl _) (Nat.le_refl _) (fun _ _ => ⟨rfl, rfl⟩) (fun _ _ => rfl) (fun _ _ hi _ => Or.inl ⟨hi, rfl⟩) (fun k hk => Or.inl ⟨hk, rfl, rfl, rfl⟩) (fun k hk => ?_) (fun k hk => Or.inl ⟨hk, rfl, rfl, rfl, rfl⟩) (fun _ _ => Or.inl ⟨rfl, rfl, fun _ _ => rfl⟩) (fun _ _ _ _ => Or.inl rfl) (fun _ _ => ⟨rfl, rfl⟩) (fun _ _ => rfl) (fun _ _ => ⟨rfl, fun _ _ => rfl⟩)
  by_cases e : k = i
  · subst e
    right
    obtain ⟨c1, c2, c3, c4, c5⟩ := h.ct hi
    refine ⟨c1, ?_, Or.inr ⟨j, hj, u_ss _ _ _ _, h1⟩, c4, c5⟩
    rcases c2 with q | ⟨w, hw, e1, e2, e3⟩
    · exact Or.inl q
    · rw [h1] at e2; exact absurd e2 (by decide)
  · exact Or.inl ⟨hk, rfl, rfl, up2_k e, rfl⟩
theorem Ij_being (h : Inv r d t b A) (hJ : Jv r t b A) (x : Int32) : IjR (S_being r d t b A x) := by
  have hN := h.cn
  unfold S_being
  refine ok1_ind (P := IjR) (by omega) (fun i hi _ => ?_) (fun _ => ⟨h, hJ⟩)
  refine cI_ind2 (P := IjR) (fun _ => ⟨h, hJ⟩) (fun h6 => IjR_mk ?_ ⟨?_, hJ.2⟩)
  · refine Inv_gen h (b' := b + 1) (by omega) (Nat.le_refl _) (Nat.le_refl _) (Nat.le_refl _) (by omega) (fun _ _ => ⟨rfl, rfl⟩) (fun _ _ => rfl) (fun _ _ hi _ => Or.inl ⟨hi, rfl⟩) (fun k hk => Or.inl ⟨hk, rfl, rfl, rfl⟩) (fun k hk => Or.inl ⟨hk, rfl, rfl, rfl, rfl⟩) (fun k hk => ?_) (fun _ _ => Or.inl ⟨rfl, rfl, fun _ _ => rfl⟩) (fun _ _ _ _ => Or.inl rfl) (fun _ _ => ⟨rfl, rfl⟩) (fun _ _ => rfl) (fun _ _ => ⟨rfl, fun _ _ => rfl⟩)
    by_cases e : k = b
    · subst e
      right
      have a17 : up2 (up2 (up2 A 17 k (nI i)) 18 k (-1)) 19 k (-1) 17 k = nI i := by rw [up2_n (by decide), up2_n (by decide), u_ss]
      have a18 : up2 (up2 (up2 A 17 k (nI i)) 18 k (-1)) 19 k (-1) 18 k = -1 := by rw [up2_n (by decide), u_ss]
      exact ⟨⟨i, hi, a17⟩, Or.inl a18, Or.inl (u_ss _ _ _ _), ⟨0, by omega, (h.zb (Nat.le_refl k)).1⟩⟩
    · exact Or.inl ⟨by omega, up2_k3 e, up2_k3 e, up2_k3 e, rfl⟩
  · intro q k hq hk
    show up2 (up2 (up2 A 17 b (nI i)) 18 b (-1)) 19 b (-1) 18 q = nI k → A 13 k = up2 (up2 (up2 A 17 b (nI i)) 18 b (-1)) 19 b (-1) 17 q
    by_cases e : q = b
    · subst e
      intro z
      rw [up2_n (by decide), u_ss] at z
      exact absurd z.symm (nI_neg (by omega))
    · rw [up2_k3 e, up2_k3 e]
      exact hJ.1 q k (by omega) hk
theorem Ij_d (h : Inv r d t b A) (hJ : Jv r t b A) {j f : Nat} {z v : Int32} (hj : j < d) (hf : f = 8 ∨ f = 9) (hz : z = 0 ∨ z = 1) : IjR (v, r, d, t, b, up2 A f j z) := by
  have hN := h.cn
  rcases hf with rfl | rfl
  · refine IjR_mk ?_ hJ
    refine Inv_gen h hN (Nat.le_refl _) (Nat.le_refl _) (Nat.le_refl _) (Nat.le_refl _) (fun _ _ => ⟨rfl, rfl⟩) (fun _ _ => rfl) (fun _ _ hi _ => Or.inl ⟨hi, rfl⟩) (fun k hk => ?_) (fun k hk => Or.inl ⟨hk, rfl, rfl, rfl, rfl⟩) (fun k hk => Or.inl ⟨hk, rfl, rfl, rfl, rfl⟩) (fun _ _ => Or.inl ⟨rfl, rfl, fun _ _ => rfl⟩) (fun _ _ _ _ => Or.inl rfl) (fun k hk => ⟨up2_k (by omega), rfl⟩) (fun _ _ => rfl) (fun _ _ => ⟨rfl, fun _ _ => rfl⟩)
    by_cases e : k = j
    · subst e
      obtain ⟨c1, c2, c3, c4, c5, c6⟩ := h.cd hj
      exact Or.inr ⟨c1, c2, c3, c4, by rw [u_ss]; exact hz, c6⟩
    · exact Or.inl ⟨hk, rfl, up2_k e, rfl⟩
  · refine IjR_mk ?_ hJ
    refine Inv_gen h hN (Nat.le_refl _) (Nat.le_refl _) (Nat.le_refl _) (Nat.le_refl _) (fun _ _ => ⟨rfl, rfl⟩) (fun _ _ => rfl) (fun _ _ hi _ => Or.inl ⟨hi, rfl⟩) (fun k hk => ?_) (fun k hk => Or.inl ⟨hk, rfl, rfl, rfl, rfl⟩) (fun k hk => Or.inl ⟨hk, rfl, rfl, rfl, rfl⟩) (fun _ _ => Or.inl ⟨rfl, rfl, fun _ _ => rfl⟩) (fun _ _ _ _ => Or.inl rfl) (fun k hk => ⟨rfl, up2_k (by omega)⟩) (fun _ _ => rfl) (fun _ _ => ⟨rfl, fun _ _ => rfl⟩)
    by_cases e : k = j
    · subst e
      obtain ⟨c1, c2, c3, c4, c5, c6⟩ := h.cd hj
      exact Or.inr ⟨c1, c2, c3, c4, c5, by rw [u_ss]; exact hz⟩
    · exact Or.inl ⟨hk, rfl, rfl, up2_k e⟩
theorem Ij_act (h : Inv r d t b A) (hJ : Jv r t b A) (x y z : Int32) : IjR (S_act r d t b A x y z) := by
  have hN := h.cn
  unfold S_act
  refine ok1_ind (P := IjR) (by omega) (fun w hw _ => ?_) (fun _ => ⟨h, hJ⟩)
  refine ok1_ind (P := IjR) (by omega) (fun c hc _ => ?_) (fun _ => ⟨h, hJ⟩)
  refine ok1_ind (P := IjR) (by omega) (fun j hj _ => ?_) (fun _ => ⟨h, hJ⟩)
  refine cI_ind2 (P := IjR) (fun _ => ?_) (fun _ => ⟨h, hJ⟩)
  unfold acA
  by_cases e : c < 2
  · rw [cI_t e]; exact Ij_d h hJ hj (Or.inl rfl) (b2_01 _)
  · rw [cI_f e]; exact Ij_d h hJ hj (Or.inr rfl) (b2_01 _)
theorem Ij_leave (h : Inv r d t b A) (hJ : Jv r t b A) (x : Int32) : IjR (S_leave r d t b A x) := by
  have hN := h.cn
  unfold S_leave
  refine ok1_ind (P := IjR) (by omega) (fun w hw _ => ?_) (fun _ => ⟨h, hJ⟩)
  refine cI_ind2 (P := IjR) (fun _ => ⟨h, hJ⟩) (fun _ => ?_)
  refine cI_ind2 (P := IjR) (fun _ => ⟨h, hJ⟩) (fun _ => IjR_mk ?_ ⟨?_, hJ.2⟩)
  · refine Inv_gen h hN (Nat.le_refl _) (Nat.le_refl _) (Nat.le_refl _) (Nat.le_refl _) (fun _ _ => ⟨rfl, rfl⟩) (fun _ _ => rfl) (fun _ _ hi _ => Or.inl ⟨hi, rfl⟩) (fun k hk => Or.inl ⟨hk, rfl, rfl, rfl⟩) (fun k hk => Or.inl ⟨hk, rfl, rfl, rfl, rfl⟩) (fun k hk => ?_) (fun _ _ => Or.inl ⟨rfl, rfl, fun _ _ => rfl⟩) (fun _ _ _ _ => Or.inl rfl) (fun k hk => ⟨rfl, rfl⟩) (fun _ _ => rfl) (fun _ _ => ⟨rfl, fun _ _ => rfl⟩)
    by_cases e : k = w
    · subst e
      obtain ⟨c1, c2, c3, c4⟩ := h.cb hw
      exact Or.inr ⟨c1, Or.inl (u_ss _ _ _ _), c3, c4⟩
    · exact Or.inl ⟨hk, rfl, up2_k e, rfl, rfl⟩
  · intro q k hq hk
    show up2 A 18 w (-1) 18 q = nI k → A 13 k = A 17 q
    by_cases e : q = w
    · subst e
      intro z
      rw [u_ss] at z
      exact absurd z.symm (nI_neg (by omega))
    · rw [up2_k e]; exact hJ.1 q k hq hk
/-- a thing of sort 0 is put elsewhere -/
theorem Ij_13 (h : Inv r d t b A) (hJ : Jv r t b A) {i : Nat} {v x : Int32} (hi : i < t) (h0 : A 11 i = 0) (hx : (∃ k, k < r ∧ x = nI k) ∨ ∃ w, w < b ∧ x = nI (100 + w) ∧ A 14 i = -1) : IjR (v, r, d, t, b, up2 A 13 i x) := by
  have hN := h.cn
  refine IjR_mk ?_ ⟨?_, hJ.2⟩
  · refine Inv_gen h hN (Nat.le_refl _) (Nat.le_refl _) (Nat.le_refl _) (Nat.le_refl _) (fun _ _ => ⟨rfl, rfl⟩) (fun _ _ => rfl) (fun _ _ hi _ => Or.inl ⟨hi, rfl⟩) (fun k hk => Or.inl ⟨hk, rfl, rfl, rfl⟩) (fun k hk => ?_) (fun k hk => Or.inl ⟨hk, rfl, rfl, rfl, rfl⟩) (fun _ _ => Or.inl ⟨rfl, rfl, fun _ _ => rfl⟩) (fun _ _ _ _ => Or.inl rfl) (fun k hk => ⟨rfl, rfl⟩) (fun _ _ => rfl) (fun _ _ => ⟨rfl, fun _ _ => rfl⟩)
    by_cases e : k = i
    · subst e
      obtain ⟨c1, c2, c3, c4, c5⟩ := h.ct hi
      refine Or.inr ⟨c1, ?_, c3, c4, c5⟩
      rw [u_ss]
      exact hx.imp id (fun ⟨w, hw, e, e2⟩ => ⟨w, hw, e, h0, e2⟩)
    · exact Or.inl ⟨hk, rfl, up2_k e, rfl, rfl⟩
  · intro q k hq hk hk2
    show up2 A 13 i x 13 k = A 17 q
    have := (w18k h hq (by omega) hk2).2
    have e : k ≠ i := fun z => by
      rw [z, h0] at this
      rcases this with z | z <;> exact absurd z (by decide)
    rw [up2_k e]
    exact hJ.1 q k hq hk hk2
theorem hol_0 (h : Inv r d t b A) {w i : Nat} (hw : w < b) (hi : i < t) (hh : hol A w i) : A 11 i = 0 := by
  have hN := h.cn
  rcases (h.ct hi).2.1 with ⟨p, hp, hpl⟩ | ⟨v, hv, hpl, hs0, hf0⟩
  · have := nI_inj (by omega) (by omega) (hpl.symm.trans hh.2); omega
  · exact hs0
theorem Ij_handle (h : Inv r d t b A) (hJ : Jv r t b A) (x y z : Int32) : IjR (S_handle r d t b A x y z) := by
  have hN := h.cn
  unfold S_handle
  refine ok1_ind (P := IjR) (by omega) (fun w hw _ => ?_) (fun _ => ⟨h, hJ⟩)
  refine ok1_ind (P := IjR) (by omega) (fun c hc _ => ?_) (fun _ => ⟨h, hJ⟩)
  refine ok1_ind (P := IjR) (by omega) (fun i hi _ => ?_) (fun _ => ⟨h, hJ⟩)
  refine cI_ind2 (P := IjR) (fun h0 => ?_) (fun _ => ⟨h, hJ⟩)
  unfold hdT at h0
  obtain ⟨a, ha, ea⟩ := (h.cb hw).1
  by_cases c1 : c = 1
  · rw [cI_t c1] at h0
    have hh : hol A w i := Classical.byContradiction fun q => by rw [cI_f q] at h0; exact absurd h0 (by decide)
    unfold hdA
    rw [cI_f (by omega), cI_t c1]
    exact Ij_13 h hJ hi (hol_0 h hw hi hh) (Or.inl ⟨a, ha, ea⟩)
  · rw [cI_f c1] at h0
    have hT : hasT A w i := Classical.byContradiction fun q => by rw [cI_f q] at h0; exact absurd h0 (by decide)
    rw [cI_t hT] at h0
    by_cases c0 : c = 0
    · rw [cI_t c0] at h0
      have nh : ¬ hol A w i := fun q => by rw [cI_t q] at h0; exact absurd h0 (by decide)
      rw [cI_f nh] at h0
      have s0 : A 11 i = 0 := Classical.byContradiction fun q => by rw [cI_f q] at h0; exact absurd h0 (by decide)
      unfold hdA
      rw [cI_t c0]
      refine Ij_13 h hJ hi s0 (Or.inr ⟨w, hw, rfl, ?_⟩)
      rcases (h.ct hi).2.2.1 with q | ⟨k, hk, q, q2⟩
      · exact q
      · rw [s0] at q2; exact absurd q2 (by decide)
    · rw [cI_f c0] at h0
      by_cases c2 : c = 2
      · rw [cI_t c2] at h0
        have s2 : A 11 i = 2 ∨ A 11 i = 3 := Classical.byContradiction fun q => by rw [cI_f q] at h0; exact absurd h0 (by decide)
        rw [cI_t s2] at h0
        have w1 : A 18 w = -1 := Classical.byContradiction fun q => by rw [cI_f q] at h0; exact absurd h0 (by decide)
        unfold hdA
        rw [cI_f c0, cI_f c1, cI_t c2]
        have n0 : A 11 i ≠ 0 := fun q => by rw [q] at s2; rcases s2 with z | z <;> exact absurd z (by decide)
        have n1 : A 11 i ≠ 1 := fun q => by rw [q] at s2; rcases s2 with z | z <;> exact absurd z (by decide)
        have f1 : A 14 i = -1 := by
          rcases (h.ct hi).2.2.1 with q | ⟨k, hk, q, q2⟩
          · exact q
          · exact absurd q2 n1
        have h13 : A 13 i = A 17 w := by
          rcases hT with q | q | ⟨-, q⟩
          · exact absurd (hol_0 h hw hi q) n0
          · exact absurd w1 q.1.1
          · rw [ea, nI_clamp (by omega)] at q
            rw [ea]
            exact (tIn_neg f1).mp q
        refine IjR_mk ?_ ⟨?_, hJ.2⟩
        · refine Inv_gen h hN (Nat.le_refl _) (Nat.le_refl _) (Nat.le_refl _) (Nat.le_refl _) (fun _ _ => ⟨rfl, rfl⟩) (fun _ _ => rfl) (fun _ _ hi _ => Or.inl ⟨hi, rfl⟩) (fun k hk => Or.inl ⟨hk, rfl, rfl, rfl⟩) (fun k hk => Or.inl ⟨hk, rfl, rfl, rfl, rfl⟩) (fun k hk => ?_) (fun _ _ => Or.inl ⟨rfl, rfl, fun _ _ => rfl⟩) (fun _ _ _ _ => Or.inl rfl) (fun k hk => ⟨rfl, rfl⟩) (fun _ _ => rfl) (fun _ _ => ⟨rfl, fun _ _ => rfl⟩)
          by_cases e : k = w
          · subst e
            obtain ⟨d1, d2, d3, d4⟩ := h.cb hw
            exact Or.inr ⟨d1, Or.inr ⟨i, hi, u_ss _ _ _ _, s2⟩, d3, d4⟩
          · exact Or.inl ⟨hk, rfl, up2_k e, rfl, rfl⟩
        · intro q k hq hk
          show up2 A 18 w (nI i) 18 q = nI k → A 13 k = A 17 q
          by_cases e : q = w
          · subst e
            intro z
            rw [u_ss] at z
            rw [← nI_inj (by omega) (by omega) z]
            exact h13
          · rw [up2_k e]; exact hJ.1 q k hq hk
      · unfold hdA
        rw [cI_f c0, cI_f c1, cI_f c2]
        refine IjR_mk ?_ hJ
        refine Inv_gen h hN (Nat.le_refl _) (Nat.le_refl _) (Nat.le_refl _) (Nat.le_refl _) (fun _ _ => ⟨rfl, rfl⟩) (fun _ _ => rfl) (fun _ _ hi _ => Or.inl ⟨hi, rfl⟩) (fun k hk => Or.inl ⟨hk, rfl, rfl, rfl⟩) (fun k hk => ?_) (fun k hk => Or.inl ⟨hk, rfl, rfl, rfl, rfl⟩) (fun _ _ => Or.inl ⟨rfl, rfl, fun _ _ => rfl⟩) (fun _ _ _ _ => Or.inl rfl) (fun k hk => ⟨rfl, rfl⟩) (fun k hk => up2_k (by omega)) (fun _ _ => ⟨rfl, fun _ _ => rfl⟩)
        by_cases e : k = i
        · subst e
          obtain ⟨d1, d2, d3, d4, d5⟩ := h.ct hi
          exact Or.inr ⟨d1, d2, d3, by rw [u_ss]; exact b2_01 _, d5⟩
        · exact Or.inl ⟨hk, rfl, rfl, rfl, up2_k e⟩
end KP
