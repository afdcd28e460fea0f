section KM
variable {r d t b : Nat} {A : ST}
theorem cmN_17 (A : ST) (G : Nat → Prop) (room to : Int32) (n q : Nat) : cmN A G room to n 17 q = cI (q < n ∧ G q) to (A 17 q) := by
  induction n with
  | zero => rw [cI_f (by omega)]; rfl
  | succ n ih =>
    by_cases h : G n
    · rw [cmN_t h]
      by_cases e : q = n
      · subst e; rw [u_ss, cI_t ⟨by omega, h⟩]
      · rw [up2_k e, up2_k e, ih]
        exact cI_iff ⟨fun z => ⟨by omega, z.2⟩, fun z => ⟨by omega, z.2⟩⟩
    · rw [cmN_f h, ih]
      refine cI_iff ⟨fun z => ⟨by omega, z.2⟩, fun z => ⟨?_, z.2⟩⟩
      have : q ≠ n := fun e => h (e ▸ z.2)
      omega
theorem cmN_19 (A : ST) (G : Nat → Prop) (room to : Int32) (n q : Nat) : cmN A G room to n 19 q = cI (q < n ∧ G q) room (A 19 q) := by
  induction n with
  | zero => rw [cI_f (by omega)]; rfl
  | succ n ih =>
    by_cases h : G n
    · rw [cmN_t h]
      by_cases e : q = n
      · subst e; rw [up2_n (by decide), u_ss, cI_t ⟨by omega, h⟩]
      · rw [up2_k e, up2_k e, ih]
        exact cI_iff ⟨fun z => ⟨by omega, z.2⟩, fun z => ⟨by omega, z.2⟩⟩
    · rw [cmN_f h, ih]
      refine cI_iff ⟨fun z => ⟨by omega, z.2⟩, fun z => ⟨?_, z.2⟩⟩
      have : q ≠ n := fun e => h (e ▸ z.2)
      omega
def Z20 (b : Nat) (A A' : ST) : Prop := ∀ i, b ≤ i → A' 21 i = A 21 i ∧ ∀ j, j < 8 → A' 20 (8 * i + j) = A 20 (8 * i + j)
theorem Z20.tr {A1 A2 A3 : ST} (h : Z20 b A1 A2) (h2 : Z20 b A2 A3) : Z20 b A1 A3 := fun i hi => ⟨(h2 i hi).1.trans (h i hi).1, fun j hj => ((h2 i hi).2 j hj).trans ((h i hi).2 j hj)⟩
theorem Z20.rf {A1 : ST} : Z20 b A1 A1 := fun _ _ => ⟨rfl, fun _ _ => rfl⟩
theorem Z20_tl {w : Nat} {x : Int32} (hw : w < b) : Z20 b A (tlA A w x) := by
  intro i hi
  unfold tlA
  refine ⟨?_, fun j hj => ?_⟩
  · rw [up2_k (by omega), hear_o (by decide)]
  · rw [up2_n (by decide), hear_k (by omega) hj]
theorem Z20_ti {room x : Int32} {G : Nat → Prop} : ∀ n, n ≤ b → Z20 b A (tiN A room G x n) := by
  intro n
  induction n with
  | zero => exact fun _ => Z20.rf
  | succ n ih =>
    intro hn
    show Z20 b A (cI _ _ _)
    exact cI_ind (P := Z20 b A) ((ih (by omega)).tr (Z20_tl (by omega))) (ih (by omega))
theorem Z20_td {room to : Int32} {G : Nat → Prop} {j : Nat} : ∀ n, n ≤ b → Z20 b A (tdN A b G room to j n) := by
  intro n
  induction n with
  | zero => exact fun _ => Z20.rf
  | succ n ih =>
    intro hn
    show Z20 b A (cI _ _ _)
    exact cI_ind (P := Z20 b A) (((ih (by omega)).tr (Z20_ti b (Nat.le_refl b))).tr (Z20_ti b (Nat.le_refl b))) (ih (by omega))
theorem mv_o {G : Nat → Prop} {th : Int32} {i j q : Nat} (h13 : q ≠ 13) (h17 : q ≠ 17) (h19 : q ≠ 19) (h20 : q ≠ 20) (h21 : q ≠ 21) (h24 : q ≠ 24) : mvA A b G th i j q = A q := by
  rw [mv_T]
  have e : cmN (tdN (tnA A i j) b G (nI i) (ldT A i j) j b) G (nI i) (ldT A i j) b q = A q := by rw [cmN_o _ _ _ _ _ h17 h19, tdN_o _ _ _ _ _ _ _ h20 h21, tnA_o _ _ _ h24]
  unfold mvT
  exact cI_ind2 (P := fun z : ST => z q = A q) (fun _ => e) (fun _ => by rw [up2_n h13]; exact e)
theorem mv_q {G : Nat → Prop} {th : Int32} {i j q : Nat} (h13 : q ≠ 13) : mvA A b G th i j q = cmN (tdN (tnA A i j) b G (nI i) (ldT A i j) j b) G (nI i) (ldT A i j) b q := by
  rw [mv_T]
  unfold mvT
  exact cI_ind2 (P := fun z : ST => z q = _) (fun _ => rfl) (fun _ => by rw [up2_n h13])
theorem mv_17 {G : Nat → Prop} {th : Int32} {i j q : Nat} : mvA A b G th i j 17 q = cI (q < b ∧ G q) (ldT A i j) (A 17 q) := by
  rw [mv_q (by decide), cmN_17, tdN_o _ _ _ _ _ _ _ (by decide) (by decide), tnA_o _ _ _ (by decide)]
theorem mv_19 {G : Nat → Prop} {th : Int32} {i j q : Nat} : mvA A b G th i j 19 q = cI (q < b ∧ G q) (nI i) (A 19 q) := by
  rw [mv_q (by decide), cmN_19, tdN_o _ _ _ _ _ _ _ (by decide) (by decide), tnA_o _ _ _ (by decide)]
theorem mv_24 {G : Nat → Prop} {th : Int32} {i j : Nat} : mvA A b G th i j 24 = tnA A i j 24 := by
  rw [mv_q (by decide), cmN_o _ _ _ _ _ (by decide) (by decide), tdN_o _ _ _ _ _ _ _ (by decide) (by decide)]
theorem mv_13n {G : Nat → Prop} {i j : Nat} : mvA A b G (-1) i j 13 = A 13 := by
  rw [mv_T, mvT_n, cmN_o _ _ _ _ _ (by decide) (by decide), tdN_o _ _ _ _ _ _ _ (by decide) (by decide), tnA_o _ _ _ (by decide)]
theorem mv_13k {G : Nat → Prop} {i j k : Nat} (hk : k < 2 ^ 31) : mvA A b G (nI k) i j 13 = upd (A 13) k (ldT A i j) := by
  rw [mv_T, mvT_k hk, up2_s, cmN_o _ _ _ _ _ (by decide) (by decide), tdN_o _ _ _ _ _ _ _ (by decide) (by decide), tnA_o _ _ _ (by decide)]
theorem mv_Z {G : Nat → Prop} {th : Int32} {i j : Nat} : Z20 b A (mvA A b G th i j) := by
  intro q hq
  have h1 : Z20 b (tnA A i j) (tdN (tnA A i j) b G (nI i) (ldT A i j) j b) := Z20_td b (Nat.le_refl b)
  have h2 := h1 q hq
  rw [tnA_o _ _ _ (by decide), tnA_o _ _ _ (by decide)] at h2
  rw [mv_q (by decide), mv_q (by decide), cmN_o _ _ _ _ _ (by decide) (by decide), cmN_o _ _ _ _ _ (by decide) (by decide)]
  exact h2
theorem mv_21 (h : Inv r d t b A) {G : Nat → Prop} {th : Int32} {i j : Nat} : N21 b (mvA A b G th i j) := by
  have h1 : N21 b (tnA A i j) := fun v hv => by rw [tnA_o A i j (by decide)]; exact (h.cb hv).2.2.2
  intro v hv
  rw [mv_q (by decide), cmN_o _ _ _ _ _ (by decide) (by decide)]
  exact N21_td h1 b (Nat.le_refl b) v hv
theorem Ij_mv (h : Inv r d t b A) (hJ : Jv r t b A) {i j x : Nat} (hi : i < r) (hx : x < r) (hld : ldT A i j = nI x) (hwy : wOk r d A i (A 2 (8 * i + j))) {G : Nat → Prop} {th v : Int32} (hth : th = -1 ∨ ∃ k, k < t ∧ th = nI k) (hg1 : ∀ q k, q < b → k < t → G q → A 18 q = nI k → th = nI k) (hg2 : ∀ q k, q < b → k < t → th = nI k → A 18 q = nI k → G q) : IjR (v, r, d, t, b, mvA A b G th i j) := by
  have hN := h.cn
  have o : ∀ q, q ≠ 13 → q ≠ 17 → q ≠ 19 → q ≠ 20 → q ≠ 21 → q ≠ 24 → mvA A b G th i j q = A q := fun q a1 a2 a3 a4 a5 a6 => mv_o a1 a2 a3 a4 a5 a6
  have e : ∀ q, q = 2 ∨ q = 3 ∨ q = 5 ∨ q = 6 ∨ q = 7 ∨ q = 8 ∨ q = 9 ∨ q = 11 ∨ q = 12 ∨ q = 14 ∨ q = 15 ∨ q = 18 ∨ q = 22 ∨ q = 23 ∨ q = 25 → mvA A b G th i j q = A q := fun q hq => o q (by omega) (by omega) (by omega) (by omega) (by omega) (by omega)
  have p13 : ∀ k, mvA A b G th i j 13 k = A 13 k ∨ (th = nI k ∧ mvA A b G th i j 13 k = nI x) := by
    intro k
    rcases hth with rfl | ⟨k', hk', rfl⟩
    · rw [mv_13n]; exact Or.inl rfl
    · rw [mv_13k (by omega)]
      by_cases q : k = k'
      · subst q; rw [pk_us]; exact Or.inr ⟨rfl, hld⟩
      · rw [pk_un q]; exact Or.inl rfl
  refine IjR_mk ?_ ⟨?_, ?_⟩
  · refine Inv_gen h hN (Nat.le_refl _) (Nat.le_refl _) (Nat.le_refl _) (Nat.le_refl _) (fun k _ => ⟨by rw [e 5 (by omega)], by rw [e 6 (by omega)]⟩) (fun k _ => by rw [e 11 (by omega)]) (fun i' j' hi' _ => Or.inl ⟨hi', by rw [e 2 (by omega)]⟩) (fun k hk => Or.inl ⟨hk, by rw [e 7 (by omega)], by rw [e 8 (by omega)], by rw [e 9 (by omega)]⟩) (fun k hk => ?_) (fun k hk => ?_) (fun k hk => ?_) (fun i' j' _ _ => Or.inl (by rw [e 25 (by omega)])) (fun k hk => ⟨by rw [e 8 (by omega)], by rw [e 9 (by omega)]⟩) (fun k _ => by rw [e 15 (by omega)]) mv_Z
    · rcases p13 k with q | ⟨q, q2⟩
      · exact Or.inl ⟨hk, by rw [e 12 (by omega)], q, by rw [e 14 (by omega)], by rw [e 15 (by omega)]⟩
      · obtain ⟨c1, c2, c3, c4, c5⟩ := h.ct hk
        right
        unfold tOk
        rw [e 11 (by omega), e 12 (by omega), e 14 (by omega), e 15 (by omega), q2]
        exact ⟨c1, Or.inl ⟨x, hx, rfl⟩, c3, c4, c5⟩
    · right
      obtain ⟨c1, c2, c3, c4⟩ := h.cb hk
      unfold bOk
      rw [e 18 (by omega), e 11 (by omega), mv_17, mv_19]
      refine ⟨?_, c2, ?_, mv_21 h k hk⟩
      · exact cI_ind (P := fun z : Int32 => ∃ k, k < r ∧ z = nI k) ⟨x, hx, hld⟩ c1
      · exact cI_ind (P := fun z : Int32 => z = -1 ∨ ∃ k, k < r ∧ z = nI k) (Or.inr ⟨i, hi, rfl⟩) c3
    · by_cases hw : A 2 (8 * i + j) = nI (300 + k)
      · obtain ⟨m, q, hm, e1, e2, e3, e4⟩ := h.cr hk
        have hm0 : m ≠ 0 := fun z => by
          rw [ldT_rule hw hk e2 (by omega), cI_t (by rw [e1, z]; rfl)] at hld
          exact nI_neg (show x < 2 ^ 31 by omega) hld.symm
        right
        refine ⟨m, (q + 1) % m, hm, by rw [e 23 (by omega)]; exact e1, ?_, Or.inl (Nat.mod_lt _ (by omega)), fun j' hj' => by rw [e 22 (by omega)]; exact e4 j' hj'⟩
        rw [mv_24, tnA_rule hw hk e2 (by omega) e1 (by omega), u_ss]
      · refine Or.inl ⟨by rw [e 23 (by omega)], ?_, fun j' _ => by rw [e 22 (by omega)]⟩
        rw [mv_24]
        rcases hwy with q | ⟨k', hk', q⟩ | ⟨k', hk', q, -⟩ | ⟨k', hk', q⟩ | ⟨k', hk', q⟩
        · rw [tnA_lt (by rw [q]; decide)]
        · rw [tnA_lt (by rw [q]; exact ylt (b := 300) (by omega) (by omega) (by omega))]
        · rw [tnA_lt (by rw [q]; exact ylt (b := 300) (by omega) (by omega) (by omega))]
        · rw [tnA_lt (by rw [q]; exact ylt (b := 300) (by omega) (by omega) (by omega))]
        · obtain ⟨m, q', hm, e1, e2, e3, -⟩ := h.cr hk'
          rw [tnA_rule q hk' e2 (by omega) e1 (by omega), up2_k (fun z => hw (by rw [z]; exact q))]
  · intro q k hq hk hk2
    rw [e 18 (by omega)] at hk2
    rw [mv_17]
    by_cases hG : G q
    · rw [cI_t ⟨hq, hG⟩]
      have ht := hg1 q k hq hk hG hk2
      subst ht
      rw [mv_13k (by omega), pk_us]
    · rw [cI_f (fun z => hG z.2)]
      rcases p13 k with z | ⟨z, -⟩
      · rw [z]; exact hJ.1 q k hq hk hk2
      · exact absurd (hg2 q k hq hk z hk2) hG
  · intro i' j' hi' hj'
    rw [e 3 (by omega)]
    exact hJ.2 i' j' hi' hj'
theorem Ij_tr (h : Inv r d t b A) (hJ : Jv r t b A) {i j : Nat} (hi : i < r) (hj : j < 8) {G : Nat → Prop} {th s : Int32} (hth : th = -1 ∨ ∃ k, k < t ∧ th = nI k) (hg1 : ∀ q k, q < b → k < t → G q → A 18 q = nI k → th = nI k) (hg2 : ∀ q k, q < b → k < t → th = nI k → A 18 q = nI k → G q) : IjR ((trS A b G th s i j).1, r, d, t, b, (trS A b G th s i j).2) := by
  unfold trS
  by_cases h0 : wyT A i j s = 0
  · obtain ⟨x, hx, hld⟩ := wyT_0 h hi hj h0
    rw [cI_t h0]
    exact Ij_mv h hJ hi hx hld (h.cw hi hj) hth hg1 hg2
  · rw [cI_f h0]
    exact ⟨h, hJ⟩
theorem Ij_gb (h : Inv r d t b A) (hJ : Jv r t b A) {w j : Nat} (hw : w < b) (hj : j < 8) : IjR ((gbS A b w j).1, r, d, t, b, (gbS A b w j).2) := by
  have hN := h.cn
  obtain ⟨i, hi, h17⟩ := (h.cb hw).1
  rcases (h.cb hw).2.1 with hw1 | ⟨k, hk, hw1, hk2⟩
  · rw [gb_n hw1 h17 (by omega)]
    refine Ij_tr h hJ hi hj (Or.inl rfl) (fun q k hq hk hG e => ?_) (fun q k hq hk hth e => ?_)
    · exfalso
      rcases hG with ⟨-, rfl⟩ | ⟨z, -⟩
      · exact nI_neg (show k < 2 ^ 31 by omega) (e.symm.trans hw1)
      · exact z hw1
    · exact absurd hth.symm (nI_neg (by omega))
  · by_cases h3 : A 11 k = 3
    · rw [gb_3 hw1 (by omega) h3]; exact ⟨h, hJ⟩
    · rw [gb_k hw1 (by omega) h3 h17 (by omega)]
      refine Ij_tr h hJ hi hj (Or.inr ⟨k, hk, rfl⟩) (fun q k' hq hk' hG e => ?_) (fun q k' hq hk' hth e => ?_)
      · rcases hG with ⟨z, -⟩ | ⟨-, z⟩
        · exact absurd (hw1.symm.trans z) (nI_neg (by omega))
        · rw [← hw1, ← z, e]
      · exact Or.inr ⟨fun z => nI_neg (show k < 2 ^ 31 by omega) (hw1.symm.trans z), by rw [hw1, hth, e]⟩
theorem Ij_go (h : Inv r d t b A) (hJ : Jv r t b A) (x y : Int32) : IjR (S_go r d t b A x y) := by
  have hN := h.cn
  unfold S_go
  refine ok1_ind (P := IjR) (by omega) (fun w hw _ => ?_) (fun _ => ⟨h, hJ⟩)
  exact ok1_ind (P := IjR) (by omega) (fun j hj _ => Ij_gb h hJ hw hj) (fun _ => ⟨h, hJ⟩)
theorem Ij_back (h : Inv r d t b A) (hJ : Jv r t b A) (x : Int32) : IjR (S_back r d t b A x) := by
  have hN := h.cn
  unfold S_back
  refine ok1_ind (P := IjR) (by omega) (fun w hw _ => ?_) (fun _ => ⟨h, hJ⟩)
  refine cI_ind2 (P := IjR) (fun _ => ⟨h, hJ⟩) (fun hb => ?_)
  rcases bkD_ex A w with e | ⟨j, hj, e⟩
  · exact absurd e hb
  · rw [e, nI_clamp (by omega)]
    exact Ij_gb h hJ hw hj
theorem Ij_follow (h : Inv r d t b A) (hJ : Jv r t b A) (x y : Int32) : IjR (S_follow r d t b A x y) := by
  have hN := h.cn
  unfold S_follow
  refine ok1_ind (P := IjR) (by omega) (fun w hw _ => ?_) (fun _ => ⟨h, hJ⟩)
  refine ok1_ind (P := IjR) (by omega) (fun v hv _ => ?_) (fun _ => ⟨h, hJ⟩)
  obtain ⟨i, hi, h17⟩ := (h.cb hw).1
  obtain ⟨e, he, h17v⟩ := (h.cb hv).1
  rw [h17, h17v, nI_clamp (by omega), nI_clamp (by omega)]
  refine cI_ind2 (P := IjR) (fun _ => ⟨h, hJ⟩) (fun hne => ?_)
  refine cI_ind2 (P := IjR) (fun _ => ⟨h, hJ⟩) (fun h9 => ?_)
  have hd0 : dst A r i e ≠ 0 := fun z => by
    have hx : ∃ n, pth A r n i e := Classical.byContradiction fun q => h9 (dst_none q)
    have := (dst_spec hx).1
    rw [z] at this
    exact hne (by rw [show i = e from this])
  obtain ⟨n, hn⟩ : ∃ n, dst A r i e = n + 1 := ⟨dst A r i e - 1, by omega⟩
  obtain ⟨j, x, hj, hx, hs, -⟩ := stI_ok hi hN.1 hn (by omega)
  rw [hs, nI_clamp (by omega)]
  exact Ij_gb h hJ hw hj
theorem Ij_push (h : Inv r d t b A) (hJ : Jv r t b A) (x y z : Int32) : IjR (S_push r d t b A x y z) := by
  have hN := h.cn
  unfold S_push
  refine ok1_ind (P := IjR) (by omega) (fun w hw _ => ?_) (fun _ => ⟨h, hJ⟩)
  refine ok1_ind (P := IjR) (by omega) (fun k hk _ => ?_) (fun _ => ⟨h, hJ⟩)
  refine ok1_ind (P := IjR) (by omega) (fun j hj _ => ?_) (fun _ => ⟨h, hJ⟩)
  refine cI_ind2 (P := IjR) (fun _ => ?_) (fun _ => ⟨h, hJ⟩)
  refine cI_ind2 (P := IjR) (fun _ => ⟨h, hJ⟩) (fun _ => ?_)
  refine cI_ind2 (P := IjR) (fun hw1 => ?_) (fun _ => ⟨h, hJ⟩)
  obtain ⟨i, hi, h17⟩ := (h.cb hw).1
  rw [pu_k h17 (by omega)]
  refine Ij_tr h hJ hi hj (Or.inr ⟨k, hk, rfl⟩) (fun q k' hq hk' hG e => ?_) (fun q k' hq hk' hth e => ?_)
  · rcases hG with z | rfl
    · rw [← z, e]
    · exact absurd (e.symm.trans hw1) (nI_neg (by omega))
  · exact Or.inl (by rw [hth, e])
theorem Jv_26 {f : Nat → Int32} (h : Jv r t b A) : Jv r t b (st26 A f) := h
end KM
