abbrev XQt (L : List AE) (p : RT) : Option AV → List AE → Prop := fun v L' => v = some (aI p.1) ∧ (∃ da ta ba gr hc, XR0 p.2.1 p.2.2.1 p.2.2.2.1 p.2.2.2.2.1 p.2.2.2.2.2 da ta ba gr hc L' ∧ Rl p.2.2.2.1 p.2.2.2.2.1 p.2.2.2.2.2 gr hc) ∧ FrX L L'
section XST
variable {r d t b : Nat} {A A' : ST} {da ta ba : Nat → Nat} {gr gr' hc hc' : Nat → Int32} {L L' : List AE}
theorem Rl.kept (h : Rl t b A gr hc) (h13 : A' 13 = A 13) (h14 : A' 14 = A 14) : Rl t b A' gr hc := by
  have e : ∀ i, hol A' i = hol A i := fun i => by funext k; unfold hol; rw [h13, h14]
  refine ⟨fun i hi q => ?_, fun i hi => ?_, fun i hi => ?_⟩
  · rw [h13] at q ⊢; exact h.1 i hi q
  · rw [h.2.1 i hi, e]
  · rw [e]; exact h.2.2 i hi
theorem XR0.room (h : XR0 r d t b A da ta ba gr hc L) : XR0 (r + 1) d t b (rmA A r 8) da ta ba gr hc (L.set 0 (eO 5 (xfs (r + 1) d t b))) := by
  have e : ∀ j, j ≠ 2 → j ≠ 3 → rmA A r 8 j = A j := fun j h2 h3 => by
    funext k
    unfold rmA
    rw [if_neg (fun q => h2 q.1), if_neg (fun q => h3 q.1)]
  refine h.setF (by omega) ?_ (fun j h2 h3 _ _ _ _ => e j h2 h3)
  refine ⟨get_set h.x0, (get_ne (by decide)).trans (h.x1.trans ?_), (get_ne (by decide)).trans (h.x2.trans ?_), (get_ne (by decide)).trans h.x3, (get_ne (by decide)).trans (h.x4.trans ?_), (get_ne (by decide)).trans h.x5, (get_ne (by decide)).trans h.x6, (get_ne (by decide)).trans h.x7, fun i hi => ⟨(get_ne (by omega)).trans ((h.rl hi).trans ?_), (get_ne (by omega)).trans ((h.rr hi).trans ?_)⟩⟩
  · have : xw A r = xw (rmA A r 8) (r + 1) := by
      funext j
      unfold xw rmA
      by_cases h1 : j < 8 * r
      · rw [if_pos h1, if_pos (by omega), if_neg (by omega), if_neg (by omega)]
      · rw [if_neg h1]
        by_cases h2 : j < 8 * (r + 1)
        · rw [if_pos h2, if_pos (by omega)]
        · rw [if_neg h2]
    rw [this]
  · have : xv A r = xv (rmA A r 8) (r + 1) := by
      funext j
      unfold xv rmA
      by_cases h1 : j < 8 * r
      · rw [if_pos h1, if_pos (by omega), if_neg (by omega), if_neg (by omega)]
      · rw [if_neg h1]
        by_cases h2 : j < 8 * (r + 1)
        · rw [if_pos h2, if_neg (by omega), if_pos (by omega)]
        · rw [if_neg h2]
    rw [this]
  · have : (fun i => nI (msk A i)) = fun i => nI (msk (rmA A r 8) i) := by funext i; unfold msk; rw [e 25 (by decide) (by decide)]
    rw [this]
  · rw [e 23 (by decide) (by decide), e 24 (by decide) (by decide)]
  · unfold rowF; rw [e 22 (by decide) (by decide)]
theorem XR0.exit (h : XR0 r d t b A da ta ba gr hc L) {k : Nat} (hk : k < 8 * r) (w : Int32) : XR0 r d t b (up2 A 2 k w) da ta ba gr hc (L.set 1 (eA 0 160 (upd (xw A r) k w))) := by
  refine h.setF (by omega) ?_ (fun j h2 _ _ _ _ _ => up2_n h2)
  refine ⟨(get_ne (by decide)).trans h.x0, (get_set h.x1).trans ?_, (get_ne (by decide)).trans h.x2, (get_ne (by decide)).trans h.x3, (get_ne (by decide)).trans h.x4, (get_ne (by decide)).trans h.x5, (get_ne (by decide)).trans h.x6, (get_ne (by decide)).trans h.x7, fun i hi => ⟨(get_ne (by omega)).trans (h.rl hi), (get_ne (by omega)).trans (h.rr hi)⟩⟩
  have : upd (xw A r) k w = xw (up2 A 2 k w) r := by
    funext j
    unfold xw
    rw [up2_s]
    unfold upd
    by_cases e : j = k
    · subst e; rw [if_pos rfl, if_pos hk, if_pos rfl]
    · rw [if_neg e, if_neg e]
  rw [this]
theorem XR0.width (h : XR0 r d t b A da ta ba gr hc L) {k : Nat} (hk : k < 8 * r) (w : Int32) : XR0 r d t b (up2 A 3 k w) da ta ba gr hc (L.set 2 (eA 0 160 (upd (xv A r) k w))) := by
  refine h.setF (by omega) ?_ (fun j _ h2 _ _ _ _ => up2_n h2)
  refine ⟨(get_ne (by decide)).trans h.x0, (get_ne (by decide)).trans h.x1, (get_set h.x2).trans ?_, (get_ne (by decide)).trans h.x3, (get_ne (by decide)).trans h.x4, (get_ne (by decide)).trans h.x5, (get_ne (by decide)).trans h.x6, (get_ne (by decide)).trans h.x7, fun i hi => ⟨(get_ne (by omega)).trans (h.rl hi), (get_ne (by omega)).trans (h.rr hi)⟩⟩
  have : upd (xv A r) k w = xv (up2 A 3 k w) r := by
    funext j
    unfold xv
    rw [up2_s]
    unfold upd
    by_cases e : j = k
    · subst e; rw [if_pos rfl, if_pos hk, if_pos rfl]
    · rw [if_neg e, if_neg e]
  rw [this]
theorem XR0.row (h : XR0 r d t b A da ta ba gr hc L) {i m : Nat} (hi : i < 5) (hm : m < 4) (x : Int32) : XR0 r d t b (up2 A 22 (4 * i + m) x) da ta ba gr hc (L.set (14 + 2 * i) (eA 0 4 (upd (rowF A i) m x))) := by
  refine h.setF (by omega) ?_ (fun j _ _ h2 _ _ _ => up2_n h2)
  refine ⟨(get_ne (by omega)).trans h.x0, (get_ne (by omega)).trans h.x1, (get_ne (by omega)).trans h.x2, (get_ne (by omega)).trans h.x3, (get_ne (by omega)).trans h.x4, (get_ne (by omega)).trans h.x5, (get_ne (by omega)).trans h.x6, (get_ne (by omega)).trans h.x7, fun k hk => ⟨(get_ne (by omega)).trans (h.rl hk), ?_⟩⟩
  by_cases e : k = i
  · subst e
    rw [get_set (h.rr hi)]
    have : upd (rowF A k) m x = rowF (up2 A 22 (4 * k + m) x) k := by
      funext j
      unfold rowF
      rw [up2_s]
      unfold upd
      by_cases e2 : j = m
      · subst e2; rw [if_pos rfl, if_pos hm, if_pos rfl]
      · by_cases hj : j < 4
        · rw [if_neg e2, if_pos hj]; dsimp only; rw [if_pos hj, if_neg (by omega)]
        · rw [if_neg e2, if_neg hj]; dsimp only; rw [if_neg hj]
    rw [this]
  · rw [get_ne (by omega), h.rr hk]
    have : rowF A k = rowF (up2 A 22 (4 * i + m) x) k := by
      funext j
      unfold rowF
      rw [up2_s]
      unfold upd
      by_cases hj : j < 4
      · rw [if_pos hj, if_pos hj, if_neg (by omega)]
      · rw [if_neg hj, if_neg hj]
    rw [this]
theorem XR0.rule (h : XR0 r d t b A da ta ba gr hc L) {i : Nat} (hi : i < 5) (ha : agr [23, 24] i A A') : XR0 r d t b A' da ta ba gr hc (L.set (13 + 2 * i) (eO 2 [aR (14 + 2 * i), aI (A' 23 i), aI (A' 24 i)])) := by
  have e : ∀ j, j ≠ 23 → j ≠ 24 → A' j = A j := fun j h1 h2 => ha.1 j (by simp; omega)
  refine h.setF (by omega) ?_ (fun j _ _ _ h3 h4 _ => e j h3 h4)
  refine ⟨(get_ne (by omega)).trans h.x0, (get_ne (by omega)).trans (h.x1.trans ?_), (get_ne (by omega)).trans (h.x2.trans ?_), (get_ne (by omega)).trans h.x3, (get_ne (by omega)).trans (h.x4.trans ?_), (get_ne (by omega)).trans h.x5, (get_ne (by omega)).trans h.x6, (get_ne (by omega)).trans h.x7, fun k hk => ⟨?_, (get_ne (by omega)).trans ((h.rr hk).trans ?_)⟩⟩
  · unfold xw; rw [e 2 (by decide) (by decide)]
  · unfold xv; rw [e 3 (by decide) (by decide)]
  · have : (fun i => nI (msk A i)) = fun i => nI (msk A' i) := by funext i; unfold msk; rw [e 25 (by decide) (by decide)]
    rw [this]
  · by_cases q : k = i
    · subst q; exact get_set (h.rl hi)
    · rw [get_ne (by omega), h.rl hk, ha.2 23 k q, ha.2 24 k q]
  · unfold rowF; rw [e 22 (by decide) (by decide)]
theorem XR0.region (h : XR0 r d t b A da ta ba gr hc L) {i : Nat} (hi : i < 7) {m : Int32} (he : ∀ j, j ≠ 25 → A' j = A j) (hm : m = nI (msk A' i)) (ho : ∀ k, k ≠ i → msk A' k = msk A k) : XR0 r d t b A' da ta ba gr hc (L.set 4 (eA 0 7 (upd (fun i => nI (msk A i)) i m))) := by
  refine h.setF (by omega) ?_ (fun j _ _ _ _ _ h5 => he j h5)
  refine ⟨(get_ne (by decide)).trans h.x0, (get_ne (by decide)).trans (h.x1.trans ?_), (get_ne (by decide)).trans (h.x2.trans ?_), (get_ne (by decide)).trans h.x3, (get_set h.x4).trans ?_, (get_ne (by decide)).trans h.x5, (get_ne (by decide)).trans h.x6, (get_ne (by decide)).trans h.x7, fun k hk => ⟨(get_ne (by omega)).trans ((h.rl hk).trans ?_), (get_ne (by omega)).trans ((h.rr hk).trans ?_)⟩⟩
  · unfold xw; rw [he 2 (by decide)]
  · unfold xv; rw [he 3 (by decide)]
  · have : upd (fun i => nI (msk A i)) i m = fun i => nI (msk A' i) := by
      funext k
      unfold upd
      by_cases q : k = i
      · subst q; rw [if_pos rfl, hm]
      · rw [if_neg q, ho k q]
    rw [this]
  · rw [he 23 (by decide), he 24 (by decide)]
  · unfold rowF; rw [he 22 (by decide)]
/-- new cells behind the last -/
theorem XR0.door (h : XR0 r d t b A da ta ba gr hc L) (hA : ∀ j, j ≠ 5 → j ≠ 6 → j ≠ 7 → A' j = A j) (hA2 : ∀ j k, k ≠ d → A' j k = A j k) (h0 : L'[0]? = some (eO 5 (xfs r (d + 1) t b))) (h5 : L'[5]? = some (eQ 3 15 (xq (d + 1) (fun i => if i = d then L.length else da i)))) (hn : L'[L.length]? = some (eO 1 (dfs A' ta d))) (ho : ∀ k, k ≠ 0 → k ≠ 5 → k < L.length → L'[k]? = L[k]?) (hl : L.length ≤ L'.length) : XR0 r (d + 1) t b A' (fun i => if i = d then L.length else da i) ta ba gr hc L' := by
  have hlen := h.2.2.2.2.2.1
  have lt : ∀ {k : Nat} {e : AE}, L[k]? = some e → k < L.length := fun h => (List.getElem?_eq_some_iff.mp h).1
  obtain ⟨hF, ⟨q, s, p, l, rc, hS⟩, hD, hT, hB, hl2, h30, h6⟩ := id h
  refine ⟨⟨h0, (ho 1 (by decide) (by decide) (by omega)).trans (h.x1.trans ?_), (ho 2 (by decide) (by decide) (by omega)).trans (h.x2.trans ?_), (ho 3 (by decide) (by decide) (by omega)).trans h.x3, (ho 4 (by decide) (by decide) (by omega)).trans (h.x4.trans ?_), h5, (ho 6 (by decide) (by decide) (by omega)).trans h.x6, (ho 7 (by decide) (by decide) (by omega)).trans h.x7, fun k hk => ⟨(ho _ (by omega) (by omega) (by omega)).trans ((h.rl hk).trans ?_), (ho _ (by omega) (by omega) (by omega)).trans ((h.rr hk).trans ?_)⟩⟩, ⟨q, s, p, l, rc, hS.kept (fun k h1 h2 => ho k (by omega) (by omega) (by omega))⟩, ⟨fun k hk => ?_, fun i j hi hj e => ?_⟩, hT.kept (fun k hk => ho _ (by have := h.t46 hk; omega) (by have := h.t46 hk; omega) (lt (h.tt hk))) (fun j k hj _ => congrFun (hA j (by omega) (by omega) (by omega)) k) (fun _ _ => rfl), hB.kept (fun k hk => ⟨ho _ (by have := h.b46 hk; omega) (by have := h.b46 hk; omega) (lt (h.bb hk)), ho _ (by have := h.b46 hk; omega) (by have := h.b46 hk; omega) (lt (h.bl hk))⟩) (fun j k hj _ => congrFun (hA j (by omega) (by omega) (by omega)) k) (fun k => congrFun (hA 20 (by decide) (by decide) (by decide)) k) (fun _ _ => rfl), by omega, h30, h6⟩
  · unfold xw; rw [hA 2 (by decide) (by decide) (by decide)]
  · unfold xv; rw [hA 3 (by decide) (by decide) (by decide)]
  · have : (fun i => nI (msk A i)) = fun i => nI (msk A' i) := by funext i; unfold msk; rw [hA 25 (by decide) (by decide) (by decide)]
    rw [this]
  · rw [hA 23 (by decide) (by decide) (by decide), hA 24 (by decide) (by decide) (by decide)]
  · unfold rowF; rw [hA 22 (by decide) (by decide) (by decide)]
  · by_cases e : k = d
    · subst e
      simp only [if_true]
      exact ⟨hn, hl2⟩
    · simp only [e, if_false]
      have hk2 : k < d := by omega
      refine ⟨(ho _ (by have := h.d46 hk2; omega) (by have := h.d46 hk2; omega) (lt (h.dd hk2))).trans ((h.dd hk2).trans ?_), h.d46 hk2⟩
      unfold dfs kref
      rw [hA2 5 k e, hA2 6 k e, hA2 7 k e, hA2 8 k e, hA2 9 k e]
  · by_cases e1 : i = d <;> by_cases e2 : j = d
    · omega
    · simp only [e1, e2, if_true, if_false] at e
      have := lt (h.dd (show j < d by omega)); omega
    · simp only [e1, e2, if_true, if_false] at e
      have := lt (h.dd (show i < d by omega)); omega
    · simp only [e1, e2, if_false] at e
      exact hD.2 i j (by omega) (by omega) e
theorem XR0.thing (h : XR0 r d t b A da ta ba gr hc L) (ht : t < 30) (hA : ∀ j, j ≠ 11 → j ≠ 12 → j ≠ 13 → j ≠ 14 → A' j = A j) (hA2 : ∀ j k, k ≠ t → A' j k = A j k) (hk7 : ∀ i, i < d → A 7 i = -1 ∨ ∃ k, k < t ∧ A 7 i = nI k) (hk18 : ∀ i, i < b → A 18 i = -1 ∨ ∃ k, k < t ∧ A 18 i = nI k) (hg : ∀ k, k ≠ t → gr' k = gr k) (h0 : L'[0]? = some (eO 5 (xfs r d (t + 1) b))) (h5 : L'[6]? = some (eQ 4 30 (xq (t + 1) (fun i => if i = t then L.length else ta i)))) (hn : L'[L.length]? = some (eO 4 (tfs A' ba gr' t))) (ho : ∀ k, k ≠ 0 → k ≠ 6 → k < L.length → L'[k]? = L[k]?) (hl : L.length ≤ L'.length) : XR0 r d (t + 1) b A' da (fun i => if i = t then L.length else ta i) ba gr' hc L' := by
  have hlen := h.2.2.2.2.2.1
  have lt : ∀ {k : Nat} {e : AE}, L[k]? = some e → k < L.length := fun h => (List.getElem?_eq_some_iff.mp h).1
  obtain ⟨hF, ⟨q, s, p, l, rc, hS⟩, hD, hT, hB, hl2, h30, h6⟩ := id h
  have hA' : ∀ j, j = 2 ∨ j = 3 ∨ j = 22 ∨ j = 23 ∨ j = 24 ∨ j = 25 ∨ j = 5 ∨ j = 6 ∨ j = 7 ∨ j = 8 ∨ j = 9 ∨ j = 17 ∨ j = 18 ∨ j = 19 ∨ j = 20 ∨ j = 21 ∨ j = 15 → A' j = A j := fun j hj => hA j (by omega) (by omega) (by omega) (by omega)
  refine ⟨⟨h0, (ho 1 (by decide) (by decide) (by omega)).trans (h.x1.trans ?_), (ho 2 (by decide) (by decide) (by omega)).trans (h.x2.trans ?_), (ho 3 (by decide) (by decide) (by omega)).trans h.x3, (ho 4 (by decide) (by decide) (by omega)).trans (h.x4.trans ?_), (ho 5 (by decide) (by decide) (by omega)).trans h.x5, h5, (ho 7 (by decide) (by decide) (by omega)).trans h.x7, fun k hk => ⟨(ho _ (by omega) (by omega) (by omega)).trans ((h.rl hk).trans ?_), (ho _ (by omega) (by omega) (by omega)).trans ((h.rr hk).trans ?_)⟩⟩, ⟨q, s, p, l, rc, hS.kept (fun k h1 h2 => ho k (by omega) (by omega) (by omega))⟩, ⟨fun k hk => ⟨(ho _ (by have := h.d46 hk; omega) (by have := h.d46 hk; omega) (lt (h.dd hk))).trans ((h.dd hk).trans ?_), h.d46 hk⟩, hD.2⟩, fun k hk => ?_, fun k hk => ⟨(ho _ (by have := h.b46 hk; omega) (by have := h.b46 hk; omega) (lt (h.bb hk))).trans ((h.bb hk).trans ?_), (ho _ (by have := h.b46 hk; omega) (by have := h.b46 hk; omega) (lt (h.bl hk))).trans ((h.bl hk).trans ?_), h.b46 hk⟩, by omega, by omega, h6⟩
  · unfold xw; rw [hA' 2 (by omega)]
  · unfold xv; rw [hA' 3 (by omega)]
  · have : (fun i => nI (msk A i)) = fun i => nI (msk A' i) := by funext i; unfold msk; rw [hA' 25 (by omega)]
    rw [this]
  · rw [hA' 23 (by omega), hA' 24 (by omega)]
  · unfold rowF; rw [hA' 22 (by omega)]
  · unfold dfs kref
    rw [hA' 5 (by omega), hA' 6 (by omega), hA' 7 (by omega), hA' 8 (by omega), hA' 9 (by omega)]
    rcases hk7 k hk with e | ⟨m, hm, e⟩
    · rw [cI_t e, cI_t e]
    · rw [e, cI_f (nI_neg (by omega)), cI_f (nI_neg (by omega)), nI_clamp (by omega)]; dsimp only; rw [if_neg (show ¬ m = t by omega)]
  · by_cases e : k = t
    · subst e
      simp only [if_true]
      exact ⟨hn, hl2⟩
    · simp only [e, if_false]
      have hk2 : k < t := by omega
      refine ⟨(ho _ (by have := h.t46 hk2; omega) (by have := h.t46 hk2; omega) (lt (h.tt hk2))).trans ((h.tt hk2).trans ?_), h.t46 hk2⟩
      unfold tfs href
      rw [hA2 11 k e, hA2 12 k e, hA2 13 k e, hA2 14 k e, hA2 15 k e, hg k e]
  · unfold bfs wref
    rw [hA' 17 (by omega), hA' 18 (by omega), hA' 19 (by omega), hA' 21 (by omega)]
    rcases hk18 k hk with e | ⟨m, hm, e⟩
    · rw [cI_t e, cI_t e]
    · rw [e, cI_f (nI_neg (by omega)), cI_f (nI_neg (by omega)), nI_clamp (by omega)]; dsimp only; rw [if_neg (show ¬ m = t by omega)]
  · unfold newF; rw [hA' 20 (by omega)]
theorem XR0.being (h : XR0 r d t b A da ta ba gr hc L) (hb : b < 6) (hA : ∀ j, j ≠ 17 → j ≠ 18 → j ≠ 19 → A' j = A j) (hA2 : ∀ j k, k ≠ b → A' j k = A j k) (hk13 : ∀ i, i < t → (∃ k, k < 100 ∧ A 13 i = nI k) ∨ ∃ k, k < b ∧ A 13 i = nI (100 + k)) (hg : ∀ k, k ≠ b → hc' k = hc k) (h0 : L'[0]? = some (eO 5 (xfs r d t (b + 1)))) (h5 : L'[7]? = some (eQ 5 6 (xq (b + 1) (fun i => if i = b then L.length else ba i)))) (hn : L'[L.length]? = some (eO 0 (bfs A' ta (fun i => if i = b then L.length else ba i) hc' b))) (hn2 : L'[L.length + 1]? = some (eA 0 8 (newF A' b))) (ho : ∀ k, k ≠ 0 → k ≠ 7 → k < L.length → L'[k]? = L[k]?) (hl : L.length ≤ L'.length) : XR0 r d t (b + 1) A' da ta (fun i => if i = b then L.length else ba i) gr hc' L' := by
  have hlen := h.2.2.2.2.2.1
  have lt : ∀ {k : Nat} {e : AE}, L[k]? = some e → k < L.length := fun h => (List.getElem?_eq_some_iff.mp h).1
  obtain ⟨hF, ⟨q, s, p, l, rc, hS⟩, hD, hT, hB, hl2, h30, h6⟩ := id h
  have hA' : ∀ j, j ≤ 16 ∨ 20 ≤ j → A' j = A j := fun j hj => hA j (by omega) (by omega) (by omega)
  refine ⟨⟨h0, (ho 1 (by decide) (by decide) (by omega)).trans (h.x1.trans ?_), (ho 2 (by decide) (by decide) (by omega)).trans (h.x2.trans ?_), (ho 3 (by decide) (by decide) (by omega)).trans h.x3, (ho 4 (by decide) (by decide) (by omega)).trans (h.x4.trans ?_), (ho 5 (by decide) (by decide) (by omega)).trans h.x5, (ho 6 (by decide) (by decide) (by omega)).trans h.x6, h5, fun k hk => ⟨(ho _ (by omega) (by omega) (by omega)).trans ((h.rl hk).trans ?_), (ho _ (by omega) (by omega) (by omega)).trans ((h.rr hk).trans ?_)⟩⟩, ⟨q, s, p, l, rc, hS.kept (fun k h1 h2 => ho k (by omega) (by omega) (by omega))⟩, hD.kept (fun k hk => ho _ (by have := h.d46 hk; omega) (by have := h.d46 hk; omega) (lt (h.dd hk))) (fun j k hj _ => congrFun (hA' j (by omega)) k), fun k hk => ⟨(ho _ (by have := h.t46 hk; omega) (by have := h.t46 hk; omega) (lt (h.tt hk))).trans ((h.tt hk).trans ?_), h.t46 hk⟩, fun k hk => ?_, by omega, h30, by omega⟩
  · unfold xw; rw [hA' 2 (by omega)]
  · unfold xv; rw [hA' 3 (by omega)]
  · have : (fun i => nI (msk A i)) = fun i => nI (msk A' i) := by funext i; unfold msk; rw [hA' 25 (by omega)]
    rw [this]
  · rw [hA' 23 (by omega), hA' 24 (by omega)]
  · unfold rowF; rw [hA' 22 (by omega)]
  · have e13 : A' 13 = A 13 := hA' 13 (by omega)
    have : href A' (fun i => if i = b then L.length else ba i) k = href A ba k := by
      rcases hk13 k hk with ⟨m, hm, e⟩ | ⟨m, hm, e⟩
      · rw [href_r (by rw [e13]; exact e) hm, href_r e hm]
      · rw [href_w (by rw [e13]; exact e) (by omega), href_w e (by omega), if_neg (by omega)]
    unfold tfs
    rw [this, hA' 11 (by omega), hA' 12 (by omega), hA' 14 (by omega), hA' 15 (by omega)]
  · by_cases e : k = b
    · subst e
      simp only [if_true]
      exact ⟨hn, hn2, hl2⟩
    · simp only [e, if_false]
      have hk2 : k < b := by omega
      refine ⟨(ho _ (by have := h.b46 hk2; omega) (by have := h.b46 hk2; omega) (lt (h.bb hk2))).trans ((h.bb hk2).trans ?_), (ho _ (by have := h.b46 hk2; omega) (by have := h.b46 hk2; omega) (lt (h.bl hk2))).trans ((h.bl hk2).trans ?_), h.b46 hk2⟩
      · unfold bfs wref
        rw [hA2 17 k e, hA2 18 k e, hA2 19 k e, hA2 21 k e, hg k e]; dsimp only; rw [if_neg e]
      · unfold newF; rw [hA' 20 (by omega)]
end XST
