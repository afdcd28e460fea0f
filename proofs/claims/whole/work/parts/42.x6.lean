theorem ev_X3_isNumber {g : GD} {L : List AE} (x : Int32) : EvP g mX3_isNumber [aI x] L (some (aI (b2 (isN x 20)))) := by
  refine Ev.of [some (aI x)] (by decide) rfl (Nat.le_of_ble_eq_true rfl) fun Z H0 C X => ?_
  have k20 : (20 : Int32).toInt = 20 := by decide
  refine V.ild_n C dX3_isNumber_0 rfl ?_
  refine V.if_lt C (tgt := 14) dX3_isNumber_1 (by decide) (fun h1 => ?_) (fun h1 => ?_)
  · skip
    refine V.iconst C (x := 0) dX3_isNumber_14 (by decide) ?_
    exact V.iret X dX3_isNumber_15 rfl (by decide) (by decide) (pq (b2_f (by simp only [i32_lt, i32_le, k20, k0] at *; omega)).symm)
  · skip
    refine V.ild_n C dX3_isNumber_4 rfl ?_
    refine V.bipush C (x := 20) dX3_isNumber_5 (by decide) ?_
    refine V.icmp_ge C (tgt := 14) dX3_isNumber_7 (by decide) (fun h7 => ?_) (fun h7 => ?_)
    · skip
      refine V.iconst C (x := 0) dX3_isNumber_14 (by decide) ?_
      exact V.iret X dX3_isNumber_15 rfl (by decide) (by decide) (pq (b2_f (by simp only [i32_lt, i32_le, k20, k0] at *; omega)).symm)
    · skip
      refine V.iconst C (x := 1) dX3_isNumber_10 (by decide) ?_
      refine V.goto C (tgt := 15) dX3_isNumber_11 (by decide) ?_
      exact V.iret X dX3_isNumber_15 rfl (by decide) (by decide) (pq (b2_t (by simp only [i32_lt, i32_le, k20, k0] at *; omega)).symm)
theorem ev_J7_fill {g : GD} {L : List AE} {a N : Nat} {f : Nat → Int32} (hL : L[a]? = some (eA 0 N f)) (hN : N < 2 ^ 31) (x : Int32) : Ev g mJ7_fill_53178 [aR a, aI x] L (fun v L1 => v = none ∧ L1 = L.set a (eA 0 N (fun j => if j < N then x else f j))) := by
  refine Ev.of [some (aR a), some (aI x), none, none] (by decide) rfl (Nat.le_of_ble_eq_true rfl) fun Z H0 C X => ?_
  refine V.iconst C (x := 0) dJ7_fill_53178_0 (by decide) ?_
  refine V.ist_n C dJ7_fill_53178_1 (Nat.le_of_ble_eq_true rfl) rfl ?_
  refine V.ald_n C dJ7_fill_53178_2 rfl ?_
  refine V.alen C dJ7_fill_53178_3 hL rfl ?_
  refine V.ist_n C dJ7_fill_53178_4 (Nat.le_of_ble_eq_true rfl) rfl ?_
  have key5 : ∀ (n : Nat) (k : Nat), k ≤ N → N - k < n → V g Z H0 4 (L.set a (eA 0 N (fun j => if j < k then x else f j))) 0 0 5 [some (aR a), some (aI x), some (aI (nI k)), some (aI (nI N))] [] := by
    intro n
    induction n with
    | zero => intro k h1 h2; exact absurd h2 (by omega)
    | succ n ih =>
      intro k h1 h2
      refine V.ild_n C dJ7_fill_53178_5 rfl ?_
      refine V.ild_n C dJ7_fill_53178_6 rfl ?_
      refine V.icmpN_ge C (k) (N) (tgt := 20) dJ7_fill_53178_7 (by decide) (by omega) (by omega) (fun h7 => ?_) (fun h7 => ?_)
      · skip
        exact V.vret X dJ7_fill_53178_20 (by decide) (by decide) (by cases (show k = N by omega); exact ⟨rfl, rfl⟩)
      · skip
        refine V.ald_n C dJ7_fill_53178_10 rfl ?_
        refine V.ild_n C dJ7_fill_53178_11 rfl ?_
        refine V.ild_n C dJ7_fill_53178_12 rfl ?_
        refine V.iastN C dJ7_fill_53178_13 (get_set hL) (by omega) hN ?_
        refine V.iinc C (y := nI (k + 1)) dJ7_fill_53178_14 rfl (nI_1 k) rfl ?_
        refine V.goto C (tgt := 5) dJ7_fill_53178_17 (by decide) ?_
        rw [List.set_set, fill_s]
        exact ih (k + 1) (by omega) (by omega)
  have h0 := key5 (N + 1) 0 (by omega) (by omega)
  rw [fill_0, set_same hL] at h0
  exact h0
theorem ev_X3_stepsTo {g : GD} {L : List AE} {q s p l : Nat → Int32} {rc : Int32} (hS : XS q s p l rc L) {y : Nat} (hy : y < 20) : EvP g mX3_stepsTo [aR 8, aI (nI y)] L (some (aI (s y))) := by
  refine Ev.of [some (aR 8), some (aI (nI y))] (by decide) rfl (Nat.le_of_ble_eq_true rfl) fun Z H0 C X => ?_
  refine V.ild_n C dX3_stepsTo_0 rfl ?_
  refine V.callSp C mo_X3_isNumber sm_X3_isNumber ml_RX3_34 (ev_X3_isNumber _) dX3_stepsTo_1 rfl rfl (Nat.le_of_ble_eq_true rfl) (RmOk.mk' (by decide) (by decide) (by decide) (by decide)) ⟨rfl, rfl⟩ ?_
  refine V.ifb_eq C (tgt := 16) dX3_stepsTo_4 (by decide) (fun h4 => absurd (isN_nI (show y < 20 by omega) (by omega)) h4) (fun h4 => ?_)
  refine V.ald_n C dX3_stepsTo_7 rfl ?_
  refine V.get C fg_RX3_15 dX3_stepsTo_8 hS.1 rfl ?_
  refine V.ild_n C dX3_stepsTo_11 rfl ?_
  refine V.ialdN C (N := 20) dX3_stepsTo_12 hS.2.2.1 (by omega) (by decide) ?_
  refine V.goto C (tgt := 17) dX3_stepsTo_13 (by decide) ?_
  exact V.iret X dX3_stepsTo_17 rfl (by decide) (by decide) (pq rfl)
theorem ev_X3_begin {g : GD} {L : List AE} {q s p l : Nat → Int32} {rc : Int32} (hS : XS q s p l rc L) {i : Nat} (hi : i < 20) : Ev g mX3_begin [aR 8, aI (nI i)] L (fun v L1 => v = none ∧ FS L L1 ∧ XS (upd q 0 (nI i)) (upd (fun j => if j < 20 then -1 else s j) i 0) p l 1 L1) := by
  refine Ev.of [some (aR 8), some (aI (nI i))] (by decide) rfl (Nat.le_of_ble_eq_true rfl) fun Z H0 C X => ?_
  have hF : FS L L := FS.rf
  refine V.ald_n C dX3_begin_0 rfl ?_
  refine V.get C fg_RX3_15 dX3_begin_1 hS.1 rfl ?_
  refine V.iconst C (x := -1) dX3_begin_4 (by decide) ?_
  refine V.callS C mo_J7_fill_53178 sm_J7_fill_53178 ml_RX3_24 (ev_J7_fill hS.2.2.1 (by decide) _) dX3_begin_5 rfl rfl (Nat.le_of_ble_eq_true rfl) (RmOk.mk' (by decide) (by decide) (by decide) (by decide)) (fun v L1 hq => ?_)
  obtain ⟨rfl, rfl⟩ := hq
  have hS := hS.s1 (f := (fun j => if j < 20 then -1 else s j))
  have hF := hF.st (a := 10) (e := eA 0 20 (fun j => if j < 20 then -1 else s j)) (by decide)
  refine V.ald_n C dX3_begin_8 rfl ?_
  refine V.iconst C (x := 0) dX3_begin_9 (by decide) ?_
  refine V.put C fl_RX3_30 dX3_begin_10 hS.1 ⟨rfl, rfl⟩ (Nat.le_of_ble_eq_true rfl) (fun h => by cases h) rfl ?_
  have hS := hS.r1 (x := 0)
  have hF := hF.st (a := 8) (e := eO 3 [aR 9, aR 10, aR 11, aR 12, aI 0]) (by decide)
  refine V.ild_n C dX3_begin_13 rfl ?_
  refine V.callSp C mo_X3_isNumber sm_X3_isNumber ml_RX3_34 (ev_X3_isNumber _) dX3_begin_14 rfl rfl (Nat.le_of_ble_eq_true rfl) (RmOk.mk' (by decide) (by decide) (by decide) (by decide)) ⟨rfl, rfl⟩ ?_
  refine V.ifb_eq C (tgt := 39) dX3_begin_17 (by decide) (fun h17 => absurd (isN_nI (show i < 20 by omega) (by omega)) h17) (fun h17 => ?_)
  refine V.ald_n C dX3_begin_20 rfl ?_
  refine V.get C fg_RX3_9 dX3_begin_21 hS.1 rfl ?_
  refine V.iconst C (x := 0) dX3_begin_24 (by decide) ?_
  refine V.ild_n C dX3_begin_25 rfl ?_
  refine V.iastN C (N := 20) (j := 0) dX3_begin_26 hS.2.1 (by omega) (by decide) ?_
  have hS := hS.q1 (f := upd q 0 (nI i))
  have hF := hF.st (a := 9) (e := eA 0 20 (upd q 0 (nI i))) (by decide)
  refine V.ald_n C dX3_begin_27 rfl ?_
  refine V.get C fg_RX3_15 dX3_begin_28 hS.1 rfl ?_
  refine V.ild_n C dX3_begin_31 rfl ?_
  refine V.iconst C (x := 0) dX3_begin_32 (by decide) ?_
  refine V.iastN C (N := 20) dX3_begin_33 hS.2.2.1 (by omega) (by decide) ?_
  have hS := hS.s1 (f := upd (fun j => if j < 20 then -1 else s j) i 0)
  have hF := hF.st (a := 10) (e := eA 0 20 (upd (fun j => if j < 20 then -1 else s j) i 0)) (by decide)
  refine V.ald_n C dX3_begin_34 rfl ?_
  refine V.iconst C (x := 1) dX3_begin_35 (by decide) ?_
  refine V.put C fl_RX3_30 dX3_begin_36 hS.1 ⟨rfl, rfl⟩ (Nat.le_of_ble_eq_true rfl) (fun h => by cases h) rfl ?_
  have hS := hS.r1 (x := 1)
  have hF := hF.st (a := 8) (e := eO 3 [aR 9, aR 10, aR 11, aR 12, aI 1]) (by decide)
  exact V.vret X dX3_begin_39 (by decide) (by decide) ⟨rfl, hF, hS⟩
theorem ev_X3_reach_n {g : GD} {L : List AE} {q s p l : Nat → Int32} {rc : Int32} (hS : XS q s p l rc L) (u c : Int32) : Ev g mX3_reach [aR 8, aI (-1), aI u, aI c] L (fun v L1 => v = none ∧ L1 = L) := by
  refine Ev.of [some (aR 8), some (aI (-1)), some (aI u), some (aI c)] (by decide) rfl (Nat.le_of_ble_eq_true rfl) fun Z H0 C X => ?_
  refine V.ild_n C dX3_reach_0 rfl ?_
  refine V.callSp C mo_X3_isNumber sm_X3_isNumber ml_RX3_34 (ev_X3_isNumber _) dX3_reach_1 rfl rfl (Nat.le_of_ble_eq_true rfl) (RmOk.mk' (by decide) (by decide) (by decide) (by decide)) ⟨rfl, rfl⟩ ?_
  refine V.ifb_eq C (tgt := 33) dX3_reach_4 (by decide) (fun h4 => ?_) (fun h4 => absurd h4 (show ¬ isN (-1) 20 by decide))
  exact V.vret X dX3_reach_33 (by decide) (by decide) ⟨rfl, rfl⟩
theorem ev_X3_reach_f {g : GD} {L : List AE} {q s p l : Nat → Int32} {rc : Int32} (hS : XS q s p l rc L) {y u : Nat} (hy : y < 20) (hu : u < 20) (hs : s y ≠ -1) (c : Int32) : Ev g mX3_reach [aR 8, aI (nI y), aI (nI u), aI c] L (fun v L1 => v = none ∧ L1 = L) := by
  refine Ev.of [some (aR 8), some (aI (nI y)), some (aI (nI u)), some (aI c)] (by decide) rfl (Nat.le_of_ble_eq_true rfl) fun Z H0 C X => ?_
  refine V.ild_n C dX3_reach_0 rfl ?_
  refine V.callSp C mo_X3_isNumber sm_X3_isNumber ml_RX3_34 (ev_X3_isNumber _) dX3_reach_1 rfl rfl (Nat.le_of_ble_eq_true rfl) (RmOk.mk' (by decide) (by decide) (by decide) (by decide)) ⟨rfl, rfl⟩ ?_
  refine V.ifb_eq C (tgt := 33) dX3_reach_4 (by decide) (fun h4 => absurd (isN_nI (show y < 20 by omega) (by omega)) h4) (fun h4 => ?_)
  refine V.ild_n C dX3_reach_7 rfl ?_
  refine V.callSp C mo_X3_isNumber sm_X3_isNumber ml_RX3_34 (ev_X3_isNumber _) dX3_reach_8 rfl rfl (Nat.le_of_ble_eq_true rfl) (RmOk.mk' (by decide) (by decide) (by decide) (by decide)) ⟨rfl, rfl⟩ ?_
  refine V.ifb_eq C (tgt := 33) dX3_reach_11 (by decide) (fun h11 => absurd (isN_nI (show u < 20 by omega) (by omega)) h11) (fun h11 => ?_)
  refine V.ald_n C dX3_reach_14 rfl ?_
  refine V.get C fg_RX3_15 dX3_reach_15 hS.1 rfl ?_
  refine V.ild_n C dX3_reach_18 rfl ?_
  refine V.ialdN C (N := 20) dX3_reach_19 hS.2.2.1 (by omega) (by decide) ?_
  refine V.iconst C (x := -1) dX3_reach_20 (by decide) ?_
  refine V.icmp_ne C (tgt := 33) dX3_reach_21 (by decide) (fun h21 => ?_) (fun h21 => absurd h21 hs)
  exact V.vret X dX3_reach_33 (by decide) (by decide) ⟨rfl, rfl⟩
theorem ev_X3_reach_t {g : GD} {L : List AE} {q s p l : Nat → Int32} {m : Nat} (hS : XS q s p l (nI m) L) {y u : Nat} (hy : y < 20) (hu : u < 20) (hm : m < 20) (hs : s y = -1) (c : Int32) : Ev g mX3_reach [aR 8, aI (nI y), aI (nI u), aI c] L (fun v L1 => v = none ∧ FS L L1 ∧ XS (upd q m (nI y)) (upd s y (s u + 1)) (upd p y (nI u)) (upd l y c) (nI (m + 1)) L1) := by
  refine Ev.of [some (aR 8), some (aI (nI y)), some (aI (nI u)), some (aI c)] (by decide) rfl (Nat.le_of_ble_eq_true rfl) fun Z H0 C X => ?_
  have hF : FS L L := FS.rf
  refine V.ild_n C dX3_reach_0 rfl ?_
  refine V.callSp C mo_X3_isNumber sm_X3_isNumber ml_RX3_34 (ev_X3_isNumber _) dX3_reach_1 rfl rfl (Nat.le_of_ble_eq_true rfl) (RmOk.mk' (by decide) (by decide) (by decide) (by decide)) ⟨rfl, rfl⟩ ?_
  refine V.ifb_eq C (tgt := 33) dX3_reach_4 (by decide) (fun h4 => absurd (isN_nI (show y < 20 by omega) (by omega)) h4) (fun h4 => ?_)
  refine V.ild_n C dX3_reach_7 rfl ?_
  refine V.callSp C mo_X3_isNumber sm_X3_isNumber ml_RX3_34 (ev_X3_isNumber _) dX3_reach_8 rfl rfl (Nat.le_of_ble_eq_true rfl) (RmOk.mk' (by decide) (by decide) (by decide) (by decide)) ⟨rfl, rfl⟩ ?_
  refine V.ifb_eq C (tgt := 33) dX3_reach_11 (by decide) (fun h11 => absurd (isN_nI (show u < 20 by omega) (by omega)) h11) (fun h11 => ?_)
  refine V.ald_n C dX3_reach_14 rfl ?_
  refine V.get C fg_RX3_15 dX3_reach_15 hS.1 rfl ?_
  refine V.ild_n C dX3_reach_18 rfl ?_
  refine V.ialdN C (N := 20) dX3_reach_19 hS.2.2.1 (by omega) (by decide) ?_
  refine V.iconst C (x := -1) dX3_reach_20 (by decide) ?_
  refine V.icmp_ne C (tgt := 33) dX3_reach_21 (by decide) (fun h21 => absurd hs h21) (fun h21 => ?_)
  refine V.ald_n C dX3_reach_24 rfl ?_
  refine V.get C fg_RX3_30 dX3_reach_25 hS.1 rfl ?_
  refine V.bipush C (x := 20) dX3_reach_28 (by decide) ?_
  refine V.icmpN_lt C (m) (20) (tgt := 34) dX3_reach_30 (by decide) (by omega) (by omega) (fun h30 => ?_) (fun h30 => absurd hm h30)
  refine V.ald_n C dX3_reach_34 rfl ?_
  refine V.get C fg_RX3_15 dX3_reach_35 hS.1 rfl ?_
  refine V.ild_n C dX3_reach_38 rfl ?_
  refine V.ald_n C dX3_reach_39 rfl ?_
  refine V.get C fg_RX3_15 dX3_reach_40 hS.1 rfl ?_
  refine V.ild_n C dX3_reach_43 rfl ?_
  refine V.ialdN C (N := 20) dX3_reach_44 hS.2.2.1 (by omega) (by decide) ?_
  refine V.iconst C (x := 1) dX3_reach_45 (by decide) ?_
  refine V.iadd C dX3_reach_46 ?_
  refine V.iastN C (N := 20) dX3_reach_47 hS.2.2.1 (by omega) (by decide) ?_
  have hS := hS.s1 (f := upd s y (s u + 1))
  have hF := hF.st (a := 10) (e := eA 0 20 (upd s y (s u + 1))) (by decide)
  refine V.ald_n C dX3_reach_48 rfl ?_
  refine V.get C fg_RX3_18 dX3_reach_49 hS.1 rfl ?_
  refine V.ild_n C dX3_reach_52 rfl ?_
  refine V.ild_n C dX3_reach_53 rfl ?_
  refine V.iastN C (N := 20) dX3_reach_54 hS.2.2.2.1 (by omega) (by decide) ?_
  have hS := hS.p1 (f := upd p y (nI u))
  have hF := hF.st (a := 11) (e := eA 0 20 (upd p y (nI u))) (by decide)
  refine V.ald_n C dX3_reach_55 rfl ?_
  refine V.get C fg_RX3_21 dX3_reach_56 hS.1 rfl ?_
  refine V.ild_n C dX3_reach_59 rfl ?_
  refine V.ild_n C dX3_reach_60 rfl ?_
  refine V.iastN C (N := 20) dX3_reach_61 hS.2.2.2.2 (by omega) (by decide) ?_
  have hS := hS.l1 (f := upd l y c)
  have hF := hF.st (a := 12) (e := eA 0 20 (upd l y c)) (by decide)
  refine V.ald_n C dX3_reach_62 rfl ?_
  refine V.get C fg_RX3_9 dX3_reach_63 hS.1 rfl ?_
  refine V.ald_n C dX3_reach_66 rfl ?_
  refine V.get C fg_RX3_30 dX3_reach_67 hS.1 rfl ?_
  refine V.ild_n C dX3_reach_70 rfl ?_
  refine V.iastN C (N := 20) dX3_reach_71 hS.2.1 (by omega) (by decide) ?_
  have hS := hS.q1 (f := upd q m (nI y))
  have hF := hF.st (a := 9) (e := eA 0 20 (upd q m (nI y))) (by decide)
  refine V.ald_n C dX3_reach_72 rfl ?_
  refine V.dup C dX3_reach_73 ?_
  refine V.get C fg_RX3_30 dX3_reach_74 hS.1 rfl ?_
  refine V.iconst C (x := 1) dX3_reach_77 (by decide) ?_
  refine V.iadd C dX3_reach_78 ?_
  refine V.top (nI_add m 1) ?_
  refine V.put C fl_RX3_30 dX3_reach_79 hS.1 ⟨rfl, rfl⟩ (Nat.le_of_ble_eq_true rfl) (fun h => by cases h) rfl ?_
  have hS := hS.r1 (x := nI (m + 1))
  have hF := hF.st (a := 8) (e := eO 3 [aR 9, aR 10, aR 11, aR 12, aI (nI (m + 1))]) (by decide)
  exact V.vret X dX3_reach_82 (by decide) (by decide) ⟨rfl, hF, hS⟩
theorem BH_D {A : ST} {r i m h c : Nat} {Q P J D : Nat → Nat} {q s p l : Nat → Int32} (hB : BI A r i m h c Q P J) (hH : BH m Q P J D q s p l) : ∀ n k, k < n → k < m → D k ≤ k := by
  intro n
  induction n with
  | zero => intro k h1; omega
  | succ n ih =>
    intro k h1 h2
    by_cases k0 : k = 0
    · subst k0; rw [hH.2.2.1]; omega
    · have h3 := (hB.2.2.2.2.1 k (by omega) h2).1
      rw [(hH.2.1 k (by omega) h2).2.2]
      have := ih (P k) (by omega) (by omega)
      omega
theorem php_in {r m : Nat} {Q : Nat → Nat} {y : Nat} (h1 : ∀ k, k < m → Q k < r) (h2 : ∀ k k', k < m → k' < m → Q k = Q k' → k = k') (hy : y < r) (hn : ∀ k, k < m → Q k ≠ y) : m < r := by
  have := php r (m + 1) (fun k => if k = m then y else Q k) (fun k hk => by
      by_cases e : k = m
      · simp only [e, if_true]; exact hy
      · simp only [e, if_false]; exact h1 k (by omega)) (fun k k' hk hk' e => by
      by_cases e1 : k = m <;> by_cases e2 : k' = m
      · omega
      · simp only [e1, e2, if_true, if_false] at e
        exact absurd e.symm (hn k' (by omega))
      · simp only [e1, e2, if_true, if_false] at e
        exact absurd e (hn k (by omega))
      · simp only [e1, e2, if_false] at e
        exact h2 k k' (by omega) (by omega) e)
  omega
theorem ev_X5_searchFrom {g : GD} {r d t b : Nat} {A : ST} {da ta ba : Nat → Nat} {gr hc : Nat → Int32} {L : List AE} (hX : XR0 r d t b A da ta ba gr hc L) (hI : Inv r d t b A) {i : Nat} (hi : i < r) : Ev g mX5_searchFrom [aR 0, aI (nI i)] L (fun v L1 => v = none ∧ XR0 r d t b A da ta ba gr hc L1 ∧ FrX L L1 ∧ ∃ m Q P J D q s p l rc, XS q s p l rc L1 ∧ BI A r i m m 0 Q P J ∧ BH m Q P J D q s p l) := by
  refine Ev.of [some (aR 0), some (aI (nI i)), none, none, none] (by decide) rfl (Nat.le_of_ble_eq_true rfl) fun Z H0 C X => ?_
  have hN := hI.cn
  have hF : FrX L L := FrX.rf
  obtain ⟨q, s, p, l, rc, hS⟩ := hX.2.1
  refine V.ald_n C dX5_searchFrom_0 rfl ?_
  refine V.get C fg_RX5_46 dX5_searchFrom_1 hX.x0 rfl ?_
  refine V.ild_n C dX5_searchFrom_4 rfl ?_
  refine V.callV C mo_X3_begin im_X3_begin se_X3_begin ml_RX5_262 (ev_X3_begin hS (show i < 20 by omega)) dX5_searchFrom_5 rfl rfl hS.1 rfl rfl (Nat.le_of_ble_eq_true rfl) (RmOk.mk' (by decide) (by decide) (by decide) (by decide)) (fun v L1 hq => ?_)
  obtain ⟨rfl, hF2, hS⟩ := hq
  have hX := hX.setS hF2.2 hF2.1 hS
  have hF := hF.tr hF2.X
  have hB := BI_0 (A := A) hi
  have hH : BH 1 (fun _ => i) (fun _ => 0) (fun _ => 0) (fun _ => 0) (upd q 0 (nI i)) (upd (fun j => if j < 20 then -1 else s j) i 0) p l := by
    refine ⟨fun k hk => ?_, fun k h1 h2 => by omega, rfl, fun x hx hk => ?_⟩
    · rw [show k = 0 by omega]; exact ⟨pk_us, pk_us⟩
    · rw [pk_un (fun e => hk 0 (by omega) e.symm), if_pos hx]
  refine V.iconst C (x := 0) dX5_searchFrom_8 (by decide) ?_
  refine V.ist_n C dX5_searchFrom_9 (Nat.le_of_ble_eq_true rfl) rfl ?_
  have key10 : ∀ (n : Nat) (h m : Nat) (Q P J D : Nat → Nat) (q s p l : Nat → Int32) (L1 : List AE) (v3 v4 : Option AV), XR0 r d t b A da ta ba gr hc L1 → FrX L L1 → XS q s p l (nI m) L1 → BI A r i m h 0 Q P J → BH m Q P J D q s p l → h ≤ m → 20 - h < n → V g Z H0 5 L1 0 0 10 [some (aR 0), some (aI (nI i)), some (aI (nI h)), v3, v4] [] := by
    intro n
    induction n with
    | zero => intro h m Q P J D q s p l L1 v3 v4 hX hF hS hB hH h1 h2; exact absurd h2 (by omega)
    | succ n ih =>
      intro h m Q P J D q s p l L1 v3 v4 hX hF hS hB hH h1 h2
      have ih0 := ih
      have hmr := hB.le
      refine V.ild_n C dX5_searchFrom_10 rfl ?_
      refine V.bipush C (x := 20) dX5_searchFrom_11 (by decide) ?_
      refine V.icmpN_ge C (h) (20) (tgt := 76) dX5_searchFrom_13 (by decide) (by omega) (by omega) (fun h13 => ?_) (fun h13 => ?_)
      · skip
        exact V.vret X dX5_searchFrom_76 (by decide) (by decide) (by cases (show h = m by have := hB.le; omega); exact ⟨rfl, hX, hF, _, _, _, _, _, _, _, _, _, _, hS, hB, hH⟩)
      · skip
        refine V.ild_n C dX5_searchFrom_16 rfl ?_
        refine V.ald_n C dX5_searchFrom_17 rfl ?_
        refine V.get C fg_RX5_46 dX5_searchFrom_18 hX.x0 rfl ?_
        refine V.get C fg_RX5_265 dX5_searchFrom_21 hS.1 rfl ?_
        refine V.icmpN_ge C (h) (m) (tgt := 76) dX5_searchFrom_24 (by decide) (by omega) (by omega) (fun h24 => ?_) (fun h24 => ?_)
        · skip
          exact V.vret X dX5_searchFrom_76 (by decide) (by decide) (by cases (show h = m by have := hB.le; omega); exact ⟨rfl, hX, hF, _, _, _, _, _, _, _, _, _, _, hS, hB, hH⟩)
        · skip
          refine V.ald_n C dX5_searchFrom_27 rfl ?_
          refine V.get C fg_RX5_46 dX5_searchFrom_28 hX.x0 rfl ?_
          refine V.get C fg_RX5_268 dX5_searchFrom_31 hS.1 rfl ?_
          refine V.ild_n C dX5_searchFrom_34 rfl ?_
          refine V.ialdN C (N := 20) dX5_searchFrom_35 hS.2.1 (by omega) (by decide) ?_
          refine V.top (hH.1 h (by omega)).1 ?_
          have hQr : Q h < r := hB.2.2.1 h (by omega)
          refine V.ist_n C dX5_searchFrom_36 (Nat.le_of_ble_eq_true rfl) rfl ?_
          refine V.iconst C (x := 0) dX5_searchFrom_37 (by decide) ?_
          refine V.ist C dX5_searchFrom_38 (Nat.le_of_ble_eq_true rfl) rfl ?_
          have key40 : ∀ (n : Nat) (c m2 : Nat) (Q2 P2 J2 D2 : Nat → Nat) (q2 s2 p2 l2 : Nat → Int32) (L2 : List AE), XR0 r d t b A da ta ba gr hc L2 → FrX L L2 → XS q2 s2 p2 l2 (nI m2) L2 → BI A r i m2 h c Q2 P2 J2 → BH m2 Q2 P2 J2 D2 q2 s2 p2 l2 → Q2 h = Q h → h < m2 → c ≤ 8 → 8 - c < n → V g Z H0 5 L2 0 0 40 [some (aR 0), some (aI (nI i)), some (aI (nI h)), some (aI (nI (Q h))), some (aI (nI c))] [] := by
            intro n
            induction n with
            | zero => intro c m2 Q2 P2 J2 D2 q2 s2 p2 l2 L2 hX hF hS hB hH hu hm2 h3 h4; exact absurd h4 (by omega)
            | succ n ih =>
              intro c m2 Q2 P2 J2 D2 q2 s2 p2 l2 L2 hX hF hS hB hH hu hm2 h3 h4
              have hmr2 := hB.le
              refine V.ild C dX5_searchFrom_40 rfl ?_
              refine V.bipush C (x := 8) dX5_searchFrom_42 (by decide) ?_
              refine V.icmpN_ge C (c) (8) (tgt := 70) dX5_searchFrom_44 (by decide) (by omega) (by omega) (fun h44 => ?_) (fun h44 => ?_)
              · skip
                refine V.iinc C (y := nI (h + 1)) dX5_searchFrom_70 rfl (nI_1 h) rfl ?_
                refine V.goto C (tgt := 10) dX5_searchFrom_73 (by decide) ?_
                exact ih0 (h + 1) m2 Q2 P2 J2 D2 q2 s2 p2 l2 _ _ _ hX hF hS (BI.next (by rw [show (8 : Nat) = c by omega]; exact hB)) hH (by omega) (by omega)
              · skip
                rcases ldT_ok hI hQr (show c < 8 by omega) with hl | ⟨y, hy, hl⟩
                · skip
                  refine V.ald_n C dX5_searchFrom_47 rfl ?_
                  refine V.get C fg_RX5_46 dX5_searchFrom_48 hX.x0 rfl ?_
                  refine V.ald_n C dX5_searchFrom_51 rfl ?_
                  refine V.ild_n C dX5_searchFrom_52 rfl ?_
                  refine V.ild C dX5_searchFrom_53 rfl ?_
                  refine V.callVp C mo_X5_leadsTo im_X5_leadsTo se_X5_leadsTo ml_RX5_204 (ev_X5_leadsTo hX hI hQr (show c < 8 by omega)) dX5_searchFrom_55 rfl rfl hX.x0 rfl rfl (Nat.le_of_ble_eq_true rfl) (RmOk.mk' (by decide) (by decide) (by decide) (by decide)) ⟨rfl, rfl⟩ ?_
                  refine V.top hl ?_
                  refine V.ild_n C dX5_searchFrom_58 rfl ?_
                  refine V.ild C dX5_searchFrom_59 rfl ?_
                  refine V.callV C mo_X3_reach im_X3_reach se_X3_reach ml_RX5_271 (ev_X3_reach_n hS _ _) dX5_searchFrom_61 rfl rfl hS.1 rfl rfl (Nat.le_of_ble_eq_true rfl) (RmOk.mk' (by decide) (by decide) (by decide) (by decide)) (fun v L1 hq => ?_)
                  obtain ⟨rfl, rfl⟩ := hq
                  refine V.iinc C (y := nI (c + 1)) dX5_searchFrom_64 rfl (nI_1 c) rfl ?_
                  refine V.goto C (tgt := 40) dX5_searchFrom_67 (by decide) ?_
                  exact ih (c + 1) m2 Q2 P2 J2 D2 q2 s2 p2 l2 _ hX hF hS (hB.skip (fun y _ e => by rw [hu, hl] at e; exact absurd e.symm (nI_neg (by omega)))) hH hu hm2 (by omega) (by omega)
                · skip
                  by_cases hf : ∃ k, k < m2 ∧ Q2 k = y
                  · skip
                    refine V.ald_n C dX5_searchFrom_47 rfl ?_
                    refine V.get C fg_RX5_46 dX5_searchFrom_48 hX.x0 rfl ?_
                    have hD : ∀ k, k < m2 → D2 k < 2 ^ 31 := fun k hk => by have := BH_D hB hH (k + 1) k (by omega) hk; omega
                    refine V.ald_n C dX5_searchFrom_51 rfl ?_
                    refine V.ild_n C dX5_searchFrom_52 rfl ?_
                    refine V.ild C dX5_searchFrom_53 rfl ?_
                    refine V.callVp C mo_X5_leadsTo im_X5_leadsTo se_X5_leadsTo ml_RX5_204 (ev_X5_leadsTo hX hI hQr (show c < 8 by omega)) dX5_searchFrom_55 rfl rfl hX.x0 rfl rfl (Nat.le_of_ble_eq_true rfl) (RmOk.mk' (by decide) (by decide) (by decide) (by decide)) ⟨rfl, rfl⟩ ?_
                    refine V.top hl ?_
                    refine V.ild_n C dX5_searchFrom_58 rfl ?_
                    refine V.ild C dX5_searchFrom_59 rfl ?_
                    refine V.callV C mo_X3_reach im_X3_reach se_X3_reach ml_RX5_271 (ev_X3_reach_f hS (show y < 20 by omega) (show Q h < 20 by omega) (by obtain ⟨k, hk, e⟩ := hf; rw [← e, (hH.1 k hk).2]; exact nI_neg (hD k hk)) _) dX5_searchFrom_61 rfl rfl hS.1 rfl rfl (Nat.le_of_ble_eq_true rfl) (RmOk.mk' (by decide) (by decide) (by decide) (by decide)) (fun v L1 hq => ?_)
                    obtain ⟨rfl, rfl⟩ := hq
                    refine V.iinc C (y := nI (c + 1)) dX5_searchFrom_64 rfl (nI_1 c) rfl ?_
                    refine V.goto C (tgt := 40) dX5_searchFrom_67 (by decide) ?_
                    exact ih (c + 1) m2 Q2 P2 J2 D2 q2 s2 p2 l2 _ hX hF hS (hB.skip (fun y2 hy2 e => by rw [hu, hl] at e; rw [← nI_inj (by omega) (by omega) e]; exact hf)) hH hu hm2 (by omega) (by omega)
                  · skip
                    refine V.ald_n C dX5_searchFrom_47 rfl ?_
                    refine V.get C fg_RX5_46 dX5_searchFrom_48 hX.x0 rfl ?_
                    have hn : ∀ k, k < m2 → Q2 k ≠ y := fun k hk e => hf ⟨k, hk, e⟩
                    have hm20 : m2 < 20 := by have := php_in hB.2.2.1 hB.2.2.2.1 hy hn; omega
                    refine V.ald_n C dX5_searchFrom_51 rfl ?_
                    refine V.ild_n C dX5_searchFrom_52 rfl ?_
                    refine V.ild C dX5_searchFrom_53 rfl ?_
                    refine V.callVp C mo_X5_leadsTo im_X5_leadsTo se_X5_leadsTo ml_RX5_204 (ev_X5_leadsTo hX hI hQr (show c < 8 by omega)) dX5_searchFrom_55 rfl rfl hX.x0 rfl rfl (Nat.le_of_ble_eq_true rfl) (RmOk.mk' (by decide) (by decide) (by decide) (by decide)) ⟨rfl, rfl⟩ ?_
                    refine V.top hl ?_
                    refine V.ild_n C dX5_searchFrom_58 rfl ?_
                    refine V.ild C dX5_searchFrom_59 rfl ?_
                    refine V.callV C mo_X3_reach im_X3_reach se_X3_reach ml_RX5_271 (ev_X3_reach_t hS (show y < 20 by omega) (show Q h < 20 by omega) hm20 (hH.2.2.2 y (by omega) hn) _) dX5_searchFrom_61 rfl rfl hS.1 rfl rfl (Nat.le_of_ble_eq_true rfl) (RmOk.mk' (by decide) (by decide) (by decide) (by decide)) (fun v L1 hq => ?_)
                    obtain ⟨rfl, hF2, hS⟩ := hq
                    have hX := hX.setS hF2.2 hF2.1 hS
                    have hF := hF.tr hF2.X
                    refine V.iinc C (y := nI (c + 1)) dX5_searchFrom_64 rfl (nI_1 c) rfl ?_
                    refine V.goto C (tgt := 40) dX5_searchFrom_67 (by decide) ?_
                    exact ih (c + 1) (m2 + 1) _ _ _ _ _ _ _ _ _ hX hF hS (hB.add hm2 (by omega) hy (by rw [hu]; exact hl) hn hN.1) (by have := hH.add hB (c := c) hm2 (show y < 20 by omega) hn hN.1; rw [hu] at this; exact this) (by simp only [show ¬ h = m2 by omega, if_false]; exact hu) (by omega) (by omega) (by omega)
          exact key40 9 0 m Q P J D q s p l _ hX hF hS hB hH rfl (by omega) (by omega) (by omega)
  exact key10 21 0 1 _ _ _ _ _ _ _ _ _ _ _ hX hF hS hB hH (by omega) (by omega)
theorem nI_m1 {n m : Nat} (h : n = m + 1) : nI n + (-1) = nI m := by
  rw [h, ← nI_1, Int32.add_assoc, show (1 : Int32) + (-1) = 0 by decide, Int32.add_zero]
theorem nI_s1 {n m : Nat} (h : n = m + 1) : nI n - 1 = nI m := by
  rw [h, nI_pred]
theorem ev_X3_directionOfStep {g : GD} {L : List AE} {q s p l : Nat → Int32} {rc : Int32} (hS : XS q s p l rc L) {A : ST} {r i m : Nat} {Q P J D : Nat → Nat} (hr : r ≤ 20) (hi : i < r) (hB : BI A r i m m 0 Q P J) (hH : BH m Q P J D q s p l) {t2 k : Nat} (ht : t2 < m) (hk : k < D t2) : EvP g mX3_directionOfStep [aR 8, aI (nI (Q t2)), aI (nI k)] L (some (aI (nI (J (anc P t2 (D t2 - 1 - k)))))) := by
  refine Ev.of [some (aR 8), some (aI (nI (Q t2))), some (aI (nI k)), none, none] (by decide) rfl (Nat.le_of_ble_eq_true rfl) fun Z H0 C X => ?_
  have hQt := hB.2.2.1 t2 ht
  have hDt : D t2 ≤ t2 := BH_D hB hH (t2 + 1) t2 (by omega) ht
  have hmr := hB.le
  refine V.ild_n C dX3_directionOfStep_0 rfl ?_
  refine V.ist_n C dX3_directionOfStep_1 (Nat.le_of_ble_eq_true rfl) rfl ?_
  refine V.ald_n C dX3_directionOfStep_2 rfl ?_
  refine V.ild_n C dX3_directionOfStep_3 rfl ?_
  refine V.callVp C mo_X3_stepsTo im_X3_stepsTo se_X3_stepsTo ml_RX3_38 (ev_X3_stepsTo hS (show Q t2 < 20 by omega)) dX3_directionOfStep_4 rfl rfl hS.1 rfl rfl (Nat.le_of_ble_eq_true rfl) (RmOk.mk' (by decide) (by decide) (by decide) (by decide)) ⟨rfl, rfl⟩ ?_
  refine V.top (hH.1 t2 ht).2 ?_
  refine V.iconst C (x := 1) dX3_directionOfStep_7 (by decide) ?_
  refine V.isub C dX3_directionOfStep_8 ?_
  refine V.top (nI_s1 (show D t2 = (D t2 - 1) + 1 by omega)) ?_
  refine V.ist C dX3_directionOfStep_9 (Nat.le_of_ble_eq_true rfl) rfl ?_
  have key11 : ∀ (n : Nat) (e : Nat), e ≤ D t2 - 1 - k → D t2 - e < n → V g Z H0 5 L 0 0 11 [some (aR 8), some (aI (nI (Q t2))), some (aI (nI k)), some (aI (nI (Q (anc P t2 e)))), some (aI (nI (D t2 - 1 - e)))] [] := by
    intro n
    induction n with
    | zero => intro e h1 h2; exact absurd h2 (by omega)
    | succ n ih =>
      intro e h1 h2
      obtain ⟨a1, a2⟩ := anc_ok hB hH ht e (by omega)
      have a0 : 0 < anc P t2 e := Nat.pos_of_ne_zero (fun z => by rw [z, hH.2.2.1] at a2; omega)
      have hq20 := hB.2.2.1 _ a1
      refine V.ild C dX3_directionOfStep_11 rfl ?_
      refine V.ild_n C dX3_directionOfStep_13 rfl ?_
      refine V.icmpN_le C (D t2 - 1 - e) (k) (tgt := 37) dX3_directionOfStep_14 (by decide) (by omega) (by omega) (fun h14 => ?_) (fun h14 => ?_)
      · skip
        refine V.ild_n C dX3_directionOfStep_37 rfl ?_
        refine V.callSp C mo_X3_isNumber sm_X3_isNumber ml_RX3_34 (ev_X3_isNumber _) dX3_directionOfStep_38 rfl rfl (Nat.le_of_ble_eq_true rfl) (RmOk.mk' (by decide) (by decide) (by decide) (by decide)) ⟨rfl, rfl⟩ ?_
        refine V.ifb_eq C (tgt := 53) dX3_directionOfStep_41 (by decide) (fun h41 => absurd (isN_nI (show Q (anc P t2 e) < 20 by omega) (by omega)) h41) (fun h41 => ?_)
        refine V.ald_n C dX3_directionOfStep_44 rfl ?_
        refine V.get C fg_RX3_21 dX3_directionOfStep_45 hS.1 rfl ?_
        refine V.ild_n C dX3_directionOfStep_48 rfl ?_
        refine V.ialdN C (N := 20) dX3_directionOfStep_49 hS.2.2.2.2 (by omega) (by decide) ?_
        refine V.top (hH.2.1 _ a0 a1).2.1 ?_
        refine V.goto C (tgt := 54) dX3_directionOfStep_50 (by decide) ?_
        exact V.iret X dX3_directionOfStep_54 rfl (by decide) (by decide) (by cases (show D t2 - 1 - k = e by omega); exact pq rfl)
      · skip
        refine V.ild_n C dX3_directionOfStep_17 rfl ?_
        refine V.callSp C mo_X3_isNumber sm_X3_isNumber ml_RX3_34 (ev_X3_isNumber _) dX3_directionOfStep_18 rfl rfl (Nat.le_of_ble_eq_true rfl) (RmOk.mk' (by decide) (by decide) (by decide) (by decide)) ⟨rfl, rfl⟩ ?_
        refine V.ifb_eq C (tgt := 37) dX3_directionOfStep_21 (by decide) (fun h21 => absurd (isN_nI (show Q (anc P t2 e) < 20 by omega) (by omega)) h21) (fun h21 => ?_)
        refine V.ald_n C dX3_directionOfStep_24 rfl ?_
        refine V.get C fg_RX3_18 dX3_directionOfStep_25 hS.1 rfl ?_
        refine V.ild_n C dX3_directionOfStep_28 rfl ?_
        refine V.ialdN C (N := 20) dX3_directionOfStep_29 hS.2.2.2.1 (by omega) (by decide) ?_
        refine V.top (hH.2.1 _ a0 a1).1 ?_
        refine V.ist_n C dX3_directionOfStep_30 (Nat.le_of_ble_eq_true rfl) rfl ?_
        refine V.iinc C (y := nI (D t2 - 1 - (e + 1))) dX3_directionOfStep_31 rfl (nI_m1 (by omega)) rfl ?_
        refine V.goto C (tgt := 11) dX3_directionOfStep_34 (by decide) ?_
        exact ih (e + 1) (by omega) (by omega)
  exact key11 (D t2 + 1) 0 (by omega) (by omega)
theorem ev_X5_follow {g : GD} {r d t b : Nat} {A : ST} {da ta ba : Nat → Nat} {gr hc : Nat → Int32} {L : List AE} (hX : XR0 r d t b A da ta ba gr hc L) (hI : Inv r d t b A) (hR : Rl t b A gr hc) (hJ : Jv r t b A) (x y : Int32) : Ev g mX5_follow [aR 0, aI x, aI y] L (XQt L (S_follow r d t b A x y)) := by
  refine Ev.of [some (aR 0), some (aI x), some (aI y), none, none] (by decide) rfl (Nat.le_of_ble_eq_true rfl) fun Z H0 C X => ?_
  have hN := hI.cn
  have hF : FrX L L := FrX.rf
  rcases isN_cases x b (by omega) with ⟨w, hw, rfl⟩ | hw
  · skip
    rcases isN_cases y b (by omega) with ⟨v, hv, rfl⟩ | hv
    · skip
      refine V.ald_n C dX5_follow_0 rfl ?_
      refine V.ild_n C dX5_follow_1 rfl ?_
      refine V.callVp C mo_X5_beingAt im_X5_beingAt se_X5_beingAt ml_RX5_133 (ev_X5_beingAt_t hX hI (show w < b by omega)) dX5_follow_2 rfl rfl hX.x0 rfl rfl (Nat.le_of_ble_eq_true rfl) (RmOk.mk' (by decide) (by decide) (by decide) (by decide)) ⟨rfl, rfl⟩ ?_
      refine V.ast_n C dX5_follow_5 (Nat.le_of_ble_eq_true rfl) rfl ?_
      refine V.ald_n C dX5_follow_6 rfl ?_
      refine V.ild_n C dX5_follow_7 rfl ?_
      refine V.callVp C mo_X5_beingAt im_X5_beingAt se_X5_beingAt ml_RX5_133 (ev_X5_beingAt_t hX hI (show v < b by omega)) dX5_follow_8 rfl rfl hX.x0 rfl rfl (Nat.le_of_ble_eq_true rfl) (RmOk.mk' (by decide) (by decide) (by decide) (by decide)) ⟨rfl, rfl⟩ ?_
      refine V.ast C dX5_follow_11 (Nat.le_of_ble_eq_true rfl) rfl ?_
      refine V.ald_n C dX5_follow_13 rfl ?_
      refine V.ifnull C dX5_follow_14 ?_
      refine V.ald C dX5_follow_17 rfl ?_
      refine V.ifnonnull C (tgt := 24) dX5_follow_19 (by decide) ?_
      obtain ⟨i, hi, h17⟩ := (hI.cb hw).1
      obtain ⟨e, he, h17v⟩ := (hI.cb hv).1
      refine V.ald_n C dX5_follow_24 rfl ?_
      refine V.get C fg_RX5_191 dX5_follow_25 (hX.bb (show w < b by omega)) rfl ?_
      refine V.top h17 ?_
      refine V.ald C dX5_follow_28 rfl ?_
      refine V.get C fg_RX5_191 dX5_follow_30 (hX.bb (show v < b by omega)) rfl ?_
      refine V.top h17v ?_
      refine V.icmpN_ne C (i) (e) (tgt := 41) dX5_follow_33 (by decide) (by omega) (by omega) (fun h33 => ?_) (fun h33 => ?_)
      · skip
        refine V.ald_n C dX5_follow_41 rfl ?_
        refine V.ald_n C dX5_follow_42 rfl ?_
        refine V.get C fg_RX5_191 dX5_follow_43 (hX.bb (show w < b by omega)) rfl ?_
        refine V.top h17 ?_
        refine V.callV C mo_X5_searchFrom im_X5_searchFrom se_X5_searchFrom ml_RX5_194 (ev_X5_searchFrom hX hI hi) dX5_follow_46 rfl rfl hX.x0 rfl rfl (Nat.le_of_ble_eq_true rfl) (RmOk.mk' (by decide) (by decide) (by decide) (by decide)) (fun v L1 hq => ?_)
        obtain ⟨rfl, hX, hF2, m, Q, P, J, D, q, s, p, l, rc, hS, hB, hH⟩ := hq
        have hF := hF.tr hF2
        rcases BF_s hi hN.1 hB hH he with ⟨hd9, hs9⟩ | ⟨t2, ht2, hQt, hdt, hst, hDr⟩
        · skip
          refine V.ald_n C dX5_follow_49 rfl ?_
          refine V.get C fg_RX5_46 dX5_follow_50 hX.x0 rfl ?_
          refine V.ald C dX5_follow_53 rfl ?_
          refine V.get C fg_RX5_191 dX5_follow_55 (hX.bb (show v < b by omega)) rfl ?_
          refine V.top h17v ?_
          refine V.callVp C mo_X3_stepsTo im_X3_stepsTo se_X3_stepsTo ml_RX5_198 (ev_X3_stepsTo hS (show e < 20 by omega)) dX5_follow_58 rfl rfl hS.1 rfl rfl (Nat.le_of_ble_eq_true rfl) (RmOk.mk' (by decide) (by decide) (by decide) (by decide)) ⟨rfl, rfl⟩ ?_
          refine V.top hs9 ?_
          refine V.iconst C (x := -1) dX5_follow_61 (by decide) ?_
          refine V.icmp_ne C (tgt := 68) dX5_follow_62 (by decide) (fun h62 => absurd h62 (by decide)) (fun h62 => ?_)
          refine V.bipush C (x := -31) dX5_follow_65 (by decide) ?_
          exact V.iret X dX5_follow_67 rfl (by decide) (by decide) (by unfold S_follow; rw [ok1_t hw (by omega), ok1_t hv (by omega), h17, h17v, cI_f (fun z => h33 (nI_inj (by omega) (by omega) z)), nI_clamp (by omega), nI_clamp (by omega), cI_t hd9]; exact ⟨rfl, ⟨_, _, _, _, _, hX, hR⟩, hF⟩)
        · skip
          refine V.ald_n C dX5_follow_49 rfl ?_
          refine V.get C fg_RX5_46 dX5_follow_50 hX.x0 rfl ?_
          refine V.ald C dX5_follow_53 rfl ?_
          refine V.get C fg_RX5_191 dX5_follow_55 (hX.bb (show v < b by omega)) rfl ?_
          refine V.top h17v ?_
          refine V.callVp C mo_X3_stepsTo im_X3_stepsTo se_X3_stepsTo ml_RX5_198 (ev_X3_stepsTo hS (show e < 20 by omega)) dX5_follow_58 rfl rfl hS.1 rfl rfl (Nat.le_of_ble_eq_true rfl) (RmOk.mk' (by decide) (by decide) (by decide) (by decide)) ⟨rfl, rfl⟩ ?_
          refine V.top hst ?_
          refine V.iconst C (x := -1) dX5_follow_61 (by decide) ?_
          refine V.icmp_ne C (tgt := 68) dX5_follow_62 (by decide) (fun h62 => ?_) (fun h62 => absurd h62 (nI_neg (by omega)))
          have hD0 : 0 < D t2 := Nat.pos_of_ne_zero (fun z => by
            have hp := BP hB hH (t2 + 1) t2 (by omega) ht2
            rw [z, hQt] at hp
            exact h33 hp)
          have hsti := ((B_main hi hN.1 hB hH ht2) 0 (by omega)).2 hD0
          have hJ8 := (hB.2.2.2.2.1 _ (Nat.pos_of_ne_zero (fun z => by have := (anc_ok hB hH ht2 (D t2 - 1 - 0) (by omega)).2; rw [z, hH.2.2.1] at this; omega)) (anc_ok hB hH ht2 (D t2 - 1 - 0) (by omega)).1).2.1
          rw [hQt] at hsti
          have hsti : stI A r e i = nI (J (anc P t2 (D t2 - 1 - 0))) := hsti
          refine V.ald_n C dX5_follow_68 rfl ?_
          refine V.ald_n C dX5_follow_69 rfl ?_
          refine V.ald_n C dX5_follow_70 rfl ?_
          refine V.get C fg_RX5_46 dX5_follow_71 hX.x0 rfl ?_
          refine V.ald C dX5_follow_74 rfl ?_
          refine V.get C fg_RX5_191 dX5_follow_76 (hX.bb (show v < b by omega)) rfl ?_
          refine V.top (h17v.trans (congrArg nI hQt.symm)) ?_
          refine V.iconst C (x := 0) dX5_follow_79 (by decide) ?_
          refine V.callVp C mo_X3_directionOfStep im_X3_directionOfStep se_X3_directionOfStep ml_RX5_201 (ev_X3_directionOfStep hS hN.1 hi hB hH ht2 hD0) dX5_follow_80 rfl rfl hS.1 rfl rfl (Nat.le_of_ble_eq_true rfl) (RmOk.mk' (by decide) (by decide) (by decide) (by decide)) ⟨rfl, rfl⟩ ?_
          refine V.callV C mo_X5_goBy im_X5_goBy se_X5_goBy ml_RX5_179 (ev_X5_goBy hX hI hR hJ hw hJ8) dX5_follow_83 rfl rfl hX.x0 rfl rfl (Nat.le_of_ble_eq_true rfl) (RmOk.mk' (by decide) (by decide) (by decide) (by decide)) (fun v L1 hq => ?_)
          obtain ⟨rfl, ⟨gr, hX, hR⟩, hF2⟩ := hq
          have hF := hF.tr hF2
          exact V.iret X dX5_follow_86 rfl (by decide) (by decide) (by unfold S_follow; rw [ok1_t hw (by omega), ok1_t hv (by omega), h17, h17v, cI_f (fun z => h33 (nI_inj (by omega) (by omega) z)), nI_clamp (by omega), nI_clamp (by omega), cI_f (by omega), hsti, nI_clamp (by omega)]; exact ⟨rfl, ⟨_, _, _, _, _, hX, hR⟩, hF⟩)
      · skip
        refine V.ald_n C dX5_follow_36 rfl ?_
        refine V.get C fg_RX5_191 dX5_follow_37 (hX.bb (show w < b by omega)) rfl ?_
        refine V.top h17 ?_
        exact V.iret X dX5_follow_40 rfl (by decide) (by decide) (by unfold S_follow; rw [ok1_t hw (by omega), ok1_t hv (by omega), cI_t (by rw [h17, h17v, h33]), h17]; exact ⟨rfl, ⟨_, _, _, _, _, hX, hR⟩, hF⟩)
    · skip
      refine V.ald_n C dX5_follow_0 rfl ?_
      refine V.ild_n C dX5_follow_1 rfl ?_
      refine V.callVp C mo_X5_beingAt im_X5_beingAt se_X5_beingAt ml_RX5_133 (ev_X5_beingAt_t hX hI (show w < b by omega)) dX5_follow_2 rfl rfl hX.x0 rfl rfl (Nat.le_of_ble_eq_true rfl) (RmOk.mk' (by decide) (by decide) (by decide) (by decide)) ⟨rfl, rfl⟩ ?_
      refine V.ast_n C dX5_follow_5 (Nat.le_of_ble_eq_true rfl) rfl ?_
      refine V.ald_n C dX5_follow_6 rfl ?_
      refine V.ild_n C dX5_follow_7 rfl ?_
      refine V.callVp C mo_X5_beingAt im_X5_beingAt se_X5_beingAt ml_RX5_133 (ev_X5_beingAt_f hX hI hv) dX5_follow_8 rfl rfl hX.x0 rfl rfl (Nat.le_of_ble_eq_true rfl) (RmOk.mk' (by decide) (by decide) (by decide) (by decide)) ⟨rfl, rfl⟩ ?_
      refine V.ast C dX5_follow_11 (Nat.le_of_ble_eq_true rfl) rfl ?_
      refine V.ald_n C dX5_follow_13 rfl ?_
      refine V.ifnull C dX5_follow_14 ?_
      refine V.ald C dX5_follow_17 rfl ?_
      refine V.ifnonnullN C dX5_follow_19 ?_
      refine V.iconst C (x := -1) dX5_follow_22 (by decide) ?_
      exact V.iret X dX5_follow_23 rfl (by decide) (by decide) (by unfold S_follow; rw [ok1_t hw (by omega), ok1_f hv]; exact ⟨rfl, ⟨_, _, _, _, _, hX, hR⟩, hF⟩)
  · skip
    rcases isN_cases y b (by omega) with ⟨v, hv, rfl⟩ | hv
    · skip
      refine V.ald_n C dX5_follow_0 rfl ?_
      refine V.ild_n C dX5_follow_1 rfl ?_
      refine V.callVp C mo_X5_beingAt im_X5_beingAt se_X5_beingAt ml_RX5_133 (ev_X5_beingAt_f hX hI hw) dX5_follow_2 rfl rfl hX.x0 rfl rfl (Nat.le_of_ble_eq_true rfl) (RmOk.mk' (by decide) (by decide) (by decide) (by decide)) ⟨rfl, rfl⟩ ?_
      refine V.ast_n C dX5_follow_5 (Nat.le_of_ble_eq_true rfl) rfl ?_
      refine V.ald_n C dX5_follow_6 rfl ?_
      refine V.ild_n C dX5_follow_7 rfl ?_
      refine V.callVp C mo_X5_beingAt im_X5_beingAt se_X5_beingAt ml_RX5_133 (ev_X5_beingAt_t hX hI (show v < b by omega)) dX5_follow_8 rfl rfl hX.x0 rfl rfl (Nat.le_of_ble_eq_true rfl) (RmOk.mk' (by decide) (by decide) (by decide) (by decide)) ⟨rfl, rfl⟩ ?_
      refine V.ast C dX5_follow_11 (Nat.le_of_ble_eq_true rfl) rfl ?_
      refine V.ald_n C dX5_follow_13 rfl ?_
      refine V.ifnullN C (tgt := 22) dX5_follow_14 (by decide) ?_
      refine V.iconst C (x := -1) dX5_follow_22 (by decide) ?_
      exact V.iret X dX5_follow_23 rfl (by decide) (by decide) (by unfold S_follow; rw [ok1_f hw]; exact ⟨rfl, ⟨_, _, _, _, _, hX, hR⟩, hF⟩)
    · skip
      refine V.ald_n C dX5_follow_0 rfl ?_
      refine V.ild_n C dX5_follow_1 rfl ?_
      refine V.callVp C mo_X5_beingAt im_X5_beingAt se_X5_beingAt ml_RX5_133 (ev_X5_beingAt_f hX hI hw) dX5_follow_2 rfl rfl hX.x0 rfl rfl (Nat.le_of_ble_eq_true rfl) (RmOk.mk' (by decide) (by decide) (by decide) (by decide)) ⟨rfl, rfl⟩ ?_
      refine V.ast_n C dX5_follow_5 (Nat.le_of_ble_eq_true rfl) rfl ?_
      refine V.ald_n C dX5_follow_6 rfl ?_
      refine V.ild_n C dX5_follow_7 rfl ?_
      refine V.callVp C mo_X5_beingAt im_X5_beingAt se_X5_beingAt ml_RX5_133 (ev_X5_beingAt_f hX hI hv) dX5_follow_8 rfl rfl hX.x0 rfl rfl (Nat.le_of_ble_eq_true rfl) (RmOk.mk' (by decide) (by decide) (by decide) (by decide)) ⟨rfl, rfl⟩ ?_
      refine V.ast C dX5_follow_11 (Nat.le_of_ble_eq_true rfl) rfl ?_
      refine V.ald_n C dX5_follow_13 rfl ?_
      refine V.ifnullN C (tgt := 22) dX5_follow_14 (by decide) ?_
      refine V.iconst C (x := -1) dX5_follow_22 (by decide) ?_
      exact V.iret X dX5_follow_23 rfl (by decide) (by decide) (by unfold S_follow; rw [ok1_f hw]; exact ⟨rfl, ⟨_, _, _, _, _, hX, hR⟩, hF⟩)
theorem ev_X5_route {g : GD} {r d t b : Nat} {A : ST} {da ta ba : Nat → Nat} {gr hc : Nat → Int32} {L : List AE} (hX : XR0 r d t b A da ta ba gr hc L) (hI : Inv r d t b A) (x y z : Int32) : Ev g mX5_route [aR 0, aI x, aI y, aI z] L (fun v L1 => v = some (aI (F_route r A x y z)) ∧ XR0 r d t b A da ta ba gr hc L1 ∧ FrX L L1) := by
  refine Ev.of [some (aR 0), some (aI x), some (aI y), some (aI z), none] (by decide) rfl (Nat.le_of_ble_eq_true rfl) fun Z H0 C X => ?_
  have hN := hI.cn
  have hF : FrX L L := FrX.rf
  rcases isN_cases x r (by omega) with ⟨i, hi, rfl⟩ | hi
  · skip
    rcases isN_cases y r (by omega) with ⟨e, he, rfl⟩ | he
    · skip
      refine V.ald_n C dX5_route_0 rfl ?_
      refine V.ild_n C dX5_route_1 rfl ?_
      refine V.callVp C mo_X5_isRoom im_X5_isRoom se_X5_isRoom ml_RX5_61 (ev_X5_isRoom hX hI _) dX5_route_2 rfl rfl hX.x0 rfl rfl (Nat.le_of_ble_eq_true rfl) (RmOk.mk' (by decide) (by decide) (by decide) (by decide)) ⟨rfl, rfl⟩ ?_
      refine V.ifb_eq C (tgt := 21) dX5_route_5 (by decide) (fun h5 => absurd (isN_nI (show i < r by omega) (by omega)) h5) (fun h5 => ?_)
      refine V.ald_n C dX5_route_8 rfl ?_
      refine V.ild_n C dX5_route_9 rfl ?_
      refine V.callVp C mo_X5_isRoom im_X5_isRoom se_X5_isRoom ml_RX5_61 (ev_X5_isRoom hX hI _) dX5_route_10 rfl rfl hX.x0 rfl rfl (Nat.le_of_ble_eq_true rfl) (RmOk.mk' (by decide) (by decide) (by decide) (by decide)) ⟨rfl, rfl⟩ ?_
      refine V.ifb_eq C (tgt := 21) dX5_route_13 (by decide) (fun h13 => absurd (isN_nI (show e < r by omega) (by omega)) h13) (fun h13 => ?_)
      refine V.ild_n C dX5_route_16 rfl ?_
      refine V.iconst C (x := -1) dX5_route_17 (by decide) ?_
      refine V.icmp_ge C (tgt := 23) dX5_route_18 (by decide) (fun h18 => ?_) (fun h18 => ?_)
      · skip
        refine V.ald_n C dX5_route_23 rfl ?_
        refine V.ild_n C dX5_route_24 rfl ?_
        refine V.callV C mo_X5_searchFrom im_X5_searchFrom se_X5_searchFrom ml_RX5_194 (ev_X5_searchFrom hX hI hi) dX5_route_25 rfl rfl hX.x0 rfl rfl (Nat.le_of_ble_eq_true rfl) (RmOk.mk' (by decide) (by decide) (by decide) (by decide)) (fun v L1 hq => ?_)
        obtain ⟨rfl, hX, hF2, m, Q, P, J, D, q, s, p, l, rc, hS, hB, hH⟩ := hq
        have hF := hF.tr hF2
        rcases BF_s hi hN.1 hB hH he with ⟨hd9, hs9⟩ | ⟨t2, ht2, hQt, hdt, hst, hDr⟩
        · skip
          refine V.ald_n C dX5_route_28 rfl ?_
          refine V.get C fg_RX5_46 dX5_route_29 hX.x0 rfl ?_
          refine V.ild_n C dX5_route_32 rfl ?_
          refine V.callVp C mo_X3_stepsTo im_X3_stepsTo se_X3_stepsTo ml_RX5_198 (ev_X3_stepsTo hS (show e < 20 by omega)) dX5_route_33 rfl rfl hS.1 rfl rfl (Nat.le_of_ble_eq_true rfl) (RmOk.mk' (by decide) (by decide) (by decide) (by decide)) ⟨rfl, rfl⟩ ?_
          refine V.top hs9 ?_
          refine V.ist C dX5_route_36 (Nat.le_of_ble_eq_true rfl) rfl ?_
          refine V.ild C dX5_route_38 rfl ?_
          refine V.iconst C (x := -1) dX5_route_40 (by decide) ?_
          refine V.icmp_eq C (tgt := 50) dX5_route_41 (by decide) (fun h41 => ?_) (fun h41 => absurd h41 (by decide))
          refine V.iconst C (x := -1) dX5_route_50 (by decide) ?_
          exact V.iret X dX5_route_51 rfl (by decide) (by decide) ⟨congrArg (fun z => some (aI z)) (by unfold F_route; rw [ok1_t hi (by omega), ok1_t he (by omega), cI_t h18, cI_t (Or.inl hd9)]), hX, hF⟩
        · skip
          refine V.ald_n C dX5_route_28 rfl ?_
          refine V.get C fg_RX5_46 dX5_route_29 hX.x0 rfl ?_
          refine V.ild_n C dX5_route_32 rfl ?_
          refine V.callVp C mo_X3_stepsTo im_X3_stepsTo se_X3_stepsTo ml_RX5_198 (ev_X3_stepsTo hS (show e < 20 by omega)) dX5_route_33 rfl rfl hS.1 rfl rfl (Nat.le_of_ble_eq_true rfl) (RmOk.mk' (by decide) (by decide) (by decide) (by decide)) ⟨rfl, rfl⟩ ?_
          refine V.top hst ?_
          refine V.ist C dX5_route_36 (Nat.le_of_ble_eq_true rfl) rfl ?_
          refine V.ild C dX5_route_38 rfl ?_
          refine V.iconst C (x := -1) dX5_route_40 (by decide) ?_
          refine V.icmp_eq C (tgt := 50) dX5_route_41 (by decide) (fun h41 => absurd h41 (nI_neg (by omega))) (fun h41 => ?_)
          refine V.ild_n C dX5_route_44 rfl ?_
          refine V.ild C dX5_route_45 rfl ?_
          refine V.icmp_lt C (tgt := 52) dX5_route_47 (by decide) (fun h47 => ?_) (fun h47 => ?_)
          · skip
            refine V.ild_n C dX5_route_52 rfl ?_
            refine V.iconst C (x := -1) dX5_route_53 (by decide) ?_
            refine V.icmp_ne C (tgt := 62) dX5_route_54 (by decide) (fun h54 => ?_) (fun h54 => ?_)
            · skip
              obtain ⟨k, hk, rfl⟩ : ∃ k, k < D t2 ∧ z = nI k := by
                have hm1 : (-1 : Int32).toInt = -1 := by decide
                have hz : isN z (D t2) := by
                  have a1 := i32_le.mp h18
                  have a2 := i32_lt.mp h47
                  rw [hm1] at a1
                  rw [nI_toInt (by omega)] at a2
                  have a3 : z.toInt ≠ -1 := fun q => h54 (i32_eq.mpr (q.trans hm1.symm))
                  unfold isN
                  omega
                exact isN_ex hz (by omega)
              have hsti := ((B_main hi hN.1 hB hH ht2) k (by omega)).2 hk
              rw [hQt] at hsti
              refine V.ald_n C dX5_route_62 rfl ?_
              refine V.get C fg_RX5_46 dX5_route_63 hX.x0 rfl ?_
              refine V.ild_n C dX5_route_66 rfl ?_
              refine V.top (show nI e = nI (Q t2) by rw [hQt]) ?_
              refine V.ild_n C dX5_route_67 rfl ?_
              refine V.callVp C mo_X3_directionOfStep im_X3_directionOfStep se_X3_directionOfStep ml_RX5_201 (ev_X3_directionOfStep hS hN.1 hi hB hH ht2 hk) dX5_route_68 rfl rfl hS.1 rfl rfl (Nat.le_of_ble_eq_true rfl) (RmOk.mk' (by decide) (by decide) (by decide) (by decide)) ⟨rfl, rfl⟩ ?_
              exact V.iret X dX5_route_71 rfl (by decide) (by decide) ⟨congrArg (fun z => some (aI z)) (by unfold F_route; rw [ok1_t hi (by omega), ok1_t he (by omega), cI_t h18, cI_f (fun q => q.elim (fun z => by omega) (fun z => by rw [hdt] at z; exact absurd h47 (Int32.not_lt.mpr z))), cI_f h54, nI_clamp (by omega), hsti]), hX, hF⟩
            · skip
              refine V.ild C dX5_route_57 rfl ?_
              refine V.goto C (tgt := 71) dX5_route_59 (by decide) ?_
              exact V.iret X dX5_route_71 rfl (by decide) (by decide) ⟨congrArg (fun z => some (aI z)) (by unfold F_route; rw [ok1_t hi (by omega), ok1_t he (by omega), cI_t h18, cI_f (fun q => q.elim (fun z => by omega) (fun z => by rw [hdt] at z; exact absurd h47 (Int32.not_lt.mpr z))), cI_t h54, hdt]), hX, hF⟩
          · skip
            refine V.iconst C (x := -1) dX5_route_50 (by decide) ?_
            exact V.iret X dX5_route_51 rfl (by decide) (by decide) ⟨congrArg (fun z => some (aI z)) (by unfold F_route; rw [ok1_t hi (by omega), ok1_t he (by omega), cI_t h18, cI_t (Or.inr (by rw [hdt]; exact Int32.not_lt.mp h47))]), hX, hF⟩
      · skip
        refine V.iconst C (x := -1) dX5_route_21 (by decide) ?_
        exact V.iret X dX5_route_22 rfl (by decide) (by decide) ⟨congrArg (fun z => some (aI z)) (by unfold F_route; rw [ok1_t hi (by omega), ok1_t he (by omega), cI_f h18]), hX, hF⟩
    · skip
      refine V.ald_n C dX5_route_0 rfl ?_
      refine V.ild_n C dX5_route_1 rfl ?_
      refine V.callVp C mo_X5_isRoom im_X5_isRoom se_X5_isRoom ml_RX5_61 (ev_X5_isRoom hX hI _) dX5_route_2 rfl rfl hX.x0 rfl rfl (Nat.le_of_ble_eq_true rfl) (RmOk.mk' (by decide) (by decide) (by decide) (by decide)) ⟨rfl, rfl⟩ ?_
      refine V.ifb_eq C (tgt := 21) dX5_route_5 (by decide) (fun h5 => absurd (isN_nI (show i < r by omega) (by omega)) h5) (fun h5 => ?_)
      refine V.ald_n C dX5_route_8 rfl ?_
      refine V.ild_n C dX5_route_9 rfl ?_
      refine V.callVp C mo_X5_isRoom im_X5_isRoom se_X5_isRoom ml_RX5_61 (ev_X5_isRoom hX hI _) dX5_route_10 rfl rfl hX.x0 rfl rfl (Nat.le_of_ble_eq_true rfl) (RmOk.mk' (by decide) (by decide) (by decide) (by decide)) ⟨rfl, rfl⟩ ?_
      refine V.ifb_eq C (tgt := 21) dX5_route_13 (by decide) (fun h13 => ?_) (fun h13 => absurd h13 he)
      refine V.iconst C (x := -1) dX5_route_21 (by decide) ?_
      exact V.iret X dX5_route_22 rfl (by decide) (by decide) ⟨congrArg (fun z => some (aI z)) (by unfold F_route; rw [ok1_t hi (by omega), ok1_f he]), hX, hF⟩
  · skip
    refine V.ald_n C dX5_route_0 rfl ?_
    refine V.ild_n C dX5_route_1 rfl ?_
    refine V.callVp C mo_X5_isRoom im_X5_isRoom se_X5_isRoom ml_RX5_61 (ev_X5_isRoom hX hI _) dX5_route_2 rfl rfl hX.x0 rfl rfl (Nat.le_of_ble_eq_true rfl) (RmOk.mk' (by decide) (by decide) (by decide) (by decide)) ⟨rfl, rfl⟩ ?_
    refine V.ifb_eq C (tgt := 21) dX5_route_5 (by decide) (fun h5 => ?_) (fun h5 => absurd h5 hi)
    refine V.iconst C (x := -1) dX5_route_21 (by decide) ?_
    exact V.iret X dX5_route_22 rfl (by decide) (by decide) ⟨congrArg (fun z => some (aI z)) (by unfold F_route; rw [ok1_f hi]), hX, hF⟩
