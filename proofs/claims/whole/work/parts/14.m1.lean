theorem ev_X6_in {g : GD} {L : List AE} (v lo hi : Int32) : EvP g mX6_in [aI v, aI lo, aI hi] L (some (aI (b2 (lo ≤ v ∧ v ≤ hi)))) := by
  refine Ev.of [some (aI v), some (aI lo), some (aI hi)] (by decide) rfl (Nat.le_of_ble_eq_true rfl) fun Z H0 C X => ?_
  refine V.ild_n C dX6_in_0 rfl ?_
  refine V.ild_n C dX6_in_1 rfl ?_
  refine V.icmp_lt C (tgt := 14) dX6_in_2 (by decide) (fun h2 => ?_) (fun h2 => ?_)
  · skip
    refine V.iconst C (x := 0) dX6_in_14 (by decide) ?_
    exact V.iret X dX6_in_15 rfl (by decide) (by decide) (pq (b2_f (by simp only [i32_lt, i32_le] at *; omega)).symm)
  · skip
    refine V.ild_n C dX6_in_5 rfl ?_
    refine V.ild_n C dX6_in_6 rfl ?_
    refine V.icmp_gt C (tgt := 14) dX6_in_7 (by decide) (fun h7 => ?_) (fun h7 => ?_)
    · skip
      refine V.iconst C (x := 0) dX6_in_14 (by decide) ?_
      exact V.iret X dX6_in_15 rfl (by decide) (by decide) (pq (b2_f (by simp only [i32_lt, i32_le] at *; omega)).symm)
    · skip
      refine V.iconst C (x := 1) dX6_in_10 (by decide) ?_
      refine V.goto C (tgt := 15) dX6_in_11 (by decide) ?_
      exact V.iret X dX6_in_15 rfl (by decide) (by decide) (pq (b2_t (by simp only [i32_lt, i32_le] at *; omega)).symm)
theorem ev_X6_isRoom {g : GD} {r d t b : Nat} {A : ST} {L : List AE} (hM : MR r d t b A L) (hI : Inv r d t b A) (x : Int32) : EvP g mX6_isRoom [aR 23, aI x] L (some (aI (b2 (isN x r)))) := by
  refine Ev.of [some (aR 23), some (aI x)] (by decide) rfl (Nat.le_of_ble_eq_true rfl) fun Z H0 C X => ?_
  have hN := hI.cn
  refine V.ild_n C dX6_isRoom_0 rfl ?_
  refine V.iconst C (x := 0) dX6_isRoom_1 (by decide) ?_
  refine V.ald_n C dX6_isRoom_2 rfl ?_
  refine V.get C fg_RX6_81 dX6_isRoom_3 hM.1 rfl ?_
  refine V.iconst C (x := 1) dX6_isRoom_6 (by decide) ?_
  refine V.isub C dX6_isRoom_7 ?_
  refine V.callSp C mo_X6_in sm_X6_in ml_RX6_84 (ev_X6_in _ _ _) dX6_isRoom_8 rfl rfl (Nat.le_of_ble_eq_true rfl) (RmOk.mk' (by decide) (by decide) (by decide) (by decide)) ⟨rfl, rfl⟩ ?_
  exact V.iret X dX6_isRoom_11 (b2_nar _) (by decide) (by decide) (pq (b2_iff (in_isN (by omega))))
theorem ev_X6_isDoor {g : GD} {r d t b : Nat} {A : ST} {L : List AE} (hM : MR r d t b A L) (hI : Inv r d t b A) (x : Int32) : EvP g mX6_isDoor [aR 23, aI x] L (some (aI (b2 (isN x d)))) := by
  refine Ev.of [some (aR 23), some (aI x)] (by decide) rfl (Nat.le_of_ble_eq_true rfl) fun Z H0 C X => ?_
  have hN := hI.cn
  refine V.ild_n C dX6_isDoor_0 rfl ?_
  refine V.iconst C (x := 0) dX6_isDoor_1 (by decide) ?_
  refine V.ald_n C dX6_isDoor_2 rfl ?_
  refine V.get C fg_RX6_88 dX6_isDoor_3 hM.1 rfl ?_
  refine V.iconst C (x := 1) dX6_isDoor_6 (by decide) ?_
  refine V.isub C dX6_isDoor_7 ?_
  refine V.callSp C mo_X6_in sm_X6_in ml_RX6_84 (ev_X6_in _ _ _) dX6_isDoor_8 rfl rfl (Nat.le_of_ble_eq_true rfl) (RmOk.mk' (by decide) (by decide) (by decide) (by decide)) ⟨rfl, rfl⟩ ?_
  exact V.iret X dX6_isDoor_11 (b2_nar _) (by decide) (by decide) (pq (b2_iff (in_isN (by omega))))
theorem ev_X6_isThing {g : GD} {r d t b : Nat} {A : ST} {L : List AE} (hM : MR r d t b A L) (hI : Inv r d t b A) (x : Int32) : EvP g mX6_isThing [aR 23, aI x] L (some (aI (b2 (isN x t)))) := by
  refine Ev.of [some (aR 23), some (aI x)] (by decide) rfl (Nat.le_of_ble_eq_true rfl) fun Z H0 C X => ?_
  have hN := hI.cn
  refine V.ild_n C dX6_isThing_0 rfl ?_
  refine V.iconst C (x := 0) dX6_isThing_1 (by decide) ?_
  refine V.ald_n C dX6_isThing_2 rfl ?_
  refine V.get C fg_RX6_91 dX6_isThing_3 hM.1 rfl ?_
  refine V.iconst C (x := 1) dX6_isThing_6 (by decide) ?_
  refine V.isub C dX6_isThing_7 ?_
  refine V.callSp C mo_X6_in sm_X6_in ml_RX6_84 (ev_X6_in _ _ _) dX6_isThing_8 rfl rfl (Nat.le_of_ble_eq_true rfl) (RmOk.mk' (by decide) (by decide) (by decide) (by decide)) ⟨rfl, rfl⟩ ?_
  exact V.iret X dX6_isThing_11 (b2_nar _) (by decide) (by decide) (pq (b2_iff (in_isN (by omega))))
theorem ev_X6_isBeing {g : GD} {r d t b : Nat} {A : ST} {L : List AE} (hM : MR r d t b A L) (hI : Inv r d t b A) (x : Int32) : EvP g mX6_isBeing [aR 23, aI x] L (some (aI (b2 (isN x b)))) := by
  refine Ev.of [some (aR 23), some (aI x)] (by decide) rfl (Nat.le_of_ble_eq_true rfl) fun Z H0 C X => ?_
  have hN := hI.cn
  refine V.ild_n C dX6_isBeing_0 rfl ?_
  refine V.iconst C (x := 0) dX6_isBeing_1 (by decide) ?_
  refine V.ald_n C dX6_isBeing_2 rfl ?_
  refine V.get C fg_RX6_94 dX6_isBeing_3 hM.1 rfl ?_
  refine V.iconst C (x := 1) dX6_isBeing_6 (by decide) ?_
  refine V.isub C dX6_isBeing_7 ?_
  refine V.callSp C mo_X6_in sm_X6_in ml_RX6_84 (ev_X6_in _ _ _) dX6_isBeing_8 rfl rfl (Nat.le_of_ble_eq_true rfl) (RmOk.mk' (by decide) (by decide) (by decide) (by decide)) ⟨rfl, rfl⟩ ?_
  exact V.iret X dX6_isBeing_11 (b2_nar _) (by decide) (by decide) (pq (b2_iff (in_isN (by omega))))
theorem ev_X6_isSide {g : GD} {r d t b : Nat} {A : ST} {L : List AE} (hM : MR r d t b A L) (hI : Inv r d t b A) {j : Nat} (hj : j < d) (x : Int32) : EvP g mX6_isSide [aR 23, aI (nI j), aI x] L (some (aI (b2 (A 5 j = x ∨ A 6 j = x)))) := by
  refine Ev.of [some (aR 23), some (aI (nI j)), some (aI x)] (by decide) rfl (Nat.le_of_ble_eq_true rfl) fun Z H0 C X => ?_
  have hN := hI.cn
  refine V.ald_n C dX6_isSide_0 rfl ?_
  refine V.get C fg_RX6_16 dX6_isSide_1 hM.1 rfl ?_
  refine V.ild_n C dX6_isSide_4 rfl ?_
  refine V.ialdN C (N := 15) dX6_isSide_5 (hM.2 5 (by decide)) (by omega) (by decide) ?_
  refine V.ild_n C dX6_isSide_6 rfl ?_
  refine V.icmp_eq C (tgt := 20) dX6_isSide_7 (by decide) (fun h7 => ?_) (fun h7 => ?_)
  · skip
    refine V.iconst C (x := 1) dX6_isSide_20 (by decide) ?_
    refine V.goto C (tgt := 25) dX6_isSide_21 (by decide) ?_
    exact V.iret X dX6_isSide_25 rfl (by decide) (by decide) (pq (b2_t (by simp_all)).symm)
  · skip
    refine V.ald_n C dX6_isSide_10 rfl ?_
    refine V.get C fg_RX6_19 dX6_isSide_11 hM.1 rfl ?_
    refine V.ild_n C dX6_isSide_14 rfl ?_
    refine V.ialdN C (N := 15) dX6_isSide_15 (hM.2 6 (by decide)) (by omega) (by decide) ?_
    refine V.ild_n C dX6_isSide_16 rfl ?_
    refine V.icmp_ne C (tgt := 24) dX6_isSide_17 (by decide) (fun h17 => ?_) (fun h17 => ?_)
    · skip
      refine V.iconst C (x := 0) dX6_isSide_24 (by decide) ?_
      exact V.iret X dX6_isSide_25 rfl (by decide) (by decide) (pq (b2_f (by simp_all)).symm)
    · skip
      refine V.iconst C (x := 1) dX6_isSide_20 (by decide) ?_
      refine V.goto C (tgt := 25) dX6_isSide_21 (by decide) ?_
      exact V.iret X dX6_isSide_25 rfl (by decide) (by decide) (pq (b2_t (by simp_all)).symm)
theorem sub100 {w : Int32} {k : Nat} (h : w - 100 = nI k) : w = nI (100 + k) := by
  have : w = (w - 100) + 100 := by rw [Int32.sub_add_cancel]
  rw [this, h, show (100 : Int32) = nI 100 from rfl, nI_add, Nat.add_comm]
theorem wOk_lt {r d : Nat} {A : ST} {i : Nat} {w : Int32} (h : w.toInt < 100) (hr : r ≤ 20) (hd : d ≤ 15) : wOk r d A i w ↔ (w = -1 ∨ isN w r) := by
  constructor
  · rintro (h1 | ⟨k, hk, rfl⟩ | ⟨k, hk, rfl, -⟩ | ⟨k, hk, rfl⟩ | ⟨k, hk, rfl⟩)
    · exact Or.inl h1
    · exact Or.inr (isN_nI hk (by omega))
    · rw [nI_toInt (by omega)] at h; omega
    · rw [nI_toInt (by omega)] at h; omega
    · rw [nI_toInt (by omega)] at h; omega
  · rintro (h1 | h1)
    · exact Or.inl h1
    · obtain ⟨k, hk, rfl⟩ := isN_ex h1 (by omega)
      exact Or.inr (Or.inl ⟨k, hk, rfl⟩)
theorem wOk_mid {r d : Nat} {A : ST} {i : Nat} {w : Int32} (h1 : 100 ≤ w.toInt) (h2 : w.toInt < 200) (hr : r ≤ 20) (hd : d ≤ 15) : wOk r d A i w ↔ ∃ k, k < d ∧ w = nI (100 + k) ∧ (A 5 k = nI i ∨ A 6 k = nI i) := by
  constructor
  · rintro (h | ⟨k, hk, rfl⟩ | h | ⟨k, hk, rfl⟩ | ⟨k, hk, rfl⟩)
    · subst h; exact absurd h1 (by decide)
    · rw [nI_toInt (by omega)] at h1; omega
    · exact h
    · rw [nI_toInt (by omega)] at h2; omega
    · rw [nI_toInt (by omega)] at h2; omega
  · exact fun h => Or.inr (Or.inr (Or.inl h))
theorem wOk_hi {r d : Nat} {A : ST} {i : Nat} {w : Int32} (h1 : 200 ≤ w.toInt) (hr : r ≤ 20) (hd : d ≤ 15) : wOk r d A i w ↔ ((200 ≤ w.toInt ∧ w.toInt ≤ 249) ∨ (300 ≤ w.toInt ∧ w.toInt ≤ 304)) := by
  constructor
  · rintro (h | ⟨k, hk, rfl⟩ | ⟨k, hk, rfl, -⟩ | ⟨k, hk, rfl⟩ | ⟨k, hk, rfl⟩)
    · subst h; exact absurd h1 (by decide)
    · rw [nI_toInt (by omega)] at h1; omega
    · rw [nI_toInt (by omega)] at h1; omega
    · rw [nI_toInt (by omega)]; omega
    · rw [nI_toInt (by omega)]; omega
  · intro h
    have h0 : ¬ w < 0 := by rw [i32_lt]; simp; omega
    obtain ⟨j, hj, rfl⟩ := nI_of h0
    rw [nI_toInt hj] at h
    rcases h with h | h
    · exact Or.inr (Or.inr (Or.inr (Or.inl ⟨j - 200, by omega, by rw [show 200 + (j - 200) = j by omega]⟩)))
    · exact Or.inr (Or.inr (Or.inr (Or.inr ⟨j - 300, by omega, by rw [show 300 + (j - 300) = j by omega]⟩)))
theorem k100 : (100 : Int32).toInt = 100 := by decide
theorem k200 : (200 : Int32).toInt = 200 := by decide
theorem k249 : (249 : Int32).toInt = 249 := by decide
theorem k300 : (300 : Int32).toInt = 300 := by decide
theorem k304 : (304 : Int32).toInt = 304 := by decide
theorem k199 : (199 : Int32).toInt = 199 := by decide
theorem km1 : (-1 : Int32).toInt = -1 := by decide
theorem k0 : (0 : Int32).toInt = 0 := by decide
theorem k1 : (1 : Int32).toInt = 1 := by decide
theorem ev_X6_mayBe {g : GD} {r d t b : Nat} {A : ST} {L : List AE} (hM : MR r d t b A L) (hI : Inv r d t b A) {i : Nat} (hi : i < r) (w : Int32) : EvP g mX6_mayBe [aR 23, aI (nI i), aI w] L (some (aI (b2 (wOk r d A i w)))) := by
  refine Ev.of [some (aR 23), some (aI (nI i)), some (aI w)] (by decide) rfl (Nat.le_of_ble_eq_true rfl) fun Z H0 C X => ?_
  have hN := hI.cn
  refine V.ild_n C dX6_mayBe_0 rfl ?_
  refine V.bipush C (x := 100) dX6_mayBe_1 (by decide) ?_
  refine V.icmp_ge C (tgt := 25) dX6_mayBe_3 (by decide) (fun h3 => ?_) (fun h3 => ?_)
  · skip
    refine V.ild_n C dX6_mayBe_25 rfl ?_
    refine V.sipush C (x := 200) dX6_mayBe_26 (by decide) ?_
    refine V.icmp_ge C (tgt := 61) dX6_mayBe_29 (by decide) (fun h29 => ?_) (fun h29 => ?_)
    · skip
      refine V.ild_n C dX6_mayBe_61 rfl ?_
      refine V.sipush C (x := 200) dX6_mayBe_62 (by decide) ?_
      refine V.sipush C (x := 249) dX6_mayBe_65 (by decide) ?_
      refine V.callSp C mo_X6_in sm_X6_in ml_RX6_84 (ev_X6_in _ _ _) dX6_mayBe_68 rfl rfl (Nat.le_of_ble_eq_true rfl) (RmOk.mk' (by decide) (by decide) (by decide) (by decide)) ⟨rfl, rfl⟩ ?_
      refine V.ifb_ne C (tgt := 87) dX6_mayBe_71 (by decide) (fun h71 => ?_) (fun h71 => ?_)
      · skip
        refine V.iconst C (x := 1) dX6_mayBe_87 (by decide) ?_
        refine V.goto C (tgt := 92) dX6_mayBe_88 (by decide) ?_
        exact V.iret X dX6_mayBe_92 rfl (by decide) (by decide) (pq (b2_t ((wOk_hi (by rw [i32_le, k200] at h29; omega) hN.1 hN.2.1).mpr (Or.inl ((in_k k200 k249).mp h71)))).symm)
      · skip
        refine V.ild_n C dX6_mayBe_74 rfl ?_
        refine V.sipush C (x := 300) dX6_mayBe_75 (by decide) ?_
        refine V.sipush C (x := 304) dX6_mayBe_78 (by decide) ?_
        refine V.callSp C mo_X6_in sm_X6_in ml_RX6_84 (ev_X6_in _ _ _) dX6_mayBe_81 rfl rfl (Nat.le_of_ble_eq_true rfl) (RmOk.mk' (by decide) (by decide) (by decide) (by decide)) ⟨rfl, rfl⟩ ?_
        refine V.ifb_eq C (tgt := 91) dX6_mayBe_84 (by decide) (fun h84 => ?_) (fun h84 => ?_)
        · skip
          refine V.iconst C (x := 0) dX6_mayBe_91 (by decide) ?_
          exact V.iret X dX6_mayBe_92 rfl (by decide) (by decide) (pq (b2_f (fun q => ((wOk_hi (by rw [i32_le, k200] at h29; omega) hN.1 hN.2.1).mp q).elim (fun z => h71 ((in_k k200 k249).mpr z)) (fun z => h84 ((in_k k300 k304).mpr z)))).symm)
        · skip
          refine V.iconst C (x := 1) dX6_mayBe_87 (by decide) ?_
          refine V.goto C (tgt := 92) dX6_mayBe_88 (by decide) ?_
          exact V.iret X dX6_mayBe_92 rfl (by decide) (by decide) (pq (b2_t ((wOk_hi (by rw [i32_le, k200] at h29; omega) hN.1 hN.2.1).mpr (Or.inr ((in_k k300 k304).mp h84)))).symm)
    · skip
      refine V.ald_n C dX6_mayBe_32 rfl ?_
      refine V.ild_n C dX6_mayBe_33 rfl ?_
      refine V.bipush C (x := 100) dX6_mayBe_34 (by decide) ?_
      refine V.isub C dX6_mayBe_36 ?_
      refine V.callVp C mo_X6_isDoor im_X6_isDoor se_X6_isDoor ml_RX6_101 (ev_X6_isDoor hM hI _) dX6_mayBe_37 rfl rfl hM.1 rfl rfl (Nat.le_of_ble_eq_true rfl) (RmOk.mk' (by decide) (by decide) (by decide) (by decide)) ⟨rfl, rfl⟩ ?_
      refine V.ifb_eq C (tgt := 59) dX6_mayBe_40 (by decide) (fun h40 => ?_) (fun h40 => ?_)
      · skip
        refine V.iconst C (x := 0) dX6_mayBe_59 (by decide) ?_
        exact V.iret X dX6_mayBe_60 rfl (by decide) (by decide) (pq (b2_f (fun q => by obtain ⟨k, hk, rfl, -⟩ := (wOk_mid (by rw [i32_le, k100] at h3; omega) (by rw [i32_le, k200] at h29; omega) hN.1 hN.2.1).mp q; exact h40 (by rw [show (100 : Int32) = nI 100 from rfl, nsub]; exact isN_nI hk (by omega)))).symm)
      · skip
        obtain ⟨k, hk, hw⟩ := isN_ex h40 (by omega)
        have hw := sub100 hw
        subst hw
        refine V.ald_n C dX6_mayBe_43 rfl ?_
        refine V.ild_n C dX6_mayBe_44 rfl ?_
        refine V.bipush C (x := 100) dX6_mayBe_45 (by decide) ?_
        refine V.isub C dX6_mayBe_47 ?_
        refine V.top (nsub 100 k) ?_
        refine V.ild_n C dX6_mayBe_48 rfl ?_
        refine V.callVp C mo_X6_isSide im_X6_isSide se_X6_isSide ml_RX6_104 (ev_X6_isSide hM hI (by omega) _) dX6_mayBe_49 rfl rfl hM.1 rfl rfl (Nat.le_of_ble_eq_true rfl) (RmOk.mk' (by decide) (by decide) (by decide) (by decide)) ⟨rfl, rfl⟩ ?_
        refine V.ifb_eq C (tgt := 59) dX6_mayBe_52 (by decide) (fun h52 => ?_) (fun h52 => ?_)
        · skip
          refine V.iconst C (x := 0) dX6_mayBe_59 (by decide) ?_
          exact V.iret X dX6_mayBe_60 rfl (by decide) (by decide) (pq (b2_f (fun q => by obtain ⟨k2, hk2, e2, q2⟩ := (wOk_mid (by rw [i32_le, k100] at h3; omega) (by rw [i32_le, k200] at h29; omega) hN.1 hN.2.1).mp q; have e3 := nI_inj (by omega) (by omega) e2; have e4 : k2 = k := (by omega); subst e4; exact h52 q2)).symm)
        · skip
          refine V.iconst C (x := 1) dX6_mayBe_55 (by decide) ?_
          refine V.goto C (tgt := 60) dX6_mayBe_56 (by decide) ?_
          exact V.iret X dX6_mayBe_60 rfl (by decide) (by decide) (pq (b2_t ((wOk_mid (by rw [i32_le, k100] at h3; omega) (by rw [i32_le, k200] at h29; omega) hN.1 hN.2.1).mpr ⟨k, hk, rfl, h52⟩)).symm)
  · skip
    refine V.ild_n C dX6_mayBe_6 rfl ?_
    refine V.iconst C (x := -1) dX6_mayBe_7 (by decide) ?_
    refine V.icmp_eq C (tgt := 19) dX6_mayBe_8 (by decide) (fun h8 => ?_) (fun h8 => ?_)
    · skip
      refine V.iconst C (x := 1) dX6_mayBe_19 (by decide) ?_
      refine V.goto C (tgt := 24) dX6_mayBe_20 (by decide) ?_
      exact V.iret X dX6_mayBe_24 rfl (by decide) (by decide) (pq (b2_t ((wOk_lt (by rw [i32_le, k100] at h3; omega) hN.1 hN.2.1).mpr (Or.inl h8))).symm)
    · skip
      refine V.ald_n C dX6_mayBe_11 rfl ?_
      refine V.ild_n C dX6_mayBe_12 rfl ?_
      refine V.callVp C mo_X6_isRoom im_X6_isRoom se_X6_isRoom ml_RX6_97 (ev_X6_isRoom hM hI _) dX6_mayBe_13 rfl rfl hM.1 rfl rfl (Nat.le_of_ble_eq_true rfl) (RmOk.mk' (by decide) (by decide) (by decide) (by decide)) ⟨rfl, rfl⟩ ?_
      refine V.ifb_eq C (tgt := 23) dX6_mayBe_16 (by decide) (fun h16 => ?_) (fun h16 => ?_)
      · skip
        refine V.iconst C (x := 0) dX6_mayBe_23 (by decide) ?_
        exact V.iret X dX6_mayBe_24 rfl (by decide) (by decide) (pq (b2_f (fun q => ((wOk_lt (by rw [i32_le, k100] at h3; omega) hN.1 hN.2.1).mp q).elim h8 h16)).symm)
      · skip
        refine V.iconst C (x := 1) dX6_mayBe_19 (by decide) ?_
        refine V.goto C (tgt := 24) dX6_mayBe_20 (by decide) ?_
        exact V.iret X dX6_mayBe_24 rfl (by decide) (by decide) (pq (b2_t ((wOk_lt (by rw [i32_le, k100] at h3; omega) hN.1 hN.2.1).mpr (Or.inr h16))).symm)
/-- shut in -/
def shIn (A : ST) (i : Nat) : Prop := A 18 i ≠ -1 ∧ A 15 (A 18 i).toNatClampNeg = 1
theorem shIn_neg {A : ST} {i : Nat} (h : A 18 i = -1) : ¬ shIn A i := fun q => q.1 h
theorem shIn_k {A : ST} {i k : Nat} (h : A 18 i = nI k) (hk : k < 2 ^ 31) : shIn A i ↔ A 15 k = 1 := by
  unfold shIn
  rw [h, nI_clamp hk]
  exact ⟨fun q => q.2, fun q => ⟨nI_neg hk, q⟩⟩
/-- a thing is in a room -/
def tIn (A : ST) (i j : Nat) : Prop := (A 14 i ≠ -1 ∧ A 25 (20 * (A 14 i).toNatClampNeg + j) = 1) ∨ (A 14 i = -1 ∧ A 13 i = nI j)
theorem tIn_neg {A : ST} {i j : Nat} (h : A 14 i = -1) : tIn A i j ↔ A 13 i = nI j := by
  unfold tIn
  exact ⟨fun q => q.elim (fun z => absurd h z.1) (fun z => z.2), fun q => Or.inr ⟨h, q⟩⟩
theorem tIn_k {A : ST} {i j k : Nat} (h : A 14 i = nI k) (hk : k < 2 ^ 31) : tIn A i j ↔ A 25 (20 * k + j) = 1 := by
  unfold tIn
  rw [h, nI_clamp hk]
  exact ⟨fun q => q.elim (fun z => z.2) (fun z => absurd z.1 (nI_neg hk)), fun q => Or.inl ⟨nI_neg hk, q⟩⟩
/-- who holds what -/
def hol (A : ST) (w i : Nat) : Prop := A 14 i = -1 ∧ A 13 i = nI (100 + w)
def hasT (A : ST) (w i : Nat) : Prop := hol A w i ∨ (shIn A w ∧ A 18 w = nI i) ∨ (¬ shIn A w ∧ tIn A i (A 17 w).toNatClampNeg)
def hasD (A : ST) (w j : Nat) : Prop := ¬ shIn A w ∧ (A 5 j = A 17 w ∨ A 6 j = A 17 w)
theorem ev_X6_isShutIn {g : GD} {r d t b : Nat} {A : ST} {L : List AE} (hM : MR r d t b A L) (hI : Inv r d t b A) {i : Nat} (hi : i < b) : EvP g mX6_isShutIn [aR 23, aI (nI i)] L (some (aI (b2 (shIn A i)))) := by
  refine Ev.of [some (aR 23), some (aI (nI i))] (by decide) rfl (Nat.le_of_ble_eq_true rfl) fun Z H0 C X => ?_
  have hN := hI.cn
  rcases (hI.cb hi).2.1 with hw | ⟨k, hk, hw, -⟩
  · skip
    refine V.ald_n C dX6_isShutIn_0 rfl ?_
    refine V.get C fg_RX6_50 dX6_isShutIn_1 hM.1 rfl ?_
    refine V.ild_n C dX6_isShutIn_4 rfl ?_
    refine V.ialdN C (N := 6) dX6_isShutIn_5 (hM.2 18 (by decide)) (by omega) (by decide) ?_
    refine V.top hw ?_
    refine V.if_lt C (tgt := 27) dX6_isShutIn_6 (by decide) (fun h6 => ?_) (fun h6 => absurd h6 (by decide))
    refine V.iconst C (x := 0) dX6_isShutIn_27 (by decide) ?_
    exact V.iret X dX6_isShutIn_28 rfl (by decide) (by decide) (pq (b2_f (shIn_neg hw)).symm)
  · skip
    refine V.ald_n C dX6_isShutIn_0 rfl ?_
    refine V.get C fg_RX6_50 dX6_isShutIn_1 hM.1 rfl ?_
    refine V.ild_n C dX6_isShutIn_4 rfl ?_
    refine V.ialdN C (N := 6) dX6_isShutIn_5 (hM.2 18 (by decide)) (by omega) (by decide) ?_
    refine V.top hw ?_
    refine V.if_lt C (tgt := 27) dX6_isShutIn_6 (by decide) (fun h6 => absurd h6 (nI_pos (by omega))) (fun h6 => ?_)
    refine V.ald_n C dX6_isShutIn_9 rfl ?_
    refine V.get C fg_RX6_44 dX6_isShutIn_10 hM.1 rfl ?_
    refine V.ald_n C dX6_isShutIn_13 rfl ?_
    refine V.get C fg_RX6_50 dX6_isShutIn_14 hM.1 rfl ?_
    refine V.ild_n C dX6_isShutIn_17 rfl ?_
    refine V.ialdN C (N := 6) dX6_isShutIn_18 (hM.2 18 (by decide)) (by omega) (by decide) ?_
    refine V.top hw ?_
    refine V.zaldN C (N := 30) dX6_isShutIn_19 (hM.2 15 (by decide)) (by omega) (by decide) ?_
    refine V.if_eq C (tgt := 27) dX6_isShutIn_20 (by decide) (fun h20 => ?_) (fun h20 => ?_)
    · skip
      refine V.iconst C (x := 0) dX6_isShutIn_27 (by decide) ?_
      exact V.iret X dX6_isShutIn_28 rfl (by decide) (by decide) (pq (b2_f (fun q => by rw [(shIn_k hw (by omega)), h20] at q; exact absurd q (by decide))).symm)
    · skip
      refine V.iconst C (x := 1) dX6_isShutIn_23 (by decide) ?_
      refine V.goto C (tgt := 28) dX6_isShutIn_24 (by decide) ?_
      exact V.iret X dX6_isShutIn_28 rfl (by decide) (by decide) (pq (b2_t ((shIn_k hw (by omega)).mpr (((hI.ct hk).2.2.2.1).resolve_left h20))).symm)
theorem ev_X6_isThingIn {g : GD} {r d t b : Nat} {A : ST} {L : List AE} (hM : MR r d t b A L) (hI : Inv r d t b A) {i j : Nat} (hi : i < t) (hj : j < r) : EvP g mX6_isThingIn [aR 23, aI (nI i), aI (nI j)] L (some (aI (b2 (tIn A i j)))) := by
  refine Ev.of [some (aR 23), some (aI (nI i)), some (aI (nI j))] (by decide) rfl (Nat.le_of_ble_eq_true rfl) fun Z H0 C X => ?_
  have hN := hI.cn
  rcases (hI.ct hi).2.2.1 with hw | ⟨k, hk, hw, -⟩
  · skip
    refine V.ald_n C dX6_isThingIn_0 rfl ?_
    refine V.get C fg_RX6_41 dX6_isThingIn_1 hM.1 rfl ?_
    refine V.ild_n C dX6_isThingIn_4 rfl ?_
    refine V.ialdN C (N := 30) dX6_isThingIn_5 (hM.2 14 (by decide)) (by omega) (by decide) ?_
    refine V.top hw ?_
    refine V.if_lt C (tgt := 28) dX6_isThingIn_6 (by decide) (fun h6 => ?_) (fun h6 => absurd h6 (by decide))
    refine V.ald_n C dX6_isThingIn_28 rfl ?_
    refine V.get C fg_RX6_38 dX6_isThingIn_29 hM.1 rfl ?_
    refine V.ild_n C dX6_isThingIn_32 rfl ?_
    refine V.ialdN C (N := 30) dX6_isThingIn_33 (hM.2 13 (by decide)) (by omega) (by decide) ?_
    refine V.ild_n C dX6_isThingIn_34 rfl ?_
    refine V.icmp_ne C (tgt := 42) dX6_isThingIn_35 (by decide) (fun h35 => ?_) (fun h35 => ?_)
    · skip
      refine V.iconst C (x := 0) dX6_isThingIn_42 (by decide) ?_
      exact V.iret X dX6_isThingIn_43 rfl (by decide) (by decide) (pq (b2_f (fun q => h35 ((tIn_neg hw).mp q))).symm)
    · skip
      refine V.iconst C (x := 1) dX6_isThingIn_38 (by decide) ?_
      refine V.goto C (tgt := 43) dX6_isThingIn_39 (by decide) ?_
      exact V.iret X dX6_isThingIn_43 rfl (by decide) (by decide) (pq (b2_t ((tIn_neg hw).mpr h35)).symm)
  · skip
    refine V.ald_n C dX6_isThingIn_0 rfl ?_
    refine V.get C fg_RX6_41 dX6_isThingIn_1 hM.1 rfl ?_
    refine V.ild_n C dX6_isThingIn_4 rfl ?_
    refine V.ialdN C (N := 30) dX6_isThingIn_5 (hM.2 14 (by decide)) (by omega) (by decide) ?_
    refine V.top hw ?_
    refine V.if_lt C (tgt := 28) dX6_isThingIn_6 (by decide) (fun h6 => absurd h6 (nI_pos (by omega))) (fun h6 => ?_)
    refine V.ald_n C dX6_isThingIn_9 rfl ?_
    refine V.get C fg_RX6_71 dX6_isThingIn_10 hM.1 rfl ?_
    refine V.bipush C (x := 20) dX6_isThingIn_13 (by decide) ?_
    refine V.ald_n C dX6_isThingIn_15 rfl ?_
    refine V.get C fg_RX6_41 dX6_isThingIn_16 hM.1 rfl ?_
    refine V.ild_n C dX6_isThingIn_19 rfl ?_
    refine V.ialdN C (N := 30) dX6_isThingIn_20 (hM.2 14 (by decide)) (by omega) (by decide) ?_
    refine V.top hw ?_
    refine V.imul C dX6_isThingIn_21 ?_
    refine V.top (pk_mul 20 k) ?_
    refine V.ild_n C dX6_isThingIn_22 rfl ?_
    refine V.iadd C dX6_isThingIn_23 ?_
    refine V.top (nI_add (20 * k) j) ?_
    refine V.zaldN C (N := 140) dX6_isThingIn_24 (hM.2 25 (by decide)) (by omega) (by decide) ?_
    have e1 : A 25 (20 * k + j) = b2 (tIn A i j) := by
      rcases hI.cg hk (show j < 20 by omega) with h | ⟨h, -⟩
      · rw [h, b2_f (fun q => by rw [(tIn_k hw (by omega)), h] at q; exact absurd q (by decide))]
      · rw [h, b2_t ((tIn_k hw (by omega)).mpr h)]
    refine V.top e1 ?_
    refine V.goto C (tgt := 43) dX6_isThingIn_25 (by decide) ?_
    exact V.iret X dX6_isThingIn_43 (b2_nar _) (by decide) (by decide) (pq rfl)
theorem ev_X6_holds {g : GD} {r d t b : Nat} {A : ST} {L : List AE} (hM : MR r d t b A L) (hI : Inv r d t b A) {w i : Nat} (hw : w < b) (hi : i < t) : EvP g mX6_holds [aR 23, aI (nI w), aI (nI i)] L (some (aI (b2 (hol A w i)))) := by
  refine Ev.of [some (aR 23), some (aI (nI w)), some (aI (nI i))] (by decide) rfl (Nat.le_of_ble_eq_true rfl) fun Z H0 C X => ?_
  have hN := hI.cn
  rcases (hI.ct hi).2.2.1 with hf | ⟨k, hk, hf, -⟩
  · skip
    refine V.ald_n C dX6_holds_0 rfl ?_
    refine V.get C fg_RX6_41 dX6_holds_1 hM.1 rfl ?_
    refine V.ild_n C dX6_holds_4 rfl ?_
    refine V.ialdN C (N := 30) dX6_holds_5 (hM.2 14 (by decide)) (by omega) (by decide) ?_
    refine V.top hf ?_
    refine V.if_ge C (tgt := 26) dX6_holds_6 (by decide) (fun h6 => absurd h6 (by decide)) (fun h6 => ?_)
    refine V.ald_n C dX6_holds_9 rfl ?_
    refine V.get C fg_RX6_38 dX6_holds_10 hM.1 rfl ?_
    refine V.ild_n C dX6_holds_13 rfl ?_
    refine V.ialdN C (N := 30) dX6_holds_14 (hM.2 13 (by decide)) (by omega) (by decide) ?_
    refine V.bipush C (x := 100) dX6_holds_15 (by decide) ?_
    refine V.ild_n C dX6_holds_17 rfl ?_
    refine V.iadd C dX6_holds_18 ?_
    refine V.top (nI_add 100 w) ?_
    refine V.icmp_ne C (tgt := 26) dX6_holds_19 (by decide) (fun h19 => ?_) (fun h19 => ?_)
    · skip
      refine V.iconst C (x := 0) dX6_holds_26 (by decide) ?_
      exact V.iret X dX6_holds_27 rfl (by decide) (by decide) (pq (b2_f (fun q => h19 q.2)).symm)
    · skip
      refine V.iconst C (x := 1) dX6_holds_22 (by decide) ?_
      refine V.goto C (tgt := 27) dX6_holds_23 (by decide) ?_
      exact V.iret X dX6_holds_27 rfl (by decide) (by decide) (pq (b2_t ⟨hf, h19⟩).symm)
  · skip
    refine V.ald_n C dX6_holds_0 rfl ?_
    refine V.get C fg_RX6_41 dX6_holds_1 hM.1 rfl ?_
    refine V.ild_n C dX6_holds_4 rfl ?_
    refine V.ialdN C (N := 30) dX6_holds_5 (hM.2 14 (by decide)) (by omega) (by decide) ?_
    refine V.top hf ?_
    refine V.if_ge C (tgt := 26) dX6_holds_6 (by decide) (fun h6 => ?_) (fun h6 => absurd (nI_pos' (by omega)) h6)
    refine V.iconst C (x := 0) dX6_holds_26 (by decide) ?_
    exact V.iret X dX6_holds_27 rfl (by decide) (by decide) (pq (b2_f (fun q => nI_neg (show k < 2 ^ 31 by omega) (hf.symm.trans q.1))).symm)
theorem ev_X6_hasThing {g : GD} {r d t b : Nat} {A : ST} {L : List AE} (hM : MR r d t b A L) (hI : Inv r d t b A) {w i : Nat} (hw : w < b) (hi : i < t) : EvP g mX6_hasThing [aR 23, aI (nI w), aI (nI i)] L (some (aI (b2 (hasT A w i)))) := by
  refine Ev.of [some (aR 23), some (aI (nI w)), some (aI (nI i))] (by decide) rfl (Nat.le_of_ble_eq_true rfl) fun Z H0 C X => ?_
  have hN := hI.cn
  obtain ⟨a, hal, ha⟩ := (hI.cb hw).1
  refine V.ald_n C dX6_hasThing_0 rfl ?_
  refine V.ild_n C dX6_hasThing_1 rfl ?_
  refine V.ild_n C dX6_hasThing_2 rfl ?_
  refine V.callVp C mo_X6_holds im_X6_holds se_X6_holds ml_RX6_114 (ev_X6_holds hM hI (by omega) (by omega)) dX6_hasThing_3 rfl rfl hM.1 rfl rfl (Nat.le_of_ble_eq_true rfl) (RmOk.mk' (by decide) (by decide) (by decide) (by decide)) ⟨rfl, rfl⟩ ?_
  refine V.ifb_ne C (tgt := 44) dX6_hasThing_6 (by decide) (fun h6 => ?_) (fun h6 => ?_)
  · skip
    refine V.iconst C (x := 1) dX6_hasThing_44 (by decide) ?_
    refine V.goto C (tgt := 49) dX6_hasThing_45 (by decide) ?_
    exact V.iret X dX6_hasThing_49 rfl (by decide) (by decide) (pq (b2_t (Or.inl h6)).symm)
  · skip
    refine V.ald_n C dX6_hasThing_9 rfl ?_
    refine V.ild_n C dX6_hasThing_10 rfl ?_
    refine V.callVp C mo_X6_isShutIn im_X6_isShutIn se_X6_isShutIn ml_RX6_117 (ev_X6_isShutIn hM hI (by omega)) dX6_hasThing_11 rfl rfl hM.1 rfl rfl (Nat.le_of_ble_eq_true rfl) (RmOk.mk' (by decide) (by decide) (by decide) (by decide)) ⟨rfl, rfl⟩ ?_
    refine V.ifb_eq C (tgt := 30) dX6_hasThing_14 (by decide) (fun h14 => ?_) (fun h14 => ?_)
    · skip
      refine V.ald_n C dX6_hasThing_30 rfl ?_
      refine V.ild_n C dX6_hasThing_31 rfl ?_
      refine V.ald_n C dX6_hasThing_32 rfl ?_
      refine V.get C fg_RX6_47 dX6_hasThing_33 hM.1 rfl ?_
      refine V.ild_n C dX6_hasThing_36 rfl ?_
      refine V.ialdN C (N := 6) dX6_hasThing_37 (hM.2 17 (by decide)) (by omega) (by decide) ?_
      refine V.top ha ?_
      refine V.callVp C mo_X6_isThingIn im_X6_isThingIn se_X6_isThingIn ml_RX6_120 (ev_X6_isThingIn hM hI (by omega) (by omega)) dX6_hasThing_38 rfl rfl hM.1 rfl rfl (Nat.le_of_ble_eq_true rfl) (RmOk.mk' (by decide) (by decide) (by decide) (by decide)) ⟨rfl, rfl⟩ ?_
      refine V.ifb_eq C (tgt := 48) dX6_hasThing_41 (by decide) (fun h41 => ?_) (fun h41 => ?_)
      · skip
        refine V.iconst C (x := 0) dX6_hasThing_48 (by decide) ?_
        exact V.iret X dX6_hasThing_49 rfl (by decide) (by decide) (pq (b2_f (fun q => q.elim h6 (fun z => z.elim (fun y => h14 y.1) (fun y => h41 (by rw [ha, nI_clamp (by omega)] at y; exact y.2))))).symm)
      · skip
        refine V.iconst C (x := 1) dX6_hasThing_44 (by decide) ?_
        refine V.goto C (tgt := 49) dX6_hasThing_45 (by decide) ?_
        exact V.iret X dX6_hasThing_49 rfl (by decide) (by decide) (pq (b2_t (Or.inr (Or.inr ⟨h14, by rw [ha, nI_clamp (by omega)]; exact h41⟩))).symm)
    · skip
      refine V.ald_n C dX6_hasThing_17 rfl ?_
      refine V.get C fg_RX6_50 dX6_hasThing_18 hM.1 rfl ?_
      refine V.ild_n C dX6_hasThing_21 rfl ?_
      refine V.ialdN C (N := 6) dX6_hasThing_22 (hM.2 18 (by decide)) (by omega) (by decide) ?_
      refine V.ild_n C dX6_hasThing_23 rfl ?_
      refine V.icmp_ne C (tgt := 48) dX6_hasThing_24 (by decide) (fun h24 => ?_) (fun h24 => ?_)
      · skip
        refine V.iconst C (x := 0) dX6_hasThing_48 (by decide) ?_
        exact V.iret X dX6_hasThing_49 rfl (by decide) (by decide) (pq (b2_f (fun q => q.elim h6 (fun z => z.elim (fun y => h24 y.2) (fun y => y.1 h14)))).symm)
      · skip
        refine V.goto C (tgt := 44) dX6_hasThing_27 (by decide) ?_
        refine V.iconst C (x := 1) dX6_hasThing_44 (by decide) ?_
        refine V.goto C (tgt := 49) dX6_hasThing_45 (by decide) ?_
        exact V.iret X dX6_hasThing_49 rfl (by decide) (by decide) (pq (b2_t (Or.inr (Or.inl ⟨h14, h24⟩))).symm)
theorem ev_X6_hasDoor {g : GD} {r d t b : Nat} {A : ST} {L : List AE} (hM : MR r d t b A L) (hI : Inv r d t b A) {w j : Nat} (hw : w < b) (hj : j < d) : EvP g mX6_hasDoor [aR 23, aI (nI w), aI (nI j)] L (some (aI (b2 (hasD A w j)))) := by
  refine Ev.of [some (aR 23), some (aI (nI w)), some (aI (nI j))] (by decide) rfl (Nat.le_of_ble_eq_true rfl) fun Z H0 C X => ?_
  have hN := hI.cn
  refine V.ald_n C dX6_hasDoor_0 rfl ?_
  refine V.ild_n C dX6_hasDoor_1 rfl ?_
  refine V.callVp C mo_X6_isShutIn im_X6_isShutIn se_X6_isShutIn ml_RX6_117 (ev_X6_isShutIn hM hI (by omega)) dX6_hasDoor_2 rfl rfl hM.1 rfl rfl (Nat.le_of_ble_eq_true rfl) (RmOk.mk' (by decide) (by decide) (by decide) (by decide)) ⟨rfl, rfl⟩ ?_
  refine V.ifb_ne C (tgt := 26) dX6_hasDoor_5 (by decide) (fun h5 => ?_) (fun h5 => ?_)
  · skip
    refine V.iconst C (x := 0) dX6_hasDoor_26 (by decide) ?_
    exact V.iret X dX6_hasDoor_27 rfl (by decide) (by decide) (pq (b2_f (fun q => q.1 h5)).symm)
  · skip
    refine V.ald_n C dX6_hasDoor_8 rfl ?_
    refine V.ild_n C dX6_hasDoor_9 rfl ?_
    refine V.ald_n C dX6_hasDoor_10 rfl ?_
    refine V.get C fg_RX6_47 dX6_hasDoor_11 hM.1 rfl ?_
    refine V.ild_n C dX6_hasDoor_14 rfl ?_
    refine V.ialdN C (N := 6) dX6_hasDoor_15 (hM.2 17 (by decide)) (by omega) (by decide) ?_
    refine V.callVp C mo_X6_isSide im_X6_isSide se_X6_isSide ml_RX6_104 (ev_X6_isSide hM hI (by omega) _) dX6_hasDoor_16 rfl rfl hM.1 rfl rfl (Nat.le_of_ble_eq_true rfl) (RmOk.mk' (by decide) (by decide) (by decide) (by decide)) ⟨rfl, rfl⟩ ?_
    refine V.ifb_eq C (tgt := 26) dX6_hasDoor_19 (by decide) (fun h19 => ?_) (fun h19 => ?_)
    · skip
      refine V.iconst C (x := 0) dX6_hasDoor_26 (by decide) ?_
      exact V.iret X dX6_hasDoor_27 rfl (by decide) (by decide) (pq (b2_f (fun q => h19 q.2)).symm)
    · skip
      refine V.iconst C (x := 1) dX6_hasDoor_22 (by decide) ?_
      refine V.goto C (tgt := 27) dX6_hasDoor_23 (by decide) ?_
      exact V.iret X dX6_hasDoor_27 rfl (by decide) (by decide) (pq (b2_t ⟨h5, h19⟩).symm)
