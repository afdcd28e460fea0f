theorem ev_J6_bitCount {g : GD} {L : List AE} {m : Nat} (hm : m < 2 ^ 20) : EvP g mJ6_bitCount_0f7a4 [aI (nI m)] L (some (aI (nI (cnt (fun k => m / 2 ^ k % 2 = 1) 20)))) := by
  refine Ev.of [some (aI (nI m))] (by decide) rfl (Nat.le_of_ble_eq_true rfl) fun Z H0 C X => ?_
  have h1 : m / 2 ^ 1 &&& 1431655765 ≤ m := Nat.le_trans Nat.and_le_left (Nat.div_le_self _ _)
  have b1 : bc1 m < 2 ^ 20 := Nat.lt_of_le_of_lt (Nat.sub_le _ _) hm
  have b2 : bc2 (bc1 m) < 2 ^ 31 := by
    have a1 : bc1 m &&& 858993459 ≤ 858993459 := Nat.and_le_right
    have a2 : bc1 m / 2 ^ 2 &&& 858993459 ≤ 858993459 := Nat.and_le_right
    show (bc1 m &&& 858993459) + (bc1 m / 2 ^ 2 &&& 858993459) < 2 ^ 31
    omega
  have b3 : bc3 (bc2 (bc1 m)) ≤ 252645135 := Nat.and_le_right
  have b4 : bc4 (bc3 (bc2 (bc1 m))) < 2 ^ 31 := by
    show bc3 (bc2 (bc1 m)) + bc3 (bc2 (bc1 m)) / 2 ^ 8 < 2 ^ 31
    omega
  refine V.ild_n C dJ6_bitCount_0f7a4_0 rfl ?_
  refine V.ild_n C dJ6_bitCount_0f7a4_1 rfl ?_
  refine V.iconst C (x := 1) dJ6_bitCount_0f7a4_2 (by decide) ?_
  refine V.iushr C dJ6_bitCount_0f7a4_3 ?_
  refine V.top (pk_ushrN (n := m) (show m < 2 ^ 32 by omega) 1 1 (by decide)) ?_
  refine V.ldcw C cn_265 dJ6_bitCount_0f7a4_4 ?_
  refine V.iand C dJ6_bitCount_0f7a4_7 ?_
  refine V.top (nI_and (m / 2 ^ 1) 1431655765) ?_
  refine V.isub C dJ6_bitCount_0f7a4_8 ?_
  refine V.top (pk_sub h1) ?_
  refine V.ist_n C dJ6_bitCount_0f7a4_9 (Nat.le_of_ble_eq_true rfl) rfl ?_
  refine V.ild_n C dJ6_bitCount_0f7a4_10 rfl ?_
  refine V.ldcw C cn_266 dJ6_bitCount_0f7a4_11 ?_
  refine V.iand C dJ6_bitCount_0f7a4_14 ?_
  refine V.top (nI_and (bc1 m) 858993459) ?_
  refine V.ild_n C dJ6_bitCount_0f7a4_15 rfl ?_
  refine V.iconst C (x := 2) dJ6_bitCount_0f7a4_16 (by decide) ?_
  refine V.iushr C dJ6_bitCount_0f7a4_17 ?_
  refine V.top (pk_ushrN (n := bc1 m) (show bc1 m < 2 ^ 32 by omega) 2 2 (by decide)) ?_
  refine V.ldcw C cn_266 dJ6_bitCount_0f7a4_18 ?_
  refine V.iand C dJ6_bitCount_0f7a4_21 ?_
  refine V.top (nI_and (bc1 m / 2 ^ 2) 858993459) ?_
  refine V.iadd C dJ6_bitCount_0f7a4_22 ?_
  refine V.top (nI_add _ _) ?_
  refine V.ist_n C dJ6_bitCount_0f7a4_23 (Nat.le_of_ble_eq_true rfl) rfl ?_
  refine V.ild_n C dJ6_bitCount_0f7a4_24 rfl ?_
  refine V.ild_n C dJ6_bitCount_0f7a4_25 rfl ?_
  refine V.iconst C (x := 4) dJ6_bitCount_0f7a4_26 (by decide) ?_
  refine V.iushr C dJ6_bitCount_0f7a4_27 ?_
  refine V.top (pk_ushrN (n := bc2 (bc1 m)) (show bc2 (bc1 m) < 2 ^ 32 by omega) 4 4 (by decide)) ?_
  refine V.iadd C dJ6_bitCount_0f7a4_28 ?_
  refine V.top (nI_add _ _) ?_
  refine V.ldcw C cn_267 dJ6_bitCount_0f7a4_29 ?_
  refine V.iand C dJ6_bitCount_0f7a4_32 ?_
  refine V.top (nI_and _ 252645135) ?_
  refine V.ist_n C dJ6_bitCount_0f7a4_33 (Nat.le_of_ble_eq_true rfl) rfl ?_
  refine V.ild_n C dJ6_bitCount_0f7a4_34 rfl ?_
  refine V.ild_n C dJ6_bitCount_0f7a4_35 rfl ?_
  refine V.bipush C (x := 8) dJ6_bitCount_0f7a4_36 (by decide) ?_
  refine V.iushr C dJ6_bitCount_0f7a4_38 ?_
  refine V.top (pk_ushrN (n := bc3 (bc2 (bc1 m))) (show bc3 (bc2 (bc1 m)) < 2 ^ 32 by omega) 8 8 (by decide)) ?_
  refine V.iadd C dJ6_bitCount_0f7a4_39 ?_
  refine V.top (nI_add _ _) ?_
  refine V.ist_n C dJ6_bitCount_0f7a4_40 (Nat.le_of_ble_eq_true rfl) rfl ?_
  refine V.ild_n C dJ6_bitCount_0f7a4_41 rfl ?_
  refine V.ild_n C dJ6_bitCount_0f7a4_42 rfl ?_
  refine V.bipush C (x := 16) dJ6_bitCount_0f7a4_43 (by decide) ?_
  refine V.iushr C dJ6_bitCount_0f7a4_45 ?_
  refine V.top (pk_ushrN (n := bc4 (bc3 (bc2 (bc1 m)))) (show bc4 (bc3 (bc2 (bc1 m))) < 2 ^ 32 by omega) 16 16 (by decide)) ?_
  refine V.iadd C dJ6_bitCount_0f7a4_46 ?_
  refine V.top (nI_add _ _) ?_
  refine V.ist_n C dJ6_bitCount_0f7a4_47 (Nat.le_of_ble_eq_true rfl) rfl ?_
  refine V.ild_n C dJ6_bitCount_0f7a4_48 rfl ?_
  refine V.bipush C (x := 63) dJ6_bitCount_0f7a4_49 (by decide) ?_
  refine V.iand C dJ6_bitCount_0f7a4_51 ?_
  refine V.top (nI_and _ 63) ?_
  exact V.iret X dJ6_bitCount_0f7a4_52 rfl (by decide) (by decide) (pq (by rw [bc_ok hm]))
theorem ev_X5_region {g : GD} {r d t b : Nat} {A : ST} {da ta ba : Nat → Nat} {gr hc : Nat → Int32} {L : List AE} (hX : XR0 r d t b A da ta ba gr hc L) (hI : Inv r d t b A) (hR : Rl t b A gr hc) (x y z : Int32) (hz : z = 0 ∨ z = 1) : Ev g mX5_region [aR 0, aI x, aI y, aI z] L (XQt L (S_region r d t b A x y z)) := by
  refine Ev.of [some (aR 0), some (aI x), some (aI y), some (aI z), none] (by decide) rfl (Nat.le_of_ble_eq_true rfl) fun Z H0 C X => ?_
  have hN := hI.cn
  have hF : FrX L L := FrX.rf
  rcases isN_cases x 7 (by omega) with ⟨i, hi, rfl⟩ | hi
  · skip
    rcases isN_cases y r (by omega) with ⟨j, hj, rfl⟩ | hj
    · skip
      rcases hz with rfl | rfl
      · skip
        refine V.ild_n C dX5_region_0 rfl ?_
        refine V.callSp C mo_X5_isRegion sm_X5_isRegion ml_RX5_92 (ev_X5_isRegion _) dX5_region_1 rfl rfl (Nat.le_of_ble_eq_true rfl) (RmOk.mk' (by decide) (by decide) (by decide) (by decide)) ⟨rfl, rfl⟩ ?_
        refine V.ifb_eq C (tgt := 15) dX5_region_4 (by decide) (fun h4 => absurd (isN_nI (show i < 7 by omega) (by omega)) h4) (fun h4 => ?_)
        refine V.ald_n C dX5_region_7 rfl ?_
        refine V.ild_n C dX5_region_8 rfl ?_
        refine V.callVp C mo_X5_isRoom im_X5_isRoom se_X5_isRoom ml_RX5_61 (ev_X5_isRoom hX hI _) dX5_region_9 rfl rfl hX.x0 rfl rfl (Nat.le_of_ble_eq_true rfl) (RmOk.mk' (by decide) (by decide) (by decide) (by decide)) ⟨rfl, rfl⟩ ?_
        refine V.ifb_ne C (tgt := 17) dX5_region_12 (by decide) (fun h12 => ?_) (fun h12 => absurd (isN_nI (show j < r by omega) (by omega)) h12)
        refine V.iconst C (x := 1) dX5_region_17 (by decide) ?_
        refine V.ild_n C dX5_region_18 rfl ?_
        refine V.ishl C dX5_region_19 ?_
        refine V.ist C dX5_region_20 (Nat.le_of_ble_eq_true rfl) rfl ?_
        refine V.ald_n C dX5_region_22 rfl ?_
        refine V.get C fg_RX5_22 dX5_region_23 hX.x0 rfl ?_
        refine V.ild_n C dX5_region_26 rfl ?_
        refine V.ild_n C dX5_region_27 rfl ?_
        refine V.if_eq C (tgt := 43) dX5_region_28 (by decide) (fun h28 => ?_) (fun h28 => absurd h28 (by decide))
        refine V.ald_n C dX5_region_43 rfl ?_
        refine V.get C fg_RX5_22 dX5_region_44 hX.x0 rfl ?_
        refine V.ild_n C dX5_region_47 rfl ?_
        refine V.ialdN C (N := 7) dX5_region_48 hX.x4 (by omega) (by decide) ?_
        refine V.ild C dX5_region_49 rfl ?_
        refine V.iconst C (x := -1) dX5_region_51 (by decide) ?_
        refine V.ixor C dX5_region_52 ?_
        refine V.iand C dX5_region_53 ?_
        refine V.top (msk_and (show j < 20 by omega)) ?_
        refine V.iastN C (N := 7) dX5_region_54 hX.x4 (by omega) (by decide) ?_
        have hX := hX.region (A' := (up2 A 25 (20 * i + j) 0)) hi (fun j hj => up2_n hj) rfl (fun k hk => msk_o (by omega) hk)
        have hF := hF.st (a := 4) (e := eA 0 7 (upd (fun i => nI (msk A i)) i (nI (msk (up2 A 25 (20 * i + j) 0) i)))) (Or.inl (by decide))
        refine V.ald_n C dX5_region_55 rfl ?_
        refine V.get C fg_RX5_22 dX5_region_56 hX.x0 rfl ?_
        refine V.ild_n C dX5_region_59 rfl ?_
        refine V.ialdN C (N := 7) dX5_region_60 hX.x4 (by omega) (by decide) ?_
        refine V.callSp C mo_J6_bitCount_0f7a4 sm_J6_bitCount_0f7a4 ml_RX5_95 (ev_J6_bitCount (msk_lt (up2 A 25 (20 * i + j) 0) i)) dX5_region_61 rfl rfl (Nat.le_of_ble_eq_true rfl) (RmOk.mk' (by decide) (by decide) (by decide) (by decide)) ⟨rfl, rfl⟩ ?_
        exact V.iret X dX5_region_64 rfl (by decide) (by decide) (by unfold S_region; rw [ok1_t hi (by omega), ok1_t hj (by omega)]; exact ⟨congrArg (fun z => some (aI (nI z))) (msk_cnt _ i), ⟨_, _, _, _, _, hX, hR.kept rfl rfl⟩, hF⟩)
      · skip
        refine V.ild_n C dX5_region_0 rfl ?_
        refine V.callSp C mo_X5_isRegion sm_X5_isRegion ml_RX5_92 (ev_X5_isRegion _) dX5_region_1 rfl rfl (Nat.le_of_ble_eq_true rfl) (RmOk.mk' (by decide) (by decide) (by decide) (by decide)) ⟨rfl, rfl⟩ ?_
        refine V.ifb_eq C (tgt := 15) dX5_region_4 (by decide) (fun h4 => absurd (isN_nI (show i < 7 by omega) (by omega)) h4) (fun h4 => ?_)
        refine V.ald_n C dX5_region_7 rfl ?_
        refine V.ild_n C dX5_region_8 rfl ?_
        refine V.callVp C mo_X5_isRoom im_X5_isRoom se_X5_isRoom ml_RX5_61 (ev_X5_isRoom hX hI _) dX5_region_9 rfl rfl hX.x0 rfl rfl (Nat.le_of_ble_eq_true rfl) (RmOk.mk' (by decide) (by decide) (by decide) (by decide)) ⟨rfl, rfl⟩ ?_
        refine V.ifb_ne C (tgt := 17) dX5_region_12 (by decide) (fun h12 => ?_) (fun h12 => absurd (isN_nI (show j < r by omega) (by omega)) h12)
        refine V.iconst C (x := 1) dX5_region_17 (by decide) ?_
        refine V.ild_n C dX5_region_18 rfl ?_
        refine V.ishl C dX5_region_19 ?_
        refine V.ist C dX5_region_20 (Nat.le_of_ble_eq_true rfl) rfl ?_
        refine V.ald_n C dX5_region_22 rfl ?_
        refine V.get C fg_RX5_22 dX5_region_23 hX.x0 rfl ?_
        refine V.ild_n C dX5_region_26 rfl ?_
        refine V.ild_n C dX5_region_27 rfl ?_
        refine V.if_eq C (tgt := 43) dX5_region_28 (by decide) (fun h28 => absurd h28 (by decide)) (fun h28 => ?_)
        refine V.ald_n C dX5_region_31 rfl ?_
        refine V.get C fg_RX5_22 dX5_region_32 hX.x0 rfl ?_
        refine V.ild_n C dX5_region_35 rfl ?_
        refine V.ialdN C (N := 7) dX5_region_36 hX.x4 (by omega) (by decide) ?_
        refine V.ild C dX5_region_37 rfl ?_
        refine V.ior C dX5_region_39 ?_
        refine V.top (msk_or (show j < 20 by omega)) ?_
        refine V.goto C (tgt := 54) dX5_region_40 (by decide) ?_
        refine V.iastN C (N := 7) dX5_region_54 hX.x4 (by omega) (by decide) ?_
        have hX := hX.region (A' := (up2 A 25 (20 * i + j) 1)) hi (fun j hj => up2_n hj) rfl (fun k hk => msk_o (by omega) hk)
        have hF := hF.st (a := 4) (e := eA 0 7 (upd (fun i => nI (msk A i)) i (nI (msk (up2 A 25 (20 * i + j) 1) i)))) (Or.inl (by decide))
        refine V.ald_n C dX5_region_55 rfl ?_
        refine V.get C fg_RX5_22 dX5_region_56 hX.x0 rfl ?_
        refine V.ild_n C dX5_region_59 rfl ?_
        refine V.ialdN C (N := 7) dX5_region_60 hX.x4 (by omega) (by decide) ?_
        refine V.callSp C mo_J6_bitCount_0f7a4 sm_J6_bitCount_0f7a4 ml_RX5_95 (ev_J6_bitCount (msk_lt (up2 A 25 (20 * i + j) 1) i)) dX5_region_61 rfl rfl (Nat.le_of_ble_eq_true rfl) (RmOk.mk' (by decide) (by decide) (by decide) (by decide)) ⟨rfl, rfl⟩ ?_
        exact V.iret X dX5_region_64 rfl (by decide) (by decide) (by unfold S_region; rw [ok1_t hi (by omega), ok1_t hj (by omega)]; exact ⟨congrArg (fun z => some (aI (nI z))) (msk_cnt _ i), ⟨_, _, _, _, _, hX, hR.kept rfl rfl⟩, hF⟩)
    · skip
      refine V.ild_n C dX5_region_0 rfl ?_
      refine V.callSp C mo_X5_isRegion sm_X5_isRegion ml_RX5_92 (ev_X5_isRegion _) dX5_region_1 rfl rfl (Nat.le_of_ble_eq_true rfl) (RmOk.mk' (by decide) (by decide) (by decide) (by decide)) ⟨rfl, rfl⟩ ?_
      refine V.ifb_eq C (tgt := 15) dX5_region_4 (by decide) (fun h4 => absurd (isN_nI (show i < 7 by omega) (by omega)) h4) (fun h4 => ?_)
      refine V.ald_n C dX5_region_7 rfl ?_
      refine V.ild_n C dX5_region_8 rfl ?_
      refine V.callVp C mo_X5_isRoom im_X5_isRoom se_X5_isRoom ml_RX5_61 (ev_X5_isRoom hX hI _) dX5_region_9 rfl rfl hX.x0 rfl rfl (Nat.le_of_ble_eq_true rfl) (RmOk.mk' (by decide) (by decide) (by decide) (by decide)) ⟨rfl, rfl⟩ ?_
      refine V.ifb_ne C (tgt := 17) dX5_region_12 (by decide) (fun h12 => absurd h12 hj) (fun h12 => ?_)
      refine V.iconst C (x := -1) dX5_region_15 (by decide) ?_
      exact V.iret X dX5_region_16 rfl (by decide) (by decide) (by unfold S_region; rw [ok1_t hi (by omega), ok1_f hj]; exact ⟨rfl, ⟨_, _, _, _, _, hX, hR⟩, hF⟩)
  · skip
    refine V.ild_n C dX5_region_0 rfl ?_
    refine V.callSp C mo_X5_isRegion sm_X5_isRegion ml_RX5_92 (ev_X5_isRegion _) dX5_region_1 rfl rfl (Nat.le_of_ble_eq_true rfl) (RmOk.mk' (by decide) (by decide) (by decide) (by decide)) ⟨rfl, rfl⟩ ?_
    refine V.ifb_eq C (tgt := 15) dX5_region_4 (by decide) (fun h4 => ?_) (fun h4 => absurd h4 hi)
    refine V.iconst C (x := -1) dX5_region_15 (by decide) ?_
    exact V.iret X dX5_region_16 rfl (by decide) (by decide) (by unfold S_region; rw [ok1_f hi]; exact ⟨rfl, ⟨_, _, _, _, _, hX, hR⟩, hF⟩)
