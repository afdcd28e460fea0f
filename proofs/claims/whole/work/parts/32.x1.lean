theorem ev_X5_isRoom {g : GD} {r d t b : Nat} {A : ST} {da ta ba : Nat → Nat} {gr hc : Nat → Int32} {L : List AE} (hX : XR0 r d t b A da ta ba gr hc L) (hI : Inv r d t b A) (x : Int32) : EvP g mX5_isRoom [aR 0, aI x] L (some (aI (b2 (isN x r)))) := by
  refine Ev.of [some (aR 0), some (aI x)] (by decide) rfl (Nat.le_of_ble_eq_true rfl) fun Z H0 C X => ?_
  have hN := hI.cn
  refine V.ild_n C dX5_isRoom_0 rfl ?_
  refine V.if_lt C (tgt := 16) dX5_isRoom_1 (by decide) (fun h1 => ?_) (fun h1 => ?_)
  · skip
    refine V.iconst C (x := 0) dX5_isRoom_16 (by decide) ?_
    exact V.iret X dX5_isRoom_17 rfl (by decide) (by decide) (pq (b2_f (fun q => ((isN_lt (n := r) (by omega)).mp q).1 h1)).symm)
  · skip
    refine V.ild_n C dX5_isRoom_4 rfl ?_
    refine V.ald_n C dX5_isRoom_5 rfl ?_
    refine V.get C fg_RX5_57 dX5_isRoom_6 hX.x0 rfl ?_
    refine V.icmp_ge C (tgt := 16) dX5_isRoom_9 (by decide) (fun h9 => ?_) (fun h9 => ?_)
    · skip
      refine V.iconst C (x := 0) dX5_isRoom_16 (by decide) ?_
      exact V.iret X dX5_isRoom_17 rfl (by decide) (by decide) (pq (b2_f (fun q => Int32.not_lt.mpr h9 ((isN_lt (n := r) (by omega)).mp q).2)).symm)
    · skip
      refine V.iconst C (x := 1) dX5_isRoom_12 (by decide) ?_
      refine V.goto C (tgt := 17) dX5_isRoom_13 (by decide) ?_
      exact V.iret X dX5_isRoom_17 rfl (by decide) (by decide) (pq (b2_t ((isN_lt (n := r) (by omega)).mpr ⟨h1, Int32.not_le.mp h9⟩)).symm)
theorem ev_X5_isDirection {g : GD} {L : List AE} (x : Int32) : EvP g mX5_isDirection [aI x] L (some (aI (b2 (isN x 8)))) := by
  refine Ev.of [some (aI x)] (by decide) rfl (Nat.le_of_ble_eq_true rfl) fun Z H0 C X => ?_
  refine V.ild_n C dX5_isDirection_0 rfl ?_
  refine V.if_lt C (tgt := 14) dX5_isDirection_1 (by decide) (fun h1 => ?_) (fun h1 => ?_)
  · skip
    refine V.iconst C (x := 0) dX5_isDirection_14 (by decide) ?_
    exact V.iret X dX5_isDirection_15 rfl (by decide) (by decide) (pq (b2_f (fun q => ((isN_lt (n := 8) (by decide)).mp q).1 h1)).symm)
  · skip
    refine V.ild_n C dX5_isDirection_4 rfl ?_
    refine V.bipush C (x := 8) dX5_isDirection_5 (by decide) ?_
    refine V.icmp_ge C (tgt := 14) dX5_isDirection_7 (by decide) (fun h7 => ?_) (fun h7 => ?_)
    · skip
      refine V.iconst C (x := 0) dX5_isDirection_14 (by decide) ?_
      exact V.iret X dX5_isDirection_15 rfl (by decide) (by decide) (pq (b2_f (fun q => Int32.not_lt.mpr h7 ((isN_lt (n := 8) (by decide)).mp q).2)).symm)
    · skip
      refine V.iconst C (x := 1) dX5_isDirection_10 (by decide) ?_
      refine V.goto C (tgt := 15) dX5_isDirection_11 (by decide) ?_
      exact V.iret X dX5_isDirection_15 rfl (by decide) (by decide) (pq (b2_t ((isN_lt (n := 8) (by decide)).mpr ⟨h1, Int32.not_le.mp h7⟩)).symm)
theorem ev_X5_isRegion {g : GD} {L : List AE} (x : Int32) : EvP g mX5_isRegion [aI x] L (some (aI (b2 (isN x 7)))) := by
  refine Ev.of [some (aI x)] (by decide) rfl (Nat.le_of_ble_eq_true rfl) fun Z H0 C X => ?_
  refine V.ild_n C dX5_isRegion_0 rfl ?_
  refine V.if_lt C (tgt := 14) dX5_isRegion_1 (by decide) (fun h1 => ?_) (fun h1 => ?_)
  · skip
    refine V.iconst C (x := 0) dX5_isRegion_14 (by decide) ?_
    exact V.iret X dX5_isRegion_15 rfl (by decide) (by decide) (pq (b2_f (fun q => ((isN_lt (n := 7) (by decide)).mp q).1 h1)).symm)
  · skip
    refine V.ild_n C dX5_isRegion_4 rfl ?_
    refine V.bipush C (x := 7) dX5_isRegion_5 (by decide) ?_
    refine V.icmp_ge C (tgt := 14) dX5_isRegion_7 (by decide) (fun h7 => ?_) (fun h7 => ?_)
    · skip
      refine V.iconst C (x := 0) dX5_isRegion_14 (by decide) ?_
      exact V.iret X dX5_isRegion_15 rfl (by decide) (by decide) (pq (b2_f (fun q => Int32.not_lt.mpr h7 ((isN_lt (n := 7) (by decide)).mp q).2)).symm)
    · skip
      refine V.iconst C (x := 1) dX5_isRegion_10 (by decide) ?_
      refine V.goto C (tgt := 15) dX5_isRegion_11 (by decide) ?_
      exact V.iret X dX5_isRegion_15 rfl (by decide) (by decide) (pq (b2_t ((isN_lt (n := 7) (by decide)).mpr ⟨h1, Int32.not_le.mp h7⟩)).symm)
theorem ev_X5_isPlace {g : GD} {r d t b : Nat} {A : ST} {da ta ba : Nat → Nat} {gr hc : Nat → Int32} {L : List AE} (hX : XR0 r d t b A da ta ba gr hc L) (hI : Inv r d t b A) (x y : Int32) : EvP g mX5_isPlace [aR 0, aI x, aI y] L (some (aI (b2 (isN x r ∧ isN y 8)))) := by
  refine Ev.of [some (aR 0), some (aI x), some (aI y)] (by decide) rfl (Nat.le_of_ble_eq_true rfl) fun Z H0 C X => ?_
  have hN := hI.cn
  refine V.ald_n C dX5_isPlace_0 rfl ?_
  refine V.ild_n C dX5_isPlace_1 rfl ?_
  refine V.callVp C mo_X5_isRoom im_X5_isRoom se_X5_isRoom ml_RX5_61 (ev_X5_isRoom hX hI _) dX5_isPlace_2 rfl rfl hX.x0 rfl rfl (Nat.le_of_ble_eq_true rfl) (RmOk.mk' (by decide) (by decide) (by decide) (by decide)) ⟨rfl, rfl⟩ ?_
  refine V.ifb_eq C (tgt := 19) dX5_isPlace_5 (by decide) (fun h5 => ?_) (fun h5 => ?_)
  · skip
    refine V.iconst C (x := 0) dX5_isPlace_19 (by decide) ?_
    exact V.iret X dX5_isPlace_20 rfl (by decide) (by decide) (pq (b2_f (fun q => h5 q.1)).symm)
  · skip
    refine V.ild_n C dX5_isPlace_8 rfl ?_
    refine V.callSp C mo_X5_isDirection sm_X5_isDirection ml_RX5_176 (ev_X5_isDirection _) dX5_isPlace_9 rfl rfl (Nat.le_of_ble_eq_true rfl) (RmOk.mk' (by decide) (by decide) (by decide) (by decide)) ⟨rfl, rfl⟩ ?_
    refine V.ifb_eq C (tgt := 19) dX5_isPlace_12 (by decide) (fun h12 => ?_) (fun h12 => ?_)
    · skip
      refine V.iconst C (x := 0) dX5_isPlace_19 (by decide) ?_
      exact V.iret X dX5_isPlace_20 rfl (by decide) (by decide) (pq (b2_f (fun q => h12 q.2)).symm)
    · skip
      refine V.iconst C (x := 1) dX5_isPlace_15 (by decide) ?_
      refine V.goto C (tgt := 20) dX5_isPlace_16 (by decide) ?_
      exact V.iret X dX5_isPlace_20 rfl (by decide) (by decide) (pq (b2_t ⟨h5, h12⟩).symm)
theorem ev_X5_placeOf {g : GD} {L : List AE} (i j : Nat) : EvP g mX5_placeOf [aI (nI i), aI (nI j)] L (some (aI (nI (8 * i + j)))) := by
  refine Ev.of [some (aI (nI i)), some (aI (nI j))] (by decide) rfl (Nat.le_of_ble_eq_true rfl) fun Z H0 C X => ?_
  refine V.ild_n C dX5_placeOf_0 rfl ?_
  refine V.bipush C (x := 8) dX5_placeOf_1 (by decide) ?_
  refine V.imul C dX5_placeOf_3 ?_
  refine V.top (pk_mul i 8) ?_
  refine V.ild_n C dX5_placeOf_4 rfl ?_
  refine V.iadd C dX5_placeOf_5 ?_
  refine V.top (nI_add (i * 8) j) ?_
  exact V.iret X dX5_placeOf_6 rfl (by decide) (by decide) (pq (by rw [Nat.mul_comm i 8]))
theorem ev_X5_orNoSuch {g : GD} {L : List AE} (x : Int32) : EvP g mX5_orNoSuch [aI x] L (some (aI (cI (x = -1) (-3) x))) := by
  refine Ev.of [some (aI x)] (by decide) rfl (Nat.le_of_ble_eq_true rfl) fun Z H0 C X => ?_
  refine V.ild_n C dX5_orNoSuch_0 rfl ?_
  refine V.iconst C (x := -1) dX5_orNoSuch_1 (by decide) ?_
  refine V.icmp_ne C (tgt := 10) dX5_orNoSuch_2 (by decide) (fun h2 => ?_) (fun h2 => ?_)
  · skip
    refine V.ild_n C dX5_orNoSuch_10 rfl ?_
    exact V.iret X dX5_orNoSuch_11 rfl (by decide) (by decide) (pq (cI_f h2).symm)
  · skip
    refine V.bipush C (x := -3) dX5_orNoSuch_5 (by decide) ?_
    refine V.goto C (tgt := 11) dX5_orNoSuch_7 (by decide) ?_
    exact V.iret X dX5_orNoSuch_11 rfl (by decide) (by decide) (pq (cI_t h2).symm)
theorem ev_X5_ruleAt_t {g : GD} {r d t b : Nat} {A : ST} {da ta ba : Nat → Nat} {gr hc : Nat → Int32} {L : List AE} (hX : XR0 r d t b A da ta ba gr hc L) (hI : Inv r d t b A) {i : Nat} (hi : i < 5) : EvP g mX5_ruleAt [aR 0, aI (nI i)] L (some (aR (13 + 2 * i))) := by
  refine Ev.of [some (aR 0), some (aI (nI i))] (by decide) rfl (Nat.le_of_ble_eq_true rfl) fun Z H0 C X => ?_
  have hN := hI.cn
  refine V.ild_n C dX5_ruleAt_0 rfl ?_
  refine V.if_lt C (tgt := 18) dX5_ruleAt_1 (by decide) (fun h1 => absurd h1 (nI_pos (by omega))) (fun h1 => ?_)
  refine V.ild_n C dX5_ruleAt_4 rfl ?_
  refine V.iconst C (x := 5) dX5_ruleAt_5 (by decide) ?_
  refine V.icmpN_ge C (i) (5) (tgt := 18) dX5_ruleAt_6 (by decide) (by omega) (by omega) (fun h6 => absurd h6 (by omega)) (fun h6 => ?_)
  refine V.ald_n C dX5_ruleAt_9 rfl ?_
  refine V.get C fg_RX5_18 dX5_ruleAt_10 hX.x0 rfl ?_
  refine V.ild_n C dX5_ruleAt_13 rfl ?_
  refine V.aaldN C (by decide) dX5_ruleAt_14 hX.x3 (by omega) (by decide) rfl ?_
  refine V.goto C (tgt := 19) dX5_ruleAt_15 (by decide) ?_
  exact V.aret X dX5_ruleAt_19 (Or.inl ⟨_, rfl⟩) (by decide) (by decide) ⟨rfl, rfl⟩
theorem ev_X5_ruleAt_f {g : GD} {r d t b : Nat} {A : ST} {da ta ba : Nat → Nat} {gr hc : Nat → Int32} {L : List AE} (hX : XR0 r d t b A da ta ba gr hc L) (hI : Inv r d t b A) {x : Int32} (hx : ¬ isN x 5) : EvP g mX5_ruleAt [aR 0, aI x] L (some aN) := by
  refine Ev.of [some (aR 0), some (aI x)] (by decide) rfl (Nat.le_of_ble_eq_true rfl) fun Z H0 C X => ?_
  have hN := hI.cn
  refine V.ild_n C dX5_ruleAt_0 rfl ?_
  refine V.if_lt C (tgt := 18) dX5_ruleAt_1 (by decide) (fun h1 => ?_) (fun h1 => ?_)
  · skip
    refine V.null C dX5_ruleAt_18 ?_
    exact V.aret X dX5_ruleAt_19 (Or.inl ⟨_, rfl⟩) (by decide) (by decide) ⟨rfl, rfl⟩
  · skip
    refine V.ild_n C dX5_ruleAt_4 rfl ?_
    refine V.iconst C (x := 5) dX5_ruleAt_5 (by decide) ?_
    refine V.icmp_ge C (tgt := 18) dX5_ruleAt_6 (by decide) (fun h6 => ?_) (fun h6 => absurd ((isN_lt (n := 5) (by decide)).mpr ⟨h1, Int32.not_le.mp h6⟩) hx)
    refine V.null C dX5_ruleAt_18 ?_
    exact V.aret X dX5_ruleAt_19 (Or.inl ⟨_, rfl⟩) (by decide) (by decide) ⟨rfl, rfl⟩
theorem ev_X5_doorAt_t {g : GD} {r d t b : Nat} {A : ST} {da ta ba : Nat → Nat} {gr hc : Nat → Int32} {L : List AE} (hX : XR0 r d t b A da ta ba gr hc L) (hI : Inv r d t b A) {i : Nat} (hi : i < d) : EvP g mX5_doorAt [aR 0, aI (nI i)] L (some (aR (da i))) := by
  refine Ev.of [some (aR 0), some (aI (nI i))] (by decide) rfl (Nat.le_of_ble_eq_true rfl) fun Z H0 C X => ?_
  have hN := hI.cn
  refine V.ild_n C dX5_doorAt_0 rfl ?_
  refine V.if_lt C (tgt := 21) dX5_doorAt_1 (by decide) (fun h1 => absurd h1 (nI_pos (by omega))) (fun h1 => ?_)
  refine V.ild_n C dX5_doorAt_4 rfl ?_
  refine V.ald_n C dX5_doorAt_5 rfl ?_
  refine V.get C fg_RX5_65 dX5_doorAt_6 hX.x0 rfl ?_
  refine V.icmpN_ge C (i) (d) (tgt := 21) dX5_doorAt_9 (by decide) (by omega) (by omega) (fun h9 => absurd h9 (by omega)) (fun h9 => ?_)
  refine V.ald_n C dX5_doorAt_12 rfl ?_
  refine V.get C fg_RX5_27 dX5_doorAt_13 hX.x0 rfl ?_
  refine V.ild_n C dX5_doorAt_16 rfl ?_
  refine V.aaldN C (by decide) dX5_doorAt_17 hX.x5 (by omega) (by decide) (if_pos (show i < d by omega)) ?_
  refine V.goto C (tgt := 22) dX5_doorAt_18 (by decide) ?_
  exact V.aret X dX5_doorAt_22 (Or.inl ⟨_, rfl⟩) (by decide) (by decide) ⟨rfl, rfl⟩
theorem ev_X5_doorAt_f {g : GD} {r d t b : Nat} {A : ST} {da ta ba : Nat → Nat} {gr hc : Nat → Int32} {L : List AE} (hX : XR0 r d t b A da ta ba gr hc L) (hI : Inv r d t b A) {x : Int32} (hx : ¬ isN x d) : EvP g mX5_doorAt [aR 0, aI x] L (some aN) := by
  refine Ev.of [some (aR 0), some (aI x)] (by decide) rfl (Nat.le_of_ble_eq_true rfl) fun Z H0 C X => ?_
  have hN := hI.cn
  refine V.ild_n C dX5_doorAt_0 rfl ?_
  refine V.if_lt C (tgt := 21) dX5_doorAt_1 (by decide) (fun h1 => ?_) (fun h1 => ?_)
  · skip
    refine V.null C dX5_doorAt_21 ?_
    exact V.aret X dX5_doorAt_22 (Or.inl ⟨_, rfl⟩) (by decide) (by decide) ⟨rfl, rfl⟩
  · skip
    refine V.ild_n C dX5_doorAt_4 rfl ?_
    refine V.ald_n C dX5_doorAt_5 rfl ?_
    refine V.get C fg_RX5_65 dX5_doorAt_6 hX.x0 rfl ?_
    refine V.icmp_ge C (tgt := 21) dX5_doorAt_9 (by decide) (fun h9 => ?_) (fun h9 => absurd ((isN_lt (n := d) (by omega)).mpr ⟨h1, Int32.not_le.mp h9⟩) hx)
    refine V.null C dX5_doorAt_21 ?_
    exact V.aret X dX5_doorAt_22 (Or.inl ⟨_, rfl⟩) (by decide) (by decide) ⟨rfl, rfl⟩
theorem ev_X5_thingAt_t {g : GD} {r d t b : Nat} {A : ST} {da ta ba : Nat → Nat} {gr hc : Nat → Int32} {L : List AE} (hX : XR0 r d t b A da ta ba gr hc L) (hI : Inv r d t b A) {i : Nat} (hi : i < t) : EvP g mX5_thingAt [aR 0, aI (nI i)] L (some (aR (ta i))) := by
  refine Ev.of [some (aR 0), some (aI (nI i))] (by decide) rfl (Nat.le_of_ble_eq_true rfl) fun Z H0 C X => ?_
  have hN := hI.cn
  refine V.ild_n C dX5_thingAt_0 rfl ?_
  refine V.if_lt C (tgt := 21) dX5_thingAt_1 (by decide) (fun h1 => absurd h1 (nI_pos (by omega))) (fun h1 => ?_)
  refine V.ild_n C dX5_thingAt_4 rfl ?_
  refine V.ald_n C dX5_thingAt_5 rfl ?_
  refine V.get C fg_RX5_120 dX5_thingAt_6 hX.x0 rfl ?_
  refine V.icmpN_ge C (i) (t) (tgt := 21) dX5_thingAt_9 (by decide) (by omega) (by omega) (fun h9 => absurd h9 (by omega)) (fun h9 => ?_)
  refine V.ald_n C dX5_thingAt_12 rfl ?_
  refine V.get C fg_RX5_33 dX5_thingAt_13 hX.x0 rfl ?_
  refine V.ild_n C dX5_thingAt_16 rfl ?_
  refine V.aaldN C (by decide) dX5_thingAt_17 hX.x6 (by omega) (by decide) (if_pos (show i < t by omega)) ?_
  refine V.goto C (tgt := 22) dX5_thingAt_18 (by decide) ?_
  exact V.aret X dX5_thingAt_22 (Or.inl ⟨_, rfl⟩) (by decide) (by decide) ⟨rfl, rfl⟩
theorem ev_X5_thingAt_f {g : GD} {r d t b : Nat} {A : ST} {da ta ba : Nat → Nat} {gr hc : Nat → Int32} {L : List AE} (hX : XR0 r d t b A da ta ba gr hc L) (hI : Inv r d t b A) {x : Int32} (hx : ¬ isN x t) : EvP g mX5_thingAt [aR 0, aI x] L (some aN) := by
  refine Ev.of [some (aR 0), some (aI x)] (by decide) rfl (Nat.le_of_ble_eq_true rfl) fun Z H0 C X => ?_
  have hN := hI.cn
  refine V.ild_n C dX5_thingAt_0 rfl ?_
  refine V.if_lt C (tgt := 21) dX5_thingAt_1 (by decide) (fun h1 => ?_) (fun h1 => ?_)
  · skip
    refine V.null C dX5_thingAt_21 ?_
    exact V.aret X dX5_thingAt_22 (Or.inl ⟨_, rfl⟩) (by decide) (by decide) ⟨rfl, rfl⟩
  · skip
    refine V.ild_n C dX5_thingAt_4 rfl ?_
    refine V.ald_n C dX5_thingAt_5 rfl ?_
    refine V.get C fg_RX5_120 dX5_thingAt_6 hX.x0 rfl ?_
    refine V.icmp_ge C (tgt := 21) dX5_thingAt_9 (by decide) (fun h9 => ?_) (fun h9 => absurd ((isN_lt (n := t) (by omega)).mpr ⟨h1, Int32.not_le.mp h9⟩) hx)
    refine V.null C dX5_thingAt_21 ?_
    exact V.aret X dX5_thingAt_22 (Or.inl ⟨_, rfl⟩) (by decide) (by decide) ⟨rfl, rfl⟩
theorem ev_X5_beingAt_t {g : GD} {r d t b : Nat} {A : ST} {da ta ba : Nat → Nat} {gr hc : Nat → Int32} {L : List AE} (hX : XR0 r d t b A da ta ba gr hc L) (hI : Inv r d t b A) {i : Nat} (hi : i < b) : EvP g mX5_beingAt [aR 0, aI (nI i)] L (some (aR (ba i))) := by
  refine Ev.of [some (aR 0), some (aI (nI i))] (by decide) rfl (Nat.le_of_ble_eq_true rfl) fun Z H0 C X => ?_
  have hN := hI.cn
  refine V.ild_n C dX5_beingAt_0 rfl ?_
  refine V.if_lt C (tgt := 21) dX5_beingAt_1 (by decide) (fun h1 => absurd h1 (nI_pos (by omega))) (fun h1 => ?_)
  refine V.ild_n C dX5_beingAt_4 rfl ?_
  refine V.ald_n C dX5_beingAt_5 rfl ?_
  refine V.get C fg_RX5_129 dX5_beingAt_6 hX.x0 rfl ?_
  refine V.icmpN_ge C (i) (b) (tgt := 21) dX5_beingAt_9 (by decide) (by omega) (by omega) (fun h9 => absurd h9 (by omega)) (fun h9 => ?_)
  refine V.ald_n C dX5_beingAt_12 rfl ?_
  refine V.get C fg_RX5_39 dX5_beingAt_13 hX.x0 rfl ?_
  refine V.ild_n C dX5_beingAt_16 rfl ?_
  refine V.aaldN C (by decide) dX5_beingAt_17 hX.x7 (by omega) (by decide) (if_pos (show i < b by omega)) ?_
  refine V.goto C (tgt := 22) dX5_beingAt_18 (by decide) ?_
  exact V.aret X dX5_beingAt_22 (Or.inl ⟨_, rfl⟩) (by decide) (by decide) ⟨rfl, rfl⟩
theorem ev_X5_beingAt_f {g : GD} {r d t b : Nat} {A : ST} {da ta ba : Nat → Nat} {gr hc : Nat → Int32} {L : List AE} (hX : XR0 r d t b A da ta ba gr hc L) (hI : Inv r d t b A) {x : Int32} (hx : ¬ isN x b) : EvP g mX5_beingAt [aR 0, aI x] L (some aN) := by
  refine Ev.of [some (aR 0), some (aI x)] (by decide) rfl (Nat.le_of_ble_eq_true rfl) fun Z H0 C X => ?_
  have hN := hI.cn
  refine V.ild_n C dX5_beingAt_0 rfl ?_
  refine V.if_lt C (tgt := 21) dX5_beingAt_1 (by decide) (fun h1 => ?_) (fun h1 => ?_)
  · skip
    refine V.null C dX5_beingAt_21 ?_
    exact V.aret X dX5_beingAt_22 (Or.inl ⟨_, rfl⟩) (by decide) (by decide) ⟨rfl, rfl⟩
  · skip
    refine V.ild_n C dX5_beingAt_4 rfl ?_
    refine V.ald_n C dX5_beingAt_5 rfl ?_
    refine V.get C fg_RX5_129 dX5_beingAt_6 hX.x0 rfl ?_
    refine V.icmp_ge C (tgt := 21) dX5_beingAt_9 (by decide) (fun h9 => ?_) (fun h9 => absurd ((isN_lt (n := b) (by omega)).mpr ⟨h1, Int32.not_le.mp h9⟩) hx)
    refine V.null C dX5_beingAt_21 ?_
    exact V.aret X dX5_beingAt_22 (Or.inl ⟨_, rfl⟩) (by decide) (by decide) ⟨rfl, rfl⟩
theorem ev_X1_hasSide {g : GD} {r d t b : Nat} {A : ST} {da ta ba : Nat → Nat} {gr hc : Nat → Int32} {L : List AE} (hX : XR0 r d t b A da ta ba gr hc L) {i : Nat} (hi : i < d) (x : Int32) : EvP g mX1_hasSide [aR (da i), aI x] L (some (aI (b2 (A 5 i = x ∨ A 6 i = x)))) := by
  refine Ev.of [some (aR (da i)), some (aI x)] (by decide) rfl (Nat.le_of_ble_eq_true rfl) fun Z H0 C X => ?_
  refine V.ild_n C dX1_hasSide_0 rfl ?_
  refine V.ald_n C dX1_hasSide_1 rfl ?_
  refine V.get C fg_RX1_9 dX1_hasSide_2 (hX.dd hi) rfl ?_
  refine V.icmp_eq C (tgt := 16) dX1_hasSide_5 (by decide) (fun h5 => ?_) (fun h5 => ?_)
  · skip
    refine V.iconst C (x := 1) dX1_hasSide_16 (by decide) ?_
    refine V.goto C (tgt := 21) dX1_hasSide_17 (by decide) ?_
    exact V.iret X dX1_hasSide_21 rfl (by decide) (by decide) (pq (b2_t (Or.inl h5.symm)).symm)
  · skip
    refine V.ild_n C dX1_hasSide_8 rfl ?_
    refine V.ald_n C dX1_hasSide_9 rfl ?_
    refine V.get C fg_RX1_15 dX1_hasSide_10 (hX.dd hi) rfl ?_
    refine V.icmp_ne C (tgt := 20) dX1_hasSide_13 (by decide) (fun h13 => ?_) (fun h13 => ?_)
    · skip
      refine V.iconst C (x := 0) dX1_hasSide_20 (by decide) ?_
      exact V.iret X dX1_hasSide_21 rfl (by decide) (by decide) (pq (b2_f (fun q => q.elim (fun z => h5 z.symm) (fun z => h13 z.symm))).symm)
    · skip
      refine V.iconst C (x := 1) dX1_hasSide_16 (by decide) ?_
      refine V.goto C (tgt := 21) dX1_hasSide_17 (by decide) ?_
      exact V.iret X dX1_hasSide_21 rfl (by decide) (by decide) (pq (b2_t (Or.inr h13.symm)).symm)
theorem ev_X1_sideFrom {g : GD} {r d t b : Nat} {A : ST} {da ta ba : Nat → Nat} {gr hc : Nat → Int32} {L : List AE} (hX : XR0 r d t b A da ta ba gr hc L) {i : Nat} (hi : i < d) (x : Int32) : EvP g mX1_sideFrom [aR (da i), aI x] L (some (aI (cI (A 5 i = x) (A 6 i) (A 5 i)))) := by
  refine Ev.of [some (aR (da i)), some (aI x)] (by decide) rfl (Nat.le_of_ble_eq_true rfl) fun Z H0 C X => ?_
  refine V.ild_n C dX1_sideFrom_0 rfl ?_
  refine V.ald_n C dX1_sideFrom_1 rfl ?_
  refine V.get C fg_RX1_9 dX1_sideFrom_2 (hX.dd hi) rfl ?_
  refine V.icmp_ne C (tgt := 15) dX1_sideFrom_5 (by decide) (fun h5 => ?_) (fun h5 => ?_)
  · skip
    refine V.ald_n C dX1_sideFrom_15 rfl ?_
    refine V.get C fg_RX1_9 dX1_sideFrom_16 (hX.dd hi) rfl ?_
    exact V.iret X dX1_sideFrom_19 rfl (by decide) (by decide) (pq (cI_f (fun q => h5 q.symm)).symm)
  · skip
    refine V.ald_n C dX1_sideFrom_8 rfl ?_
    refine V.get C fg_RX1_15 dX1_sideFrom_9 (hX.dd hi) rfl ?_
    refine V.goto C (tgt := 19) dX1_sideFrom_12 (by decide) ?_
    exact V.iret X dX1_sideFrom_19 rfl (by decide) (by decide) (pq (cI_t h5.symm).symm)
theorem ev_X1_obstacle {g : GD} {r d t b : Nat} {A : ST} {da ta ba : Nat → Nat} {gr hc : Nat → Int32} {L : List AE} (hX : XR0 r d t b A da ta ba gr hc L) (hI : Inv r d t b A) {i : Nat} (hi : i < d) : EvP g mX1_obstacle [aR (da i)] L (some (aI (cI (A 8 i = 1) (cI (A 6 i = -1) 28 0) (cI (A 9 i = 1) 27 26)))) := by
  refine Ev.of [some (aR (da i))] (by decide) rfl (Nat.le_of_ble_eq_true rfl) fun Z H0 C X => ?_
  refine V.ald_n C dX1_obstacle_0 rfl ?_
  refine V.get C fg_RX1_18 dX1_obstacle_1 (hX.dd hi) rfl ?_
  refine V.if_ne C (tgt := 22) dX1_obstacle_4 (by decide) (fun h4 => ?_) (fun h4 => ?_)
  · skip
    refine V.ald_n C dX1_obstacle_22 rfl ?_
    refine V.get C fg_RX1_15 dX1_obstacle_23 (hX.dd hi) rfl ?_
    refine V.iconst C (x := -1) dX1_obstacle_26 (by decide) ?_
    refine V.icmp_ne C (tgt := 35) dX1_obstacle_27 (by decide) (fun h27 => ?_) (fun h27 => ?_)
    · skip
      refine V.iconst C (x := 0) dX1_obstacle_35 (by decide) ?_
      exact V.iret X dX1_obstacle_36 rfl (by decide) (by decide) (pq (by rw [cI_t ((hI.cd hi).2.2.2.2.1.resolve_left h4), cI_f h27]))
    · skip
      refine V.bipush C (x := 28) dX1_obstacle_30 (by decide) ?_
      refine V.goto C (tgt := 36) dX1_obstacle_32 (by decide) ?_
      exact V.iret X dX1_obstacle_36 rfl (by decide) (by decide) (pq (by rw [cI_t ((hI.cd hi).2.2.2.2.1.resolve_left h4), cI_t h27]))
  · skip
    refine V.ald_n C dX1_obstacle_7 rfl ?_
    refine V.get C fg_RX1_22 dX1_obstacle_8 (hX.dd hi) rfl ?_
    refine V.if_eq C (tgt := 19) dX1_obstacle_11 (by decide) (fun h11 => ?_) (fun h11 => ?_)
    · skip
      refine V.bipush C (x := 26) dX1_obstacle_19 (by decide) ?_
      exact V.iret X dX1_obstacle_21 rfl (by decide) (by decide) (pq (by rw [cI_f (fun q => by rw [h4] at q; exact absurd q (by decide)), cI_f (fun q => by rw [h11] at q; exact absurd q (by decide))]))
    · skip
      refine V.bipush C (x := 27) dX1_obstacle_14 (by decide) ?_
      refine V.goto C (tgt := 21) dX1_obstacle_16 (by decide) ?_
      exact V.iret X dX1_obstacle_21 rfl (by decide) (by decide) (pq (by rw [cI_f (fun q => by rw [h4] at q; exact absurd q (by decide)), cI_t ((hI.cd hi).2.2.2.2.2.resolve_left h11)]))
theorem ev_X2_current {g : GD} {r d t b : Nat} {A : ST} {da ta ba : Nat → Nat} {gr hc : Nat → Int32} {L : List AE} (hX : XR0 r d t b A da ta ba gr hc L) (hI : Inv r d t b A) {i : Nat} (hi : i < 5) : EvP g mX2_current [aR (13 + 2 * i)] L (some (aI (cI (A 23 i = 0) (-1) (A 22 (4 * i + (A 24 i).toNatClampNeg))))) := by
  refine Ev.of [some (aR (13 + 2 * i))] (by decide) rfl (Nat.le_of_ble_eq_true rfl) fun Z H0 C X => ?_
  obtain ⟨m, q, hm, e1, e2, hq, hx⟩ := hI.cr hi
  refine V.ald_n C dX2_current_0 rfl ?_
  refine V.get C fg_RX2_19 dX2_current_1 (hX.rl hi) rfl ?_
  refine V.top e2 ?_
  refine V.ald_n C dX2_current_4 rfl ?_
  refine V.get C fg_RX2_15 dX2_current_5 (hX.rl hi) rfl ?_
  refine V.top e1 ?_
  refine V.icmpN_ge C (q) (m) (tgt := 23) dX2_current_8 (by decide) (by omega) (by omega) (fun h8 => ?_) (fun h8 => ?_)
  · skip
    refine V.iconst C (x := -1) dX2_current_23 (by decide) ?_
    exact V.iret X dX2_current_24 rfl (by decide) (by decide) (pq (by rw [cI_t (show A 23 i = 0 from by rw [e1, show m = 0 by omega]; rfl)]))
  · skip
    refine V.ald_n C dX2_current_11 rfl ?_
    refine V.get C fg_RX2_9 dX2_current_12 (hX.rl hi) rfl ?_
    refine V.ald_n C dX2_current_15 rfl ?_
    refine V.get C fg_RX2_19 dX2_current_16 (hX.rl hi) rfl ?_
    refine V.top e2 ?_
    refine V.ialdN C (N := 4) dX2_current_19 (hX.rr hi) (by omega) (by decide) ?_
    refine V.top (rowF_in (show q < 4 by omega)) ?_
    refine V.goto C (tgt := 24) dX2_current_20 (by decide) ?_
    exact V.iret X dX2_current_24 rfl (by decide) (by decide) (pq (by rw [cI_f (show ¬ A 23 i = 0 from fun z => by rw [e1] at z; have := nI_inj (b := 0) (by omega) (by omega) z; omega), e2, nI_clamp (show q < 2 ^ 31 by omega)]))
theorem ev_X5_doorOfWay_t {g : GD} {r d t b : Nat} {A : ST} {da ta ba : Nat → Nat} {gr hc : Nat → Int32} {L : List AE} (hX : XR0 r d t b A da ta ba gr hc L) (hI : Inv r d t b A) {k : Nat} (hk : k < d) : EvP g mX5_doorOfWay [aR 0, aI (nI (100 + k))] L (some (aR (da k))) := by
  refine Ev.of [some (aR 0), some (aI (nI (100 + k)))] (by decide) rfl (Nat.le_of_ble_eq_true rfl) fun Z H0 C X => ?_
  have hN := hI.cn
  refine V.ild_n C dX5_doorOfWay_0 rfl ?_
  refine V.bipush C (x := 100) dX5_doorOfWay_1 (by decide) ?_
  refine V.icmpN_lt C (100 + k) (100) (tgt := 24) dX5_doorOfWay_3 (by decide) (by omega) (by omega) (fun h3 => absurd h3 (by omega)) (fun h3 => ?_)
  refine V.ild_n C dX5_doorOfWay_6 rfl ?_
  refine V.sipush C (x := 200) dX5_doorOfWay_7 (by decide) ?_
  refine V.icmpN_ge C (100 + k) (200) (tgt := 24) dX5_doorOfWay_10 (by decide) (by omega) (by omega) (fun h10 => absurd h10 (by omega)) (fun h10 => ?_)
  refine V.ald_n C dX5_doorOfWay_13 rfl ?_
  refine V.ild_n C dX5_doorOfWay_14 rfl ?_
  refine V.bipush C (x := 100) dX5_doorOfWay_15 (by decide) ?_
  refine V.isub C dX5_doorOfWay_17 ?_
  refine V.top (nsub 100 k) ?_
  refine V.callVp C mo_X5_doorAt im_X5_doorAt se_X5_doorAt ml_RX5_101 (ev_X5_doorAt_t hX hI (show k < d by omega)) dX5_doorOfWay_18 rfl rfl hX.x0 rfl rfl (Nat.le_of_ble_eq_true rfl) (RmOk.mk' (by decide) (by decide) (by decide) (by decide)) ⟨rfl, rfl⟩ ?_
  refine V.goto C (tgt := 25) dX5_doorOfWay_21 (by decide) ?_
  exact V.aret X dX5_doorOfWay_25 (Or.inl ⟨_, rfl⟩) (by decide) (by decide) ⟨rfl, rfl⟩
theorem ev_X5_doorOfWay_f {g : GD} {r d t b : Nat} {A : ST} {da ta ba : Nat → Nat} {gr hc : Nat → Int32} {L : List AE} (hX : XR0 r d t b A da ta ba gr hc L) (hI : Inv r d t b A) {w : Int32} (hw : w < 100 ∨ 200 ≤ w) : EvP g mX5_doorOfWay [aR 0, aI w] L (some aN) := by
  refine Ev.of [some (aR 0), some (aI w)] (by decide) rfl (Nat.le_of_ble_eq_true rfl) fun Z H0 C X => ?_
  have hN := hI.cn
  refine V.ild_n C dX5_doorOfWay_0 rfl ?_
  refine V.bipush C (x := 100) dX5_doorOfWay_1 (by decide) ?_
  refine V.icmp_lt C (tgt := 24) dX5_doorOfWay_3 (by decide) (fun h3 => ?_) (fun h3 => ?_)
  · skip
    refine V.null C dX5_doorOfWay_24 ?_
    exact V.aret X dX5_doorOfWay_25 (Or.inl ⟨_, rfl⟩) (by decide) (by decide) ⟨rfl, rfl⟩
  · skip
    refine V.ild_n C dX5_doorOfWay_6 rfl ?_
    refine V.sipush C (x := 200) dX5_doorOfWay_7 (by decide) ?_
    refine V.icmp_ge C (tgt := 24) dX5_doorOfWay_10 (by decide) (fun h10 => ?_) (fun h10 => absurd (hw.resolve_left h3) h10)
    refine V.null C dX5_doorOfWay_24 ?_
    exact V.aret X dX5_doorOfWay_25 (Or.inl ⟨_, rfl⟩) (by decide) (by decide) ⟨rfl, rfl⟩
theorem ev_X5_doorOfWay_n {g : GD} {r d t b : Nat} {A : ST} {da ta ba : Nat → Nat} {gr hc : Nat → Int32} {L : List AE} (hX : XR0 r d t b A da ta ba gr hc L) (hI : Inv r d t b A) {n : Nat} (hn : n < 100 ∨ (200 ≤ n ∧ n < 2 ^ 31)) : EvP g mX5_doorOfWay [aR 0, aI (nI n)] L (some aN) :=
  ev_X5_doorOfWay_f hX hI (hn.imp (fun h => (nI_ltI (b := 100) (by omega) (by omega)).mpr h) (fun h => (nI_leI (a := 200) (by omega) (by omega)).mpr h.1))
theorem ev_X5_ruleOfWay_t {g : GD} {r d t b : Nat} {A : ST} {da ta ba : Nat → Nat} {gr hc : Nat → Int32} {L : List AE} (hX : XR0 r d t b A da ta ba gr hc L) (hI : Inv r d t b A) {k : Nat} (hk : k < 5) : EvP g mX5_ruleOfWay [aR 0, aI (nI (300 + k))] L (some (aR (13 + 2 * k))) := by
  refine Ev.of [some (aR 0), some (aI (nI (300 + k)))] (by decide) rfl (Nat.le_of_ble_eq_true rfl) fun Z H0 C X => ?_
  have hN := hI.cn
  refine V.ild_n C dX5_ruleOfWay_0 rfl ?_
  refine V.sipush C (x := 300) dX5_ruleOfWay_1 (by decide) ?_
  refine V.icmpN_lt C (300 + k) (300) (tgt := 19) dX5_ruleOfWay_4 (by decide) (by omega) (by omega) (fun h4 => absurd h4 (by omega)) (fun h4 => ?_)
  refine V.ald_n C dX5_ruleOfWay_7 rfl ?_
  refine V.ild_n C dX5_ruleOfWay_8 rfl ?_
  refine V.sipush C (x := 300) dX5_ruleOfWay_9 (by decide) ?_
  refine V.isub C dX5_ruleOfWay_12 ?_
  refine V.top (nsub 300 k) ?_
  refine V.callVp C mo_X5_ruleAt im_X5_ruleAt se_X5_ruleAt ml_RX5_82 (ev_X5_ruleAt_t hX hI (show k < 5 by omega)) dX5_ruleOfWay_13 rfl rfl hX.x0 rfl rfl (Nat.le_of_ble_eq_true rfl) (RmOk.mk' (by decide) (by decide) (by decide) (by decide)) ⟨rfl, rfl⟩ ?_
  refine V.goto C (tgt := 20) dX5_ruleOfWay_16 (by decide) ?_
  exact V.aret X dX5_ruleOfWay_20 (Or.inl ⟨_, rfl⟩) (by decide) (by decide) ⟨rfl, rfl⟩
theorem ev_X5_ruleOfWay_f {g : GD} {r d t b : Nat} {A : ST} {da ta ba : Nat → Nat} {gr hc : Nat → Int32} {L : List AE} (hX : XR0 r d t b A da ta ba gr hc L) (hI : Inv r d t b A) {w : Int32} (hw : w < 300) : EvP g mX5_ruleOfWay [aR 0, aI w] L (some aN) := by
  refine Ev.of [some (aR 0), some (aI w)] (by decide) rfl (Nat.le_of_ble_eq_true rfl) fun Z H0 C X => ?_
  have hN := hI.cn
  refine V.ild_n C dX5_ruleOfWay_0 rfl ?_
  refine V.sipush C (x := 300) dX5_ruleOfWay_1 (by decide) ?_
  refine V.icmp_lt C (tgt := 19) dX5_ruleOfWay_4 (by decide) (fun h4 => ?_) (fun h4 => absurd hw h4)
  refine V.null C dX5_ruleOfWay_19 ?_
  exact V.aret X dX5_ruleOfWay_20 (Or.inl ⟨_, rfl⟩) (by decide) (by decide) ⟨rfl, rfl⟩
theorem ev_X5_ruleOfWay_n {g : GD} {r d t b : Nat} {A : ST} {da ta ba : Nat → Nat} {gr hc : Nat → Int32} {L : List AE} (hX : XR0 r d t b A da ta ba gr hc L) (hI : Inv r d t b A) {n : Nat} (hn : n < 300) : EvP g mX5_ruleOfWay [aR 0, aI (nI n)] L (some aN) :=
  ev_X5_ruleOfWay_f hX hI ((nI_ltI (b := 300) (by omega) (by omega)).mpr hn)
theorem ev_X5_leadsTo {g : GD} {r d t b : Nat} {A : ST} {da ta ba : Nat → Nat} {gr hc : Nat → Int32} {L : List AE} (hX : XR0 r d t b A da ta ba gr hc L) (hI : Inv r d t b A) {i j : Nat} (hi : i < r) (hj : j < 8) : EvP g mX5_leadsTo [aR 0, aI (nI i), aI (nI j)] L (some (aI (ldT A i j))) := by
  refine Ev.of [some (aR 0), some (aI (nI i)), some (aI (nI j)), none, none, none] (by decide) rfl (Nat.le_of_ble_eq_true rfl) fun Z H0 C X => ?_
  have hN := hI.cn
  rcases hI.cw hi hj with hw | ⟨k, hk, hw⟩ | ⟨k, hk, hw, hs⟩ | ⟨k, hk, hw⟩ | ⟨k, hk, hw⟩
  · skip
    refine V.ald_n C dX5_leadsTo_0 rfl ?_
    refine V.ild_n C dX5_leadsTo_1 rfl ?_
    refine V.ild_n C dX5_leadsTo_2 rfl ?_
    refine V.callVp C mo_X5_isPlace im_X5_isPlace se_X5_isPlace ml_RX5_71 (ev_X5_isPlace hX hI _ _) dX5_leadsTo_3 rfl rfl hX.x0 rfl rfl (Nat.le_of_ble_eq_true rfl) (RmOk.mk' (by decide) (by decide) (by decide) (by decide)) ⟨rfl, rfl⟩ ?_
    refine V.ifb_ne C (tgt := 11) dX5_leadsTo_6 (by decide) (fun h6 => ?_) (fun h6 => absurd ⟨isN_nI (show i < r by omega) (by omega), isN_nI (show j < 8 by omega) (by omega)⟩ h6)
    refine V.ald_n C dX5_leadsTo_11 rfl ?_
    refine V.get C fg_RX5_9 dX5_leadsTo_12 hX.x0 rfl ?_
    refine V.ild_n C dX5_leadsTo_15 rfl ?_
    refine V.ild_n C dX5_leadsTo_16 rfl ?_
    refine V.callSp C mo_X5_placeOf sm_X5_placeOf ml_RX5_78 (ev_X5_placeOf _ _) dX5_leadsTo_17 rfl rfl (Nat.le_of_ble_eq_true rfl) (RmOk.mk' (by decide) (by decide) (by decide) (by decide)) ⟨rfl, rfl⟩ ?_
    refine V.ialdN C (N := 160) dX5_leadsTo_20 hX.x1 (by omega) (by decide) ?_
    refine V.top ((xw_in hi hj).trans hw) ?_
    refine V.ist_n C dX5_leadsTo_21 (Nat.le_of_ble_eq_true rfl) rfl ?_
    refine V.ild_n C dX5_leadsTo_22 rfl ?_
    refine V.bipush C (x := 100) dX5_leadsTo_23 (by decide) ?_
    refine V.icmp_ge C (tgt := 30) dX5_leadsTo_25 (by decide) (fun h25 => absurd h25 (by decide)) (fun h25 => ?_)
    refine V.ild_n C dX5_leadsTo_28 rfl ?_
    exact V.iret X dX5_leadsTo_29 rfl (by decide) (by decide) (pq (ldT_neg hw).symm)
  · skip
    refine V.ald_n C dX5_leadsTo_0 rfl ?_
    refine V.ild_n C dX5_leadsTo_1 rfl ?_
    refine V.ild_n C dX5_leadsTo_2 rfl ?_
    refine V.callVp C mo_X5_isPlace im_X5_isPlace se_X5_isPlace ml_RX5_71 (ev_X5_isPlace hX hI _ _) dX5_leadsTo_3 rfl rfl hX.x0 rfl rfl (Nat.le_of_ble_eq_true rfl) (RmOk.mk' (by decide) (by decide) (by decide) (by decide)) ⟨rfl, rfl⟩ ?_
    refine V.ifb_ne C (tgt := 11) dX5_leadsTo_6 (by decide) (fun h6 => ?_) (fun h6 => absurd ⟨isN_nI (show i < r by omega) (by omega), isN_nI (show j < 8 by omega) (by omega)⟩ h6)
    refine V.ald_n C dX5_leadsTo_11 rfl ?_
    refine V.get C fg_RX5_9 dX5_leadsTo_12 hX.x0 rfl ?_
    refine V.ild_n C dX5_leadsTo_15 rfl ?_
    refine V.ild_n C dX5_leadsTo_16 rfl ?_
    refine V.callSp C mo_X5_placeOf sm_X5_placeOf ml_RX5_78 (ev_X5_placeOf _ _) dX5_leadsTo_17 rfl rfl (Nat.le_of_ble_eq_true rfl) (RmOk.mk' (by decide) (by decide) (by decide) (by decide)) ⟨rfl, rfl⟩ ?_
    refine V.ialdN C (N := 160) dX5_leadsTo_20 hX.x1 (by omega) (by decide) ?_
    refine V.top ((xw_in hi hj).trans hw) ?_
    refine V.ist_n C dX5_leadsTo_21 (Nat.le_of_ble_eq_true rfl) rfl ?_
    refine V.ild_n C dX5_leadsTo_22 rfl ?_
    refine V.bipush C (x := 100) dX5_leadsTo_23 (by decide) ?_
    refine V.icmpN_ge C (k) (100) (tgt := 30) dX5_leadsTo_25 (by decide) (by omega) (by omega) (fun h25 => absurd h25 (by omega)) (fun h25 => ?_)
    refine V.ild_n C dX5_leadsTo_28 rfl ?_
    exact V.iret X dX5_leadsTo_29 rfl (by decide) (by decide) (pq (ldT_room hw (by omega)).symm)
  · skip
    refine V.ald_n C dX5_leadsTo_0 rfl ?_
    refine V.ild_n C dX5_leadsTo_1 rfl ?_
    refine V.ild_n C dX5_leadsTo_2 rfl ?_
    refine V.callVp C mo_X5_isPlace im_X5_isPlace se_X5_isPlace ml_RX5_71 (ev_X5_isPlace hX hI _ _) dX5_leadsTo_3 rfl rfl hX.x0 rfl rfl (Nat.le_of_ble_eq_true rfl) (RmOk.mk' (by decide) (by decide) (by decide) (by decide)) ⟨rfl, rfl⟩ ?_
    refine V.ifb_ne C (tgt := 11) dX5_leadsTo_6 (by decide) (fun h6 => ?_) (fun h6 => absurd ⟨isN_nI (show i < r by omega) (by omega), isN_nI (show j < 8 by omega) (by omega)⟩ h6)
    refine V.ald_n C dX5_leadsTo_11 rfl ?_
    refine V.get C fg_RX5_9 dX5_leadsTo_12 hX.x0 rfl ?_
    refine V.ild_n C dX5_leadsTo_15 rfl ?_
    refine V.ild_n C dX5_leadsTo_16 rfl ?_
    refine V.callSp C mo_X5_placeOf sm_X5_placeOf ml_RX5_78 (ev_X5_placeOf _ _) dX5_leadsTo_17 rfl rfl (Nat.le_of_ble_eq_true rfl) (RmOk.mk' (by decide) (by decide) (by decide) (by decide)) ⟨rfl, rfl⟩ ?_
    refine V.ialdN C (N := 160) dX5_leadsTo_20 hX.x1 (by omega) (by decide) ?_
    refine V.top ((xw_in hi hj).trans hw) ?_
    refine V.ist_n C dX5_leadsTo_21 (Nat.le_of_ble_eq_true rfl) rfl ?_
    refine V.ild_n C dX5_leadsTo_22 rfl ?_
    refine V.bipush C (x := 100) dX5_leadsTo_23 (by decide) ?_
    refine V.icmpN_ge C (100 + k) (100) (tgt := 30) dX5_leadsTo_25 (by decide) (by omega) (by omega) (fun h25 => ?_) (fun h25 => absurd h25 (by omega))
    refine V.ald_n C dX5_leadsTo_30 rfl ?_
    refine V.ild_n C dX5_leadsTo_31 rfl ?_
    refine V.callVp C mo_X5_doorOfWay im_X5_doorOfWay se_X5_doorOfWay ml_RX5_249 (ev_X5_doorOfWay_t hX hI (show k < d by omega)) dX5_leadsTo_32 rfl rfl hX.x0 rfl rfl (Nat.le_of_ble_eq_true rfl) (RmOk.mk' (by decide) (by decide) (by decide) (by decide)) ⟨rfl, rfl⟩ ?_
    refine V.ast C dX5_leadsTo_35 (Nat.le_of_ble_eq_true rfl) rfl ?_
    refine V.ald C dX5_leadsTo_37 rfl ?_
    refine V.ifnull C dX5_leadsTo_39 ?_
    refine V.ald C dX5_leadsTo_42 rfl ?_
    refine V.get C fg_RX5_207 dX5_leadsTo_44 (hX.dd (show k < d by omega)) rfl ?_
    refine V.if_eq C (tgt := 59) dX5_leadsTo_47 (by decide) (fun h47 => ?_) (fun h47 => ?_)
    · skip
      refine V.iconst C (x := -1) dX5_leadsTo_59 (by decide) ?_
      exact V.iret X dX5_leadsTo_60 rfl (by decide) (by decide) (pq (by rw [ldT_door hw (by omega), cI_f (by rw [h47]; decide)]))
    · skip
      refine V.ald C dX5_leadsTo_50 rfl ?_
      refine V.ild_n C dX5_leadsTo_52 rfl ?_
      refine V.callVp C mo_X1_sideFrom im_X1_sideFrom se_X1_sideFrom ml_RX5_252 (ev_X1_sideFrom hX (show k < d by omega) _) dX5_leadsTo_53 rfl rfl (hX.dd (show k < d by omega)) rfl rfl (Nat.le_of_ble_eq_true rfl) (RmOk.mk' (by decide) (by decide) (by decide) (by decide)) ⟨rfl, rfl⟩ ?_
      refine V.goto C (tgt := 60) dX5_leadsTo_56 (by decide) ?_
      exact V.iret X dX5_leadsTo_60 rfl (by decide) (by decide) (pq (by rw [ldT_door hw (by omega), cI_t ((hI.cd hk).2.2.2.2.1.resolve_left h47)]))
  · skip
    refine V.ald_n C dX5_leadsTo_0 rfl ?_
    refine V.ild_n C dX5_leadsTo_1 rfl ?_
    refine V.ild_n C dX5_leadsTo_2 rfl ?_
    refine V.callVp C mo_X5_isPlace im_X5_isPlace se_X5_isPlace ml_RX5_71 (ev_X5_isPlace hX hI _ _) dX5_leadsTo_3 rfl rfl hX.x0 rfl rfl (Nat.le_of_ble_eq_true rfl) (RmOk.mk' (by decide) (by decide) (by decide) (by decide)) ⟨rfl, rfl⟩ ?_
    refine V.ifb_ne C (tgt := 11) dX5_leadsTo_6 (by decide) (fun h6 => ?_) (fun h6 => absurd ⟨isN_nI (show i < r by omega) (by omega), isN_nI (show j < 8 by omega) (by omega)⟩ h6)
    refine V.ald_n C dX5_leadsTo_11 rfl ?_
    refine V.get C fg_RX5_9 dX5_leadsTo_12 hX.x0 rfl ?_
    refine V.ild_n C dX5_leadsTo_15 rfl ?_
    refine V.ild_n C dX5_leadsTo_16 rfl ?_
    refine V.callSp C mo_X5_placeOf sm_X5_placeOf ml_RX5_78 (ev_X5_placeOf _ _) dX5_leadsTo_17 rfl rfl (Nat.le_of_ble_eq_true rfl) (RmOk.mk' (by decide) (by decide) (by decide) (by decide)) ⟨rfl, rfl⟩ ?_
    refine V.ialdN C (N := 160) dX5_leadsTo_20 hX.x1 (by omega) (by decide) ?_
    refine V.top ((xw_in hi hj).trans hw) ?_
    refine V.ist_n C dX5_leadsTo_21 (Nat.le_of_ble_eq_true rfl) rfl ?_
    refine V.ild_n C dX5_leadsTo_22 rfl ?_
    refine V.bipush C (x := 100) dX5_leadsTo_23 (by decide) ?_
    refine V.icmpN_ge C (200 + k) (100) (tgt := 30) dX5_leadsTo_25 (by decide) (by omega) (by omega) (fun h25 => ?_) (fun h25 => absurd h25 (by omega))
    refine V.ald_n C dX5_leadsTo_30 rfl ?_
    refine V.ild_n C dX5_leadsTo_31 rfl ?_
    refine V.callVp C mo_X5_doorOfWay im_X5_doorOfWay se_X5_doorOfWay ml_RX5_249 (ev_X5_doorOfWay_n hX hI (show 200 + k < 100 ∨ (200 ≤ 200 + k ∧ 200 + k < 2 ^ 31) by omega)) dX5_leadsTo_32 rfl rfl hX.x0 rfl rfl (Nat.le_of_ble_eq_true rfl) (RmOk.mk' (by decide) (by decide) (by decide) (by decide)) ⟨rfl, rfl⟩ ?_
    refine V.ast C dX5_leadsTo_35 (Nat.le_of_ble_eq_true rfl) rfl ?_
    refine V.ald C dX5_leadsTo_37 rfl ?_
    refine V.ifnullN C (tgt := 61) dX5_leadsTo_39 (by decide) ?_
    refine V.ald_n C dX5_leadsTo_61 rfl ?_
    refine V.ild_n C dX5_leadsTo_62 rfl ?_
    refine V.callVp C mo_X5_ruleOfWay im_X5_ruleOfWay se_X5_ruleOfWay ml_RX5_255 (ev_X5_ruleOfWay_n hX hI (show 200 + k < 300 by omega)) dX5_leadsTo_63 rfl rfl hX.x0 rfl rfl (Nat.le_of_ble_eq_true rfl) (RmOk.mk' (by decide) (by decide) (by decide) (by decide)) ⟨rfl, rfl⟩ ?_
    refine V.ast C dX5_leadsTo_66 (Nat.le_of_ble_eq_true rfl) rfl ?_
    refine V.ald C dX5_leadsTo_68 rfl ?_
    refine V.ifnonnullN C dX5_leadsTo_70 ?_
    refine V.iconst C (x := -1) dX5_leadsTo_73 (by decide) ?_
    refine V.goto C (tgt := 82) dX5_leadsTo_74 (by decide) ?_
    exact V.iret X dX5_leadsTo_82 rfl (by decide) (by decide) (pq (ldT_blk hw hk).symm)
  · skip
    refine V.ald_n C dX5_leadsTo_0 rfl ?_
    refine V.ild_n C dX5_leadsTo_1 rfl ?_
    refine V.ild_n C dX5_leadsTo_2 rfl ?_
    refine V.callVp C mo_X5_isPlace im_X5_isPlace se_X5_isPlace ml_RX5_71 (ev_X5_isPlace hX hI _ _) dX5_leadsTo_3 rfl rfl hX.x0 rfl rfl (Nat.le_of_ble_eq_true rfl) (RmOk.mk' (by decide) (by decide) (by decide) (by decide)) ⟨rfl, rfl⟩ ?_
    refine V.ifb_ne C (tgt := 11) dX5_leadsTo_6 (by decide) (fun h6 => ?_) (fun h6 => absurd ⟨isN_nI (show i < r by omega) (by omega), isN_nI (show j < 8 by omega) (by omega)⟩ h6)
    refine V.ald_n C dX5_leadsTo_11 rfl ?_
    refine V.get C fg_RX5_9 dX5_leadsTo_12 hX.x0 rfl ?_
    refine V.ild_n C dX5_leadsTo_15 rfl ?_
    refine V.ild_n C dX5_leadsTo_16 rfl ?_
    refine V.callSp C mo_X5_placeOf sm_X5_placeOf ml_RX5_78 (ev_X5_placeOf _ _) dX5_leadsTo_17 rfl rfl (Nat.le_of_ble_eq_true rfl) (RmOk.mk' (by decide) (by decide) (by decide) (by decide)) ⟨rfl, rfl⟩ ?_
    refine V.ialdN C (N := 160) dX5_leadsTo_20 hX.x1 (by omega) (by decide) ?_
    refine V.top ((xw_in hi hj).trans hw) ?_
    refine V.ist_n C dX5_leadsTo_21 (Nat.le_of_ble_eq_true rfl) rfl ?_
    refine V.ild_n C dX5_leadsTo_22 rfl ?_
    refine V.bipush C (x := 100) dX5_leadsTo_23 (by decide) ?_
    refine V.icmpN_ge C (300 + k) (100) (tgt := 30) dX5_leadsTo_25 (by decide) (by omega) (by omega) (fun h25 => ?_) (fun h25 => absurd h25 (by omega))
    refine V.ald_n C dX5_leadsTo_30 rfl ?_
    refine V.ild_n C dX5_leadsTo_31 rfl ?_
    refine V.callVp C mo_X5_doorOfWay im_X5_doorOfWay se_X5_doorOfWay ml_RX5_249 (ev_X5_doorOfWay_n hX hI (show 300 + k < 100 ∨ (200 ≤ 300 + k ∧ 300 + k < 2 ^ 31) by omega)) dX5_leadsTo_32 rfl rfl hX.x0 rfl rfl (Nat.le_of_ble_eq_true rfl) (RmOk.mk' (by decide) (by decide) (by decide) (by decide)) ⟨rfl, rfl⟩ ?_
    refine V.ast C dX5_leadsTo_35 (Nat.le_of_ble_eq_true rfl) rfl ?_
    refine V.ald C dX5_leadsTo_37 rfl ?_
    refine V.ifnullN C (tgt := 61) dX5_leadsTo_39 (by decide) ?_
    refine V.ald_n C dX5_leadsTo_61 rfl ?_
    refine V.ild_n C dX5_leadsTo_62 rfl ?_
    refine V.callVp C mo_X5_ruleOfWay im_X5_ruleOfWay se_X5_ruleOfWay ml_RX5_255 (ev_X5_ruleOfWay_t hX hI (show k < 5 by omega)) dX5_leadsTo_63 rfl rfl hX.x0 rfl rfl (Nat.le_of_ble_eq_true rfl) (RmOk.mk' (by decide) (by decide) (by decide) (by decide)) ⟨rfl, rfl⟩ ?_
    refine V.ast C dX5_leadsTo_66 (Nat.le_of_ble_eq_true rfl) rfl ?_
    refine V.ald C dX5_leadsTo_68 rfl ?_
    refine V.ifnonnull C (tgt := 77) dX5_leadsTo_70 (by decide) ?_
    refine V.ald C dX5_leadsTo_77 rfl ?_
    refine V.callVp C mo_X2_current im_X2_current se_X2_current ml_RX5_258 (ev_X2_current hX hI (show k < 5 by omega)) dX5_leadsTo_79 rfl rfl (hX.rl (show k < 5 by omega)) rfl rfl (Nat.le_of_ble_eq_true rfl) (RmOk.mk' (by decide) (by decide) (by decide) (by decide)) ⟨rfl, rfl⟩ ?_
    exact V.iret X dX5_leadsTo_82 rfl (by decide) (by decide) (pq (by obtain ⟨m, q, hm, e1, e2, hq, hx⟩ := hI.cr hk; rw [ldT_rule hw hk e2 (by omega), e2, nI_clamp (show q < 2 ^ 31 by omega)]))
theorem ev_X5_leadsTo_f {g : GD} {r d t b : Nat} {A : ST} {da ta ba : Nat → Nat} {gr hc : Nat → Int32} {L : List AE} (hX : XR0 r d t b A da ta ba gr hc L) (hI : Inv r d t b A) {x y : Int32} (hx : ¬ (isN x r ∧ isN y 8)) : EvP g mX5_leadsTo [aR 0, aI x, aI y] L (some (aI (-1))) := by
  refine Ev.of [some (aR 0), some (aI x), some (aI y), none, none, none] (by decide) rfl (Nat.le_of_ble_eq_true rfl) fun Z H0 C X => ?_
  have hN := hI.cn
  refine V.ald_n C dX5_leadsTo_0 rfl ?_
  refine V.ild_n C dX5_leadsTo_1 rfl ?_
  refine V.ild_n C dX5_leadsTo_2 rfl ?_
  refine V.callVp C mo_X5_isPlace im_X5_isPlace se_X5_isPlace ml_RX5_71 (ev_X5_isPlace hX hI _ _) dX5_leadsTo_3 rfl rfl hX.x0 rfl rfl (Nat.le_of_ble_eq_true rfl) (RmOk.mk' (by decide) (by decide) (by decide) (by decide)) ⟨rfl, rfl⟩ ?_
  refine V.ifb_ne C (tgt := 11) dX5_leadsTo_6 (by decide) (fun h6 => absurd h6 hx) (fun h6 => ?_)
  refine V.iconst C (x := -1) dX5_leadsTo_9 (by decide) ?_
  exact V.iret X dX5_leadsTo_10 rfl (by decide) (by decide) ⟨rfl, rfl⟩
theorem w_sub {w : Int32} {c : Nat} (h : nI c ≤ w) (hc : c < 2 ^ 30) : (w - nI c).toInt = w.toInt - c := by
  have h0 : ¬ w < 0 := by
    rw [i32_le, nI_toInt (by omega)] at h
    rw [i32_lt, k0]; omega
  obtain ⟨j, hj, rfl⟩ := nI_of h0
  have h2 := (nI_leI (by omega) hj).mp h
  rw [pk_sub h2, nI_toInt (by omega), nI_toInt hj]
  omega
theorem w81t {w : Int32} (h1 : (200 : Int32) ≤ w) (h2 : ¬ (300 : Int32) ≤ w) (h3 : ¬ (50 : Int32) ≤ w - 200) : (200 ≤ w.toInt ∧ w.toInt ≤ 249) ∨ (300 ≤ w.toInt ∧ w.toInt ≤ 304) := by
  have e := w_sub (c := 200) h1 (by omega)
  have h4 : (w - 200).toInt = w.toInt - 200 := e
  rw [i32_le, k200] at h1
  rw [i32_le, h4, show (50 : Int32).toInt = 50 by decide] at h3
  omega
theorem w81f {w : Int32} (h1 : (200 : Int32) ≤ w) (h2 : ¬ (300 : Int32) ≤ w) (h3 : (50 : Int32) ≤ w - 200) (h : (200 ≤ w.toInt ∧ w.toInt ≤ 249) ∨ (300 ≤ w.toInt ∧ w.toInt ≤ 304)) : False := by
  have e := w_sub (c := 200) h1 (by omega)
  have h4 : (w - 200).toInt = w.toInt - 200 := e
  rw [i32_le, k300] at h2
  rw [i32_le, h4, show (50 : Int32).toInt = 50 by decide] at h3
  omega
theorem w99f {w : Int32} (h1 : (300 : Int32) ≤ w) (h : (200 ≤ w.toInt ∧ w.toInt ≤ 249) ∨ (300 ≤ w.toInt ∧ w.toInt ≤ 304)) : isN (w - 300) 5 := by
  have e := w_sub (c := 300) h1 (by omega)
  have h4 : (w - 300).toInt = w.toInt - 300 := e
  rw [i32_le, k300] at h1
  unfold isN
  rw [h4]
  omega
theorem sub300 {w : Int32} {k : Nat} (h : w - 300 = nI k) : w = nI (300 + k) := by
  have : w = (w - 300) + 300 := by rw [Int32.sub_add_cancel]
  rw [this, h, show (300 : Int32) = nI 300 from rfl, nI_add, Nat.add_comm]
theorem ev_X5_mayBeWayOf {g : GD} {r d t b : Nat} {A : ST} {da ta ba : Nat → Nat} {gr hc : Nat → Int32} {L : List AE} (hX : XR0 r d t b A da ta ba gr hc L) (hI : Inv r d t b A) {i : Nat} (hi : i < r) (w : Int32) : EvP g mX5_mayBeWayOf [aR 0, aI (nI i), aI w] L (some (aI (b2 (wOk r d A i w)))) := by
  refine Ev.of [some (aR 0), some (aI (nI i)), some (aI w), none] (by decide) rfl (Nat.le_of_ble_eq_true rfl) fun Z H0 C X => ?_
  have hN := hI.cn
  refine V.ild_n C dX5_mayBeWayOf_0 rfl ?_
  refine V.bipush C (x := 100) dX5_mayBeWayOf_1 (by decide) ?_
  refine V.icmp_ge C (tgt := 25) dX5_mayBeWayOf_3 (by decide) (fun h3 => ?_) (fun h3 => ?_)
  · skip
    refine V.ild_n C dX5_mayBeWayOf_25 rfl ?_
    refine V.sipush C (x := 200) dX5_mayBeWayOf_26 (by decide) ?_
    refine V.icmp_ge C (tgt := 59) dX5_mayBeWayOf_29 (by decide) (fun h29 => ?_) (fun h29 => ?_)
    · skip
      refine V.ild_n C dX5_mayBeWayOf_59 rfl ?_
      refine V.sipush C (x := 300) dX5_mayBeWayOf_60 (by decide) ?_
      refine V.icmp_ge C (tgt := 82) dX5_mayBeWayOf_63 (by decide) (fun h63 => ?_) (fun h63 => ?_)
      · skip
        rcases isN_cases (w - 300) 5 (by omega) with ⟨k, hk, hw⟩ | hk
        · skip
          refine V.ald_n C dX5_mayBeWayOf_82 rfl ?_
          obtain rfl := sub300 hw
          refine V.ild_n C dX5_mayBeWayOf_83 rfl ?_
          refine V.sipush C (x := 300) dX5_mayBeWayOf_84 (by decide) ?_
          refine V.isub C dX5_mayBeWayOf_87 ?_
          refine V.top (nsub 300 k) ?_
          refine V.callVp C mo_X5_ruleAt im_X5_ruleAt se_X5_ruleAt ml_RX5_82 (ev_X5_ruleAt_t hX hI (show k < 5 by omega)) dX5_mayBeWayOf_88 rfl rfl hX.x0 rfl rfl (Nat.le_of_ble_eq_true rfl) (RmOk.mk' (by decide) (by decide) (by decide) (by decide)) ⟨rfl, rfl⟩ ?_
          refine V.ifnull C dX5_mayBeWayOf_91 ?_
          refine V.iconst C (x := 1) dX5_mayBeWayOf_94 (by decide) ?_
          refine V.goto C (tgt := 99) dX5_mayBeWayOf_95 (by decide) ?_
          exact V.iret X dX5_mayBeWayOf_99 rfl (by decide) (by decide) (pq (b2_t ((wOk_hi (by rw [i32_le, k200] at h29; omega) hN.1 hN.2.1).mpr (by rw [nI_toInt (by omega)]; omega))).symm)
        · skip
          refine V.ald_n C dX5_mayBeWayOf_82 rfl ?_
          refine V.ild_n C dX5_mayBeWayOf_83 rfl ?_
          refine V.sipush C (x := 300) dX5_mayBeWayOf_84 (by decide) ?_
          refine V.isub C dX5_mayBeWayOf_87 ?_
          refine V.callVp C mo_X5_ruleAt im_X5_ruleAt se_X5_ruleAt ml_RX5_82 (ev_X5_ruleAt_f hX hI hk) dX5_mayBeWayOf_88 rfl rfl hX.x0 rfl rfl (Nat.le_of_ble_eq_true rfl) (RmOk.mk' (by decide) (by decide) (by decide) (by decide)) ⟨rfl, rfl⟩ ?_
          refine V.ifnullN C (tgt := 98) dX5_mayBeWayOf_91 (by decide) ?_
          refine V.iconst C (x := 0) dX5_mayBeWayOf_98 (by decide) ?_
          exact V.iret X dX5_mayBeWayOf_99 rfl (by decide) (by decide) (pq (b2_f (fun q => hk (w99f h63 ((wOk_hi (by rw [i32_le, k200] at h29; omega) hN.1 hN.2.1).mp q)))).symm)
      · skip
        refine V.ild_n C dX5_mayBeWayOf_66 rfl ?_
        refine V.sipush C (x := 200) dX5_mayBeWayOf_67 (by decide) ?_
        refine V.isub C dX5_mayBeWayOf_70 ?_
        refine V.bipush C (x := 50) dX5_mayBeWayOf_71 (by decide) ?_
        refine V.icmp_ge C (tgt := 80) dX5_mayBeWayOf_73 (by decide) (fun h73 => ?_) (fun h73 => ?_)
        · skip
          refine V.iconst C (x := 0) dX5_mayBeWayOf_80 (by decide) ?_
          exact V.iret X dX5_mayBeWayOf_81 rfl (by decide) (by decide) (pq (b2_f (fun q => w81f h29 h63 h73 ((wOk_hi (by rw [i32_le, k200] at h29; omega) hN.1 hN.2.1).mp q))).symm)
        · skip
          refine V.iconst C (x := 1) dX5_mayBeWayOf_76 (by decide) ?_
          refine V.goto C (tgt := 81) dX5_mayBeWayOf_77 (by decide) ?_
          exact V.iret X dX5_mayBeWayOf_81 rfl (by decide) (by decide) (pq (b2_t ((wOk_hi (by rw [i32_le, k200] at h29; omega) hN.1 hN.2.1).mpr (w81t h29 h63 h73))).symm)
    · skip
      rcases isN_cases (w - 100) d (by omega) with ⟨k, hk, hw⟩ | hk
      · skip
        refine V.ald_n C dX5_mayBeWayOf_32 rfl ?_
        obtain rfl := sub100 hw
        refine V.ild_n C dX5_mayBeWayOf_33 rfl ?_
        refine V.bipush C (x := 100) dX5_mayBeWayOf_34 (by decide) ?_
        refine V.isub C dX5_mayBeWayOf_36 ?_
        refine V.top (nsub 100 k) ?_
        refine V.callVp C mo_X5_doorAt im_X5_doorAt se_X5_doorAt ml_RX5_101 (ev_X5_doorAt_t hX hI (show k < d by omega)) dX5_mayBeWayOf_37 rfl rfl hX.x0 rfl rfl (Nat.le_of_ble_eq_true rfl) (RmOk.mk' (by decide) (by decide) (by decide) (by decide)) ⟨rfl, rfl⟩ ?_
        refine V.ast_n C dX5_mayBeWayOf_40 (Nat.le_of_ble_eq_true rfl) rfl ?_
        refine V.ald_n C dX5_mayBeWayOf_41 rfl ?_
        refine V.ifnull C dX5_mayBeWayOf_42 ?_
        refine V.ald_n C dX5_mayBeWayOf_45 rfl ?_
        refine V.ild_n C dX5_mayBeWayOf_46 rfl ?_
        refine V.callVp C mo_X1_hasSide im_X1_hasSide se_X1_hasSide ml_RX5_246 (ev_X1_hasSide hX (show k < d by omega) _) dX5_mayBeWayOf_47 rfl rfl (hX.dd (show k < d by omega)) rfl rfl (Nat.le_of_ble_eq_true rfl) (RmOk.mk' (by decide) (by decide) (by decide) (by decide)) ⟨rfl, rfl⟩ ?_
        refine V.ifb_eq C (tgt := 57) dX5_mayBeWayOf_50 (by decide) (fun h50 => ?_) (fun h50 => ?_)
        · skip
          refine V.iconst C (x := 0) dX5_mayBeWayOf_57 (by decide) ?_
          exact V.iret X dX5_mayBeWayOf_58 rfl (by decide) (by decide) (pq (b2_f (fun q => by obtain ⟨k2, hk2, e2, q2⟩ := (wOk_mid (by rw [i32_le, k100] at h3; omega) (by rw [i32_le, k200] at h29; omega) hN.1 hN.2.1).mp q; have e3 := nI_inj (by omega) (by omega) e2; have e4 : k2 = k := (by omega); subst e4; exact h50 q2)).symm)
        · skip
          refine V.iconst C (x := 1) dX5_mayBeWayOf_53 (by decide) ?_
          refine V.goto C (tgt := 58) dX5_mayBeWayOf_54 (by decide) ?_
          exact V.iret X dX5_mayBeWayOf_58 rfl (by decide) (by decide) (pq (b2_t ((wOk_mid (by rw [i32_le, k100] at h3; omega) (by rw [i32_le, k200] at h29; omega) hN.1 hN.2.1).mpr ⟨k, hk, rfl, h50⟩)).symm)
      · skip
        refine V.ald_n C dX5_mayBeWayOf_32 rfl ?_
        refine V.ild_n C dX5_mayBeWayOf_33 rfl ?_
        refine V.bipush C (x := 100) dX5_mayBeWayOf_34 (by decide) ?_
        refine V.isub C dX5_mayBeWayOf_36 ?_
        refine V.callVp C mo_X5_doorAt im_X5_doorAt se_X5_doorAt ml_RX5_101 (ev_X5_doorAt_f hX hI hk) dX5_mayBeWayOf_37 rfl rfl hX.x0 rfl rfl (Nat.le_of_ble_eq_true rfl) (RmOk.mk' (by decide) (by decide) (by decide) (by decide)) ⟨rfl, rfl⟩ ?_
        refine V.ast_n C dX5_mayBeWayOf_40 (Nat.le_of_ble_eq_true rfl) rfl ?_
        refine V.ald_n C dX5_mayBeWayOf_41 rfl ?_
        refine V.ifnullN C (tgt := 57) dX5_mayBeWayOf_42 (by decide) ?_
        refine V.iconst C (x := 0) dX5_mayBeWayOf_57 (by decide) ?_
        exact V.iret X dX5_mayBeWayOf_58 rfl (by decide) (by decide) (pq (b2_f (fun q => by obtain ⟨k, hk2, rfl, -⟩ := (wOk_mid (by rw [i32_le, k100] at h3; omega) (by rw [i32_le, k200] at h29; omega) hN.1 hN.2.1).mp q; exact hk (by rw [show (100 : Int32) = nI 100 from rfl, nsub]; exact isN_nI hk2 (by omega)))).symm)
  · skip
    refine V.ild_n C dX5_mayBeWayOf_6 rfl ?_
    refine V.iconst C (x := -1) dX5_mayBeWayOf_7 (by decide) ?_
    refine V.icmp_eq C (tgt := 19) dX5_mayBeWayOf_8 (by decide) (fun h8 => ?_) (fun h8 => ?_)
    · skip
      refine V.iconst C (x := 1) dX5_mayBeWayOf_19 (by decide) ?_
      refine V.goto C (tgt := 24) dX5_mayBeWayOf_20 (by decide) ?_
      exact V.iret X dX5_mayBeWayOf_24 rfl (by decide) (by decide) (pq (b2_t ((wOk_lt (by rw [i32_le, k100] at h3; omega) hN.1 hN.2.1).mpr (Or.inl h8))).symm)
    · skip
      refine V.ald_n C dX5_mayBeWayOf_11 rfl ?_
      refine V.ild_n C dX5_mayBeWayOf_12 rfl ?_
      refine V.callVp C mo_X5_isRoom im_X5_isRoom se_X5_isRoom ml_RX5_61 (ev_X5_isRoom hX hI _) dX5_mayBeWayOf_13 rfl rfl hX.x0 rfl rfl (Nat.le_of_ble_eq_true rfl) (RmOk.mk' (by decide) (by decide) (by decide) (by decide)) ⟨rfl, rfl⟩ ?_
      refine V.ifb_eq C (tgt := 23) dX5_mayBeWayOf_16 (by decide) (fun h16 => ?_) (fun h16 => ?_)
      · skip
        refine V.iconst C (x := 0) dX5_mayBeWayOf_23 (by decide) ?_
        exact V.iret X dX5_mayBeWayOf_24 rfl (by decide) (by decide) (pq (b2_f (fun q => ((wOk_lt (by rw [i32_le, k100] at h3; omega) hN.1 hN.2.1).mp q).elim h8 h16)).symm)
      · skip
        refine V.iconst C (x := 1) dX5_mayBeWayOf_19 (by decide) ?_
        refine V.goto C (tgt := 24) dX5_mayBeWayOf_20 (by decide) ?_
        exact V.iret X dX5_mayBeWayOf_24 rfl (by decide) (by decide) (pq (b2_t ((wOk_lt (by rw [i32_le, k100] at h3; omega) hN.1 hN.2.1).mpr (Or.inr h16))).symm)
