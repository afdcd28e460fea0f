theorem ev_X5_isShutIn {g : GD} {r d t b : Nat} {A : ST} {da ta ba : Nat → Nat} {gr hc : Nat → Int32} {L : List AE} (hX : XR0 r d t b A da ta ba gr hc L) (hI : Inv r d t b A) {w : Nat} (hw : w < b) : EvP g mX5_isShutIn [aR (ba w)] L (some (aI (b2 (shIn A w)))) := by
  refine Ev.of [some (aR (ba w))] (by decide) rfl (Nat.le_of_ble_eq_true rfl) fun Z H0 C X => ?_
  have hN := hI.cn
  rcases (hI.cb hw).2.1 with hw1 | ⟨k, hk, hw1, hk2⟩
  · skip
    refine V.ald_n C dX5_isShutIn_0 rfl ?_
    refine V.get C fg_RX5_170 dX5_isShutIn_1 (hX.bb hw) rfl ?_
    refine V.topO (wref_neg hw1) ?_
    refine V.ifnullN C (tgt := 21) dX5_isShutIn_4 (by decide) ?_
    refine V.iconst C (x := 0) dX5_isShutIn_21 (by decide) ?_
    exact V.iret X dX5_isShutIn_22 rfl (by decide) (by decide) (pq (b2_f (shIn_neg hw1)).symm)
  · skip
    refine V.ald_n C dX5_isShutIn_0 rfl ?_
    refine V.get C fg_RX5_170 dX5_isShutIn_1 (hX.bb hw) rfl ?_
    refine V.topO (wref_k hw1 (by omega)) ?_
    refine V.ifnull C dX5_isShutIn_4 ?_
    refine V.ald_n C dX5_isShutIn_7 rfl ?_
    refine V.get C fg_RX5_170 dX5_isShutIn_8 (hX.bb hw) rfl ?_
    refine V.topO (wref_k hw1 (by omega)) ?_
    refine V.get C fg_RX5_173 dX5_isShutIn_11 (hX.tt hk) rfl ?_
    refine V.if_eq C (tgt := 21) dX5_isShutIn_14 (by decide) (fun h14 => ?_) (fun h14 => ?_)
    · skip
      refine V.iconst C (x := 0) dX5_isShutIn_21 (by decide) ?_
      exact V.iret X dX5_isShutIn_22 rfl (by decide) (by decide) (pq (b2_f (fun q => by rw [shIn_k hw1 (by omega), h14] at q; exact absurd q (by decide))).symm)
    · skip
      refine V.iconst C (x := 1) dX5_isShutIn_17 (by decide) ?_
      refine V.goto C (tgt := 22) dX5_isShutIn_18 (by decide) ?_
      exact V.iret X dX5_isShutIn_22 rfl (by decide) (by decide) (pq (b2_t ((shIn_k hw1 (by omega)).mpr ((hI.ct hk).2.2.2.1.resolve_left h14))).symm)
theorem ev_X5_hasRoom {g : GD} {r d t b : Nat} {A : ST} {da ta ba : Nat → Nat} {gr hc : Nat → Int32} {L : List AE} (hX : XR0 r d t b A da ta ba gr hc L) (hI : Inv r d t b A) {i j : Nat} (hi : i < 7) (hj : j < r) : EvP g mX5_hasRoom [aR 0, aI (nI i), aI (nI j)] L (some (aI (b2 (A 25 (20 * i + j) = 1)))) := by
  refine Ev.of [some (aR 0), some (aI (nI i)), some (aI (nI j))] (by decide) rfl (Nat.le_of_ble_eq_true rfl) fun Z H0 C X => ?_
  have hN := hI.cn
  refine V.ild_n C dX5_hasRoom_0 rfl ?_
  refine V.callSp C mo_X5_isRegion sm_X5_isRegion ml_RX5_92 (ev_X5_isRegion _) dX5_hasRoom_1 rfl rfl (Nat.le_of_ble_eq_true rfl) (RmOk.mk' (by decide) (by decide) (by decide) (by decide)) ⟨rfl, rfl⟩ ?_
  refine V.ifb_eq C (tgt := 32) dX5_hasRoom_4 (by decide) (fun h4 => absurd (isN_nI (show i < 7 by omega) (by omega)) h4) (fun h4 => ?_)
  refine V.ald_n C dX5_hasRoom_7 rfl ?_
  refine V.ild_n C dX5_hasRoom_8 rfl ?_
  refine V.callVp C mo_X5_isRoom im_X5_isRoom se_X5_isRoom ml_RX5_61 (ev_X5_isRoom hX hI _) dX5_hasRoom_9 rfl rfl hX.x0 rfl rfl (Nat.le_of_ble_eq_true rfl) (RmOk.mk' (by decide) (by decide) (by decide) (by decide)) ⟨rfl, rfl⟩ ?_
  refine V.ifb_eq C (tgt := 32) dX5_hasRoom_12 (by decide) (fun h12 => absurd (isN_nI (show j < r by omega) (by omega)) h12) (fun h12 => ?_)
  refine V.ald_n C dX5_hasRoom_15 rfl ?_
  refine V.get C fg_RX5_22 dX5_hasRoom_16 hX.x0 rfl ?_
  refine V.ild_n C dX5_hasRoom_19 rfl ?_
  refine V.ialdN C (N := 7) dX5_hasRoom_20 hX.x4 (by omega) (by decide) ?_
  refine V.iconst C (x := 1) dX5_hasRoom_21 (by decide) ?_
  refine V.ild_n C dX5_hasRoom_22 rfl ?_
  refine V.ishl C dX5_hasRoom_23 ?_
  refine V.iand C dX5_hasRoom_24 ?_
  refine V.if_eq C (tgt := 32) dX5_hasRoom_25 (by decide) (fun h25 => ?_) (fun h25 => ?_)
  · skip
    refine V.iconst C (x := 0) dX5_hasRoom_32 (by decide) ?_
    exact V.iret X dX5_hasRoom_33 rfl (by decide) (by decide) (pq (b2_f ((msk_bit (by omega)).mp h25)).symm)
  · skip
    refine V.iconst C (x := 1) dX5_hasRoom_28 (by decide) ?_
    refine V.goto C (tgt := 33) dX5_hasRoom_29 (by decide) ?_
    exact V.iret X dX5_hasRoom_33 rfl (by decide) (by decide) (pq (b2_t (Classical.byContradiction fun q => h25 ((msk_bit (by omega)).mpr q))).symm)
theorem ev_X5_isInRoom {g : GD} {r d t b : Nat} {A : ST} {da ta ba : Nat → Nat} {gr hc : Nat → Int32} {L : List AE} (hX : XR0 r d t b A da ta ba gr hc L) (hI : Inv r d t b A) {i j : Nat} (hi : i < t) (hj : j < r) (hg : gr i = A 13 i) : EvP g mX5_isInRoom [aR 0, aR (ta i), aI (nI j)] L (some (aI (b2 (tIn A i j)))) := by
  refine Ev.of [some (aR 0), some (aR (ta i)), some (aI (nI j))] (by decide) rfl (Nat.le_of_ble_eq_true rfl) fun Z H0 C X => ?_
  have hN := hI.cn
  rcases (hI.ct hi).2.2.1 with hf | ⟨k, hk, hf, -⟩
  · skip
    refine V.ald_n C dX5_isInRoom_0 rfl ?_
    refine V.get C fg_RX5_126 dX5_isInRoom_1 (hX.tt hi) rfl ?_
    refine V.top hf ?_
    refine V.iconst C (x := -1) dX5_isInRoom_4 (by decide) ?_
    refine V.icmp_ne C (tgt := 24) dX5_isInRoom_5 (by decide) (fun h5 => absurd h5 (by decide)) (fun h5 => ?_)
    refine V.ald_n C dX5_isInRoom_8 rfl ?_
    refine V.get C fg_RX5_287 dX5_isInRoom_9 (hX.tt hi) rfl ?_
    refine V.ild_n C dX5_isInRoom_12 rfl ?_
    refine V.icmp_ne C (tgt := 20) dX5_isInRoom_13 (by decide) (fun h13 => ?_) (fun h13 => ?_)
    · skip
      refine V.iconst C (x := 0) dX5_isInRoom_20 (by decide) ?_
      refine V.goto C (tgt := 33) dX5_isInRoom_21 (by decide) ?_
      exact V.iret X dX5_isInRoom_33 rfl (by decide) (by decide) (pq (b2_f (fun q => h13 (hg.trans ((tIn_neg hf).mp q)))).symm)
    · skip
      refine V.iconst C (x := 1) dX5_isInRoom_16 (by decide) ?_
      refine V.goto C (tgt := 33) dX5_isInRoom_17 (by decide) ?_
      exact V.iret X dX5_isInRoom_33 rfl (by decide) (by decide) (pq (b2_t ((tIn_neg hf).mpr (hg.symm.trans h13))).symm)
  · skip
    refine V.ald_n C dX5_isInRoom_0 rfl ?_
    refine V.get C fg_RX5_126 dX5_isInRoom_1 (hX.tt hi) rfl ?_
    refine V.top hf ?_
    refine V.iconst C (x := -1) dX5_isInRoom_4 (by decide) ?_
    refine V.icmp_ne C (tgt := 24) dX5_isInRoom_5 (by decide) (fun h5 => ?_) (fun h5 => absurd h5 (nI_neg (by omega)))
    refine V.ald_n C dX5_isInRoom_24 rfl ?_
    refine V.ald_n C dX5_isInRoom_25 rfl ?_
    refine V.get C fg_RX5_126 dX5_isInRoom_26 (hX.tt hi) rfl ?_
    refine V.top hf ?_
    refine V.ild_n C dX5_isInRoom_29 rfl ?_
    refine V.callVp C mo_X5_hasRoom im_X5_hasRoom se_X5_hasRoom ml_RX5_288 (ev_X5_hasRoom hX hI (by omega) (by omega)) dX5_isInRoom_30 rfl rfl hX.x0 rfl rfl (Nat.le_of_ble_eq_true rfl) (RmOk.mk' (by decide) (by decide) (by decide) (by decide)) ⟨rfl, rfl⟩ ?_
    exact V.iret X dX5_isInRoom_33 (b2_nar _) (by decide) (by decide) (pq (b2_iff (tIn_k hf (by omega)).symm))
theorem ev_X5_isDoorHere {g : GD} {r d t b : Nat} {A : ST} {da ta ba : Nat → Nat} {gr hc : Nat → Int32} {L : List AE} (hX : XR0 r d t b A da ta ba gr hc L) (hI : Inv r d t b A) {w j : Nat} (hw : w < b) (hj : j < d) : EvP g mX5_isDoorHere [aR (ba w), aR (da j)] L (some (aI (b2 (hasD A w j)))) := by
  refine Ev.of [some (aR (ba w)), some (aR (da j))] (by decide) rfl (Nat.le_of_ble_eq_true rfl) fun Z H0 C X => ?_
  have hN := hI.cn
  refine V.ald_n C dX5_isDoorHere_0 rfl ?_
  refine V.ifnull C dX5_isDoorHere_1 ?_
  refine V.ald_n C dX5_isDoorHere_4 rfl ?_
  refine V.ald_n C dX5_isDoorHere_5 rfl ?_
  refine V.get C fg_RX5_191 dX5_isDoorHere_6 (hX.bb hw) rfl ?_
  refine V.callVp C mo_X1_hasSide im_X1_hasSide se_X1_hasSide ml_RX5_246 (ev_X1_hasSide hX hj _) dX5_isDoorHere_9 rfl rfl (hX.dd hj) rfl rfl (Nat.le_of_ble_eq_true rfl) (RmOk.mk' (by decide) (by decide) (by decide) (by decide)) ⟨rfl, rfl⟩ ?_
  refine V.ifb_eq C (tgt := 26) dX5_isDoorHere_12 (by decide) (fun h12 => ?_) (fun h12 => ?_)
  · skip
    refine V.iconst C (x := 0) dX5_isDoorHere_26 (by decide) ?_
    exact V.iret X dX5_isDoorHere_27 rfl (by decide) (by decide) (pq (b2_f (fun q => h12 q.2)).symm)
  · skip
    refine V.ald_n C dX5_isDoorHere_15 rfl ?_
    refine V.callSp C mo_X5_isShutIn sm_X5_isShutIn ml_RX5_275 (ev_X5_isShutIn hX hI hw) dX5_isDoorHere_16 rfl rfl (Nat.le_of_ble_eq_true rfl) (RmOk.mk' (by decide) (by decide) (by decide) (by decide)) ⟨rfl, rfl⟩ ?_
    refine V.ifb_ne C (tgt := 26) dX5_isDoorHere_19 (by decide) (fun h19 => ?_) (fun h19 => ?_)
    · skip
      refine V.iconst C (x := 0) dX5_isDoorHere_26 (by decide) ?_
      exact V.iret X dX5_isDoorHere_27 rfl (by decide) (by decide) (pq (b2_f (fun q => q.1 h19)).symm)
    · skip
      refine V.iconst C (x := 1) dX5_isDoorHere_22 (by decide) ?_
      refine V.goto C (tgt := 27) dX5_isDoorHere_23 (by decide) ?_
      exact V.iret X dX5_isDoorHere_27 rfl (by decide) (by decide) (pq (b2_t ⟨h19, h12⟩).symm)
theorem ev_X5_isDoorHere_n {g : GD} {r d t b : Nat} {A : ST} {da ta ba : Nat → Nat} {gr hc : Nat → Int32} {L : List AE} (hX : XR0 r d t b A da ta ba gr hc L) (hI : Inv r d t b A) {w : Nat} (hw : w < b) : EvP g mX5_isDoorHere [aR (ba w), aN] L (some (aI 0)) := by
  refine Ev.of [some (aR (ba w)), some (aN)] (by decide) rfl (Nat.le_of_ble_eq_true rfl) fun Z H0 C X => ?_
  refine V.ald_n C dX5_isDoorHere_0 rfl ?_
  refine V.ifnullN C (tgt := 26) dX5_isDoorHere_1 (by decide) ?_
  refine V.iconst C (x := 0) dX5_isDoorHere_26 (by decide) ?_
  exact V.iret X dX5_isDoorHere_27 rfl (by decide) (by decide) ⟨rfl, rfl⟩
theorem notHeld {r d t b : Nat} {A : ST} (hI : Inv r d t b A) {w i v : Nat} (hw : w < b) (hi : i < t) (hv : v < b) (hpl : A 13 i = nI (100 + v)) (hs0 : A 11 i = 0) (hf0 : A 14 i = -1) (hne : v ≠ w) : ¬ hasT A w i := by
  have hN := hI.cn
  rintro (⟨-, h⟩ | ⟨-, h⟩ | ⟨-, h⟩)
  · have := nI_inj (by omega) (by omega) (hpl.symm.trans h); omega
  · rcases (hI.cb hw).2.1 with hw1 | ⟨k, hk, hw1, hk2⟩
    · exact nI_neg (show i < 2 ^ 31 by omega) (h.symm.trans hw1)
    · have := nI_inj (by omega) (by omega) (hw1.symm.trans h)
      subst this
      rcases hk2 with q | q <;> rw [hs0] at q <;> exact absurd q (by decide)
  · obtain ⟨a, hal, ha⟩ := (hI.cb hw).1
    rw [ha, nI_clamp (by omega), tIn_neg hf0, hpl] at h
    have := nI_inj (by omega) (by omega) h
    omega
theorem ev_X5_isThingHere {g : GD} {r d t b : Nat} {A : ST} {da ta ba : Nat → Nat} {gr hc : Nat → Int32} {L : List AE} (hX : XR0 r d t b A da ta ba gr hc L) (hI : Inv r d t b A) (hR : Rl t b A gr hc) {w i : Nat} (hw : w < b) (hi : i < t) : EvP g mX5_isThingHere [aR 0, aR (ba w), aR (ta i)] L (some (aI (b2 (hasT A w i)))) := by
  refine Ev.of [some (aR 0), some (aR (ba w)), some (aR (ta i))] (by decide) rfl (Nat.le_of_ble_eq_true rfl) fun Z H0 C X => ?_
  have hN := hI.cn
  obtain ⟨a, hal, ha⟩ := (hI.cb hw).1
  rcases (hI.ct hi).2.1 with ⟨p, hp, hpl⟩ | ⟨v, hv, hpl, hs0, hf0⟩
  · skip
    refine V.ald_n C dX5_isThingHere_0 rfl ?_
    refine V.ifnonnull C (tgt := 6) dX5_isThingHere_1 (by decide) ?_
    refine V.ald_n C dX5_isThingHere_6 rfl ?_
    refine V.get C fg_RX5_279 dX5_isThingHere_7 (hX.tt hi) rfl ?_
    refine V.topO (href_r hpl (by omega)) ?_
    refine V.ifnullN C (tgt := 27) dX5_isThingHere_10 (by decide) ?_
    have hg := hR.g hi hpl (by omega)
    refine V.ald_n C dX5_isThingHere_27 rfl ?_
    refine V.callSp C mo_X5_isShutIn sm_X5_isShutIn ml_RX5_275 (ev_X5_isShutIn hX hI hw) dX5_isThingHere_28 rfl rfl (Nat.le_of_ble_eq_true rfl) (RmOk.mk' (by decide) (by decide) (by decide) (by decide)) ⟨rfl, rfl⟩ ?_
    refine V.ifb_eq C (tgt := 50) dX5_isThingHere_31 (by decide) (fun h31 => ?_) (fun h31 => ?_)
    · skip
      refine V.ald_n C dX5_isThingHere_50 rfl ?_
      refine V.ald_n C dX5_isThingHere_51 rfl ?_
      refine V.ald_n C dX5_isThingHere_52 rfl ?_
      refine V.get C fg_RX5_191 dX5_isThingHere_53 (hX.bb hw) rfl ?_
      refine V.top ha ?_
      refine V.callVp C mo_X5_isInRoom im_X5_isInRoom se_X5_isInRoom ml_RX5_283 (ev_X5_isInRoom hX hI hi (by omega) hg) dX5_isThingHere_56 rfl rfl hX.x0 rfl rfl (Nat.le_of_ble_eq_true rfl) (RmOk.mk' (by decide) (by decide) (by decide) (by decide)) ⟨rfl, rfl⟩ ?_
      exact V.iret X dX5_isThingHere_59 (b2_nar _) (by decide) (by decide) (pq (b2_iff ⟨fun q => Or.inr (Or.inr ⟨h31, by rw [ha, nI_clamp (show a < 2 ^ 31 by omega)]; exact q⟩), fun q => q.elim (fun z => absurd z (fun z => by have := nI_inj (by omega) (by omega) (hpl.symm.trans z.2); omega)) (fun z => z.elim (fun y => absurd y.1 h31) (fun y => by have y2 := y.2; rw [ha, nI_clamp (show a < 2 ^ 31 by omega)] at y2; exact y2))⟩))
    · skip
      rcases (hI.cb hw).2.1 with hw1 | ⟨k, hk, hw1, hk2⟩
      · skip
        refine V.ald_n C dX5_isThingHere_34 rfl ?_
        exact absurd h31 (shIn_neg hw1)
      · skip
        refine V.ald_n C dX5_isThingHere_34 rfl ?_
        refine V.ald_n C dX5_isThingHere_35 rfl ?_
        refine V.get C fg_RX5_170 dX5_isThingHere_36 (hX.bb hw) rfl ?_
        refine V.topO (wref_k hw1 (by omega)) ?_
        refine V.acmp_ne C (tgt := 46) dX5_isThingHere_39 (by decide) (fun h39 => ?_) (fun h39 => ?_)
        · skip
          refine V.iconst C (x := 0) dX5_isThingHere_46 (by decide) ?_
          refine V.goto C (tgt := 59) dX5_isThingHere_47 (by decide) ?_
          exact V.iret X dX5_isThingHere_59 rfl (by decide) (by decide) (pq (b2_f (fun q => q.elim (fun z => by have := nI_inj (by omega) (by omega) (hpl.symm.trans z.2); omega) (fun z => z.elim (fun y => h39 (by have := nI_inj (by omega) (by omega) (hw1.symm.trans y.2); rw [this])) (fun y => y.1 h31)))).symm)
        · skip
          refine V.iconst C (x := 1) dX5_isThingHere_42 (by decide) ?_
          refine V.goto C (tgt := 59) dX5_isThingHere_43 (by decide) ?_
          exact V.iret X dX5_isThingHere_59 rfl (by decide) (by decide) (pq (b2_t (Or.inr (Or.inl ⟨h31, by rw [hw1, hX.ti hi hk (Option.some.inj h39)]⟩))).symm)
  · skip
    refine V.ald_n C dX5_isThingHere_0 rfl ?_
    refine V.ifnonnull C (tgt := 6) dX5_isThingHere_1 (by decide) ?_
    refine V.ald_n C dX5_isThingHere_6 rfl ?_
    refine V.get C fg_RX5_279 dX5_isThingHere_7 (hX.tt hi) rfl ?_
    refine V.topO (href_w hpl (by omega)) ?_
    refine V.ifnull C dX5_isThingHere_10 ?_
    refine V.ald_n C dX5_isThingHere_13 rfl ?_
    refine V.get C fg_RX5_279 dX5_isThingHere_14 (hX.tt hi) rfl ?_
    refine V.topO (href_w hpl (by omega)) ?_
    refine V.ald_n C dX5_isThingHere_17 rfl ?_
    refine V.acmp_ne C (tgt := 25) dX5_isThingHere_18 (by decide) (fun h18 => ?_) (fun h18 => ?_)
    · skip
      refine V.iconst C (x := 0) dX5_isThingHere_25 (by decide) ?_
      exact V.iret X dX5_isThingHere_26 rfl (by decide) (by decide) (pq (b2_f (fun q => notHeld hI hw hi hv hpl hs0 hf0 (fun e => h18 (by rw [e])) q)).symm)
    · skip
      refine V.iconst C (x := 1) dX5_isThingHere_21 (by decide) ?_
      refine V.goto C (tgt := 26) dX5_isThingHere_22 (by decide) ?_
      exact V.iret X dX5_isThingHere_26 rfl (by decide) (by decide) (pq (b2_t (Or.inl ⟨hf0, by rw [hpl, hX.bi hv hw (Option.some.inj h18)]⟩)).symm)
theorem ev_X5_isThingHere_n {g : GD} {r d t b : Nat} {A : ST} {da ta ba : Nat → Nat} {gr hc : Nat → Int32} {L : List AE} (hX : XR0 r d t b A da ta ba gr hc L) (hI : Inv r d t b A) {w : Nat} (hw : w < b) : EvP g mX5_isThingHere [aR 0, aR (ba w), aN] L (some (aI 0)) := by
  refine Ev.of [some (aR 0), some (aR (ba w)), some (aN)] (by decide) rfl (Nat.le_of_ble_eq_true rfl) fun Z H0 C X => ?_
  refine V.ald_n C dX5_isThingHere_0 rfl ?_
  refine V.ifnonnullN C dX5_isThingHere_1 ?_
  refine V.iconst C (x := 0) dX5_isThingHere_4 (by decide) ?_
  exact V.iret X dX5_isThingHere_5 rfl (by decide) (by decide) ⟨rfl, rfl⟩
theorem ev_X5_isBeingHere {g : GD} {r d t b : Nat} {A : ST} {da ta ba : Nat → Nat} {gr hc : Nat → Int32} {L : List AE} (hX : XR0 r d t b A da ta ba gr hc L) (hI : Inv r d t b A) {w v : Nat} (hw : w < b) (hv : v < b) : EvP g mX5_isBeingHere [aR (ba w), aR (ba v)] L (some (aI (b2 ((shIn A w ∧ A 18 v = A 18 w) ∨ (¬ shIn A w ∧ A 17 v = A 17 w))))) := by
  refine Ev.of [some (aR (ba w)), some (aR (ba v))] (by decide) rfl (Nat.le_of_ble_eq_true rfl) fun Z H0 C X => ?_
  have hN := hI.cn
  refine V.ald_n C dX5_isBeingHere_0 rfl ?_
  refine V.ifnonnull C (tgt := 6) dX5_isBeingHere_1 (by decide) ?_
  refine V.ald_n C dX5_isBeingHere_6 rfl ?_
  refine V.callSp C mo_X5_isShutIn sm_X5_isShutIn ml_RX5_275 (ev_X5_isShutIn hX hI hw) dX5_isBeingHere_7 rfl rfl (Nat.le_of_ble_eq_true rfl) (RmOk.mk' (by decide) (by decide) (by decide) (by decide)) ⟨rfl, rfl⟩ ?_
  refine V.ifb_eq C (tgt := 32) dX5_isBeingHere_10 (by decide) (fun h10 => ?_) (fun h10 => ?_)
  · skip
    refine V.ald_n C dX5_isBeingHere_32 rfl ?_
    refine V.get C fg_RX5_191 dX5_isBeingHere_33 (hX.bb hv) rfl ?_
    refine V.ald_n C dX5_isBeingHere_36 rfl ?_
    refine V.get C fg_RX5_191 dX5_isBeingHere_37 (hX.bb hw) rfl ?_
    refine V.icmp_ne C (tgt := 47) dX5_isBeingHere_40 (by decide) (fun h40 => ?_) (fun h40 => ?_)
    · skip
      refine V.iconst C (x := 0) dX5_isBeingHere_47 (by decide) ?_
      exact V.iret X dX5_isBeingHere_48 rfl (by decide) (by decide) (pq (b2_f (fun q => q.elim (fun z => h10 z.1) (fun z => h40 z.2))).symm)
    · skip
      refine V.iconst C (x := 1) dX5_isBeingHere_43 (by decide) ?_
      refine V.goto C (tgt := 48) dX5_isBeingHere_44 (by decide) ?_
      exact V.iret X dX5_isBeingHere_48 rfl (by decide) (by decide) (pq (b2_t (Or.inr ⟨h10, h40⟩)).symm)
  · skip
    rcases (hI.cb hw).2.1 with hw1 | ⟨k, hk, hw1, hk2⟩
    · skip
      refine V.ald_n C dX5_isBeingHere_13 rfl ?_
      exact absurd h10 (shIn_neg hw1)
      
    · skip
      rcases (hI.cb hv).2.1 with hv1 | ⟨l, hl, hv1, -⟩
      · skip
        refine V.ald_n C dX5_isBeingHere_13 rfl ?_
        refine V.get C fg_RX5_170 dX5_isBeingHere_14 (hX.bb hv) rfl ?_
        refine V.topO (wref_neg hv1) ?_
        refine V.ald_n C dX5_isBeingHere_17 rfl ?_
        refine V.get C fg_RX5_170 dX5_isBeingHere_18 (hX.bb hw) rfl ?_
        refine V.topO (wref_k hw1 (by omega)) ?_
        refine V.acmp_ne C (tgt := 28) dX5_isBeingHere_21 (by decide) (fun h21 => ?_) (fun h21 => absurd h21 (by simp))
        refine V.iconst C (x := 0) dX5_isBeingHere_28 (by decide) ?_
        refine V.goto C (tgt := 48) dX5_isBeingHere_29 (by decide) ?_
        exact V.iret X dX5_isBeingHere_48 rfl (by decide) (by decide) (pq (b2_f (fun q => q.elim (fun z => nI_neg (show k < 2 ^ 31 by omega) (hw1.symm.trans (z.2.symm.trans hv1))) (fun z => z.1 h10))).symm)
      · skip
        refine V.ald_n C dX5_isBeingHere_13 rfl ?_
        refine V.get C fg_RX5_170 dX5_isBeingHere_14 (hX.bb hv) rfl ?_
        refine V.topO (wref_k hv1 (by omega)) ?_
        refine V.ald_n C dX5_isBeingHere_17 rfl ?_
        refine V.get C fg_RX5_170 dX5_isBeingHere_18 (hX.bb hw) rfl ?_
        refine V.topO (wref_k hw1 (by omega)) ?_
        refine V.acmp_ne C (tgt := 28) dX5_isBeingHere_21 (by decide) (fun h21 => ?_) (fun h21 => ?_)
        · skip
          refine V.iconst C (x := 0) dX5_isBeingHere_28 (by decide) ?_
          refine V.goto C (tgt := 48) dX5_isBeingHere_29 (by decide) ?_
          exact V.iret X dX5_isBeingHere_48 rfl (by decide) (by decide) (pq (b2_f (fun q => q.elim (fun z => h21 (by have := nI_inj (by omega) (by omega) (hv1.symm.trans (z.2.trans hw1)); rw [this])) (fun z => z.1 h10))).symm)
        · skip
          refine V.iconst C (x := 1) dX5_isBeingHere_24 (by decide) ?_
          refine V.goto C (tgt := 48) dX5_isBeingHere_25 (by decide) ?_
          exact V.iret X dX5_isBeingHere_48 rfl (by decide) (by decide) (pq (b2_t (Or.inl ⟨h10, by rw [hv1, hw1, hX.ti hl hk (Option.some.inj h21)]⟩)).symm)
theorem ev_X5_isBeingHere_n {g : GD} {r d t b : Nat} {A : ST} {da ta ba : Nat → Nat} {gr hc : Nat → Int32} {L : List AE} (hX : XR0 r d t b A da ta ba gr hc L) (hI : Inv r d t b A) {w : Nat} (hw : w < b) : EvP g mX5_isBeingHere [aR (ba w), aN] L (some (aI 0)) := by
  refine Ev.of [some (aR (ba w)), some (aN)] (by decide) rfl (Nat.le_of_ble_eq_true rfl) fun Z H0 C X => ?_
  refine V.ald_n C dX5_isBeingHere_0 rfl ?_
  refine V.ifnonnullN C dX5_isBeingHere_1 ?_
  refine V.iconst C (x := 0) dX5_isBeingHere_4 (by decide) ?_
  exact V.iret X dX5_isBeingHere_5 rfl (by decide) (by decide) ⟨rfl, rfl⟩
theorem ev_X5_leastRoomOf {g : GD} {r d t b : Nat} {A : ST} {da ta ba : Nat → Nat} {gr hc : Nat → Int32} {L : List AE} (hX : XR0 r d t b A da ta ba gr hc L) (hI : Inv r d t b A) {i : Nat} (hi : i < 7) : EvP g mX5_leastRoomOf [aR 0, aI (nI i)] L (some (aI (fnd (fun x => A 25 (20 * i + x) = 1) (-1) r 0))) := by
  refine Ev.of [some (aR 0), some (aI (nI i)), none] (by decide) rfl (Nat.le_of_ble_eq_true rfl) fun Z H0 C X => ?_
  have hN := hI.cn
  refine V.iconst C (x := 0) dX5_leastRoomOf_0 (by decide) ?_
  refine V.ist_n C dX5_leastRoomOf_1 (Nat.le_of_ble_eq_true rfl) rfl ?_
  have key2 : ∀ (n : Nat) (x : Nat), x ≤ r → r - x < n → fnd (fun x => A 25 (20 * i + x) = 1) (-1) r 0 = fnd (fun x => A 25 (20 * i + x) = 1) (-1) (r - x) x → V g Z H0 3 L 0 0 2 [some (aR 0), some (aI (nI i)), some (aI (nI x))] [] := by
    intro n
    induction n with
    | zero => intro x h1 h2; exact absurd h2 (by omega)
    | succ n ih =>
      intro x h1 h2 hf
      refine V.ild_n C dX5_leastRoomOf_2 rfl ?_
      refine V.ald_n C dX5_leastRoomOf_3 rfl ?_
      refine V.get C fg_RX5_57 dX5_leastRoomOf_4 hX.x0 rfl ?_
      refine V.icmpN_ge C (x) (r) (tgt := 27) dX5_leastRoomOf_7 (by decide) (by omega) (by omega) (fun h7 => ?_) (fun h7 => ?_)
      · skip
        refine V.iconst C (x := -1) dX5_leastRoomOf_27 (by decide) ?_
        exact V.iret X dX5_leastRoomOf_28 rfl (by decide) (by decide) (pq (by rw [hf, show r - x = 0 by omega]; rfl))
      · skip
        refine V.ald_n C dX5_leastRoomOf_10 rfl ?_
        refine V.ild_n C dX5_leastRoomOf_11 rfl ?_
        refine V.ild_n C dX5_leastRoomOf_12 rfl ?_
        refine V.callVp C mo_X5_hasRoom im_X5_hasRoom se_X5_hasRoom ml_RX5_288 (ev_X5_hasRoom hX hI (by omega) (by omega)) dX5_leastRoomOf_13 rfl rfl hX.x0 rfl rfl (Nat.le_of_ble_eq_true rfl) (RmOk.mk' (by decide) (by decide) (by decide) (by decide)) ⟨rfl, rfl⟩ ?_
        refine V.ifb_eq C (tgt := 21) dX5_leastRoomOf_16 (by decide) (fun h16 => ?_) (fun h16 => ?_)
        · skip
          refine V.iinc C (y := nI (x + 1)) dX5_leastRoomOf_21 rfl (nI_1 x) rfl ?_
          refine V.goto C (tgt := 2) dX5_leastRoomOf_24 (by decide) ?_
          exact ih (x + 1) (by omega) (by omega) (by rw [hf, show r - x = (r - (x + 1)) + 1 by omega, fnd_f (P := (fun x => A 25 (20 * i + x) = 1)) h16])
        · skip
          refine V.ild_n C dX5_leastRoomOf_19 rfl ?_
          exact V.iret X dX5_leastRoomOf_20 rfl (by decide) (by decide) (pq (by rw [hf, show r - x = (r - (x + 1)) + 1 by omega, fnd_t (P := (fun x => A 25 (20 * i + x) = 1)) h16]))
  exact key2 (r + 1) 0 (by omega) (by omega) rfl
theorem fnd_cI {P : Nat → Prop} {n i : Nat} (h : i + n < 2 ^ 31) : cI (fnd P (-1) n i = -1) (-3) (fnd P (-1) n i) = fnd P (-3) n i := by
  induction n generalizing i with
  | zero => exact cI_t rfl
  | succ n ih =>
    by_cases hp : P i
    · rw [fnd_t hp, fnd_t hp, cI_f (nI_neg (by omega))]
    · rw [fnd_f hp, fnd_f hp]
      exact ih (by omega)
theorem lsO_r {r d t b : Nat} {A : ST} (hI : Inv r d t b A) {i : Nat} (hi : i < 7) : cI (fnd (fun x => A 25 (20 * i + x) = 1) (-1) r 0 = -1) (-3) (fnd (fun x => A 25 (20 * i + x) = 1) (-1) r 0) = lsO A i := by
  have hN := hI.cn
  rw [fnd_cI (by omega)]
  unfold lsO
  have h := fnd_short (P := fun x => A 25 (20 * i + x) = 1) (e := -3) (n := r) (m := 20 - r) (i := 0) (fun j h1 h2 q => by
    rcases hI.cg hi (show j < 20 by omega) with z | ⟨-, z⟩
    · rw [z] at q; exact absurd q (by decide)
    · omega)
  rw [show r + (20 - r) = 20 by omega] at h
  exact h.symm
theorem ev_X5_placeOfThing {g : GD} {r d t b : Nat} {A : ST} {da ta ba : Nat → Nat} {gr hc : Nat → Int32} {L : List AE} (hX : XR0 r d t b A da ta ba gr hc L) (hI : Inv r d t b A) (hR : Rl t b A gr hc) {i : Nat} (hi : i < t) : EvP g mX5_placeOfThing [aR 0, aR (ta i)] L (some (aI (cI (A 14 i = -1) (A 13 i) (lsO A (A 14 i).toNatClampNeg)))) := by
  refine Ev.of [some (aR 0), some (aR (ta i))] (by decide) rfl (Nat.le_of_ble_eq_true rfl) fun Z H0 C X => ?_
  have hN := hI.cn
  rcases (hI.ct hi).2.1 with ⟨p, hp, hpl⟩ | ⟨v, hv, hpl, hs0, hf0⟩
  · skip
    refine V.ald_n C dX5_placeOfThing_0 rfl ?_
    refine V.get C fg_RX5_279 dX5_placeOfThing_1 (hX.tt hi) rfl ?_
    refine V.topO (href_r hpl (by omega)) ?_
    refine V.ifnullN C (tgt := 18) dX5_placeOfThing_4 (by decide) ?_
    rcases (hI.ct hi).2.2.1 with hf | ⟨k, hk, hf, -⟩
    · skip
      refine V.ald_n C dX5_placeOfThing_18 rfl ?_
      refine V.get C fg_RX5_126 dX5_placeOfThing_19 (hX.tt hi) rfl ?_
      refine V.top hf ?_
      refine V.iconst C (x := -1) dX5_placeOfThing_22 (by decide) ?_
      refine V.icmp_ne C (tgt := 33) dX5_placeOfThing_23 (by decide) (fun h23 => absurd h23 (by decide)) (fun h23 => ?_)
      refine V.ald_n C dX5_placeOfThing_26 rfl ?_
      refine V.get C fg_RX5_287 dX5_placeOfThing_27 (hX.tt hi) rfl ?_
      refine V.goto C (tgt := 44) dX5_placeOfThing_30 (by decide) ?_
      exact V.iret X dX5_placeOfThing_44 rfl (by decide) (by decide) (pq (by rw [cI_t hf, hR.g hi hpl (by omega)]))
    · skip
      refine V.ald_n C dX5_placeOfThing_18 rfl ?_
      refine V.get C fg_RX5_126 dX5_placeOfThing_19 (hX.tt hi) rfl ?_
      refine V.top hf ?_
      refine V.iconst C (x := -1) dX5_placeOfThing_22 (by decide) ?_
      refine V.icmp_ne C (tgt := 33) dX5_placeOfThing_23 (by decide) (fun h23 => ?_) (fun h23 => absurd h23 (nI_neg (by omega)))
      refine V.ald_n C dX5_placeOfThing_33 rfl ?_
      refine V.ald_n C dX5_placeOfThing_34 rfl ?_
      refine V.get C fg_RX5_126 dX5_placeOfThing_35 (hX.tt hi) rfl ?_
      refine V.top hf ?_
      refine V.callVp C mo_X5_leastRoomOf im_X5_leastRoomOf se_X5_leastRoomOf ml_RX5_292 (ev_X5_leastRoomOf hX hI (by omega)) dX5_placeOfThing_38 rfl rfl hX.x0 rfl rfl (Nat.le_of_ble_eq_true rfl) (RmOk.mk' (by decide) (by decide) (by decide) (by decide)) ⟨rfl, rfl⟩ ?_
      refine V.callSp C mo_X5_orNoSuch sm_X5_orNoSuch ml_RX5_220 (ev_X5_orNoSuch _) dX5_placeOfThing_41 rfl rfl (Nat.le_of_ble_eq_true rfl) (RmOk.mk' (by decide) (by decide) (by decide) (by decide)) ⟨rfl, rfl⟩ ?_
      exact V.iret X dX5_placeOfThing_44 rfl (by decide) (by decide) (pq (by rw [cI_f (fun q => nI_neg (show k < 2 ^ 31 by omega) (hf.symm.trans q)), hf, nI_clamp (show k < 2 ^ 31 by omega), lsO_r hI hk]))
  · skip
    refine V.ald_n C dX5_placeOfThing_0 rfl ?_
    refine V.get C fg_RX5_279 dX5_placeOfThing_1 (hX.tt hi) rfl ?_
    refine V.topO (href_w hpl (by omega)) ?_
    refine V.ifnull C dX5_placeOfThing_4 ?_
    refine V.bipush C (x := 100) dX5_placeOfThing_7 (by decide) ?_
    refine V.ald_n C dX5_placeOfThing_9 rfl ?_
    refine V.get C fg_RX5_279 dX5_placeOfThing_10 (hX.tt hi) rfl ?_
    refine V.topO (href_w hpl (by omega)) ?_
    refine V.get C fg_RX5_291 dX5_placeOfThing_13 (hX.bb hv) rfl ?_
    refine V.iadd C dX5_placeOfThing_16 ?_
    refine V.top (nI_add 100 v) ?_
    exact V.iret X dX5_placeOfThing_17 rfl (by decide) (by decide) (pq (by rw [cI_t hf0, hpl]))
theorem ev_X5_countWays4 {g : GD} {r d t b : Nat} {A : ST} {da ta ba : Nat → Nat} {gr hc : Nat → Int32} {L : List AE} (hX : XR0 r d t b A da ta ba gr hc L) (hI : Inv r d t b A) : EvP g mX5_countWays [aR 0, aI 0] L (some (aI (nI (cnt (cw4 A) (8 * r))))) := by
  refine Ev.of [some (aR 0), some (aI 0), none, none, none, none] (by decide) rfl (Nat.le_of_ble_eq_true rfl) fun Z H0 C X => ?_
  have hN := hI.cn
  have key : ∀ (n i : Nat) (o4 o5 : Option AV), i ≤ r → r - i < n → V g Z H0 6 L 0 0 4 [some (aR 0), some (aI 0), some (aI (nI (cnt (cw4 A) (8 * i)))), some (aI (nI i)), o4, o5] [] := by
    intro n
    induction n with
    | zero => intro i o4 o5 h1 h2; exact absurd h2 (by omega)
    | succ n ih1 =>
      intro i o4 o5 h1 h2
      refine V.ild_n C dX5_countWays_4 rfl ?_
      refine V.ald_n C dX5_countWays_5 rfl ?_
      refine V.get C fg_RX5_57 dX5_countWays_6 hX.x0 rfl ?_
      refine V.icmpN_ge C (i) (r) (tgt := 75) dX5_countWays_9 (by decide) (by omega) (by omega) (fun h9 => ?_) (fun h9 => ?_)
      · skip
        refine V.ild_n C dX5_countWays_75 rfl ?_
        exact V.iret X dX5_countWays_76 rfl (by decide) (by decide) (pq (by rw [show i = r by omega]))
      · skip
        refine V.iconst C (x := 0) dX5_countWays_12 (by decide) ?_
        refine V.ist C dX5_countWays_13 (Nat.le_of_ble_eq_true rfl) rfl ?_
        have key2 : ∀ (n j : Nat) (o5 : Option AV), j ≤ 8 → 8 - j < n → V g Z H0 6 L 0 0 15 [some (aR 0), some (aI 0), some (aI (nI (cnt (cw4 A) (8 * i + j)))), some (aI (nI i)), some (aI (nI j)), o5] [] := by
          intro n
          induction n with
          | zero => intro j o5 h1 h2; exact absurd h2 (by omega)
          | succ n ih =>
            intro j o5 h1 h2
            refine V.ild C dX5_countWays_15 rfl ?_
            refine V.bipush C (x := 8) dX5_countWays_17 (by decide) ?_
            refine V.icmpN_ge C (j) (8) (tgt := 69) dX5_countWays_19 (by decide) (by omega) (by omega) (fun h19 => ?_) (fun h19 => ?_)
            · skip
              obtain rfl : j = 8 := by omega
              refine V.iinc C (y := nI (i + 1)) dX5_countWays_69 rfl (nI_1 i) rfl ?_
              refine V.goto C (tgt := 4) dX5_countWays_72 (by decide) ?_
              exact ih1 (i + 1) _ _ (by omega) (by omega)
            · skip
              refine V.ild_n C dX5_countWays_22 rfl ?_
              refine V.if_eq C (tgt := 36) dX5_countWays_23 (by decide) (fun h23 => ?_) (fun h23 => absurd h23 (by decide))
              refine V.ald_n C dX5_countWays_36 rfl ?_
              refine V.get C fg_RX5_9 dX5_countWays_37 hX.x0 rfl ?_
              refine V.ild_n C dX5_countWays_40 rfl ?_
              refine V.ild C dX5_countWays_41 rfl ?_
              refine V.callSp C mo_X5_placeOf sm_X5_placeOf ml_RX5_78 (ev_X5_placeOf _ _) dX5_countWays_43 rfl rfl (Nat.le_of_ble_eq_true rfl) (RmOk.mk' (by decide) (by decide) (by decide) (by decide)) ⟨rfl, rfl⟩ ?_
              refine V.ialdN C (N := 160) dX5_countWays_46 hX.x1 (by omega) (by decide) ?_
              refine V.top (xw_in (show i < r by omega) (show j < 8 by omega)) ?_
              refine V.ist C dX5_countWays_47 (Nat.le_of_ble_eq_true rfl) rfl ?_
              refine V.ild_n C dX5_countWays_49 rfl ?_
              refine V.ild C dX5_countWays_50 rfl ?_
              refine V.iconst C (x := -1) dX5_countWays_52 (by decide) ?_
              refine V.icmp_ne C (tgt := 60) dX5_countWays_53 (by decide) (fun h53 => ?_) (fun h53 => ?_)
              · skip
                refine V.iconst C (x := 1) dX5_countWays_60 (by decide) ?_
                refine V.iadd C dX5_countWays_61 ?_
                refine V.top (cnt_t (P := (cw4 A)) (i := 8 * i + j) h53) ?_
                refine V.ist_n C dX5_countWays_62 (Nat.le_of_ble_eq_true rfl) rfl ?_
                refine V.iinc C (y := nI (j + 1)) dX5_countWays_63 rfl (nI_1 j) rfl ?_
                refine V.goto C (tgt := 15) dX5_countWays_66 (by decide) ?_
                exact ih (j + 1) _ (by omega) (by omega)
              · skip
                refine V.iconst C (x := 0) dX5_countWays_56 (by decide) ?_
                refine V.goto C (tgt := 61) dX5_countWays_57 (by decide) ?_
                refine V.iadd C dX5_countWays_61 ?_
                refine V.top (cnt_f (P := (cw4 A)) (i := 8 * i + j) (fun q => q h53)) ?_
                refine V.ist_n C dX5_countWays_62 (Nat.le_of_ble_eq_true rfl) rfl ?_
                refine V.iinc C (y := nI (j + 1)) dX5_countWays_63 rfl (nI_1 j) rfl ?_
                refine V.goto C (tgt := 15) dX5_countWays_66 (by decide) ?_
                exact ih (j + 1) _ (by omega) (by omega)
        exact key2 9 0 _ (by omega) (by omega)
  refine V.iconst C (x := 0) dX5_countWays_0 (by decide) ?_
  refine V.ist_n C dX5_countWays_1 (Nat.le_of_ble_eq_true rfl) rfl ?_
  refine V.iconst C (x := 0) dX5_countWays_2 (by decide) ?_
  refine V.ist_n C dX5_countWays_3 (Nat.le_of_ble_eq_true rfl) rfl ?_
  exact key (r + 1) 0 _ _ (by omega) (by omega)
theorem ev_X5_countWays5 {g : GD} {r d t b : Nat} {A : ST} {da ta ba : Nat → Nat} {gr hc : Nat → Int32} {L : List AE} (hX : XR0 r d t b A da ta ba gr hc L) (hI : Inv r d t b A) : EvP g mX5_countWays [aR 0, aI 1] L (some (aI (nI (cnt (cw5 A) (8 * r))))) := by
  refine Ev.of [some (aR 0), some (aI 1), none, none, none, none] (by decide) rfl (Nat.le_of_ble_eq_true rfl) fun Z H0 C X => ?_
  have hN := hI.cn
  have key : ∀ (n i : Nat) (o4 o5 : Option AV), i ≤ r → r - i < n → V g Z H0 6 L 0 0 4 [some (aR 0), some (aI 1), some (aI (nI (cnt (cw5 A) (8 * i)))), some (aI (nI i)), o4, o5] [] := by
    intro n
    induction n with
    | zero => intro i o4 o5 h1 h2; exact absurd h2 (by omega)
    | succ n ih1 =>
      intro i o4 o5 h1 h2
      refine V.ild_n C dX5_countWays_4 rfl ?_
      refine V.ald_n C dX5_countWays_5 rfl ?_
      refine V.get C fg_RX5_57 dX5_countWays_6 hX.x0 rfl ?_
      refine V.icmpN_ge C (i) (r) (tgt := 75) dX5_countWays_9 (by decide) (by omega) (by omega) (fun h9 => ?_) (fun h9 => ?_)
      · skip
        refine V.ild_n C dX5_countWays_75 rfl ?_
        exact V.iret X dX5_countWays_76 rfl (by decide) (by decide) (pq (by rw [show i = r by omega]))
      · skip
        refine V.iconst C (x := 0) dX5_countWays_12 (by decide) ?_
        refine V.ist C dX5_countWays_13 (Nat.le_of_ble_eq_true rfl) rfl ?_
        have key2 : ∀ (n j : Nat) (o5 : Option AV), j ≤ 8 → 8 - j < n → V g Z H0 6 L 0 0 15 [some (aR 0), some (aI 1), some (aI (nI (cnt (cw5 A) (8 * i + j)))), some (aI (nI i)), some (aI (nI j)), o5] [] := by
          intro n
          induction n with
          | zero => intro j o5 h1 h2; exact absurd h2 (by omega)
          | succ n ih =>
            intro j o5 h1 h2
            refine V.ild C dX5_countWays_15 rfl ?_
            refine V.bipush C (x := 8) dX5_countWays_17 (by decide) ?_
            refine V.icmpN_ge C (j) (8) (tgt := 69) dX5_countWays_19 (by decide) (by omega) (by omega) (fun h19 => ?_) (fun h19 => ?_)
            · skip
              obtain rfl : j = 8 := by omega
              refine V.iinc C (y := nI (i + 1)) dX5_countWays_69 rfl (nI_1 i) rfl ?_
              refine V.goto C (tgt := 4) dX5_countWays_72 (by decide) ?_
              exact ih1 (i + 1) _ _ (by omega) (by omega)
            · skip
              refine V.ild_n C dX5_countWays_22 rfl ?_
              refine V.if_eq C (tgt := 36) dX5_countWays_23 (by decide) (fun h23 => absurd h23 (by decide)) (fun h23 => ?_)
              refine V.ald_n C dX5_countWays_26 rfl ?_
              refine V.ild_n C dX5_countWays_27 rfl ?_
              refine V.ild C dX5_countWays_28 rfl ?_
              refine V.callVp C mo_X5_leadsTo im_X5_leadsTo se_X5_leadsTo ml_RX5_204 (ev_X5_leadsTo hX hI (by omega) (by omega)) dX5_countWays_30 rfl rfl hX.x0 rfl rfl (Nat.le_of_ble_eq_true rfl) (RmOk.mk' (by decide) (by decide) (by decide) (by decide)) ⟨rfl, rfl⟩ ?_
              refine V.goto C (tgt := 47) dX5_countWays_33 (by decide) ?_
              refine V.ist C dX5_countWays_47 (Nat.le_of_ble_eq_true rfl) rfl ?_
              refine V.ild_n C dX5_countWays_49 rfl ?_
              refine V.ild C dX5_countWays_50 rfl ?_
              refine V.iconst C (x := -1) dX5_countWays_52 (by decide) ?_
              refine V.icmp_ne C (tgt := 60) dX5_countWays_53 (by decide) (fun h53 => ?_) (fun h53 => ?_)
              · skip
                refine V.iconst C (x := 1) dX5_countWays_60 (by decide) ?_
                refine V.iadd C dX5_countWays_61 ?_
                refine V.top (cnt_t (P := (cw5 A)) (i := 8 * i + j) (by unfold cw5; rw [show (8 * i + j) / 8 = i by omega, show (8 * i + j) % 8 = j by omega]; exact h53)) ?_
                refine V.ist_n C dX5_countWays_62 (Nat.le_of_ble_eq_true rfl) rfl ?_
                refine V.iinc C (y := nI (j + 1)) dX5_countWays_63 rfl (nI_1 j) rfl ?_
                refine V.goto C (tgt := 15) dX5_countWays_66 (by decide) ?_
                exact ih (j + 1) _ (by omega) (by omega)
              · skip
                refine V.iconst C (x := 0) dX5_countWays_56 (by decide) ?_
                refine V.goto C (tgt := 61) dX5_countWays_57 (by decide) ?_
                refine V.iadd C dX5_countWays_61 ?_
                refine V.top (cnt_f (P := (cw5 A)) (i := 8 * i + j) (by unfold cw5; rw [show (8 * i + j) / 8 = i by omega, show (8 * i + j) % 8 = j by omega]; exact fun q => q h53)) ?_
                refine V.ist_n C dX5_countWays_62 (Nat.le_of_ble_eq_true rfl) rfl ?_
                refine V.iinc C (y := nI (j + 1)) dX5_countWays_63 rfl (nI_1 j) rfl ?_
                refine V.goto C (tgt := 15) dX5_countWays_66 (by decide) ?_
                exact ih (j + 1) _ (by omega) (by omega)
        exact key2 9 0 _ (by omega) (by omega)
  refine V.iconst C (x := 0) dX5_countWays_0 (by decide) ?_
  refine V.ist_n C dX5_countWays_1 (Nat.le_of_ble_eq_true rfl) rfl ?_
  refine V.iconst C (x := 0) dX5_countWays_2 (by decide) ?_
  refine V.ist_n C dX5_countWays_3 (Nat.le_of_ble_eq_true rfl) rfl ?_
  exact key (r + 1) 0 _ _ (by omega) (by omega)
theorem ev_X5_way {g : GD} {r d t b : Nat} {A : ST} {da ta ba : Nat → Nat} {gr hc : Nat → Int32} {L : List AE} (hX : XR0 r d t b A da ta ba gr hc L) (hI : Inv r d t b A) (x y : Int32) : EvP g mX5_way [aR 0, aI x, aI y] L (some (aI (F_way r A x y))) := by
  refine Ev.of [some (aR 0), some (aI x), some (aI y)] (by decide) rfl (Nat.le_of_ble_eq_true rfl) fun Z H0 C X => ?_
  have hN := hI.cn
  rcases isN_cases x r (by omega) with ⟨i, hi, rfl⟩ | hi
  · skip
    rcases isN_cases y 8 (by omega) with ⟨j, hj, rfl⟩ | hj
    · skip
      refine V.ald_n C dX5_way_0 rfl ?_
      refine V.ild_n C dX5_way_1 rfl ?_
      refine V.ild_n C dX5_way_2 rfl ?_
      refine V.callVp C mo_X5_isPlace im_X5_isPlace se_X5_isPlace ml_RX5_71 (ev_X5_isPlace hX hI _ _) dX5_way_3 rfl rfl hX.x0 rfl rfl (Nat.le_of_ble_eq_true rfl) (RmOk.mk' (by decide) (by decide) (by decide) (by decide)) ⟨rfl, rfl⟩ ?_
      refine V.ifb_eq C (tgt := 22) dX5_way_6 (by decide) (fun h6 => absurd ⟨isN_nI (show i < r by omega) (by omega), isN_nI (show j < 8 by omega) (by omega)⟩ h6) (fun h6 => ?_)
      refine V.ald_n C dX5_way_9 rfl ?_
      refine V.get C fg_RX5_9 dX5_way_10 hX.x0 rfl ?_
      refine V.ild_n C dX5_way_13 rfl ?_
      refine V.ild_n C dX5_way_14 rfl ?_
      refine V.callSp C mo_X5_placeOf sm_X5_placeOf ml_RX5_78 (ev_X5_placeOf _ _) dX5_way_15 rfl rfl (Nat.le_of_ble_eq_true rfl) (RmOk.mk' (by decide) (by decide) (by decide) (by decide)) ⟨rfl, rfl⟩ ?_
      refine V.ialdN C (N := 160) dX5_way_18 hX.x1 (by omega) (by decide) ?_
      refine V.top (xw_in hi hj) ?_
      refine V.goto C (tgt := 23) dX5_way_19 (by decide) ?_
      exact V.iret X dX5_way_23 rfl (by decide) (by decide) (pq (by unfold F_way; rw [ok1_t hi (by omega), ok1_t hj (by omega)]))
    · skip
      refine V.ald_n C dX5_way_0 rfl ?_
      refine V.ild_n C dX5_way_1 rfl ?_
      refine V.ild_n C dX5_way_2 rfl ?_
      refine V.callVp C mo_X5_isPlace im_X5_isPlace se_X5_isPlace ml_RX5_71 (ev_X5_isPlace hX hI _ _) dX5_way_3 rfl rfl hX.x0 rfl rfl (Nat.le_of_ble_eq_true rfl) (RmOk.mk' (by decide) (by decide) (by decide) (by decide)) ⟨rfl, rfl⟩ ?_
      refine V.ifb_eq C (tgt := 22) dX5_way_6 (by decide) (fun h6 => ?_) (fun h6 => absurd h6 (fun q => hj q.2))
      refine V.iconst C (x := -1) dX5_way_22 (by decide) ?_
      exact V.iret X dX5_way_23 rfl (by decide) (by decide) (pq (by unfold F_way; rw [ok1_t hi (by omega), ok1_f hj]))
  · skip
    refine V.ald_n C dX5_way_0 rfl ?_
    refine V.ild_n C dX5_way_1 rfl ?_
    refine V.ild_n C dX5_way_2 rfl ?_
    refine V.callVp C mo_X5_isPlace im_X5_isPlace se_X5_isPlace ml_RX5_71 (ev_X5_isPlace hX hI _ _) dX5_way_3 rfl rfl hX.x0 rfl rfl (Nat.le_of_ble_eq_true rfl) (RmOk.mk' (by decide) (by decide) (by decide) (by decide)) ⟨rfl, rfl⟩ ?_
    refine V.ifb_eq C (tgt := 22) dX5_way_6 (by decide) (fun h6 => ?_) (fun h6 => absurd h6 (fun q => hi q.1))
    refine V.iconst C (x := -1) dX5_way_22 (by decide) ?_
    exact V.iret X dX5_way_23 rfl (by decide) (by decide) (pq (by unfold F_way; rw [ok1_f hi]))
theorem ev_X5_leads {g : GD} {r d t b : Nat} {A : ST} {da ta ba : Nat → Nat} {gr hc : Nat → Int32} {L : List AE} (hX : XR0 r d t b A da ta ba gr hc L) (hI : Inv r d t b A) (x y : Int32) : EvP g mX5_leads [aR 0, aI x, aI y] L (some (aI (F_leads r A x y))) := by
  refine Ev.of [some (aR 0), some (aI x), some (aI y), none] (by decide) rfl (Nat.le_of_ble_eq_true rfl) fun Z H0 C X => ?_
  have hN := hI.cn
  rcases isN_cases x r (by omega) with ⟨i, hi, rfl⟩ | hi
  · skip
    rcases isN_cases y 8 (by omega) with ⟨j, hj, rfl⟩ | hj
    · skip
      refine V.ald_n C dX5_leads_0 rfl ?_
      refine V.ild_n C dX5_leads_1 rfl ?_
      refine V.ild_n C dX5_leads_2 rfl ?_
      refine V.callVp C mo_X5_leadsTo im_X5_leadsTo se_X5_leadsTo ml_RX5_204 (ev_X5_leadsTo hX hI (by omega) (by omega)) dX5_leads_3 rfl rfl hX.x0 rfl rfl (Nat.le_of_ble_eq_true rfl) (RmOk.mk' (by decide) (by decide) (by decide) (by decide)) ⟨rfl, rfl⟩ ?_
      refine V.ist_n C dX5_leads_6 (Nat.le_of_ble_eq_true rfl) rfl ?_
      refine V.ild_n C dX5_leads_7 rfl ?_
      refine V.iconst C (x := -1) dX5_leads_8 (by decide) ?_
      refine V.icmp_ne C (tgt := 16) dX5_leads_9 (by decide) (fun h9 => ?_) (fun h9 => ?_)
      · skip
        refine V.ild_n C dX5_leads_16 rfl ?_
        exact V.iret X dX5_leads_17 rfl (by decide) (by decide) (pq (by unfold F_leads; rw [ok1_t hi (by omega), ok1_t hj (by omega)]))
      · skip
        refine V.iconst C (x := -1) dX5_leads_12 (by decide) ?_
        refine V.goto C (tgt := 17) dX5_leads_13 (by decide) ?_
        exact V.iret X dX5_leads_17 rfl (by decide) (by decide) (pq (by unfold F_leads; rw [ok1_t hi (by omega), ok1_t hj (by omega), h9]))
    · skip
      refine V.ald_n C dX5_leads_0 rfl ?_
      refine V.ild_n C dX5_leads_1 rfl ?_
      refine V.ild_n C dX5_leads_2 rfl ?_
      refine V.callVp C mo_X5_leadsTo im_X5_leadsTo se_X5_leadsTo ml_RX5_204 (ev_X5_leadsTo_f hX hI (fun q => hj q.2)) dX5_leads_3 rfl rfl hX.x0 rfl rfl (Nat.le_of_ble_eq_true rfl) (RmOk.mk' (by decide) (by decide) (by decide) (by decide)) ⟨rfl, rfl⟩ ?_
      refine V.ist_n C dX5_leads_6 (Nat.le_of_ble_eq_true rfl) rfl ?_
      refine V.ild_n C dX5_leads_7 rfl ?_
      refine V.iconst C (x := -1) dX5_leads_8 (by decide) ?_
      refine V.icmp_ne C (tgt := 16) dX5_leads_9 (by decide) (fun h9 => absurd h9 (by decide)) (fun h9 => ?_)
      refine V.iconst C (x := -1) dX5_leads_12 (by decide) ?_
      refine V.goto C (tgt := 17) dX5_leads_13 (by decide) ?_
      exact V.iret X dX5_leads_17 rfl (by decide) (by decide) (pq (by unfold F_leads; rw [ok1_t hi (by omega), ok1_f hj]))
  · skip
    refine V.ald_n C dX5_leads_0 rfl ?_
    refine V.ild_n C dX5_leads_1 rfl ?_
    refine V.ild_n C dX5_leads_2 rfl ?_
    refine V.callVp C mo_X5_leadsTo im_X5_leadsTo se_X5_leadsTo ml_RX5_204 (ev_X5_leadsTo_f hX hI (fun q => hi q.1)) dX5_leads_3 rfl rfl hX.x0 rfl rfl (Nat.le_of_ble_eq_true rfl) (RmOk.mk' (by decide) (by decide) (by decide) (by decide)) ⟨rfl, rfl⟩ ?_
    refine V.ist_n C dX5_leads_6 (Nat.le_of_ble_eq_true rfl) rfl ?_
    refine V.ild_n C dX5_leads_7 rfl ?_
    refine V.iconst C (x := -1) dX5_leads_8 (by decide) ?_
    refine V.icmp_ne C (tgt := 16) dX5_leads_9 (by decide) (fun h9 => absurd h9 (by decide)) (fun h9 => ?_)
    refine V.iconst C (x := -1) dX5_leads_12 (by decide) ?_
    refine V.goto C (tgt := 17) dX5_leads_13 (by decide) ?_
    exact V.iret X dX5_leads_17 rfl (by decide) (by decide) (pq (by unfold F_leads; rw [ok1_f hi]))
theorem ev_X5_state {g : GD} {r d t b : Nat} {A : ST} {da ta ba : Nat → Nat} {gr hc : Nat → Int32} {L : List AE} (hX : XR0 r d t b A da ta ba gr hc L) (hI : Inv r d t b A) (x : Int32) : EvP g mX5_state [aR 0, aI x] L (some (aI (F_state d A x))) := by
  refine Ev.of [some (aR 0), some (aI x), none, none, none, none, none] (by decide) rfl (Nat.le_of_ble_eq_true rfl) fun Z H0 C X => ?_
  have hN := hI.cn
  rcases isN_cases x d (by omega) with ⟨j, hj, rfl⟩ | hj
  · skip
    refine V.ald_n C dX5_state_0 rfl ?_
    refine V.ild_n C dX5_state_1 rfl ?_
    refine V.callVp C mo_X5_doorAt im_X5_doorAt se_X5_doorAt ml_RX5_101 (ev_X5_doorAt_t hX hI (show j < d by omega)) dX5_state_2 rfl rfl hX.x0 rfl rfl (Nat.le_of_ble_eq_true rfl) (RmOk.mk' (by decide) (by decide) (by decide) (by decide)) ⟨rfl, rfl⟩ ?_
    refine V.ast_n C dX5_state_5 (Nat.le_of_ble_eq_true rfl) rfl ?_
    refine V.ald_n C dX5_state_6 rfl ?_
    refine V.ifnonnull C (tgt := 12) dX5_state_7 (by decide) ?_
    refine V.ald_n C dX5_state_12 rfl ?_
    refine V.get C fg_RX5_207 dX5_state_13 (hX.dd (show j < d by omega)) rfl ?_
    refine V.if_eq C (tgt := 23) dX5_state_16 (by decide) (fun h16 => ?_) (fun h16 => ?_)
    · skip
      refine V.iconst C (x := 0) dX5_state_23 (by decide) ?_
      refine V.ist_n C dX5_state_24 (Nat.le_of_ble_eq_true rfl) rfl ?_
      refine V.ald_n C dX5_state_25 rfl ?_
      refine V.get C fg_RX5_116 dX5_state_26 (hX.dd (show j < d by omega)) rfl ?_
      refine V.if_eq C (tgt := 36) dX5_state_29 (by decide) (fun h29 => ?_) (fun h29 => ?_)
      · skip
        refine V.iconst C (x := 0) dX5_state_36 (by decide) ?_
        refine V.ist C dX5_state_37 (Nat.le_of_ble_eq_true rfl) rfl ?_
        rcases (hI.cd hj).2.2.2.1 with hk | ⟨k, hk0, hk, -⟩
        · skip
          refine V.ald_n C dX5_state_39 rfl ?_
          refine V.get C fg_RX5_112 dX5_state_40 (hX.dd (show j < d by omega)) rfl ?_
          refine V.topO (kref_neg hk) ?_
          refine V.ifnullN C (tgt := 50) dX5_state_43 (by decide) ?_
          refine V.iconst C (x := 0) dX5_state_50 (by decide) ?_
          refine V.ist C dX5_state_51 (Nat.le_of_ble_eq_true rfl) rfl ?_
          refine V.ald_n C dX5_state_53 rfl ?_
          refine V.get C fg_RX5_210 dX5_state_54 (hX.dd (show j < d by omega)) rfl ?_
          refine V.iconst C (x := -1) dX5_state_57 (by decide) ?_
          refine V.icmp_eq C (tgt := 66) dX5_state_58 (by decide) (fun h58 => ?_) (fun h58 => ?_)
          · skip
            refine V.iconst C (x := 0) dX5_state_66 (by decide) ?_
            refine V.ist C dX5_state_67 (Nat.le_of_ble_eq_true rfl) rfl ?_
            refine V.ild_n C dX5_state_69 rfl ?_
            refine V.ild C dX5_state_70 rfl ?_
            refine V.iadd C dX5_state_72 ?_
            refine V.ild C dX5_state_73 rfl ?_
            refine V.iadd C dX5_state_75 ?_
            refine V.ild C dX5_state_76 rfl ?_
            refine V.iadd C dX5_state_78 ?_
            exact V.iret X dX5_state_79 rfl (by decide) (by decide) (pq (by unfold F_state; rw [ok1_t hj (by omega), cI_f (show ¬ A 8 j = 1 from fun q => by rw [h16] at q; exact absurd q (by decide)), cI_f (show ¬ A 9 j = 1 from fun q => by rw [h29] at q; exact absurd q (by decide)), cI_t hk, cI_t h58]))
          · skip
            refine V.bipush C (x := 8) dX5_state_61 (by decide) ?_
            refine V.goto C (tgt := 67) dX5_state_63 (by decide) ?_
            refine V.ist C dX5_state_67 (Nat.le_of_ble_eq_true rfl) rfl ?_
            refine V.ild_n C dX5_state_69 rfl ?_
            refine V.ild C dX5_state_70 rfl ?_
            refine V.iadd C dX5_state_72 ?_
            refine V.ild C dX5_state_73 rfl ?_
            refine V.iadd C dX5_state_75 ?_
            refine V.ild C dX5_state_76 rfl ?_
            refine V.iadd C dX5_state_78 ?_
            exact V.iret X dX5_state_79 rfl (by decide) (by decide) (pq (by unfold F_state; rw [ok1_t hj (by omega), cI_f (show ¬ A 8 j = 1 from fun q => by rw [h16] at q; exact absurd q (by decide)), cI_f (show ¬ A 9 j = 1 from fun q => by rw [h29] at q; exact absurd q (by decide)), cI_t hk, cI_f h58]))
        · skip
          refine V.ald_n C dX5_state_39 rfl ?_
          refine V.get C fg_RX5_112 dX5_state_40 (hX.dd (show j < d by omega)) rfl ?_
          refine V.topO (kref_k hk (by omega)) ?_
          refine V.ifnull C dX5_state_43 ?_
          refine V.iconst C (x := 4) dX5_state_46 (by decide) ?_
          refine V.goto C (tgt := 51) dX5_state_47 (by decide) ?_
          refine V.ist C dX5_state_51 (Nat.le_of_ble_eq_true rfl) rfl ?_
          refine V.ald_n C dX5_state_53 rfl ?_
          refine V.get C fg_RX5_210 dX5_state_54 (hX.dd (show j < d by omega)) rfl ?_
          refine V.iconst C (x := -1) dX5_state_57 (by decide) ?_
          refine V.icmp_eq C (tgt := 66) dX5_state_58 (by decide) (fun h58 => ?_) (fun h58 => ?_)
          · skip
            refine V.iconst C (x := 0) dX5_state_66 (by decide) ?_
            refine V.ist C dX5_state_67 (Nat.le_of_ble_eq_true rfl) rfl ?_
            refine V.ild_n C dX5_state_69 rfl ?_
            refine V.ild C dX5_state_70 rfl ?_
            refine V.iadd C dX5_state_72 ?_
            refine V.ild C dX5_state_73 rfl ?_
            refine V.iadd C dX5_state_75 ?_
            refine V.ild C dX5_state_76 rfl ?_
            refine V.iadd C dX5_state_78 ?_
            exact V.iret X dX5_state_79 rfl (by decide) (by decide) (pq (by unfold F_state; rw [ok1_t hj (by omega), cI_f (show ¬ A 8 j = 1 from fun q => by rw [h16] at q; exact absurd q (by decide)), cI_f (show ¬ A 9 j = 1 from fun q => by rw [h29] at q; exact absurd q (by decide)), cI_f (show ¬ A 7 j = -1 from fun q => nI_neg (show k < 2 ^ 31 by omega) (hk.symm.trans q)), cI_t h58]))
          · skip
            refine V.bipush C (x := 8) dX5_state_61 (by decide) ?_
            refine V.goto C (tgt := 67) dX5_state_63 (by decide) ?_
            refine V.ist C dX5_state_67 (Nat.le_of_ble_eq_true rfl) rfl ?_
            refine V.ild_n C dX5_state_69 rfl ?_
            refine V.ild C dX5_state_70 rfl ?_
            refine V.iadd C dX5_state_72 ?_
            refine V.ild C dX5_state_73 rfl ?_
            refine V.iadd C dX5_state_75 ?_
            refine V.ild C dX5_state_76 rfl ?_
            refine V.iadd C dX5_state_78 ?_
            exact V.iret X dX5_state_79 rfl (by decide) (by decide) (pq (by unfold F_state; rw [ok1_t hj (by omega), cI_f (show ¬ A 8 j = 1 from fun q => by rw [h16] at q; exact absurd q (by decide)), cI_f (show ¬ A 9 j = 1 from fun q => by rw [h29] at q; exact absurd q (by decide)), cI_f (show ¬ A 7 j = -1 from fun q => nI_neg (show k < 2 ^ 31 by omega) (hk.symm.trans q)), cI_f h58]))
      · skip
        refine V.iconst C (x := 2) dX5_state_32 (by decide) ?_
        refine V.goto C (tgt := 37) dX5_state_33 (by decide) ?_
        refine V.ist C dX5_state_37 (Nat.le_of_ble_eq_true rfl) rfl ?_
        rcases (hI.cd hj).2.2.2.1 with hk | ⟨k, hk0, hk, -⟩
        · skip
          refine V.ald_n C dX5_state_39 rfl ?_
          refine V.get C fg_RX5_112 dX5_state_40 (hX.dd (show j < d by omega)) rfl ?_
          refine V.topO (kref_neg hk) ?_
          refine V.ifnullN C (tgt := 50) dX5_state_43 (by decide) ?_
          refine V.iconst C (x := 0) dX5_state_50 (by decide) ?_
          refine V.ist C dX5_state_51 (Nat.le_of_ble_eq_true rfl) rfl ?_
          refine V.ald_n C dX5_state_53 rfl ?_
          refine V.get C fg_RX5_210 dX5_state_54 (hX.dd (show j < d by omega)) rfl ?_
          refine V.iconst C (x := -1) dX5_state_57 (by decide) ?_
          refine V.icmp_eq C (tgt := 66) dX5_state_58 (by decide) (fun h58 => ?_) (fun h58 => ?_)
          · skip
            refine V.iconst C (x := 0) dX5_state_66 (by decide) ?_
            refine V.ist C dX5_state_67 (Nat.le_of_ble_eq_true rfl) rfl ?_
            refine V.ild_n C dX5_state_69 rfl ?_
            refine V.ild C dX5_state_70 rfl ?_
            refine V.iadd C dX5_state_72 ?_
            refine V.ild C dX5_state_73 rfl ?_
            refine V.iadd C dX5_state_75 ?_
            refine V.ild C dX5_state_76 rfl ?_
            refine V.iadd C dX5_state_78 ?_
            exact V.iret X dX5_state_79 rfl (by decide) (by decide) (pq (by unfold F_state; rw [ok1_t hj (by omega), cI_f (show ¬ A 8 j = 1 from fun q => by rw [h16] at q; exact absurd q (by decide)), cI_t (show A 9 j = 1 from (hI.cd hj).2.2.2.2.2.resolve_left h29), cI_t hk, cI_t h58]))
          · skip
            refine V.bipush C (x := 8) dX5_state_61 (by decide) ?_
            refine V.goto C (tgt := 67) dX5_state_63 (by decide) ?_
            refine V.ist C dX5_state_67 (Nat.le_of_ble_eq_true rfl) rfl ?_
            refine V.ild_n C dX5_state_69 rfl ?_
            refine V.ild C dX5_state_70 rfl ?_
            refine V.iadd C dX5_state_72 ?_
            refine V.ild C dX5_state_73 rfl ?_
            refine V.iadd C dX5_state_75 ?_
            refine V.ild C dX5_state_76 rfl ?_
            refine V.iadd C dX5_state_78 ?_
            exact V.iret X dX5_state_79 rfl (by decide) (by decide) (pq (by unfold F_state; rw [ok1_t hj (by omega), cI_f (show ¬ A 8 j = 1 from fun q => by rw [h16] at q; exact absurd q (by decide)), cI_t (show A 9 j = 1 from (hI.cd hj).2.2.2.2.2.resolve_left h29), cI_t hk, cI_f h58]))
        · skip
          refine V.ald_n C dX5_state_39 rfl ?_
          refine V.get C fg_RX5_112 dX5_state_40 (hX.dd (show j < d by omega)) rfl ?_
          refine V.topO (kref_k hk (by omega)) ?_
          refine V.ifnull C dX5_state_43 ?_
          refine V.iconst C (x := 4) dX5_state_46 (by decide) ?_
          refine V.goto C (tgt := 51) dX5_state_47 (by decide) ?_
          refine V.ist C dX5_state_51 (Nat.le_of_ble_eq_true rfl) rfl ?_
          refine V.ald_n C dX5_state_53 rfl ?_
          refine V.get C fg_RX5_210 dX5_state_54 (hX.dd (show j < d by omega)) rfl ?_
          refine V.iconst C (x := -1) dX5_state_57 (by decide) ?_
          refine V.icmp_eq C (tgt := 66) dX5_state_58 (by decide) (fun h58 => ?_) (fun h58 => ?_)
          · skip
            refine V.iconst C (x := 0) dX5_state_66 (by decide) ?_
            refine V.ist C dX5_state_67 (Nat.le_of_ble_eq_true rfl) rfl ?_
            refine V.ild_n C dX5_state_69 rfl ?_
            refine V.ild C dX5_state_70 rfl ?_
            refine V.iadd C dX5_state_72 ?_
            refine V.ild C dX5_state_73 rfl ?_
            refine V.iadd C dX5_state_75 ?_
            refine V.ild C dX5_state_76 rfl ?_
            refine V.iadd C dX5_state_78 ?_
            exact V.iret X dX5_state_79 rfl (by decide) (by decide) (pq (by unfold F_state; rw [ok1_t hj (by omega), cI_f (show ¬ A 8 j = 1 from fun q => by rw [h16] at q; exact absurd q (by decide)), cI_t (show A 9 j = 1 from (hI.cd hj).2.2.2.2.2.resolve_left h29), cI_f (show ¬ A 7 j = -1 from fun q => nI_neg (show k < 2 ^ 31 by omega) (hk.symm.trans q)), cI_t h58]))
          · skip
            refine V.bipush C (x := 8) dX5_state_61 (by decide) ?_
            refine V.goto C (tgt := 67) dX5_state_63 (by decide) ?_
            refine V.ist C dX5_state_67 (Nat.le_of_ble_eq_true rfl) rfl ?_
            refine V.ild_n C dX5_state_69 rfl ?_
            refine V.ild C dX5_state_70 rfl ?_
            refine V.iadd C dX5_state_72 ?_
            refine V.ild C dX5_state_73 rfl ?_
            refine V.iadd C dX5_state_75 ?_
            refine V.ild C dX5_state_76 rfl ?_
            refine V.iadd C dX5_state_78 ?_
            exact V.iret X dX5_state_79 rfl (by decide) (by decide) (pq (by unfold F_state; rw [ok1_t hj (by omega), cI_f (show ¬ A 8 j = 1 from fun q => by rw [h16] at q; exact absurd q (by decide)), cI_t (show A 9 j = 1 from (hI.cd hj).2.2.2.2.2.resolve_left h29), cI_f (show ¬ A 7 j = -1 from fun q => nI_neg (show k < 2 ^ 31 by omega) (hk.symm.trans q)), cI_f h58]))
    · skip
      refine V.iconst C (x := 1) dX5_state_19 (by decide) ?_
      refine V.goto C (tgt := 24) dX5_state_20 (by decide) ?_
      refine V.ist_n C dX5_state_24 (Nat.le_of_ble_eq_true rfl) rfl ?_
      refine V.ald_n C dX5_state_25 rfl ?_
      refine V.get C fg_RX5_116 dX5_state_26 (hX.dd (show j < d by omega)) rfl ?_
      refine V.if_eq C (tgt := 36) dX5_state_29 (by decide) (fun h29 => ?_) (fun h29 => ?_)
      · skip
        refine V.iconst C (x := 0) dX5_state_36 (by decide) ?_
        refine V.ist C dX5_state_37 (Nat.le_of_ble_eq_true rfl) rfl ?_
        rcases (hI.cd hj).2.2.2.1 with hk | ⟨k, hk0, hk, -⟩
        · skip
          refine V.ald_n C dX5_state_39 rfl ?_
          refine V.get C fg_RX5_112 dX5_state_40 (hX.dd (show j < d by omega)) rfl ?_
          refine V.topO (kref_neg hk) ?_
          refine V.ifnullN C (tgt := 50) dX5_state_43 (by decide) ?_
          refine V.iconst C (x := 0) dX5_state_50 (by decide) ?_
          refine V.ist C dX5_state_51 (Nat.le_of_ble_eq_true rfl) rfl ?_
          refine V.ald_n C dX5_state_53 rfl ?_
          refine V.get C fg_RX5_210 dX5_state_54 (hX.dd (show j < d by omega)) rfl ?_
          refine V.iconst C (x := -1) dX5_state_57 (by decide) ?_
          refine V.icmp_eq C (tgt := 66) dX5_state_58 (by decide) (fun h58 => ?_) (fun h58 => ?_)
          · skip
            refine V.iconst C (x := 0) dX5_state_66 (by decide) ?_
            refine V.ist C dX5_state_67 (Nat.le_of_ble_eq_true rfl) rfl ?_
            refine V.ild_n C dX5_state_69 rfl ?_
            refine V.ild C dX5_state_70 rfl ?_
            refine V.iadd C dX5_state_72 ?_
            refine V.ild C dX5_state_73 rfl ?_
            refine V.iadd C dX5_state_75 ?_
            refine V.ild C dX5_state_76 rfl ?_
            refine V.iadd C dX5_state_78 ?_
            exact V.iret X dX5_state_79 rfl (by decide) (by decide) (pq (by unfold F_state; rw [ok1_t hj (by omega), cI_t (show A 8 j = 1 from (hI.cd hj).2.2.2.2.1.resolve_left h16), cI_f (show ¬ A 9 j = 1 from fun q => by rw [h29] at q; exact absurd q (by decide)), cI_t hk, cI_t h58]))
          · skip
            refine V.bipush C (x := 8) dX5_state_61 (by decide) ?_
            refine V.goto C (tgt := 67) dX5_state_63 (by decide) ?_
            refine V.ist C dX5_state_67 (Nat.le_of_ble_eq_true rfl) rfl ?_
            refine V.ild_n C dX5_state_69 rfl ?_
            refine V.ild C dX5_state_70 rfl ?_
            refine V.iadd C dX5_state_72 ?_
            refine V.ild C dX5_state_73 rfl ?_
            refine V.iadd C dX5_state_75 ?_
            refine V.ild C dX5_state_76 rfl ?_
            refine V.iadd C dX5_state_78 ?_
            exact V.iret X dX5_state_79 rfl (by decide) (by decide) (pq (by unfold F_state; rw [ok1_t hj (by omega), cI_t (show A 8 j = 1 from (hI.cd hj).2.2.2.2.1.resolve_left h16), cI_f (show ¬ A 9 j = 1 from fun q => by rw [h29] at q; exact absurd q (by decide)), cI_t hk, cI_f h58]))
        · skip
          refine V.ald_n C dX5_state_39 rfl ?_
          refine V.get C fg_RX5_112 dX5_state_40 (hX.dd (show j < d by omega)) rfl ?_
          refine V.topO (kref_k hk (by omega)) ?_
          refine V.ifnull C dX5_state_43 ?_
          refine V.iconst C (x := 4) dX5_state_46 (by decide) ?_
          refine V.goto C (tgt := 51) dX5_state_47 (by decide) ?_
          refine V.ist C dX5_state_51 (Nat.le_of_ble_eq_true rfl) rfl ?_
          refine V.ald_n C dX5_state_53 rfl ?_
          refine V.get C fg_RX5_210 dX5_state_54 (hX.dd (show j < d by omega)) rfl ?_
          refine V.iconst C (x := -1) dX5_state_57 (by decide) ?_
          refine V.icmp_eq C (tgt := 66) dX5_state_58 (by decide) (fun h58 => ?_) (fun h58 => ?_)
          · skip
            refine V.iconst C (x := 0) dX5_state_66 (by decide) ?_
            refine V.ist C dX5_state_67 (Nat.le_of_ble_eq_true rfl) rfl ?_
            refine V.ild_n C dX5_state_69 rfl ?_
            refine V.ild C dX5_state_70 rfl ?_
            refine V.iadd C dX5_state_72 ?_
            refine V.ild C dX5_state_73 rfl ?_
            refine V.iadd C dX5_state_75 ?_
            refine V.ild C dX5_state_76 rfl ?_
            refine V.iadd C dX5_state_78 ?_
            exact V.iret X dX5_state_79 rfl (by decide) (by decide) (pq (by unfold F_state; rw [ok1_t hj (by omega), cI_t (show A 8 j = 1 from (hI.cd hj).2.2.2.2.1.resolve_left h16), cI_f (show ¬ A 9 j = 1 from fun q => by rw [h29] at q; exact absurd q (by decide)), cI_f (show ¬ A 7 j = -1 from fun q => nI_neg (show k < 2 ^ 31 by omega) (hk.symm.trans q)), cI_t h58]))
          · skip
            refine V.bipush C (x := 8) dX5_state_61 (by decide) ?_
            refine V.goto C (tgt := 67) dX5_state_63 (by decide) ?_
            refine V.ist C dX5_state_67 (Nat.le_of_ble_eq_true rfl) rfl ?_
            refine V.ild_n C dX5_state_69 rfl ?_
            refine V.ild C dX5_state_70 rfl ?_
            refine V.iadd C dX5_state_72 ?_
            refine V.ild C dX5_state_73 rfl ?_
            refine V.iadd C dX5_state_75 ?_
            refine V.ild C dX5_state_76 rfl ?_
            refine V.iadd C dX5_state_78 ?_
            exact V.iret X dX5_state_79 rfl (by decide) (by decide) (pq (by unfold F_state; rw [ok1_t hj (by omega), cI_t (show A 8 j = 1 from (hI.cd hj).2.2.2.2.1.resolve_left h16), cI_f (show ¬ A 9 j = 1 from fun q => by rw [h29] at q; exact absurd q (by decide)), cI_f (show ¬ A 7 j = -1 from fun q => nI_neg (show k < 2 ^ 31 by omega) (hk.symm.trans q)), cI_f h58]))
      · skip
        refine V.iconst C (x := 2) dX5_state_32 (by decide) ?_
        refine V.goto C (tgt := 37) dX5_state_33 (by decide) ?_
        refine V.ist C dX5_state_37 (Nat.le_of_ble_eq_true rfl) rfl ?_
        rcases (hI.cd hj).2.2.2.1 with hk | ⟨k, hk0, hk, -⟩
        · skip
          refine V.ald_n C dX5_state_39 rfl ?_
          refine V.get C fg_RX5_112 dX5_state_40 (hX.dd (show j < d by omega)) rfl ?_
          refine V.topO (kref_neg hk) ?_
          refine V.ifnullN C (tgt := 50) dX5_state_43 (by decide) ?_
          refine V.iconst C (x := 0) dX5_state_50 (by decide) ?_
          refine V.ist C dX5_state_51 (Nat.le_of_ble_eq_true rfl) rfl ?_
          refine V.ald_n C dX5_state_53 rfl ?_
          refine V.get C fg_RX5_210 dX5_state_54 (hX.dd (show j < d by omega)) rfl ?_
          refine V.iconst C (x := -1) dX5_state_57 (by decide) ?_
          refine V.icmp_eq C (tgt := 66) dX5_state_58 (by decide) (fun h58 => ?_) (fun h58 => ?_)
          · skip
            refine V.iconst C (x := 0) dX5_state_66 (by decide) ?_
            refine V.ist C dX5_state_67 (Nat.le_of_ble_eq_true rfl) rfl ?_
            refine V.ild_n C dX5_state_69 rfl ?_
            refine V.ild C dX5_state_70 rfl ?_
            refine V.iadd C dX5_state_72 ?_
            refine V.ild C dX5_state_73 rfl ?_
            refine V.iadd C dX5_state_75 ?_
            refine V.ild C dX5_state_76 rfl ?_
            refine V.iadd C dX5_state_78 ?_
            exact V.iret X dX5_state_79 rfl (by decide) (by decide) (pq (by unfold F_state; rw [ok1_t hj (by omega), cI_t (show A 8 j = 1 from (hI.cd hj).2.2.2.2.1.resolve_left h16), cI_t (show A 9 j = 1 from (hI.cd hj).2.2.2.2.2.resolve_left h29), cI_t hk, cI_t h58]))
          · skip
            refine V.bipush C (x := 8) dX5_state_61 (by decide) ?_
            refine V.goto C (tgt := 67) dX5_state_63 (by decide) ?_
            refine V.ist C dX5_state_67 (Nat.le_of_ble_eq_true rfl) rfl ?_
            refine V.ild_n C dX5_state_69 rfl ?_
            refine V.ild C dX5_state_70 rfl ?_
            refine V.iadd C dX5_state_72 ?_
            refine V.ild C dX5_state_73 rfl ?_
            refine V.iadd C dX5_state_75 ?_
            refine V.ild C dX5_state_76 rfl ?_
            refine V.iadd C dX5_state_78 ?_
            exact V.iret X dX5_state_79 rfl (by decide) (by decide) (pq (by unfold F_state; rw [ok1_t hj (by omega), cI_t (show A 8 j = 1 from (hI.cd hj).2.2.2.2.1.resolve_left h16), cI_t (show A 9 j = 1 from (hI.cd hj).2.2.2.2.2.resolve_left h29), cI_t hk, cI_f h58]))
        · skip
          refine V.ald_n C dX5_state_39 rfl ?_
          refine V.get C fg_RX5_112 dX5_state_40 (hX.dd (show j < d by omega)) rfl ?_
          refine V.topO (kref_k hk (by omega)) ?_
          refine V.ifnull C dX5_state_43 ?_
          refine V.iconst C (x := 4) dX5_state_46 (by decide) ?_
          refine V.goto C (tgt := 51) dX5_state_47 (by decide) ?_
          refine V.ist C dX5_state_51 (Nat.le_of_ble_eq_true rfl) rfl ?_
          refine V.ald_n C dX5_state_53 rfl ?_
          refine V.get C fg_RX5_210 dX5_state_54 (hX.dd (show j < d by omega)) rfl ?_
          refine V.iconst C (x := -1) dX5_state_57 (by decide) ?_
          refine V.icmp_eq C (tgt := 66) dX5_state_58 (by decide) (fun h58 => ?_) (fun h58 => ?_)
          · skip
            refine V.iconst C (x := 0) dX5_state_66 (by decide) ?_
            refine V.ist C dX5_state_67 (Nat.le_of_ble_eq_true rfl) rfl ?_
            refine V.ild_n C dX5_state_69 rfl ?_
            refine V.ild C dX5_state_70 rfl ?_
            refine V.iadd C dX5_state_72 ?_
            refine V.ild C dX5_state_73 rfl ?_
            refine V.iadd C dX5_state_75 ?_
            refine V.ild C dX5_state_76 rfl ?_
            refine V.iadd C dX5_state_78 ?_
            exact V.iret X dX5_state_79 rfl (by decide) (by decide) (pq (by unfold F_state; rw [ok1_t hj (by omega), cI_t (show A 8 j = 1 from (hI.cd hj).2.2.2.2.1.resolve_left h16), cI_t (show A 9 j = 1 from (hI.cd hj).2.2.2.2.2.resolve_left h29), cI_f (show ¬ A 7 j = -1 from fun q => nI_neg (show k < 2 ^ 31 by omega) (hk.symm.trans q)), cI_t h58]))
          · skip
            refine V.bipush C (x := 8) dX5_state_61 (by decide) ?_
            refine V.goto C (tgt := 67) dX5_state_63 (by decide) ?_
            refine V.ist C dX5_state_67 (Nat.le_of_ble_eq_true rfl) rfl ?_
            refine V.ild_n C dX5_state_69 rfl ?_
            refine V.ild C dX5_state_70 rfl ?_
            refine V.iadd C dX5_state_72 ?_
            refine V.ild C dX5_state_73 rfl ?_
            refine V.iadd C dX5_state_75 ?_
            refine V.ild C dX5_state_76 rfl ?_
            refine V.iadd C dX5_state_78 ?_
            exact V.iret X dX5_state_79 rfl (by decide) (by decide) (pq (by unfold F_state; rw [ok1_t hj (by omega), cI_t (show A 8 j = 1 from (hI.cd hj).2.2.2.2.1.resolve_left h16), cI_t (show A 9 j = 1 from (hI.cd hj).2.2.2.2.2.resolve_left h29), cI_f (show ¬ A 7 j = -1 from fun q => nI_neg (show k < 2 ^ 31 by omega) (hk.symm.trans q)), cI_f h58]))
  · skip
    refine V.ald_n C dX5_state_0 rfl ?_
    refine V.ild_n C dX5_state_1 rfl ?_
    refine V.callVp C mo_X5_doorAt im_X5_doorAt se_X5_doorAt ml_RX5_101 (ev_X5_doorAt_f hX hI hj) dX5_state_2 rfl rfl hX.x0 rfl rfl (Nat.le_of_ble_eq_true rfl) (RmOk.mk' (by decide) (by decide) (by decide) (by decide)) ⟨rfl, rfl⟩ ?_
    refine V.ast_n C dX5_state_5 (Nat.le_of_ble_eq_true rfl) rfl ?_
    refine V.ald_n C dX5_state_6 rfl ?_
    refine V.ifnonnullN C dX5_state_7 ?_
    refine V.iconst C (x := -1) dX5_state_10 (by decide) ?_
    exact V.iret X dX5_state_11 rfl (by decide) (by decide) (pq (by unfold F_state; rw [ok1_f hj]))
theorem ev_X5_thingIs {g : GD} {r d t b : Nat} {A : ST} {da ta ba : Nat → Nat} {gr hc : Nat → Int32} {L : List AE} (hX : XR0 r d t b A da ta ba gr hc L) (hI : Inv r d t b A) (hR : Rl t b A gr hc) (x y : Int32) : EvP g mX5_thingIs [aR 0, aI x, aI y] L (some (aI (F_thingIs t A x y))) := by
  refine Ev.of [some (aR 0), some (aI x), some (aI y), none] (by decide) rfl (Nat.le_of_ble_eq_true rfl) fun Z H0 C X => ?_
  have hN := hI.cn
  rcases isN_cases x t (by omega) with ⟨i, hi, rfl⟩ | hi
  · skip
    rcases isN_cases y 5 (by omega) with ⟨c, hc, rfl⟩ | hc
    · skip
      obtain rfl | rfl | rfl | rfl | rfl : c = 0 ∨ c = 1 ∨ c = 2 ∨ c = 3 ∨ c = 4 := by omega
      · skip
        refine V.ald_n C dX5_thingIs_0 rfl ?_
        refine V.ild_n C dX5_thingIs_1 rfl ?_
        refine V.callVp C mo_X5_thingAt im_X5_thingAt se_X5_thingAt ml_RX5_105 (ev_X5_thingAt_t hX hI (show i < t by omega)) dX5_thingIs_2 rfl rfl hX.x0 rfl rfl (Nat.le_of_ble_eq_true rfl) (RmOk.mk' (by decide) (by decide) (by decide) (by decide)) ⟨rfl, rfl⟩ ?_
        refine V.ast_n C dX5_thingIs_5 (Nat.le_of_ble_eq_true rfl) rfl ?_
        refine V.ald_n C dX5_thingIs_6 rfl ?_
        refine V.ifnonnull C (tgt := 12) dX5_thingIs_7 (by decide) ?_
        refine V.ild_n C dX5_thingIs_12 rfl ?_
        refine V.tableIn C (off := 35) (tgt := 48) dX5_thingIs_13 (by decide) (by decide) (by decide) (by decide) ?_
        refine V.ald_n C dX5_thingIs_48 rfl ?_
        refine V.ald_n C dX5_thingIs_49 rfl ?_
        refine V.callVp C mo_X5_placeOfThing im_X5_placeOfThing se_X5_placeOfThing ml_RX5_213 (ev_X5_placeOfThing hX hI hR (show i < t by omega)) dX5_thingIs_50 rfl rfl hX.x0 rfl rfl (Nat.le_of_ble_eq_true rfl) (RmOk.mk' (by decide) (by decide) (by decide) (by decide)) ⟨rfl, rfl⟩ ?_
        exact V.iret X dX5_thingIs_53 rfl (by decide) (by decide) (pq (by unfold F_thingIs; rw [ok1_t hi (by omega), ok1_t hc (by omega)]; unfold thI; rw [cI_t rfl]))
      · skip
        refine V.ald_n C dX5_thingIs_0 rfl ?_
        refine V.ild_n C dX5_thingIs_1 rfl ?_
        refine V.callVp C mo_X5_thingAt im_X5_thingAt se_X5_thingAt ml_RX5_105 (ev_X5_thingAt_t hX hI (show i < t by omega)) dX5_thingIs_2 rfl rfl hX.x0 rfl rfl (Nat.le_of_ble_eq_true rfl) (RmOk.mk' (by decide) (by decide) (by decide) (by decide)) ⟨rfl, rfl⟩ ?_
        refine V.ast_n C dX5_thingIs_5 (Nat.le_of_ble_eq_true rfl) rfl ?_
        refine V.ald_n C dX5_thingIs_6 rfl ?_
        refine V.ifnonnull C (tgt := 12) dX5_thingIs_7 (by decide) ?_
        refine V.ild_n C dX5_thingIs_12 rfl ?_
        refine V.tableIn C (off := 41) (tgt := 54) dX5_thingIs_13 (by decide) (by decide) (by decide) (by decide) ?_
        refine V.ald_n C dX5_thingIs_54 rfl ?_
        refine V.get C fg_RX5_109 dX5_thingIs_55 (hX.tt (show i < t by omega)) rfl ?_
        exact V.iret X dX5_thingIs_58 rfl (by decide) (by decide) (pq (by unfold F_thingIs; rw [ok1_t hi (by omega), ok1_t hc (by omega)]; unfold thI; rw [cI_f (show ¬ (1 : Nat) = 0 by decide), cI_t rfl]))
      · skip
        refine V.ald_n C dX5_thingIs_0 rfl ?_
        refine V.ild_n C dX5_thingIs_1 rfl ?_
        refine V.callVp C mo_X5_thingAt im_X5_thingAt se_X5_thingAt ml_RX5_105 (ev_X5_thingAt_t hX hI (show i < t by omega)) dX5_thingIs_2 rfl rfl hX.x0 rfl rfl (Nat.le_of_ble_eq_true rfl) (RmOk.mk' (by decide) (by decide) (by decide) (by decide)) ⟨rfl, rfl⟩ ?_
        refine V.ast_n C dX5_thingIs_5 (Nat.le_of_ble_eq_true rfl) rfl ?_
        refine V.ald_n C dX5_thingIs_6 rfl ?_
        refine V.ifnonnull C (tgt := 12) dX5_thingIs_7 (by decide) ?_
        refine V.ild_n C dX5_thingIs_12 rfl ?_
        refine V.tableIn C (off := 46) (tgt := 59) dX5_thingIs_13 (by decide) (by decide) (by decide) (by decide) ?_
        refine V.ald_n C dX5_thingIs_59 rfl ?_
        refine V.get C fg_RX5_217 dX5_thingIs_60 (hX.tt (show i < t by omega)) rfl ?_
        exact V.iret X dX5_thingIs_63 rfl (by decide) (by decide) (pq (by unfold F_thingIs; rw [ok1_t hi (by omega), ok1_t hc (by omega)]; unfold thI; rw [cI_f (show ¬ (2 : Nat) = 0 by decide), cI_f (show ¬ (2 : Nat) = 1 by decide), cI_t rfl]))
      · skip
        refine V.ald_n C dX5_thingIs_0 rfl ?_
        refine V.ild_n C dX5_thingIs_1 rfl ?_
        refine V.callVp C mo_X5_thingAt im_X5_thingAt se_X5_thingAt ml_RX5_105 (ev_X5_thingAt_t hX hI (show i < t by omega)) dX5_thingIs_2 rfl rfl hX.x0 rfl rfl (Nat.le_of_ble_eq_true rfl) (RmOk.mk' (by decide) (by decide) (by decide) (by decide)) ⟨rfl, rfl⟩ ?_
        refine V.ast_n C dX5_thingIs_5 (Nat.le_of_ble_eq_true rfl) rfl ?_
        refine V.ald_n C dX5_thingIs_6 rfl ?_
        refine V.ifnonnull C (tgt := 12) dX5_thingIs_7 (by decide) ?_
        refine V.ild_n C dX5_thingIs_12 rfl ?_
        refine V.tableIn C (off := 51) (tgt := 64) dX5_thingIs_13 (by decide) (by decide) (by decide) (by decide) ?_
        refine V.ald_n C dX5_thingIs_64 rfl ?_
        refine V.get C fg_RX5_173 dX5_thingIs_65 (hX.tt (show i < t by omega)) rfl ?_
        refine V.if_eq C (tgt := 75) dX5_thingIs_68 (by decide) (fun h68 => ?_) (fun h68 => ?_)
        · skip
          refine V.iconst C (x := 0) dX5_thingIs_75 (by decide) ?_
          exact V.iret X dX5_thingIs_76 rfl (by decide) (by decide) (pq (by unfold F_thingIs; rw [ok1_t hi (by omega), ok1_t hc (by omega)]; unfold thI; rw [cI_f (show ¬ (3 : Nat) = 0 by decide), cI_f (show ¬ (3 : Nat) = 1 by decide), cI_f (show ¬ (3 : Nat) = 2 by decide), cI_t rfl]; exact h68.symm))
        · skip
          refine V.iconst C (x := 1) dX5_thingIs_71 (by decide) ?_
          refine V.goto C (tgt := 76) dX5_thingIs_72 (by decide) ?_
          exact V.iret X dX5_thingIs_76 rfl (by decide) (by decide) (pq (by unfold F_thingIs; rw [ok1_t hi (by omega), ok1_t hc (by omega)]; unfold thI; rw [cI_f (show ¬ (3 : Nat) = 0 by decide), cI_f (show ¬ (3 : Nat) = 1 by decide), cI_f (show ¬ (3 : Nat) = 2 by decide), cI_t rfl]; exact ((hI.ct hi).2.2.2.1.resolve_left h68).symm))
      · skip
        refine V.ald_n C dX5_thingIs_0 rfl ?_
        refine V.ild_n C dX5_thingIs_1 rfl ?_
        refine V.callVp C mo_X5_thingAt im_X5_thingAt se_X5_thingAt ml_RX5_105 (ev_X5_thingAt_t hX hI (show i < t by omega)) dX5_thingIs_2 rfl rfl hX.x0 rfl rfl (Nat.le_of_ble_eq_true rfl) (RmOk.mk' (by decide) (by decide) (by decide) (by decide)) ⟨rfl, rfl⟩ ?_
        refine V.ast_n C dX5_thingIs_5 (Nat.le_of_ble_eq_true rfl) rfl ?_
        refine V.ald_n C dX5_thingIs_6 rfl ?_
        refine V.ifnonnull C (tgt := 12) dX5_thingIs_7 (by decide) ?_
        refine V.ild_n C dX5_thingIs_12 rfl ?_
        refine V.tableIn C (off := 64) (tgt := 77) dX5_thingIs_13 (by decide) (by decide) (by decide) (by decide) ?_
        refine V.ald_n C dX5_thingIs_77 rfl ?_
        refine V.get C fg_RX5_126 dX5_thingIs_78 (hX.tt (show i < t by omega)) rfl ?_
        refine V.callSp C mo_X5_orNoSuch sm_X5_orNoSuch ml_RX5_220 (ev_X5_orNoSuch _) dX5_thingIs_81 rfl rfl (Nat.le_of_ble_eq_true rfl) (RmOk.mk' (by decide) (by decide) (by decide) (by decide)) ⟨rfl, rfl⟩ ?_
        exact V.iret X dX5_thingIs_84 rfl (by decide) (by decide) (pq (by unfold F_thingIs; rw [ok1_t hi (by omega), ok1_t hc (by omega)]; unfold thI; rw [cI_f (show ¬ (4 : Nat) = 0 by decide), cI_f (show ¬ (4 : Nat) = 1 by decide), cI_f (show ¬ (4 : Nat) = 2 by decide), cI_f (show ¬ (4 : Nat) = 3 by decide)]))
    · skip
      refine V.ald_n C dX5_thingIs_0 rfl ?_
      refine V.ild_n C dX5_thingIs_1 rfl ?_
      refine V.callVp C mo_X5_thingAt im_X5_thingAt se_X5_thingAt ml_RX5_105 (ev_X5_thingAt_t hX hI (show i < t by omega)) dX5_thingIs_2 rfl rfl hX.x0 rfl rfl (Nat.le_of_ble_eq_true rfl) (RmOk.mk' (by decide) (by decide) (by decide) (by decide)) ⟨rfl, rfl⟩ ?_
      refine V.ast_n C dX5_thingIs_5 (Nat.le_of_ble_eq_true rfl) rfl ?_
      refine V.ald_n C dX5_thingIs_6 rfl ?_
      refine V.ifnonnull C (tgt := 12) dX5_thingIs_7 (by decide) ?_
      refine V.ild_n C dX5_thingIs_12 rfl ?_
      refine V.tableOut C (tgt := 85) dX5_thingIs_13 (by have q := hc; unfold isN at q; omega) (by decide) ?_
      refine V.iconst C (x := -1) dX5_thingIs_85 (by decide) ?_
      exact V.iret X dX5_thingIs_86 rfl (by decide) (by decide) (pq (by unfold F_thingIs; rw [ok1_t hi (by omega), ok1_f hc]))
  · skip
    refine V.ald_n C dX5_thingIs_0 rfl ?_
    refine V.ild_n C dX5_thingIs_1 rfl ?_
    refine V.callVp C mo_X5_thingAt im_X5_thingAt se_X5_thingAt ml_RX5_105 (ev_X5_thingAt_f hX hI hi) dX5_thingIs_2 rfl rfl hX.x0 rfl rfl (Nat.le_of_ble_eq_true rfl) (RmOk.mk' (by decide) (by decide) (by decide) (by decide)) ⟨rfl, rfl⟩ ?_
    refine V.ast_n C dX5_thingIs_5 (Nat.le_of_ble_eq_true rfl) rfl ?_
    refine V.ald_n C dX5_thingIs_6 rfl ?_
    refine V.ifnonnullN C dX5_thingIs_7 ?_
    refine V.iconst C (x := -1) dX5_thingIs_10 (by decide) ?_
    exact V.iret X dX5_thingIs_11 rfl (by decide) (by decide) (pq (by unfold F_thingIs; rw [ok1_f hi]))
theorem ev_X5_beingIs {g : GD} {r d t b : Nat} {A : ST} {da ta ba : Nat → Nat} {gr hc : Nat → Int32} {L : List AE} (hX : XR0 r d t b A da ta ba gr hc L) (hI : Inv r d t b A) (hR : Rl t b A gr hc) (x y : Int32) : EvP g mX5_beingIs [aR 0, aI x, aI y] L (some (aI (F_beingIs t b A x y))) := by
  refine Ev.of [some (aR 0), some (aI x), some (aI y), none] (by decide) rfl (Nat.le_of_ble_eq_true rfl) fun Z H0 C X => ?_
  have hN := hI.cn
  rcases isN_cases x b (by omega) with ⟨w, hw, rfl⟩ | hw
  · skip
    rcases isN_cases y 5 (by omega) with ⟨c, hc, rfl⟩ | hc
    · skip
      obtain rfl | rfl | rfl | rfl | rfl : c = 0 ∨ c = 1 ∨ c = 2 ∨ c = 3 ∨ c = 4 := by omega
      · skip
        refine V.ald_n C dX5_beingIs_0 rfl ?_
        refine V.ild_n C dX5_beingIs_1 rfl ?_
        refine V.callVp C mo_X5_beingAt im_X5_beingAt se_X5_beingAt ml_RX5_133 (ev_X5_beingAt_t hX hI (show w < b by omega)) dX5_beingIs_2 rfl rfl hX.x0 rfl rfl (Nat.le_of_ble_eq_true rfl) (RmOk.mk' (by decide) (by decide) (by decide) (by decide)) ⟨rfl, rfl⟩ ?_
        refine V.ast_n C dX5_beingIs_5 (Nat.le_of_ble_eq_true rfl) rfl ?_
        refine V.ald_n C dX5_beingIs_6 rfl ?_
        refine V.ifnonnull C (tgt := 12) dX5_beingIs_7 (by decide) ?_
        refine V.ild_n C dX5_beingIs_12 rfl ?_
        refine V.tableIn C (off := 35) (tgt := 48) dX5_beingIs_13 (by decide) (by decide) (by decide) (by decide) ?_
        refine V.ald_n C dX5_beingIs_48 rfl ?_
        refine V.get C fg_RX5_191 dX5_beingIs_49 (hX.bb (show w < b by omega)) rfl ?_
        exact V.iret X dX5_beingIs_52 rfl (by decide) (by decide) (pq (by unfold F_beingIs; rw [ok1_t hw (by omega), ok1_t hc (by omega)]; unfold beI; rw [cI_t rfl]))
      · skip
        refine V.ald_n C dX5_beingIs_0 rfl ?_
        refine V.ild_n C dX5_beingIs_1 rfl ?_
        refine V.callVp C mo_X5_beingAt im_X5_beingAt se_X5_beingAt ml_RX5_133 (ev_X5_beingAt_t hX hI (show w < b by omega)) dX5_beingIs_2 rfl rfl hX.x0 rfl rfl (Nat.le_of_ble_eq_true rfl) (RmOk.mk' (by decide) (by decide) (by decide) (by decide)) ⟨rfl, rfl⟩ ?_
        refine V.ast_n C dX5_beingIs_5 (Nat.le_of_ble_eq_true rfl) rfl ?_
        refine V.ald_n C dX5_beingIs_6 rfl ?_
        refine V.ifnonnull C (tgt := 12) dX5_beingIs_7 (by decide) ?_
        refine V.ild_n C dX5_beingIs_12 rfl ?_
        refine V.tableIn C (off := 40) (tgt := 53) dX5_beingIs_13 (by decide) (by decide) (by decide) (by decide) ?_
        rcases (hI.cb hw).2.1 with hw1 | ⟨k, hk, hw1, hk2⟩
        · skip
          refine V.ald_n C dX5_beingIs_53 rfl ?_
          refine V.get C fg_RX5_170 dX5_beingIs_54 (hX.bb (show w < b by omega)) rfl ?_
          refine V.topO (wref_neg hw1) ?_
          refine V.ifnonnullN C dX5_beingIs_57 ?_
          refine V.bipush C (x := -3) dX5_beingIs_60 (by decide) ?_
          refine V.goto C (tgt := 72) dX5_beingIs_62 (by decide) ?_
          exact V.iret X dX5_beingIs_72 rfl (by decide) (by decide) (pq (by unfold F_beingIs; rw [ok1_t hw (by omega), ok1_t hc (by omega)]; unfold beI; rw [cI_f (show ¬ (1 : Nat) = 0 by decide), cI_t rfl, cI_t hw1]))
        · skip
          refine V.ald_n C dX5_beingIs_53 rfl ?_
          refine V.get C fg_RX5_170 dX5_beingIs_54 (hX.bb (show w < b by omega)) rfl ?_
          refine V.topO (wref_k hw1 (by omega)) ?_
          refine V.ifnonnull C (tgt := 65) dX5_beingIs_57 (by decide) ?_
          refine V.ald_n C dX5_beingIs_65 rfl ?_
          refine V.get C fg_RX5_170 dX5_beingIs_66 (hX.bb (show w < b by omega)) rfl ?_
          refine V.topO (wref_k hw1 (by omega)) ?_
          refine V.get C fg_RX5_223 dX5_beingIs_69 (hX.tt hk) rfl ?_
          exact V.iret X dX5_beingIs_72 rfl (by decide) (by decide) (pq (by unfold F_beingIs; rw [ok1_t hw (by omega), ok1_t hc (by omega)]; unfold beI; rw [cI_f (show ¬ (1 : Nat) = 0 by decide), cI_t rfl, cI_f (fun q => nI_neg (show k < 2 ^ 31 by omega) (hw1.symm.trans q)), hw1]))
      · skip
        refine V.ald_n C dX5_beingIs_0 rfl ?_
        refine V.ild_n C dX5_beingIs_1 rfl ?_
        refine V.callVp C mo_X5_beingAt im_X5_beingAt se_X5_beingAt ml_RX5_133 (ev_X5_beingAt_t hX hI (show w < b by omega)) dX5_beingIs_2 rfl rfl hX.x0 rfl rfl (Nat.le_of_ble_eq_true rfl) (RmOk.mk' (by decide) (by decide) (by decide) (by decide)) ⟨rfl, rfl⟩ ?_
        refine V.ast_n C dX5_beingIs_5 (Nat.le_of_ble_eq_true rfl) rfl ?_
        refine V.ald_n C dX5_beingIs_6 rfl ?_
        refine V.ifnonnull C (tgt := 12) dX5_beingIs_7 (by decide) ?_
        refine V.ild_n C dX5_beingIs_12 rfl ?_
        refine V.tableIn C (off := 60) (tgt := 73) dX5_beingIs_13 (by decide) (by decide) (by decide) (by decide) ?_
        refine V.ald_n C dX5_beingIs_73 rfl ?_
        refine V.get C fg_RX5_226 dX5_beingIs_74 (hX.bb (show w < b by omega)) rfl ?_
        refine V.callSp C mo_X5_orNoSuch sm_X5_orNoSuch ml_RX5_220 (ev_X5_orNoSuch _) dX5_beingIs_77 rfl rfl (Nat.le_of_ble_eq_true rfl) (RmOk.mk' (by decide) (by decide) (by decide) (by decide)) ⟨rfl, rfl⟩ ?_
        exact V.iret X dX5_beingIs_80 rfl (by decide) (by decide) (pq (by unfold F_beingIs; rw [ok1_t hw (by omega), ok1_t hc (by omega)]; unfold beI; rw [cI_f (show ¬ (2 : Nat) = 0 by decide), cI_f (show ¬ (2 : Nat) = 1 by decide), cI_t rfl]))
      · skip
        refine V.ald_n C dX5_beingIs_0 rfl ?_
        refine V.ild_n C dX5_beingIs_1 rfl ?_
        refine V.callVp C mo_X5_beingAt im_X5_beingAt se_X5_beingAt ml_RX5_133 (ev_X5_beingAt_t hX hI (show w < b by omega)) dX5_beingIs_2 rfl rfl hX.x0 rfl rfl (Nat.le_of_ble_eq_true rfl) (RmOk.mk' (by decide) (by decide) (by decide) (by decide)) ⟨rfl, rfl⟩ ?_
        refine V.ast_n C dX5_beingIs_5 (Nat.le_of_ble_eq_true rfl) rfl ?_
        refine V.ald_n C dX5_beingIs_6 rfl ?_
        refine V.ifnonnull C (tgt := 12) dX5_beingIs_7 (by decide) ?_
        refine V.ild_n C dX5_beingIs_12 rfl ?_
        refine V.tableIn C (off := 68) (tgt := 81) dX5_beingIs_13 (by decide) (by decide) (by decide) (by decide) ?_
        refine V.ald_n C dX5_beingIs_81 rfl ?_
        refine V.get C fg_RX5_229 dX5_beingIs_82 (hX.bb (show w < b by omega)) rfl ?_
        exact V.iret X dX5_beingIs_85 rfl (by decide) (by decide) (pq (by unfold F_beingIs; rw [ok1_t hw (by omega), ok1_t hc (by omega)]; unfold beI; rw [cI_f (show ¬ (3 : Nat) = 0 by decide), cI_f (show ¬ (3 : Nat) = 1 by decide), cI_f (show ¬ (3 : Nat) = 2 by decide), cI_t rfl, hR.2.1 w hw]))
      · skip
        refine V.ald_n C dX5_beingIs_0 rfl ?_
        refine V.ild_n C dX5_beingIs_1 rfl ?_
        refine V.callVp C mo_X5_beingAt im_X5_beingAt se_X5_beingAt ml_RX5_133 (ev_X5_beingAt_t hX hI (show w < b by omega)) dX5_beingIs_2 rfl rfl hX.x0 rfl rfl (Nat.le_of_ble_eq_true rfl) (RmOk.mk' (by decide) (by decide) (by decide) (by decide)) ⟨rfl, rfl⟩ ?_
        refine V.ast_n C dX5_beingIs_5 (Nat.le_of_ble_eq_true rfl) rfl ?_
        refine V.ald_n C dX5_beingIs_6 rfl ?_
        refine V.ifnonnull C (tgt := 12) dX5_beingIs_7 (by decide) ?_
        refine V.ild_n C dX5_beingIs_12 rfl ?_
        refine V.tableIn C (off := 73) (tgt := 86) dX5_beingIs_13 (by decide) (by decide) (by decide) (by decide) ?_
        refine V.ald_n C dX5_beingIs_86 rfl ?_
        refine V.get C fg_RX5_232 dX5_beingIs_87 (hX.bb (show w < b by omega)) rfl ?_
        exact V.iret X dX5_beingIs_90 rfl (by decide) (by decide) (pq (by unfold F_beingIs; rw [ok1_t hw (by omega), ok1_t hc (by omega)]; unfold beI; rw [cI_f (show ¬ (4 : Nat) = 0 by decide), cI_f (show ¬ (4 : Nat) = 1 by decide), cI_f (show ¬ (4 : Nat) = 2 by decide), cI_f (show ¬ (4 : Nat) = 3 by decide)]))
    · skip
      refine V.ald_n C dX5_beingIs_0 rfl ?_
      refine V.ild_n C dX5_beingIs_1 rfl ?_
      refine V.callVp C mo_X5_beingAt im_X5_beingAt se_X5_beingAt ml_RX5_133 (ev_X5_beingAt_t hX hI (show w < b by omega)) dX5_beingIs_2 rfl rfl hX.x0 rfl rfl (Nat.le_of_ble_eq_true rfl) (RmOk.mk' (by decide) (by decide) (by decide) (by decide)) ⟨rfl, rfl⟩ ?_
      refine V.ast_n C dX5_beingIs_5 (Nat.le_of_ble_eq_true rfl) rfl ?_
      refine V.ald_n C dX5_beingIs_6 rfl ?_
      refine V.ifnonnull C (tgt := 12) dX5_beingIs_7 (by decide) ?_
      refine V.ild_n C dX5_beingIs_12 rfl ?_
      refine V.tableOut C (tgt := 91) dX5_beingIs_13 (by have q := hc; unfold isN at q; omega) (by decide) ?_
      refine V.iconst C (x := -1) dX5_beingIs_91 (by decide) ?_
      exact V.iret X dX5_beingIs_92 rfl (by decide) (by decide) (pq (by unfold F_beingIs; rw [ok1_t hw (by omega), ok1_f hc]))
  · skip
    refine V.ald_n C dX5_beingIs_0 rfl ?_
    refine V.ild_n C dX5_beingIs_1 rfl ?_
    refine V.callVp C mo_X5_beingAt im_X5_beingAt se_X5_beingAt ml_RX5_133 (ev_X5_beingAt_f hX hI hw) dX5_beingIs_2 rfl rfl hX.x0 rfl rfl (Nat.le_of_ble_eq_true rfl) (RmOk.mk' (by decide) (by decide) (by decide) (by decide)) ⟨rfl, rfl⟩ ?_
    refine V.ast_n C dX5_beingIs_5 (Nat.le_of_ble_eq_true rfl) rfl ?_
    refine V.ald_n C dX5_beingIs_6 rfl ?_
    refine V.ifnonnullN C dX5_beingIs_7 ?_
    refine V.iconst C (x := -1) dX5_beingIs_10 (by decide) ?_
    exact V.iret X dX5_beingIs_11 rfl (by decide) (by decide) (pq (by unfold F_beingIs; rw [ok1_f hw]))
theorem ev_X5_news {g : GD} {r d t b : Nat} {A : ST} {da ta ba : Nat → Nat} {gr hc : Nat → Int32} {L : List AE} (hX : XR0 r d t b A da ta ba gr hc L) (hI : Inv r d t b A) (x y : Int32) : EvP g mX5_news [aR 0, aI x, aI y] L (some (aI (F_news b A x y))) := by
  refine Ev.of [some (aR 0), some (aI x), some (aI y), none] (by decide) rfl (Nat.le_of_ble_eq_true rfl) fun Z H0 C X => ?_
  have hN := hI.cn
  rcases isN_cases x b (by omega) with ⟨w, hw, rfl⟩ | hw
  · skip
    refine V.ald_n C dX5_news_0 rfl ?_
    refine V.ild_n C dX5_news_1 rfl ?_
    refine V.callVp C mo_X5_beingAt im_X5_beingAt se_X5_beingAt ml_RX5_133 (ev_X5_beingAt_t hX hI (show w < b by omega)) dX5_news_2 rfl rfl hX.x0 rfl rfl (Nat.le_of_ble_eq_true rfl) (RmOk.mk' (by decide) (by decide) (by decide) (by decide)) ⟨rfl, rfl⟩ ?_
    refine V.ast_n C dX5_news_5 (Nat.le_of_ble_eq_true rfl) rfl ?_
    refine V.ald_n C dX5_news_6 rfl ?_
    refine V.ifnull C dX5_news_7 ?_
    obtain ⟨m, hm8, hm⟩ := (hI.cb hw).2.2.2
    rcases isN_cases y m (by omega) with ⟨j, hj, rfl⟩ | hj
    · skip
      refine V.ild_n C dX5_news_10 rfl ?_
      refine V.if_lt C (tgt := 22) dX5_news_11 (by decide) (fun h11 => absurd h11 (nI_pos (by omega))) (fun h11 => ?_)
      refine V.ild_n C dX5_news_14 rfl ?_
      refine V.ald_n C dX5_news_15 rfl ?_
      refine V.get C fg_RX5_232 dX5_news_16 (hX.bb (show w < b by omega)) rfl ?_
      refine V.top hm ?_
      refine V.icmpN_lt C (j) (m) (tgt := 24) dX5_news_19 (by decide) (by omega) (by omega) (fun h19 => ?_) (fun h19 => absurd hj h19)
      refine V.ald_n C dX5_news_24 rfl ?_
      refine V.get C fg_RX5_235 dX5_news_25 (hX.bb (show w < b by omega)) rfl ?_
      refine V.ild_n C dX5_news_28 rfl ?_
      refine V.ialdN C (N := 8) dX5_news_29 (hX.bl (show w < b by omega)) (by omega) (by decide) ?_
      refine V.top (newF_in (show j < 8 by omega)) ?_
      exact V.iret X dX5_news_30 rfl (by decide) (by decide) (pq (by unfold F_news; rw [ok1_t hw (by omega), hm, nI_clamp (show m < 2 ^ 31 by omega), ok1_t hj (by omega)]))
    · skip
      refine V.ild_n C dX5_news_10 rfl ?_
      refine V.if_lt C (tgt := 22) dX5_news_11 (by decide) (fun h11 => ?_) (fun h11 => ?_)
      · skip
        refine V.iconst C (x := -1) dX5_news_22 (by decide) ?_
        exact V.iret X dX5_news_23 rfl (by decide) (by decide) (pq (by unfold F_news; rw [ok1_t hw (by omega), hm, nI_clamp (show m < 2 ^ 31 by omega), ok1_f hj]))
      · skip
        refine V.ild_n C dX5_news_14 rfl ?_
        refine V.ald_n C dX5_news_15 rfl ?_
        refine V.get C fg_RX5_232 dX5_news_16 (hX.bb (show w < b by omega)) rfl ?_
        refine V.top hm ?_
        refine V.icmp_lt C (tgt := 24) dX5_news_19 (by decide) (fun h19 => absurd ((isN_lt (n := m) (by omega)).mpr ⟨h11, h19⟩) hj) (fun h19 => ?_)
        refine V.iconst C (x := -1) dX5_news_22 (by decide) ?_
        exact V.iret X dX5_news_23 rfl (by decide) (by decide) (pq (by unfold F_news; rw [ok1_t hw (by omega), hm, nI_clamp (show m < 2 ^ 31 by omega), ok1_f hj]))
  · skip
    refine V.ald_n C dX5_news_0 rfl ?_
    refine V.ild_n C dX5_news_1 rfl ?_
    refine V.callVp C mo_X5_beingAt im_X5_beingAt se_X5_beingAt ml_RX5_133 (ev_X5_beingAt_f hX hI hw) dX5_news_2 rfl rfl hX.x0 rfl rfl (Nat.le_of_ble_eq_true rfl) (RmOk.mk' (by decide) (by decide) (by decide) (by decide)) ⟨rfl, rfl⟩ ?_
    refine V.ast_n C dX5_news_5 (Nat.le_of_ble_eq_true rfl) rfl ?_
    refine V.ald_n C dX5_news_6 rfl ?_
    refine V.ifnullN C (tgt := 22) dX5_news_7 (by decide) ?_
    refine V.iconst C (x := -1) dX5_news_22 (by decide) ?_
    exact V.iret X dX5_news_23 rfl (by decide) (by decide) (pq (by unfold F_news; rw [ok1_f hw]))
theorem ev_X5_here {g : GD} {r d t b : Nat} {A : ST} {da ta ba : Nat → Nat} {gr hc : Nat → Int32} {L : List AE} (hX : XR0 r d t b A da ta ba gr hc L) (hI : Inv r d t b A) (hR : Rl t b A gr hc) (x y z : Int32) : EvP g mX5_here [aR 0, aI x, aI y, aI z] L (some (aI (F_here d t b A x y z))) := by
  refine Ev.of [some (aR 0), some (aI x), some (aI y), some (aI z), none] (by decide) rfl (Nat.le_of_ble_eq_true rfl) fun Z H0 C X => ?_
  have hN := hI.cn
  rcases isN_cases x b (by omega) with ⟨i, hi, rfl⟩ | hi
  · skip
    rcases isN_cases y 3 (by omega) with ⟨c, hc, rfl⟩ | hc
    · skip
      obtain rfl | rfl | rfl : c = 0 ∨ c = 1 ∨ c = 2 := by omega
      · skip
        rcases isN_cases z d (by omega) with ⟨j, hj, rfl⟩ | hj
        · skip
          refine V.ald_n C dX5_here_0 rfl ?_
          refine V.ild_n C dX5_here_1 rfl ?_
          refine V.callVp C mo_X5_beingAt im_X5_beingAt se_X5_beingAt ml_RX5_133 (ev_X5_beingAt_t hX hI (show i < b by omega)) dX5_here_2 rfl rfl hX.x0 rfl rfl (Nat.le_of_ble_eq_true rfl) (RmOk.mk' (by decide) (by decide) (by decide) (by decide)) ⟨rfl, rfl⟩ ?_
          refine V.ast C dX5_here_5 (Nat.le_of_ble_eq_true rfl) rfl ?_
          refine V.ald C dX5_here_7 rfl ?_
          refine V.ifnonnull C (tgt := 14) dX5_here_9 (by decide) ?_
          refine V.ild_n C dX5_here_14 rfl ?_
          refine V.tableIn C (off := 25) (tgt := 40) dX5_here_15 (by decide) (by decide) (by decide) (by decide) ?_
          refine V.ald C dX5_here_40 rfl ?_
          refine V.ald_n C dX5_here_42 rfl ?_
          refine V.ild_n C dX5_here_43 rfl ?_
          refine V.callVp C mo_X5_doorAt im_X5_doorAt se_X5_doorAt ml_RX5_101 (ev_X5_doorAt_t hX hI (show j < d by omega)) dX5_here_44 rfl rfl hX.x0 rfl rfl (Nat.le_of_ble_eq_true rfl) (RmOk.mk' (by decide) (by decide) (by decide) (by decide)) ⟨rfl, rfl⟩ ?_
          refine V.callSp C mo_X5_isDoorHere sm_X5_isDoorHere ml_RX5_137 (ev_X5_isDoorHere hX hI (show i < b by omega) (show j < d by omega)) dX5_here_47 rfl rfl (Nat.le_of_ble_eq_true rfl) (RmOk.mk' (by decide) (by decide) (by decide) (by decide)) ⟨rfl, rfl⟩ ?_
          exact V.iret X dX5_here_50 (b2_nar _) (by decide) (by decide) (pq (by unfold F_here; rw [ok1_t hi (by omega), ok1_t hc (by omega)]; unfold hrP; rw [cI_t rfl, ok1_t hj (by omega)]))
        · skip
          refine V.ald_n C dX5_here_0 rfl ?_
          refine V.ild_n C dX5_here_1 rfl ?_
          refine V.callVp C mo_X5_beingAt im_X5_beingAt se_X5_beingAt ml_RX5_133 (ev_X5_beingAt_t hX hI (show i < b by omega)) dX5_here_2 rfl rfl hX.x0 rfl rfl (Nat.le_of_ble_eq_true rfl) (RmOk.mk' (by decide) (by decide) (by decide) (by decide)) ⟨rfl, rfl⟩ ?_
          refine V.ast C dX5_here_5 (Nat.le_of_ble_eq_true rfl) rfl ?_
          refine V.ald C dX5_here_7 rfl ?_
          refine V.ifnonnull C (tgt := 14) dX5_here_9 (by decide) ?_
          refine V.ild_n C dX5_here_14 rfl ?_
          refine V.tableIn C (off := 25) (tgt := 40) dX5_here_15 (by decide) (by decide) (by decide) (by decide) ?_
          refine V.ald C dX5_here_40 rfl ?_
          refine V.ald_n C dX5_here_42 rfl ?_
          refine V.ild_n C dX5_here_43 rfl ?_
          refine V.callVp C mo_X5_doorAt im_X5_doorAt se_X5_doorAt ml_RX5_101 (ev_X5_doorAt_f hX hI hj) dX5_here_44 rfl rfl hX.x0 rfl rfl (Nat.le_of_ble_eq_true rfl) (RmOk.mk' (by decide) (by decide) (by decide) (by decide)) ⟨rfl, rfl⟩ ?_
          refine V.callSp C mo_X5_isDoorHere sm_X5_isDoorHere ml_RX5_137 (ev_X5_isDoorHere_n hX hI (show i < b by omega)) dX5_here_47 rfl rfl (Nat.le_of_ble_eq_true rfl) (RmOk.mk' (by decide) (by decide) (by decide) (by decide)) ⟨rfl, rfl⟩ ?_
          exact V.iret X dX5_here_50 rfl (by decide) (by decide) (pq (by unfold F_here; rw [ok1_t hi (by omega), ok1_t hc (by omega)]; unfold hrP; rw [cI_t rfl, ok1_f hj]))
      · skip
        rcases isN_cases z t (by omega) with ⟨j, hj, rfl⟩ | hj
        · skip
          refine V.ald_n C dX5_here_0 rfl ?_
          refine V.ild_n C dX5_here_1 rfl ?_
          refine V.callVp C mo_X5_beingAt im_X5_beingAt se_X5_beingAt ml_RX5_133 (ev_X5_beingAt_t hX hI (show i < b by omega)) dX5_here_2 rfl rfl hX.x0 rfl rfl (Nat.le_of_ble_eq_true rfl) (RmOk.mk' (by decide) (by decide) (by decide) (by decide)) ⟨rfl, rfl⟩ ?_
          refine V.ast C dX5_here_5 (Nat.le_of_ble_eq_true rfl) rfl ?_
          refine V.ald C dX5_here_7 rfl ?_
          refine V.ifnonnull C (tgt := 14) dX5_here_9 (by decide) ?_
          refine V.ild_n C dX5_here_14 rfl ?_
          refine V.tableIn C (off := 36) (tgt := 51) dX5_here_15 (by decide) (by decide) (by decide) (by decide) ?_
          refine V.ald_n C dX5_here_51 rfl ?_
          refine V.ald C dX5_here_52 rfl ?_
          refine V.ald_n C dX5_here_54 rfl ?_
          refine V.ild_n C dX5_here_55 rfl ?_
          refine V.callVp C mo_X5_thingAt im_X5_thingAt se_X5_thingAt ml_RX5_105 (ev_X5_thingAt_t hX hI (show j < t by omega)) dX5_here_56 rfl rfl hX.x0 rfl rfl (Nat.le_of_ble_eq_true rfl) (RmOk.mk' (by decide) (by decide) (by decide) (by decide)) ⟨rfl, rfl⟩ ?_
          refine V.callVp C mo_X5_isThingHere im_X5_isThingHere se_X5_isThingHere ml_RX5_156 (ev_X5_isThingHere hX hI hR (show i < b by omega) (show j < t by omega)) dX5_here_59 rfl rfl hX.x0 rfl rfl (Nat.le_of_ble_eq_true rfl) (RmOk.mk' (by decide) (by decide) (by decide) (by decide)) ⟨rfl, rfl⟩ ?_
          exact V.iret X dX5_here_62 (b2_nar _) (by decide) (by decide) (pq (by unfold F_here; rw [ok1_t hi (by omega), ok1_t hc (by omega)]; unfold hrP; rw [cI_f (by decide), cI_t rfl, ok1_t hj (by omega)]))
        · skip
          refine V.ald_n C dX5_here_0 rfl ?_
          refine V.ild_n C dX5_here_1 rfl ?_
          refine V.callVp C mo_X5_beingAt im_X5_beingAt se_X5_beingAt ml_RX5_133 (ev_X5_beingAt_t hX hI (show i < b by omega)) dX5_here_2 rfl rfl hX.x0 rfl rfl (Nat.le_of_ble_eq_true rfl) (RmOk.mk' (by decide) (by decide) (by decide) (by decide)) ⟨rfl, rfl⟩ ?_
          refine V.ast C dX5_here_5 (Nat.le_of_ble_eq_true rfl) rfl ?_
          refine V.ald C dX5_here_7 rfl ?_
          refine V.ifnonnull C (tgt := 14) dX5_here_9 (by decide) ?_
          refine V.ild_n C dX5_here_14 rfl ?_
          refine V.tableIn C (off := 36) (tgt := 51) dX5_here_15 (by decide) (by decide) (by decide) (by decide) ?_
          refine V.ald_n C dX5_here_51 rfl ?_
          refine V.ald C dX5_here_52 rfl ?_
          refine V.ald_n C dX5_here_54 rfl ?_
          refine V.ild_n C dX5_here_55 rfl ?_
          refine V.callVp C mo_X5_thingAt im_X5_thingAt se_X5_thingAt ml_RX5_105 (ev_X5_thingAt_f hX hI hj) dX5_here_56 rfl rfl hX.x0 rfl rfl (Nat.le_of_ble_eq_true rfl) (RmOk.mk' (by decide) (by decide) (by decide) (by decide)) ⟨rfl, rfl⟩ ?_
          refine V.callVp C mo_X5_isThingHere im_X5_isThingHere se_X5_isThingHere ml_RX5_156 (ev_X5_isThingHere_n hX hI (show i < b by omega)) dX5_here_59 rfl rfl hX.x0 rfl rfl (Nat.le_of_ble_eq_true rfl) (RmOk.mk' (by decide) (by decide) (by decide) (by decide)) ⟨rfl, rfl⟩ ?_
          exact V.iret X dX5_here_62 rfl (by decide) (by decide) (pq (by unfold F_here; rw [ok1_t hi (by omega), ok1_t hc (by omega)]; unfold hrP; rw [cI_f (by decide), cI_t rfl, ok1_f hj]))
      · skip
        rcases isN_cases z b (by omega) with ⟨j, hj, rfl⟩ | hj
        · skip
          refine V.ald_n C dX5_here_0 rfl ?_
          refine V.ild_n C dX5_here_1 rfl ?_
          refine V.callVp C mo_X5_beingAt im_X5_beingAt se_X5_beingAt ml_RX5_133 (ev_X5_beingAt_t hX hI (show i < b by omega)) dX5_here_2 rfl rfl hX.x0 rfl rfl (Nat.le_of_ble_eq_true rfl) (RmOk.mk' (by decide) (by decide) (by decide) (by decide)) ⟨rfl, rfl⟩ ?_
          refine V.ast C dX5_here_5 (Nat.le_of_ble_eq_true rfl) rfl ?_
          refine V.ald C dX5_here_7 rfl ?_
          refine V.ifnonnull C (tgt := 14) dX5_here_9 (by decide) ?_
          refine V.ild_n C dX5_here_14 rfl ?_
          refine V.tableIn C (off := 48) (tgt := 63) dX5_here_15 (by decide) (by decide) (by decide) (by decide) ?_
          refine V.ald C dX5_here_63 rfl ?_
          refine V.ald_n C dX5_here_65 rfl ?_
          refine V.ild_n C dX5_here_66 rfl ?_
          refine V.callVp C mo_X5_beingAt im_X5_beingAt se_X5_beingAt ml_RX5_133 (ev_X5_beingAt_t hX hI (show j < b by omega)) dX5_here_67 rfl rfl hX.x0 rfl rfl (Nat.le_of_ble_eq_true rfl) (RmOk.mk' (by decide) (by decide) (by decide) (by decide)) ⟨rfl, rfl⟩ ?_
          refine V.callSp C mo_X5_isBeingHere sm_X5_isBeingHere ml_RX5_238 (ev_X5_isBeingHere hX hI (show i < b by omega) (show j < b by omega)) dX5_here_70 rfl rfl (Nat.le_of_ble_eq_true rfl) (RmOk.mk' (by decide) (by decide) (by decide) (by decide)) ⟨rfl, rfl⟩ ?_
          exact V.iret X dX5_here_73 (b2_nar _) (by decide) (by decide) (pq (by unfold F_here; rw [ok1_t hi (by omega), ok1_t hc (by omega)]; unfold hrP; rw [cI_f (by decide), cI_f (by decide), ok1_t hj (by omega)]))
        · skip
          refine V.ald_n C dX5_here_0 rfl ?_
          refine V.ild_n C dX5_here_1 rfl ?_
          refine V.callVp C mo_X5_beingAt im_X5_beingAt se_X5_beingAt ml_RX5_133 (ev_X5_beingAt_t hX hI (show i < b by omega)) dX5_here_2 rfl rfl hX.x0 rfl rfl (Nat.le_of_ble_eq_true rfl) (RmOk.mk' (by decide) (by decide) (by decide) (by decide)) ⟨rfl, rfl⟩ ?_
          refine V.ast C dX5_here_5 (Nat.le_of_ble_eq_true rfl) rfl ?_
          refine V.ald C dX5_here_7 rfl ?_
          refine V.ifnonnull C (tgt := 14) dX5_here_9 (by decide) ?_
          refine V.ild_n C dX5_here_14 rfl ?_
          refine V.tableIn C (off := 48) (tgt := 63) dX5_here_15 (by decide) (by decide) (by decide) (by decide) ?_
          refine V.ald C dX5_here_63 rfl ?_
          refine V.ald_n C dX5_here_65 rfl ?_
          refine V.ild_n C dX5_here_66 rfl ?_
          refine V.callVp C mo_X5_beingAt im_X5_beingAt se_X5_beingAt ml_RX5_133 (ev_X5_beingAt_f hX hI hj) dX5_here_67 rfl rfl hX.x0 rfl rfl (Nat.le_of_ble_eq_true rfl) (RmOk.mk' (by decide) (by decide) (by decide) (by decide)) ⟨rfl, rfl⟩ ?_
          refine V.callSp C mo_X5_isBeingHere sm_X5_isBeingHere ml_RX5_238 (ev_X5_isBeingHere_n hX hI (show i < b by omega)) dX5_here_70 rfl rfl (Nat.le_of_ble_eq_true rfl) (RmOk.mk' (by decide) (by decide) (by decide) (by decide)) ⟨rfl, rfl⟩ ?_
          exact V.iret X dX5_here_73 rfl (by decide) (by decide) (pq (by unfold F_here; rw [ok1_t hi (by omega), ok1_t hc (by omega)]; unfold hrP; rw [cI_f (by decide), cI_f (by decide), ok1_f hj]))
    · skip
      refine V.ald_n C dX5_here_0 rfl ?_
      refine V.ild_n C dX5_here_1 rfl ?_
      refine V.callVp C mo_X5_beingAt im_X5_beingAt se_X5_beingAt ml_RX5_133 (ev_X5_beingAt_t hX hI (show i < b by omega)) dX5_here_2 rfl rfl hX.x0 rfl rfl (Nat.le_of_ble_eq_true rfl) (RmOk.mk' (by decide) (by decide) (by decide) (by decide)) ⟨rfl, rfl⟩ ?_
      refine V.ast C dX5_here_5 (Nat.le_of_ble_eq_true rfl) rfl ?_
      refine V.ald C dX5_here_7 rfl ?_
      refine V.ifnonnull C (tgt := 14) dX5_here_9 (by decide) ?_
      refine V.ild_n C dX5_here_14 rfl ?_
      refine V.tableOut C (tgt := 74) dX5_here_15 (by have q := hc; unfold isN at q; omega) (by decide) ?_
      refine V.iconst C (x := 0) dX5_here_74 (by decide) ?_
      exact V.iret X dX5_here_75 rfl (by decide) (by decide) (pq (by unfold F_here; rw [ok1_t hi (by omega), ok1_f hc]))
  · skip
    refine V.ald_n C dX5_here_0 rfl ?_
    refine V.ild_n C dX5_here_1 rfl ?_
    refine V.callVp C mo_X5_beingAt im_X5_beingAt se_X5_beingAt ml_RX5_133 (ev_X5_beingAt_f hX hI hi) dX5_here_2 rfl rfl hX.x0 rfl rfl (Nat.le_of_ble_eq_true rfl) (RmOk.mk' (by decide) (by decide) (by decide) (by decide)) ⟨rfl, rfl⟩ ?_
    refine V.ast C dX5_here_5 (Nat.le_of_ble_eq_true rfl) rfl ?_
    refine V.ald C dX5_here_7 rfl ?_
    refine V.ifnonnullN C dX5_here_9 ?_
    refine V.iconst C (x := 0) dX5_here_12 (by decide) ?_
    exact V.iret X dX5_here_13 rfl (by decide) (by decide) (pq (by unfold F_here; rw [ok1_f hi]))
theorem ev_X5_count {g : GD} {r d t b : Nat} {A : ST} {da ta ba : Nat → Nat} {gr hc : Nat → Int32} {L : List AE} (hX : XR0 r d t b A da ta ba gr hc L) (hI : Inv r d t b A) (x : Int32) : EvP g mX5_count [aR 0, aI x] L (some (aI (F_count r d t b A x))) := by
  refine Ev.of [some (aR 0), some (aI x)] (by decide) rfl (Nat.le_of_ble_eq_true rfl) fun Z H0 C X => ?_
  have hN := hI.cn
  rcases isN_cases x 6 (by omega) with ⟨c, hc, rfl⟩ | hc
  · skip
    obtain rfl | rfl | rfl | rfl | rfl | rfl : c = 0 ∨ c = 1 ∨ c = 2 ∨ c = 3 ∨ c = 4 ∨ c = 5 := by omega
    · skip
      refine V.ild_n C dX5_count_0 rfl ?_
      refine V.tableIn C (off := 39) (tgt := 40) dX5_count_1 (by decide) (by decide) (by decide) (by decide) ?_
      refine V.ald_n C dX5_count_40 rfl ?_
      refine V.get C fg_RX5_57 dX5_count_41 hX.x0 rfl ?_
      exact V.iret X dX5_count_44 rfl (by decide) (by decide) (pq (by unfold F_count; rw [ok1_t hc (by omega)]; unfold ctI; rw [cI_t rfl]))
    · skip
      refine V.ild_n C dX5_count_0 rfl ?_
      refine V.tableIn C (off := 44) (tgt := 45) dX5_count_1 (by decide) (by decide) (by decide) (by decide) ?_
      refine V.ald_n C dX5_count_45 rfl ?_
      refine V.get C fg_RX5_65 dX5_count_46 hX.x0 rfl ?_
      exact V.iret X dX5_count_49 rfl (by decide) (by decide) (pq (by unfold F_count; rw [ok1_t hc (by omega)]; unfold ctI; rw [cI_f (by decide), cI_t rfl]))
    · skip
      refine V.ild_n C dX5_count_0 rfl ?_
      refine V.tableIn C (off := 49) (tgt := 50) dX5_count_1 (by decide) (by decide) (by decide) (by decide) ?_
      refine V.ald_n C dX5_count_50 rfl ?_
      refine V.get C fg_RX5_120 dX5_count_51 hX.x0 rfl ?_
      exact V.iret X dX5_count_54 rfl (by decide) (by decide) (pq (by unfold F_count; rw [ok1_t hc (by omega)]; unfold ctI; rw [cI_f (by decide), cI_f (by decide), cI_t rfl]))
    · skip
      refine V.ild_n C dX5_count_0 rfl ?_
      refine V.tableIn C (off := 54) (tgt := 55) dX5_count_1 (by decide) (by decide) (by decide) (by decide) ?_
      refine V.ald_n C dX5_count_55 rfl ?_
      refine V.get C fg_RX5_129 dX5_count_56 hX.x0 rfl ?_
      exact V.iret X dX5_count_59 rfl (by decide) (by decide) (pq (by unfold F_count; rw [ok1_t hc (by omega)]; unfold ctI; rw [cI_f (by decide), cI_f (by decide), cI_f (by decide), cI_t rfl]))
    · skip
      refine V.ild_n C dX5_count_0 rfl ?_
      refine V.tableIn C (off := 59) (tgt := 60) dX5_count_1 (by decide) (by decide) (by decide) (by decide) ?_
      refine V.ald_n C dX5_count_60 rfl ?_
      refine V.iconst C (x := 0) dX5_count_61 (by decide) ?_
      refine V.callVp C mo_X5_countWays im_X5_countWays se_X5_countWays ml_RX5_242 (ev_X5_countWays4 hX hI) dX5_count_62 rfl rfl hX.x0 rfl rfl (Nat.le_of_ble_eq_true rfl) (RmOk.mk' (by decide) (by decide) (by decide) (by decide)) ⟨rfl, rfl⟩ ?_
      exact V.iret X dX5_count_65 rfl (by decide) (by decide) (pq (by unfold F_count; rw [ok1_t hc (by omega)]; unfold ctI; rw [cI_f (by decide), cI_f (by decide), cI_f (by decide), cI_f (by decide), cI_t rfl]))
    · skip
      refine V.ild_n C dX5_count_0 rfl ?_
      refine V.tableIn C (off := 65) (tgt := 66) dX5_count_1 (by decide) (by decide) (by decide) (by decide) ?_
      refine V.ald_n C dX5_count_66 rfl ?_
      refine V.iconst C (x := 1) dX5_count_67 (by decide) ?_
      refine V.callVp C mo_X5_countWays im_X5_countWays se_X5_countWays ml_RX5_242 (ev_X5_countWays5 hX hI) dX5_count_68 rfl rfl hX.x0 rfl rfl (Nat.le_of_ble_eq_true rfl) (RmOk.mk' (by decide) (by decide) (by decide) (by decide)) ⟨rfl, rfl⟩ ?_
      exact V.iret X dX5_count_71 rfl (by decide) (by decide) (pq (by unfold F_count; rw [ok1_t hc (by omega)]; unfold ctI; rw [cI_f (by decide), cI_f (by decide), cI_f (by decide), cI_f (by decide), cI_f (by decide)]))
  · skip
    refine V.ild_n C dX5_count_0 rfl ?_
    refine V.tableOut C (tgt := 72) dX5_count_1 (by have q := hc; unfold isN at q; omega) (by decide) ?_
    refine V.iconst C (x := -1) dX5_count_72 (by decide) ?_
    exact V.iret X dX5_count_73 rfl (by decide) (by decide) (pq (by unfold F_count; rw [ok1_f hc]))
