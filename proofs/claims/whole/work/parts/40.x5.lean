theorem ev_X0_hear {g : GD} {r d t b : Nat} {A : ST} {da ta ba : Nat → Nat} {gr hc : Nat → Int32} {L : List AE} (hX : XR0 r d t b A da ta ba gr hc L) {w : Nat} (hw : w < b) (h21 : ∃ k, k ≤ 8 ∧ A 21 w = nI k) (x : Int32) : Ev g mX0_hear [aR (ba w), aI x] L (fun v L1 => v = none ∧ XR0 r d t b (tlA A w x) da ta ba gr hc L1 ∧ FrX L L1) := by
  refine Ev.of [some (aR (ba w)), some (aI x)] (by decide) rfl (Nat.le_of_ble_eq_true rfl) fun Z H0 C X => ?_
  have hF : FrX L L := FrX.rf
  obtain ⟨m, hm8, hm⟩ := h21
  have h46 := hX.b46 hw
  refine V.ald_n C dX0_hear_0 rfl ?_
  refine V.get C fg_RX0_9 dX0_hear_1 (hX.bb hw) rfl ?_
  refine V.iconst C (x := 0) dX0_hear_4 (by decide) ?_
  refine V.ald_n C dX0_hear_5 rfl ?_
  refine V.get C fg_RX0_9 dX0_hear_6 (hX.bb hw) rfl ?_
  refine V.iconst C (x := 1) dX0_hear_9 (by decide) ?_
  refine V.bipush C (x := 7) dX0_hear_10 (by decide) ?_
  refine V.copyI C (L' := L.set (ba w + 1) (eA 0 8 (va_cpy (newF A w) (newF A w) 0 1 7))) ml_RX0_25 dX0_hear_12 (hX.bl hw) (by decide) (by decide) (by decide) (by decide) (by decide) (by decide) (Nat.le_of_ble_eq_true rfl) rfl ?_
  refine V.ald_n C dX0_hear_15 rfl ?_
  refine V.get C fg_RX0_9 dX0_hear_16 ((get_ne (by omega)).trans (hX.bb hw)) rfl ?_
  refine V.iconst C (x := 0) dX0_hear_19 (by decide) ?_
  refine V.ild_n C dX0_hear_20 rfl ?_
  refine V.iastN C (N := 8) (j := 0) dX0_hear_21 (get_set (hX.bl hw)) (by omega) (by decide) ?_
  rw [List.set_set, hear_eq]
  have hX := hX.setN hw (A' := (up2 (shA A w 0) 20 (8 * w) x)) (fun j hj => hear_o hj) (fun k j _ hk hj => hear_k hk hj)
  have hF := hF.st (e := eA 0 8 (newF (up2 (shA A w 0) 20 (8 * w) x) w)) (Or.inr (show 46 ≤ ba w + 1 by omega))
  have e21 : (up2 (shA A w 0) 20 (8 * w) x) 21 w = nI m := by rw [hear_o (by decide)]; exact hm
  refine V.ald_n C dX0_hear_22 rfl ?_
  refine V.ald_n C dX0_hear_23 rfl ?_
  refine V.get C fg_RX0_31 dX0_hear_24 (hX.bb hw) rfl ?_
  refine V.top e21 ?_
  refine V.bipush C (x := 8) dX0_hear_27 (by decide) ?_
  refine V.icmpN_ge C (m) (8) (tgt := 41) dX0_hear_29 (by decide) (by omega) (by omega) (fun h29 => ?_) (fun h29 => ?_)
  · skip
    refine V.bipush C (x := 8) dX0_hear_41 (by decide) ?_
    refine V.putB C hX hF hw fl_RX0_31 dX0_hear_43 ⟨rfl, rfl⟩ (by decide) (hc) (A' := up2 (up2 (shA A w 0) 20 (8 * w) x) 21 w 8) (agr_up (by decide) agr_rf) (fun _ _ => rfl) bset4 (fun L hX hF => ?_)
    exact V.vret X dX0_hear_46 (by decide) (by decide) ⟨rfl, by unfold tlA; rw [hm, tl_v hm8, if_neg (by omega)]; exact hX, hF⟩
  · skip
    refine V.ald_n C dX0_hear_32 rfl ?_
    refine V.get C fg_RX0_31 dX0_hear_33 (hX.bb hw) rfl ?_
    refine V.top e21 ?_
    refine V.iconst C (x := 1) dX0_hear_36 (by decide) ?_
    refine V.iadd C dX0_hear_37 ?_
    refine V.top (nI_add m 1) ?_
    refine V.goto C (tgt := 43) dX0_hear_38 (by decide) ?_
    refine V.putB C hX hF hw fl_RX0_31 dX0_hear_43 ⟨rfl, rfl⟩ (by decide) (hc) (A' := up2 (up2 (shA A w 0) 20 (8 * w) x) 21 w (nI (m + 1))) (agr_up (by decide) agr_rf) (fun _ _ => rfl) bset4 (fun L hX hF => ?_)
    exact V.vret X dX0_hear_46 (by decide) (by decide) ⟨rfl, by unfold tlA; rw [hm, tl_v hm8, if_pos (by omega)]; exact hX, hF⟩
theorem ev_X2_advance {g : GD} {r d t b : Nat} {A : ST} {da ta ba : Nat → Nat} {gr hc : Nat → Int32} {L : List AE} (hX : XR0 r d t b A da ta ba gr hc L) {i m q : Nat} (hi : i < 5) (hm : A 23 i = nI m) (hm4 : m ≤ 4) (hq : A 24 i = nI q) (hqm : q < m) : Ev g mX2_advance [aR (13 + 2 * i)] L (fun v L1 => v = none ∧ XR0 r d t b (up2 A 24 i (nI ((q + 1) % m))) da ta ba gr hc L1 ∧ FrX L L1) := by
  refine Ev.of [some (aR (13 + 2 * i))] (by decide) rfl (Nat.le_of_ble_eq_true rfl) fun Z H0 C X => ?_
  have hF : FrX L L := FrX.rf
  refine V.ald_n C dX2_advance_0 rfl ?_
  refine V.ald_n C dX2_advance_1 rfl ?_
  refine V.get C fg_RX2_19 dX2_advance_2 (hX.rl hi) rfl ?_
  refine V.top hq ?_
  refine V.iconst C (x := 1) dX2_advance_5 (by decide) ?_
  refine V.iadd C dX2_advance_6 ?_
  refine V.top (nI_add q 1) ?_
  refine V.ald_n C dX2_advance_7 rfl ?_
  refine V.get C fg_RX2_15 dX2_advance_8 (hX.rl hi) rfl ?_
  refine V.top hm ?_
  refine V.icmpN_ge C (q + 1) (m) (tgt := 23) dX2_advance_11 (by decide) (by omega) (by omega) (fun h11 => ?_) (fun h11 => ?_)
  · skip
    refine V.iconst C (x := 0) dX2_advance_23 (by decide) ?_
    refine V.putR C hX hF hi fl_RX2_19 dX2_advance_24 ⟨rfl, rfl⟩ (by decide) (A' := up2 A 24 i 0) (agr_up (by decide) agr_rf) rset2 (fun L hX hF => ?_)
    exact V.vret X dX2_advance_27 (by decide) (by decide) ⟨rfl, by rw [show (q + 1) % m = 0 by rw [show q + 1 = m by omega]; exact Nat.mod_self m]; exact hX, hF⟩
  · skip
    refine V.ald_n C dX2_advance_14 rfl ?_
    refine V.get C fg_RX2_19 dX2_advance_15 (hX.rl hi) rfl ?_
    refine V.top hq ?_
    refine V.iconst C (x := 1) dX2_advance_18 (by decide) ?_
    refine V.iadd C dX2_advance_19 ?_
    refine V.top (nI_add q 1) ?_
    refine V.goto C (tgt := 24) dX2_advance_20 (by decide) ?_
    refine V.putR C hX hF hi fl_RX2_19 dX2_advance_24 ⟨rfl, rfl⟩ (by decide) (A' := up2 A 24 i (nI (q + 1))) (agr_up (by decide) agr_rf) rset2 (fun L hX hF => ?_)
    exact V.vret X dX2_advance_27 (by decide) (by decide) ⟨rfl, by rw [Nat.mod_eq_of_lt (by omega)]; exact hX, hF⟩
theorem ev_X5_takeTurn {g : GD} {r d t b : Nat} {A : ST} {da ta ba : Nat → Nat} {gr hc : Nat → Int32} {L : List AE} (hX : XR0 r d t b A da ta ba gr hc L) (hI : Inv r d t b A) {i j : Nat} (hi : i < r) (hj : j < 8) (hne : ∀ k m, k < 5 → A 2 (8 * i + j) = nI (300 + k) → A 23 k = nI m → m ≠ 0) : Ev g mX5_takeTurn [aR 0, aI (A 2 (8 * i + j))] L (fun v L1 => v = none ∧ XR0 r d t b (tnA A i j) da ta ba gr hc L1 ∧ FrX L L1) := by
  refine Ev.of [some (aR 0), some (aI (A 2 (8 * i + j))), none] (by decide) rfl (Nat.le_of_ble_eq_true rfl) fun Z H0 C X => ?_
  have hN := hI.cn
  have hF : FrX L L := FrX.rf
  generalize hy : A 2 (8 * i + j) = y
  rcases (show wOk r d A i y from hy ▸ hI.cw hi hj) with hw | ⟨k, hk, hw⟩ | ⟨k, hk, hw, hs⟩ | ⟨k, hk, hw⟩ | ⟨k, hk, hw⟩ <;> (subst hw; have hw := hy)
  · skip
    refine V.ald_n C dX5_takeTurn_0 rfl ?_
    refine V.ild_n C dX5_takeTurn_1 rfl ?_
    refine V.callVp C mo_X5_ruleOfWay im_X5_ruleOfWay se_X5_ruleOfWay ml_RX5_255 (ev_X5_ruleOfWay_f hX hI (by decide)) dX5_takeTurn_2 rfl rfl hX.x0 rfl rfl (Nat.le_of_ble_eq_true rfl) (RmOk.mk' (by decide) (by decide) (by decide) (by decide)) ⟨rfl, rfl⟩ ?_
    refine V.ast_n C dX5_takeTurn_5 (Nat.le_of_ble_eq_true rfl) rfl ?_
    refine V.ald_n C dX5_takeTurn_6 rfl ?_
    refine V.ifnullN C (tgt := 14) dX5_takeTurn_7 (by decide) ?_
    exact V.vret X dX5_takeTurn_14 (by decide) (by decide) ⟨rfl, by rw [tnA_lt (by rw [hw]; decide)]; exact hX, hF⟩
  · skip
    refine V.ald_n C dX5_takeTurn_0 rfl ?_
    refine V.ild_n C dX5_takeTurn_1 rfl ?_
    refine V.callVp C mo_X5_ruleOfWay im_X5_ruleOfWay se_X5_ruleOfWay ml_RX5_255 (ev_X5_ruleOfWay_n hX hI (show k < 300 by omega)) dX5_takeTurn_2 rfl rfl hX.x0 rfl rfl (Nat.le_of_ble_eq_true rfl) (RmOk.mk' (by decide) (by decide) (by decide) (by decide)) ⟨rfl, rfl⟩ ?_
    refine V.ast_n C dX5_takeTurn_5 (Nat.le_of_ble_eq_true rfl) rfl ?_
    refine V.ald_n C dX5_takeTurn_6 rfl ?_
    refine V.ifnullN C (tgt := 14) dX5_takeTurn_7 (by decide) ?_
    exact V.vret X dX5_takeTurn_14 (by decide) (by decide) ⟨rfl, by rw [tnA_lt (by rw [hw]; exact ylt (b := 300) (by omega) (by omega) (by omega))]; exact hX, hF⟩
  · skip
    refine V.ald_n C dX5_takeTurn_0 rfl ?_
    refine V.ild_n C dX5_takeTurn_1 rfl ?_
    refine V.callVp C mo_X5_ruleOfWay im_X5_ruleOfWay se_X5_ruleOfWay ml_RX5_255 (ev_X5_ruleOfWay_n hX hI (show 100 + k < 300 by omega)) dX5_takeTurn_2 rfl rfl hX.x0 rfl rfl (Nat.le_of_ble_eq_true rfl) (RmOk.mk' (by decide) (by decide) (by decide) (by decide)) ⟨rfl, rfl⟩ ?_
    refine V.ast_n C dX5_takeTurn_5 (Nat.le_of_ble_eq_true rfl) rfl ?_
    refine V.ald_n C dX5_takeTurn_6 rfl ?_
    refine V.ifnullN C (tgt := 14) dX5_takeTurn_7 (by decide) ?_
    exact V.vret X dX5_takeTurn_14 (by decide) (by decide) ⟨rfl, by rw [tnA_lt (by rw [hw]; exact ylt (b := 300) (by omega) (by omega) (by omega))]; exact hX, hF⟩
  · skip
    refine V.ald_n C dX5_takeTurn_0 rfl ?_
    refine V.ild_n C dX5_takeTurn_1 rfl ?_
    refine V.callVp C mo_X5_ruleOfWay im_X5_ruleOfWay se_X5_ruleOfWay ml_RX5_255 (ev_X5_ruleOfWay_n hX hI (show 200 + k < 300 by omega)) dX5_takeTurn_2 rfl rfl hX.x0 rfl rfl (Nat.le_of_ble_eq_true rfl) (RmOk.mk' (by decide) (by decide) (by decide) (by decide)) ⟨rfl, rfl⟩ ?_
    refine V.ast_n C dX5_takeTurn_5 (Nat.le_of_ble_eq_true rfl) rfl ?_
    refine V.ald_n C dX5_takeTurn_6 rfl ?_
    refine V.ifnullN C (tgt := 14) dX5_takeTurn_7 (by decide) ?_
    exact V.vret X dX5_takeTurn_14 (by decide) (by decide) ⟨rfl, by rw [tnA_lt (by rw [hw]; exact ylt (b := 300) (by omega) (by omega) (by omega))]; exact hX, hF⟩
  · skip
    refine V.ald_n C dX5_takeTurn_0 rfl ?_
    refine V.ild_n C dX5_takeTurn_1 rfl ?_
    refine V.callVp C mo_X5_ruleOfWay im_X5_ruleOfWay se_X5_ruleOfWay ml_RX5_255 (ev_X5_ruleOfWay_t hX hI (show k < 5 by omega)) dX5_takeTurn_2 rfl rfl hX.x0 rfl rfl (Nat.le_of_ble_eq_true rfl) (RmOk.mk' (by decide) (by decide) (by decide) (by decide)) ⟨rfl, rfl⟩ ?_
    refine V.ast_n C dX5_takeTurn_5 (Nat.le_of_ble_eq_true rfl) rfl ?_
    refine V.ald_n C dX5_takeTurn_6 rfl ?_
    refine V.ifnull C dX5_takeTurn_7 ?_
    refine V.ald_n C dX5_takeTurn_10 rfl ?_
    obtain ⟨m, q, hm, e1, e2, hq, -⟩ := hI.cr hk
    have hqm : q < m := hq.elim id (fun z => absurd z.1 (hne k m hk hw e1))
    refine V.callV C mo_X2_advance im_X2_advance se_X2_advance ml_RX5_315 (ev_X2_advance hX hk e1 hm e2 hqm) dX5_takeTurn_11 rfl rfl (hX.rl (show k < 5 by omega)) rfl rfl (Nat.le_of_ble_eq_true rfl) (RmOk.mk' (by decide) (by decide) (by decide) (by decide)) (fun v L1 hq => ?_)
    obtain ⟨rfl, hX, hF2⟩ := hq
    have hF := hF.tr hF2
    exact V.vret X dX5_takeTurn_14 (by decide) (by decide) ⟨rfl, by rw [tnA_rule hw hk e2 (by omega) e1 (by omega)]; exact hX, hF⟩
theorem ev_X5_obstacleOf {g : GD} {r d t b : Nat} {A : ST} {da ta ba : Nat → Nat} {gr hc : Nat → Int32} {L : List AE} (hX : XR0 r d t b A da ta ba gr hc L) (hI : Inv r d t b A) {i j : Nat} (hi : i < r) (hj : j < 8) : EvP g mX5_obstacleOf [aR 0, aI (A 2 (8 * i + j))] L (some (aI (obT A i j))) := by
  refine Ev.of [some (aR 0), some (aI (A 2 (8 * i + j))), none, none] (by decide) rfl (Nat.le_of_ble_eq_true rfl) fun Z H0 C X => ?_
  have hN := hI.cn
  generalize hy : A 2 (8 * i + j) = y
  rcases (show wOk r d A i y from hy ▸ hI.cw hi hj) with hw | ⟨k, hk, hw⟩ | ⟨k, hk, hw, hs⟩ | ⟨k, hk, hw⟩ | ⟨k, hk, hw⟩ <;> (subst hw; have hw := hy)
  · skip
    refine V.ild_n C dX5_obstacleOf_0 rfl ?_
    refine V.iconst C (x := -1) dX5_obstacleOf_1 (by decide) ?_
    refine V.icmp_ne C (tgt := 8) dX5_obstacleOf_2 (by decide) (fun h2 => absurd h2 (by decide)) (fun h2 => ?_)
    refine V.bipush C (x := 25) dX5_obstacleOf_5 (by decide) ?_
    exact V.iret X dX5_obstacleOf_7 rfl (by decide) (by decide) (pq (ob_neg hw).symm)
  · skip
    refine V.ild_n C dX5_obstacleOf_0 rfl ?_
    refine V.iconst C (x := -1) dX5_obstacleOf_1 (by decide) ?_
    refine V.icmp_ne C (tgt := 8) dX5_obstacleOf_2 (by decide) (fun h2 => ?_) (fun h2 => absurd h2 (nI_neg (by omega)))
    refine V.ild_n C dX5_obstacleOf_8 rfl ?_
    refine V.sipush C (x := 200) dX5_obstacleOf_9 (by decide) ?_
    refine V.icmpN_lt C (k) (200) (tgt := 31) dX5_obstacleOf_12 (by decide) (by omega) (by omega) (fun h12 => ?_) (fun h12 => absurd h12 (by omega))
    refine V.ald_n C dX5_obstacleOf_31 rfl ?_
    refine V.ild_n C dX5_obstacleOf_32 rfl ?_
    refine V.callVp C mo_X5_doorOfWay im_X5_doorOfWay se_X5_doorOfWay ml_RX5_249 (ev_X5_doorOfWay_n hX hI (show k < 100 ∨ (200 ≤ k ∧ k < 2 ^ 31) by omega)) dX5_obstacleOf_33 rfl rfl hX.x0 rfl rfl (Nat.le_of_ble_eq_true rfl) (RmOk.mk' (by decide) (by decide) (by decide) (by decide)) ⟨rfl, rfl⟩ ?_
    refine V.ast_n C dX5_obstacleOf_36 (Nat.le_of_ble_eq_true rfl) rfl ?_
    refine V.ald_n C dX5_obstacleOf_37 rfl ?_
    refine V.ifnullN C (tgt := 46) dX5_obstacleOf_38 (by decide) ?_
    refine V.ald_n C dX5_obstacleOf_46 rfl ?_
    refine V.ild_n C dX5_obstacleOf_47 rfl ?_
    refine V.callVp C mo_X5_ruleOfWay im_X5_ruleOfWay se_X5_ruleOfWay ml_RX5_255 (ev_X5_ruleOfWay_n hX hI (show k < 300 by omega)) dX5_obstacleOf_48 rfl rfl hX.x0 rfl rfl (Nat.le_of_ble_eq_true rfl) (RmOk.mk' (by decide) (by decide) (by decide) (by decide)) ⟨rfl, rfl⟩ ?_
    refine V.ast_n C dX5_obstacleOf_51 (Nat.le_of_ble_eq_true rfl) rfl ?_
    refine V.ald_n C dX5_obstacleOf_52 rfl ?_
    refine V.ifnullN C (tgt := 68) dX5_obstacleOf_53 (by decide) ?_
    refine V.iconst C (x := 0) dX5_obstacleOf_68 (by decide) ?_
    exact V.iret X dX5_obstacleOf_69 rfl (by decide) (by decide) (pq (ob_room hw (by omega)).symm)
  · skip
    refine V.ild_n C dX5_obstacleOf_0 rfl ?_
    refine V.iconst C (x := -1) dX5_obstacleOf_1 (by decide) ?_
    refine V.icmp_ne C (tgt := 8) dX5_obstacleOf_2 (by decide) (fun h2 => ?_) (fun h2 => absurd h2 (nI_neg (by omega)))
    refine V.ild_n C dX5_obstacleOf_8 rfl ?_
    refine V.sipush C (x := 200) dX5_obstacleOf_9 (by decide) ?_
    refine V.icmpN_lt C (100 + k) (200) (tgt := 31) dX5_obstacleOf_12 (by decide) (by omega) (by omega) (fun h12 => ?_) (fun h12 => absurd h12 (by omega))
    refine V.ald_n C dX5_obstacleOf_31 rfl ?_
    refine V.ild_n C dX5_obstacleOf_32 rfl ?_
    refine V.callVp C mo_X5_doorOfWay im_X5_doorOfWay se_X5_doorOfWay ml_RX5_249 (ev_X5_doorOfWay_t hX hI (show k < d by omega)) dX5_obstacleOf_33 rfl rfl hX.x0 rfl rfl (Nat.le_of_ble_eq_true rfl) (RmOk.mk' (by decide) (by decide) (by decide) (by decide)) ⟨rfl, rfl⟩ ?_
    refine V.ast_n C dX5_obstacleOf_36 (Nat.le_of_ble_eq_true rfl) rfl ?_
    refine V.ald_n C dX5_obstacleOf_37 rfl ?_
    refine V.ifnull C dX5_obstacleOf_38 ?_
    refine V.ald_n C dX5_obstacleOf_41 rfl ?_
    refine V.callVp C mo_X1_obstacle im_X1_obstacle se_X1_obstacle ml_RX5_312 (ev_X1_obstacle hX hI (show k < d by omega)) dX5_obstacleOf_42 rfl rfl (hX.dd (show k < d by omega)) rfl rfl (Nat.le_of_ble_eq_true rfl) (RmOk.mk' (by decide) (by decide) (by decide) (by decide)) ⟨rfl, rfl⟩ ?_
    exact V.iret X dX5_obstacleOf_45 rfl (by decide) (by decide) (pq (ob_door hI hi hw hk hs).symm)
  · skip
    refine V.ild_n C dX5_obstacleOf_0 rfl ?_
    refine V.iconst C (x := -1) dX5_obstacleOf_1 (by decide) ?_
    refine V.icmp_ne C (tgt := 8) dX5_obstacleOf_2 (by decide) (fun h2 => ?_) (fun h2 => absurd h2 (nI_neg (by omega)))
    refine V.ild_n C dX5_obstacleOf_8 rfl ?_
    refine V.sipush C (x := 200) dX5_obstacleOf_9 (by decide) ?_
    refine V.icmpN_lt C (200 + k) (200) (tgt := 31) dX5_obstacleOf_12 (by decide) (by omega) (by omega) (fun h12 => absurd h12 (by omega)) (fun h12 => ?_)
    refine V.ild_n C dX5_obstacleOf_15 rfl ?_
    refine V.sipush C (x := 300) dX5_obstacleOf_16 (by decide) ?_
    refine V.icmpN_ge C (200 + k) (300) (tgt := 31) dX5_obstacleOf_19 (by decide) (by omega) (by omega) (fun h19 => absurd h19 (by omega)) (fun h19 => ?_)
    refine V.bipush C (x := 50) dX5_obstacleOf_22 (by decide) ?_
    refine V.ild_n C dX5_obstacleOf_24 rfl ?_
    refine V.iadd C dX5_obstacleOf_25 ?_
    refine V.top (nI_add 50 (200 + k)) ?_
    refine V.sipush C (x := 200) dX5_obstacleOf_26 (by decide) ?_
    refine V.isub C dX5_obstacleOf_29 ?_
    exact V.iret X dX5_obstacleOf_30 rfl (by decide) (by decide) (pq (by rw [ob_blk hw hk, show (50 : Int32) = nI 50 from rfl, nI_add]))
  · skip
    refine V.ild_n C dX5_obstacleOf_0 rfl ?_
    refine V.iconst C (x := -1) dX5_obstacleOf_1 (by decide) ?_
    refine V.icmp_ne C (tgt := 8) dX5_obstacleOf_2 (by decide) (fun h2 => ?_) (fun h2 => absurd h2 (nI_neg (by omega)))
    refine V.ild_n C dX5_obstacleOf_8 rfl ?_
    refine V.sipush C (x := 200) dX5_obstacleOf_9 (by decide) ?_
    refine V.icmpN_lt C (300 + k) (200) (tgt := 31) dX5_obstacleOf_12 (by decide) (by omega) (by omega) (fun h12 => absurd h12 (by omega)) (fun h12 => ?_)
    refine V.ild_n C dX5_obstacleOf_15 rfl ?_
    refine V.sipush C (x := 300) dX5_obstacleOf_16 (by decide) ?_
    refine V.icmpN_ge C (300 + k) (300) (tgt := 31) dX5_obstacleOf_19 (by decide) (by omega) (by omega) (fun h19 => ?_) (fun h19 => absurd h19 (by omega))
    refine V.ald_n C dX5_obstacleOf_31 rfl ?_
    refine V.ild_n C dX5_obstacleOf_32 rfl ?_
    refine V.callVp C mo_X5_doorOfWay im_X5_doorOfWay se_X5_doorOfWay ml_RX5_249 (ev_X5_doorOfWay_n hX hI (show 300 + k < 100 ∨ (200 ≤ 300 + k ∧ 300 + k < 2 ^ 31) by omega)) dX5_obstacleOf_33 rfl rfl hX.x0 rfl rfl (Nat.le_of_ble_eq_true rfl) (RmOk.mk' (by decide) (by decide) (by decide) (by decide)) ⟨rfl, rfl⟩ ?_
    refine V.ast_n C dX5_obstacleOf_36 (Nat.le_of_ble_eq_true rfl) rfl ?_
    refine V.ald_n C dX5_obstacleOf_37 rfl ?_
    refine V.ifnullN C (tgt := 46) dX5_obstacleOf_38 (by decide) ?_
    refine V.ald_n C dX5_obstacleOf_46 rfl ?_
    refine V.ild_n C dX5_obstacleOf_47 rfl ?_
    refine V.callVp C mo_X5_ruleOfWay im_X5_ruleOfWay se_X5_ruleOfWay ml_RX5_255 (ev_X5_ruleOfWay_t hX hI (show k < 5 by omega)) dX5_obstacleOf_48 rfl rfl hX.x0 rfl rfl (Nat.le_of_ble_eq_true rfl) (RmOk.mk' (by decide) (by decide) (by decide) (by decide)) ⟨rfl, rfl⟩ ?_
    refine V.ast_n C dX5_obstacleOf_51 (Nat.le_of_ble_eq_true rfl) rfl ?_
    refine V.ald_n C dX5_obstacleOf_52 rfl ?_
    refine V.ifnull C dX5_obstacleOf_53 ?_
    refine V.ald_n C dX5_obstacleOf_56 rfl ?_
    refine V.get C fg_RX5_89 dX5_obstacleOf_57 (hX.rl (show k < 5 by omega)) rfl ?_
    refine V.if_ne C (tgt := 68) dX5_obstacleOf_60 (by decide) (fun h60 => ?_) (fun h60 => ?_)
    · skip
      refine V.iconst C (x := 0) dX5_obstacleOf_68 (by decide) ?_
      exact V.iret X dX5_obstacleOf_69 rfl (by decide) (by decide) (pq (by rw [ob_rule hI hw hk, cI_f h60]))
    · skip
      refine V.bipush C (x := 28) dX5_obstacleOf_63 (by decide) ?_
      refine V.goto C (tgt := 69) dX5_obstacleOf_65 (by decide) ?_
      exact V.iret X dX5_obstacleOf_69 rfl (by decide) (by decide) (pq (by rw [ob_rule hI hw hk, cI_t h60]))
theorem ev_X5_goesWith_n {g : GD} {r d t b : Nat} {A : ST} {da ta ba : Nat → Nat} {gr hc : Nat → Int32} {L : List AE} (hX : XR0 r d t b A da ta ba gr hc L) {q w : Nat} (hq : q < b) (hw : w < b) : EvP g mX5_goesWith [aR (ba q), aR (ba w), aN] L (some (aI (b2 (q = w)))) := by
  refine Ev.of [some (aR (ba q)), some (aR (ba w)), some (aN)] (by decide) rfl (Nat.le_of_ble_eq_true rfl) fun Z H0 C X => ?_
  refine V.ald_n C dX5_goesWith_0 rfl ?_
  refine V.ald_n C dX5_goesWith_1 rfl ?_
  refine V.acmp_eq C (tgt := 21) dX5_goesWith_2 (by decide) (fun h2 => ?_) (fun h2 => ?_)
  · skip
    refine V.iconst C (x := 1) dX5_goesWith_21 (by decide) ?_
    refine V.goto C (tgt := 26) dX5_goesWith_22 (by decide) ?_
    exact V.iret X dX5_goesWith_26 rfl (by decide) (by decide) (pq (b2_t (hX.bi hq hw (Option.some.inj h2))).symm)
  · skip
    refine V.ald_n C dX5_goesWith_5 rfl ?_
    refine V.ifnull C dX5_goesWith_6 ?_
    refine V.ald_n C dX5_goesWith_9 rfl ?_
    refine V.ifnullN C (tgt := 25) dX5_goesWith_10 (by decide) ?_
    refine V.iconst C (x := 0) dX5_goesWith_25 (by decide) ?_
    exact V.iret X dX5_goesWith_26 rfl (by decide) (by decide) (pq (b2_f (fun e => h2 (by rw [e]))).symm)
theorem ev_X5_goesWith_k {g : GD} {r d t b : Nat} {A : ST} {da ta ba : Nat → Nat} {gr hc : Nat → Int32} {L : List AE} (hX : XR0 r d t b A da ta ba gr hc L) (hW : W18 t b A) {q w k : Nat} (hq : q < b) (hw : w < b) (hk : k < t) : EvP g mX5_goesWith [aR (ba q), aR (ba w), aR (ta k)] L (some (aI (b2 (q = w ∨ A 18 q = nI k)))) := by
  refine Ev.of [some (aR (ba q)), some (aR (ba w)), some (aR (ta k))] (by decide) rfl (Nat.le_of_ble_eq_true rfl) fun Z H0 C X => ?_
  have h30 := hX.2.2.2.2.2.2.1
  refine V.ald_n C dX5_goesWith_0 rfl ?_
  refine V.ald_n C dX5_goesWith_1 rfl ?_
  refine V.acmp_eq C (tgt := 21) dX5_goesWith_2 (by decide) (fun h2 => ?_) (fun h2 => ?_)
  · skip
    refine V.iconst C (x := 1) dX5_goesWith_21 (by decide) ?_
    refine V.goto C (tgt := 26) dX5_goesWith_22 (by decide) ?_
    exact V.iret X dX5_goesWith_26 rfl (by decide) (by decide) (pq (b2_t (Or.inl (hX.bi hq hw (Option.some.inj h2)))).symm)
  · skip
    refine V.ald_n C dX5_goesWith_5 rfl ?_
    refine V.ifnull C dX5_goesWith_6 ?_
    refine V.ald_n C dX5_goesWith_9 rfl ?_
    refine V.ifnull C dX5_goesWith_10 ?_
    rcases hW q hq with hw1 | ⟨k2, hk2, hw1⟩
    · skip
      refine V.ald_n C dX5_goesWith_13 rfl ?_
      refine V.get C fg_RX5_170 dX5_goesWith_14 (hX.bb hq) rfl ?_
      refine V.topO (wref_neg hw1) ?_
      refine V.ald_n C dX5_goesWith_17 rfl ?_
      refine V.acmp_ne C (tgt := 25) dX5_goesWith_18 (by decide) (fun h18 => ?_) (fun h18 => absurd h18 (by simp))
      refine V.iconst C (x := 0) dX5_goesWith_25 (by decide) ?_
      exact V.iret X dX5_goesWith_26 rfl (by decide) (by decide) (pq (b2_f (fun e => e.elim (fun e => h2 (by rw [e])) (fun z => nI_neg (show k < 2 ^ 31 by omega) (z.symm.trans hw1)))).symm)
    · skip
      refine V.ald_n C dX5_goesWith_13 rfl ?_
      refine V.get C fg_RX5_170 dX5_goesWith_14 (hX.bb hq) rfl ?_
      refine V.topO (wref_k hw1 (by omega)) ?_
      refine V.ald_n C dX5_goesWith_17 rfl ?_
      refine V.acmp_ne C (tgt := 25) dX5_goesWith_18 (by decide) (fun h18 => ?_) (fun h18 => ?_)
      · skip
        refine V.iconst C (x := 0) dX5_goesWith_25 (by decide) ?_
        exact V.iret X dX5_goesWith_26 rfl (by decide) (by decide) (pq (b2_f (fun e => e.elim (fun e => h2 (by rw [e])) (fun z => h18 (by rw [nI_inj (by omega) (by omega) (hw1.symm.trans z)])))).symm)
      · skip
        refine V.iconst C (x := 1) dX5_goesWith_21 (by decide) ?_
        refine V.goto C (tgt := 26) dX5_goesWith_22 (by decide) ?_
        exact V.iret X dX5_goesWith_26 rfl (by decide) (by decide) (pq (b2_t (Or.inr (by rw [hw1, hX.ti hk2 hk (Option.some.inj h18)]))).symm)
theorem ev_X5_goesWith {g : GD} {r d t b : Nat} {A : ST} {da ta ba : Nat → Nat} {gr hc : Nat → Int32} {L : List AE} (hX : XR0 r d t b A da ta ba gr hc L) (hW : W18 t b A) {q w : Nat} {o : Option Nat} {G : Nat → Prop} (hG : GW t b A ta w o G) (hq : q < b) (hw : w < b) : EvP g mX5_goesWith [aR (ba q), aR (ba w), aO o] L (some (aI (b2 (G q)))) := by
  rcases hG with ⟨rfl, h⟩ | ⟨k, hk, rfl, h⟩
  · have e : b2 (G q) = b2 (q = w) := cI_iff (h q hq)
    rw [e]
    exact ev_X5_goesWith_n hX hq hw
  · have e : b2 (G q) = b2 (q = w ∨ A 18 q = nI k) := cI_iff (h q hq)
    rw [e]
    exact ev_X5_goesWith_k hX hW hq hw hk
theorem ev_X5_beingAt_x {g : GD} {r d t b : Nat} {A : ST} {da ta ba : Nat → Nat} {gr hc : Nat → Int32} {L : List AE} (hX : XR0 r d t b A da ta ba gr hc L) {i : Nat} (hi : i < b) : EvP g mX5_beingAt [aR 0, aI (nI i)] L (some (aR (ba i))) := by
  refine Ev.of [some (aR 0), some (aI (nI i))] (by decide) rfl (Nat.le_of_ble_eq_true rfl) fun Z H0 C X => ?_
  have hb6 := hX.2.2.2.2.2.2.2
  refine V.ild_n C dX5_beingAt_0 rfl ?_
  refine V.if_lt C (tgt := 21) dX5_beingAt_1 (by decide) (fun h1 => absurd h1 (nI_pos (by omega))) (fun h1 => ?_)
  refine V.ild_n C dX5_beingAt_4 rfl ?_
  refine V.ald_n C dX5_beingAt_5 rfl ?_
  refine V.get C fg_RX5_129 dX5_beingAt_6 hX.x0 rfl ?_
  refine V.icmpN_ge C (i) (b) (tgt := 21) dX5_beingAt_9 (by decide) (by omega) (by omega) (fun h9 => absurd h9 (by omega)) (fun h9 => ?_)
  refine V.ald_n C dX5_beingAt_12 rfl ?_
  refine V.get C fg_RX5_39 dX5_beingAt_13 hX.x0 rfl ?_
  refine V.ild_n C dX5_beingAt_16 rfl ?_
  refine V.aaldN C (by decide) dX5_beingAt_17 hX.x7 (by omega) (by decide) (if_pos (show i < b by omega)) ?_
  refine V.goto C (tgt := 22) dX5_beingAt_18 (by decide) ?_
  exact V.aret X dX5_beingAt_22 (Or.inl ⟨_, rfl⟩) (by decide) (by decide) ⟨rfl, rfl⟩
theorem ev_X5_tellOthersIn {g : GD} {r d t b : Nat} {A : ST} {da ta ba : Nat → Nat} {gr hc : Nat → Int32} {L : List AE} (hX : XR0 r d t b A da ta ba gr hc L) (hW : W18 t b A) (h21 : N21 b A) {w : Nat} {o : Option Nat} {G : Nat → Prop} (hG : GW t b A ta w o G) (hw : w < b) (room x : Int32) : Ev g mX5_tellOthersIn [aR 0, aI room, aI x, aR (ba w), aO o] L (fun v L1 => v = none ∧ XR0 r d t b (tiN A room G x b) da ta ba gr hc L1 ∧ FrX L L1) := by
  refine Ev.of [some (aR 0), some (aI room), some (aI x), some (aR (ba w)), some (aO o), none, none] (by decide) rfl (Nat.le_of_ble_eq_true rfl) fun Z H0 C X => ?_
  have hF : FrX L L := FrX.rf
  have hb6 := hX.2.2.2.2.2.2.2
  refine V.iconst C (x := 0) dX5_tellOthersIn_0 (by decide) ?_
  refine V.ist C dX5_tellOthersIn_1 (Nat.le_of_ble_eq_true rfl) rfl ?_
  have key3 : ∀ (n : Nat) (m : Nat) (L1 : List AE) (v6 : Option AV), XR0 r d t b (tiN A room G x m) da ta ba gr hc L1 → FrX L L1 → m ≤ b → b - m < n → V g Z H0 7 L1 0 0 3 [some (aR 0), some (aI room), some (aI x), some (aR (ba w)), some (aO o), some (aI (nI m)), v6] [] := by
    intro n
    induction n with
    | zero => intro m L1 v6 _ _ _ h; exact absurd h (by omega)
    | succ n ih =>
      intro m L1 v6 hX hF h1 h2
      refine V.ild C dX5_tellOthersIn_3 rfl ?_
      refine V.ald_n C dX5_tellOthersIn_5 rfl ?_
      refine V.get C fg_RX5_129 dX5_tellOthersIn_6 hX.x0 rfl ?_
      refine V.icmpN_ge C (m) (b) (tgt := 57) dX5_tellOthersIn_9 (by decide) (by omega) (by omega) (fun h9 => ?_) (fun h9 => ?_)
      · skip
        exact V.vret X dX5_tellOthersIn_57 (by decide) (by decide) (by cases (show m = b by omega); exact ⟨rfl, hX, hF⟩)
      · skip
        refine V.ald_n C dX5_tellOthersIn_12 rfl ?_
        refine V.ild C dX5_tellOthersIn_13 rfl ?_
        refine V.callVp C mo_X5_beingAt im_X5_beingAt se_X5_beingAt ml_RX5_133 (ev_X5_beingAt_x hX (show m < b by omega)) dX5_tellOthersIn_15 rfl rfl hX.x0 rfl rfl (Nat.le_of_ble_eq_true rfl) (RmOk.mk' (by decide) (by decide) (by decide) (by decide)) ⟨rfl, rfl⟩ ?_
        refine V.ast C dX5_tellOthersIn_18 (Nat.le_of_ble_eq_true rfl) rfl ?_
        refine V.ald C dX5_tellOthersIn_20 rfl ?_
        refine V.ifnull C dX5_tellOthersIn_22 ?_
        refine V.ald C dX5_tellOthersIn_25 rfl ?_
        refine V.get C fg_RX5_191 dX5_tellOthersIn_27 (hX.bb (show m < b by omega)) rfl ?_
        refine V.top (congrFun (tiN_o A room G x m (by decide) (by decide)) m) ?_
        refine V.ild_n C dX5_tellOthersIn_30 rfl ?_
        refine V.icmp_ne C (tgt := 51) dX5_tellOthersIn_31 (by decide) (fun h31 => ?_) (fun h31 => ?_)
        · skip
          refine V.iinc C (y := nI (m + 1)) dX5_tellOthersIn_51 rfl (nI_1 m) rfl ?_
          refine V.goto C (tgt := 3) dX5_tellOthersIn_54 (by decide) ?_
          exact ih (m + 1) _ _ (by rw [tiN_f (fun q => h31 q.1)]; exact hX) hF (by omega) (by omega)
        · skip
          refine V.ald C dX5_tellOthersIn_34 rfl ?_
          refine V.ald_n C dX5_tellOthersIn_36 rfl ?_
          refine V.ald C dX5_tellOthersIn_37 rfl ?_
          refine V.callSp C mo_X5_goesWith sm_X5_goesWith ml_RX5_318 (ev_X5_goesWith hX (hW.kept (tiN_o A room G x m (by decide) (by decide))) (hG.kept (tiN_o A room G x m (by decide) (by decide))) (show m < b by omega) hw) dX5_tellOthersIn_39 rfl rfl (Nat.le_of_ble_eq_true rfl) (RmOk.mk' (by decide) (by decide) (by decide) (by decide)) ⟨rfl, rfl⟩ ?_
          refine V.ifb_ne C (tgt := 51) dX5_tellOthersIn_42 (by decide) (fun h42 => ?_) (fun h42 => ?_)
          · skip
            refine V.iinc C (y := nI (m + 1)) dX5_tellOthersIn_51 rfl (nI_1 m) rfl ?_
            refine V.goto C (tgt := 3) dX5_tellOthersIn_54 (by decide) ?_
            exact ih (m + 1) _ _ (by rw [tiN_f (fun q => q.2 h42)]; exact hX) hF (by omega) (by omega)
          · skip
            refine V.ald C dX5_tellOthersIn_45 rfl ?_
            refine V.ild_n C dX5_tellOthersIn_47 rfl ?_
            refine V.callV C mo_X0_hear im_X0_hear se_X0_hear ml_RX5_326 (ev_X0_hear hX (show m < b by omega) (N21_ti h21 m (by omega) m (by omega)) x) dX5_tellOthersIn_48 rfl rfl (hX.bb (show m < b by omega)) rfl rfl (Nat.le_of_ble_eq_true rfl) (RmOk.mk' (by decide) (by decide) (by decide) (by decide)) (fun v L1 hq => ?_)
            obtain ⟨rfl, hX, hF2⟩ := hq
            have hF := hF.tr hF2
            refine V.iinc C (y := nI (m + 1)) dX5_tellOthersIn_51 rfl (nI_1 m) rfl ?_
            refine V.goto C (tgt := 3) dX5_tellOthersIn_54 (by decide) ?_
            exact ih (m + 1) _ _ (by rw [tiN_t h31 h42]; exact hX) hF (by omega) (by omega)
  exact key3 (b + 1) 0 L none hX hF (by omega) (by omega)
theorem ev_X5_tellOfAll {g : GD} {r d t b : Nat} {A : ST} {da ta ba : Nat → Nat} {gr hc : Nat → Int32} {L : List AE} (hX : XR0 r d t b A da ta ba gr hc L) (hW : W18 t b A) (h21 : N21 b A) {w j : Nat} {o : Option Nat} {G : Nat → Prop} (hG : GW t b A ta w o G) (hw : w < b) (hj : j < 8) (to : Int32) : Ev g mX5_tellOfAll [aR 0, aR (ba w), aO o, aI (nI j), aI to] L (fun v L1 => v = none ∧ XR0 r d t b (tdN A b G (A 17 w) to j b) da ta ba gr hc L1 ∧ FrX L L1) := by
  refine Ev.of [some (aR 0), some (aR (ba w)), some (aO o), some (aI (nI j)), some (aI to), none, none] (by decide) rfl (Nat.le_of_ble_eq_true rfl) fun Z H0 C X => ?_
  have hF : FrX L L := FrX.rf
  have hb6 := hX.2.2.2.2.2.2.2
  refine V.iconst C (x := 0) dX5_tellOfAll_0 (by decide) ?_
  refine V.ist C dX5_tellOfAll_1 (Nat.le_of_ble_eq_true rfl) rfl ?_
  have key3 : ∀ (n : Nat) (m : Nat) (L1 : List AE) (v6 : Option AV), XR0 r d t b (tdN A b G (A 17 w) to j m) da ta ba gr hc L1 → FrX L L1 → m ≤ b → b - m < n → V g Z H0 7 L1 0 0 3 [some (aR 0), some (aR (ba w)), some (aO o), some (aI (nI j)), some (aI to), some (aI (nI m)), v6] [] := by
    intro n
    induction n with
    | zero => intro m L1 v6 _ _ _ h; exact absurd h (by omega)
    | succ n ih =>
      intro m L1 v6 hX hF h1 h2
      refine V.ild C dX5_tellOfAll_3 rfl ?_
      refine V.ald_n C dX5_tellOfAll_5 rfl ?_
      refine V.get C fg_RX5_129 dX5_tellOfAll_6 hX.x0 rfl ?_
      refine V.icmpN_ge C (m) (b) (tgt := 69) dX5_tellOfAll_9 (by decide) (by omega) (by omega) (fun h9 => ?_) (fun h9 => ?_)
      · skip
        exact V.vret X dX5_tellOfAll_69 (by decide) (by decide) (by cases (show m = b by omega); exact ⟨rfl, hX, hF⟩)
      · skip
        refine V.ald_n C dX5_tellOfAll_12 rfl ?_
        refine V.ild C dX5_tellOfAll_13 rfl ?_
        refine V.callVp C mo_X5_beingAt im_X5_beingAt se_X5_beingAt ml_RX5_133 (ev_X5_beingAt_x hX (show m < b by omega)) dX5_tellOfAll_15 rfl rfl hX.x0 rfl rfl (Nat.le_of_ble_eq_true rfl) (RmOk.mk' (by decide) (by decide) (by decide) (by decide)) ⟨rfl, rfl⟩ ?_
        refine V.ald_n C dX5_tellOfAll_18 rfl ?_
        refine V.ald_n C dX5_tellOfAll_19 rfl ?_
        refine V.callSp C mo_X5_goesWith sm_X5_goesWith ml_RX5_318 (ev_X5_goesWith hX (hW.kept (tdN_o A b G (A 17 w) to j m (by decide) (by decide))) (hG.kept (tdN_o A b G (A 17 w) to j m (by decide) (by decide))) (show m < b by omega) hw) dX5_tellOfAll_20 rfl rfl (Nat.le_of_ble_eq_true rfl) (RmOk.mk' (by decide) (by decide) (by decide) (by decide)) ⟨rfl, rfl⟩ ?_
        refine V.ifb_eq C (tgt := 63) dX5_tellOfAll_23 (by decide) (fun h23 => ?_) (fun h23 => ?_)
        · skip
          refine V.iinc C (y := nI (m + 1)) dX5_tellOfAll_63 rfl (nI_1 m) rfl ?_
          refine V.goto C (tgt := 3) dX5_tellOfAll_66 (by decide) ?_
          exact ih (m + 1) _ _ (by rw [tdN_f h23]; exact hX) hF (by omega) (by omega)
        · skip
          refine V.sipush C (x := 1000) dX5_tellOfAll_26 (by decide) ?_
          refine V.ild C dX5_tellOfAll_29 rfl ?_
          refine V.imul C dX5_tellOfAll_31 ?_
          refine V.top (pk_mul 1000 m) ?_
          refine V.bipush C (x := 10) dX5_tellOfAll_32 (by decide) ?_
          refine V.ild_n C dX5_tellOfAll_34 rfl ?_
          refine V.imul C dX5_tellOfAll_35 ?_
          refine V.top (pk_mul 10 j) ?_
          refine V.iadd C dX5_tellOfAll_36 ?_
          refine V.top (nI_add (1000 * m) (10 * j)) ?_
          refine V.ist C dX5_tellOfAll_37 (Nat.le_of_ble_eq_true rfl) rfl ?_
          refine V.ald_n C dX5_tellOfAll_39 rfl ?_
          refine V.ald_n C dX5_tellOfAll_40 rfl ?_
          refine V.get C fg_RX5_191 dX5_tellOfAll_41 (hX.bb hw) rfl ?_
          refine V.top (congrFun (tdN_o A b G (A 17 w) to j m (by decide) (by decide)) w) ?_
          refine V.ild C dX5_tellOfAll_44 rfl ?_
          refine V.ald_n C dX5_tellOfAll_46 rfl ?_
          refine V.ald_n C dX5_tellOfAll_47 rfl ?_
          refine V.callV C mo_X5_tellOthersIn im_X5_tellOthersIn se_X5_tellOthersIn ml_RX5_322 (ev_X5_tellOthersIn hX (hW.kept (tdN_o A b G (A 17 w) to j m (by decide) (by decide))) (N21_td h21 m (by omega)) (hG.kept (tdN_o A b G (A 17 w) to j m (by decide) (by decide))) hw _ _) dX5_tellOfAll_48 rfl rfl hX.x0 rfl rfl (Nat.le_of_ble_eq_true rfl) (RmOk.mk' (by decide) (by decide) (by decide) (by decide)) (fun v L1 hq => ?_)
          obtain ⟨rfl, hX, hF2⟩ := hq
          have hF := hF.tr hF2
          refine V.ald_n C dX5_tellOfAll_51 rfl ?_
          refine V.ild C dX5_tellOfAll_52 rfl ?_
          refine V.ild C dX5_tellOfAll_54 rfl ?_
          refine V.iconst C (x := 1) dX5_tellOfAll_56 (by decide) ?_
          refine V.iadd C dX5_tellOfAll_57 ?_
          refine V.top (nI_add (1000 * m + 10 * j) 1) ?_
          refine V.ald_n C dX5_tellOfAll_58 rfl ?_
          refine V.ald_n C dX5_tellOfAll_59 rfl ?_
          refine V.callV C mo_X5_tellOthersIn im_X5_tellOthersIn se_X5_tellOthersIn ml_RX5_322 (ev_X5_tellOthersIn hX (hW.kept ((tiN_o _ _ _ _ _ (by decide) (by decide)).trans (tdN_o A b G (A 17 w) to j m (by decide) (by decide)))) (N21_ti (N21_td h21 m (by omega)) b (Nat.le_refl b)) (hG.kept ((tiN_o _ _ _ _ _ (by decide) (by decide)).trans (tdN_o A b G (A 17 w) to j m (by decide) (by decide)))) hw _ _) dX5_tellOfAll_60 rfl rfl hX.x0 rfl rfl (Nat.le_of_ble_eq_true rfl) (RmOk.mk' (by decide) (by decide) (by decide) (by decide)) (fun v L1 hq => ?_)
          obtain ⟨rfl, hX, hF2⟩ := hq
          have hF := hF.tr hF2
          refine V.iinc C (y := nI (m + 1)) dX5_tellOfAll_63 rfl (nI_1 m) rfl ?_
          refine V.goto C (tgt := 3) dX5_tellOfAll_66 (by decide) ?_
          exact ih (m + 1) _ _ (by rw [tdN_t h23]; exact hX) hF (by omega) (by omega)
  exact key3 (b + 1) 0 L none hX hF (by omega) (by omega)
theorem ev_X5_moveAll {g : GD} {r d t b : Nat} {A : ST} {da ta ba : Nat → Nat} {gr hc : Nat → Int32} {L : List AE} (hX : XR0 r d t b A da ta ba gr hc L) (hR : Rl t b A gr hc) (hW : W18 t b A) {w : Nat} {o : Option Nat} {G : Nat → Prop} (hG : GW t b A ta w o G) (hw : w < b) {room to th : Int32} (hroom : ∀ q, q < b → G q → A 17 q = room) {x : Nat} (hx : x < 100) (hto : to = nI x) (hth : (o = none ∧ th = -1) ∨ ∃ k, k < t ∧ o = some (ta k) ∧ th = nI k ∧ ∃ p, p < 100 ∧ A 13 k = nI p) : Ev g mX5_moveAll [aR 0, aR (ba w), aO o, aI to] L (fun v L1 => v = none ∧ (∃ gr, XR0 r d t b (mvT (cmN A G room to b) th to) da ta ba gr hc L1 ∧ Rl t b (mvT (cmN A G room to b) th to) gr hc) ∧ FrX L L1) := by
  refine Ev.of [some (aR 0), some (aR (ba w)), some (aO o), some (aI to), none, none] (by decide) rfl (Nat.le_of_ble_eq_true rfl) fun Z H0 C X => ?_
  have hF : FrX L L := FrX.rf
  have hb6 := hX.2.2.2.2.2.2.2
  have h30 := hX.2.2.2.2.2.2.1
  refine V.iconst C (x := 0) dX5_moveAll_0 (by decide) ?_
  refine V.ist C dX5_moveAll_1 (Nat.le_of_ble_eq_true rfl) rfl ?_
  have key3 : ∀ (n : Nat) (m : Nat) (L1 : List AE) (v5 : Option AV), XR0 r d t b (cmN A G room to m) da ta ba gr hc L1 → FrX L L1 → m ≤ b → b - m < n → V g Z H0 6 L1 0 0 3 [some (aR 0), some (aR (ba w)), some (aO o), some (aI to), some (aI (nI m)), v5] [] := by
    intro n
    induction n with
    | zero => intro m L1 v5 _ _ _ h; exact absurd h (by omega)
    | succ n ih =>
      intro m L1 v5 hX hF h1 h2
      refine V.ild C dX5_moveAll_3 rfl ?_
      refine V.ald_n C dX5_moveAll_5 rfl ?_
      refine V.get C fg_RX5_129 dX5_moveAll_6 hX.x0 rfl ?_
      refine V.icmpN_ge C (m) (b) (tgt := 57) dX5_moveAll_9 (by decide) (by omega) (by omega) (fun h9 => ?_) (fun h9 => ?_)
      · skip
        cases (show b = m by omega)
        rcases hth with ⟨rfl, rfl⟩ | ⟨k, hk, rfl, rfl, p, hp, hpl⟩
        · skip
          refine V.ald_n C dX5_moveAll_57 rfl ?_
          refine V.ifnullN C (tgt := 66) dX5_moveAll_58 (by decide) ?_
          exact V.vret X dX5_moveAll_66 (by decide) (by decide) ⟨rfl, ⟨_, by rw [mvT_n]; exact hX, by rw [mvT_n]; exact hR.kept (cmN_o _ _ _ _ _ (by decide) (by decide)) (cmN_o _ _ _ _ _ (by decide) (by decide))⟩, hF⟩
        · skip
          refine V.ald_n C dX5_moveAll_57 rfl ?_
          refine V.ifnull C dX5_moveAll_58 ?_
          refine V.ald_n C dX5_moveAll_61 rfl ?_
          refine V.ild_n C dX5_moveAll_62 rfl ?_
          subst hto
          refine V.putT C hX hF hk fl_RX5_287 dX5_moveAll_63 ⟨rfl, rfl⟩ (by decide) (upd gr k (nI x)) (A' := up2 (cmN A G room (nI x) b) 13 k (nI x)) (agr_up (by decide) agr_rf) (fun k hk => pk_un hk) (tset3p ((href_r (by rw [cmN_o _ _ _ _ _ (by decide) (by decide)]; exact hpl) hp).trans (href_r (u_ss _ _ _ _) hx).symm)) (fun L hX hF => ?_)
          exact V.vret X dX5_moveAll_66 (by decide) (by decide) ⟨rfl, ⟨_, by rw [mvT_k (by omega)]; exact hX, by rw [mvT_k (by omega)]; exact Rl_move hR (by omega) hp hx hpl (by rw [up2_s, cmN_o _ _ _ _ _ (by decide) (by decide)]) (by rw [up2_n (by decide), cmN_o _ _ _ _ _ (by decide) (by decide)])⟩, hF⟩
      · skip
        refine V.ald_n C dX5_moveAll_12 rfl ?_
        refine V.ild C dX5_moveAll_13 rfl ?_
        refine V.callVp C mo_X5_beingAt im_X5_beingAt se_X5_beingAt ml_RX5_133 (ev_X5_beingAt_x hX (show m < b by omega)) dX5_moveAll_15 rfl rfl hX.x0 rfl rfl (Nat.le_of_ble_eq_true rfl) (RmOk.mk' (by decide) (by decide) (by decide) (by decide)) ⟨rfl, rfl⟩ ?_
        refine V.ast C dX5_moveAll_18 (Nat.le_of_ble_eq_true rfl) rfl ?_
        refine V.ald C dX5_moveAll_20 rfl ?_
        refine V.ifnull C dX5_moveAll_22 ?_
        refine V.ald C dX5_moveAll_25 rfl ?_
        refine V.ald_n C dX5_moveAll_27 rfl ?_
        refine V.ald_n C dX5_moveAll_28 rfl ?_
        refine V.callSp C mo_X5_goesWith sm_X5_goesWith ml_RX5_318 (ev_X5_goesWith hX (hW.kept (cmN_o A G room to m (by decide) (by decide))) (hG.kept (cmN_o A G room to m (by decide) (by decide))) (show m < b by omega) hw) dX5_moveAll_29 rfl rfl (Nat.le_of_ble_eq_true rfl) (RmOk.mk' (by decide) (by decide) (by decide) (by decide)) ⟨rfl, rfl⟩ ?_
        refine V.ifb_eq C (tgt := 51) dX5_moveAll_32 (by decide) (fun h32 => ?_) (fun h32 => ?_)
        · skip
          refine V.iinc C (y := nI (m + 1)) dX5_moveAll_51 rfl (nI_1 m) rfl ?_
          refine V.goto C (tgt := 3) dX5_moveAll_54 (by decide) ?_
          exact ih (m + 1) _ _ (by rw [cmN_f h32]; exact hX) hF (by omega) (by omega)
        · skip
          refine V.ald C dX5_moveAll_35 rfl ?_
          refine V.ald C dX5_moveAll_37 rfl ?_
          refine V.get C fg_RX5_191 dX5_moveAll_39 (hX.bb (show m < b by omega)) rfl ?_
          refine V.top ((cmN_k A G room to m (Nat.le_refl m)).trans (hroom m (by omega) h32)) ?_
          refine V.putB C hX hF (show m < b by omega) fl_RX5_226 dX5_moveAll_42 ⟨rfl, rfl⟩ (by decide) (hc) (A' := up2 (cmN A G room to m) 19 m room) (agr_up (by decide) agr_rf) (fun _ _ => rfl) bset5 (fun L hX hF => ?_)
          refine V.ald C dX5_moveAll_45 rfl ?_
          refine V.ild_n C dX5_moveAll_47 rfl ?_
          refine V.putB C hX hF (show m < b by omega) fl_RX5_191 dX5_moveAll_48 ⟨rfl, rfl⟩ (by decide) (hc) (A' := up2 (up2 (cmN A G room to m) 19 m room) 17 m to) (agr_up (by decide) agr_rf) (fun _ _ => rfl) bset2 (fun L hX hF => ?_)
          refine V.iinc C (y := nI (m + 1)) dX5_moveAll_51 rfl (nI_1 m) rfl ?_
          refine V.goto C (tgt := 3) dX5_moveAll_54 (by decide) ?_
          exact ih (m + 1) _ _ (by rw [cmN_t h32]; exact hX) hF (by omega) (by omega)
  exact key3 (b + 1) 0 L none hX hF (by omega) (by omega)
theorem ev_X5_travel {g : GD} {r d t b : Nat} {A : ST} {da ta ba : Nat → Nat} {gr hc : Nat → Int32} {L : List AE} (hX : XR0 r d t b A da ta ba gr hc L) (hI : Inv r d t b A) (hR : Rl t b A gr hc) {w i j : Nat} (hw : w < b) (hi : i < r) (hj : j < 8) (h17 : A 17 w = nI i) {o : Option Nat} {G : Nat → Prop} {th s : Int32} (hG : GW t b A ta w o G) (hroom : ∀ q, q < b → G q → A 17 q = nI i) (hth : (o = none ∧ th = -1 ∧ s = 0) ∨ ∃ k, k < t ∧ o = some (ta k) ∧ th = nI k ∧ s = A 12 k ∧ ∃ p, p < 100 ∧ A 13 k = nI p) (h3 : ¬ A 3 (8 * i + j) < 0) : Ev g mX5_travel [aR 0, aR (ba w), aO o, aI (nI j)] L (fun v L1 => v = some (aI (trS A b G th s i j).1) ∧ (∃ gr, XR0 r d t b (trS A b G th s i j).2 da ta ba gr hc L1 ∧ Rl t b (trS A b G th s i j).2 gr hc) ∧ FrX L L1) := by
  refine Ev.of [some (aR 0), some (aR (ba w)), some (aO o), some (aI (nI j)), none, none, none, none] (by decide) rfl (Nat.le_of_ble_eq_true rfl) fun Z H0 C X => ?_
  have hN := hI.cn
  have hF : FrX L L := FrX.rf
  refine V.ald_n C dX5_travel_0 rfl ?_
  refine V.get C fg_RX5_191 dX5_travel_1 (hX.bb hw) rfl ?_
  refine V.top h17 ?_
  refine V.ist C dX5_travel_4 (Nat.le_of_ble_eq_true rfl) rfl ?_
  refine V.ald_n C dX5_travel_6 rfl ?_
  refine V.ild C dX5_travel_7 rfl ?_
  refine V.ild_n C dX5_travel_9 rfl ?_
  refine V.callVp C mo_X5_isPlace im_X5_isPlace se_X5_isPlace ml_RX5_71 (ev_X5_isPlace hX hI _ _) dX5_travel_10 rfl rfl hX.x0 rfl rfl (Nat.le_of_ble_eq_true rfl) (RmOk.mk' (by decide) (by decide) (by decide) (by decide)) ⟨rfl, rfl⟩ ?_
  refine V.ifb_ne C (tgt := 18) dX5_travel_13 (by decide) (fun h13 => ?_) (fun h13 => absurd ⟨isN_nI (show i < r by omega) (by omega), isN_nI (show j < 8 by omega) (by omega)⟩ h13)
  refine V.ild C dX5_travel_18 rfl ?_
  refine V.ild_n C dX5_travel_20 rfl ?_
  refine V.callSp C mo_X5_placeOf sm_X5_placeOf ml_RX5_78 (ev_X5_placeOf _ _) dX5_travel_21 rfl rfl (Nat.le_of_ble_eq_true rfl) (RmOk.mk' (by decide) (by decide) (by decide) (by decide)) ⟨rfl, rfl⟩ ?_
  refine V.ist C dX5_travel_24 (Nat.le_of_ble_eq_true rfl) rfl ?_
  refine V.ald_n C dX5_travel_26 rfl ?_
  refine V.ald_n C dX5_travel_27 rfl ?_
  refine V.get C fg_RX5_9 dX5_travel_28 hX.x0 rfl ?_
  refine V.ild C dX5_travel_31 rfl ?_
  refine V.ialdN C (N := 160) dX5_travel_33 hX.x1 (by omega) (by decide) ?_
  refine V.top (xw_in hi hj) ?_
  refine V.callVp C mo_X5_obstacleOf im_X5_obstacleOf se_X5_obstacleOf ml_RX5_298 (ev_X5_obstacleOf hX hI (by omega) (by omega)) dX5_travel_34 rfl rfl hX.x0 rfl rfl (Nat.le_of_ble_eq_true rfl) (RmOk.mk' (by decide) (by decide) (by decide) (by decide)) ⟨rfl, rfl⟩ ?_
  refine V.ist C dX5_travel_37 (Nat.le_of_ble_eq_true rfl) rfl ?_
  refine V.ild C dX5_travel_39 rfl ?_
  refine V.if_eq C (tgt := 48) dX5_travel_41 (by decide) (fun h41 => ?_) (fun h41 => ?_)
  · skip
    have hth2 := hth
    rcases hth with ⟨hoo, hte, hs⟩ | ⟨k, hk, hoo, hte, hs, -⟩ <;> subst hoo
    · skip
      refine V.ald_n C dX5_travel_48 rfl ?_
      refine V.ifnullN C (tgt := 69) dX5_travel_49 (by decide) ?_
      have hw0 : wyT A i j s = 0 := by rw [wy_ob hI hi hj, cI_t h41, cI_f (by rw [hs]; exact h3)]
      obtain ⟨x, hx, hld⟩ := wyT_0 hI hi hj hw0
      have hne : ∀ k m, k < 5 → A 2 (8 * i + j) = nI (300 + k) → A 23 k = nI m → m ≠ 0 := fun k m hk h2 h23 h0 => by
        rw [ob_rule hI h2 hk, cI_t (by rw [h23, h0]; rfl)] at h41
        exact absurd h41 (by decide)
      have hW : W18 t b A := fun v hv => (hI.cb hv).2.1.imp id (fun ⟨k, h1, h2, _⟩ => ⟨k, h1, h2⟩)
      have h21 : N21 b (tnA A i j) := fun v hv => by rw [tnA_o A i j (by decide)]; exact (hI.cb hv).2.2.2
      refine V.ald_n C dX5_travel_69 rfl ?_
      refine V.ild C dX5_travel_70 rfl ?_
      refine V.ild_n C dX5_travel_72 rfl ?_
      refine V.callVp C mo_X5_leadsTo im_X5_leadsTo se_X5_leadsTo ml_RX5_204 (ev_X5_leadsTo hX hI (by omega) (by omega)) dX5_travel_73 rfl rfl hX.x0 rfl rfl (Nat.le_of_ble_eq_true rfl) (RmOk.mk' (by decide) (by decide) (by decide) (by decide)) ⟨rfl, rfl⟩ ?_
      refine V.ist C dX5_travel_76 (Nat.le_of_ble_eq_true rfl) rfl ?_
      refine V.ald_n C dX5_travel_78 rfl ?_
      refine V.ald_n C dX5_travel_79 rfl ?_
      refine V.get C fg_RX5_9 dX5_travel_80 hX.x0 rfl ?_
      refine V.ild C dX5_travel_83 rfl ?_
      refine V.ialdN C (N := 160) dX5_travel_85 hX.x1 (by omega) (by decide) ?_
      refine V.top (xw_in hi hj) ?_
      refine V.callV C mo_X5_takeTurn im_X5_takeTurn se_X5_takeTurn ml_RX5_301 (ev_X5_takeTurn hX hI hi hj hne) dX5_travel_86 rfl rfl hX.x0 rfl rfl (Nat.le_of_ble_eq_true rfl) (RmOk.mk' (by decide) (by decide) (by decide) (by decide)) (fun v L1 hq => ?_)
      obtain ⟨rfl, hX, hF2⟩ := hq
      have hF := hF.tr hF2
      refine V.ald_n C dX5_travel_89 rfl ?_
      refine V.ald_n C dX5_travel_90 rfl ?_
      refine V.ald_n C dX5_travel_91 rfl ?_
      refine V.ild_n C dX5_travel_92 rfl ?_
      refine V.ild C dX5_travel_93 rfl ?_
      refine V.callV C mo_X5_tellOfAll im_X5_tellOfAll se_X5_tellOfAll ml_RX5_304 (ev_X5_tellOfAll hX (hW.kept (tnA_o A i j (by decide))) h21 (hG.kept (tnA_o A i j (by decide))) hw hj (ldT A i j)) dX5_travel_95 rfl rfl hX.x0 rfl rfl (Nat.le_of_ble_eq_true rfl) (RmOk.mk' (by decide) (by decide) (by decide) (by decide)) (fun v L1 hq => ?_)
      obtain ⟨rfl, hX, hF2⟩ := hq
      have hF := hF.tr hF2
      rw [show tnA A i j 17 w = nI i by rw [tnA_o A i j (by decide)]; exact h17] at hX
      refine V.ald_n C dX5_travel_98 rfl ?_
      refine V.ald_n C dX5_travel_99 rfl ?_
      refine V.ald_n C dX5_travel_100 rfl ?_
      refine V.ild C dX5_travel_101 rfl ?_
      refine V.callV C mo_X5_moveAll im_X5_moveAll se_X5_moveAll ml_RX5_308 (ev_X5_moveAll hX (hR.kept ((tdN_o (tnA A i j) b G (nI i) (ldT A i j) j b (by decide) (by decide)).trans (tnA_o A i j (by decide))) ((tdN_o (tnA A i j) b G (nI i) (ldT A i j) j b (by decide) (by decide)).trans (tnA_o A i j (by decide)))) (hW.kept ((tdN_o (tnA A i j) b G (nI i) (ldT A i j) j b (by decide) (by decide)).trans (tnA_o A i j (by decide)))) (hG.kept ((tdN_o (tnA A i j) b G (nI i) (ldT A i j) j b (by decide) (by decide)).trans (tnA_o A i j (by decide)))) hw (room := nI i) (fun q hq hg => (congrFun ((tdN_o (tnA A i j) b G (nI i) (ldT A i j) j b (by decide) (by decide)).trans (tnA_o A i j (by decide))) q).trans (hroom q hq hg)) (show x < 100 by omega) hld (th := th) (hth2.imp (fun z => ⟨z.1, z.2.1⟩) (fun ⟨k, h1, h2, h4, _, p, h5, h6⟩ => ⟨k, h1, h2, h4, p, h5, (congrFun ((tdN_o (tnA A i j) b G (nI i) (ldT A i j) j b (by decide) (by decide)).trans (tnA_o A i j (by decide))) k).trans h6⟩))) dX5_travel_103 rfl rfl hX.x0 rfl rfl (Nat.le_of_ble_eq_true rfl) (RmOk.mk' (by decide) (by decide) (by decide) (by decide)) (fun v L1 hq => ?_)
      obtain ⟨rfl, ⟨gr, hX, hR⟩, hF2⟩ := hq
      have hF := hF.tr hF2
      refine V.ild C dX5_travel_106 rfl ?_
      exact V.iret X dX5_travel_108 rfl (by decide) (by decide) (by unfold trS; rw [cI_t hw0]; exact ⟨rfl, ⟨_, hX, hR⟩, hF⟩)
    · skip
      refine V.ald_n C dX5_travel_48 rfl ?_
      refine V.ifnull C dX5_travel_49 ?_
      refine V.ald_n C dX5_travel_52 rfl ?_
      refine V.get C fg_RX5_217 dX5_travel_53 (hX.tt hk) rfl ?_
      refine V.ald_n C dX5_travel_56 rfl ?_
      refine V.get C fg_RX5_13 dX5_travel_57 hX.x0 rfl ?_
      refine V.ild C dX5_travel_60 rfl ?_
      refine V.ialdN C (N := 160) dX5_travel_62 hX.x2 (by omega) (by decide) ?_
      refine V.top (xv_in hi hj) ?_
      refine V.icmp_le C (tgt := 69) dX5_travel_63 (by decide) (fun h63 => ?_) (fun h63 => ?_)
      · skip
        have hw0 : wyT A i j s = 0 := by rw [wy_ob hI hi hj, cI_t h41, cI_f (by rw [hs]; exact Int32.not_lt.mpr h63)]
        obtain ⟨x, hx, hld⟩ := wyT_0 hI hi hj hw0
        have hne : ∀ k m, k < 5 → A 2 (8 * i + j) = nI (300 + k) → A 23 k = nI m → m ≠ 0 := fun k m hk h2 h23 h0 => by
          rw [ob_rule hI h2 hk, cI_t (by rw [h23, h0]; rfl)] at h41
          exact absurd h41 (by decide)
        have hW : W18 t b A := fun v hv => (hI.cb hv).2.1.imp id (fun ⟨k, h1, h2, _⟩ => ⟨k, h1, h2⟩)
        have h21 : N21 b (tnA A i j) := fun v hv => by rw [tnA_o A i j (by decide)]; exact (hI.cb hv).2.2.2
        refine V.ald_n C dX5_travel_69 rfl ?_
        refine V.ild C dX5_travel_70 rfl ?_
        refine V.ild_n C dX5_travel_72 rfl ?_
        refine V.callVp C mo_X5_leadsTo im_X5_leadsTo se_X5_leadsTo ml_RX5_204 (ev_X5_leadsTo hX hI (by omega) (by omega)) dX5_travel_73 rfl rfl hX.x0 rfl rfl (Nat.le_of_ble_eq_true rfl) (RmOk.mk' (by decide) (by decide) (by decide) (by decide)) ⟨rfl, rfl⟩ ?_
        refine V.ist C dX5_travel_76 (Nat.le_of_ble_eq_true rfl) rfl ?_
        refine V.ald_n C dX5_travel_78 rfl ?_
        refine V.ald_n C dX5_travel_79 rfl ?_
        refine V.get C fg_RX5_9 dX5_travel_80 hX.x0 rfl ?_
        refine V.ild C dX5_travel_83 rfl ?_
        refine V.ialdN C (N := 160) dX5_travel_85 hX.x1 (by omega) (by decide) ?_
        refine V.top (xw_in hi hj) ?_
        refine V.callV C mo_X5_takeTurn im_X5_takeTurn se_X5_takeTurn ml_RX5_301 (ev_X5_takeTurn hX hI hi hj hne) dX5_travel_86 rfl rfl hX.x0 rfl rfl (Nat.le_of_ble_eq_true rfl) (RmOk.mk' (by decide) (by decide) (by decide) (by decide)) (fun v L1 hq => ?_)
        obtain ⟨rfl, hX, hF2⟩ := hq
        have hF := hF.tr hF2
        refine V.ald_n C dX5_travel_89 rfl ?_
        refine V.ald_n C dX5_travel_90 rfl ?_
        refine V.ald_n C dX5_travel_91 rfl ?_
        refine V.ild_n C dX5_travel_92 rfl ?_
        refine V.ild C dX5_travel_93 rfl ?_
        refine V.callV C mo_X5_tellOfAll im_X5_tellOfAll se_X5_tellOfAll ml_RX5_304 (ev_X5_tellOfAll hX (hW.kept (tnA_o A i j (by decide))) h21 (hG.kept (tnA_o A i j (by decide))) hw hj (ldT A i j)) dX5_travel_95 rfl rfl hX.x0 rfl rfl (Nat.le_of_ble_eq_true rfl) (RmOk.mk' (by decide) (by decide) (by decide) (by decide)) (fun v L1 hq => ?_)
        obtain ⟨rfl, hX, hF2⟩ := hq
        have hF := hF.tr hF2
        rw [show tnA A i j 17 w = nI i by rw [tnA_o A i j (by decide)]; exact h17] at hX
        refine V.ald_n C dX5_travel_98 rfl ?_
        refine V.ald_n C dX5_travel_99 rfl ?_
        refine V.ald_n C dX5_travel_100 rfl ?_
        refine V.ild C dX5_travel_101 rfl ?_
        refine V.callV C mo_X5_moveAll im_X5_moveAll se_X5_moveAll ml_RX5_308 (ev_X5_moveAll hX (hR.kept ((tdN_o (tnA A i j) b G (nI i) (ldT A i j) j b (by decide) (by decide)).trans (tnA_o A i j (by decide))) ((tdN_o (tnA A i j) b G (nI i) (ldT A i j) j b (by decide) (by decide)).trans (tnA_o A i j (by decide)))) (hW.kept ((tdN_o (tnA A i j) b G (nI i) (ldT A i j) j b (by decide) (by decide)).trans (tnA_o A i j (by decide)))) (hG.kept ((tdN_o (tnA A i j) b G (nI i) (ldT A i j) j b (by decide) (by decide)).trans (tnA_o A i j (by decide)))) hw (room := nI i) (fun q hq hg => (congrFun ((tdN_o (tnA A i j) b G (nI i) (ldT A i j) j b (by decide) (by decide)).trans (tnA_o A i j (by decide))) q).trans (hroom q hq hg)) (show x < 100 by omega) hld (th := th) (hth2.imp (fun z => ⟨z.1, z.2.1⟩) (fun ⟨k, h1, h2, h4, _, p, h5, h6⟩ => ⟨k, h1, h2, h4, p, h5, (congrFun ((tdN_o (tnA A i j) b G (nI i) (ldT A i j) j b (by decide) (by decide)).trans (tnA_o A i j (by decide))) k).trans h6⟩))) dX5_travel_103 rfl rfl hX.x0 rfl rfl (Nat.le_of_ble_eq_true rfl) (RmOk.mk' (by decide) (by decide) (by decide) (by decide)) (fun v L1 hq => ?_)
        obtain ⟨rfl, ⟨gr, hX, hR⟩, hF2⟩ := hq
        have hF := hF.tr hF2
        refine V.ild C dX5_travel_106 rfl ?_
        exact V.iret X dX5_travel_108 rfl (by decide) (by decide) (by unfold trS; rw [cI_t hw0]; exact ⟨rfl, ⟨_, hX, hR⟩, hF⟩)
      · skip
        refine V.bipush C (x := -29) dX5_travel_66 (by decide) ?_
        exact V.iret X dX5_travel_68 rfl (by decide) (by decide) (by unfold trS; rw [wy_ob hI hi hj, cI_t h41, cI_t (show A 3 (8 * i + j) < s by rw [hs]; exact Int32.not_le.mp h63), cI_f (by decide)]; exact ⟨rfl, ⟨_, hX, hR⟩, hF⟩)
  · skip
    refine V.ild C dX5_travel_44 rfl ?_
    refine V.ineg C dX5_travel_46 ?_
    exact V.iret X dX5_travel_47 rfl (by decide) (by decide) (by unfold trS; rw [wy_ob hI hi hj, cI_f h41, cI_f h41]; exact ⟨rfl, ⟨_, hX, hR⟩, hF⟩)
theorem ev_X5_goBy {g : GD} {r d t b : Nat} {A : ST} {da ta ba : Nat → Nat} {gr hc : Nat → Int32} {L : List AE} (hX : XR0 r d t b A da ta ba gr hc L) (hI : Inv r d t b A) (hR : Rl t b A gr hc) (hJ : Jv r t b A) {w j : Nat} (hw : w < b) (hj : j < 8) : Ev g mX5_goBy [aR 0, aR (ba w), aI (nI j)] L (fun v L1 => v = some (aI (gbS A b w j).1) ∧ (∃ gr, XR0 r d t b (gbS A b w j).2 da ta ba gr hc L1 ∧ Rl t b (gbS A b w j).2 gr hc) ∧ FrX L L1) := by
  refine Ev.of [some (aR 0), some (aR (ba w)), some (aI (nI j)), none] (by decide) rfl (Nat.le_of_ble_eq_true rfl) fun Z H0 C X => ?_
  have hN := hI.cn
  have hF : FrX L L := FrX.rf
  obtain ⟨i, hi, h17⟩ := (hI.cb hw).1
  rcases (hI.cb hw).2.1 with hw1 | ⟨k, hk, hw1, hk2⟩
  · skip
    refine V.ald_n C dX5_goBy_0 rfl ?_
    refine V.get C fg_RX5_170 dX5_goBy_1 (hX.bb hw) rfl ?_
    refine V.topO (wref_neg hw1) ?_
    refine V.ast_n C dX5_goBy_4 (Nat.le_of_ble_eq_true rfl) rfl ?_
    refine V.ald_n C dX5_goBy_5 rfl ?_
    refine V.ifnullN C (tgt := 32) dX5_goBy_6 (by decide) ?_
    refine V.ald_n C dX5_goBy_32 rfl ?_
    refine V.ald_n C dX5_goBy_33 rfl ?_
    refine V.ald_n C dX5_goBy_34 rfl ?_
    refine V.ild_n C dX5_goBy_35 rfl ?_
    refine V.callV C mo_X5_travel im_X5_travel se_X5_travel ml_RX5_183 (ev_X5_travel hX hI hR hw hi hj h17 (G := goG A w) (Or.inl ⟨rfl, fun q _ => ⟨fun z => z.elim (fun y => y.2) (fun y => absurd hw1 y.1), fun z => Or.inl ⟨hw1, z⟩⟩⟩) (fun q _ z => by rw [z.elim (fun y => y.2) (fun y => absurd hw1 y.1)]; exact h17) (Or.inl ⟨rfl, rfl, rfl⟩) (hJ.2 i j hi hj)) dX5_goBy_36 rfl rfl hX.x0 rfl rfl (Nat.le_of_ble_eq_true rfl) (RmOk.mk' (by decide) (by decide) (by decide) (by decide)) (fun v L1 hq => ?_)
    obtain ⟨rfl, ⟨gr, hX, hR⟩, hF2⟩ := hq
    have hF := hF.tr hF2
    exact V.iret X dX5_goBy_39 rfl (by decide) (by decide) (by rw [gb_n hw1 h17 (by omega)]; exact ⟨rfl, ⟨_, hX, hR⟩, hF⟩)
  · skip
    refine V.ald_n C dX5_goBy_0 rfl ?_
    refine V.get C fg_RX5_170 dX5_goBy_1 (hX.bb hw) rfl ?_
    refine V.topO (wref_k hw1 (by omega)) ?_
    refine V.ast_n C dX5_goBy_4 (Nat.le_of_ble_eq_true rfl) rfl ?_
    refine V.ald_n C dX5_goBy_5 rfl ?_
    refine V.ifnull C dX5_goBy_6 ?_
    refine V.ald_n C dX5_goBy_9 rfl ?_
    refine V.get C fg_RX5_109 dX5_goBy_10 (hX.tt hk) rfl ?_
    refine V.iconst C (x := 3) dX5_goBy_13 (by decide) ?_
    refine V.icmp_ne C (tgt := 32) dX5_goBy_14 (by decide) (fun h14 => ?_) (fun h14 => ?_)
    · skip
      refine V.ald_n C dX5_goBy_32 rfl ?_
      refine V.ald_n C dX5_goBy_33 rfl ?_
      refine V.ald_n C dX5_goBy_34 rfl ?_
      refine V.ild_n C dX5_goBy_35 rfl ?_
      refine V.callV C mo_X5_travel im_X5_travel se_X5_travel ml_RX5_183 (ev_X5_travel hX hI hR hw hi hj h17 (G := goG A w) (Or.inr ⟨k, hk, rfl, fun q _ => ⟨fun z => z.elim (fun y => Or.inl y.2) (fun y => Or.inr (y.2.trans hw1)), fun z => Or.inr ⟨fun y => nI_neg (show k < 2 ^ 31 by omega) (hw1.symm.trans y), z.elim (fun y => by rw [y]) (fun y => y.trans hw1.symm)⟩⟩⟩) (fun q hq z => z.elim (fun y => by rw [y.2]; exact h17) (fun y => (hJ.1 q k hq hk (y.2.trans hw1)).symm.trans ((hJ.1 w k hw hk hw1).trans h17))) (Or.inr ⟨k, hk, rfl, rfl, rfl, i, by omega, (hJ.1 w k hw hk hw1).trans h17⟩) (hJ.2 i j hi hj)) dX5_goBy_36 rfl rfl hX.x0 rfl rfl (Nat.le_of_ble_eq_true rfl) (RmOk.mk' (by decide) (by decide) (by decide) (by decide)) (fun v L1 hq => ?_)
      obtain ⟨rfl, ⟨gr, hX, hR⟩, hF2⟩ := hq
      have hF := hF.tr hF2
      exact V.iret X dX5_goBy_39 rfl (by decide) (by decide) (by rw [gb_k hw1 (by omega) h14 h17 (by omega)]; exact ⟨rfl, ⟨_, hX, hR⟩, hF⟩)
    · skip
      refine V.ald_n C dX5_goBy_17 rfl ?_
      refine V.get C fg_RX5_173 dX5_goBy_18 (hX.tt hk) rfl ?_
      refine V.if_eq C (tgt := 29) dX5_goBy_21 (by decide) (fun h21 => ?_) (fun h21 => ?_)
      · skip
        refine V.bipush C (x := -24) dX5_goBy_29 (by decide) ?_
        exact V.iret X dX5_goBy_31 rfl (by decide) (by decide) (by rw [gb_3 hw1 (by omega) h14, cI_f (fun q => by rw [h21] at q; exact absurd q (by decide))]; exact ⟨rfl, ⟨_, hX, hR⟩, hF⟩)
      · skip
        refine V.bipush C (x := -21) dX5_goBy_24 (by decide) ?_
        refine V.goto C (tgt := 31) dX5_goBy_26 (by decide) ?_
        exact V.iret X dX5_goBy_31 rfl (by decide) (by decide) (by rw [gb_3 hw1 (by omega) h14, cI_t ((hI.ct hk).2.2.2.1.resolve_left h21)]; exact ⟨rfl, ⟨_, hX, hR⟩, hF⟩)
theorem ev_X5_go {g : GD} {r d t b : Nat} {A : ST} {da ta ba : Nat → Nat} {gr hc : Nat → Int32} {L : List AE} (hX : XR0 r d t b A da ta ba gr hc L) (hI : Inv r d t b A) (hR : Rl t b A gr hc) (hJ : Jv r t b A) (x y : Int32) : Ev g mX5_go [aR 0, aI x, aI y] L (XQt L (S_go r d t b A x y)) := by
  refine Ev.of [some (aR 0), some (aI x), some (aI y), none] (by decide) rfl (Nat.le_of_ble_eq_true rfl) fun Z H0 C X => ?_
  have hN := hI.cn
  have hF : FrX L L := FrX.rf
  rcases isN_cases x b (by omega) with ⟨w, hw, rfl⟩ | hw
  · skip
    rcases isN_cases y 8 (by omega) with ⟨j, hj, rfl⟩ | hj
    · skip
      refine V.ald_n C dX5_go_0 rfl ?_
      refine V.ild_n C dX5_go_1 rfl ?_
      refine V.callVp C mo_X5_beingAt im_X5_beingAt se_X5_beingAt ml_RX5_133 (ev_X5_beingAt_t hX hI (show w < b by omega)) dX5_go_2 rfl rfl hX.x0 rfl rfl (Nat.le_of_ble_eq_true rfl) (RmOk.mk' (by decide) (by decide) (by decide) (by decide)) ⟨rfl, rfl⟩ ?_
      refine V.ast_n C dX5_go_5 (Nat.le_of_ble_eq_true rfl) rfl ?_
      refine V.ald_n C dX5_go_6 rfl ?_
      refine V.ifnull C dX5_go_7 ?_
      refine V.ild_n C dX5_go_10 rfl ?_
      refine V.callSp C mo_X5_isDirection sm_X5_isDirection ml_RX5_176 (ev_X5_isDirection _) dX5_go_11 rfl rfl (Nat.le_of_ble_eq_true rfl) (RmOk.mk' (by decide) (by decide) (by decide) (by decide)) ⟨rfl, rfl⟩ ?_
      refine V.ifb_ne C (tgt := 19) dX5_go_14 (by decide) (fun h14 => ?_) (fun h14 => absurd (isN_nI (show j < 8 by omega) (by omega)) h14)
      refine V.ald_n C dX5_go_19 rfl ?_
      refine V.ald_n C dX5_go_20 rfl ?_
      refine V.ild_n C dX5_go_21 rfl ?_
      refine V.callV C mo_X5_goBy im_X5_goBy se_X5_goBy ml_RX5_179 (ev_X5_goBy hX hI hR hJ hw hj) dX5_go_22 rfl rfl hX.x0 rfl rfl (Nat.le_of_ble_eq_true rfl) (RmOk.mk' (by decide) (by decide) (by decide) (by decide)) (fun v L1 hq => ?_)
      obtain ⟨rfl, ⟨gr, hX, hR⟩, hF2⟩ := hq
      have hF := hF.tr hF2
      exact V.iret X dX5_go_25 rfl (by decide) (by decide) (by unfold S_go; rw [ok1_t hw (by omega), ok1_t hj (by omega)]; exact ⟨rfl, ⟨_, _, _, _, _, hX, hR⟩, hF⟩)
    · skip
      refine V.ald_n C dX5_go_0 rfl ?_
      refine V.ild_n C dX5_go_1 rfl ?_
      refine V.callVp C mo_X5_beingAt im_X5_beingAt se_X5_beingAt ml_RX5_133 (ev_X5_beingAt_t hX hI (show w < b by omega)) dX5_go_2 rfl rfl hX.x0 rfl rfl (Nat.le_of_ble_eq_true rfl) (RmOk.mk' (by decide) (by decide) (by decide) (by decide)) ⟨rfl, rfl⟩ ?_
      refine V.ast_n C dX5_go_5 (Nat.le_of_ble_eq_true rfl) rfl ?_
      refine V.ald_n C dX5_go_6 rfl ?_
      refine V.ifnull C dX5_go_7 ?_
      refine V.ild_n C dX5_go_10 rfl ?_
      refine V.callSp C mo_X5_isDirection sm_X5_isDirection ml_RX5_176 (ev_X5_isDirection _) dX5_go_11 rfl rfl (Nat.le_of_ble_eq_true rfl) (RmOk.mk' (by decide) (by decide) (by decide) (by decide)) ⟨rfl, rfl⟩ ?_
      refine V.ifb_ne C (tgt := 19) dX5_go_14 (by decide) (fun h14 => absurd h14 hj) (fun h14 => ?_)
      refine V.iconst C (x := -1) dX5_go_17 (by decide) ?_
      exact V.iret X dX5_go_18 rfl (by decide) (by decide) (by unfold S_go; rw [ok1_t hw (by omega), ok1_f hj]; exact ⟨rfl, ⟨_, _, _, _, _, hX, hR⟩, hF⟩)
  · skip
    refine V.ald_n C dX5_go_0 rfl ?_
    refine V.ild_n C dX5_go_1 rfl ?_
    refine V.callVp C mo_X5_beingAt im_X5_beingAt se_X5_beingAt ml_RX5_133 (ev_X5_beingAt_f hX hI hw) dX5_go_2 rfl rfl hX.x0 rfl rfl (Nat.le_of_ble_eq_true rfl) (RmOk.mk' (by decide) (by decide) (by decide) (by decide)) ⟨rfl, rfl⟩ ?_
    refine V.ast_n C dX5_go_5 (Nat.le_of_ble_eq_true rfl) rfl ?_
    refine V.ald_n C dX5_go_6 rfl ?_
    refine V.ifnullN C (tgt := 17) dX5_go_7 (by decide) ?_
    refine V.iconst C (x := -1) dX5_go_17 (by decide) ?_
    exact V.iret X dX5_go_18 rfl (by decide) (by decide) (by unfold S_go; rw [ok1_f hw]; exact ⟨rfl, ⟨_, _, _, _, _, hX, hR⟩, hF⟩)
theorem ev_X5_directionBack {g : GD} {r d t b : Nat} {A : ST} {da ta ba : Nat → Nat} {gr hc : Nat → Int32} {L : List AE} (hX : XR0 r d t b A da ta ba gr hc L) (hI : Inv r d t b A) {w : Nat} (hw : w < b) : EvP g mX5_directionBack [aR 0, aR (ba w)] L (some (aI (bkD A w))) := by
  refine Ev.of [some (aR 0), some (aR (ba w)), none] (by decide) rfl (Nat.le_of_ble_eq_true rfl) fun Z H0 C X => ?_
  have hN := hI.cn
  obtain ⟨i, hi, h17⟩ := (hI.cb hw).1
  refine V.ald_n C dX5_directionBack_0 rfl ?_
  refine V.get C fg_RX5_226 dX5_directionBack_1 (hX.bb hw) rfl ?_
  refine V.iconst C (x := -1) dX5_directionBack_4 (by decide) ?_
  refine V.icmp_ne C (tgt := 10) dX5_directionBack_5 (by decide) (fun h5 => ?_) (fun h5 => ?_)
  · skip
    refine V.iconst C (x := 0) dX5_directionBack_10 (by decide) ?_
    refine V.ist_n C dX5_directionBack_11 (Nat.le_of_ble_eq_true rfl) rfl ?_
    have key12 : ∀ (n : Nat) (j : Nat), j ≤ 8 → 8 - j < n → fnd (fun j => ldT A i j = A 19 w) (-1) 8 0 = fnd (fun j => ldT A i j = A 19 w) (-1) (8 - j) j → V g Z H0 3 L 0 0 12 [some (aR 0), some (aR (ba w)), some (aI (nI j))] [] := by
      intro n
      induction n with
      | zero => intro j h1 h2; exact absurd h2 (by omega)
      | succ n ih =>
        intro j h1 h2 hf
        refine V.ild_n C dX5_directionBack_12 rfl ?_
        refine V.bipush C (x := 8) dX5_directionBack_13 (by decide) ?_
        refine V.icmpN_ge C (j) (8) (tgt := 42) dX5_directionBack_15 (by decide) (by omega) (by omega) (fun h15 => ?_) (fun h15 => ?_)
        · skip
          refine V.iconst C (x := -1) dX5_directionBack_42 (by decide) ?_
          exact V.iret X dX5_directionBack_43 rfl (by decide) (by decide) (pq (by unfold bkD; rw [cI_f h5, h17, nI_clamp (by omega), hf]; rw [show 8 - j = 0 by omega]; rfl))
        · skip
          refine V.ald_n C dX5_directionBack_18 rfl ?_
          refine V.ald_n C dX5_directionBack_19 rfl ?_
          refine V.get C fg_RX5_191 dX5_directionBack_20 (hX.bb hw) rfl ?_
          refine V.top h17 ?_
          refine V.ild_n C dX5_directionBack_23 rfl ?_
          refine V.callVp C mo_X5_leadsTo im_X5_leadsTo se_X5_leadsTo ml_RX5_204 (ev_X5_leadsTo hX hI (by omega) (by omega)) dX5_directionBack_24 rfl rfl hX.x0 rfl rfl (Nat.le_of_ble_eq_true rfl) (RmOk.mk' (by decide) (by decide) (by decide) (by decide)) ⟨rfl, rfl⟩ ?_
          refine V.ald_n C dX5_directionBack_27 rfl ?_
          refine V.get C fg_RX5_226 dX5_directionBack_28 (hX.bb hw) rfl ?_
          refine V.icmp_ne C (tgt := 36) dX5_directionBack_31 (by decide) (fun h31 => ?_) (fun h31 => ?_)
          · skip
            refine V.iinc C (y := nI (j + 1)) dX5_directionBack_36 rfl (nI_1 j) rfl ?_
            refine V.goto C (tgt := 12) dX5_directionBack_39 (by decide) ?_
            exact ih (j + 1) (by omega) (by omega) (by rw [hf, show 8 - j = (8 - (j + 1)) + 1 by omega, fnd_f h31])
          · skip
            refine V.ild_n C dX5_directionBack_34 rfl ?_
            exact V.iret X dX5_directionBack_35 rfl (by decide) (by decide) (pq (by unfold bkD; rw [cI_f h5, h17, nI_clamp (by omega), hf]; rw [show 8 - j = (8 - j - 1) + 1 by omega, fnd_t h31]))
    exact key12 9 0 (by omega) (by omega) rfl
  · skip
    refine V.iconst C (x := -1) dX5_directionBack_8 (by decide) ?_
    exact V.iret X dX5_directionBack_9 rfl (by decide) (by decide) (pq (by unfold bkD; rw [cI_t h5]))
theorem ev_X5_back {g : GD} {r d t b : Nat} {A : ST} {da ta ba : Nat → Nat} {gr hc : Nat → Int32} {L : List AE} (hX : XR0 r d t b A da ta ba gr hc L) (hI : Inv r d t b A) (hR : Rl t b A gr hc) (hJ : Jv r t b A) (x : Int32) : Ev g mX5_back [aR 0, aI x] L (XQt L (S_back r d t b A x)) := by
  refine Ev.of [some (aR 0), some (aI x), none, none] (by decide) rfl (Nat.le_of_ble_eq_true rfl) fun Z H0 C X => ?_
  have hN := hI.cn
  have hF : FrX L L := FrX.rf
  rcases isN_cases x b (by omega) with ⟨w, hw, rfl⟩ | hw
  · skip
    refine V.ald_n C dX5_back_0 rfl ?_
    refine V.ild_n C dX5_back_1 rfl ?_
    refine V.callVp C mo_X5_beingAt im_X5_beingAt se_X5_beingAt ml_RX5_133 (ev_X5_beingAt_t hX hI (show w < b by omega)) dX5_back_2 rfl rfl hX.x0 rfl rfl (Nat.le_of_ble_eq_true rfl) (RmOk.mk' (by decide) (by decide) (by decide) (by decide)) ⟨rfl, rfl⟩ ?_
    refine V.ast_n C dX5_back_5 (Nat.le_of_ble_eq_true rfl) rfl ?_
    refine V.ald_n C dX5_back_6 rfl ?_
    refine V.ifnonnull C (tgt := 12) dX5_back_7 (by decide) ?_
    rcases bkD_ex A w with hb | ⟨j, hj, hb⟩
    · skip
      refine V.ald_n C dX5_back_12 rfl ?_
      refine V.ald_n C dX5_back_13 rfl ?_
      refine V.callVp C mo_X5_directionBack im_X5_directionBack se_X5_directionBack ml_RX5_187 (ev_X5_directionBack hX hI hw) dX5_back_14 rfl rfl hX.x0 rfl rfl (Nat.le_of_ble_eq_true rfl) (RmOk.mk' (by decide) (by decide) (by decide) (by decide)) ⟨rfl, rfl⟩ ?_
      refine V.top hb ?_
      refine V.ist_n C dX5_back_17 (Nat.le_of_ble_eq_true rfl) rfl ?_
      refine V.ild_n C dX5_back_18 rfl ?_
      refine V.iconst C (x := -1) dX5_back_19 (by decide) ?_
      refine V.icmp_ne C (tgt := 27) dX5_back_20 (by decide) (fun h20 => absurd h20 (by decide)) (fun h20 => ?_)
      refine V.iconst C (x := 0) dX5_back_23 (by decide) ?_
      refine V.goto C (tgt := 33) dX5_back_24 (by decide) ?_
      exact V.iret X dX5_back_33 rfl (by decide) (by decide) (by unfold S_back; rw [ok1_t hw (by omega), cI_t hb]; exact ⟨rfl, ⟨_, _, _, _, _, hX, hR⟩, hF⟩)
    · skip
      refine V.ald_n C dX5_back_12 rfl ?_
      refine V.ald_n C dX5_back_13 rfl ?_
      refine V.callVp C mo_X5_directionBack im_X5_directionBack se_X5_directionBack ml_RX5_187 (ev_X5_directionBack hX hI hw) dX5_back_14 rfl rfl hX.x0 rfl rfl (Nat.le_of_ble_eq_true rfl) (RmOk.mk' (by decide) (by decide) (by decide) (by decide)) ⟨rfl, rfl⟩ ?_
      refine V.top hb ?_
      refine V.ist_n C dX5_back_17 (Nat.le_of_ble_eq_true rfl) rfl ?_
      refine V.ild_n C dX5_back_18 rfl ?_
      refine V.iconst C (x := -1) dX5_back_19 (by decide) ?_
      refine V.icmp_ne C (tgt := 27) dX5_back_20 (by decide) (fun h20 => ?_) (fun h20 => absurd h20 (nI_neg (by omega)))
      refine V.ald_n C dX5_back_27 rfl ?_
      refine V.ald_n C dX5_back_28 rfl ?_
      refine V.ild_n C dX5_back_29 rfl ?_
      refine V.callV C mo_X5_goBy im_X5_goBy se_X5_goBy ml_RX5_179 (ev_X5_goBy hX hI hR hJ hw hj) dX5_back_30 rfl rfl hX.x0 rfl rfl (Nat.le_of_ble_eq_true rfl) (RmOk.mk' (by decide) (by decide) (by decide) (by decide)) (fun v L1 hq => ?_)
      obtain ⟨rfl, ⟨gr, hX, hR⟩, hF2⟩ := hq
      have hF := hF.tr hF2
      exact V.iret X dX5_back_33 rfl (by decide) (by decide) (by unfold S_back; rw [ok1_t hw (by omega), hb, cI_f (nI_neg (by omega)), nI_clamp (by omega)]; exact ⟨rfl, ⟨_, _, _, _, _, hX, hR⟩, hF⟩)
  · skip
    refine V.ald_n C dX5_back_0 rfl ?_
    refine V.ild_n C dX5_back_1 rfl ?_
    refine V.callVp C mo_X5_beingAt im_X5_beingAt se_X5_beingAt ml_RX5_133 (ev_X5_beingAt_f hX hI hw) dX5_back_2 rfl rfl hX.x0 rfl rfl (Nat.le_of_ble_eq_true rfl) (RmOk.mk' (by decide) (by decide) (by decide) (by decide)) ⟨rfl, rfl⟩ ?_
    refine V.ast_n C dX5_back_5 (Nat.le_of_ble_eq_true rfl) rfl ?_
    refine V.ald_n C dX5_back_6 rfl ?_
    refine V.ifnonnullN C dX5_back_7 ?_
    refine V.iconst C (x := -1) dX5_back_10 (by decide) ?_
    exact V.iret X dX5_back_11 rfl (by decide) (by decide) (by unfold S_back; rw [ok1_f hw]; exact ⟨rfl, ⟨_, _, _, _, _, hX, hR⟩, hF⟩)
theorem ev_X5_push {g : GD} {r d t b : Nat} {A : ST} {da ta ba : Nat → Nat} {gr hc : Nat → Int32} {L : List AE} (hX : XR0 r d t b A da ta ba gr hc L) (hI : Inv r d t b A) (hR : Rl t b A gr hc) (hJ : Jv r t b A) (x y z : Int32) : Ev g mX5_push [aR 0, aI x, aI y, aI z] L (XQt L (S_push r d t b A x y z)) := by
  refine Ev.of [some (aR 0), some (aI x), some (aI y), some (aI z), none, none] (by decide) rfl (Nat.le_of_ble_eq_true rfl) fun Z H0 C X => ?_
  have hN := hI.cn
  have hF : FrX L L := FrX.rf
  rcases isN_cases x b (by omega) with ⟨w, hw, rfl⟩ | hw
  · skip
    rcases isN_cases y t (by omega) with ⟨k, hk, rfl⟩ | hk
    · skip
      rcases isN_cases z 8 (by omega) with ⟨j, hj, rfl⟩ | hj
      · skip
        refine V.ald_n C dX5_push_0 rfl ?_
        refine V.ild_n C dX5_push_1 rfl ?_
        refine V.callVp C mo_X5_beingAt im_X5_beingAt se_X5_beingAt ml_RX5_133 (ev_X5_beingAt_t hX hI (show w < b by omega)) dX5_push_2 rfl rfl hX.x0 rfl rfl (Nat.le_of_ble_eq_true rfl) (RmOk.mk' (by decide) (by decide) (by decide) (by decide)) ⟨rfl, rfl⟩ ?_
        refine V.ast C dX5_push_5 (Nat.le_of_ble_eq_true rfl) rfl ?_
        refine V.ald_n C dX5_push_7 rfl ?_
        refine V.ild_n C dX5_push_8 rfl ?_
        refine V.callVp C mo_X5_thingAt im_X5_thingAt se_X5_thingAt ml_RX5_105 (ev_X5_thingAt_t hX hI (show k < t by omega)) dX5_push_9 rfl rfl hX.x0 rfl rfl (Nat.le_of_ble_eq_true rfl) (RmOk.mk' (by decide) (by decide) (by decide) (by decide)) ⟨rfl, rfl⟩ ?_
        refine V.ast C dX5_push_12 (Nat.le_of_ble_eq_true rfl) rfl ?_
        refine V.ald C dX5_push_14 rfl ?_
        refine V.ifnull C dX5_push_16 ?_
        refine V.ald C dX5_push_19 rfl ?_
        refine V.ifnull C dX5_push_21 ?_
        refine V.ild_n C dX5_push_24 rfl ?_
        refine V.callSp C mo_X5_isDirection sm_X5_isDirection ml_RX5_176 (ev_X5_isDirection _) dX5_push_25 rfl rfl (Nat.le_of_ble_eq_true rfl) (RmOk.mk' (by decide) (by decide) (by decide) (by decide)) ⟨rfl, rfl⟩ ?_
        refine V.ifb_ne C (tgt := 33) dX5_push_28 (by decide) (fun h28 => ?_) (fun h28 => absurd (isN_nI (show j < 8 by omega) (by omega)) h28)
        refine V.ald_n C dX5_push_33 rfl ?_
        refine V.ald C dX5_push_34 rfl ?_
        refine V.ald C dX5_push_36 rfl ?_
        refine V.callVp C mo_X5_isThingHere im_X5_isThingHere se_X5_isThingHere ml_RX5_156 (ev_X5_isThingHere hX hI hR (show w < b by omega) (show k < t by omega)) dX5_push_38 rfl rfl hX.x0 rfl rfl (Nat.le_of_ble_eq_true rfl) (RmOk.mk' (by decide) (by decide) (by decide) (by decide)) ⟨rfl, rfl⟩ ?_
        refine V.ifb_ne C (tgt := 47) dX5_push_41 (by decide) (fun h41 => ?_) (fun h41 => ?_)
        · skip
          refine V.ald C dX5_push_47 rfl ?_
          refine V.get C fg_RX5_109 dX5_push_49 (hX.tt (show k < t by omega)) rfl ?_
          refine V.if_eq C (tgt := 64) dX5_push_52 (by decide) (fun h52 => ?_) (fun h52 => ?_)
          · skip
            refine V.bipush C (x := -30) dX5_push_64 (by decide) ?_
            exact V.iret X dX5_push_66 rfl (by decide) (by decide) (by unfold S_push; rw [ok1_t hw (by omega), ok1_t hk (by omega), ok1_t hj (by omega), cI_t h41, cI_t (Or.inl h52)]; exact ⟨rfl, ⟨_, _, _, _, _, hX, hR⟩, hF⟩)
          · skip
            refine V.ald C dX5_push_55 rfl ?_
            refine V.get C fg_RX5_126 dX5_push_57 (hX.tt (show k < t by omega)) rfl ?_
            refine V.iconst C (x := -1) dX5_push_60 (by decide) ?_
            refine V.icmp_eq C (tgt := 67) dX5_push_61 (by decide) (fun h61 => ?_) (fun h61 => ?_)
            · skip
              rcases (hI.cb hw).2.1 with hw1 | ⟨k2, hk3, hw1, hk2⟩
              · skip
                refine V.ald C dX5_push_67 rfl ?_
                refine V.get C fg_RX5_170 dX5_push_69 (hX.bb (show w < b by omega)) rfl ?_
                refine V.topO (wref_neg hw1) ?_
                refine V.ifnullN C (tgt := 78) dX5_push_72 (by decide) ?_
                obtain ⟨i, hi, h17⟩ := (hI.cb hw).1
                have h13 : A 13 k = nI i := by
                  rcases h41 with q | q | ⟨-, q⟩
                  · rcases (hI.ct hk).2.1 with ⟨p, hp, hpl⟩ | ⟨v, hv, hpl, hs0, hf0⟩
                    · have := nI_inj (by omega) (by omega) (hpl.symm.trans q.2); omega
                    · exact absurd hs0 h52
                  · exact absurd hw1 q.1.1
                  · rw [h17, nI_clamp (by omega)] at q
                    exact (tIn_neg h61).mp q
                refine V.ald_n C dX5_push_78 rfl ?_
                refine V.ald C dX5_push_79 rfl ?_
                refine V.ald C dX5_push_81 rfl ?_
                refine V.ild_n C dX5_push_83 rfl ?_
                refine V.callV C mo_X5_travel im_X5_travel se_X5_travel ml_RX5_183 (ev_X5_travel hX hI hR hw hi hj h17 (G := fun q => A 18 q = nI k ∨ q = w) (Or.inr ⟨k, hk, rfl, fun q _ => Or.comm⟩) (fun q hq z => z.elim (fun y => (hJ.1 q k hq hk y).symm.trans h13) (fun y => by rw [y]; exact h17)) (Or.inr ⟨k, hk, rfl, rfl, rfl, i, by omega, h13⟩) (hJ.2 i j hi hj)) dX5_push_84 rfl rfl hX.x0 rfl rfl (Nat.le_of_ble_eq_true rfl) (RmOk.mk' (by decide) (by decide) (by decide) (by decide)) (fun v L1 hq => ?_)
                obtain ⟨rfl, ⟨gr, hX, hR⟩, hF2⟩ := hq
                have hF := hF.tr hF2
                exact V.iret X dX5_push_87 rfl (by decide) (by decide) (by unfold S_push; rw [ok1_t hw (by omega), ok1_t hk (by omega), ok1_t hj (by omega), cI_t h41, cI_f (fun q => q.elim h52 (fun z => z h61)), cI_t hw1, pu_k h17 (by omega)]; exact ⟨rfl, ⟨_, _, _, _, _, hX, hR⟩, hF⟩)
              · skip
                refine V.ald C dX5_push_67 rfl ?_
                refine V.get C fg_RX5_170 dX5_push_69 (hX.bb (show w < b by omega)) rfl ?_
                refine V.topO (wref_k hw1 (by omega)) ?_
                refine V.ifnull C dX5_push_72 ?_
                refine V.bipush C (x := -20) dX5_push_75 (by decide) ?_
                exact V.iret X dX5_push_77 rfl (by decide) (by decide) (by unfold S_push; rw [ok1_t hw (by omega), ok1_t hk (by omega), ok1_t hj (by omega), cI_t h41, cI_f (fun q => q.elim h52 (fun z => z h61)), cI_f (fun q => nI_neg (show k2 < 2 ^ 31 by omega) (hw1.symm.trans q))]; exact ⟨rfl, ⟨_, _, _, _, _, hX, hR⟩, hF⟩)
            · skip
              refine V.bipush C (x := -30) dX5_push_64 (by decide) ?_
              exact V.iret X dX5_push_66 rfl (by decide) (by decide) (by unfold S_push; rw [ok1_t hw (by omega), ok1_t hk (by omega), ok1_t hj (by omega), cI_t h41, cI_t (Or.inr h61)]; exact ⟨rfl, ⟨_, _, _, _, _, hX, hR⟩, hF⟩)
        · skip
          refine V.bipush C (x := -10) dX5_push_44 (by decide) ?_
          exact V.iret X dX5_push_46 rfl (by decide) (by decide) (by unfold S_push; rw [ok1_t hw (by omega), ok1_t hk (by omega), ok1_t hj (by omega), cI_f h41]; exact ⟨rfl, ⟨_, _, _, _, _, hX, hR⟩, hF⟩)
      · skip
        refine V.ald_n C dX5_push_0 rfl ?_
        refine V.ild_n C dX5_push_1 rfl ?_
        refine V.callVp C mo_X5_beingAt im_X5_beingAt se_X5_beingAt ml_RX5_133 (ev_X5_beingAt_t hX hI (show w < b by omega)) dX5_push_2 rfl rfl hX.x0 rfl rfl (Nat.le_of_ble_eq_true rfl) (RmOk.mk' (by decide) (by decide) (by decide) (by decide)) ⟨rfl, rfl⟩ ?_
        refine V.ast C dX5_push_5 (Nat.le_of_ble_eq_true rfl) rfl ?_
        refine V.ald_n C dX5_push_7 rfl ?_
        refine V.ild_n C dX5_push_8 rfl ?_
        refine V.callVp C mo_X5_thingAt im_X5_thingAt se_X5_thingAt ml_RX5_105 (ev_X5_thingAt_t hX hI (show k < t by omega)) dX5_push_9 rfl rfl hX.x0 rfl rfl (Nat.le_of_ble_eq_true rfl) (RmOk.mk' (by decide) (by decide) (by decide) (by decide)) ⟨rfl, rfl⟩ ?_
        refine V.ast C dX5_push_12 (Nat.le_of_ble_eq_true rfl) rfl ?_
        refine V.ald C dX5_push_14 rfl ?_
        refine V.ifnull C dX5_push_16 ?_
        refine V.ald C dX5_push_19 rfl ?_
        refine V.ifnull C dX5_push_21 ?_
        refine V.ild_n C dX5_push_24 rfl ?_
        refine V.callSp C mo_X5_isDirection sm_X5_isDirection ml_RX5_176 (ev_X5_isDirection _) dX5_push_25 rfl rfl (Nat.le_of_ble_eq_true rfl) (RmOk.mk' (by decide) (by decide) (by decide) (by decide)) ⟨rfl, rfl⟩ ?_
        refine V.ifb_ne C (tgt := 33) dX5_push_28 (by decide) (fun h28 => absurd h28 hj) (fun h28 => ?_)
        refine V.iconst C (x := -1) dX5_push_31 (by decide) ?_
        exact V.iret X dX5_push_32 rfl (by decide) (by decide) (by unfold S_push; rw [ok1_t hw (by omega), ok1_t hk (by omega), ok1_f hj]; exact ⟨rfl, ⟨_, _, _, _, _, hX, hR⟩, hF⟩)
    · skip
      refine V.ald_n C dX5_push_0 rfl ?_
      refine V.ild_n C dX5_push_1 rfl ?_
      refine V.callVp C mo_X5_beingAt im_X5_beingAt se_X5_beingAt ml_RX5_133 (ev_X5_beingAt_t hX hI (show w < b by omega)) dX5_push_2 rfl rfl hX.x0 rfl rfl (Nat.le_of_ble_eq_true rfl) (RmOk.mk' (by decide) (by decide) (by decide) (by decide)) ⟨rfl, rfl⟩ ?_
      refine V.ast C dX5_push_5 (Nat.le_of_ble_eq_true rfl) rfl ?_
      refine V.ald_n C dX5_push_7 rfl ?_
      refine V.ild_n C dX5_push_8 rfl ?_
      refine V.callVp C mo_X5_thingAt im_X5_thingAt se_X5_thingAt ml_RX5_105 (ev_X5_thingAt_f hX hI hk) dX5_push_9 rfl rfl hX.x0 rfl rfl (Nat.le_of_ble_eq_true rfl) (RmOk.mk' (by decide) (by decide) (by decide) (by decide)) ⟨rfl, rfl⟩ ?_
      refine V.ast C dX5_push_12 (Nat.le_of_ble_eq_true rfl) rfl ?_
      refine V.ald C dX5_push_14 rfl ?_
      refine V.ifnull C dX5_push_16 ?_
      refine V.ald C dX5_push_19 rfl ?_
      refine V.ifnullN C (tgt := 31) dX5_push_21 (by decide) ?_
      refine V.iconst C (x := -1) dX5_push_31 (by decide) ?_
      exact V.iret X dX5_push_32 rfl (by decide) (by decide) (by unfold S_push; rw [ok1_t hw (by omega), ok1_f hk]; exact ⟨rfl, ⟨_, _, _, _, _, hX, hR⟩, hF⟩)
  · skip
    rcases isN_cases y t (by omega) with ⟨k, hk, rfl⟩ | hk
    · skip
      refine V.ald_n C dX5_push_0 rfl ?_
      refine V.ild_n C dX5_push_1 rfl ?_
      refine V.callVp C mo_X5_beingAt im_X5_beingAt se_X5_beingAt ml_RX5_133 (ev_X5_beingAt_f hX hI hw) dX5_push_2 rfl rfl hX.x0 rfl rfl (Nat.le_of_ble_eq_true rfl) (RmOk.mk' (by decide) (by decide) (by decide) (by decide)) ⟨rfl, rfl⟩ ?_
      refine V.ast C dX5_push_5 (Nat.le_of_ble_eq_true rfl) rfl ?_
      refine V.ald_n C dX5_push_7 rfl ?_
      refine V.ild_n C dX5_push_8 rfl ?_
      refine V.callVp C mo_X5_thingAt im_X5_thingAt se_X5_thingAt ml_RX5_105 (ev_X5_thingAt_t hX hI (show k < t by omega)) dX5_push_9 rfl rfl hX.x0 rfl rfl (Nat.le_of_ble_eq_true rfl) (RmOk.mk' (by decide) (by decide) (by decide) (by decide)) ⟨rfl, rfl⟩ ?_
      refine V.ast C dX5_push_12 (Nat.le_of_ble_eq_true rfl) rfl ?_
      refine V.ald C dX5_push_14 rfl ?_
      refine V.ifnullN C (tgt := 31) dX5_push_16 (by decide) ?_
      refine V.iconst C (x := -1) dX5_push_31 (by decide) ?_
      exact V.iret X dX5_push_32 rfl (by decide) (by decide) (by unfold S_push; rw [ok1_f hw]; exact ⟨rfl, ⟨_, _, _, _, _, hX, hR⟩, hF⟩)
    · skip
      refine V.ald_n C dX5_push_0 rfl ?_
      refine V.ild_n C dX5_push_1 rfl ?_
      refine V.callVp C mo_X5_beingAt im_X5_beingAt se_X5_beingAt ml_RX5_133 (ev_X5_beingAt_f hX hI hw) dX5_push_2 rfl rfl hX.x0 rfl rfl (Nat.le_of_ble_eq_true rfl) (RmOk.mk' (by decide) (by decide) (by decide) (by decide)) ⟨rfl, rfl⟩ ?_
      refine V.ast C dX5_push_5 (Nat.le_of_ble_eq_true rfl) rfl ?_
      refine V.ald_n C dX5_push_7 rfl ?_
      refine V.ild_n C dX5_push_8 rfl ?_
      refine V.callVp C mo_X5_thingAt im_X5_thingAt se_X5_thingAt ml_RX5_105 (ev_X5_thingAt_f hX hI hk) dX5_push_9 rfl rfl hX.x0 rfl rfl (Nat.le_of_ble_eq_true rfl) (RmOk.mk' (by decide) (by decide) (by decide) (by decide)) ⟨rfl, rfl⟩ ?_
      refine V.ast C dX5_push_12 (Nat.le_of_ble_eq_true rfl) rfl ?_
      refine V.ald C dX5_push_14 rfl ?_
      refine V.ifnullN C (tgt := 31) dX5_push_16 (by decide) ?_
      refine V.iconst C (x := -1) dX5_push_31 (by decide) ?_
      exact V.iret X dX5_push_32 rfl (by decide) (by decide) (by unfold S_push; rw [ok1_f hw]; exact ⟨rfl, ⟨_, _, _, _, _, hX, hR⟩, hF⟩)
