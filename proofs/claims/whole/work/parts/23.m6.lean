theorem goG_neg {A : ST} {w : Nat} (h : A 18 w = -1) : goG A w = fun q => q = w := by
  funext q
  unfold goG
  exact propext ⟨fun z => z.elim (fun y => y.2) (fun y => absurd h y.1), fun z => Or.inl ⟨h, z⟩⟩
theorem goG_k {A : ST} {w k : Nat} (h : A 18 w = nI k) (hk : k < 2 ^ 31) : goG A w = fun q => A 18 q = nI k := by
  funext q
  unfold goG
  rw [h]
  exact propext ⟨fun z => z.elim (fun y => absurd y.1 (nI_neg hk)) (fun y => y.2), fun z => Or.inr ⟨nI_neg hk, z⟩⟩
theorem gbS_neg {A : ST} {b w a j : Nat} (h : A 18 w = -1) (ha : A 17 w = nI a) (ha2 : a < 2 ^ 31) : gbS A b w j = cI (wyT A a j 0 = 0) (ldT A a j, mvA A b (fun q => q = w) (-1) a j) (-(wyT A a j 0), A) := by
  unfold gbS
  rw [goG_neg h, h, ha, nI_clamp ha2, cI_f (fun q => q.1 rfl), cI_t rfl]
theorem gbS_box {A : ST} {b w k j : Nat} (h : A 18 w = nI k) (hk : k < 2 ^ 31) (hs : A 11 k = 3) : gbS A b w j = (cI (A 15 k = 1) (-21) (-24), A) := by
  unfold gbS
  rw [h, nI_clamp hk, cI_t ⟨nI_neg hk, hs⟩]
theorem gbS_car {A : ST} {b w k a j : Nat} (h : A 18 w = nI k) (hk : k < 2 ^ 31) (hs : ¬ A 11 k = 3) (ha : A 17 w = nI a) (ha2 : a < 2 ^ 31) : gbS A b w j = cI (wyT A a j (A 12 k) = 0) (ldT A a j, mvA A b (fun q => A 18 q = nI k) (nI k) a j) (-(wyT A a j (A 12 k)), A) := by
  unfold gbS
  rw [goG_k h hk, h, ha, nI_clamp ha2, nI_clamp hk, cI_f (fun q => hs q.2), cI_f (nI_neg hk)]
theorem ev_X6_goBy {g : GD} {r d t b : Nat} {A : ST} {L : List AE} (hM : MR r d t b A L) (hI : Inv r d t b A) {w j : Nat} (hw : w < b) (hj : j < 8) : Ev g mX6_goBy [aR 23, aI (nI w), aI (nI j)] L (fun v L1 => v = some (aI (gbS A b w j).1) ∧ MR r d t b (gbS A b w j).2 L1 ∧ FrM L L1) := by
  refine Ev.of [some (aR 23), some (aI (nI w)), some (aI (nI j)), none, none] (by decide) rfl (Nat.le_of_ble_eq_true rfl) fun Z H0 C X => ?_
  have hN := hI.cn
  have hF : FrM L L := FrM.rf
  obtain ⟨a, hal, ha⟩ := (hI.cb hw).1
  rcases (hI.cb hw).2.1 with hw1 | ⟨k, hk, hw1, hk2⟩
  · skip
    refine V.ald_n C dX6_goBy_0 rfl ?_
    refine V.get C fg_RX6_50 dX6_goBy_1 hM.1 rfl ?_
    refine V.ild_n C dX6_goBy_4 rfl ?_
    refine V.ialdN C (N := 6) dX6_goBy_5 (hM.2 18 (by decide)) (by omega) (by decide) ?_
    refine V.top hw1 ?_
    refine V.ist_n C dX6_goBy_6 (Nat.le_of_ble_eq_true rfl) rfl ?_
    refine V.ild_n C dX6_goBy_7 rfl ?_
    refine V.if_lt C (tgt := 38) dX6_goBy_8 (by decide) (fun h8 => ?_) (fun h8 => absurd h8 (by decide))
    refine V.ald_n C dX6_goBy_38 rfl ?_
    refine V.ald_n C dX6_goBy_39 rfl ?_
    refine V.get C fg_RX6_47 dX6_goBy_40 hM.1 rfl ?_
    refine V.ild_n C dX6_goBy_43 rfl ?_
    refine V.ialdN C (N := 6) dX6_goBy_44 (hM.2 17 (by decide)) (by omega) (by decide) ?_
    refine V.top ha ?_
    refine V.ild_n C dX6_goBy_45 rfl ?_
    refine V.ild_n C dX6_goBy_46 rfl ?_
    refine V.if_ge C (tgt := 54) dX6_goBy_47 (by decide) (fun h47 => absurd h47 (by decide)) (fun h47 => ?_)
    refine V.iconst C (x := 0) dX6_goBy_50 (by decide) ?_
    refine V.goto C (tgt := 60) dX6_goBy_51 (by decide) ?_
    refine V.callVp C mo_X6_wayText im_X6_wayText se_X6_wayText ml_RX6_161 (ev_X6_wayText hM hI (by omega) (by omega) _) dX6_goBy_60 rfl rfl hM.1 rfl rfl (Nat.le_of_ble_eq_true rfl) (RmOk.mk' (by decide) (by decide) (by decide) (by decide)) ⟨rfl, rfl⟩ ?_
    refine V.ist C dX6_goBy_63 (Nat.le_of_ble_eq_true rfl) rfl ?_
    refine V.ild C dX6_goBy_65 rfl ?_
    refine V.if_le C (tgt := 74) dX6_goBy_67 (by decide) (fun h67 => ?_) (fun h67 => ?_)
    · skip
      have hT := (nng_le (wyT_nn hI hal hj _)).mp h67
      obtain ⟨to, hto, hl⟩ := wyT_0 hI hal hj hT
      refine V.ald_n C dX6_goBy_74 rfl ?_
      refine V.ild_n C dX6_goBy_75 rfl ?_
      refine V.if_ge C (tgt := 85) dX6_goBy_76 (by decide) (fun h76 => absurd h76 (by decide)) (fun h76 => ?_)
      refine V.iconst C (x := 1) dX6_goBy_79 (by decide) ?_
      refine V.ild_n C dX6_goBy_80 rfl ?_
      refine V.ishl C dX6_goBy_81 ?_
      refine V.top (show (1 : Int32) <<< (nI w &&& 31) = nI (bsn (fun q => q = w) b) from (by rw [bit1 w (by omega), bsn_one hw])) ?_
      refine V.goto C (tgt := 90) dX6_goBy_82 (by decide) ?_
      refine V.ild_n C dX6_goBy_90 rfl ?_
      refine V.ald_n C dX6_goBy_91 rfl ?_
      refine V.get C fg_RX6_47 dX6_goBy_92 hM.1 rfl ?_
      refine V.ild_n C dX6_goBy_95 rfl ?_
      refine V.ialdN C (N := 6) dX6_goBy_96 (hM.2 17 (by decide)) (by omega) (by decide) ?_
      refine V.top ha ?_
      refine V.ild_n C dX6_goBy_97 rfl ?_
      refine V.callV C mo_X6_move im_X6_move se_X6_move ml_RX6_167 (ev_X6_move hM hI (fun q => q = w) (Or.inl rfl) hal hj hto hl) dX6_goBy_98 rfl rfl hM.1 rfl rfl (Nat.le_of_ble_eq_true rfl) (RmOk.mk' (by decide) (by decide) (by decide) (by decide)) (fun v L1 hq => ?_)
      obtain ⟨rfl, hM, hF2⟩ := hq
      have hF := hF.tr hF2
      exact V.iret X dX6_goBy_101 rfl (by decide) (by decide) ⟨by rw [gbS_neg hw1 ha (by omega), cI_t hT], by rw [gbS_neg hw1 ha (by omega), cI_t hT]; exact hM, hF⟩
    · skip
      refine V.ild C dX6_goBy_70 rfl ?_
      refine V.ineg C dX6_goBy_72 ?_
      exact V.iret X dX6_goBy_73 rfl (by decide) (by decide) ⟨by rw [gbS_neg hw1 ha (by omega), cI_f (fun q => h67 ((nng_le (wyT_nn hI hal hj _)).mpr q))], by rw [gbS_neg hw1 ha (by omega), cI_f (fun q => h67 ((nng_le (wyT_nn hI hal hj _)).mpr q))]; exact hM, hF⟩
  · skip
    refine V.ald_n C dX6_goBy_0 rfl ?_
    refine V.get C fg_RX6_50 dX6_goBy_1 hM.1 rfl ?_
    refine V.ild_n C dX6_goBy_4 rfl ?_
    refine V.ialdN C (N := 6) dX6_goBy_5 (hM.2 18 (by decide)) (by omega) (by decide) ?_
    refine V.top hw1 ?_
    refine V.ist_n C dX6_goBy_6 (Nat.le_of_ble_eq_true rfl) rfl ?_
    refine V.ild_n C dX6_goBy_7 rfl ?_
    refine V.if_lt C (tgt := 38) dX6_goBy_8 (by decide) (fun h8 => absurd h8 (nI_pos (by omega))) (fun h8 => ?_)
    refine V.ald_n C dX6_goBy_11 rfl ?_
    refine V.get C fg_RX6_32 dX6_goBy_12 hM.1 rfl ?_
    refine V.ild_n C dX6_goBy_15 rfl ?_
    refine V.ialdN C (N := 30) dX6_goBy_16 (hM.2 11 (by decide)) (by omega) (by decide) ?_
    refine V.iconst C (x := 3) dX6_goBy_17 (by decide) ?_
    refine V.icmp_ne C (tgt := 38) dX6_goBy_18 (by decide) (fun h18 => ?_) (fun h18 => ?_)
    · skip
      refine V.ald_n C dX6_goBy_38 rfl ?_
      refine V.ald_n C dX6_goBy_39 rfl ?_
      refine V.get C fg_RX6_47 dX6_goBy_40 hM.1 rfl ?_
      refine V.ild_n C dX6_goBy_43 rfl ?_
      refine V.ialdN C (N := 6) dX6_goBy_44 (hM.2 17 (by decide)) (by omega) (by decide) ?_
      refine V.top ha ?_
      refine V.ild_n C dX6_goBy_45 rfl ?_
      refine V.ild_n C dX6_goBy_46 rfl ?_
      refine V.if_ge C (tgt := 54) dX6_goBy_47 (by decide) (fun h47 => ?_) (fun h47 => absurd (nI_pos' (by omega)) h47)
      refine V.ald_n C dX6_goBy_54 rfl ?_
      refine V.get C fg_RX6_35 dX6_goBy_55 hM.1 rfl ?_
      refine V.ild_n C dX6_goBy_58 rfl ?_
      refine V.ialdN C (N := 30) dX6_goBy_59 (hM.2 12 (by decide)) (by omega) (by decide) ?_
      refine V.callVp C mo_X6_wayText im_X6_wayText se_X6_wayText ml_RX6_161 (ev_X6_wayText hM hI (by omega) (by omega) _) dX6_goBy_60 rfl rfl hM.1 rfl rfl (Nat.le_of_ble_eq_true rfl) (RmOk.mk' (by decide) (by decide) (by decide) (by decide)) ⟨rfl, rfl⟩ ?_
      refine V.ist C dX6_goBy_63 (Nat.le_of_ble_eq_true rfl) rfl ?_
      refine V.ild C dX6_goBy_65 rfl ?_
      refine V.if_le C (tgt := 74) dX6_goBy_67 (by decide) (fun h67 => ?_) (fun h67 => ?_)
      · skip
        have hT := (nng_le (wyT_nn hI hal hj _)).mp h67
        obtain ⟨to, hto, hl⟩ := wyT_0 hI hal hj hT
        refine V.ald_n C dX6_goBy_74 rfl ?_
        refine V.ild_n C dX6_goBy_75 rfl ?_
        refine V.if_ge C (tgt := 85) dX6_goBy_76 (by decide) (fun h76 => ?_) (fun h76 => absurd (nI_pos' (by omega)) h76)
        refine V.ald_n C dX6_goBy_85 rfl ?_
        refine V.ild_n C dX6_goBy_86 rfl ?_
        refine V.callVp C mo_X6_insideOf im_X6_insideOf se_X6_insideOf ml_RX6_164 (ev_X6_insideOf hM hI _) dX6_goBy_87 rfl rfl hM.1 rfl rfl (Nat.le_of_ble_eq_true rfl) (RmOk.mk' (by decide) (by decide) (by decide) (by decide)) ⟨rfl, rfl⟩ ?_
        refine V.ild_n C dX6_goBy_90 rfl ?_
        refine V.ald_n C dX6_goBy_91 rfl ?_
        refine V.get C fg_RX6_47 dX6_goBy_92 hM.1 rfl ?_
        refine V.ild_n C dX6_goBy_95 rfl ?_
        refine V.ialdN C (N := 6) dX6_goBy_96 (hM.2 17 (by decide)) (by omega) (by decide) ?_
        refine V.top ha ?_
        refine V.ild_n C dX6_goBy_97 rfl ?_
        refine V.callV C mo_X6_move im_X6_move se_X6_move ml_RX6_167 (ev_X6_move hM hI (fun q => A 18 q = nI k) (Or.inr ⟨k, hk, rfl⟩) hal hj hto hl) dX6_goBy_98 rfl rfl hM.1 rfl rfl (Nat.le_of_ble_eq_true rfl) (RmOk.mk' (by decide) (by decide) (by decide) (by decide)) (fun v L1 hq => ?_)
        obtain ⟨rfl, hM, hF2⟩ := hq
        have hF := hF.tr hF2
        exact V.iret X dX6_goBy_101 rfl (by decide) (by decide) ⟨by rw [gbS_car hw1 (by omega) h18 ha (by omega), cI_t hT], by rw [gbS_car hw1 (by omega) h18 ha (by omega), cI_t hT]; exact hM, hF⟩
      · skip
        refine V.ild C dX6_goBy_70 rfl ?_
        refine V.ineg C dX6_goBy_72 ?_
        exact V.iret X dX6_goBy_73 rfl (by decide) (by decide) ⟨by rw [gbS_car hw1 (by omega) h18 ha (by omega), cI_f (fun q => h67 ((nng_le (wyT_nn hI hal hj _)).mpr q))], by rw [gbS_car hw1 (by omega) h18 ha (by omega), cI_f (fun q => h67 ((nng_le (wyT_nn hI hal hj _)).mpr q))]; exact hM, hF⟩
    · skip
      refine V.ald_n C dX6_goBy_21 rfl ?_
      refine V.get C fg_RX6_44 dX6_goBy_22 hM.1 rfl ?_
      refine V.ild_n C dX6_goBy_25 rfl ?_
      refine V.zaldN C (N := 30) dX6_goBy_26 (hM.2 15 (by decide)) (by omega) (by decide) ?_
      refine V.if_eq C (tgt := 35) dX6_goBy_27 (by decide) (fun h27 => ?_) (fun h27 => ?_)
      · skip
        refine V.bipush C (x := -24) dX6_goBy_35 (by decide) ?_
        exact V.iret X dX6_goBy_37 rfl (by decide) (by decide) ⟨by rw [gbS_box hw1 (by omega) h18, cI_f (show ¬ A 15 k = 1 from fun q => by rw [h27] at q; exact absurd q (by decide))], by rw [gbS_box hw1 (by omega) h18]; exact hM, hF⟩
      · skip
        refine V.bipush C (x := -21) dX6_goBy_30 (by decide) ?_
        refine V.goto C (tgt := 37) dX6_goBy_32 (by decide) ?_
        exact V.iret X dX6_goBy_37 rfl (by decide) (by decide) ⟨by rw [gbS_box hw1 (by omega) h18, cI_t (show A 15 k = 1 from (hI.ct hk).2.2.2.1.resolve_left h27)], by rw [gbS_box hw1 (by omega) h18]; exact hM, hF⟩
theorem ev_X6_go {g : GD} {r d t b : Nat} {A : ST} {L : List AE} (hM : MR r d t b A L) (hI : Inv r d t b A) (x y : Int32) : Ev g mX6_go [aR 23, aI x, aI y] L (MQt L (S_go r d t b A x y)) := by
  refine Ev.of [some (aR 23), some (aI x), some (aI y)] (by decide) rfl (Nat.le_of_ble_eq_true rfl) fun Z H0 C X => ?_
  have hN := hI.cn
  have hF : FrM L L := FrM.rf
  rcases isN_cases x b (by omega) with ⟨w, hw, rfl⟩ | hw
  · skip
    rcases isN_cases y 8 (by omega) with ⟨j, hj, rfl⟩ | hj
    · skip
      refine V.ald_n C dX6_go_0 rfl ?_
      refine V.iconst C (x := 0) dX6_go_1 (by decide) ?_
      refine V.put C fl_RX6_77 dX6_go_2 hM.1 ⟨rfl, rfl⟩ (Nat.le_of_ble_eq_true rfl) (fun h => by cases h) (set_same hM.1) ?_
      refine V.ald_n C dX6_go_5 rfl ?_
      refine V.ild_n C dX6_go_6 rfl ?_
      refine V.callVp C mo_X6_isBeing im_X6_isBeing se_X6_isBeing ml_RX6_123 (ev_X6_isBeing hM hI _) dX6_go_7 rfl rfl hM.1 rfl rfl (Nat.le_of_ble_eq_true rfl) (RmOk.mk' (by decide) (by decide) (by decide) (by decide)) ⟨rfl, rfl⟩ ?_
      refine V.ifb_eq C (tgt := 32) dX6_go_10 (by decide) (fun h10 => absurd (isN_nI (show w < b by omega) (by omega)) h10) (fun h10 => ?_)
      refine V.ild_n C dX6_go_13 rfl ?_
      refine V.iconst C (x := 0) dX6_go_14 (by decide) ?_
      refine V.bipush C (x := 7) dX6_go_15 (by decide) ?_
      refine V.callSp C mo_X6_in sm_X6_in ml_RX6_84 (ev_X6_in0 _ 8 (by decide)) dX6_go_17 rfl rfl (Nat.le_of_ble_eq_true rfl) (RmOk.mk' (by decide) (by decide) (by decide) (by decide)) ⟨rfl, rfl⟩ ?_
      refine V.ifb_eq C (tgt := 32) dX6_go_20 (by decide) (fun h20 => absurd (isN_nI (show j < 8 by omega) (by omega)) h20) (fun h20 => ?_)
      refine V.ald_n C dX6_go_23 rfl ?_
      refine V.ild_n C dX6_go_24 rfl ?_
      refine V.ild_n C dX6_go_25 rfl ?_
      refine V.callV C mo_X6_goBy im_X6_goBy se_X6_goBy ml_RX6_171 (ev_X6_goBy hM hI hw hj) dX6_go_26 rfl rfl hM.1 rfl rfl (Nat.le_of_ble_eq_true rfl) (RmOk.mk' (by decide) (by decide) (by decide) (by decide)) (fun v L1 hq => ?_)
      obtain ⟨rfl, hM, hF2⟩ := hq
      have hF := hF.tr hF2
      refine V.goto C (tgt := 33) dX6_go_29 (by decide) ?_
      exact V.iret X dX6_go_33 rfl (by decide) (by decide) (by unfold S_go; rw [ok1_t hw (by omega), ok1_t hj (by omega)]; exact ⟨rfl, hM, hF⟩)
    · skip
      refine V.ald_n C dX6_go_0 rfl ?_
      refine V.iconst C (x := 0) dX6_go_1 (by decide) ?_
      refine V.put C fl_RX6_77 dX6_go_2 hM.1 ⟨rfl, rfl⟩ (Nat.le_of_ble_eq_true rfl) (fun h => by cases h) (set_same hM.1) ?_
      refine V.ald_n C dX6_go_5 rfl ?_
      refine V.ild_n C dX6_go_6 rfl ?_
      refine V.callVp C mo_X6_isBeing im_X6_isBeing se_X6_isBeing ml_RX6_123 (ev_X6_isBeing hM hI _) dX6_go_7 rfl rfl hM.1 rfl rfl (Nat.le_of_ble_eq_true rfl) (RmOk.mk' (by decide) (by decide) (by decide) (by decide)) ⟨rfl, rfl⟩ ?_
      refine V.ifb_eq C (tgt := 32) dX6_go_10 (by decide) (fun h10 => absurd (isN_nI (show w < b by omega) (by omega)) h10) (fun h10 => ?_)
      refine V.ild_n C dX6_go_13 rfl ?_
      refine V.iconst C (x := 0) dX6_go_14 (by decide) ?_
      refine V.bipush C (x := 7) dX6_go_15 (by decide) ?_
      refine V.callSp C mo_X6_in sm_X6_in ml_RX6_84 (ev_X6_in0 _ 8 (by decide)) dX6_go_17 rfl rfl (Nat.le_of_ble_eq_true rfl) (RmOk.mk' (by decide) (by decide) (by decide) (by decide)) ⟨rfl, rfl⟩ ?_
      refine V.ifb_eq C (tgt := 32) dX6_go_20 (by decide) (fun h20 => ?_) (fun h20 => absurd h20 hj)
      refine V.iconst C (x := -1) dX6_go_32 (by decide) ?_
      exact V.iret X dX6_go_33 rfl (by decide) (by decide) (by unfold S_go; rw [ok1_t hw (by omega), ok1_f hj]; exact ⟨rfl, hM, hF⟩)
  · skip
    refine V.ald_n C dX6_go_0 rfl ?_
    refine V.iconst C (x := 0) dX6_go_1 (by decide) ?_
    refine V.put C fl_RX6_77 dX6_go_2 hM.1 ⟨rfl, rfl⟩ (Nat.le_of_ble_eq_true rfl) (fun h => by cases h) (set_same hM.1) ?_
    refine V.ald_n C dX6_go_5 rfl ?_
    refine V.ild_n C dX6_go_6 rfl ?_
    refine V.callVp C mo_X6_isBeing im_X6_isBeing se_X6_isBeing ml_RX6_123 (ev_X6_isBeing hM hI _) dX6_go_7 rfl rfl hM.1 rfl rfl (Nat.le_of_ble_eq_true rfl) (RmOk.mk' (by decide) (by decide) (by decide) (by decide)) ⟨rfl, rfl⟩ ?_
    refine V.ifb_eq C (tgt := 32) dX6_go_10 (by decide) (fun h10 => ?_) (fun h10 => absurd h10 hw)
    refine V.iconst C (x := -1) dX6_go_32 (by decide) ?_
    exact V.iret X dX6_go_33 rfl (by decide) (by decide) (by unfold S_go; rw [ok1_f hw]; exact ⟨rfl, hM, hF⟩)
theorem or_push {A : ST} {b w k : Nat} (hb : b ≤ 6) (hw : w < b) (h : ¬ A 18 w = nI k) : nI (bsn (fun q => A 18 q = nI k) b) ||| ((1 : Int32) <<< (nI w &&& 31)) = nI (bsn (fun q => A 18 q = nI k ∨ q = w) b) := by
  have h1 : bsn (fun q => A 18 q = nI k) b < 64 := Nat.lt_of_lt_of_le (bsn_lt _ b) (by rw [show (64 : Nat) = 2 ^ 6 from rfl]; exact Nat.pow_le_pow_right (by omega) hb)
  rw [or_bit2 w (by omega) _ h1 (by rw [bsn_bit hw, cI_f h]), bsn_add hw h]
theorem ev_X6_push {g : GD} {r d t b : Nat} {A : ST} {L : List AE} (hM : MR r d t b A L) (hI : Inv r d t b A) (x y z : Int32) : Ev g mX6_push [aR 23, aI x, aI y, aI z] L (MQt L (S_push r d t b A x y z)) := by
  refine Ev.of [some (aR 23), some (aI x), some (aI y), some (aI z), none] (by decide) rfl (Nat.le_of_ble_eq_true rfl) fun Z H0 C X => ?_
  have hN := hI.cn
  have hF : FrM L L := FrM.rf
  rcases isN_cases x b (by omega) with ⟨w, hw, rfl⟩ | hw
  · skip
    rcases isN_cases y t (by omega) with ⟨k, hk, rfl⟩ | hk
    · skip
      rcases isN_cases z 8 (by omega) with ⟨j, hj, rfl⟩ | hj
      · skip
        refine V.ald_n C dX6_push_0 rfl ?_
        refine V.iconst C (x := 0) dX6_push_1 (by decide) ?_
        refine V.put C fl_RX6_77 dX6_push_2 hM.1 ⟨rfl, rfl⟩ (Nat.le_of_ble_eq_true rfl) (fun h => by cases h) (set_same hM.1) ?_
        refine V.ald_n C dX6_push_5 rfl ?_
        refine V.ild_n C dX6_push_6 rfl ?_
        refine V.callVp C mo_X6_isBeing im_X6_isBeing se_X6_isBeing ml_RX6_123 (ev_X6_isBeing hM hI _) dX6_push_7 rfl rfl hM.1 rfl rfl (Nat.le_of_ble_eq_true rfl) (RmOk.mk' (by decide) (by decide) (by decide) (by decide)) ⟨rfl, rfl⟩ ?_
        refine V.ifb_eq C (tgt := 31) dX6_push_10 (by decide) (fun h10 => absurd (isN_nI (show w < b by omega) (by omega)) h10) (fun h10 => ?_)
        refine V.ald_n C dX6_push_13 rfl ?_
        refine V.ild_n C dX6_push_14 rfl ?_
        refine V.callVp C mo_X6_isThing im_X6_isThing se_X6_isThing ml_RX6_111 (ev_X6_isThing hM hI _) dX6_push_15 rfl rfl hM.1 rfl rfl (Nat.le_of_ble_eq_true rfl) (RmOk.mk' (by decide) (by decide) (by decide) (by decide)) ⟨rfl, rfl⟩ ?_
        refine V.ifb_eq C (tgt := 31) dX6_push_18 (by decide) (fun h18 => absurd (isN_nI (show k < t by omega) (by omega)) h18) (fun h18 => ?_)
        refine V.ild_n C dX6_push_21 rfl ?_
        refine V.iconst C (x := 0) dX6_push_22 (by decide) ?_
        refine V.bipush C (x := 7) dX6_push_23 (by decide) ?_
        refine V.callSp C mo_X6_in sm_X6_in ml_RX6_84 (ev_X6_in0 _ 8 (by decide)) dX6_push_25 rfl rfl (Nat.le_of_ble_eq_true rfl) (RmOk.mk' (by decide) (by decide) (by decide) (by decide)) ⟨rfl, rfl⟩ ?_
        refine V.ifb_ne C (tgt := 33) dX6_push_28 (by decide) (fun h28 => ?_) (fun h28 => absurd (isN_nI (show j < 8 by omega) (by omega)) h28)
        refine V.ald_n C dX6_push_33 rfl ?_
        refine V.ild_n C dX6_push_34 rfl ?_
        refine V.ild_n C dX6_push_35 rfl ?_
        refine V.callVp C mo_X6_hasThing im_X6_hasThing se_X6_hasThing ml_RX6_129 (ev_X6_hasThing hM hI (by omega) (by omega)) dX6_push_36 rfl rfl hM.1 rfl rfl (Nat.le_of_ble_eq_true rfl) (RmOk.mk' (by decide) (by decide) (by decide) (by decide)) ⟨rfl, rfl⟩ ?_
        refine V.ifb_ne C (tgt := 45) dX6_push_39 (by decide) (fun h39 => ?_) (fun h39 => ?_)
        · skip
          refine V.ald_n C dX6_push_45 rfl ?_
          refine V.get C fg_RX6_32 dX6_push_46 hM.1 rfl ?_
          refine V.ild_n C dX6_push_49 rfl ?_
          refine V.ialdN C (N := 30) dX6_push_50 (hM.2 11 (by decide)) (by omega) (by decide) ?_
          refine V.if_eq C (tgt := 63) dX6_push_51 (by decide) (fun h51 => ?_) (fun h51 => ?_)
          · skip
            refine V.bipush C (x := -30) dX6_push_63 (by decide) ?_
            exact V.iret X dX6_push_65 rfl (by decide) (by decide) (by unfold S_push; rw [ok1_t hw (by omega), ok1_t hk (by omega), ok1_t hj (by omega), cI_t h39, cI_t (Or.inl h51)]; exact ⟨rfl, hM, hF⟩)
          · skip
            rcases (hI.ct hk).2.2.1 with hf | ⟨f, hf7, hf, -⟩
            · skip
              refine V.ald_n C dX6_push_54 rfl ?_
              refine V.get C fg_RX6_41 dX6_push_55 hM.1 rfl ?_
              refine V.ild_n C dX6_push_58 rfl ?_
              refine V.ialdN C (N := 30) dX6_push_59 (hM.2 14 (by decide)) (by omega) (by decide) ?_
              refine V.top hf ?_
              refine V.if_lt C (tgt := 66) dX6_push_60 (by decide) (fun h60 => ?_) (fun h60 => absurd h60 (by decide))
              obtain ⟨a, hal, ha⟩ := (hI.cb hw).1
              rcases (hI.cb hw).2.1 with hw1 | ⟨k2, hk2, hw1, -⟩
              · skip
                refine V.ald_n C dX6_push_66 rfl ?_
                refine V.get C fg_RX6_50 dX6_push_67 hM.1 rfl ?_
                refine V.ild_n C dX6_push_70 rfl ?_
                refine V.ialdN C (N := 6) dX6_push_71 (hM.2 18 (by decide)) (by omega) (by decide) ?_
                refine V.top hw1 ?_
                refine V.if_lt C (tgt := 78) dX6_push_72 (by decide) (fun h72 => ?_) (fun h72 => absurd h72 (by decide))
                refine V.ald_n C dX6_push_78 rfl ?_
                refine V.ald_n C dX6_push_79 rfl ?_
                refine V.get C fg_RX6_47 dX6_push_80 hM.1 rfl ?_
                refine V.ild_n C dX6_push_83 rfl ?_
                refine V.ialdN C (N := 6) dX6_push_84 (hM.2 17 (by decide)) (by omega) (by decide) ?_
                refine V.top ha ?_
                refine V.ild_n C dX6_push_85 rfl ?_
                refine V.ald_n C dX6_push_86 rfl ?_
                refine V.get C fg_RX6_35 dX6_push_87 hM.1 rfl ?_
                refine V.ild_n C dX6_push_90 rfl ?_
                refine V.ialdN C (N := 30) dX6_push_91 (hM.2 12 (by decide)) (by omega) (by decide) ?_
                refine V.callVp C mo_X6_wayText im_X6_wayText se_X6_wayText ml_RX6_161 (ev_X6_wayText hM hI (by omega) (by omega) _) dX6_push_92 rfl rfl hM.1 rfl rfl (Nat.le_of_ble_eq_true rfl) (RmOk.mk' (by decide) (by decide) (by decide) (by decide)) ⟨rfl, rfl⟩ ?_
                refine V.ist C dX6_push_95 (Nat.le_of_ble_eq_true rfl) rfl ?_
                refine V.ild C dX6_push_97 rfl ?_
                refine V.if_le C (tgt := 108) dX6_push_99 (by decide) (fun h99 => ?_) (fun h99 => ?_)
                · skip
                  have hT := (nng_le (wyT_nn hI hal hj _)).mp h99
                  obtain ⟨to, hto, hl⟩ := wyT_0 hI hal hj hT
                  refine V.ald_n C dX6_push_108 rfl ?_
                  refine V.ald_n C dX6_push_109 rfl ?_
                  refine V.ild_n C dX6_push_110 rfl ?_
                  refine V.callVp C mo_X6_insideOf im_X6_insideOf se_X6_insideOf ml_RX6_164 (ev_X6_insideOf hM hI _) dX6_push_111 rfl rfl hM.1 rfl rfl (Nat.le_of_ble_eq_true rfl) (RmOk.mk' (by decide) (by decide) (by decide) (by decide)) ⟨rfl, rfl⟩ ?_
                  refine V.iconst C (x := 1) dX6_push_114 (by decide) ?_
                  refine V.ild_n C dX6_push_115 rfl ?_
                  refine V.ishl C dX6_push_116 ?_
                  refine V.ior C dX6_push_117 ?_
                  refine V.top (or_push (by omega) hw (fun q => nI_neg (show k < 2 ^ 31 by omega) (q.symm.trans hw1))) ?_
                  refine V.ild_n C dX6_push_118 rfl ?_
                  refine V.ald_n C dX6_push_119 rfl ?_
                  refine V.get C fg_RX6_47 dX6_push_120 hM.1 rfl ?_
                  refine V.ild_n C dX6_push_123 rfl ?_
                  refine V.ialdN C (N := 6) dX6_push_124 (hM.2 17 (by decide)) (by omega) (by decide) ?_
                  refine V.top ha ?_
                  refine V.ild_n C dX6_push_125 rfl ?_
                  refine V.callV C mo_X6_move im_X6_move se_X6_move ml_RX6_167 (ev_X6_move hM hI (fun q => A 18 q = nI k ∨ q = w) (Or.inr ⟨k, hk, rfl⟩) hal hj hto hl) dX6_push_126 rfl rfl hM.1 rfl rfl (Nat.le_of_ble_eq_true rfl) (RmOk.mk' (by decide) (by decide) (by decide) (by decide)) (fun v L1 hq => ?_)
                  obtain ⟨rfl, hM, hF2⟩ := hq
                  have hF := hF.tr hF2
                  exact V.iret X dX6_push_129 rfl (by decide) (by decide) (by unfold S_push; rw [ok1_t hw (by omega), ok1_t hk (by omega), ok1_t hj (by omega), cI_t h39, cI_f (fun q => q.elim h51 (fun z => z hf)), cI_t hw1]; unfold puS; rw [ha, nI_clamp (show a < 2 ^ 31 by omega), cI_t hT]; exact ⟨rfl, hM, hF⟩)
                · skip
                  refine V.ild C dX6_push_102 rfl ?_
                  refine V.ineg C dX6_push_104 ?_
                  refine V.goto C (tgt := 129) dX6_push_105 (by decide) ?_
                  exact V.iret X dX6_push_129 rfl (by decide) (by decide) (by unfold S_push; rw [ok1_t hw (by omega), ok1_t hk (by omega), ok1_t hj (by omega), cI_t h39, cI_f (fun q => q.elim h51 (fun z => z hf)), cI_t hw1]; unfold puS; rw [ha, nI_clamp (show a < 2 ^ 31 by omega), cI_f (fun q => h99 ((nng_le (wyT_nn hI hal hj _)).mpr q))]; exact ⟨rfl, hM, hF⟩)
              · skip
                refine V.ald_n C dX6_push_66 rfl ?_
                refine V.get C fg_RX6_50 dX6_push_67 hM.1 rfl ?_
                refine V.ild_n C dX6_push_70 rfl ?_
                refine V.ialdN C (N := 6) dX6_push_71 (hM.2 18 (by decide)) (by omega) (by decide) ?_
                refine V.top hw1 ?_
                refine V.if_lt C (tgt := 78) dX6_push_72 (by decide) (fun h72 => absurd h72 (nI_pos (by omega))) (fun h72 => ?_)
                refine V.bipush C (x := -20) dX6_push_75 (by decide) ?_
                exact V.iret X dX6_push_77 rfl (by decide) (by decide) (by unfold S_push; rw [ok1_t hw (by omega), ok1_t hk (by omega), ok1_t hj (by omega), cI_t h39, cI_f (fun q => q.elim h51 (fun z => z hf)), cI_f (fun q => nI_neg (show k2 < 2 ^ 31 by omega) (hw1.symm.trans q))]; exact ⟨rfl, hM, hF⟩)
            · skip
              refine V.ald_n C dX6_push_54 rfl ?_
              refine V.get C fg_RX6_41 dX6_push_55 hM.1 rfl ?_
              refine V.ild_n C dX6_push_58 rfl ?_
              refine V.ialdN C (N := 30) dX6_push_59 (hM.2 14 (by decide)) (by omega) (by decide) ?_
              refine V.top hf ?_
              refine V.if_lt C (tgt := 66) dX6_push_60 (by decide) (fun h60 => absurd h60 (nI_pos (by omega))) (fun h60 => ?_)
              refine V.bipush C (x := -30) dX6_push_63 (by decide) ?_
              exact V.iret X dX6_push_65 rfl (by decide) (by decide) (by unfold S_push; rw [ok1_t hw (by omega), ok1_t hk (by omega), ok1_t hj (by omega), cI_t h39, cI_t (Or.inr (fun q => nI_neg (show f < 2 ^ 31 by omega) (hf.symm.trans q)))]; exact ⟨rfl, hM, hF⟩)
        · skip
          refine V.bipush C (x := -10) dX6_push_42 (by decide) ?_
          exact V.iret X dX6_push_44 rfl (by decide) (by decide) (by unfold S_push; rw [ok1_t hw (by omega), ok1_t hk (by omega), ok1_t hj (by omega), cI_f h39]; exact ⟨rfl, hM, hF⟩)
      · skip
        refine V.ald_n C dX6_push_0 rfl ?_
        refine V.iconst C (x := 0) dX6_push_1 (by decide) ?_
        refine V.put C fl_RX6_77 dX6_push_2 hM.1 ⟨rfl, rfl⟩ (Nat.le_of_ble_eq_true rfl) (fun h => by cases h) (set_same hM.1) ?_
        refine V.ald_n C dX6_push_5 rfl ?_
        refine V.ild_n C dX6_push_6 rfl ?_
        refine V.callVp C mo_X6_isBeing im_X6_isBeing se_X6_isBeing ml_RX6_123 (ev_X6_isBeing hM hI _) dX6_push_7 rfl rfl hM.1 rfl rfl (Nat.le_of_ble_eq_true rfl) (RmOk.mk' (by decide) (by decide) (by decide) (by decide)) ⟨rfl, rfl⟩ ?_
        refine V.ifb_eq C (tgt := 31) dX6_push_10 (by decide) (fun h10 => absurd (isN_nI (show w < b by omega) (by omega)) h10) (fun h10 => ?_)
        refine V.ald_n C dX6_push_13 rfl ?_
        refine V.ild_n C dX6_push_14 rfl ?_
        refine V.callVp C mo_X6_isThing im_X6_isThing se_X6_isThing ml_RX6_111 (ev_X6_isThing hM hI _) dX6_push_15 rfl rfl hM.1 rfl rfl (Nat.le_of_ble_eq_true rfl) (RmOk.mk' (by decide) (by decide) (by decide) (by decide)) ⟨rfl, rfl⟩ ?_
        refine V.ifb_eq C (tgt := 31) dX6_push_18 (by decide) (fun h18 => absurd (isN_nI (show k < t by omega) (by omega)) h18) (fun h18 => ?_)
        refine V.ild_n C dX6_push_21 rfl ?_
        refine V.iconst C (x := 0) dX6_push_22 (by decide) ?_
        refine V.bipush C (x := 7) dX6_push_23 (by decide) ?_
        refine V.callSp C mo_X6_in sm_X6_in ml_RX6_84 (ev_X6_in0 _ 8 (by decide)) dX6_push_25 rfl rfl (Nat.le_of_ble_eq_true rfl) (RmOk.mk' (by decide) (by decide) (by decide) (by decide)) ⟨rfl, rfl⟩ ?_
        refine V.ifb_ne C (tgt := 33) dX6_push_28 (by decide) (fun h28 => absurd h28 hj) (fun h28 => ?_)
        refine V.iconst C (x := -1) dX6_push_31 (by decide) ?_
        exact V.iret X dX6_push_32 rfl (by decide) (by decide) (by unfold S_push; rw [ok1_t hw (by omega), ok1_t hk (by omega), ok1_f hj]; exact ⟨rfl, hM, hF⟩)
    · skip
      refine V.ald_n C dX6_push_0 rfl ?_
      refine V.iconst C (x := 0) dX6_push_1 (by decide) ?_
      refine V.put C fl_RX6_77 dX6_push_2 hM.1 ⟨rfl, rfl⟩ (Nat.le_of_ble_eq_true rfl) (fun h => by cases h) (set_same hM.1) ?_
      refine V.ald_n C dX6_push_5 rfl ?_
      refine V.ild_n C dX6_push_6 rfl ?_
      refine V.callVp C mo_X6_isBeing im_X6_isBeing se_X6_isBeing ml_RX6_123 (ev_X6_isBeing hM hI _) dX6_push_7 rfl rfl hM.1 rfl rfl (Nat.le_of_ble_eq_true rfl) (RmOk.mk' (by decide) (by decide) (by decide) (by decide)) ⟨rfl, rfl⟩ ?_
      refine V.ifb_eq C (tgt := 31) dX6_push_10 (by decide) (fun h10 => absurd (isN_nI (show w < b by omega) (by omega)) h10) (fun h10 => ?_)
      refine V.ald_n C dX6_push_13 rfl ?_
      refine V.ild_n C dX6_push_14 rfl ?_
      refine V.callVp C mo_X6_isThing im_X6_isThing se_X6_isThing ml_RX6_111 (ev_X6_isThing hM hI _) dX6_push_15 rfl rfl hM.1 rfl rfl (Nat.le_of_ble_eq_true rfl) (RmOk.mk' (by decide) (by decide) (by decide) (by decide)) ⟨rfl, rfl⟩ ?_
      refine V.ifb_eq C (tgt := 31) dX6_push_18 (by decide) (fun h18 => ?_) (fun h18 => absurd h18 hk)
      refine V.iconst C (x := -1) dX6_push_31 (by decide) ?_
      exact V.iret X dX6_push_32 rfl (by decide) (by decide) (by unfold S_push; rw [ok1_t hw (by omega), ok1_f hk]; exact ⟨rfl, hM, hF⟩)
  · skip
    refine V.ald_n C dX6_push_0 rfl ?_
    refine V.iconst C (x := 0) dX6_push_1 (by decide) ?_
    refine V.put C fl_RX6_77 dX6_push_2 hM.1 ⟨rfl, rfl⟩ (Nat.le_of_ble_eq_true rfl) (fun h => by cases h) (set_same hM.1) ?_
    refine V.ald_n C dX6_push_5 rfl ?_
    refine V.ild_n C dX6_push_6 rfl ?_
    refine V.callVp C mo_X6_isBeing im_X6_isBeing se_X6_isBeing ml_RX6_123 (ev_X6_isBeing hM hI _) dX6_push_7 rfl rfl hM.1 rfl rfl (Nat.le_of_ble_eq_true rfl) (RmOk.mk' (by decide) (by decide) (by decide) (by decide)) ⟨rfl, rfl⟩ ?_
    refine V.ifb_eq C (tgt := 31) dX6_push_10 (by decide) (fun h10 => ?_) (fun h10 => absurd h10 hw)
    refine V.iconst C (x := -1) dX6_push_31 (by decide) ?_
    exact V.iret X dX6_push_32 rfl (by decide) (by decide) (by unfold S_push; rw [ok1_f hw]; exact ⟨rfl, hM, hF⟩)
theorem ev_X6_back {g : GD} {r d t b : Nat} {A : ST} {L : List AE} (hM : MR r d t b A L) (hI : Inv r d t b A) (x : Int32) : Ev g mX6_back [aR 23, aI x] L (MQt L (S_back r d t b A x)) := by
  refine Ev.of [some (aR 23), some (aI x), none] (by decide) rfl (Nat.le_of_ble_eq_true rfl) fun Z H0 C X => ?_
  have hN := hI.cn
  have hF : FrM L L := FrM.rf
  rcases isN_cases x b (by omega) with ⟨w, hw, rfl⟩ | hw
  · skip
    refine V.ald_n C dX6_back_0 rfl ?_
    refine V.iconst C (x := 0) dX6_back_1 (by decide) ?_
    refine V.put C fl_RX6_77 dX6_back_2 hM.1 ⟨rfl, rfl⟩ (Nat.le_of_ble_eq_true rfl) (fun h => by cases h) (set_same hM.1) ?_
    refine V.ald_n C dX6_back_5 rfl ?_
    refine V.ild_n C dX6_back_6 rfl ?_
    refine V.callVp C mo_X6_isBeing im_X6_isBeing se_X6_isBeing ml_RX6_123 (ev_X6_isBeing hM hI _) dX6_back_7 rfl rfl hM.1 rfl rfl (Nat.le_of_ble_eq_true rfl) (RmOk.mk' (by decide) (by decide) (by decide) (by decide)) ⟨rfl, rfl⟩ ?_
    refine V.ifb_ne C (tgt := 15) dX6_back_10 (by decide) (fun h10 => ?_) (fun h10 => absurd (isN_nI (show w < b by omega) (by omega)) h10)
    obtain ⟨a, hal, ha⟩ := (hI.cb hw).1
    rcases (hI.cb hw).2.2.1 with hc | ⟨c, hc0, hc⟩
    · skip
      refine V.iconst C (x := 0) dX6_back_15 (by decide) ?_
      refine V.ist_n C dX6_back_16 (Nat.le_of_ble_eq_true rfl) rfl ?_
      refine V.ild_n C dX6_back_17 rfl ?_
      refine V.bipush C (x := 8) dX6_back_18 (by decide) ?_
      refine V.icmp_ge C (tgt := 65) dX6_back_20 (by decide) (fun h20 => absurd h20 (by decide)) (fun h20 => ?_)
      refine V.ald_n C dX6_back_23 rfl ?_
      refine V.get C fg_RX6_53 dX6_back_24 hM.1 rfl ?_
      refine V.ild_n C dX6_back_27 rfl ?_
      refine V.ialdN C (N := 6) dX6_back_28 (hM.2 19 (by decide)) (by omega) (by decide) ?_
      refine V.top hc ?_
      refine V.if_lt C (tgt := 65) dX6_back_29 (by decide) (fun h29 => ?_) (fun h29 => absurd h29 (by decide))
      refine V.iconst C (x := 0) dX6_back_65 (by decide) ?_
      exact V.iret X dX6_back_66 rfl (by decide) (by decide) (by unfold S_back; rw [ok1_t hw (by omega), cI_t (show bkD A w = -1 from cI_t hc)]; exact ⟨rfl, hM, hF⟩)
    · skip
      refine V.iconst C (x := 0) dX6_back_15 (by decide) ?_
      refine V.ist_n C dX6_back_16 (Nat.le_of_ble_eq_true rfl) rfl ?_
      have key17 : ∀ (n : Nat) (e : Nat), e ≤ 8 → 8 - e < n → bkD A w = fnd (fun j => ldT A a j = nI c) (-1) (8 - e) e → V g Z H0 3 L 0 0 17 [some (aR 23), some (aI (nI w)), some (aI (nI e))] [] := by
        intro n
        induction n with
        | zero => intro e h1 h2; exact absurd h2 (by omega)
        | succ n ih =>
          intro e h1 h2 hb
          refine V.ild_n C dX6_back_17 rfl ?_
          refine V.bipush C (x := 8) dX6_back_18 (by decide) ?_
          refine V.icmpN_ge C (e) (8) (tgt := 65) dX6_back_20 (by decide) (by omega) (by omega) (fun h20 => ?_) (fun h20 => ?_)
          · skip
            refine V.iconst C (x := 0) dX6_back_65 (by decide) ?_
            exact V.iret X dX6_back_66 rfl (by decide) (by decide) (by unfold S_back; rw [ok1_t hw (by omega), hb, show 8 - e = 0 by omega, cI_t (show fnd _ (-1) 0 e = -1 from rfl)]; exact ⟨rfl, hM, hF⟩)
          · skip
            refine V.ald_n C dX6_back_23 rfl ?_
            refine V.get C fg_RX6_53 dX6_back_24 hM.1 rfl ?_
            refine V.ild_n C dX6_back_27 rfl ?_
            refine V.ialdN C (N := 6) dX6_back_28 (hM.2 19 (by decide)) (by omega) (by decide) ?_
            refine V.top hc ?_
            refine V.if_lt C (tgt := 65) dX6_back_29 (by decide) (fun h29 => absurd h29 (nI_pos (by omega))) (fun h29 => ?_)
            refine V.ald_n C dX6_back_32 rfl ?_
            refine V.ald_n C dX6_back_33 rfl ?_
            refine V.get C fg_RX6_47 dX6_back_34 hM.1 rfl ?_
            refine V.ild_n C dX6_back_37 rfl ?_
            refine V.ialdN C (N := 6) dX6_back_38 (hM.2 17 (by decide)) (by omega) (by decide) ?_
            refine V.top ha ?_
            refine V.ild_n C dX6_back_39 rfl ?_
            refine V.callVp C mo_X6_leadsTo im_X6_leadsTo se_X6_leadsTo ml_RX6_150 (ev_X6_leadsTo hM hI (by omega) (by omega)) dX6_back_40 rfl rfl hM.1 rfl rfl (Nat.le_of_ble_eq_true rfl) (RmOk.mk' (by decide) (by decide) (by decide) (by decide)) ⟨rfl, rfl⟩ ?_
            refine V.ald_n C dX6_back_43 rfl ?_
            refine V.get C fg_RX6_53 dX6_back_44 hM.1 rfl ?_
            refine V.ild_n C dX6_back_47 rfl ?_
            refine V.ialdN C (N := 6) dX6_back_48 (hM.2 19 (by decide)) (by omega) (by decide) ?_
            refine V.top hc ?_
            refine V.icmp_ne C (tgt := 59) dX6_back_49 (by decide) (fun h49 => ?_) (fun h49 => ?_)
            · skip
              refine V.iinc C (y := nI (e + 1)) dX6_back_59 rfl (nI_1 e) rfl ?_
              refine V.goto C (tgt := 17) dX6_back_62 (by decide) ?_
              exact ih (e + 1) (by omega) (by omega) (by rw [hb, show 8 - e = (8 - (e + 1)) + 1 by omega, fnd_f (P := fun j => ldT A a j = nI c) h49])
            · skip
              refine V.ald_n C dX6_back_52 rfl ?_
              refine V.ild_n C dX6_back_53 rfl ?_
              refine V.ild_n C dX6_back_54 rfl ?_
              refine V.callV C mo_X6_goBy im_X6_goBy se_X6_goBy ml_RX6_171 (ev_X6_goBy hM hI hw (show e < 8 by omega)) dX6_back_55 rfl rfl hM.1 rfl rfl (Nat.le_of_ble_eq_true rfl) (RmOk.mk' (by decide) (by decide) (by decide) (by decide)) (fun v L1 hq => ?_)
              obtain ⟨rfl, hM, hF2⟩ := hq
              have hF := hF.tr hF2
              exact V.iret X dX6_back_58 rfl (by decide) (by decide) (by unfold S_back; rw [ok1_t hw (by omega), hb, show 8 - e = (8 - (e + 1)) + 1 by omega, fnd_t (P := fun j => ldT A a j = nI c) h49, cI_f (nI_neg (by omega)), nI_clamp (show e < 2 ^ 31 by omega)]; exact ⟨rfl, hM, hF⟩)
      exact key17 9 0 (by omega) (by omega) (by unfold bkD; rw [cI_f (fun q => nI_neg (show c < 2 ^ 31 by omega) (hc.symm.trans q)), ha, nI_clamp (show a < 2 ^ 31 by omega), hc])
  · skip
    refine V.ald_n C dX6_back_0 rfl ?_
    refine V.iconst C (x := 0) dX6_back_1 (by decide) ?_
    refine V.put C fl_RX6_77 dX6_back_2 hM.1 ⟨rfl, rfl⟩ (Nat.le_of_ble_eq_true rfl) (fun h => by cases h) (set_same hM.1) ?_
    refine V.ald_n C dX6_back_5 rfl ?_
    refine V.ild_n C dX6_back_6 rfl ?_
    refine V.callVp C mo_X6_isBeing im_X6_isBeing se_X6_isBeing ml_RX6_123 (ev_X6_isBeing hM hI _) dX6_back_7 rfl rfl hM.1 rfl rfl (Nat.le_of_ble_eq_true rfl) (RmOk.mk' (by decide) (by decide) (by decide) (by decide)) ⟨rfl, rfl⟩ ?_
    refine V.ifb_ne C (tgt := 15) dX6_back_10 (by decide) (fun h10 => absurd h10 hw) (fun h10 => ?_)
    refine V.iconst C (x := -1) dX6_back_13 (by decide) ?_
    exact V.iret X dX6_back_14 rfl (by decide) (by decide) (by unfold S_back; rw [ok1_f hw]; exact ⟨rfl, hM, hF⟩)
