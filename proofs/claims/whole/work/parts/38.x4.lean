theorem rset1 {A : ST} {i : Nat} {x : Int32} : [aR (14 + 2 * i), aI (A 23 i), aI (A 24 i)].set 1 (aI x) = [aR (14 + 2 * i), aI (up2 A 23 i x 23 i), aI (up2 A 23 i x 24 i)] := by
  rw [u_ss]; rfl
theorem rset2 {A : ST} {i : Nat} {x : Int32} : [aR (14 + 2 * i), aI (A 23 i), aI (A 24 i)].set 2 (aI x) = [aR (14 + 2 * i), aI (up2 A 24 i x 23 i), aI (up2 A 24 i x 24 i)] := by
  rw [u_ss]; rfl
theorem Rl_floats {t b : Nat} {A : ST} {gr hc : Nat → Int32} {i : Nat} {x : Int32} (hR : Rl t b A gr hc) (hn : ∀ v, v < b → ¬ hol A v i) (hx : x ≠ -1) : Rl t b (up2 A 14 i x) gr hc := by
  have e : ∀ v, v < b → cnt (hol (up2 A 14 i x) v) t = cnt (hol A v) t := fun v hv => cnt_congr (fun k _ => by
    by_cases e : k = i
    · subst e
      refine ⟨fun q => ?_, fun q => absurd q (hn v hv)⟩
      have q1 := q.1
      rw [u_ss] at q1
      exact absurd q1 hx
    · unfold hol
      rw [up2_s, pk_un e]
      exact Iff.rfl)
  refine ⟨fun k hk q => hR.1 k hk q, fun v hv => ?_, fun v hv => ?_⟩
  · rw [e v hv]; exact hR.2.1 v hv
  · rw [e v hv]; exact hR.2.2 v hv
theorem ev_X5_leave {g : GD} {r d t b : Nat} {A : ST} {da ta ba : Nat → Nat} {gr hc : Nat → Int32} {L : List AE} (hX : XR0 r d t b A da ta ba gr hc L) (hI : Inv r d t b A) (hR : Rl t b A gr hc) (x : Int32) : Ev g mX5_leave [aR 0, aI x] L (XQt L (S_leave r d t b A x)) := by
  refine Ev.of [some (aR 0), some (aI x), none] (by decide) rfl (Nat.le_of_ble_eq_true rfl) fun Z H0 C X => ?_
  have hN := hI.cn
  have hF : FrX L L := FrX.rf
  rcases isN_cases x b (by omega) with ⟨w, hw, rfl⟩ | hw
  · skip
    refine V.ald_n C dX5_leave_0 rfl ?_
    refine V.ild_n C dX5_leave_1 rfl ?_
    refine V.callVp C mo_X5_beingAt im_X5_beingAt se_X5_beingAt ml_RX5_133 (ev_X5_beingAt_t hX hI (show w < b by omega)) dX5_leave_2 rfl rfl hX.x0 rfl rfl (Nat.le_of_ble_eq_true rfl) (RmOk.mk' (by decide) (by decide) (by decide) (by decide)) ⟨rfl, rfl⟩ ?_
    refine V.ast_n C dX5_leave_5 (Nat.le_of_ble_eq_true rfl) rfl ?_
    refine V.ald_n C dX5_leave_6 rfl ?_
    refine V.ifnonnull C (tgt := 12) dX5_leave_7 (by decide) ?_
    rcases (hI.cb hw).2.1 with hw1 | ⟨k, hk, hw1, hk2⟩
    · skip
      refine V.ald_n C dX5_leave_12 rfl ?_
      refine V.get C fg_RX5_170 dX5_leave_13 (hX.bb (show w < b by omega)) rfl ?_
      refine V.topO (wref_neg hw1) ?_
      refine V.ifnonnullN C dX5_leave_16 ?_
      refine V.bipush C (x := -23) dX5_leave_19 (by decide) ?_
      exact V.iret X dX5_leave_21 rfl (by decide) (by decide) (by unfold S_leave; rw [ok1_t hw (by omega), cI_t hw1]; exact ⟨rfl, ⟨_, _, _, _, _, hX, hR⟩, hF⟩)
    · skip
      refine V.ald_n C dX5_leave_12 rfl ?_
      refine V.get C fg_RX5_170 dX5_leave_13 (hX.bb (show w < b by omega)) rfl ?_
      refine V.topO (wref_k hw1 (by omega)) ?_
      refine V.ifnonnull C (tgt := 22) dX5_leave_16 (by decide) ?_
      refine V.ald_n C dX5_leave_22 rfl ?_
      refine V.get C fg_RX5_170 dX5_leave_23 (hX.bb (show w < b by omega)) rfl ?_
      refine V.topO (wref_k hw1 (by omega)) ?_
      refine V.get C fg_RX5_173 dX5_leave_26 (hX.tt hk) rfl ?_
      refine V.if_eq C (tgt := 35) dX5_leave_29 (by decide) (fun h29 => ?_) (fun h29 => ?_)
      · skip
        refine V.ald_n C dX5_leave_35 rfl ?_
        refine V.null C dX5_leave_36 ?_
        refine V.putB C hX hF (show w < b by omega) fl_RX5_170 dX5_leave_37 (ofit g _) (by decide) (hc) (A' := up2 A 18 w (-1)) (agr_up (by decide) agr_rf) (fun _ _ => rfl) (bset6 (wref_neg (u_ss _ _ _ _)).symm) (fun L hX hF => ?_)
        refine V.iconst C (x := 1) dX5_leave_40 (by decide) ?_
        exact V.iret X dX5_leave_41 rfl (by decide) (by decide) (by unfold S_leave; rw [ok1_t hw (by omega), cI_f (fun q => nI_neg (show k < 2 ^ 31 by omega) (hw1.symm.trans q)), cI_f (fun q => by have q2 := (shIn_k hw1 (by omega)).mp q; rw [h29] at q2; exact absurd q2 (by decide))]; exact ⟨rfl, ⟨_, _, _, _, _, hX, hR.kept rfl rfl⟩, hF⟩)
      · skip
        refine V.bipush C (x := -21) dX5_leave_32 (by decide) ?_
        exact V.iret X dX5_leave_34 rfl (by decide) (by decide) (by unfold S_leave; rw [ok1_t hw (by omega), cI_f (fun q => nI_neg (show k < 2 ^ 31 by omega) (hw1.symm.trans q)), cI_t ((shIn_k hw1 (by omega)).mpr ((hI.ct hk).2.2.2.1.resolve_left h29))]; exact ⟨rfl, ⟨_, _, _, _, _, hX, hR⟩, hF⟩)
  · skip
    refine V.ald_n C dX5_leave_0 rfl ?_
    refine V.ild_n C dX5_leave_1 rfl ?_
    refine V.callVp C mo_X5_beingAt im_X5_beingAt se_X5_beingAt ml_RX5_133 (ev_X5_beingAt_f hX hI hw) dX5_leave_2 rfl rfl hX.x0 rfl rfl (Nat.le_of_ble_eq_true rfl) (RmOk.mk' (by decide) (by decide) (by decide) (by decide)) ⟨rfl, rfl⟩ ?_
    refine V.ast_n C dX5_leave_5 (Nat.le_of_ble_eq_true rfl) rfl ?_
    refine V.ald_n C dX5_leave_6 rfl ?_
    refine V.ifnonnullN C dX5_leave_7 ?_
    refine V.iconst C (x := -1) dX5_leave_10 (by decide) ?_
    exact V.iret X dX5_leave_11 rfl (by decide) (by decide) (by unfold S_leave; rw [ok1_f hw]; exact ⟨rfl, ⟨_, _, _, _, _, hX, hR⟩, hF⟩)
theorem ev_X5_room {g : GD} {r d t b : Nat} {A : ST} {da ta ba : Nat → Nat} {gr hc : Nat → Int32} {L : List AE} (hX : XR0 r d t b A da ta ba gr hc L) (hI : Inv r d t b A) (hR : Rl t b A gr hc) : Ev g mX5_room [aR 0] L (XQt L (S_room r d t b A)) := by
  refine Ev.of [some (aR 0)] (by decide) rfl (Nat.le_of_ble_eq_true rfl) fun Z H0 C X => ?_
  have hN := hI.cn
  have hF : FrX L L := FrX.rf
  refine V.ald_n C dX5_room_0 rfl ?_
  refine V.get C fg_RX5_57 dX5_room_1 hX.x0 rfl ?_
  refine V.bipush C (x := 20) dX5_room_4 (by decide) ?_
  refine V.icmpN_lt C (r) (20) (tgt := 12) dX5_room_6 (by decide) (by omega) (by omega) (fun h6 => ?_) (fun h6 => ?_)
  · skip
    refine V.ald_n C dX5_room_12 rfl ?_
    refine V.dup C dX5_room_13 ?_
    refine V.get C fg_RX5_57 dX5_room_14 hX.x0 rfl ?_
    refine V.dup_x1 C dX5_room_17 ?_
    refine V.iconst C (x := 1) dX5_room_18 (by decide) ?_
    refine V.iadd C dX5_room_19 ?_
    refine V.top (nI_add r 1) ?_
    refine V.put C fl_RX5_57 dX5_room_20 hX.x0 ⟨rfl, rfl⟩ (Nat.le_of_ble_eq_true rfl) (fun h => by cases h) rfl ?_
    exact V.iret X dX5_room_23 rfl (by decide) (by decide) (by unfold S_room; rw [cI_f (by omega)]; exact ⟨rfl, ⟨_, _, _, _, _, hX.room, hR.kept rfl rfl⟩, hF.st (Or.inl (by decide))⟩)
  · skip
    refine V.bipush C (x := -2) dX5_room_9 (by decide) ?_
    exact V.iret X dX5_room_11 rfl (by decide) (by decide) (by unfold S_room; rw [cI_t (by omega)]; exact ⟨rfl, ⟨_, _, _, _, _, hX, hR⟩, hF⟩)
theorem ev_X5_exit {g : GD} {r d t b : Nat} {A : ST} {da ta ba : Nat → Nat} {gr hc : Nat → Int32} {L : List AE} (hX : XR0 r d t b A da ta ba gr hc L) (hI : Inv r d t b A) (hR : Rl t b A gr hc) (x y w : Int32) : Ev g mX5_exit [aR 0, aI x, aI y, aI w] L (XQt L (S_exit r d t b A x y w)) := by
  refine Ev.of [some (aR 0), some (aI x), some (aI y), some (aI w), none] (by decide) rfl (Nat.le_of_ble_eq_true rfl) fun Z H0 C X => ?_
  have hN := hI.cn
  have hF : FrX L L := FrX.rf
  rcases isN_cases x r (by omega) with ⟨i, hi, rfl⟩ | hi
  · skip
    rcases isN_cases y 8 (by omega) with ⟨j, hj, rfl⟩ | hj
    · skip
      refine V.ald_n C dX5_exit_0 rfl ?_
      refine V.ild_n C dX5_exit_1 rfl ?_
      refine V.ild_n C dX5_exit_2 rfl ?_
      refine V.callVp C mo_X5_isPlace im_X5_isPlace se_X5_isPlace ml_RX5_71 (ev_X5_isPlace hX hI _ _) dX5_exit_3 rfl rfl hX.x0 rfl rfl (Nat.le_of_ble_eq_true rfl) (RmOk.mk' (by decide) (by decide) (by decide) (by decide)) ⟨rfl, rfl⟩ ?_
      refine V.ifb_eq C (tgt := 18) dX5_exit_6 (by decide) (fun h6 => absurd ⟨isN_nI (show i < r by omega) (by omega), isN_nI (show j < 8 by omega) (by omega)⟩ h6) (fun h6 => ?_)
      refine V.ald_n C dX5_exit_9 rfl ?_
      refine V.ild_n C dX5_exit_10 rfl ?_
      refine V.ild_n C dX5_exit_11 rfl ?_
      refine V.callVp C mo_X5_mayBeWayOf im_X5_mayBeWayOf se_X5_mayBeWayOf ml_RX5_75 (ev_X5_mayBeWayOf hX hI (by omega) _) dX5_exit_12 rfl rfl hX.x0 rfl rfl (Nat.le_of_ble_eq_true rfl) (RmOk.mk' (by decide) (by decide) (by decide) (by decide)) ⟨rfl, rfl⟩ ?_
      refine V.ifb_ne C (tgt := 20) dX5_exit_15 (by decide) (fun h15 => ?_) (fun h15 => ?_)
      · skip
        refine V.ald_n C dX5_exit_20 rfl ?_
        refine V.get C fg_RX5_9 dX5_exit_21 hX.x0 rfl ?_
        refine V.ild_n C dX5_exit_24 rfl ?_
        refine V.ild_n C dX5_exit_25 rfl ?_
        refine V.callSp C mo_X5_placeOf sm_X5_placeOf ml_RX5_78 (ev_X5_placeOf _ _) dX5_exit_26 rfl rfl (Nat.le_of_ble_eq_true rfl) (RmOk.mk' (by decide) (by decide) (by decide) (by decide)) ⟨rfl, rfl⟩ ?_
        refine V.ialdN C (N := 160) dX5_exit_29 hX.x1 (by omega) (by decide) ?_
        refine V.top (xw_in hi hj) ?_
        refine V.ist C dX5_exit_30 (Nat.le_of_ble_eq_true rfl) rfl ?_
        refine V.ald_n C dX5_exit_32 rfl ?_
        refine V.get C fg_RX5_9 dX5_exit_33 hX.x0 rfl ?_
        refine V.ild_n C dX5_exit_36 rfl ?_
        refine V.ild_n C dX5_exit_37 rfl ?_
        refine V.callSp C mo_X5_placeOf sm_X5_placeOf ml_RX5_78 (ev_X5_placeOf _ _) dX5_exit_38 rfl rfl (Nat.le_of_ble_eq_true rfl) (RmOk.mk' (by decide) (by decide) (by decide) (by decide)) ⟨rfl, rfl⟩ ?_
        refine V.ild_n C dX5_exit_41 rfl ?_
        refine V.iastN C (N := 160) dX5_exit_42 hX.x1 (by omega) (by decide) ?_
        refine V.ild C dX5_exit_43 rfl ?_
        exact V.iret X dX5_exit_45 rfl (by decide) (by decide) (by unfold S_exit; rw [ok1_t hi (by omega), ok1_t hj (by omega), cI_t h15]; exact ⟨rfl, ⟨_, _, _, _, _, hX.exit (by omega) _, hR.kept rfl rfl⟩, hF.st (Or.inl (by decide))⟩)
      · skip
        refine V.iconst C (x := -1) dX5_exit_18 (by decide) ?_
        exact V.iret X dX5_exit_19 rfl (by decide) (by decide) (by unfold S_exit; rw [ok1_t hi (by omega), ok1_t hj (by omega), cI_f h15]; exact ⟨rfl, ⟨_, _, _, _, _, hX, hR⟩, hF⟩)
    · skip
      refine V.ald_n C dX5_exit_0 rfl ?_
      refine V.ild_n C dX5_exit_1 rfl ?_
      refine V.ild_n C dX5_exit_2 rfl ?_
      refine V.callVp C mo_X5_isPlace im_X5_isPlace se_X5_isPlace ml_RX5_71 (ev_X5_isPlace hX hI _ _) dX5_exit_3 rfl rfl hX.x0 rfl rfl (Nat.le_of_ble_eq_true rfl) (RmOk.mk' (by decide) (by decide) (by decide) (by decide)) ⟨rfl, rfl⟩ ?_
      refine V.ifb_eq C (tgt := 18) dX5_exit_6 (by decide) (fun h6 => ?_) (fun h6 => absurd h6 (fun q => hj q.2))
      refine V.iconst C (x := -1) dX5_exit_18 (by decide) ?_
      exact V.iret X dX5_exit_19 rfl (by decide) (by decide) (by unfold S_exit; rw [ok1_t hi (by omega), ok1_f hj]; exact ⟨rfl, ⟨_, _, _, _, _, hX, hR⟩, hF⟩)
  · skip
    refine V.ald_n C dX5_exit_0 rfl ?_
    refine V.ild_n C dX5_exit_1 rfl ?_
    refine V.ild_n C dX5_exit_2 rfl ?_
    refine V.callVp C mo_X5_isPlace im_X5_isPlace se_X5_isPlace ml_RX5_71 (ev_X5_isPlace hX hI _ _) dX5_exit_3 rfl rfl hX.x0 rfl rfl (Nat.le_of_ble_eq_true rfl) (RmOk.mk' (by decide) (by decide) (by decide) (by decide)) ⟨rfl, rfl⟩ ?_
    refine V.ifb_eq C (tgt := 18) dX5_exit_6 (by decide) (fun h6 => ?_) (fun h6 => absurd h6 (fun q => hi q.1))
    refine V.iconst C (x := -1) dX5_exit_18 (by decide) ?_
    exact V.iret X dX5_exit_19 rfl (by decide) (by decide) (by unfold S_exit; rw [ok1_f hi]; exact ⟨rfl, ⟨_, _, _, _, _, hX, hR⟩, hF⟩)
theorem ev_X5_width {g : GD} {r d t b : Nat} {A : ST} {da ta ba : Nat → Nat} {gr hc : Nat → Int32} {L : List AE} (hX : XR0 r d t b A da ta ba gr hc L) (hI : Inv r d t b A) (hR : Rl t b A gr hc) (x y w : Int32) : Ev g mX5_width [aR 0, aI x, aI y, aI w] L (XQt L (S_width r d t b A x y w)) := by
  refine Ev.of [some (aR 0), some (aI x), some (aI y), some (aI w), none] (by decide) rfl (Nat.le_of_ble_eq_true rfl) fun Z H0 C X => ?_
  have hN := hI.cn
  have hF : FrX L L := FrX.rf
  rcases isN_cases x r (by omega) with ⟨i, hi, rfl⟩ | hi
  · skip
    rcases isN_cases y 8 (by omega) with ⟨j, hj, rfl⟩ | hj
    · skip
      refine V.ald_n C dX5_width_0 rfl ?_
      refine V.ild_n C dX5_width_1 rfl ?_
      refine V.ild_n C dX5_width_2 rfl ?_
      refine V.callVp C mo_X5_isPlace im_X5_isPlace se_X5_isPlace ml_RX5_71 (ev_X5_isPlace hX hI _ _) dX5_width_3 rfl rfl hX.x0 rfl rfl (Nat.le_of_ble_eq_true rfl) (RmOk.mk' (by decide) (by decide) (by decide) (by decide)) ⟨rfl, rfl⟩ ?_
      refine V.ifb_eq C (tgt := 20) dX5_width_6 (by decide) (fun h6 => absurd ⟨isN_nI (show i < r by omega) (by omega), isN_nI (show j < 8 by omega) (by omega)⟩ h6) (fun h6 => ?_)
      refine V.ild_n C dX5_width_9 rfl ?_
      refine V.iconst C (x := 1) dX5_width_10 (by decide) ?_
      refine V.icmp_lt C (tgt := 20) dX5_width_11 (by decide) (fun h11 => ?_) (fun h11 => ?_)
      · skip
        refine V.iconst C (x := -1) dX5_width_20 (by decide) ?_
        exact V.iret X dX5_width_21 rfl (by decide) (by decide) (by unfold S_width; rw [ok1_t hi (by omega), ok1_t hj (by omega), cI_f (by simp only [i32_lt, i32_le] at *; omega)]; exact ⟨rfl, ⟨_, _, _, _, _, hX, hR⟩, hF⟩)
      · skip
        refine V.ild_n C dX5_width_14 rfl ?_
        refine V.bipush C (x := 9) dX5_width_15 (by decide) ?_
        refine V.icmp_le C (tgt := 22) dX5_width_17 (by decide) (fun h17 => ?_) (fun h17 => ?_)
        · skip
          refine V.ald_n C dX5_width_22 rfl ?_
          refine V.get C fg_RX5_13 dX5_width_23 hX.x0 rfl ?_
          refine V.ild_n C dX5_width_26 rfl ?_
          refine V.ild_n C dX5_width_27 rfl ?_
          refine V.callSp C mo_X5_placeOf sm_X5_placeOf ml_RX5_78 (ev_X5_placeOf _ _) dX5_width_28 rfl rfl (Nat.le_of_ble_eq_true rfl) (RmOk.mk' (by decide) (by decide) (by decide) (by decide)) ⟨rfl, rfl⟩ ?_
          refine V.ialdN C (N := 160) dX5_width_31 hX.x2 (by omega) (by decide) ?_
          refine V.top (xv_in hi hj) ?_
          refine V.ist C dX5_width_32 (Nat.le_of_ble_eq_true rfl) rfl ?_
          refine V.ald_n C dX5_width_34 rfl ?_
          refine V.get C fg_RX5_13 dX5_width_35 hX.x0 rfl ?_
          refine V.ild_n C dX5_width_38 rfl ?_
          refine V.ild_n C dX5_width_39 rfl ?_
          refine V.callSp C mo_X5_placeOf sm_X5_placeOf ml_RX5_78 (ev_X5_placeOf _ _) dX5_width_40 rfl rfl (Nat.le_of_ble_eq_true rfl) (RmOk.mk' (by decide) (by decide) (by decide) (by decide)) ⟨rfl, rfl⟩ ?_
          refine V.ild_n C dX5_width_43 rfl ?_
          refine V.iastN C (N := 160) dX5_width_44 hX.x2 (by omega) (by decide) ?_
          refine V.ild C dX5_width_45 rfl ?_
          exact V.iret X dX5_width_47 rfl (by decide) (by decide) (by unfold S_width; rw [ok1_t hi (by omega), ok1_t hj (by omega), cI_t (by simp only [i32_lt, i32_le] at *; omega)]; exact ⟨rfl, ⟨_, _, _, _, _, hX.width (by omega) _, hR.kept rfl rfl⟩, hF.st (Or.inl (by decide))⟩)
        · skip
          refine V.iconst C (x := -1) dX5_width_20 (by decide) ?_
          exact V.iret X dX5_width_21 rfl (by decide) (by decide) (by unfold S_width; rw [ok1_t hi (by omega), ok1_t hj (by omega), cI_f (by simp only [i32_lt, i32_le] at *; omega)]; exact ⟨rfl, ⟨_, _, _, _, _, hX, hR⟩, hF⟩)
    · skip
      refine V.ald_n C dX5_width_0 rfl ?_
      refine V.ild_n C dX5_width_1 rfl ?_
      refine V.ild_n C dX5_width_2 rfl ?_
      refine V.callVp C mo_X5_isPlace im_X5_isPlace se_X5_isPlace ml_RX5_71 (ev_X5_isPlace hX hI _ _) dX5_width_3 rfl rfl hX.x0 rfl rfl (Nat.le_of_ble_eq_true rfl) (RmOk.mk' (by decide) (by decide) (by decide) (by decide)) ⟨rfl, rfl⟩ ?_
      refine V.ifb_eq C (tgt := 20) dX5_width_6 (by decide) (fun h6 => ?_) (fun h6 => absurd h6 (fun q => hj q.2))
      refine V.iconst C (x := -1) dX5_width_20 (by decide) ?_
      exact V.iret X dX5_width_21 rfl (by decide) (by decide) (by unfold S_width; rw [ok1_t hi (by omega), ok1_f hj]; exact ⟨rfl, ⟨_, _, _, _, _, hX, hR⟩, hF⟩)
  · skip
    refine V.ald_n C dX5_width_0 rfl ?_
    refine V.ild_n C dX5_width_1 rfl ?_
    refine V.ild_n C dX5_width_2 rfl ?_
    refine V.callVp C mo_X5_isPlace im_X5_isPlace se_X5_isPlace ml_RX5_71 (ev_X5_isPlace hX hI _ _) dX5_width_3 rfl rfl hX.x0 rfl rfl (Nat.le_of_ble_eq_true rfl) (RmOk.mk' (by decide) (by decide) (by decide) (by decide)) ⟨rfl, rfl⟩ ?_
    refine V.ifb_eq C (tgt := 20) dX5_width_6 (by decide) (fun h6 => ?_) (fun h6 => absurd h6 (fun q => hi q.1))
    refine V.iconst C (x := -1) dX5_width_20 (by decide) ?_
    exact V.iret X dX5_width_21 rfl (by decide) (by decide) (by unfold S_width; rw [ok1_f hi]; exact ⟨rfl, ⟨_, _, _, _, _, hX, hR⟩, hF⟩)
theorem ev_X2_append_f {g : GD} {r d t b : Nat} {A : ST} {da ta ba : Nat → Nat} {gr hc : Nat → Int32} {L : List AE} (hX : XR0 r d t b A da ta ba gr hc L) (hI : Inv r d t b A) {i : Nat} (hi : i < 5) (h4 : A 23 i = 4) (x : Int32) : EvP g mX2_append [aR (13 + 2 * i), aI x] L (some (aI 0)) := by
  refine Ev.of [some (aR (13 + 2 * i)), some (aI x)] (by decide) rfl (Nat.le_of_ble_eq_true rfl) fun Z H0 C X => ?_
  have hN := hI.cn
  refine V.ald_n C dX2_append_0 rfl ?_
  refine V.get C fg_RX2_15 dX2_append_1 (hX.rl hi) rfl ?_
  refine V.top h4 ?_
  refine V.iconst C (x := 4) dX2_append_4 (by decide) ?_
  refine V.icmp_lt C (tgt := 10) dX2_append_5 (by decide) (fun h5 => absurd h5 (by decide)) (fun h5 => ?_)
  refine V.iconst C (x := 0) dX2_append_8 (by decide) ?_
  exact V.iret X dX2_append_9 rfl (by decide) (by decide) (pq rfl)
theorem ev_X2_append_t {g : GD} {r d t b : Nat} {A : ST} {da ta ba : Nat → Nat} {gr hc : Nat → Int32} {L : List AE} (hX : XR0 r d t b A da ta ba gr hc L) (hI : Inv r d t b A) {i : Nat} (hi : i < 5) (h4 : ¬ A 23 i = 4) (x : Int32) : Ev g mX2_append [aR (13 + 2 * i), aI x] L (fun v L1 => v = some (aI 1) ∧ XR0 r d t b (up2 (up2 A 22 (4 * i + (A 23 i).toNatClampNeg) x) 23 i (A 23 i + 1)) da ta ba gr hc L1 ∧ FrX L L1) := by
  refine Ev.of [some (aR (13 + 2 * i)), some (aI x)] (by decide) rfl (Nat.le_of_ble_eq_true rfl) fun Z H0 C X => ?_
  have hN := hI.cn
  have hF : FrX L L := FrX.rf
  obtain ⟨m, k, hm, hm1, hk1, -⟩ := hI.cr hi
  have hm4 : m ≠ 4 := fun q => h4 (by rw [hm1, q]; rfl)
  refine V.ald_n C dX2_append_0 rfl ?_
  refine V.get C fg_RX2_15 dX2_append_1 (hX.rl hi) rfl ?_
  refine V.top hm1 ?_
  refine V.iconst C (x := 4) dX2_append_4 (by decide) ?_
  refine V.icmpN_lt C (m) (4) (tgt := 10) dX2_append_5 (by decide) (by omega) (by omega) (fun h5 => ?_) (fun h5 => absurd (show m < 4 by omega) h5)
  refine V.ald_n C dX2_append_10 rfl ?_
  refine V.get C fg_RX2_9 dX2_append_11 (hX.rl hi) rfl ?_
  refine V.ald_n C dX2_append_14 rfl ?_
  refine V.get C fg_RX2_15 dX2_append_15 (hX.rl hi) rfl ?_
  refine V.top hm1 ?_
  refine V.ild_n C dX2_append_18 rfl ?_
  refine V.rowR C hX hF hi (by omega) dX2_append_19 (fun L hX hF => ?_)
  refine V.ald_n C dX2_append_20 rfl ?_
  refine V.dup C dX2_append_21 ?_
  refine V.get C fg_RX2_15 dX2_append_22 (hX.rl hi) rfl ?_
  refine V.top hm1 ?_
  refine V.iconst C (x := 1) dX2_append_25 (by decide) ?_
  refine V.iadd C dX2_append_26 ?_
  refine V.top (nI_add m 1) ?_
  refine V.putR C hX hF hi fl_RX2_15 dX2_append_27 ⟨rfl, rfl⟩ (by decide) (A' := up2 (up2 A 22 (4 * i + m) x) 23 i (nI (m + 1))) (agr_up (by decide) agr_rf) rset1 (fun L hX hF => ?_)
  refine V.iconst C (x := 1) dX2_append_30 (by decide) ?_
  exact V.iret X dX2_append_31 rfl (by decide) (by decide) ⟨rfl, by rw [hm1, nI_clamp (by omega), nI_1]; exact hX, hF⟩
theorem ev_X5_turn {g : GD} {r d t b : Nat} {A : ST} {da ta ba : Nat → Nat} {gr hc : Nat → Int32} {L : List AE} (hX : XR0 r d t b A da ta ba gr hc L) (hI : Inv r d t b A) (hR : Rl t b A gr hc) (x y : Int32) : Ev g mX5_turn [aR 0, aI x, aI y] L (XQt L (S_turn r d t b A x y)) := by
  refine Ev.of [some (aR 0), some (aI x), some (aI y), none] (by decide) rfl (Nat.le_of_ble_eq_true rfl) fun Z H0 C X => ?_
  have hN := hI.cn
  have hF : FrX L L := FrX.rf
  rcases isN_cases x 5 (by omega) with ⟨i, hi, rfl⟩ | hi
  · skip
    rcases isN_cases y r (by omega) with ⟨j, hj, rfl⟩ | hj
    · skip
      refine V.ald_n C dX5_turn_0 rfl ?_
      refine V.ild_n C dX5_turn_1 rfl ?_
      refine V.callVp C mo_X5_ruleAt im_X5_ruleAt se_X5_ruleAt ml_RX5_82 (ev_X5_ruleAt_t hX hI (show i < 5 by omega)) dX5_turn_2 rfl rfl hX.x0 rfl rfl (Nat.le_of_ble_eq_true rfl) (RmOk.mk' (by decide) (by decide) (by decide) (by decide)) ⟨rfl, rfl⟩ ?_
      refine V.ast_n C dX5_turn_5 (Nat.le_of_ble_eq_true rfl) rfl ?_
      refine V.ald_n C dX5_turn_6 rfl ?_
      refine V.ifnull C dX5_turn_7 ?_
      refine V.ald_n C dX5_turn_10 rfl ?_
      refine V.ild_n C dX5_turn_11 rfl ?_
      refine V.callVp C mo_X5_isRoom im_X5_isRoom se_X5_isRoom ml_RX5_61 (ev_X5_isRoom hX hI _) dX5_turn_12 rfl rfl hX.x0 rfl rfl (Nat.le_of_ble_eq_true rfl) (RmOk.mk' (by decide) (by decide) (by decide) (by decide)) ⟨rfl, rfl⟩ ?_
      refine V.ifb_ne C (tgt := 20) dX5_turn_15 (by decide) (fun h15 => ?_) (fun h15 => absurd (isN_nI (show j < r by omega) (by omega)) h15)
      by_cases h4 : A 23 i = 4
      · skip
        refine V.ald_n C dX5_turn_20 rfl ?_
        refine V.ild_n C dX5_turn_21 rfl ?_
        refine V.callVp C mo_X2_append im_X2_append se_X2_append ml_RX5_86 (ev_X2_append_f hX hI hi h4 _) dX5_turn_22 rfl rfl (hX.rl (show i < 5 by omega)) rfl rfl (Nat.le_of_ble_eq_true rfl) (RmOk.mk' (by decide) (by decide) (by decide) (by decide)) ⟨rfl, rfl⟩ ?_
        refine V.if_eq C (tgt := 35) dX5_turn_25 (by decide) (fun h25 => ?_) (fun h25 => absurd h25 (by decide))
        refine V.bipush C (x := -2) dX5_turn_35 (by decide) ?_
        exact V.iret X dX5_turn_37 rfl (by decide) (by decide) (by unfold S_turn; rw [ok1_t hi (by omega), ok1_t hj (by omega), cI_t h4]; exact ⟨rfl, ⟨_, _, _, _, _, hX, hR⟩, hF⟩)
      · skip
        refine V.ald_n C dX5_turn_20 rfl ?_
        refine V.ild_n C dX5_turn_21 rfl ?_
        refine V.callV C mo_X2_append im_X2_append se_X2_append ml_RX5_86 (ev_X2_append_t hX hI hi h4 _) dX5_turn_22 rfl rfl (hX.rl (show i < 5 by omega)) rfl rfl (Nat.le_of_ble_eq_true rfl) (RmOk.mk' (by decide) (by decide) (by decide) (by decide)) (fun v L1 hq => ?_)
        obtain ⟨rfl, hX, hF2⟩ := hq
        have hF := hF.tr hF2
        refine V.if_eq C (tgt := 35) dX5_turn_25 (by decide) (fun h25 => absurd h25 (by decide)) (fun h25 => ?_)
        refine V.ald_n C dX5_turn_28 rfl ?_
        refine V.get C fg_RX5_89 dX5_turn_29 (hX.rl (show i < 5 by omega)) rfl ?_
        refine V.goto C (tgt := 37) dX5_turn_32 (by decide) ?_
        exact V.iret X dX5_turn_37 rfl (by decide) (by decide) (by unfold S_turn; rw [ok1_t hi (by omega), ok1_t hj (by omega), cI_f h4]; exact ⟨congrArg (fun z => some (aI z)) (u_ss _ _ _ _), ⟨_, _, _, _, _, hX, hR.kept rfl rfl⟩, hF⟩)
    · skip
      refine V.ald_n C dX5_turn_0 rfl ?_
      refine V.ild_n C dX5_turn_1 rfl ?_
      refine V.callVp C mo_X5_ruleAt im_X5_ruleAt se_X5_ruleAt ml_RX5_82 (ev_X5_ruleAt_t hX hI (show i < 5 by omega)) dX5_turn_2 rfl rfl hX.x0 rfl rfl (Nat.le_of_ble_eq_true rfl) (RmOk.mk' (by decide) (by decide) (by decide) (by decide)) ⟨rfl, rfl⟩ ?_
      refine V.ast_n C dX5_turn_5 (Nat.le_of_ble_eq_true rfl) rfl ?_
      refine V.ald_n C dX5_turn_6 rfl ?_
      refine V.ifnull C dX5_turn_7 ?_
      refine V.ald_n C dX5_turn_10 rfl ?_
      refine V.ild_n C dX5_turn_11 rfl ?_
      refine V.callVp C mo_X5_isRoom im_X5_isRoom se_X5_isRoom ml_RX5_61 (ev_X5_isRoom hX hI _) dX5_turn_12 rfl rfl hX.x0 rfl rfl (Nat.le_of_ble_eq_true rfl) (RmOk.mk' (by decide) (by decide) (by decide) (by decide)) ⟨rfl, rfl⟩ ?_
      refine V.ifb_ne C (tgt := 20) dX5_turn_15 (by decide) (fun h15 => absurd h15 hj) (fun h15 => ?_)
      refine V.iconst C (x := -1) dX5_turn_18 (by decide) ?_
      exact V.iret X dX5_turn_19 rfl (by decide) (by decide) (by unfold S_turn; rw [ok1_t hi (by omega), ok1_f hj]; exact ⟨rfl, ⟨_, _, _, _, _, hX, hR⟩, hF⟩)
  · skip
    refine V.ald_n C dX5_turn_0 rfl ?_
    refine V.ild_n C dX5_turn_1 rfl ?_
    refine V.callVp C mo_X5_ruleAt im_X5_ruleAt se_X5_ruleAt ml_RX5_82 (ev_X5_ruleAt_f hX hI hi) dX5_turn_2 rfl rfl hX.x0 rfl rfl (Nat.le_of_ble_eq_true rfl) (RmOk.mk' (by decide) (by decide) (by decide) (by decide)) ⟨rfl, rfl⟩ ?_
    refine V.ast_n C dX5_turn_5 (Nat.le_of_ble_eq_true rfl) rfl ?_
    refine V.ald_n C dX5_turn_6 rfl ?_
    refine V.ifnullN C (tgt := 18) dX5_turn_7 (by decide) ?_
    refine V.iconst C (x := -1) dX5_turn_18 (by decide) ?_
    exact V.iret X dX5_turn_19 rfl (by decide) (by decide) (by unfold S_turn; rw [ok1_f hi]; exact ⟨rfl, ⟨_, _, _, _, _, hX, hR⟩, hF⟩)
theorem ev_X5_lock {g : GD} {r d t b : Nat} {A : ST} {da ta ba : Nat → Nat} {gr hc : Nat → Int32} {L : List AE} (hX : XR0 r d t b A da ta ba gr hc L) (hI : Inv r d t b A) (hR : Rl t b A gr hc) (x y z : Int32) (hz : z = 0 ∨ z = 1) : Ev g mX5_lock [aR 0, aI x, aI y, aI z] L (XQt L (S_lock r d t b A x y z)) := by
  refine Ev.of [some (aR 0), some (aI x), some (aI y), some (aI z), none, none] (by decide) rfl (Nat.le_of_ble_eq_true rfl) fun Z H0 C X => ?_
  have hN := hI.cn
  have hF : FrX L L := FrX.rf
  rcases isN_cases x d (by omega) with ⟨j, hj, rfl⟩ | hj
  · skip
    rcases isN_cases y t (by omega) with ⟨k, hk, rfl⟩ | hk
    · skip
      refine V.ald_n C dX5_lock_0 rfl ?_
      refine V.ild_n C dX5_lock_1 rfl ?_
      refine V.callVp C mo_X5_doorAt im_X5_doorAt se_X5_doorAt ml_RX5_101 (ev_X5_doorAt_t hX hI (show j < d by omega)) dX5_lock_2 rfl rfl hX.x0 rfl rfl (Nat.le_of_ble_eq_true rfl) (RmOk.mk' (by decide) (by decide) (by decide) (by decide)) ⟨rfl, rfl⟩ ?_
      refine V.ast C dX5_lock_5 (Nat.le_of_ble_eq_true rfl) rfl ?_
      refine V.ald_n C dX5_lock_7 rfl ?_
      refine V.ild_n C dX5_lock_8 rfl ?_
      refine V.callVp C mo_X5_thingAt im_X5_thingAt se_X5_thingAt ml_RX5_105 (ev_X5_thingAt_t hX hI (show k < t by omega)) dX5_lock_9 rfl rfl hX.x0 rfl rfl (Nat.le_of_ble_eq_true rfl) (RmOk.mk' (by decide) (by decide) (by decide) (by decide)) ⟨rfl, rfl⟩ ?_
      refine V.ast C dX5_lock_12 (Nat.le_of_ble_eq_true rfl) rfl ?_
      refine V.ald C dX5_lock_14 rfl ?_
      refine V.ifnull C dX5_lock_16 ?_
      refine V.ild_n C dX5_lock_19 rfl ?_
      refine V.iconst C (x := -1) dX5_lock_20 (by decide) ?_
      refine V.icmp_eq C (tgt := 31) dX5_lock_21 (by decide) (fun h21 => absurd h21 (nI_neg (show k < 2 ^ 31 by omega))) (fun h21 => ?_)
      refine V.ald C dX5_lock_24 rfl ?_
      refine V.ifnonnull C (tgt := 31) dX5_lock_26 (by decide) ?_
      refine V.ald C dX5_lock_31 rfl ?_
      refine V.ifnonnull C (tgt := 43) dX5_lock_33 (by decide) ?_
      refine V.ald C dX5_lock_43 rfl ?_
      refine V.get C fg_RX5_109 dX5_lock_45 (hX.tt (show k < t by omega)) rfl ?_
      refine V.if_eq C (tgt := 53) dX5_lock_48 (by decide) (fun h48 => ?_) (fun h48 => ?_)
      · skip
        refine V.ald C dX5_lock_53 rfl ?_
        refine V.ald C dX5_lock_55 rfl ?_
        refine V.putD C hX hF (show j < d by omega) fl_RX5_112 dX5_lock_57 (ofit g _) (by decide) (A' := up2 A 7 j (nI k)) (agr_up (by decide) agr_rf) (dset4 (kref_k (u_ss _ _ _ _) (by omega)).symm) (fun L hX hF => ?_)
        refine V.ald C dX5_lock_60 rfl ?_
        refine V.ild_n C dX5_lock_62 rfl ?_
        refine V.putD C hX hF (show j < d by omega) fl_RX5_116 dX5_lock_63 (zfit g hz) (by decide) (A' := up2 (up2 A 7 j (nI k)) 9 j z) (agr_up (by decide) agr_rf) dset3 (fun L hX hF => ?_)
        refine V.iconst C (x := 1) dX5_lock_66 (by decide) ?_
        exact V.iret X dX5_lock_67 rfl (by decide) (by decide) (by unfold S_lock; rw [ok1_t hj (by omega), cI_f (nI_neg (show k < 2 ^ 31 by omega)), ok1_t hk (by omega), cI_t h48]; exact ⟨rfl, ⟨_, _, _, _, _, hX, hR.kept rfl rfl⟩, hF⟩)
      · skip
        refine V.iconst C (x := -1) dX5_lock_51 (by decide) ?_
        exact V.iret X dX5_lock_52 rfl (by decide) (by decide) (by unfold S_lock; rw [ok1_t hj (by omega), cI_f (nI_neg (show k < 2 ^ 31 by omega)), ok1_t hk (by omega), cI_f h48]; exact ⟨rfl, ⟨_, _, _, _, _, hX, hR⟩, hF⟩)
    · skip
      refine V.ald_n C dX5_lock_0 rfl ?_
      refine V.ild_n C dX5_lock_1 rfl ?_
      refine V.callVp C mo_X5_doorAt im_X5_doorAt se_X5_doorAt ml_RX5_101 (ev_X5_doorAt_t hX hI (show j < d by omega)) dX5_lock_2 rfl rfl hX.x0 rfl rfl (Nat.le_of_ble_eq_true rfl) (RmOk.mk' (by decide) (by decide) (by decide) (by decide)) ⟨rfl, rfl⟩ ?_
      refine V.ast C dX5_lock_5 (Nat.le_of_ble_eq_true rfl) rfl ?_
      refine V.ald_n C dX5_lock_7 rfl ?_
      refine V.ild_n C dX5_lock_8 rfl ?_
      refine V.callVp C mo_X5_thingAt im_X5_thingAt se_X5_thingAt ml_RX5_105 (ev_X5_thingAt_f hX hI hk) dX5_lock_9 rfl rfl hX.x0 rfl rfl (Nat.le_of_ble_eq_true rfl) (RmOk.mk' (by decide) (by decide) (by decide) (by decide)) ⟨rfl, rfl⟩ ?_
      refine V.ast C dX5_lock_12 (Nat.le_of_ble_eq_true rfl) rfl ?_
      refine V.ald C dX5_lock_14 rfl ?_
      refine V.ifnull C dX5_lock_16 ?_
      refine V.ild_n C dX5_lock_19 rfl ?_
      refine V.iconst C (x := -1) dX5_lock_20 (by decide) ?_
      refine V.icmp_eq C (tgt := 31) dX5_lock_21 (by decide) (fun h21 => ?_) (fun h21 => ?_)
      · skip
        refine V.ald C dX5_lock_31 rfl ?_
        refine V.ifnonnullN C dX5_lock_33 ?_
        refine V.ild_n C dX5_lock_36 rfl ?_
        refine V.if_eq C (tgt := 53) dX5_lock_37 (by decide) (fun h37 => ?_) (fun h37 => ?_)
        · skip
          refine V.ald C dX5_lock_53 rfl ?_
          refine V.ald C dX5_lock_55 rfl ?_
          refine V.putD C hX hF (show j < d by omega) fl_RX5_112 dX5_lock_57 (ofit g _) (by decide) (A' := up2 A 7 j (-1)) (agr_up (by decide) agr_rf) (dset4 (kref_neg (u_ss _ _ _ _)).symm) (fun L hX hF => ?_)
          refine V.ald C dX5_lock_60 rfl ?_
          refine V.ild_n C dX5_lock_62 rfl ?_
          refine V.putD C hX hF (show j < d by omega) fl_RX5_116 dX5_lock_63 (zfit g hz) (by decide) (A' := up2 (up2 A 7 j (-1)) 9 j z) (agr_up (by decide) agr_rf) dset3 (fun L hX hF => ?_)
          refine V.iconst C (x := 1) dX5_lock_66 (by decide) ?_
          exact V.iret X dX5_lock_67 rfl (by decide) (by decide) (by unfold S_lock; rw [ok1_t hj (by omega), cI_t h21, cI_t h37, h21]; exact ⟨rfl, ⟨_, _, _, _, _, hX, hR.kept rfl rfl⟩, hF⟩)
        · skip
          refine V.goto C (tgt := 51) dX5_lock_40 (by decide) ?_
          refine V.iconst C (x := -1) dX5_lock_51 (by decide) ?_
          exact V.iret X dX5_lock_52 rfl (by decide) (by decide) (by unfold S_lock; rw [ok1_t hj (by omega), cI_t h21, cI_f h37]; exact ⟨rfl, ⟨_, _, _, _, _, hX, hR⟩, hF⟩)
      · skip
        refine V.ald C dX5_lock_24 rfl ?_
        refine V.ifnonnullN C dX5_lock_26 ?_
        refine V.iconst C (x := -1) dX5_lock_29 (by decide) ?_
        exact V.iret X dX5_lock_30 rfl (by decide) (by decide) (by unfold S_lock; rw [ok1_t hj (by omega), cI_f h21, ok1_f hk]; exact ⟨rfl, ⟨_, _, _, _, _, hX, hR⟩, hF⟩)
  · skip
    rcases isN_cases y t (by omega) with ⟨k, hk, rfl⟩ | hk
    · skip
      refine V.ald_n C dX5_lock_0 rfl ?_
      refine V.ild_n C dX5_lock_1 rfl ?_
      refine V.callVp C mo_X5_doorAt im_X5_doorAt se_X5_doorAt ml_RX5_101 (ev_X5_doorAt_f hX hI hj) dX5_lock_2 rfl rfl hX.x0 rfl rfl (Nat.le_of_ble_eq_true rfl) (RmOk.mk' (by decide) (by decide) (by decide) (by decide)) ⟨rfl, rfl⟩ ?_
      refine V.ast C dX5_lock_5 (Nat.le_of_ble_eq_true rfl) rfl ?_
      refine V.ald_n C dX5_lock_7 rfl ?_
      refine V.ild_n C dX5_lock_8 rfl ?_
      refine V.callVp C mo_X5_thingAt im_X5_thingAt se_X5_thingAt ml_RX5_105 (ev_X5_thingAt_t hX hI (show k < t by omega)) dX5_lock_9 rfl rfl hX.x0 rfl rfl (Nat.le_of_ble_eq_true rfl) (RmOk.mk' (by decide) (by decide) (by decide) (by decide)) ⟨rfl, rfl⟩ ?_
      refine V.ast C dX5_lock_12 (Nat.le_of_ble_eq_true rfl) rfl ?_
      refine V.ald C dX5_lock_14 rfl ?_
      refine V.ifnullN C (tgt := 29) dX5_lock_16 (by decide) ?_
      refine V.iconst C (x := -1) dX5_lock_29 (by decide) ?_
      exact V.iret X dX5_lock_30 rfl (by decide) (by decide) (by unfold S_lock; rw [ok1_f hj]; exact ⟨rfl, ⟨_, _, _, _, _, hX, hR⟩, hF⟩)
    · skip
      refine V.ald_n C dX5_lock_0 rfl ?_
      refine V.ild_n C dX5_lock_1 rfl ?_
      refine V.callVp C mo_X5_doorAt im_X5_doorAt se_X5_doorAt ml_RX5_101 (ev_X5_doorAt_f hX hI hj) dX5_lock_2 rfl rfl hX.x0 rfl rfl (Nat.le_of_ble_eq_true rfl) (RmOk.mk' (by decide) (by decide) (by decide) (by decide)) ⟨rfl, rfl⟩ ?_
      refine V.ast C dX5_lock_5 (Nat.le_of_ble_eq_true rfl) rfl ?_
      refine V.ald_n C dX5_lock_7 rfl ?_
      refine V.ild_n C dX5_lock_8 rfl ?_
      refine V.callVp C mo_X5_thingAt im_X5_thingAt se_X5_thingAt ml_RX5_105 (ev_X5_thingAt_f hX hI hk) dX5_lock_9 rfl rfl hX.x0 rfl rfl (Nat.le_of_ble_eq_true rfl) (RmOk.mk' (by decide) (by decide) (by decide) (by decide)) ⟨rfl, rfl⟩ ?_
      refine V.ast C dX5_lock_12 (Nat.le_of_ble_eq_true rfl) rfl ?_
      refine V.ald C dX5_lock_14 rfl ?_
      refine V.ifnullN C (tgt := 29) dX5_lock_16 (by decide) ?_
      refine V.iconst C (x := -1) dX5_lock_29 (by decide) ?_
      exact V.iret X dX5_lock_30 rfl (by decide) (by decide) (by unfold S_lock; rw [ok1_f hj]; exact ⟨rfl, ⟨_, _, _, _, _, hX, hR⟩, hF⟩)
theorem ev_X5_floats {g : GD} {r d t b : Nat} {A : ST} {da ta ba : Nat → Nat} {gr hc : Nat → Int32} {L : List AE} (hX : XR0 r d t b A da ta ba gr hc L) (hI : Inv r d t b A) (hR : Rl t b A gr hc) (x y : Int32) : Ev g mX5_floats [aR 0, aI x, aI y] L (XQt L (S_floats r d t b A x y)) := by
  refine Ev.of [some (aR 0), some (aI x), some (aI y), none] (by decide) rfl (Nat.le_of_ble_eq_true rfl) fun Z H0 C X => ?_
  have hN := hI.cn
  have hF : FrX L L := FrX.rf
  rcases isN_cases x t (by omega) with ⟨i, hi, rfl⟩ | hi
  · skip
    rcases isN_cases y 7 (by omega) with ⟨j, hj, rfl⟩ | hj
    · skip
      refine V.ald_n C dX5_floats_0 rfl ?_
      refine V.ild_n C dX5_floats_1 rfl ?_
      refine V.callVp C mo_X5_thingAt im_X5_thingAt se_X5_thingAt ml_RX5_105 (ev_X5_thingAt_t hX hI (show i < t by omega)) dX5_floats_2 rfl rfl hX.x0 rfl rfl (Nat.le_of_ble_eq_true rfl) (RmOk.mk' (by decide) (by decide) (by decide) (by decide)) ⟨rfl, rfl⟩ ?_
      refine V.ast_n C dX5_floats_5 (Nat.le_of_ble_eq_true rfl) rfl ?_
      refine V.ald_n C dX5_floats_6 rfl ?_
      refine V.ifnull C dX5_floats_7 ?_
      refine V.ald_n C dX5_floats_10 rfl ?_
      refine V.get C fg_RX5_109 dX5_floats_11 (hX.tt (show i < t by omega)) rfl ?_
      refine V.iconst C (x := 1) dX5_floats_14 (by decide) ?_
      refine V.icmp_ne C (tgt := 25) dX5_floats_15 (by decide) (fun h15 => ?_) (fun h15 => ?_)
      · skip
        refine V.iconst C (x := -1) dX5_floats_25 (by decide) ?_
        exact V.iret X dX5_floats_26 rfl (by decide) (by decide) (by unfold S_floats; rw [ok1_t hi (by omega), cI_f h15]; exact ⟨rfl, ⟨_, _, _, _, _, hX, hR⟩, hF⟩)
      · skip
        refine V.ild_n C dX5_floats_18 rfl ?_
        refine V.callSp C mo_X5_isRegion sm_X5_isRegion ml_RX5_92 (ev_X5_isRegion _) dX5_floats_19 rfl rfl (Nat.le_of_ble_eq_true rfl) (RmOk.mk' (by decide) (by decide) (by decide) (by decide)) ⟨rfl, rfl⟩ ?_
        refine V.ifb_ne C (tgt := 27) dX5_floats_22 (by decide) (fun h22 => ?_) (fun h22 => absurd (isN_nI (show j < 7 by omega) (by omega)) h22)
        have hn : ∀ v, v < b → ¬ hol A v i := fun v hv q => by
          rcases (hI.ct hi).2.1 with ⟨p, hp, hpl⟩ | ⟨w, hw, hpl, hs0, hf0⟩
          · have := nI_inj (by omega) (by omega) (hpl.symm.trans q.2); omega
          · rw [h15] at hs0; exact absurd hs0 (by decide)
        refine V.ald_n C dX5_floats_27 rfl ?_
        refine V.ild_n C dX5_floats_28 rfl ?_
        refine V.putT C hX hF (show i < t by omega) fl_RX5_126 dX5_floats_29 ⟨rfl, rfl⟩ (by decide) (gr) (A' := up2 A 14 i (nI j)) (agr_up (by decide) agr_rf) (fun _ _ => rfl) tset4 (fun L hX hF => ?_)
        refine V.iconst C (x := 1) dX5_floats_32 (by decide) ?_
        exact V.iret X dX5_floats_33 rfl (by decide) (by decide) (by unfold S_floats; rw [ok1_t hi (by omega), cI_t h15, ok1_t hj (by omega)]; exact ⟨rfl, ⟨_, _, _, _, _, hX, Rl_floats hR hn (nI_neg (by omega))⟩, hF⟩)
    · skip
      refine V.ald_n C dX5_floats_0 rfl ?_
      refine V.ild_n C dX5_floats_1 rfl ?_
      refine V.callVp C mo_X5_thingAt im_X5_thingAt se_X5_thingAt ml_RX5_105 (ev_X5_thingAt_t hX hI (show i < t by omega)) dX5_floats_2 rfl rfl hX.x0 rfl rfl (Nat.le_of_ble_eq_true rfl) (RmOk.mk' (by decide) (by decide) (by decide) (by decide)) ⟨rfl, rfl⟩ ?_
      refine V.ast_n C dX5_floats_5 (Nat.le_of_ble_eq_true rfl) rfl ?_
      refine V.ald_n C dX5_floats_6 rfl ?_
      refine V.ifnull C dX5_floats_7 ?_
      refine V.ald_n C dX5_floats_10 rfl ?_
      refine V.get C fg_RX5_109 dX5_floats_11 (hX.tt (show i < t by omega)) rfl ?_
      refine V.iconst C (x := 1) dX5_floats_14 (by decide) ?_
      refine V.icmp_ne C (tgt := 25) dX5_floats_15 (by decide) (fun h15 => ?_) (fun h15 => ?_)
      · skip
        refine V.iconst C (x := -1) dX5_floats_25 (by decide) ?_
        exact V.iret X dX5_floats_26 rfl (by decide) (by decide) (by unfold S_floats; rw [ok1_t hi (by omega), cI_f h15]; exact ⟨rfl, ⟨_, _, _, _, _, hX, hR⟩, hF⟩)
      · skip
        refine V.ild_n C dX5_floats_18 rfl ?_
        refine V.callSp C mo_X5_isRegion sm_X5_isRegion ml_RX5_92 (ev_X5_isRegion _) dX5_floats_19 rfl rfl (Nat.le_of_ble_eq_true rfl) (RmOk.mk' (by decide) (by decide) (by decide) (by decide)) ⟨rfl, rfl⟩ ?_
        refine V.ifb_ne C (tgt := 27) dX5_floats_22 (by decide) (fun h22 => absurd h22 hj) (fun h22 => ?_)
        refine V.iconst C (x := -1) dX5_floats_25 (by decide) ?_
        exact V.iret X dX5_floats_26 rfl (by decide) (by decide) (by unfold S_floats; rw [ok1_t hi (by omega), cI_t h15, ok1_f hj]; exact ⟨rfl, ⟨_, _, _, _, _, hX, hR⟩, hF⟩)
  · skip
    refine V.ald_n C dX5_floats_0 rfl ?_
    refine V.ild_n C dX5_floats_1 rfl ?_
    refine V.callVp C mo_X5_thingAt im_X5_thingAt se_X5_thingAt ml_RX5_105 (ev_X5_thingAt_f hX hI hi) dX5_floats_2 rfl rfl hX.x0 rfl rfl (Nat.le_of_ble_eq_true rfl) (RmOk.mk' (by decide) (by decide) (by decide) (by decide)) ⟨rfl, rfl⟩ ?_
    refine V.ast_n C dX5_floats_5 (Nat.le_of_ble_eq_true rfl) rfl ?_
    refine V.ald_n C dX5_floats_6 rfl ?_
    refine V.ifnullN C (tgt := 25) dX5_floats_7 (by decide) ?_
    refine V.iconst C (x := -1) dX5_floats_25 (by decide) ?_
    exact V.iret X dX5_floats_26 rfl (by decide) (by decide) (by unfold S_floats; rw [ok1_f hi]; exact ⟨rfl, ⟨_, _, _, _, _, hX, hR⟩, hF⟩)
theorem ev_X1_init {g : GD} {L : List AE} {a : Nat} (hL : L[a]? = some (eO 1 [aI 0, aI 0, aI 0, aI 0, aN])) (x y : Int32) : Ev g mX1_init [aR a, aI x, aI y] L (fun v L1 => v = none ∧ L1 = L.set a (eO 1 [aI x, aI y, aI 0, aI 0, aN])) := by
  refine Ev.of [some (aR a), some (aI x), some (aI y)] (by decide) rfl (Nat.le_of_ble_eq_true rfl) fun Z H0 C X => ?_
  refine V.ald_n C dX1_init_0 rfl ?_
  refine V.objInit C ml_RX1_3 oi_i oi_c dX1_init_1 (by decide) (by decide) ?_
  refine V.ald_n C dX1_init_4 rfl ?_
  refine V.ild_n C dX1_init_5 rfl ?_
  refine V.put C fl_RX1_9 dX1_init_6 hL ⟨rfl, rfl⟩ (Nat.le_of_ble_eq_true rfl) (fun _ => rfl) rfl ?_
  refine V.ald_n C dX1_init_9 rfl ?_
  refine V.ild_n C dX1_init_10 rfl ?_
  refine V.put C fl_RX1_15 dX1_init_11 (get_set hL) ⟨rfl, rfl⟩ (Nat.le_of_ble_eq_true rfl) (fun _ => rfl) (List.set_set _) ?_
  exact V.vret X dX1_init_14 (by decide) (by decide) ⟨rfl, rfl⟩
theorem ev_X4_init {g : GD} {L : List AE} {a : Nat} (hL : L[a]? = some (eO 4 [aI 0, aI 0, aI 0, aI 0, aI 0, aN, aI 0])) (u x y z : Int32) : Ev g mX4_init [aR a, aI u, aI x, aI y, aI z] L (fun v L1 => v = none ∧ L1 = L.set a (eO 4 [aI u, aI y, aI z, aI x, aI (-1), aN, aI 0])) := by
  refine Ev.of [some (aR a), some (aI u), some (aI x), some (aI y), some (aI z)] (by decide) rfl (Nat.le_of_ble_eq_true rfl) fun Z H0 C X => ?_
  refine V.ald_n C dX4_init_0 rfl ?_
  refine V.objInit C ml_RX4_3 oi_i oi_c dX4_init_1 (by decide) (by decide) ?_
  refine V.ald_n C dX4_init_4 rfl ?_
  refine V.iconst C (x := -1) dX4_init_5 (by decide) ?_
  refine V.put C fl_RX4_9 dX4_init_6 hL ⟨rfl, rfl⟩ (Nat.le_of_ble_eq_true rfl) (fun h => by cases h) rfl ?_
  refine V.ald_n C dX4_init_9 rfl ?_
  refine V.ild_n C dX4_init_10 rfl ?_
  refine V.put C fl_RX4_15 dX4_init_11 (get_set hL) ⟨rfl, rfl⟩ (Nat.le_of_ble_eq_true rfl) (fun _ => rfl) (List.set_set _) ?_
  refine V.ald_n C dX4_init_14 rfl ?_
  refine V.ild_n C dX4_init_15 rfl ?_
  refine V.put C fl_RX4_18 dX4_init_16 (get_set hL) ⟨rfl, rfl⟩ (Nat.le_of_ble_eq_true rfl) (fun h => by cases h) (List.set_set _) ?_
  refine V.ald_n C dX4_init_19 rfl ?_
  refine V.ild_n C dX4_init_20 rfl ?_
  refine V.put C fl_RX4_21 dX4_init_21 (get_set hL) ⟨rfl, rfl⟩ (Nat.le_of_ble_eq_true rfl) (fun _ => rfl) (List.set_set _) ?_
  refine V.ald_n C dX4_init_24 rfl ?_
  refine V.ild C dX4_init_25 rfl ?_
  refine V.put C fl_RX4_24 dX4_init_27 (get_set hL) ⟨rfl, rfl⟩ (Nat.le_of_ble_eq_true rfl) (fun _ => rfl) (List.set_set _) ?_
  exact V.vret X dX4_init_30 (by decide) (by decide) ⟨rfl, rfl⟩
theorem get_push {L : List AE} {e : AE} : (L ++ [e])[L.length]? = some e := by simp
theorem get_app {L M : List AE} {a : Nat} {e : AE} (h : L[a]? = some e) : (L ++ M)[a]? = some e := by
  rw [List.getElem?_append_left (List.getElem?_eq_some_iff.mp h).1]; exact h
theorem set_push {L : List AE} {e e1 : AE} : (L ++ [e]).set L.length e1 = L ++ [e1] := by
  rw [List.set_append_right _ _ (Nat.le_refl _)]; simp
theorem set_push2 {L : List AE} {e e1 e2 : AE} : (L ++ [e] ++ [e2]).set L.length e1 = L ++ [e1] ++ [e2] := by
  rw [List.append_assoc, List.set_append_right _ _ (Nat.le_refl _)]; simp
theorem FrX.app {L M : List AE} (h : 46 ≤ L.length) : FrX L (L ++ M) := ⟨by rw [List.length_append]; omega, fun k _ h2 => List.getElem?_append_left (by omega)⟩
theorem xq_up {n : Nat} {f : Nat → Nat} {m : Nat} : va_up (xq n f) n (some m) = xq (n + 1) (fun i => if i = n then m else f i) := by
  funext i
  unfold va_up xq
  by_cases h : i = n
  · subst h; simp
  · by_cases h2 : i < n
    · have : i < n + 1 := by omega
      simp [h, h2, this]
    · have : ¬ i < n + 1 := by omega
      simp [h, h2, this]
theorem nf_X1 : ∀ j, j < 5 → ∃ ty, parseFieldDescriptor (TX1 j).2.2.1 = some ty ∧ [aI 0, aI 0, aI 0, aI 0, aN][j]? = some (dfl ty) ∧ (ty = .int ∨ ty = .boolean ∨ (∃ s, ty = .object s) ∨ ∃ t, ty = .array t) := by
  intro j hj
  refine ⟨tyX1 j, tyX1_ok j hj, ?_⟩
  match j, hj with
  | 0, _ => exact ⟨rfl, Or.inl rfl⟩
  | 1, _ => exact ⟨rfl, Or.inl rfl⟩
  | 2, _ => exact ⟨rfl, Or.inr (Or.inl rfl)⟩
  | 3, _ => exact ⟨rfl, Or.inr (Or.inl rfl)⟩
  | 4, _ => exact ⟨rfl, Or.inr (Or.inr (Or.inl ⟨_, rfl⟩))⟩
theorem nf_X4 : ∀ j, j < 7 → ∃ ty, parseFieldDescriptor (TX4 j).2.2.1 = some ty ∧ [aI 0, aI 0, aI 0, aI 0, aI 0, aN, aI 0][j]? = some (dfl ty) ∧ (ty = .int ∨ ty = .boolean ∨ (∃ s, ty = .object s) ∨ ∃ t, ty = .array t) := by
  intro j hj
  refine ⟨tyX4 j, tyX4_ok j hj, ?_⟩
  match j, hj with
  | 0, _ => exact ⟨rfl, Or.inl rfl⟩
  | 1, _ => exact ⟨rfl, Or.inl rfl⟩
  | 2, _ => exact ⟨rfl, Or.inl rfl⟩
  | 3, _ => exact ⟨rfl, Or.inl rfl⟩
  | 4, _ => exact ⟨rfl, Or.inl rfl⟩
  | 5, _ => exact ⟨rfl, Or.inr (Or.inr (Or.inl ⟨_, rfl⟩))⟩
  | 6, _ => exact ⟨rfl, Or.inr (Or.inl rfl)⟩
theorem nf_X0 : ∀ j, j < 7 → ∃ ty, parseFieldDescriptor (TX0 j).2.2.1 = some ty ∧ [aI 0, aN, aI 0, aI 0, aI 0, aI 0, aN][j]? = some (dfl ty) ∧ (ty = .int ∨ ty = .boolean ∨ (∃ s, ty = .object s) ∨ ∃ t, ty = .array t) := by
  intro j hj
  refine ⟨tyX0 j, tyX0_ok j hj, ?_⟩
  match j, hj with
  | 0, _ => exact ⟨rfl, Or.inl rfl⟩
  | 1, _ => exact ⟨rfl, Or.inr (Or.inr (Or.inr ⟨_, rfl⟩))⟩
  | 2, _ => exact ⟨rfl, Or.inl rfl⟩
  | 3, _ => exact ⟨rfl, Or.inl rfl⟩
  | 4, _ => exact ⟨rfl, Or.inl rfl⟩
  | 5, _ => exact ⟨rfl, Or.inl rfl⟩
  | 6, _ => exact ⟨rfl, Or.inr (Or.inr (Or.inl ⟨_, rfl⟩))⟩
theorem ev_X0_init {g : GD} {L : List AE} {a : Nat} (hL : L[a]? = some (eO 0 [aI 0, aN, aI 0, aI 0, aI 0, aI 0, aN])) (u x : Int32) : Ev g mX0_init [aR a, aI u, aI x] L (fun v L1 => v = none ∧ L1 = (L ++ [eA 0 8 (fun _ => 0)]).set a (eO 0 [aI u, aR L.length, aI x, aI 0, aI 0, aI (-1), aN])) := by
  refine Ev.of [some (aR a), some (aI u), some (aI x)] (by decide) rfl (Nat.le_of_ble_eq_true rfl) fun Z H0 C X => ?_
  refine V.ald_n C dX0_init_0 rfl ?_
  refine V.objInit C ml_RX0_3 oi_i oi_c dX0_init_1 (by decide) (by decide) ?_
  refine V.ald_n C dX0_init_4 rfl ?_
  refine V.bipush C (x := 8) dX0_init_5 (by decide) ?_
  refine V.newI C ar_i dX0_init_7 (by decide) rfl (by decide) rfl rfl (by decide) (by decide) ?_
  refine V.put C fl_RX0_9 dX0_init_9 (get_app hL) ⟨rfl, rfl⟩ (Nat.le_of_ble_eq_true rfl) (fun _ => rfl) rfl ?_
  refine V.ald_n C dX0_init_12 rfl ?_
  refine V.iconst C (x := -1) dX0_init_13 (by decide) ?_
  refine V.put C fl_RX0_15 dX0_init_14 (get_set (get_app hL)) ⟨rfl, rfl⟩ (Nat.le_of_ble_eq_true rfl) (fun h => by cases h) (List.set_set _) ?_
  refine V.ald_n C dX0_init_17 rfl ?_
  refine V.ild_n C dX0_init_18 rfl ?_
  refine V.put C fl_RX0_19 dX0_init_19 (get_set (get_app hL)) ⟨rfl, rfl⟩ (Nat.le_of_ble_eq_true rfl) (fun _ => rfl) (List.set_set _) ?_
  refine V.ald_n C dX0_init_22 rfl ?_
  refine V.ild_n C dX0_init_23 rfl ?_
  refine V.put C fl_RX0_22 dX0_init_24 (get_set (get_app hL)) ⟨rfl, rfl⟩ (Nat.le_of_ble_eq_true rfl) (fun h => by cases h) (List.set_set _) ?_
  exact V.vret X dX0_init_27 (by decide) (by decide) ⟨rfl, rfl⟩
theorem up2_k {A : ST} {j q i k : Nat} {x : Int32} (h : k ≠ i) : up2 A q i x j k = A j k := by
  by_cases e : j = q
  · subst e; rw [up2_s, pk_un h]
  · rw [up2_n e]
theorem up2_k3 {A : ST} {j q1 q2 q3 i k : Nat} {x y z : Int32} (h : k ≠ i) : up2 (up2 (up2 A q1 i x) q2 i y) q3 i z j k = A j k := by
  rw [up2_k h, up2_k h, up2_k h]
theorem ev_X5_door {g : GD} {r d t b : Nat} {A : ST} {da ta ba : Nat → Nat} {gr hc : Nat → Int32} {L : List AE} (hX : XR0 r d t b A da ta ba gr hc L) (hI : Inv r d t b A) (hR : Rl t b A gr hc) (x y : Int32) : Ev g mX5_door [aR 0, aI x, aI y] L (XQt L (S_door r d t b A x y)) := by
  refine Ev.of [some (aR 0), some (aI x), some (aI y)] (by decide) rfl (Nat.le_of_ble_eq_true rfl) fun Z H0 C X => ?_
  have hN := hI.cn
  have hF : FrX L L := FrX.rf
  rcases isN_cases x r (by omega) with ⟨i, hi, rfl⟩ | hi
  · skip
    refine V.ald_n C dX5_door_0 rfl ?_
    refine V.ild_n C dX5_door_1 rfl ?_
    refine V.callVp C mo_X5_isRoom im_X5_isRoom se_X5_isRoom ml_RX5_61 (ev_X5_isRoom hX hI _) dX5_door_2 rfl rfl hX.x0 rfl rfl (Nat.le_of_ble_eq_true rfl) (RmOk.mk' (by decide) (by decide) (by decide) (by decide)) ⟨rfl, rfl⟩ ?_
    refine V.ifb_eq C (tgt := 26) dX5_door_5 (by decide) (fun h5 => absurd (isN_nI (show i < r by omega) (by omega)) h5) (fun h5 => ?_)
    refine V.ild_n C dX5_door_8 rfl ?_
    refine V.ild_n C dX5_door_9 rfl ?_
    refine V.icmp_eq C (tgt := 26) dX5_door_10 (by decide) (fun h10 => ?_) (fun h10 => ?_)
    · skip
      refine V.iconst C (x := -1) dX5_door_26 (by decide) ?_
      exact V.iret X dX5_door_27 rfl (by decide) (by decide) (by unfold S_door; rw [ok1_t hi (by omega), cI_f (fun q => q.2 h10)]; exact ⟨rfl, ⟨_, _, _, _, _, hX, hR⟩, hF⟩)
    · skip
      refine V.ild_n C dX5_door_13 rfl ?_
      refine V.iconst C (x := -1) dX5_door_14 (by decide) ?_
      refine V.icmp_eq C (tgt := 28) dX5_door_15 (by decide) (fun h15 => ?_) (fun h15 => ?_)
      · skip
        refine V.ald_n C dX5_door_28 rfl ?_
        refine V.get C fg_RX5_65 dX5_door_29 hX.x0 rfl ?_
        refine V.bipush C (x := 15) dX5_door_32 (by decide) ?_
        refine V.icmpN_lt C (d) (15) (tgt := 40) dX5_door_34 (by decide) (by omega) (by omega) (fun h34 => ?_) (fun h34 => ?_)
        · skip
          refine V.ald_n C dX5_door_40 rfl ?_
          refine V.get C fg_RX5_27 dX5_door_41 hX.x0 rfl ?_
          refine V.ald_n C dX5_door_44 rfl ?_
          refine V.get C fg_RX5_65 dX5_door_45 hX.x0 rfl ?_
          refine V.new C cl_RX5_25 is_RX1 it_RX1 (ci := 1) (q := (RX1, TX1, 5)) rfl nf_X1 dX5_door_48 rfl rfl (by decide) (by decide) ?_
          refine V.dup C dX5_door_51 ?_
          refine V.ild_n C dX5_door_52 rfl ?_
          refine V.ild_n C dX5_door_53 rfl ?_
          refine V.callI C mo_X1_init rfl im_X1_init rfl ml_RX5_68 (ev_X1_init get_push _ _) dX5_door_54 rfl rfl (Nat.le_of_ble_eq_true rfl) (RmOk.mk' (by decide) (by decide) (by decide) (by decide)) (fun v L1 hq => ?_)
          obtain ⟨rfl, rfl⟩ := hq
          rw [set_push]
          refine V.aastN C (by decide) dX5_door_57 (get_app hX.x5) get_push rfl rfl (by omega) (by decide) ?_
          refine V.ald_n C dX5_door_58 rfl ?_
          refine V.dup C dX5_door_59 ?_
          refine V.get C fg_RX5_65 dX5_door_60 ((get_ne (by decide)).trans (get_app hX.x0)) rfl ?_
          refine V.dup_x1 C dX5_door_63 ?_
          refine V.iconst C (x := 1) dX5_door_64 (by decide) ?_
          refine V.iadd C dX5_door_65 ?_
          refine V.top (nI_add d 1) ?_
          refine V.put C fl_RX5_65 dX5_door_66 ((get_ne (by decide)).trans (get_app hX.x0)) ⟨rfl, rfl⟩ (Nat.le_of_ble_eq_true rfl) (fun h => by cases h) rfl ?_
          exact V.iret X dX5_door_69 rfl (by decide) (by decide) (by
            have hl46 := hX.2.2.2.2.2.1
            unfold S_door; rw [ok1_t hi (by omega), cI_t ⟨(Or.inl h15), h10⟩, cI_f (by omega)]
            refine ⟨rfl, ⟨_, _, _, _, _, hX.door (fun j h5 h6 h7 => (up2_n h7).trans ((up2_n h6).trans (up2_n h5))) (fun j k hk => ?_) (get_set ((get_ne (by decide)).trans (get_app hX.x0))) ((get_ne (by decide)).trans ((get_set (get_app hX.x5)).trans (by rw [xq_up]))) ((get_ne (by omega)).trans ((get_ne (by omega)).trans (get_push.trans ?_))) (fun k h0 h5 hk => (get_ne h0).trans ((get_ne h5).trans (List.getElem?_append_left hk))) (by simp), hR.kept rfl rfl⟩, ((FrX.app hl46).st (Or.inl (by decide))).st (Or.inl (by decide))⟩
            · exact up2_k3 hk
            · have e8 := (hI.zd (Nat.le_refl d)).1
              have e9 := (hI.zd (Nat.le_refl d)).2
              have ek : ∀ y, kref (up2 (up2 (up2 A 5 d (nI i)) 6 d y) 7 d (-1)) ta d = none := fun y => kref_neg (u_ss _ _ _ _)
              have a5 : ∀ y, up2 (up2 (up2 A 5 d (nI i)) 6 d y) 7 d (-1) 5 d = nI i := fun y => by rw [up2_n (by decide), up2_n (by decide), u_ss]
              have a6 : ∀ y, up2 (up2 (up2 A 5 d (nI i)) 6 d y) 7 d (-1) 6 d = y := fun y => by rw [up2_n (by decide), u_ss]
              have a8 : ∀ y, up2 (up2 (up2 A 5 d (nI i)) 6 d y) 7 d (-1) 8 d = 0 := fun y => e8
              have a9 : ∀ y, up2 (up2 (up2 A 5 d (nI i)) 6 d y) 7 d (-1) 9 d = 0 := fun y => e9
              unfold dfs
              dsimp only
              rw [ek, a5, a6, a8, a9])
        · skip
          refine V.bipush C (x := -2) dX5_door_37 (by decide) ?_
          exact V.iret X dX5_door_39 rfl (by decide) (by decide) (by unfold S_door; rw [ok1_t hi (by omega), cI_t ⟨(Or.inl h15), h10⟩, cI_t (by omega)]; exact ⟨rfl, ⟨_, _, _, _, _, hX, hR⟩, hF⟩)
      · skip
        rcases isN_cases y r (by omega) with ⟨j, hj, rfl⟩ | hj
        · skip
          refine V.ald_n C dX5_door_18 rfl ?_
          refine V.ild_n C dX5_door_19 rfl ?_
          refine V.callVp C mo_X5_isRoom im_X5_isRoom se_X5_isRoom ml_RX5_61 (ev_X5_isRoom hX hI _) dX5_door_20 rfl rfl hX.x0 rfl rfl (Nat.le_of_ble_eq_true rfl) (RmOk.mk' (by decide) (by decide) (by decide) (by decide)) ⟨rfl, rfl⟩ ?_
          refine V.ifb_ne C (tgt := 28) dX5_door_23 (by decide) (fun h23 => ?_) (fun h23 => absurd (isN_nI (show j < r by omega) (by omega)) h23)
          refine V.ald_n C dX5_door_28 rfl ?_
          refine V.get C fg_RX5_65 dX5_door_29 hX.x0 rfl ?_
          refine V.bipush C (x := 15) dX5_door_32 (by decide) ?_
          refine V.icmpN_lt C (d) (15) (tgt := 40) dX5_door_34 (by decide) (by omega) (by omega) (fun h34 => ?_) (fun h34 => ?_)
          · skip
            refine V.ald_n C dX5_door_40 rfl ?_
            refine V.get C fg_RX5_27 dX5_door_41 hX.x0 rfl ?_
            refine V.ald_n C dX5_door_44 rfl ?_
            refine V.get C fg_RX5_65 dX5_door_45 hX.x0 rfl ?_
            refine V.new C cl_RX5_25 is_RX1 it_RX1 (ci := 1) (q := (RX1, TX1, 5)) rfl nf_X1 dX5_door_48 rfl rfl (by decide) (by decide) ?_
            refine V.dup C dX5_door_51 ?_
            refine V.ild_n C dX5_door_52 rfl ?_
            refine V.ild_n C dX5_door_53 rfl ?_
            refine V.callI C mo_X1_init rfl im_X1_init rfl ml_RX5_68 (ev_X1_init get_push _ _) dX5_door_54 rfl rfl (Nat.le_of_ble_eq_true rfl) (RmOk.mk' (by decide) (by decide) (by decide) (by decide)) (fun v L1 hq => ?_)
            obtain ⟨rfl, rfl⟩ := hq
            rw [set_push]
            refine V.aastN C (by decide) dX5_door_57 (get_app hX.x5) get_push rfl rfl (by omega) (by decide) ?_
            refine V.ald_n C dX5_door_58 rfl ?_
            refine V.dup C dX5_door_59 ?_
            refine V.get C fg_RX5_65 dX5_door_60 ((get_ne (by decide)).trans (get_app hX.x0)) rfl ?_
            refine V.dup_x1 C dX5_door_63 ?_
            refine V.iconst C (x := 1) dX5_door_64 (by decide) ?_
            refine V.iadd C dX5_door_65 ?_
            refine V.top (nI_add d 1) ?_
            refine V.put C fl_RX5_65 dX5_door_66 ((get_ne (by decide)).trans (get_app hX.x0)) ⟨rfl, rfl⟩ (Nat.le_of_ble_eq_true rfl) (fun h => by cases h) rfl ?_
            exact V.iret X dX5_door_69 rfl (by decide) (by decide) (by
              have hl46 := hX.2.2.2.2.2.1
              unfold S_door; rw [ok1_t hi (by omega), cI_t ⟨(Or.inr (isN_nI hj (by omega))), h10⟩, cI_f (by omega)]
              refine ⟨rfl, ⟨_, _, _, _, _, hX.door (fun j h5 h6 h7 => (up2_n h7).trans ((up2_n h6).trans (up2_n h5))) (fun j k hk => ?_) (get_set ((get_ne (by decide)).trans (get_app hX.x0))) ((get_ne (by decide)).trans ((get_set (get_app hX.x5)).trans (by rw [xq_up]))) ((get_ne (by omega)).trans ((get_ne (by omega)).trans (get_push.trans ?_))) (fun k h0 h5 hk => (get_ne h0).trans ((get_ne h5).trans (List.getElem?_append_left hk))) (by simp), hR.kept rfl rfl⟩, ((FrX.app hl46).st (Or.inl (by decide))).st (Or.inl (by decide))⟩
              · exact up2_k3 hk
              · have e8 := (hI.zd (Nat.le_refl d)).1
                have e9 := (hI.zd (Nat.le_refl d)).2
                have ek : ∀ y, kref (up2 (up2 (up2 A 5 d (nI i)) 6 d y) 7 d (-1)) ta d = none := fun y => kref_neg (u_ss _ _ _ _)
                have a5 : ∀ y, up2 (up2 (up2 A 5 d (nI i)) 6 d y) 7 d (-1) 5 d = nI i := fun y => by rw [up2_n (by decide), up2_n (by decide), u_ss]
                have a6 : ∀ y, up2 (up2 (up2 A 5 d (nI i)) 6 d y) 7 d (-1) 6 d = y := fun y => by rw [up2_n (by decide), u_ss]
                have a8 : ∀ y, up2 (up2 (up2 A 5 d (nI i)) 6 d y) 7 d (-1) 8 d = 0 := fun y => e8
                have a9 : ∀ y, up2 (up2 (up2 A 5 d (nI i)) 6 d y) 7 d (-1) 9 d = 0 := fun y => e9
                unfold dfs
                dsimp only
                rw [ek, a5, a6, a8, a9])
          · skip
            refine V.bipush C (x := -2) dX5_door_37 (by decide) ?_
            exact V.iret X dX5_door_39 rfl (by decide) (by decide) (by unfold S_door; rw [ok1_t hi (by omega), cI_t ⟨(Or.inr (isN_nI hj (by omega))), h10⟩, cI_t (by omega)]; exact ⟨rfl, ⟨_, _, _, _, _, hX, hR⟩, hF⟩)
        · skip
          refine V.ald_n C dX5_door_18 rfl ?_
          refine V.ild_n C dX5_door_19 rfl ?_
          refine V.callVp C mo_X5_isRoom im_X5_isRoom se_X5_isRoom ml_RX5_61 (ev_X5_isRoom hX hI _) dX5_door_20 rfl rfl hX.x0 rfl rfl (Nat.le_of_ble_eq_true rfl) (RmOk.mk' (by decide) (by decide) (by decide) (by decide)) ⟨rfl, rfl⟩ ?_
          refine V.ifb_ne C (tgt := 28) dX5_door_23 (by decide) (fun h23 => absurd h23 hj) (fun h23 => ?_)
          refine V.iconst C (x := -1) dX5_door_26 (by decide) ?_
          exact V.iret X dX5_door_27 rfl (by decide) (by decide) (by unfold S_door; rw [ok1_t hi (by omega), cI_f (fun q => q.1.elim h15 hj)]; exact ⟨rfl, ⟨_, _, _, _, _, hX, hR⟩, hF⟩)
  · skip
    refine V.ald_n C dX5_door_0 rfl ?_
    refine V.ild_n C dX5_door_1 rfl ?_
    refine V.callVp C mo_X5_isRoom im_X5_isRoom se_X5_isRoom ml_RX5_61 (ev_X5_isRoom hX hI _) dX5_door_2 rfl rfl hX.x0 rfl rfl (Nat.le_of_ble_eq_true rfl) (RmOk.mk' (by decide) (by decide) (by decide) (by decide)) ⟨rfl, rfl⟩ ?_
    refine V.ifb_eq C (tgt := 26) dX5_door_5 (by decide) (fun h5 => ?_) (fun h5 => absurd h5 hi)
    refine V.iconst C (x := -1) dX5_door_26 (by decide) ?_
    exact V.iret X dX5_door_27 rfl (by decide) (by decide) (by unfold S_door; rw [ok1_f hi]; exact ⟨rfl, ⟨_, _, _, _, _, hX, hR⟩, hF⟩)
theorem Rl_thing {t b : Nat} {A A' : ST} {gr hc : Nat → Int32} {i : Nat} (hR : Rl t b A gr hc) (hi : i < 100) (hb : b ≤ 6) (h13 : A' 13 = upd (A 13) t (nI i)) (h14 : ∀ k, k ≠ t → A' 14 k = A 14 k) : Rl (t + 1) b A' (upd gr t (nI i)) hc := by
  have h0 : ∀ v, v < b → ¬ hol A' v t := fun v hv q => by
    have q2 := q.2
    rw [h13, pk_us] at q2
    have := nI_inj (by omega) (by omega) q2
    omega
  have e : ∀ v, v < b → cnt (hol A' v) (t + 1) = cnt (hol A v) t := fun v hv => by
    show cnt (hol A' v) t + cI (hol A' v t) 1 0 = _
    rw [cI_f (h0 v hv), Nat.add_zero]
    refine cnt_congr (fun k hk => ?_)
    unfold hol
    rw [h13, pk_un (show k ≠ t by omega), h14 k (by omega)]
  refine ⟨fun k hk q => ?_, fun v hv => ?_, fun v hv => ?_⟩
  · by_cases e2 : k = t
    · subst e2; rw [pk_us, h13, pk_us]
    · rw [h13, pk_un e2] at q ⊢
      rw [pk_un e2]
      exact hR.1 k (by omega) q
  · rw [e v hv]; exact hR.2.1 v hv
  · rw [e v hv]; exact hR.2.2 v hv
theorem Rl_being {r d t b : Nat} {A A' : ST} {gr hc : Nat → Int32} (hI : Inv r d t b A) (hR : Rl t b A gr hc) (h13 : A' 13 = A 13) (h14 : A' 14 = A 14) : Rl t (b + 1) A' gr (upd hc b 0) := by
  have hN := hI.cn
  have e : ∀ v, hol A' v = hol A v := fun v => by funext k; unfold hol; rw [h13, h14]
  have e0 : cnt (hol A b) t = 0 := by
    have : ∀ n, n ≤ t → cnt (hol A b) n = 0 := by
      intro n
      induction n with
      | zero => intro _; rfl
      | succ n ih =>
        intro hn
        show cnt (hol A b) n + cI (hol A b n) 1 0 = 0
        rw [ih (by omega), cI_f (fun q => ?_)]
        rcases (hI.ct (show n < t by omega)).2.1 with ⟨p, hp, hpl⟩ | ⟨w, hw, hpl, -⟩
        · have := nI_inj (by omega) (by omega) (hpl.symm.trans q.2); omega
        · have := nI_inj (by omega) (by omega) (hpl.symm.trans q.2); omega
    exact this t (Nat.le_refl t)
  refine ⟨fun k hk q => ?_, fun v hv => ?_, fun v hv => ?_⟩
  · rw [h13] at q ⊢; exact hR.1 k hk q
  · rw [e]
    by_cases q : v = b
    · subst q; rw [pk_us, e0]; rfl
    · rw [pk_un q]; exact hR.2.1 v (by omega)
  · rw [e]
    by_cases q : v = b
    · subst q; rw [e0]; omega
    · exact hR.2.2 v (by omega)
theorem ev_X5_thing {g : GD} {r d t b : Nat} {A : ST} {da ta ba : Nat → Nat} {gr hc : Nat → Int32} {L : List AE} (hX : XR0 r d t b A da ta ba gr hc L) (hI : Inv r d t b A) (hR : Rl t b A gr hc) (x y z : Int32) : Ev g mX5_thing [aR 0, aI x, aI y, aI z] L (XQt L (S_thing r d t b A x y z)) := by
  refine Ev.of [some (aR 0), some (aI x), some (aI y), some (aI z)] (by decide) rfl (Nat.le_of_ble_eq_true rfl) fun Z H0 C X => ?_
  have hN := hI.cn
  have hF : FrX L L := FrX.rf
  rcases isN_cases x r (by omega) with ⟨i, hi, rfl⟩ | hi
  · skip
    rcases isN_cases y 4 (by omega) with ⟨c, hc1, rfl⟩ | hc1
    · skip
      refine V.ald_n C dX5_thing_0 rfl ?_
      refine V.ild_n C dX5_thing_1 rfl ?_
      refine V.callVp C mo_X5_isRoom im_X5_isRoom se_X5_isRoom ml_RX5_61 (ev_X5_isRoom hX hI _) dX5_thing_2 rfl rfl hX.x0 rfl rfl (Nat.le_of_ble_eq_true rfl) (RmOk.mk' (by decide) (by decide) (by decide) (by decide)) ⟨rfl, rfl⟩ ?_
      refine V.ifb_eq C (tgt := 28) dX5_thing_5 (by decide) (fun h5 => absurd (isN_nI (show i < r by omega) (by omega)) h5) (fun h5 => ?_)
      refine V.ild_n C dX5_thing_8 rfl ?_
      refine V.if_lt C (tgt := 28) dX5_thing_9 (by decide) (fun h9 => absurd h9 (nI_pos (by omega))) (fun h9 => ?_)
      refine V.ild_n C dX5_thing_12 rfl ?_
      refine V.iconst C (x := 3) dX5_thing_13 (by decide) ?_
      refine V.icmpN_gt C (c) (3) (tgt := 28) dX5_thing_14 (by decide) (by omega) (by omega) (fun h14 => absurd h14 (by omega)) (fun h14 => ?_)
      refine V.ild_n C dX5_thing_17 rfl ?_
      refine V.iconst C (x := 1) dX5_thing_18 (by decide) ?_
      refine V.icmp_lt C (tgt := 28) dX5_thing_19 (by decide) (fun h19 => ?_) (fun h19 => ?_)
      · skip
        refine V.iconst C (x := -1) dX5_thing_28 (by decide) ?_
        exact V.iret X dX5_thing_29 rfl (by decide) (by decide) (by unfold S_thing; rw [ok1_t hi (by omega), ok1_t hc1 (by omega), cI_f (by simp only [i32_lt, i32_le] at *; omega)]; exact ⟨rfl, ⟨_, _, _, _, _, hX, hR⟩, hF⟩)
      · skip
        refine V.ild_n C dX5_thing_22 rfl ?_
        refine V.bipush C (x := 9) dX5_thing_23 (by decide) ?_
        refine V.icmp_le C (tgt := 30) dX5_thing_25 (by decide) (fun h25 => ?_) (fun h25 => ?_)
        · skip
          refine V.ald_n C dX5_thing_30 rfl ?_
          refine V.get C fg_RX5_120 dX5_thing_31 hX.x0 rfl ?_
          refine V.bipush C (x := 30) dX5_thing_34 (by decide) ?_
          refine V.icmpN_lt C (t) (30) (tgt := 42) dX5_thing_36 (by decide) (by omega) (by omega) (fun h36 => ?_) (fun h36 => ?_)
          · skip
            refine V.ald_n C dX5_thing_42 rfl ?_
            refine V.get C fg_RX5_33 dX5_thing_43 hX.x0 rfl ?_
            refine V.ald_n C dX5_thing_46 rfl ?_
            refine V.get C fg_RX5_120 dX5_thing_47 hX.x0 rfl ?_
            refine V.new C cl_RX5_31 is_RX4 it_RX4 (ci := 4) (q := (RX4, TX4, 7)) rfl nf_X4 dX5_thing_50 rfl rfl (by decide) (by decide) ?_
            refine V.dup C dX5_thing_53 ?_
            refine V.ald_n C dX5_thing_54 rfl ?_
            refine V.get C fg_RX5_120 dX5_thing_55 (get_app hX.x0) rfl ?_
            refine V.ild_n C dX5_thing_58 rfl ?_
            refine V.ild_n C dX5_thing_59 rfl ?_
            refine V.ild_n C dX5_thing_60 rfl ?_
            refine V.callI C mo_X4_init rfl im_X4_init rfl ml_RX5_123 (ev_X4_init get_push _ _ _ _) dX5_thing_61 rfl rfl (Nat.le_of_ble_eq_true rfl) (RmOk.mk' (by decide) (by decide) (by decide) (by decide)) (fun v L1 hq => ?_)
            obtain ⟨rfl, rfl⟩ := hq
            rw [set_push]
            refine V.aastN C (by decide) dX5_thing_64 (get_app hX.x6) get_push rfl rfl (by omega) (by decide) ?_
            refine V.ald_n C dX5_thing_65 rfl ?_
            refine V.dup C dX5_thing_66 ?_
            refine V.get C fg_RX5_120 dX5_thing_67 ((get_ne (by decide)).trans (get_app hX.x0)) rfl ?_
            refine V.dup_x1 C dX5_thing_70 ?_
            refine V.iconst C (x := 1) dX5_thing_71 (by decide) ?_
            refine V.iadd C dX5_thing_72 ?_
            refine V.top (nI_add t 1) ?_
            refine V.put C fl_RX5_120 dX5_thing_73 ((get_ne (by decide)).trans (get_app hX.x0)) ⟨rfl, rfl⟩ (Nat.le_of_ble_eq_true rfl) (fun h => by cases h) rfl ?_
            exact V.iret X dX5_thing_76 rfl (by decide) (by decide) (by
              have hl46 := hX.2.2.2.2.2.1
              unfold S_thing; rw [ok1_t hi (by omega), ok1_t hc1 (by omega), cI_t (by simp only [i32_lt, i32_le] at *; omega), cI_f (by omega)]
              refine ⟨rfl, ⟨_, _, _, upd gr t (nI i), _, hX.thing (by omega) (fun j h1 h2 h3 h4 => (up2_n h4).trans ((up2_n h3).trans ((up2_n h2).trans (up2_n h1)))) (fun j k hk => (up2_k hk).trans (up2_k3 hk)) (fun k hk => (hI.cd hk).2.2.2.1.imp id (fun ⟨m, h1, h2, _⟩ => ⟨m, h1, h2⟩)) (fun k hk => (hI.cb hk).2.1.imp id (fun ⟨m, h1, h2, _⟩ => ⟨m, h1, h2⟩)) (fun k hk => pk_un hk) (get_set ((get_ne (by decide)).trans (get_app hX.x0))) ((get_ne (by decide)).trans ((get_set (get_app hX.x6)).trans (by rw [xq_up]))) ((get_ne (by omega)).trans ((get_ne (by omega)).trans (get_push.trans ?_))) (fun k h0 h5 hk => (get_ne h0).trans ((get_ne h5).trans (List.getElem?_append_left hk))) (by simp), Rl_thing hR (show i < 100 by omega) (show b ≤ 6 by omega) rfl (fun k hk => show (up2 (up2 (up2 (up2 A 11 t (nI c)) 12 t z) 13 t (nI i)) 14 t (-1)) 14 k = A 14 k by rw [up2_k hk, up2_k hk, up2_k hk, up2_k hk])⟩, ((FrX.app hl46).st (Or.inl (by decide))).st (Or.inl (by decide))⟩
              have a11 : (up2 (up2 (up2 (up2 A 11 t (nI c)) 12 t z) 13 t (nI i)) 14 t (-1)) 11 t = nI c := by rw [up2_n (by decide), up2_n (by decide), up2_n (by decide), u_ss]
              have a12 : (up2 (up2 (up2 (up2 A 11 t (nI c)) 12 t z) 13 t (nI i)) 14 t (-1)) 12 t = z := by rw [up2_n (by decide), up2_n (by decide), u_ss]
              have a13 : (up2 (up2 (up2 (up2 A 11 t (nI c)) 12 t z) 13 t (nI i)) 14 t (-1)) 13 t = nI i := by rw [up2_n (by decide), u_ss]
              have a14 : (up2 (up2 (up2 (up2 A 11 t (nI c)) 12 t z) 13 t (nI i)) 14 t (-1)) 14 t = -1 := u_ss _ _ _ _
              have a15 : (up2 (up2 (up2 (up2 A 11 t (nI c)) 12 t z) 13 t (nI i)) 14 t (-1)) 15 t = 0 := hI.zt (Nat.le_refl t)
              show _ = some (eO 4 (tfs (up2 (up2 (up2 (up2 A 11 t (nI c)) 12 t z) 13 t (nI i)) 14 t (-1)) ba (upd gr t (nI i)) t))
              unfold tfs
              rw [href_r a13 (by omega), a11, a12, a14, a15, pk_us])
          · skip
            refine V.bipush C (x := -2) dX5_thing_39 (by decide) ?_
            exact V.iret X dX5_thing_41 rfl (by decide) (by decide) (by unfold S_thing; rw [ok1_t hi (by omega), ok1_t hc1 (by omega), cI_t (by simp only [i32_lt, i32_le] at *; omega), cI_t (by omega)]; exact ⟨rfl, ⟨_, _, _, _, _, hX, hR⟩, hF⟩)
        · skip
          refine V.iconst C (x := -1) dX5_thing_28 (by decide) ?_
          exact V.iret X dX5_thing_29 rfl (by decide) (by decide) (by unfold S_thing; rw [ok1_t hi (by omega), ok1_t hc1 (by omega), cI_f (by simp only [i32_lt, i32_le] at *; omega)]; exact ⟨rfl, ⟨_, _, _, _, _, hX, hR⟩, hF⟩)
    · skip
      refine V.ald_n C dX5_thing_0 rfl ?_
      refine V.ild_n C dX5_thing_1 rfl ?_
      refine V.callVp C mo_X5_isRoom im_X5_isRoom se_X5_isRoom ml_RX5_61 (ev_X5_isRoom hX hI _) dX5_thing_2 rfl rfl hX.x0 rfl rfl (Nat.le_of_ble_eq_true rfl) (RmOk.mk' (by decide) (by decide) (by decide) (by decide)) ⟨rfl, rfl⟩ ?_
      refine V.ifb_eq C (tgt := 28) dX5_thing_5 (by decide) (fun h5 => absurd (isN_nI (show i < r by omega) (by omega)) h5) (fun h5 => ?_)
      refine V.ild_n C dX5_thing_8 rfl ?_
      refine V.if_lt C (tgt := 28) dX5_thing_9 (by decide) (fun h9 => ?_) (fun h9 => ?_)
      · skip
        refine V.iconst C (x := -1) dX5_thing_28 (by decide) ?_
        exact V.iret X dX5_thing_29 rfl (by decide) (by decide) (by unfold S_thing; rw [ok1_t hi (by omega), ok1_f hc1]; exact ⟨rfl, ⟨_, _, _, _, _, hX, hR⟩, hF⟩)
      · skip
        refine V.ild_n C dX5_thing_12 rfl ?_
        refine V.iconst C (x := 3) dX5_thing_13 (by decide) ?_
        refine V.icmp_gt C (tgt := 28) dX5_thing_14 (by decide) (fun h14 => ?_) (fun h14 => rngC3 hc1 h9 (Int32.not_lt.mp h14))
        refine V.iconst C (x := -1) dX5_thing_28 (by decide) ?_
        exact V.iret X dX5_thing_29 rfl (by decide) (by decide) (by unfold S_thing; rw [ok1_t hi (by omega), ok1_f hc1]; exact ⟨rfl, ⟨_, _, _, _, _, hX, hR⟩, hF⟩)
  · skip
    refine V.ald_n C dX5_thing_0 rfl ?_
    refine V.ild_n C dX5_thing_1 rfl ?_
    refine V.callVp C mo_X5_isRoom im_X5_isRoom se_X5_isRoom ml_RX5_61 (ev_X5_isRoom hX hI _) dX5_thing_2 rfl rfl hX.x0 rfl rfl (Nat.le_of_ble_eq_true rfl) (RmOk.mk' (by decide) (by decide) (by decide) (by decide)) ⟨rfl, rfl⟩ ?_
    refine V.ifb_eq C (tgt := 28) dX5_thing_5 (by decide) (fun h5 => ?_) (fun h5 => absurd h5 hi)
    refine V.iconst C (x := -1) dX5_thing_28 (by decide) ?_
    exact V.iret X dX5_thing_29 rfl (by decide) (by decide) (by unfold S_thing; rw [ok1_f hi]; exact ⟨rfl, ⟨_, _, _, _, _, hX, hR⟩, hF⟩)
theorem get_push2 {L : List AE} {e e2 : AE} : (L ++ [e] ++ [e2])[L.length + 1]? = some e2 := by simp
theorem ev_X5_being {g : GD} {r d t b : Nat} {A : ST} {da ta ba : Nat → Nat} {gr hc : Nat → Int32} {L : List AE} (hX : XR0 r d t b A da ta ba gr hc L) (hI : Inv r d t b A) (hR : Rl t b A gr hc) (x : Int32) : Ev g mX5_being [aR 0, aI x] L (XQt L (S_being r d t b A x)) := by
  refine Ev.of [some (aR 0), some (aI x)] (by decide) rfl (Nat.le_of_ble_eq_true rfl) fun Z H0 C X => ?_
  have hN := hI.cn
  have hF : FrX L L := FrX.rf
  rcases isN_cases x r (by omega) with ⟨i, hi, rfl⟩ | hi
  · skip
    refine V.ald_n C dX5_being_0 rfl ?_
    refine V.ild_n C dX5_being_1 rfl ?_
    refine V.callVp C mo_X5_isRoom im_X5_isRoom se_X5_isRoom ml_RX5_61 (ev_X5_isRoom hX hI _) dX5_being_2 rfl rfl hX.x0 rfl rfl (Nat.le_of_ble_eq_true rfl) (RmOk.mk' (by decide) (by decide) (by decide) (by decide)) ⟨rfl, rfl⟩ ?_
    refine V.ifb_ne C (tgt := 10) dX5_being_5 (by decide) (fun h5 => ?_) (fun h5 => absurd (isN_nI (show i < r by omega) (by omega)) h5)
    refine V.ald_n C dX5_being_10 rfl ?_
    refine V.get C fg_RX5_129 dX5_being_11 hX.x0 rfl ?_
    refine V.bipush C (x := 6) dX5_being_14 (by decide) ?_
    refine V.icmpN_lt C (b) (6) (tgt := 22) dX5_being_16 (by decide) (by omega) (by omega) (fun h16 => ?_) (fun h16 => ?_)
    · skip
      refine V.ald_n C dX5_being_22 rfl ?_
      refine V.get C fg_RX5_39 dX5_being_23 hX.x0 rfl ?_
      refine V.ald_n C dX5_being_26 rfl ?_
      refine V.get C fg_RX5_129 dX5_being_27 hX.x0 rfl ?_
      refine V.new C cl_RX5_37 is_RX0 it_RX0 (ci := 0) (q := (RX0, TX0, 7)) rfl nf_X0 dX5_being_30 rfl rfl (by decide) (by decide) ?_
      refine V.dup C dX5_being_33 ?_
      refine V.ald_n C dX5_being_34 rfl ?_
      refine V.get C fg_RX5_129 dX5_being_35 (get_app hX.x0) rfl ?_
      refine V.ild_n C dX5_being_38 rfl ?_
      refine V.callI C mo_X0_init rfl im_X0_init rfl ml_RX5_132 (ev_X0_init get_push _ _) dX5_being_39 rfl rfl (Nat.le_of_ble_eq_true rfl) (RmOk.mk' (by decide) (by decide) (by decide) (by decide)) (fun v L1 hq => ?_)
      obtain ⟨rfl, rfl⟩ := hq
      rw [set_push2]
      refine V.aastN C (by decide) dX5_being_42 (get_app (get_app hX.x7)) (get_app get_push) rfl rfl (by omega) (by decide) ?_
      refine V.ald_n C dX5_being_43 rfl ?_
      refine V.dup C dX5_being_44 ?_
      refine V.get C fg_RX5_129 dX5_being_45 ((get_ne (by decide)).trans (get_app (get_app hX.x0))) rfl ?_
      refine V.dup_x1 C dX5_being_48 ?_
      refine V.iconst C (x := 1) dX5_being_49 (by decide) ?_
      refine V.iadd C dX5_being_50 ?_
      refine V.top (nI_add b 1) ?_
      refine V.put C fl_RX5_129 dX5_being_51 ((get_ne (by decide)).trans (get_app (get_app hX.x0))) ⟨rfl, rfl⟩ (Nat.le_of_ble_eq_true rfl) (fun h => by cases h) rfl ?_
      exact V.iret X dX5_being_54 rfl (by decide) (by decide) (by
        have hl46 := hX.2.2.2.2.2.1
        unfold S_being; rw [ok1_t hi (by omega), cI_f (by omega)]
        refine ⟨rfl, ⟨_, _, _, _, upd hc b 0, hX.being (by omega) (fun j h1 h2 h3 => (up2_n h3).trans ((up2_n h2).trans (up2_n h1))) (fun j k hk => up2_k3 hk) (fun k hk => (hI.ct hk).2.1.imp (fun ⟨m, h1, h2⟩ => ⟨m, by omega, h2⟩) (fun ⟨m, h1, h2, _⟩ => ⟨m, h1, h2⟩)) (fun k hk => pk_un hk) (get_set ((get_ne (by decide)).trans (get_app (get_app hX.x0)))) ((get_ne (by decide)).trans ((get_set (get_app (get_app hX.x7))).trans (by rw [xq_up]))) ((get_ne (by omega)).trans ((get_ne (by omega)).trans ((get_app get_push).trans ?_))) ((get_ne (by omega)).trans ((get_ne (by omega)).trans (get_push2.trans ?_))) (fun k h0 h5 hk => (get_ne h0).trans ((get_ne h5).trans ((List.getElem?_append_left (by simp; omega)).trans (List.getElem?_append_left hk)))) (by simp), Rl_being hI hR rfl rfl⟩, ((((FrX.app hl46).tr (FrX.app (by simp; omega))).st (Or.inl (by decide))).st (Or.inl (by decide)))⟩
        · have a17 : (up2 (up2 (up2 A 17 b (nI i)) 18 b (-1)) 19 b (-1)) 17 b = nI i := by rw [up2_n (by decide), up2_n (by decide), u_ss]
          have a18 : (up2 (up2 (up2 A 17 b (nI i)) 18 b (-1)) 19 b (-1)) 18 b = -1 := by rw [up2_n (by decide), u_ss]
          have a19 : (up2 (up2 (up2 A 17 b (nI i)) 18 b (-1)) 19 b (-1)) 19 b = -1 := u_ss _ _ _ _
          have a21 : (up2 (up2 (up2 A 17 b (nI i)) 18 b (-1)) 19 b (-1)) 21 b = 0 := (hI.zb (Nat.le_refl b)).1
          show _ = some (eO 0 (bfs (up2 (up2 (up2 A 17 b (nI i)) 18 b (-1)) 19 b (-1)) ta (fun i => if i = b then L.length else ba i) (upd hc b 0) b))
          unfold bfs
          rw [wref_neg a18, a17, a19, a21, pk_us]
          simp
        · have : newF (up2 (up2 (up2 A 17 b (nI i)) 18 b (-1)) 19 b (-1)) b = fun _ => 0 := by
            funext j
            unfold newF
            by_cases h : j < 8
            · rw [if_pos h]; exact (hI.zb (Nat.le_refl b)).2 j h
            · rw [if_neg h]
          show _ = some (eA 0 8 (newF (up2 (up2 (up2 A 17 b (nI i)) 18 b (-1)) 19 b (-1)) b))
          rw [this])
    · skip
      refine V.bipush C (x := -2) dX5_being_19 (by decide) ?_
      exact V.iret X dX5_being_21 rfl (by decide) (by decide) (by unfold S_being; rw [ok1_t hi (by omega), cI_t (by omega)]; exact ⟨rfl, ⟨_, _, _, _, _, hX, hR⟩, hF⟩)
  · skip
    refine V.ald_n C dX5_being_0 rfl ?_
    refine V.ild_n C dX5_being_1 rfl ?_
    refine V.callVp C mo_X5_isRoom im_X5_isRoom se_X5_isRoom ml_RX5_61 (ev_X5_isRoom hX hI _) dX5_being_2 rfl rfl hX.x0 rfl rfl (Nat.le_of_ble_eq_true rfl) (RmOk.mk' (by decide) (by decide) (by decide) (by decide)) ⟨rfl, rfl⟩ ?_
    refine V.ifb_ne C (tgt := 10) dX5_being_5 (by decide) (fun h5 => absurd h5 hi) (fun h5 => ?_)
    refine V.iconst C (x := -1) dX5_being_8 (by decide) ?_
    exact V.iret X dX5_being_9 rfl (by decide) (by decide) (by unfold S_being; rw [ok1_f hi]; exact ⟨rfl, ⟨_, _, _, _, _, hX, hR⟩, hF⟩)
