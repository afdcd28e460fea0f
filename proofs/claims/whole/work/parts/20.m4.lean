theorem ev_X6_room {g : GD} {r d t b : Nat} {A : ST} {L : List AE} (hM : MR r d t b A L) (hI : Inv r d t b A) : Ev g mX6_room [aR 23] L (MQt L (S_room r d t b A)) := by
  refine Ev.of [some (aR 23), none] (by decide) rfl (Nat.le_of_ble_eq_true rfl) fun Z H0 C X => ?_
  have hN := hI.cn
  have hF : FrM L L := FrM.rf
  refine V.ald_n C dX6_room_0 rfl ?_
  refine V.iconst C (x := 0) dX6_room_1 (by decide) ?_
  refine V.put C fl_RX6_77 dX6_room_2 hM.1 ⟨rfl, rfl⟩ (Nat.le_of_ble_eq_true rfl) (fun h => by cases h) (set_same hM.1) ?_
  refine V.ald_n C dX6_room_5 rfl ?_
  refine V.get C fg_RX6_81 dX6_room_6 hM.1 rfl ?_
  refine V.bipush C (x := 20) dX6_room_9 (by decide) ?_
  refine V.icmpN_ne C (r) (20) (tgt := 17) dX6_room_11 (by decide) (by omega) (by omega) (fun h11 => ?_) (fun h11 => ?_)
  · skip
    refine V.iconst C (x := 0) dX6_room_17 (by decide) ?_
    refine V.ist_n C dX6_room_18 (Nat.le_of_ble_eq_true rfl) rfl ?_
    have key19 : ∀ (n : Nat) (i : Nat) (L1 : List AE), i ≤ 8 → 8 - i < n → MR r d t b (rmA A r i) L1 → FrM L L1 → V g Z H0 2 L1 0 0 19 [some (aR 23), some (aI (nI i))] [] := by
      intro n
      induction n with
      | zero => intro i L1 h1 h2; exact absurd h2 (by omega)
      | succ n ih =>
        intro i L1 h1 h2 hM hF
        refine V.ild_n C dX6_room_19 rfl ?_
        refine V.bipush C (x := 8) dX6_room_20 (by decide) ?_
        refine V.icmpN_ge C (i) (8) (tgt := 62) dX6_room_22 (by decide) (by omega) (by omega) (fun h22 => ?_) (fun h22 => ?_)
        · skip
          obtain rfl : i = 8 := by omega
          refine V.ald_n C dX6_room_62 rfl ?_
          refine V.dup C dX6_room_63 ?_
          refine V.get C fg_RX6_81 dX6_room_64 hM.1 rfl ?_
          refine V.iconst C (x := 1) dX6_room_67 (by decide) ?_
          refine V.iadd C dX6_room_68 ?_
          refine V.top (nI_add r 1) ?_
          refine V.put C fl_RX6_81 dX6_room_69 hM.1 ⟨rfl, rfl⟩ (Nat.le_of_ble_eq_true rfl) (fun h => by cases h) rfl ?_
          have hM2 := hM.fs (r + 1) d t b
          refine V.ald_n C dX6_room_72 rfl ?_
          refine V.get C fg_RX6_81 dX6_room_73 hM2.1 rfl ?_
          refine V.iconst C (x := 1) dX6_room_76 (by decide) ?_
          refine V.isub C dX6_room_77 ?_
          refine V.top (show nI (r + 1) - 1 = nI r from nI_pred r) ?_
          exact V.iret X dX6_room_78 rfl (by decide) (by decide) (by unfold S_room; rw [cI_f h11]; exact ⟨rfl, hM2, hF.st (by decide)⟩)
        · skip
          refine V.ald_n C dX6_room_25 rfl ?_
          refine V.get C fg_RX6_7 dX6_room_26 hM.1 rfl ?_
          refine V.bipush C (x := 8) dX6_room_29 (by decide) ?_
          refine V.ald_n C dX6_room_31 rfl ?_
          refine V.get C fg_RX6_81 dX6_room_32 hM.1 rfl ?_
          refine V.imul C dX6_room_35 ?_
          refine V.top (pk_mul 8 r) ?_
          refine V.ild_n C dX6_room_36 rfl ?_
          refine V.iadd C dX6_room_37 ?_
          refine V.top (nI_add (8 * r) i) ?_
          refine V.iconst C (x := -1) dX6_room_38 (by decide) ?_
          refine V.iastM C hM hF 2 (N := 160) (by decide) rfl rfl rfl (by decide) dX6_room_39 (by omega) (fun L hM hF => ?_)
          refine V.ald_n C dX6_room_40 rfl ?_
          refine V.get C fg_RX6_13 dX6_room_41 hM.1 rfl ?_
          refine V.bipush C (x := 8) dX6_room_44 (by decide) ?_
          refine V.ald_n C dX6_room_46 rfl ?_
          refine V.get C fg_RX6_81 dX6_room_47 hM.1 rfl ?_
          refine V.imul C dX6_room_50 ?_
          refine V.top (pk_mul 8 r) ?_
          refine V.ild_n C dX6_room_51 rfl ?_
          refine V.iadd C dX6_room_52 ?_
          refine V.top (nI_add (8 * r) i) ?_
          refine V.bipush C (x := 9) dX6_room_53 (by decide) ?_
          refine V.iastM C hM hF 3 (N := 160) (by decide) rfl rfl rfl (by decide) dX6_room_55 (by omega) (fun L hM hF => ?_)
          refine V.iinc C (y := nI (i + 1)) dX6_room_56 rfl (nI_1 i) rfl ?_
          refine V.goto C (tgt := 19) dX6_room_59 (by decide) ?_
          exact ih (i + 1) _ (by omega) (by omega) (by rw [← rmA_s]; exact hM) hF
    exact key19 9 0 L (by omega) (by omega) (by rw [rmA_0]; exact hM) hF
  · skip
    refine V.bipush C (x := -2) dX6_room_14 (by decide) ?_
    exact V.iret X dX6_room_16 rfl (by decide) (by decide) (by unfold S_room; rw [cI_t h11]; exact ⟨rfl, hM, hF⟩)
theorem ev_X6_door {g : GD} {r d t b : Nat} {A : ST} {L : List AE} (hM : MR r d t b A L) (hI : Inv r d t b A) (x y : Int32) : Ev g mX6_door [aR 23, aI x, aI y] L (MQt L (S_door r d t b A x y)) := by
  refine Ev.of [some (aR 23), some (aI x), some (aI y)] (by decide) rfl (Nat.le_of_ble_eq_true rfl) fun Z H0 C X => ?_
  have hN := hI.cn
  have hF : FrM L L := FrM.rf
  rcases isN_cases x r (by omega) with ⟨i, hi, rfl⟩ | hi
  · skip
    refine V.ald_n C dX6_door_0 rfl ?_
    refine V.iconst C (x := 0) dX6_door_1 (by decide) ?_
    refine V.put C fl_RX6_77 dX6_door_2 hM.1 ⟨rfl, rfl⟩ (Nat.le_of_ble_eq_true rfl) (fun h => by cases h) (set_same hM.1) ?_
    refine V.ald_n C dX6_door_5 rfl ?_
    refine V.ild_n C dX6_door_6 rfl ?_
    refine V.callVp C mo_X6_isRoom im_X6_isRoom se_X6_isRoom ml_RX6_97 (ev_X6_isRoom hM hI _) dX6_door_7 rfl rfl hM.1 rfl rfl (Nat.le_of_ble_eq_true rfl) (RmOk.mk' (by decide) (by decide) (by decide) (by decide)) ⟨rfl, rfl⟩ ?_
    refine V.ifb_eq C (tgt := 31) dX6_door_10 (by decide) (fun h10 => absurd (isN_nI (show i < r by omega) (by omega)) h10) (fun h10 => ?_)
    refine V.ild_n C dX6_door_13 rfl ?_
    refine V.iconst C (x := -1) dX6_door_14 (by decide) ?_
    refine V.icmp_eq C (tgt := 26) dX6_door_15 (by decide) (fun h15 => ?_) (fun h15 => ?_)
    · skip
      refine V.ild_n C dX6_door_26 rfl ?_
      refine V.ild_n C dX6_door_27 rfl ?_
      refine V.icmp_ne C (tgt := 33) dX6_door_28 (by decide) (fun h28 => ?_) (fun h28 => ?_)
      · skip
        refine V.ald_n C dX6_door_33 rfl ?_
        refine V.get C fg_RX6_88 dX6_door_34 hM.1 rfl ?_
        refine V.bipush C (x := 15) dX6_door_37 (by decide) ?_
        refine V.icmpN_ne C (d) (15) (tgt := 45) dX6_door_39 (by decide) (by omega) (by omega) (fun h39 => ?_) (fun h39 => ?_)
        · skip
          refine V.ald_n C dX6_door_45 rfl ?_
          refine V.get C fg_RX6_16 dX6_door_46 hM.1 rfl ?_
          refine V.ald_n C dX6_door_49 rfl ?_
          refine V.get C fg_RX6_88 dX6_door_50 hM.1 rfl ?_
          refine V.ild_n C dX6_door_53 rfl ?_
          refine V.iastM C hM hF 5 (N := 15) (by decide) rfl rfl rfl (by decide) dX6_door_54 (by omega) (fun L hM hF => ?_)
          refine V.ald_n C dX6_door_55 rfl ?_
          refine V.get C fg_RX6_19 dX6_door_56 hM.1 rfl ?_
          refine V.ald_n C dX6_door_59 rfl ?_
          refine V.get C fg_RX6_88 dX6_door_60 hM.1 rfl ?_
          refine V.ild_n C dX6_door_63 rfl ?_
          refine V.iastM C hM hF 6 (N := 15) (by decide) rfl rfl rfl (by decide) dX6_door_64 (by omega) (fun L hM hF => ?_)
          refine V.ald_n C dX6_door_65 rfl ?_
          refine V.get C fg_RX6_22 dX6_door_66 hM.1 rfl ?_
          refine V.ald_n C dX6_door_69 rfl ?_
          refine V.get C fg_RX6_88 dX6_door_70 hM.1 rfl ?_
          refine V.iconst C (x := -1) dX6_door_73 (by decide) ?_
          refine V.iastM C hM hF 7 (N := 15) (by decide) rfl rfl rfl (by decide) dX6_door_74 (by omega) (fun L hM hF => ?_)
          refine V.ald_n C dX6_door_75 rfl ?_
          refine V.dup C dX6_door_76 ?_
          refine V.get C fg_RX6_88 dX6_door_77 hM.1 rfl ?_
          refine V.iconst C (x := 1) dX6_door_80 (by decide) ?_
          refine V.iadd C dX6_door_81 ?_
          refine V.top (nI_add d 1) ?_
          refine V.put C fl_RX6_88 dX6_door_82 hM.1 ⟨rfl, rfl⟩ (Nat.le_of_ble_eq_true rfl) (fun h => by cases h) rfl ?_
          have hM2 := hM.fs r (d + 1) t b
          refine V.ald_n C dX6_door_85 rfl ?_
          refine V.get C fg_RX6_88 dX6_door_86 hM2.1 rfl ?_
          refine V.iconst C (x := 1) dX6_door_89 (by decide) ?_
          refine V.isub C dX6_door_90 ?_
          refine V.top (show nI (d + 1) - 1 = nI d from nI_pred d) ?_
          exact V.iret X dX6_door_91 rfl (by decide) (by decide) (by unfold S_door; rw [ok1_t hi (by omega), cI_t ⟨Or.inl h15, h28⟩, cI_f h39]; exact ⟨rfl, hM2, hF.st (by decide)⟩)
        · skip
          refine V.bipush C (x := -2) dX6_door_42 (by decide) ?_
          exact V.iret X dX6_door_44 rfl (by decide) (by decide) (by unfold S_door; rw [ok1_t hi (by omega), cI_t ⟨Or.inl h15, h28⟩, cI_t h39]; exact ⟨rfl, hM, hF⟩)
      · skip
        refine V.iconst C (x := -1) dX6_door_31 (by decide) ?_
        exact V.iret X dX6_door_32 rfl (by decide) (by decide) (by unfold S_door; rw [ok1_t hi (by omega), cI_f (fun q => q.2 h28)]; exact ⟨rfl, hM, hF⟩)
    · skip
      refine V.ald_n C dX6_door_18 rfl ?_
      refine V.ild_n C dX6_door_19 rfl ?_
      refine V.callVp C mo_X6_isRoom im_X6_isRoom se_X6_isRoom ml_RX6_97 (ev_X6_isRoom hM hI _) dX6_door_20 rfl rfl hM.1 rfl rfl (Nat.le_of_ble_eq_true rfl) (RmOk.mk' (by decide) (by decide) (by decide) (by decide)) ⟨rfl, rfl⟩ ?_
      refine V.ifb_eq C (tgt := 31) dX6_door_23 (by decide) (fun h23 => ?_) (fun h23 => ?_)
      · skip
        refine V.iconst C (x := -1) dX6_door_31 (by decide) ?_
        exact V.iret X dX6_door_32 rfl (by decide) (by decide) (by unfold S_door; rw [ok1_t hi (by omega), cI_f (fun q => q.1.elim h15 h23)]; exact ⟨rfl, hM, hF⟩)
      · skip
        refine V.ild_n C dX6_door_26 rfl ?_
        refine V.ild_n C dX6_door_27 rfl ?_
        refine V.icmp_ne C (tgt := 33) dX6_door_28 (by decide) (fun h28 => ?_) (fun h28 => ?_)
        · skip
          refine V.ald_n C dX6_door_33 rfl ?_
          refine V.get C fg_RX6_88 dX6_door_34 hM.1 rfl ?_
          refine V.bipush C (x := 15) dX6_door_37 (by decide) ?_
          refine V.icmpN_ne C (d) (15) (tgt := 45) dX6_door_39 (by decide) (by omega) (by omega) (fun h39 => ?_) (fun h39 => ?_)
          · skip
            refine V.ald_n C dX6_door_45 rfl ?_
            refine V.get C fg_RX6_16 dX6_door_46 hM.1 rfl ?_
            refine V.ald_n C dX6_door_49 rfl ?_
            refine V.get C fg_RX6_88 dX6_door_50 hM.1 rfl ?_
            refine V.ild_n C dX6_door_53 rfl ?_
            refine V.iastM C hM hF 5 (N := 15) (by decide) rfl rfl rfl (by decide) dX6_door_54 (by omega) (fun L hM hF => ?_)
            refine V.ald_n C dX6_door_55 rfl ?_
            refine V.get C fg_RX6_19 dX6_door_56 hM.1 rfl ?_
            refine V.ald_n C dX6_door_59 rfl ?_
            refine V.get C fg_RX6_88 dX6_door_60 hM.1 rfl ?_
            refine V.ild_n C dX6_door_63 rfl ?_
            refine V.iastM C hM hF 6 (N := 15) (by decide) rfl rfl rfl (by decide) dX6_door_64 (by omega) (fun L hM hF => ?_)
            refine V.ald_n C dX6_door_65 rfl ?_
            refine V.get C fg_RX6_22 dX6_door_66 hM.1 rfl ?_
            refine V.ald_n C dX6_door_69 rfl ?_
            refine V.get C fg_RX6_88 dX6_door_70 hM.1 rfl ?_
            refine V.iconst C (x := -1) dX6_door_73 (by decide) ?_
            refine V.iastM C hM hF 7 (N := 15) (by decide) rfl rfl rfl (by decide) dX6_door_74 (by omega) (fun L hM hF => ?_)
            refine V.ald_n C dX6_door_75 rfl ?_
            refine V.dup C dX6_door_76 ?_
            refine V.get C fg_RX6_88 dX6_door_77 hM.1 rfl ?_
            refine V.iconst C (x := 1) dX6_door_80 (by decide) ?_
            refine V.iadd C dX6_door_81 ?_
            refine V.top (nI_add d 1) ?_
            refine V.put C fl_RX6_88 dX6_door_82 hM.1 ⟨rfl, rfl⟩ (Nat.le_of_ble_eq_true rfl) (fun h => by cases h) rfl ?_
            have hM2 := hM.fs r (d + 1) t b
            refine V.ald_n C dX6_door_85 rfl ?_
            refine V.get C fg_RX6_88 dX6_door_86 hM2.1 rfl ?_
            refine V.iconst C (x := 1) dX6_door_89 (by decide) ?_
            refine V.isub C dX6_door_90 ?_
            refine V.top (show nI (d + 1) - 1 = nI d from nI_pred d) ?_
            exact V.iret X dX6_door_91 rfl (by decide) (by decide) (by unfold S_door; rw [ok1_t hi (by omega), cI_t ⟨Or.inr h23, h28⟩, cI_f h39]; exact ⟨rfl, hM2, hF.st (by decide)⟩)
          · skip
            refine V.bipush C (x := -2) dX6_door_42 (by decide) ?_
            exact V.iret X dX6_door_44 rfl (by decide) (by decide) (by unfold S_door; rw [ok1_t hi (by omega), cI_t ⟨Or.inr h23, h28⟩, cI_t h39]; exact ⟨rfl, hM, hF⟩)
        · skip
          refine V.iconst C (x := -1) dX6_door_31 (by decide) ?_
          exact V.iret X dX6_door_32 rfl (by decide) (by decide) (by unfold S_door; rw [ok1_t hi (by omega), cI_f (fun q => q.2 h28)]; exact ⟨rfl, hM, hF⟩)
  · skip
    refine V.ald_n C dX6_door_0 rfl ?_
    refine V.iconst C (x := 0) dX6_door_1 (by decide) ?_
    refine V.put C fl_RX6_77 dX6_door_2 hM.1 ⟨rfl, rfl⟩ (Nat.le_of_ble_eq_true rfl) (fun h => by cases h) (set_same hM.1) ?_
    refine V.ald_n C dX6_door_5 rfl ?_
    refine V.ild_n C dX6_door_6 rfl ?_
    refine V.callVp C mo_X6_isRoom im_X6_isRoom se_X6_isRoom ml_RX6_97 (ev_X6_isRoom hM hI _) dX6_door_7 rfl rfl hM.1 rfl rfl (Nat.le_of_ble_eq_true rfl) (RmOk.mk' (by decide) (by decide) (by decide) (by decide)) ⟨rfl, rfl⟩ ?_
    refine V.ifb_eq C (tgt := 31) dX6_door_10 (by decide) (fun h10 => ?_) (fun h10 => absurd h10 hi)
    refine V.iconst C (x := -1) dX6_door_31 (by decide) ?_
    exact V.iret X dX6_door_32 rfl (by decide) (by decide) (by unfold S_door; rw [ok1_f hi]; exact ⟨rfl, hM, hF⟩)
theorem ev_X6_exit {g : GD} {r d t b : Nat} {A : ST} {L : List AE} (hM : MR r d t b A L) (hI : Inv r d t b A) (x y w : Int32) : Ev g mX6_exit [aR 23, aI x, aI y, aI w] L (MQt L (S_exit r d t b A x y w)) := by
  refine Ev.of [some (aR 23), some (aI x), some (aI y), some (aI w), none] (by decide) rfl (Nat.le_of_ble_eq_true rfl) fun Z H0 C X => ?_
  have hN := hI.cn
  have hF : FrM L L := FrM.rf
  rcases isN_cases x r (by omega) with ⟨i, hi, rfl⟩ | hi
  · skip
    rcases isN_cases y 8 (by omega) with ⟨j, hj, rfl⟩ | hj
    · skip
      refine V.ald_n C dX6_exit_0 rfl ?_
      refine V.iconst C (x := 0) dX6_exit_1 (by decide) ?_
      refine V.put C fl_RX6_77 dX6_exit_2 hM.1 ⟨rfl, rfl⟩ (Nat.le_of_ble_eq_true rfl) (fun h => by cases h) (set_same hM.1) ?_
      refine V.ald_n C dX6_exit_5 rfl ?_
      refine V.ild_n C dX6_exit_6 rfl ?_
      refine V.callVp C mo_X6_isRoom im_X6_isRoom se_X6_isRoom ml_RX6_97 (ev_X6_isRoom hM hI _) dX6_exit_7 rfl rfl hM.1 rfl rfl (Nat.le_of_ble_eq_true rfl) (RmOk.mk' (by decide) (by decide) (by decide) (by decide)) ⟨rfl, rfl⟩ ?_
      refine V.ifb_eq C (tgt := 32) dX6_exit_10 (by decide) (fun h10 => absurd (isN_nI (show i < r by omega) (by omega)) h10) (fun h10 => ?_)
      refine V.ild_n C dX6_exit_13 rfl ?_
      refine V.iconst C (x := 0) dX6_exit_14 (by decide) ?_
      refine V.bipush C (x := 7) dX6_exit_15 (by decide) ?_
      refine V.callSp C mo_X6_in sm_X6_in ml_RX6_84 (ev_X6_in0 _ 8 (by decide)) dX6_exit_17 rfl rfl (Nat.le_of_ble_eq_true rfl) (RmOk.mk' (by decide) (by decide) (by decide) (by decide)) ⟨rfl, rfl⟩ ?_
      refine V.ifb_eq C (tgt := 32) dX6_exit_20 (by decide) (fun h20 => absurd (isN_nI (show j < 8 by omega) (by omega)) h20) (fun h20 => ?_)
      refine V.ald_n C dX6_exit_23 rfl ?_
      refine V.ild_n C dX6_exit_24 rfl ?_
      refine V.ild_n C dX6_exit_25 rfl ?_
      refine V.callVp C mo_X6_mayBe im_X6_mayBe se_X6_mayBe ml_RX6_108 (ev_X6_mayBe hM hI (by omega) _) dX6_exit_26 rfl rfl hM.1 rfl rfl (Nat.le_of_ble_eq_true rfl) (RmOk.mk' (by decide) (by decide) (by decide) (by decide)) ⟨rfl, rfl⟩ ?_
      refine V.ifb_ne C (tgt := 34) dX6_exit_29 (by decide) (fun h29 => ?_) (fun h29 => ?_)
      · skip
        refine V.ald_n C dX6_exit_34 rfl ?_
        refine V.get C fg_RX6_7 dX6_exit_35 hM.1 rfl ?_
        refine V.bipush C (x := 8) dX6_exit_38 (by decide) ?_
        refine V.ild_n C dX6_exit_40 rfl ?_
        refine V.imul C dX6_exit_41 ?_
        refine V.top (pk_mul 8 i) ?_
        refine V.ild_n C dX6_exit_42 rfl ?_
        refine V.iadd C dX6_exit_43 ?_
        refine V.top (nI_add (8 * i) j) ?_
        refine V.ialdN C (N := 160) dX6_exit_44 (hM.2 2 (by decide)) (by omega) (by decide) ?_
        refine V.ist C dX6_exit_45 (Nat.le_of_ble_eq_true rfl) rfl ?_
        refine V.ald_n C dX6_exit_47 rfl ?_
        refine V.get C fg_RX6_7 dX6_exit_48 hM.1 rfl ?_
        refine V.bipush C (x := 8) dX6_exit_51 (by decide) ?_
        refine V.ild_n C dX6_exit_53 rfl ?_
        refine V.imul C dX6_exit_54 ?_
        refine V.top (pk_mul 8 i) ?_
        refine V.ild_n C dX6_exit_55 rfl ?_
        refine V.iadd C dX6_exit_56 ?_
        refine V.top (nI_add (8 * i) j) ?_
        refine V.ild_n C dX6_exit_57 rfl ?_
        refine V.iastM C hM hF 2 (N := 160) (by decide) rfl rfl rfl (by decide) dX6_exit_58 (by omega) (fun L hM hF => ?_)
        refine V.ild C dX6_exit_59 rfl ?_
        exact V.iret X dX6_exit_61 rfl (by decide) (by decide) (by unfold S_exit; rw [ok1_t hi (by omega), ok1_t hj (by omega), cI_t h29]; exact ⟨rfl, hM, hF⟩)
      · skip
        refine V.iconst C (x := -1) dX6_exit_32 (by decide) ?_
        exact V.iret X dX6_exit_33 rfl (by decide) (by decide) (by unfold S_exit; rw [ok1_t hi (by omega), ok1_t hj (by omega), cI_f h29]; exact ⟨rfl, hM, hF⟩)
    · skip
      refine V.ald_n C dX6_exit_0 rfl ?_
      refine V.iconst C (x := 0) dX6_exit_1 (by decide) ?_
      refine V.put C fl_RX6_77 dX6_exit_2 hM.1 ⟨rfl, rfl⟩ (Nat.le_of_ble_eq_true rfl) (fun h => by cases h) (set_same hM.1) ?_
      refine V.ald_n C dX6_exit_5 rfl ?_
      refine V.ild_n C dX6_exit_6 rfl ?_
      refine V.callVp C mo_X6_isRoom im_X6_isRoom se_X6_isRoom ml_RX6_97 (ev_X6_isRoom hM hI _) dX6_exit_7 rfl rfl hM.1 rfl rfl (Nat.le_of_ble_eq_true rfl) (RmOk.mk' (by decide) (by decide) (by decide) (by decide)) ⟨rfl, rfl⟩ ?_
      refine V.ifb_eq C (tgt := 32) dX6_exit_10 (by decide) (fun h10 => absurd (isN_nI (show i < r by omega) (by omega)) h10) (fun h10 => ?_)
      refine V.ild_n C dX6_exit_13 rfl ?_
      refine V.iconst C (x := 0) dX6_exit_14 (by decide) ?_
      refine V.bipush C (x := 7) dX6_exit_15 (by decide) ?_
      refine V.callSp C mo_X6_in sm_X6_in ml_RX6_84 (ev_X6_in0 _ 8 (by decide)) dX6_exit_17 rfl rfl (Nat.le_of_ble_eq_true rfl) (RmOk.mk' (by decide) (by decide) (by decide) (by decide)) ⟨rfl, rfl⟩ ?_
      refine V.ifb_eq C (tgt := 32) dX6_exit_20 (by decide) (fun h20 => ?_) (fun h20 => absurd h20 hj)
      refine V.iconst C (x := -1) dX6_exit_32 (by decide) ?_
      exact V.iret X dX6_exit_33 rfl (by decide) (by decide) (by unfold S_exit; rw [ok1_t hi (by omega), ok1_f hj]; exact ⟨rfl, hM, hF⟩)
  · skip
    refine V.ald_n C dX6_exit_0 rfl ?_
    refine V.iconst C (x := 0) dX6_exit_1 (by decide) ?_
    refine V.put C fl_RX6_77 dX6_exit_2 hM.1 ⟨rfl, rfl⟩ (Nat.le_of_ble_eq_true rfl) (fun h => by cases h) (set_same hM.1) ?_
    refine V.ald_n C dX6_exit_5 rfl ?_
    refine V.ild_n C dX6_exit_6 rfl ?_
    refine V.callVp C mo_X6_isRoom im_X6_isRoom se_X6_isRoom ml_RX6_97 (ev_X6_isRoom hM hI _) dX6_exit_7 rfl rfl hM.1 rfl rfl (Nat.le_of_ble_eq_true rfl) (RmOk.mk' (by decide) (by decide) (by decide) (by decide)) ⟨rfl, rfl⟩ ?_
    refine V.ifb_eq C (tgt := 32) dX6_exit_10 (by decide) (fun h10 => ?_) (fun h10 => absurd h10 hi)
    refine V.iconst C (x := -1) dX6_exit_32 (by decide) ?_
    exact V.iret X dX6_exit_33 rfl (by decide) (by decide) (by unfold S_exit; rw [ok1_f hi]; exact ⟨rfl, hM, hF⟩)
theorem ev_X6_width {g : GD} {r d t b : Nat} {A : ST} {L : List AE} (hM : MR r d t b A L) (hI : Inv r d t b A) (x y w : Int32) : Ev g mX6_width [aR 23, aI x, aI y, aI w] L (MQt L (S_width r d t b A x y w)) := by
  refine Ev.of [some (aR 23), some (aI x), some (aI y), some (aI w), none] (by decide) rfl (Nat.le_of_ble_eq_true rfl) fun Z H0 C X => ?_
  have hN := hI.cn
  have hF : FrM L L := FrM.rf
  rcases isN_cases x r (by omega) with ⟨i, hi, rfl⟩ | hi
  · skip
    rcases isN_cases y 8 (by omega) with ⟨j, hj, rfl⟩ | hj
    · skip
      refine V.ald_n C dX6_width_0 rfl ?_
      refine V.iconst C (x := 0) dX6_width_1 (by decide) ?_
      refine V.put C fl_RX6_77 dX6_width_2 hM.1 ⟨rfl, rfl⟩ (Nat.le_of_ble_eq_true rfl) (fun h => by cases h) (set_same hM.1) ?_
      refine V.ald_n C dX6_width_5 rfl ?_
      refine V.ild_n C dX6_width_6 rfl ?_
      refine V.callVp C mo_X6_isRoom im_X6_isRoom se_X6_isRoom ml_RX6_97 (ev_X6_isRoom hM hI _) dX6_width_7 rfl rfl hM.1 rfl rfl (Nat.le_of_ble_eq_true rfl) (RmOk.mk' (by decide) (by decide) (by decide) (by decide)) ⟨rfl, rfl⟩ ?_
      refine V.ifb_eq C (tgt := 33) dX6_width_10 (by decide) (fun h10 => absurd (isN_nI (show i < r by omega) (by omega)) h10) (fun h10 => ?_)
      refine V.ild_n C dX6_width_13 rfl ?_
      refine V.iconst C (x := 0) dX6_width_14 (by decide) ?_
      refine V.bipush C (x := 7) dX6_width_15 (by decide) ?_
      refine V.callSp C mo_X6_in sm_X6_in ml_RX6_84 (ev_X6_in0 _ 8 (by decide)) dX6_width_17 rfl rfl (Nat.le_of_ble_eq_true rfl) (RmOk.mk' (by decide) (by decide) (by decide) (by decide)) ⟨rfl, rfl⟩ ?_
      refine V.ifb_eq C (tgt := 33) dX6_width_20 (by decide) (fun h20 => absurd (isN_nI (show j < 8 by omega) (by omega)) h20) (fun h20 => ?_)
      refine V.ild_n C dX6_width_23 rfl ?_
      refine V.iconst C (x := 1) dX6_width_24 (by decide) ?_
      refine V.bipush C (x := 9) dX6_width_25 (by decide) ?_
      refine V.callSp C mo_X6_in sm_X6_in ml_RX6_84 (ev_X6_in _ _ _) dX6_width_27 rfl rfl (Nat.le_of_ble_eq_true rfl) (RmOk.mk' (by decide) (by decide) (by decide) (by decide)) ⟨rfl, rfl⟩ ?_
      refine V.ifb_ne C (tgt := 35) dX6_width_30 (by decide) (fun h30 => ?_) (fun h30 => ?_)
      · skip
        refine V.ald_n C dX6_width_35 rfl ?_
        refine V.get C fg_RX6_13 dX6_width_36 hM.1 rfl ?_
        refine V.bipush C (x := 8) dX6_width_39 (by decide) ?_
        refine V.ild_n C dX6_width_41 rfl ?_
        refine V.imul C dX6_width_42 ?_
        refine V.top (pk_mul 8 i) ?_
        refine V.ild_n C dX6_width_43 rfl ?_
        refine V.iadd C dX6_width_44 ?_
        refine V.top (nI_add (8 * i) j) ?_
        refine V.ialdN C (N := 160) dX6_width_45 (hM.2 3 (by decide)) (by omega) (by decide) ?_
        refine V.ist C dX6_width_46 (Nat.le_of_ble_eq_true rfl) rfl ?_
        refine V.ald_n C dX6_width_48 rfl ?_
        refine V.get C fg_RX6_13 dX6_width_49 hM.1 rfl ?_
        refine V.bipush C (x := 8) dX6_width_52 (by decide) ?_
        refine V.ild_n C dX6_width_54 rfl ?_
        refine V.imul C dX6_width_55 ?_
        refine V.top (pk_mul 8 i) ?_
        refine V.ild_n C dX6_width_56 rfl ?_
        refine V.iadd C dX6_width_57 ?_
        refine V.top (nI_add (8 * i) j) ?_
        refine V.ild_n C dX6_width_58 rfl ?_
        refine V.iastM C hM hF 3 (N := 160) (by decide) rfl rfl rfl (by decide) dX6_width_59 (by omega) (fun L hM hF => ?_)
        refine V.ild C dX6_width_60 rfl ?_
        exact V.iret X dX6_width_62 rfl (by decide) (by decide) (by unfold S_width; rw [ok1_t hi (by omega), ok1_t hj (by omega), cI_t h30]; exact ⟨rfl, hM, hF⟩)
      · skip
        refine V.iconst C (x := -1) dX6_width_33 (by decide) ?_
        exact V.iret X dX6_width_34 rfl (by decide) (by decide) (by unfold S_width; rw [ok1_t hi (by omega), ok1_t hj (by omega), cI_f h30]; exact ⟨rfl, hM, hF⟩)
    · skip
      refine V.ald_n C dX6_width_0 rfl ?_
      refine V.iconst C (x := 0) dX6_width_1 (by decide) ?_
      refine V.put C fl_RX6_77 dX6_width_2 hM.1 ⟨rfl, rfl⟩ (Nat.le_of_ble_eq_true rfl) (fun h => by cases h) (set_same hM.1) ?_
      refine V.ald_n C dX6_width_5 rfl ?_
      refine V.ild_n C dX6_width_6 rfl ?_
      refine V.callVp C mo_X6_isRoom im_X6_isRoom se_X6_isRoom ml_RX6_97 (ev_X6_isRoom hM hI _) dX6_width_7 rfl rfl hM.1 rfl rfl (Nat.le_of_ble_eq_true rfl) (RmOk.mk' (by decide) (by decide) (by decide) (by decide)) ⟨rfl, rfl⟩ ?_
      refine V.ifb_eq C (tgt := 33) dX6_width_10 (by decide) (fun h10 => absurd (isN_nI (show i < r by omega) (by omega)) h10) (fun h10 => ?_)
      refine V.ild_n C dX6_width_13 rfl ?_
      refine V.iconst C (x := 0) dX6_width_14 (by decide) ?_
      refine V.bipush C (x := 7) dX6_width_15 (by decide) ?_
      refine V.callSp C mo_X6_in sm_X6_in ml_RX6_84 (ev_X6_in0 _ 8 (by decide)) dX6_width_17 rfl rfl (Nat.le_of_ble_eq_true rfl) (RmOk.mk' (by decide) (by decide) (by decide) (by decide)) ⟨rfl, rfl⟩ ?_
      refine V.ifb_eq C (tgt := 33) dX6_width_20 (by decide) (fun h20 => ?_) (fun h20 => absurd h20 hj)
      refine V.iconst C (x := -1) dX6_width_33 (by decide) ?_
      exact V.iret X dX6_width_34 rfl (by decide) (by decide) (by unfold S_width; rw [ok1_t hi (by omega), ok1_f hj]; exact ⟨rfl, hM, hF⟩)
  · skip
    refine V.ald_n C dX6_width_0 rfl ?_
    refine V.iconst C (x := 0) dX6_width_1 (by decide) ?_
    refine V.put C fl_RX6_77 dX6_width_2 hM.1 ⟨rfl, rfl⟩ (Nat.le_of_ble_eq_true rfl) (fun h => by cases h) (set_same hM.1) ?_
    refine V.ald_n C dX6_width_5 rfl ?_
    refine V.ild_n C dX6_width_6 rfl ?_
    refine V.callVp C mo_X6_isRoom im_X6_isRoom se_X6_isRoom ml_RX6_97 (ev_X6_isRoom hM hI _) dX6_width_7 rfl rfl hM.1 rfl rfl (Nat.le_of_ble_eq_true rfl) (RmOk.mk' (by decide) (by decide) (by decide) (by decide)) ⟨rfl, rfl⟩ ?_
    refine V.ifb_eq C (tgt := 33) dX6_width_10 (by decide) (fun h10 => ?_) (fun h10 => absurd h10 hi)
    refine V.iconst C (x := -1) dX6_width_33 (by decide) ?_
    exact V.iret X dX6_width_34 rfl (by decide) (by decide) (by unfold S_width; rw [ok1_f hi]; exact ⟨rfl, hM, hF⟩)
theorem ev_X6_turn {g : GD} {r d t b : Nat} {A : ST} {L : List AE} (hM : MR r d t b A L) (hI : Inv r d t b A) (x y : Int32) : Ev g mX6_turn [aR 23, aI x, aI y] L (MQt L (S_turn r d t b A x y)) := by
  refine Ev.of [some (aR 23), some (aI x), some (aI y)] (by decide) rfl (Nat.le_of_ble_eq_true rfl) fun Z H0 C X => ?_
  have hN := hI.cn
  have hF : FrM L L := FrM.rf
  rcases isN_cases x 5 (by omega) with ⟨i, hi, rfl⟩ | hi
  · skip
    rcases isN_cases y r (by omega) with ⟨j, hj, rfl⟩ | hj
    · skip
      refine V.ald_n C dX6_turn_0 rfl ?_
      refine V.iconst C (x := 0) dX6_turn_1 (by decide) ?_
      refine V.put C fl_RX6_77 dX6_turn_2 hM.1 ⟨rfl, rfl⟩ (Nat.le_of_ble_eq_true rfl) (fun h => by cases h) (set_same hM.1) ?_
      refine V.ild_n C dX6_turn_5 rfl ?_
      refine V.iconst C (x := 0) dX6_turn_6 (by decide) ?_
      refine V.iconst C (x := 4) dX6_turn_7 (by decide) ?_
      refine V.callSp C mo_X6_in sm_X6_in ml_RX6_84 (ev_X6_in0 _ 5 (by decide)) dX6_turn_8 rfl rfl (Nat.le_of_ble_eq_true rfl) (RmOk.mk' (by decide) (by decide) (by decide) (by decide)) ⟨rfl, rfl⟩ ?_
      refine V.ifb_eq C (tgt := 22) dX6_turn_11 (by decide) (fun h11 => absurd (isN_nI (show i < 5 by omega) (by omega)) h11) (fun h11 => ?_)
      refine V.ald_n C dX6_turn_14 rfl ?_
      refine V.ild_n C dX6_turn_15 rfl ?_
      refine V.callVp C mo_X6_isRoom im_X6_isRoom se_X6_isRoom ml_RX6_97 (ev_X6_isRoom hM hI _) dX6_turn_16 rfl rfl hM.1 rfl rfl (Nat.le_of_ble_eq_true rfl) (RmOk.mk' (by decide) (by decide) (by decide) (by decide)) ⟨rfl, rfl⟩ ?_
      refine V.ifb_ne C (tgt := 24) dX6_turn_19 (by decide) (fun h19 => ?_) (fun h19 => absurd (isN_nI (show j < r by omega) (by omega)) h19)
      obtain ⟨m, q, hm, e1, e2, hq, hx⟩ := hI.cr hi
      refine V.ald_n C dX6_turn_24 rfl ?_
      refine V.get C fg_RX6_65 dX6_turn_25 hM.1 rfl ?_
      refine V.ild_n C dX6_turn_28 rfl ?_
      refine V.ialdN C (N := 5) dX6_turn_29 (hM.2 23 (by decide)) (by omega) (by decide) ?_
      refine V.top e1 ?_
      refine V.iconst C (x := 4) dX6_turn_30 (by decide) ?_
      refine V.icmpN_ne C (m) (4) (tgt := 37) dX6_turn_31 (by decide) (by omega) (by omega) (fun h31 => ?_) (fun h31 => ?_)
      · skip
        refine V.ald_n C dX6_turn_37 rfl ?_
        refine V.get C fg_RX6_62 dX6_turn_38 hM.1 rfl ?_
        refine V.iconst C (x := 4) dX6_turn_41 (by decide) ?_
        refine V.ild_n C dX6_turn_42 rfl ?_
        refine V.imul C dX6_turn_43 ?_
        refine V.top (pk_mul 4 i) ?_
        refine V.ald_n C dX6_turn_44 rfl ?_
        refine V.get C fg_RX6_65 dX6_turn_45 hM.1 rfl ?_
        refine V.ild_n C dX6_turn_48 rfl ?_
        refine V.ialdN C (N := 5) dX6_turn_49 (hM.2 23 (by decide)) (by omega) (by decide) ?_
        refine V.top e1 ?_
        refine V.iadd C dX6_turn_50 ?_
        refine V.top (nI_add (4 * i) m) ?_
        refine V.ild_n C dX6_turn_51 rfl ?_
        refine V.iastM C hM hF 22 (N := 20) (by decide) rfl rfl rfl (by decide) dX6_turn_52 (by omega) (fun L hM hF => ?_)
        refine V.ald_n C dX6_turn_53 rfl ?_
        refine V.get C fg_RX6_65 dX6_turn_54 hM.1 rfl ?_
        refine V.ild_n C dX6_turn_57 rfl ?_
        refine V.dup2 C dX6_turn_58 ?_
        refine V.ialdN C (N := 5) dX6_turn_59 (hM.2 23 (by decide)) (by omega) (by decide) ?_
        refine V.top (show up2 A 22 (4 * i + m) (nI j) 23 i = nI m from (by rw [up2_n (by decide)]; exact e1)) ?_
        refine V.iconst C (x := 1) dX6_turn_60 (by decide) ?_
        refine V.iadd C dX6_turn_61 ?_
        refine V.top (nI_add m 1) ?_
        refine V.iastM C hM hF 23 (N := 5) (by decide) rfl rfl rfl (by decide) dX6_turn_62 (by omega) (fun L hM hF => ?_)
        refine V.ald_n C dX6_turn_63 rfl ?_
        refine V.get C fg_RX6_65 dX6_turn_64 hM.1 rfl ?_
        refine V.ild_n C dX6_turn_67 rfl ?_
        refine V.ialdN C (N := 5) dX6_turn_68 (hM.2 23 (by decide)) (by omega) (by decide) ?_
        refine V.top (show up2 (up2 A 22 (4 * i + m) (nI j)) 23 i (nI (m + 1)) 23 i = nI (m + 1) from (by rw [up2_s]; exact pk_us)) ?_
        exact V.iret X dX6_turn_69 rfl (by decide) (by decide) (by unfold S_turn; rw [ok1_t hi (by omega), ok1_t hj (by omega), e1, cI_f (show ¬ nI m = 4 from fun q => h31 (nI_inj (b := 4) (by omega) (by omega) q)), nI_clamp (show m < 2 ^ 31 by omega), nI_1 m]; exact ⟨rfl, hM, hF⟩)
      · skip
        refine V.bipush C (x := -2) dX6_turn_34 (by decide) ?_
        exact V.iret X dX6_turn_36 rfl (by decide) (by decide) (by unfold S_turn; rw [ok1_t hi (by omega), ok1_t hj (by omega), e1, cI_t (by rw [h31]; rfl)]; exact ⟨rfl, hM, hF⟩)
    · skip
      refine V.ald_n C dX6_turn_0 rfl ?_
      refine V.iconst C (x := 0) dX6_turn_1 (by decide) ?_
      refine V.put C fl_RX6_77 dX6_turn_2 hM.1 ⟨rfl, rfl⟩ (Nat.le_of_ble_eq_true rfl) (fun h => by cases h) (set_same hM.1) ?_
      refine V.ild_n C dX6_turn_5 rfl ?_
      refine V.iconst C (x := 0) dX6_turn_6 (by decide) ?_
      refine V.iconst C (x := 4) dX6_turn_7 (by decide) ?_
      refine V.callSp C mo_X6_in sm_X6_in ml_RX6_84 (ev_X6_in0 _ 5 (by decide)) dX6_turn_8 rfl rfl (Nat.le_of_ble_eq_true rfl) (RmOk.mk' (by decide) (by decide) (by decide) (by decide)) ⟨rfl, rfl⟩ ?_
      refine V.ifb_eq C (tgt := 22) dX6_turn_11 (by decide) (fun h11 => absurd (isN_nI (show i < 5 by omega) (by omega)) h11) (fun h11 => ?_)
      refine V.ald_n C dX6_turn_14 rfl ?_
      refine V.ild_n C dX6_turn_15 rfl ?_
      refine V.callVp C mo_X6_isRoom im_X6_isRoom se_X6_isRoom ml_RX6_97 (ev_X6_isRoom hM hI _) dX6_turn_16 rfl rfl hM.1 rfl rfl (Nat.le_of_ble_eq_true rfl) (RmOk.mk' (by decide) (by decide) (by decide) (by decide)) ⟨rfl, rfl⟩ ?_
      refine V.ifb_ne C (tgt := 24) dX6_turn_19 (by decide) (fun h19 => absurd h19 hj) (fun h19 => ?_)
      refine V.iconst C (x := -1) dX6_turn_22 (by decide) ?_
      exact V.iret X dX6_turn_23 rfl (by decide) (by decide) (by unfold S_turn; rw [ok1_t hi (by omega), ok1_f hj]; exact ⟨rfl, hM, hF⟩)
  · skip
    refine V.ald_n C dX6_turn_0 rfl ?_
    refine V.iconst C (x := 0) dX6_turn_1 (by decide) ?_
    refine V.put C fl_RX6_77 dX6_turn_2 hM.1 ⟨rfl, rfl⟩ (Nat.le_of_ble_eq_true rfl) (fun h => by cases h) (set_same hM.1) ?_
    refine V.ild_n C dX6_turn_5 rfl ?_
    refine V.iconst C (x := 0) dX6_turn_6 (by decide) ?_
    refine V.iconst C (x := 4) dX6_turn_7 (by decide) ?_
    refine V.callSp C mo_X6_in sm_X6_in ml_RX6_84 (ev_X6_in0 _ 5 (by decide)) dX6_turn_8 rfl rfl (Nat.le_of_ble_eq_true rfl) (RmOk.mk' (by decide) (by decide) (by decide) (by decide)) ⟨rfl, rfl⟩ ?_
    refine V.ifb_eq C (tgt := 22) dX6_turn_11 (by decide) (fun h11 => ?_) (fun h11 => absurd h11 hi)
    refine V.iconst C (x := -1) dX6_turn_22 (by decide) ?_
    exact V.iret X dX6_turn_23 rfl (by decide) (by decide) (by unfold S_turn; rw [ok1_f hi]; exact ⟨rfl, hM, hF⟩)
theorem ev_X6_region {g : GD} {r d t b : Nat} {A : ST} {L : List AE} (hM : MR r d t b A L) (hI : Inv r d t b A) (x y z : Int32) (hz : z = 0 ∨ z = 1) : Ev g mX6_region [aR 23, aI x, aI y, aI z] L (MQt L (S_region r d t b A x y z)) := by
  refine Ev.of [some (aR 23), some (aI x), some (aI y), some (aI z), none, none] (by decide) rfl (Nat.le_of_ble_eq_true rfl) fun Z H0 C X => ?_
  have hN := hI.cn
  have hF : FrM L L := FrM.rf
  rcases isN_cases x 7 (by omega) with ⟨i, hi, rfl⟩ | hi
  · skip
    rcases isN_cases y r (by omega) with ⟨j, hj, rfl⟩ | hj
    · skip
      refine V.ald_n C dX6_region_0 rfl ?_
      refine V.iconst C (x := 0) dX6_region_1 (by decide) ?_
      refine V.put C fl_RX6_77 dX6_region_2 hM.1 ⟨rfl, rfl⟩ (Nat.le_of_ble_eq_true rfl) (fun h => by cases h) (set_same hM.1) ?_
      refine V.ild_n C dX6_region_5 rfl ?_
      refine V.iconst C (x := 0) dX6_region_6 (by decide) ?_
      refine V.bipush C (x := 6) dX6_region_7 (by decide) ?_
      refine V.callSp C mo_X6_in sm_X6_in ml_RX6_84 (ev_X6_in0 _ 7 (by decide)) dX6_region_9 rfl rfl (Nat.le_of_ble_eq_true rfl) (RmOk.mk' (by decide) (by decide) (by decide) (by decide)) ⟨rfl, rfl⟩ ?_
      refine V.ifb_eq C (tgt := 23) dX6_region_12 (by decide) (fun h12 => absurd (isN_nI (show i < 7 by omega) (by omega)) h12) (fun h12 => ?_)
      refine V.ald_n C dX6_region_15 rfl ?_
      refine V.ild_n C dX6_region_16 rfl ?_
      refine V.callVp C mo_X6_isRoom im_X6_isRoom se_X6_isRoom ml_RX6_97 (ev_X6_isRoom hM hI _) dX6_region_17 rfl rfl hM.1 rfl rfl (Nat.le_of_ble_eq_true rfl) (RmOk.mk' (by decide) (by decide) (by decide) (by decide)) ⟨rfl, rfl⟩ ?_
      refine V.ifb_ne C (tgt := 25) dX6_region_20 (by decide) (fun h20 => ?_) (fun h20 => absurd (isN_nI (show j < r by omega) (by omega)) h20)
      refine V.ald_n C dX6_region_25 rfl ?_
      refine V.get C fg_RX6_71 dX6_region_26 hM.1 rfl ?_
      refine V.bipush C (x := 20) dX6_region_29 (by decide) ?_
      refine V.ild_n C dX6_region_31 rfl ?_
      refine V.imul C dX6_region_32 ?_
      refine V.top (pk_mul 20 i) ?_
      refine V.ild_n C dX6_region_33 rfl ?_
      refine V.iadd C dX6_region_34 ?_
      refine V.top (nI_add (20 * i) j) ?_
      refine V.ild_n C dX6_region_35 rfl ?_
      refine V.zastM C hM hF 25 (N := 140) (by decide) rfl rfl rfl (by decide) (by assumption) dX6_region_36 (by omega) (fun L hM hF => ?_)
      have hz1 : ∀ k, k < 20 → up2 A 25 (20 * i + j) z 25 (20 * i + k) = 0 ∨ up2 A 25 (20 * i + j) z 25 (20 * i + k) = 1 := by
        intro k hk
        rw [up2_s]
        by_cases e : 20 * i + k = 20 * i + j
        · rw [e, pk_us]; exact hz
        · rw [pk_un e]; exact (hI.cg hi hk).imp id (fun q => q.1)
      refine V.iconst C (x := 0) dX6_region_37 (by decide) ?_
      refine V.ist C dX6_region_38 (Nat.le_of_ble_eq_true rfl) rfl ?_
      refine V.iconst C (x := 0) dX6_region_40 (by decide) ?_
      refine V.ist C dX6_region_41 (Nat.le_of_ble_eq_true rfl) rfl ?_
      have key43 : ∀ (n : Nat) (k : Nat), k ≤ 20 → 20 - k < n → V g Z H0 6 L 0 0 43 [some (aR 23), some (aI (nI i)), some (aI (nI j)), some (aI z), some (aI (nI (cnt (fun k => up2 A 25 (20 * i + j) z 25 (20 * i + k) = 1) k))), some (aI (nI k))] [] := by
        intro n
        induction n with
        | zero => intro k h1 h2; exact absurd h2 (by omega)
        | succ n ih =>
          intro k h1 h2
          refine V.ild C dX6_region_43 rfl ?_
          refine V.bipush C (x := 20) dX6_region_45 (by decide) ?_
          refine V.icmpN_ge C (k) (20) (tgt := 81) dX6_region_47 (by decide) (by omega) (by omega) (fun h47 => ?_) (fun h47 => ?_)
          · skip
            refine V.ild C dX6_region_81 rfl ?_
            exact V.iret X dX6_region_83 rfl (by decide) (by decide) (by unfold S_region; rw [ok1_t hi (by omega), ok1_t hj (by omega), show k = 20 by omega]; exact ⟨rfl, hM, hF⟩)
          · skip
            refine V.ild C dX6_region_50 rfl ?_
            refine V.ald_n C dX6_region_52 rfl ?_
            refine V.get C fg_RX6_71 dX6_region_53 hM.1 rfl ?_
            refine V.bipush C (x := 20) dX6_region_56 (by decide) ?_
            refine V.ild_n C dX6_region_58 rfl ?_
            refine V.imul C dX6_region_59 ?_
            refine V.top (pk_mul 20 i) ?_
            refine V.ild C dX6_region_60 rfl ?_
            refine V.iadd C dX6_region_62 ?_
            refine V.top (nI_add (20 * i) k) ?_
            refine V.zaldN C (N := 140) dX6_region_63 (hM.2 25 (by decide)) (by omega) (by decide) ?_
            refine V.if_eq C (tgt := 71) dX6_region_64 (by decide) (fun h64 => ?_) (fun h64 => ?_)
            · skip
              refine V.iconst C (x := 0) dX6_region_71 (by decide) ?_
              refine V.iadd C dX6_region_72 ?_
              refine V.top (cnt_f (P := (fun k => up2 A 25 (20 * i + j) z 25 (20 * i + k) = 1)) (i := k) (fun q => by rw [h64] at q; exact absurd q (by decide))) ?_
              refine V.ist C dX6_region_73 (Nat.le_of_ble_eq_true rfl) rfl ?_
              refine V.iinc C (y := nI (k + 1)) dX6_region_75 rfl (nI_1 k) rfl ?_
              refine V.goto C (tgt := 43) dX6_region_78 (by decide) ?_
              exact ih (k + 1) (by omega) (by omega)
            · skip
              refine V.iconst C (x := 1) dX6_region_67 (by decide) ?_
              refine V.goto C (tgt := 72) dX6_region_68 (by decide) ?_
              refine V.iadd C dX6_region_72 ?_
              refine V.top (cnt_t (P := (fun k => up2 A 25 (20 * i + j) z 25 (20 * i + k) = 1)) (i := k) ((hz1 k (by omega)).resolve_left h64)) ?_
              refine V.ist C dX6_region_73 (Nat.le_of_ble_eq_true rfl) rfl ?_
              refine V.iinc C (y := nI (k + 1)) dX6_region_75 rfl (nI_1 k) rfl ?_
              refine V.goto C (tgt := 43) dX6_region_78 (by decide) ?_
              exact ih (k + 1) (by omega) (by omega)
      exact key43 21 0 (by omega) (by omega)
    · skip
      refine V.ald_n C dX6_region_0 rfl ?_
      refine V.iconst C (x := 0) dX6_region_1 (by decide) ?_
      refine V.put C fl_RX6_77 dX6_region_2 hM.1 ⟨rfl, rfl⟩ (Nat.le_of_ble_eq_true rfl) (fun h => by cases h) (set_same hM.1) ?_
      refine V.ild_n C dX6_region_5 rfl ?_
      refine V.iconst C (x := 0) dX6_region_6 (by decide) ?_
      refine V.bipush C (x := 6) dX6_region_7 (by decide) ?_
      refine V.callSp C mo_X6_in sm_X6_in ml_RX6_84 (ev_X6_in0 _ 7 (by decide)) dX6_region_9 rfl rfl (Nat.le_of_ble_eq_true rfl) (RmOk.mk' (by decide) (by decide) (by decide) (by decide)) ⟨rfl, rfl⟩ ?_
      refine V.ifb_eq C (tgt := 23) dX6_region_12 (by decide) (fun h12 => absurd (isN_nI (show i < 7 by omega) (by omega)) h12) (fun h12 => ?_)
      refine V.ald_n C dX6_region_15 rfl ?_
      refine V.ild_n C dX6_region_16 rfl ?_
      refine V.callVp C mo_X6_isRoom im_X6_isRoom se_X6_isRoom ml_RX6_97 (ev_X6_isRoom hM hI _) dX6_region_17 rfl rfl hM.1 rfl rfl (Nat.le_of_ble_eq_true rfl) (RmOk.mk' (by decide) (by decide) (by decide) (by decide)) ⟨rfl, rfl⟩ ?_
      refine V.ifb_ne C (tgt := 25) dX6_region_20 (by decide) (fun h20 => absurd h20 hj) (fun h20 => ?_)
      refine V.iconst C (x := -1) dX6_region_23 (by decide) ?_
      exact V.iret X dX6_region_24 rfl (by decide) (by decide) (by unfold S_region; rw [ok1_t hi (by omega), ok1_f hj]; exact ⟨rfl, hM, hF⟩)
  · skip
    refine V.ald_n C dX6_region_0 rfl ?_
    refine V.iconst C (x := 0) dX6_region_1 (by decide) ?_
    refine V.put C fl_RX6_77 dX6_region_2 hM.1 ⟨rfl, rfl⟩ (Nat.le_of_ble_eq_true rfl) (fun h => by cases h) (set_same hM.1) ?_
    refine V.ild_n C dX6_region_5 rfl ?_
    refine V.iconst C (x := 0) dX6_region_6 (by decide) ?_
    refine V.bipush C (x := 6) dX6_region_7 (by decide) ?_
    refine V.callSp C mo_X6_in sm_X6_in ml_RX6_84 (ev_X6_in0 _ 7 (by decide)) dX6_region_9 rfl rfl (Nat.le_of_ble_eq_true rfl) (RmOk.mk' (by decide) (by decide) (by decide) (by decide)) ⟨rfl, rfl⟩ ?_
    refine V.ifb_eq C (tgt := 23) dX6_region_12 (by decide) (fun h12 => ?_) (fun h12 => absurd h12 hi)
    refine V.iconst C (x := -1) dX6_region_23 (by decide) ?_
    exact V.iret X dX6_region_24 rfl (by decide) (by decide) (by unfold S_region; rw [ok1_f hi]; exact ⟨rfl, hM, hF⟩)
theorem ev_X6_lock {g : GD} {r d t b : Nat} {A : ST} {L : List AE} (hM : MR r d t b A L) (hI : Inv r d t b A) (x y z : Int32) (hz : z = 0 ∨ z = 1) : Ev g mX6_lock [aR 23, aI x, aI y, aI z] L (MQt L (S_lock r d t b A x y z)) := by
  refine Ev.of [some (aR 23), some (aI x), some (aI y), some (aI z)] (by decide) rfl (Nat.le_of_ble_eq_true rfl) fun Z H0 C X => ?_
  have hN := hI.cn
  have hF : FrM L L := FrM.rf
  rcases isN_cases x d (by omega) with ⟨j, hj, rfl⟩ | hj
  · skip
    by_cases hy : y = -1
    · skip
      rcases hz with rfl | rfl
      · skip
        refine V.ald_n C dX6_lock_0 rfl ?_
        refine V.iconst C (x := 0) dX6_lock_1 (by decide) ?_
        refine V.put C fl_RX6_77 dX6_lock_2 hM.1 ⟨rfl, rfl⟩ (Nat.le_of_ble_eq_true rfl) (fun h => by cases h) (set_same hM.1) ?_
        subst hy
        refine V.ald_n C dX6_lock_5 rfl ?_
        refine V.ild_n C dX6_lock_6 rfl ?_
        refine V.callVp C mo_X6_isDoor im_X6_isDoor se_X6_isDoor ml_RX6_101 (ev_X6_isDoor hM hI _) dX6_lock_7 rfl rfl hM.1 rfl rfl (Nat.le_of_ble_eq_true rfl) (RmOk.mk' (by decide) (by decide) (by decide) (by decide)) ⟨rfl, rfl⟩ ?_
        refine V.ifb_eq C (tgt := 44) dX6_lock_10 (by decide) (fun h10 => absurd (isN_nI (show j < d by omega) (by omega)) h10) (fun h10 => ?_)
        refine V.ild_n C dX6_lock_13 rfl ?_
        refine V.iconst C (x := -1) dX6_lock_14 (by decide) ?_
        refine V.icmp_eq C (tgt := 35) dX6_lock_15 (by decide) (fun h15 => ?_) (fun h15 => absurd h15 (by decide))
        refine V.ild_n C dX6_lock_35 rfl ?_
        refine V.if_eq C (tgt := 46) dX6_lock_36 (by decide) (fun h36 => ?_) (fun h36 => absurd h36 (by decide))
        refine V.ald_n C dX6_lock_46 rfl ?_
        refine V.get C fg_RX6_22 dX6_lock_47 hM.1 rfl ?_
        refine V.ild_n C dX6_lock_50 rfl ?_
        refine V.ild_n C dX6_lock_51 rfl ?_
        refine V.iastM C hM hF 7 (N := 15) (by decide) rfl rfl rfl (by decide) dX6_lock_52 (by omega) (fun L hM hF => ?_)
        refine V.ald_n C dX6_lock_53 rfl ?_
        refine V.get C fg_RX6_29 dX6_lock_54 hM.1 rfl ?_
        refine V.ild_n C dX6_lock_57 rfl ?_
        refine V.ild_n C dX6_lock_58 rfl ?_
        refine V.zastM C hM hF 9 (N := 15) (by decide) rfl rfl rfl (by decide) (Or.inl rfl) dX6_lock_59 (by omega) (fun L hM hF => ?_)
        refine V.iconst C (x := 1) dX6_lock_60 (by decide) ?_
        exact V.iret X dX6_lock_61 rfl (by decide) (by decide) (by unfold S_lock; rw [ok1_t hj (by omega), cI_t rfl, cI_t rfl]; exact ⟨rfl, hM, hF⟩)
      · skip
        refine V.ald_n C dX6_lock_0 rfl ?_
        refine V.iconst C (x := 0) dX6_lock_1 (by decide) ?_
        refine V.put C fl_RX6_77 dX6_lock_2 hM.1 ⟨rfl, rfl⟩ (Nat.le_of_ble_eq_true rfl) (fun h => by cases h) (set_same hM.1) ?_
        subst hy
        refine V.ald_n C dX6_lock_5 rfl ?_
        refine V.ild_n C dX6_lock_6 rfl ?_
        refine V.callVp C mo_X6_isDoor im_X6_isDoor se_X6_isDoor ml_RX6_101 (ev_X6_isDoor hM hI _) dX6_lock_7 rfl rfl hM.1 rfl rfl (Nat.le_of_ble_eq_true rfl) (RmOk.mk' (by decide) (by decide) (by decide) (by decide)) ⟨rfl, rfl⟩ ?_
        refine V.ifb_eq C (tgt := 44) dX6_lock_10 (by decide) (fun h10 => absurd (isN_nI (show j < d by omega) (by omega)) h10) (fun h10 => ?_)
        refine V.ild_n C dX6_lock_13 rfl ?_
        refine V.iconst C (x := -1) dX6_lock_14 (by decide) ?_
        refine V.icmp_eq C (tgt := 35) dX6_lock_15 (by decide) (fun h15 => ?_) (fun h15 => absurd h15 (by decide))
        refine V.ild_n C dX6_lock_35 rfl ?_
        refine V.if_eq C (tgt := 46) dX6_lock_36 (by decide) (fun h36 => absurd h36 (by decide)) (fun h36 => ?_)
        refine V.ild_n C dX6_lock_39 rfl ?_
        refine V.iconst C (x := -1) dX6_lock_40 (by decide) ?_
        refine V.icmp_ne C (tgt := 46) dX6_lock_41 (by decide) (fun h41 => absurd h41 (by decide)) (fun h41 => ?_)
        refine V.iconst C (x := -1) dX6_lock_44 (by decide) ?_
        exact V.iret X dX6_lock_45 rfl (by decide) (by decide) (by unfold S_lock; rw [ok1_t hj (by omega), cI_t rfl, cI_f (by decide)]; exact ⟨rfl, hM, hF⟩)
    · skip
      rcases isN_cases y t (by omega) with ⟨k, hk, rfl⟩ | hk
      · skip
        refine V.ald_n C dX6_lock_0 rfl ?_
        refine V.iconst C (x := 0) dX6_lock_1 (by decide) ?_
        refine V.put C fl_RX6_77 dX6_lock_2 hM.1 ⟨rfl, rfl⟩ (Nat.le_of_ble_eq_true rfl) (fun h => by cases h) (set_same hM.1) ?_
        refine V.ald_n C dX6_lock_5 rfl ?_
        refine V.ild_n C dX6_lock_6 rfl ?_
        refine V.callVp C mo_X6_isDoor im_X6_isDoor se_X6_isDoor ml_RX6_101 (ev_X6_isDoor hM hI _) dX6_lock_7 rfl rfl hM.1 rfl rfl (Nat.le_of_ble_eq_true rfl) (RmOk.mk' (by decide) (by decide) (by decide) (by decide)) ⟨rfl, rfl⟩ ?_
        refine V.ifb_eq C (tgt := 44) dX6_lock_10 (by decide) (fun h10 => absurd (isN_nI (show j < d by omega) (by omega)) h10) (fun h10 => ?_)
        refine V.ild_n C dX6_lock_13 rfl ?_
        refine V.iconst C (x := -1) dX6_lock_14 (by decide) ?_
        refine V.icmp_eq C (tgt := 35) dX6_lock_15 (by decide) (fun h15 => absurd h15 hy) (fun h15 => ?_)
        refine V.ald_n C dX6_lock_18 rfl ?_
        refine V.ild_n C dX6_lock_19 rfl ?_
        refine V.callVp C mo_X6_isThing im_X6_isThing se_X6_isThing ml_RX6_111 (ev_X6_isThing hM hI _) dX6_lock_20 rfl rfl hM.1 rfl rfl (Nat.le_of_ble_eq_true rfl) (RmOk.mk' (by decide) (by decide) (by decide) (by decide)) ⟨rfl, rfl⟩ ?_
        refine V.ifb_eq C (tgt := 44) dX6_lock_23 (by decide) (fun h23 => absurd (isN_nI (show k < t by omega) (by omega)) h23) (fun h23 => ?_)
        refine V.ald_n C dX6_lock_26 rfl ?_
        refine V.get C fg_RX6_32 dX6_lock_27 hM.1 rfl ?_
        refine V.ild_n C dX6_lock_30 rfl ?_
        refine V.ialdN C (N := 30) dX6_lock_31 (hM.2 11 (by decide)) (by omega) (by decide) ?_
        refine V.if_ne C (tgt := 44) dX6_lock_32 (by decide) (fun h32 => ?_) (fun h32 => ?_)
        · skip
          refine V.iconst C (x := -1) dX6_lock_44 (by decide) ?_
          exact V.iret X dX6_lock_45 rfl (by decide) (by decide) (by unfold S_lock; rw [ok1_t hj (by omega), cI_f hy, ok1_t hk (by omega), cI_f h32]; exact ⟨rfl, hM, hF⟩)
        · skip
          refine V.ild_n C dX6_lock_35 rfl ?_
          refine V.if_eq C (tgt := 46) dX6_lock_36 (by decide) (fun h36 => ?_) (fun h36 => ?_)
          · skip
            refine V.ald_n C dX6_lock_46 rfl ?_
            refine V.get C fg_RX6_22 dX6_lock_47 hM.1 rfl ?_
            refine V.ild_n C dX6_lock_50 rfl ?_
            refine V.ild_n C dX6_lock_51 rfl ?_
            refine V.iastM C hM hF 7 (N := 15) (by decide) rfl rfl rfl (by decide) dX6_lock_52 (by omega) (fun L hM hF => ?_)
            refine V.ald_n C dX6_lock_53 rfl ?_
            refine V.get C fg_RX6_29 dX6_lock_54 hM.1 rfl ?_
            refine V.ild_n C dX6_lock_57 rfl ?_
            refine V.ild_n C dX6_lock_58 rfl ?_
            refine V.zastM C hM hF 9 (N := 15) (by decide) rfl rfl rfl (by decide) (by assumption) dX6_lock_59 (by omega) (fun L hM hF => ?_)
            refine V.iconst C (x := 1) dX6_lock_60 (by decide) ?_
            exact V.iret X dX6_lock_61 rfl (by decide) (by decide) (by unfold S_lock; rw [ok1_t hj (by omega), cI_f hy, ok1_t hk (by omega), cI_t h32]; exact ⟨rfl, hM, hF⟩)
          · skip
            refine V.ild_n C dX6_lock_39 rfl ?_
            refine V.iconst C (x := -1) dX6_lock_40 (by decide) ?_
            refine V.icmp_ne C (tgt := 46) dX6_lock_41 (by decide) (fun h41 => ?_) (fun h41 => absurd h41 hy)
            refine V.ald_n C dX6_lock_46 rfl ?_
            refine V.get C fg_RX6_22 dX6_lock_47 hM.1 rfl ?_
            refine V.ild_n C dX6_lock_50 rfl ?_
            refine V.ild_n C dX6_lock_51 rfl ?_
            refine V.iastM C hM hF 7 (N := 15) (by decide) rfl rfl rfl (by decide) dX6_lock_52 (by omega) (fun L hM hF => ?_)
            refine V.ald_n C dX6_lock_53 rfl ?_
            refine V.get C fg_RX6_29 dX6_lock_54 hM.1 rfl ?_
            refine V.ild_n C dX6_lock_57 rfl ?_
            refine V.ild_n C dX6_lock_58 rfl ?_
            refine V.zastM C hM hF 9 (N := 15) (by decide) rfl rfl rfl (by decide) (by assumption) dX6_lock_59 (by omega) (fun L hM hF => ?_)
            refine V.iconst C (x := 1) dX6_lock_60 (by decide) ?_
            exact V.iret X dX6_lock_61 rfl (by decide) (by decide) (by unfold S_lock; rw [ok1_t hj (by omega), cI_f hy, ok1_t hk (by omega), cI_t h32]; exact ⟨rfl, hM, hF⟩)
      · skip
        refine V.ald_n C dX6_lock_0 rfl ?_
        refine V.iconst C (x := 0) dX6_lock_1 (by decide) ?_
        refine V.put C fl_RX6_77 dX6_lock_2 hM.1 ⟨rfl, rfl⟩ (Nat.le_of_ble_eq_true rfl) (fun h => by cases h) (set_same hM.1) ?_
        refine V.ald_n C dX6_lock_5 rfl ?_
        refine V.ild_n C dX6_lock_6 rfl ?_
        refine V.callVp C mo_X6_isDoor im_X6_isDoor se_X6_isDoor ml_RX6_101 (ev_X6_isDoor hM hI _) dX6_lock_7 rfl rfl hM.1 rfl rfl (Nat.le_of_ble_eq_true rfl) (RmOk.mk' (by decide) (by decide) (by decide) (by decide)) ⟨rfl, rfl⟩ ?_
        refine V.ifb_eq C (tgt := 44) dX6_lock_10 (by decide) (fun h10 => absurd (isN_nI (show j < d by omega) (by omega)) h10) (fun h10 => ?_)
        refine V.ild_n C dX6_lock_13 rfl ?_
        refine V.iconst C (x := -1) dX6_lock_14 (by decide) ?_
        refine V.icmp_eq C (tgt := 35) dX6_lock_15 (by decide) (fun h15 => absurd h15 hy) (fun h15 => ?_)
        refine V.ald_n C dX6_lock_18 rfl ?_
        refine V.ild_n C dX6_lock_19 rfl ?_
        refine V.callVp C mo_X6_isThing im_X6_isThing se_X6_isThing ml_RX6_111 (ev_X6_isThing hM hI _) dX6_lock_20 rfl rfl hM.1 rfl rfl (Nat.le_of_ble_eq_true rfl) (RmOk.mk' (by decide) (by decide) (by decide) (by decide)) ⟨rfl, rfl⟩ ?_
        refine V.ifb_eq C (tgt := 44) dX6_lock_23 (by decide) (fun h23 => ?_) (fun h23 => absurd h23 hk)
        refine V.iconst C (x := -1) dX6_lock_44 (by decide) ?_
        exact V.iret X dX6_lock_45 rfl (by decide) (by decide) (by unfold S_lock; rw [ok1_t hj (by omega), cI_f hy, ok1_f hk]; exact ⟨rfl, hM, hF⟩)
  · skip
    refine V.ald_n C dX6_lock_0 rfl ?_
    refine V.iconst C (x := 0) dX6_lock_1 (by decide) ?_
    refine V.put C fl_RX6_77 dX6_lock_2 hM.1 ⟨rfl, rfl⟩ (Nat.le_of_ble_eq_true rfl) (fun h => by cases h) (set_same hM.1) ?_
    refine V.ald_n C dX6_lock_5 rfl ?_
    refine V.ild_n C dX6_lock_6 rfl ?_
    refine V.callVp C mo_X6_isDoor im_X6_isDoor se_X6_isDoor ml_RX6_101 (ev_X6_isDoor hM hI _) dX6_lock_7 rfl rfl hM.1 rfl rfl (Nat.le_of_ble_eq_true rfl) (RmOk.mk' (by decide) (by decide) (by decide) (by decide)) ⟨rfl, rfl⟩ ?_
    refine V.ifb_eq C (tgt := 44) dX6_lock_10 (by decide) (fun h10 => ?_) (fun h10 => absurd h10 hj)
    refine V.iconst C (x := -1) dX6_lock_44 (by decide) ?_
    exact V.iret X dX6_lock_45 rfl (by decide) (by decide) (by unfold S_lock; rw [ok1_f hj]; exact ⟨rfl, hM, hF⟩)
theorem ev_X6_thing {g : GD} {r d t b : Nat} {A : ST} {L : List AE} (hM : MR r d t b A L) (hI : Inv r d t b A) (x y z : Int32) : Ev g mX6_thing [aR 23, aI x, aI y, aI z] L (MQt L (S_thing r d t b A x y z)) := by
  refine Ev.of [some (aR 23), some (aI x), some (aI y), some (aI z)] (by decide) rfl (Nat.le_of_ble_eq_true rfl) fun Z H0 C X => ?_
  have hN := hI.cn
  have hF : FrM L L := FrM.rf
  rcases isN_cases x r (by omega) with ⟨i, hi, rfl⟩ | hi
  · skip
    rcases isN_cases y 4 (by omega) with ⟨c, hc, rfl⟩ | hc
    · skip
      refine V.ald_n C dX6_thing_0 rfl ?_
      refine V.iconst C (x := 0) dX6_thing_1 (by decide) ?_
      refine V.put C fl_RX6_77 dX6_thing_2 hM.1 ⟨rfl, rfl⟩ (Nat.le_of_ble_eq_true rfl) (fun h => by cases h) (set_same hM.1) ?_
      refine V.ald_n C dX6_thing_5 rfl ?_
      refine V.ild_n C dX6_thing_6 rfl ?_
      refine V.callVp C mo_X6_isRoom im_X6_isRoom se_X6_isRoom ml_RX6_97 (ev_X6_isRoom hM hI _) dX6_thing_7 rfl rfl hM.1 rfl rfl (Nat.le_of_ble_eq_true rfl) (RmOk.mk' (by decide) (by decide) (by decide) (by decide)) ⟨rfl, rfl⟩ ?_
      refine V.ifb_eq C (tgt := 32) dX6_thing_10 (by decide) (fun h10 => absurd (isN_nI (show i < r by omega) (by omega)) h10) (fun h10 => ?_)
      refine V.ild_n C dX6_thing_13 rfl ?_
      refine V.iconst C (x := 0) dX6_thing_14 (by decide) ?_
      refine V.iconst C (x := 3) dX6_thing_15 (by decide) ?_
      refine V.callSp C mo_X6_in sm_X6_in ml_RX6_84 (ev_X6_in0 _ 4 (by decide)) dX6_thing_16 rfl rfl (Nat.le_of_ble_eq_true rfl) (RmOk.mk' (by decide) (by decide) (by decide) (by decide)) ⟨rfl, rfl⟩ ?_
      refine V.ifb_eq C (tgt := 32) dX6_thing_19 (by decide) (fun h19 => absurd (isN_nI (show c < 4 by omega) (by omega)) h19) (fun h19 => ?_)
      refine V.ild_n C dX6_thing_22 rfl ?_
      refine V.iconst C (x := 1) dX6_thing_23 (by decide) ?_
      refine V.bipush C (x := 9) dX6_thing_24 (by decide) ?_
      refine V.callSp C mo_X6_in sm_X6_in ml_RX6_84 (ev_X6_in _ _ _) dX6_thing_26 rfl rfl (Nat.le_of_ble_eq_true rfl) (RmOk.mk' (by decide) (by decide) (by decide) (by decide)) ⟨rfl, rfl⟩ ?_
      refine V.ifb_ne C (tgt := 34) dX6_thing_29 (by decide) (fun h29 => ?_) (fun h29 => ?_)
      · skip
        refine V.ald_n C dX6_thing_34 rfl ?_
        refine V.get C fg_RX6_91 dX6_thing_35 hM.1 rfl ?_
        refine V.bipush C (x := 30) dX6_thing_38 (by decide) ?_
        refine V.icmpN_ne C (t) (30) (tgt := 46) dX6_thing_40 (by decide) (by omega) (by omega) (fun h40 => ?_) (fun h40 => ?_)
        · skip
          refine V.ald_n C dX6_thing_46 rfl ?_
          refine V.get C fg_RX6_32 dX6_thing_47 hM.1 rfl ?_
          refine V.ald_n C dX6_thing_50 rfl ?_
          refine V.get C fg_RX6_91 dX6_thing_51 hM.1 rfl ?_
          refine V.ild_n C dX6_thing_54 rfl ?_
          refine V.iastM C hM hF 11 (N := 30) (by decide) rfl rfl rfl (by decide) dX6_thing_55 (by omega) (fun L hM hF => ?_)
          refine V.ald_n C dX6_thing_56 rfl ?_
          refine V.get C fg_RX6_35 dX6_thing_57 hM.1 rfl ?_
          refine V.ald_n C dX6_thing_60 rfl ?_
          refine V.get C fg_RX6_91 dX6_thing_61 hM.1 rfl ?_
          refine V.ild_n C dX6_thing_64 rfl ?_
          refine V.iastM C hM hF 12 (N := 30) (by decide) rfl rfl rfl (by decide) dX6_thing_65 (by omega) (fun L hM hF => ?_)
          refine V.ald_n C dX6_thing_66 rfl ?_
          refine V.get C fg_RX6_38 dX6_thing_67 hM.1 rfl ?_
          refine V.ald_n C dX6_thing_70 rfl ?_
          refine V.get C fg_RX6_91 dX6_thing_71 hM.1 rfl ?_
          refine V.ild_n C dX6_thing_74 rfl ?_
          refine V.iastM C hM hF 13 (N := 30) (by decide) rfl rfl rfl (by decide) dX6_thing_75 (by omega) (fun L hM hF => ?_)
          refine V.ald_n C dX6_thing_76 rfl ?_
          refine V.get C fg_RX6_41 dX6_thing_77 hM.1 rfl ?_
          refine V.ald_n C dX6_thing_80 rfl ?_
          refine V.get C fg_RX6_91 dX6_thing_81 hM.1 rfl ?_
          refine V.iconst C (x := -1) dX6_thing_84 (by decide) ?_
          refine V.iastM C hM hF 14 (N := 30) (by decide) rfl rfl rfl (by decide) dX6_thing_85 (by omega) (fun L hM hF => ?_)
          refine V.ald_n C dX6_thing_86 rfl ?_
          refine V.dup C dX6_thing_87 ?_
          refine V.get C fg_RX6_91 dX6_thing_88 hM.1 rfl ?_
          refine V.iconst C (x := 1) dX6_thing_91 (by decide) ?_
          refine V.iadd C dX6_thing_92 ?_
          refine V.top (nI_add t 1) ?_
          refine V.put C fl_RX6_91 dX6_thing_93 hM.1 ⟨rfl, rfl⟩ (Nat.le_of_ble_eq_true rfl) (fun h => by cases h) rfl ?_
          have hM2 := hM.fs r d (t + 1) b
          refine V.ald_n C dX6_thing_96 rfl ?_
          refine V.get C fg_RX6_91 dX6_thing_97 hM2.1 rfl ?_
          refine V.iconst C (x := 1) dX6_thing_100 (by decide) ?_
          refine V.isub C dX6_thing_101 ?_
          refine V.top (show nI (t + 1) - 1 = nI t from nI_pred t) ?_
          exact V.iret X dX6_thing_102 rfl (by decide) (by decide) (by unfold S_thing; rw [ok1_t hi (by omega), ok1_t hc (by omega), cI_t h29, cI_f h40]; exact ⟨rfl, hM2, hF.st (by decide)⟩)
        · skip
          refine V.bipush C (x := -2) dX6_thing_43 (by decide) ?_
          exact V.iret X dX6_thing_45 rfl (by decide) (by decide) (by unfold S_thing; rw [ok1_t hi (by omega), ok1_t hc (by omega), cI_t h29, cI_t h40]; exact ⟨rfl, hM, hF⟩)
      · skip
        refine V.iconst C (x := -1) dX6_thing_32 (by decide) ?_
        exact V.iret X dX6_thing_33 rfl (by decide) (by decide) (by unfold S_thing; rw [ok1_t hi (by omega), ok1_t hc (by omega), cI_f h29]; exact ⟨rfl, hM, hF⟩)
    · skip
      refine V.ald_n C dX6_thing_0 rfl ?_
      refine V.iconst C (x := 0) dX6_thing_1 (by decide) ?_
      refine V.put C fl_RX6_77 dX6_thing_2 hM.1 ⟨rfl, rfl⟩ (Nat.le_of_ble_eq_true rfl) (fun h => by cases h) (set_same hM.1) ?_
      refine V.ald_n C dX6_thing_5 rfl ?_
      refine V.ild_n C dX6_thing_6 rfl ?_
      refine V.callVp C mo_X6_isRoom im_X6_isRoom se_X6_isRoom ml_RX6_97 (ev_X6_isRoom hM hI _) dX6_thing_7 rfl rfl hM.1 rfl rfl (Nat.le_of_ble_eq_true rfl) (RmOk.mk' (by decide) (by decide) (by decide) (by decide)) ⟨rfl, rfl⟩ ?_
      refine V.ifb_eq C (tgt := 32) dX6_thing_10 (by decide) (fun h10 => absurd (isN_nI (show i < r by omega) (by omega)) h10) (fun h10 => ?_)
      refine V.ild_n C dX6_thing_13 rfl ?_
      refine V.iconst C (x := 0) dX6_thing_14 (by decide) ?_
      refine V.iconst C (x := 3) dX6_thing_15 (by decide) ?_
      refine V.callSp C mo_X6_in sm_X6_in ml_RX6_84 (ev_X6_in0 _ 4 (by decide)) dX6_thing_16 rfl rfl (Nat.le_of_ble_eq_true rfl) (RmOk.mk' (by decide) (by decide) (by decide) (by decide)) ⟨rfl, rfl⟩ ?_
      refine V.ifb_eq C (tgt := 32) dX6_thing_19 (by decide) (fun h19 => ?_) (fun h19 => absurd h19 hc)
      refine V.iconst C (x := -1) dX6_thing_32 (by decide) ?_
      exact V.iret X dX6_thing_33 rfl (by decide) (by decide) (by unfold S_thing; rw [ok1_t hi (by omega), ok1_f hc]; exact ⟨rfl, hM, hF⟩)
  · skip
    refine V.ald_n C dX6_thing_0 rfl ?_
    refine V.iconst C (x := 0) dX6_thing_1 (by decide) ?_
    refine V.put C fl_RX6_77 dX6_thing_2 hM.1 ⟨rfl, rfl⟩ (Nat.le_of_ble_eq_true rfl) (fun h => by cases h) (set_same hM.1) ?_
    refine V.ald_n C dX6_thing_5 rfl ?_
    refine V.ild_n C dX6_thing_6 rfl ?_
    refine V.callVp C mo_X6_isRoom im_X6_isRoom se_X6_isRoom ml_RX6_97 (ev_X6_isRoom hM hI _) dX6_thing_7 rfl rfl hM.1 rfl rfl (Nat.le_of_ble_eq_true rfl) (RmOk.mk' (by decide) (by decide) (by decide) (by decide)) ⟨rfl, rfl⟩ ?_
    refine V.ifb_eq C (tgt := 32) dX6_thing_10 (by decide) (fun h10 => ?_) (fun h10 => absurd h10 hi)
    refine V.iconst C (x := -1) dX6_thing_32 (by decide) ?_
    exact V.iret X dX6_thing_33 rfl (by decide) (by decide) (by unfold S_thing; rw [ok1_f hi]; exact ⟨rfl, hM, hF⟩)
theorem ev_X6_floats {g : GD} {r d t b : Nat} {A : ST} {L : List AE} (hM : MR r d t b A L) (hI : Inv r d t b A) (x y : Int32) : Ev g mX6_floats [aR 23, aI x, aI y] L (MQt L (S_floats r d t b A x y)) := by
  refine Ev.of [some (aR 23), some (aI x), some (aI y)] (by decide) rfl (Nat.le_of_ble_eq_true rfl) fun Z H0 C X => ?_
  have hN := hI.cn
  have hF : FrM L L := FrM.rf
  rcases isN_cases x t (by omega) with ⟨i, hi, rfl⟩ | hi
  · skip
    rcases isN_cases y 7 (by omega) with ⟨j, hj, rfl⟩ | hj
    · skip
      refine V.ald_n C dX6_floats_0 rfl ?_
      refine V.iconst C (x := 0) dX6_floats_1 (by decide) ?_
      refine V.put C fl_RX6_77 dX6_floats_2 hM.1 ⟨rfl, rfl⟩ (Nat.le_of_ble_eq_true rfl) (fun h => by cases h) (set_same hM.1) ?_
      refine V.ald_n C dX6_floats_5 rfl ?_
      refine V.ild_n C dX6_floats_6 rfl ?_
      refine V.callVp C mo_X6_isThing im_X6_isThing se_X6_isThing ml_RX6_111 (ev_X6_isThing hM hI _) dX6_floats_7 rfl rfl hM.1 rfl rfl (Nat.le_of_ble_eq_true rfl) (RmOk.mk' (by decide) (by decide) (by decide) (by decide)) ⟨rfl, rfl⟩ ?_
      refine V.ifb_eq C (tgt := 33) dX6_floats_10 (by decide) (fun h10 => absurd (isN_nI (show i < t by omega) (by omega)) h10) (fun h10 => ?_)
      refine V.ald_n C dX6_floats_13 rfl ?_
      refine V.get C fg_RX6_32 dX6_floats_14 hM.1 rfl ?_
      refine V.ild_n C dX6_floats_17 rfl ?_
      refine V.ialdN C (N := 30) dX6_floats_18 (hM.2 11 (by decide)) (by omega) (by decide) ?_
      refine V.iconst C (x := 1) dX6_floats_19 (by decide) ?_
      refine V.icmp_ne C (tgt := 33) dX6_floats_20 (by decide) (fun h20 => ?_) (fun h20 => ?_)
      · skip
        refine V.iconst C (x := -1) dX6_floats_33 (by decide) ?_
        exact V.iret X dX6_floats_34 rfl (by decide) (by decide) (by unfold S_floats; rw [ok1_t hi (by omega), cI_f h20]; exact ⟨rfl, hM, hF⟩)
      · skip
        refine V.ild_n C dX6_floats_23 rfl ?_
        refine V.iconst C (x := 0) dX6_floats_24 (by decide) ?_
        refine V.bipush C (x := 6) dX6_floats_25 (by decide) ?_
        refine V.callSp C mo_X6_in sm_X6_in ml_RX6_84 (ev_X6_in0 _ 7 (by decide)) dX6_floats_27 rfl rfl (Nat.le_of_ble_eq_true rfl) (RmOk.mk' (by decide) (by decide) (by decide) (by decide)) ⟨rfl, rfl⟩ ?_
        refine V.ifb_ne C (tgt := 35) dX6_floats_30 (by decide) (fun h30 => ?_) (fun h30 => absurd (isN_nI (show j < 7 by omega) (by omega)) h30)
        refine V.ald_n C dX6_floats_35 rfl ?_
        refine V.get C fg_RX6_41 dX6_floats_36 hM.1 rfl ?_
        refine V.ild_n C dX6_floats_39 rfl ?_
        refine V.ild_n C dX6_floats_40 rfl ?_
        refine V.iastM C hM hF 14 (N := 30) (by decide) rfl rfl rfl (by decide) dX6_floats_41 (by omega) (fun L hM hF => ?_)
        refine V.iconst C (x := 1) dX6_floats_42 (by decide) ?_
        exact V.iret X dX6_floats_43 rfl (by decide) (by decide) (by unfold S_floats; rw [ok1_t hi (by omega), cI_t h20, ok1_t hj (by omega)]; exact ⟨rfl, hM, hF⟩)
    · skip
      refine V.ald_n C dX6_floats_0 rfl ?_
      refine V.iconst C (x := 0) dX6_floats_1 (by decide) ?_
      refine V.put C fl_RX6_77 dX6_floats_2 hM.1 ⟨rfl, rfl⟩ (Nat.le_of_ble_eq_true rfl) (fun h => by cases h) (set_same hM.1) ?_
      refine V.ald_n C dX6_floats_5 rfl ?_
      refine V.ild_n C dX6_floats_6 rfl ?_
      refine V.callVp C mo_X6_isThing im_X6_isThing se_X6_isThing ml_RX6_111 (ev_X6_isThing hM hI _) dX6_floats_7 rfl rfl hM.1 rfl rfl (Nat.le_of_ble_eq_true rfl) (RmOk.mk' (by decide) (by decide) (by decide) (by decide)) ⟨rfl, rfl⟩ ?_
      refine V.ifb_eq C (tgt := 33) dX6_floats_10 (by decide) (fun h10 => absurd (isN_nI (show i < t by omega) (by omega)) h10) (fun h10 => ?_)
      refine V.ald_n C dX6_floats_13 rfl ?_
      refine V.get C fg_RX6_32 dX6_floats_14 hM.1 rfl ?_
      refine V.ild_n C dX6_floats_17 rfl ?_
      refine V.ialdN C (N := 30) dX6_floats_18 (hM.2 11 (by decide)) (by omega) (by decide) ?_
      refine V.iconst C (x := 1) dX6_floats_19 (by decide) ?_
      refine V.icmp_ne C (tgt := 33) dX6_floats_20 (by decide) (fun h20 => ?_) (fun h20 => ?_)
      · skip
        refine V.iconst C (x := -1) dX6_floats_33 (by decide) ?_
        exact V.iret X dX6_floats_34 rfl (by decide) (by decide) (by unfold S_floats; rw [ok1_t hi (by omega), cI_f h20]; exact ⟨rfl, hM, hF⟩)
      · skip
        refine V.ild_n C dX6_floats_23 rfl ?_
        refine V.iconst C (x := 0) dX6_floats_24 (by decide) ?_
        refine V.bipush C (x := 6) dX6_floats_25 (by decide) ?_
        refine V.callSp C mo_X6_in sm_X6_in ml_RX6_84 (ev_X6_in0 _ 7 (by decide)) dX6_floats_27 rfl rfl (Nat.le_of_ble_eq_true rfl) (RmOk.mk' (by decide) (by decide) (by decide) (by decide)) ⟨rfl, rfl⟩ ?_
        refine V.ifb_ne C (tgt := 35) dX6_floats_30 (by decide) (fun h30 => absurd h30 hj) (fun h30 => ?_)
        refine V.iconst C (x := -1) dX6_floats_33 (by decide) ?_
        exact V.iret X dX6_floats_34 rfl (by decide) (by decide) (by unfold S_floats; rw [ok1_t hi (by omega), cI_t h20, ok1_f hj]; exact ⟨rfl, hM, hF⟩)
  · skip
    refine V.ald_n C dX6_floats_0 rfl ?_
    refine V.iconst C (x := 0) dX6_floats_1 (by decide) ?_
    refine V.put C fl_RX6_77 dX6_floats_2 hM.1 ⟨rfl, rfl⟩ (Nat.le_of_ble_eq_true rfl) (fun h => by cases h) (set_same hM.1) ?_
    refine V.ald_n C dX6_floats_5 rfl ?_
    refine V.ild_n C dX6_floats_6 rfl ?_
    refine V.callVp C mo_X6_isThing im_X6_isThing se_X6_isThing ml_RX6_111 (ev_X6_isThing hM hI _) dX6_floats_7 rfl rfl hM.1 rfl rfl (Nat.le_of_ble_eq_true rfl) (RmOk.mk' (by decide) (by decide) (by decide) (by decide)) ⟨rfl, rfl⟩ ?_
    refine V.ifb_eq C (tgt := 33) dX6_floats_10 (by decide) (fun h10 => ?_) (fun h10 => absurd h10 hi)
    refine V.iconst C (x := -1) dX6_floats_33 (by decide) ?_
    exact V.iret X dX6_floats_34 rfl (by decide) (by decide) (by unfold S_floats; rw [ok1_f hi]; exact ⟨rfl, hM, hF⟩)
theorem ev_X6_being {g : GD} {r d t b : Nat} {A : ST} {L : List AE} (hM : MR r d t b A L) (hI : Inv r d t b A) (x : Int32) : Ev g mX6_being [aR 23, aI x] L (MQt L (S_being r d t b A x)) := by
  refine Ev.of [some (aR 23), some (aI x)] (by decide) rfl (Nat.le_of_ble_eq_true rfl) fun Z H0 C X => ?_
  have hN := hI.cn
  have hF : FrM L L := FrM.rf
  rcases isN_cases x r (by omega) with ⟨i, hi, rfl⟩ | hi
  · skip
    refine V.ald_n C dX6_being_0 rfl ?_
    refine V.iconst C (x := 0) dX6_being_1 (by decide) ?_
    refine V.put C fl_RX6_77 dX6_being_2 hM.1 ⟨rfl, rfl⟩ (Nat.le_of_ble_eq_true rfl) (fun h => by cases h) (set_same hM.1) ?_
    refine V.ald_n C dX6_being_5 rfl ?_
    refine V.ild_n C dX6_being_6 rfl ?_
    refine V.callVp C mo_X6_isRoom im_X6_isRoom se_X6_isRoom ml_RX6_97 (ev_X6_isRoom hM hI _) dX6_being_7 rfl rfl hM.1 rfl rfl (Nat.le_of_ble_eq_true rfl) (RmOk.mk' (by decide) (by decide) (by decide) (by decide)) ⟨rfl, rfl⟩ ?_
    refine V.ifb_ne C (tgt := 15) dX6_being_10 (by decide) (fun h10 => ?_) (fun h10 => absurd (isN_nI (show i < r by omega) (by omega)) h10)
    refine V.ald_n C dX6_being_15 rfl ?_
    refine V.get C fg_RX6_94 dX6_being_16 hM.1 rfl ?_
    refine V.bipush C (x := 6) dX6_being_19 (by decide) ?_
    refine V.icmpN_ne C (b) (6) (tgt := 27) dX6_being_21 (by decide) (by omega) (by omega) (fun h21 => ?_) (fun h21 => ?_)
    · skip
      refine V.ald_n C dX6_being_27 rfl ?_
      refine V.get C fg_RX6_47 dX6_being_28 hM.1 rfl ?_
      refine V.ald_n C dX6_being_31 rfl ?_
      refine V.get C fg_RX6_94 dX6_being_32 hM.1 rfl ?_
      refine V.ild_n C dX6_being_35 rfl ?_
      refine V.iastM C hM hF 17 (N := 6) (by decide) rfl rfl rfl (by decide) dX6_being_36 (by omega) (fun L hM hF => ?_)
      refine V.ald_n C dX6_being_37 rfl ?_
      refine V.get C fg_RX6_50 dX6_being_38 hM.1 rfl ?_
      refine V.ald_n C dX6_being_41 rfl ?_
      refine V.get C fg_RX6_94 dX6_being_42 hM.1 rfl ?_
      refine V.iconst C (x := -1) dX6_being_45 (by decide) ?_
      refine V.iastM C hM hF 18 (N := 6) (by decide) rfl rfl rfl (by decide) dX6_being_46 (by omega) (fun L hM hF => ?_)
      refine V.ald_n C dX6_being_47 rfl ?_
      refine V.get C fg_RX6_53 dX6_being_48 hM.1 rfl ?_
      refine V.ald_n C dX6_being_51 rfl ?_
      refine V.get C fg_RX6_94 dX6_being_52 hM.1 rfl ?_
      refine V.iconst C (x := -1) dX6_being_55 (by decide) ?_
      refine V.iastM C hM hF 19 (N := 6) (by decide) rfl rfl rfl (by decide) dX6_being_56 (by omega) (fun L hM hF => ?_)
      refine V.ald_n C dX6_being_57 rfl ?_
      refine V.dup C dX6_being_58 ?_
      refine V.get C fg_RX6_94 dX6_being_59 hM.1 rfl ?_
      refine V.iconst C (x := 1) dX6_being_62 (by decide) ?_
      refine V.iadd C dX6_being_63 ?_
      refine V.top (nI_add b 1) ?_
      refine V.put C fl_RX6_94 dX6_being_64 hM.1 ⟨rfl, rfl⟩ (Nat.le_of_ble_eq_true rfl) (fun h => by cases h) rfl ?_
      have hM2 := hM.fs r d t (b + 1)
      refine V.ald_n C dX6_being_67 rfl ?_
      refine V.get C fg_RX6_94 dX6_being_68 hM2.1 rfl ?_
      refine V.iconst C (x := 1) dX6_being_71 (by decide) ?_
      refine V.isub C dX6_being_72 ?_
      refine V.top (show nI (b + 1) - 1 = nI b from nI_pred b) ?_
      exact V.iret X dX6_being_73 rfl (by decide) (by decide) (by unfold S_being; rw [ok1_t hi (by omega), cI_f h21]; exact ⟨rfl, hM2, hF.st (by decide)⟩)
    · skip
      refine V.bipush C (x := -2) dX6_being_24 (by decide) ?_
      exact V.iret X dX6_being_26 rfl (by decide) (by decide) (by unfold S_being; rw [ok1_t hi (by omega), cI_t h21]; exact ⟨rfl, hM, hF⟩)
  · skip
    refine V.ald_n C dX6_being_0 rfl ?_
    refine V.iconst C (x := 0) dX6_being_1 (by decide) ?_
    refine V.put C fl_RX6_77 dX6_being_2 hM.1 ⟨rfl, rfl⟩ (Nat.le_of_ble_eq_true rfl) (fun h => by cases h) (set_same hM.1) ?_
    refine V.ald_n C dX6_being_5 rfl ?_
    refine V.ild_n C dX6_being_6 rfl ?_
    refine V.callVp C mo_X6_isRoom im_X6_isRoom se_X6_isRoom ml_RX6_97 (ev_X6_isRoom hM hI _) dX6_being_7 rfl rfl hM.1 rfl rfl (Nat.le_of_ble_eq_true rfl) (RmOk.mk' (by decide) (by decide) (by decide) (by decide)) ⟨rfl, rfl⟩ ?_
    refine V.ifb_ne C (tgt := 15) dX6_being_10 (by decide) (fun h10 => absurd h10 hi) (fun h10 => ?_)
    refine V.iconst C (x := -1) dX6_being_13 (by decide) ?_
    exact V.iret X dX6_being_14 rfl (by decide) (by decide) (by unfold S_being; rw [ok1_f hi]; exact ⟨rfl, hM, hF⟩)
theorem ev_X6_act {g : GD} {r d t b : Nat} {A : ST} {L : List AE} (hM : MR r d t b A L) (hI : Inv r d t b A) (x y z : Int32) : Ev g mX6_act [aR 23, aI x, aI y, aI z] L (MQt L (S_act r d t b A x y z)) := by
  refine Ev.of [some (aR 23), some (aI x), some (aI y), some (aI z), none] (by decide) rfl (Nat.le_of_ble_eq_true rfl) fun Z H0 C X => ?_
  have hN := hI.cn
  have hF : FrM L L := FrM.rf
  rcases isN_cases x b (by omega) with ⟨w, hw, rfl⟩ | hw
  · skip
    rcases isN_cases y 4 (by omega) with ⟨c, hc, rfl⟩ | hc
    · skip
      rcases isN_cases z d (by omega) with ⟨j, hj, rfl⟩ | hj
      · skip
        refine V.ald_n C dX6_act_0 rfl ?_
        refine V.iconst C (x := 0) dX6_act_1 (by decide) ?_
        refine V.put C fl_RX6_77 dX6_act_2 hM.1 ⟨rfl, rfl⟩ (Nat.le_of_ble_eq_true rfl) (fun h => by cases h) (set_same hM.1) ?_
        refine V.ald_n C dX6_act_5 rfl ?_
        refine V.ild_n C dX6_act_6 rfl ?_
        refine V.callVp C mo_X6_isBeing im_X6_isBeing se_X6_isBeing ml_RX6_123 (ev_X6_isBeing hM hI _) dX6_act_7 rfl rfl hM.1 rfl rfl (Nat.le_of_ble_eq_true rfl) (RmOk.mk' (by decide) (by decide) (by decide) (by decide)) ⟨rfl, rfl⟩ ?_
        refine V.ifb_eq C (tgt := 30) dX6_act_10 (by decide) (fun h10 => absurd (isN_nI (show w < b by omega) (by omega)) h10) (fun h10 => ?_)
        refine V.ild_n C dX6_act_13 rfl ?_
        refine V.iconst C (x := 0) dX6_act_14 (by decide) ?_
        refine V.iconst C (x := 3) dX6_act_15 (by decide) ?_
        refine V.callSp C mo_X6_in sm_X6_in ml_RX6_84 (ev_X6_in0 _ 4 (by decide)) dX6_act_16 rfl rfl (Nat.le_of_ble_eq_true rfl) (RmOk.mk' (by decide) (by decide) (by decide) (by decide)) ⟨rfl, rfl⟩ ?_
        refine V.ifb_eq C (tgt := 30) dX6_act_19 (by decide) (fun h19 => absurd (isN_nI (show c < 4 by omega) (by omega)) h19) (fun h19 => ?_)
        refine V.ald_n C dX6_act_22 rfl ?_
        refine V.ild_n C dX6_act_23 rfl ?_
        refine V.callVp C mo_X6_isDoor im_X6_isDoor se_X6_isDoor ml_RX6_101 (ev_X6_isDoor hM hI _) dX6_act_24 rfl rfl hM.1 rfl rfl (Nat.le_of_ble_eq_true rfl) (RmOk.mk' (by decide) (by decide) (by decide) (by decide)) ⟨rfl, rfl⟩ ?_
        refine V.ifb_ne C (tgt := 32) dX6_act_27 (by decide) (fun h27 => ?_) (fun h27 => absurd (isN_nI (show j < d by omega) (by omega)) h27)
        refine V.ald_n C dX6_act_32 rfl ?_
        refine V.ild_n C dX6_act_33 rfl ?_
        refine V.ild_n C dX6_act_34 rfl ?_
        refine V.ild_n C dX6_act_35 rfl ?_
        refine V.callVp C mo_X6_actText im_X6_actText se_X6_actText ml_RX6_135 (ev_X6_actText hM hI (by omega) (by omega) (by omega)) dX6_act_36 rfl rfl hM.1 rfl rfl (Nat.le_of_ble_eq_true rfl) (RmOk.mk' (by decide) (by decide) (by decide) (by decide)) ⟨rfl, rfl⟩ ?_
        refine V.ist C dX6_act_39 (Nat.le_of_ble_eq_true rfl) rfl ?_
        refine V.ild C dX6_act_41 rfl ?_
        refine V.if_le C (tgt := 50) dX6_act_43 (by decide) (fun h43 => ?_) (fun h43 => ?_)
        · skip
          obtain rfl | rfl | rfl | rfl : c = 0 ∨ c = 1 ∨ c = 2 ∨ c = 3 := by omega
          · skip
            refine V.ild_n C dX6_act_50 rfl ?_
            refine V.iconst C (x := 2) dX6_act_51 (by decide) ?_
            refine V.icmp_ge C (tgt := 73) dX6_act_52 (by decide) (fun h52 => absurd h52 (by decide)) (fun h52 => ?_)
            refine V.ald_n C dX6_act_55 rfl ?_
            refine V.get C fg_RX6_25 dX6_act_56 hM.1 rfl ?_
            refine V.ild_n C dX6_act_59 rfl ?_
            refine V.ild_n C dX6_act_60 rfl ?_
            refine V.if_ne C (tgt := 68) dX6_act_61 (by decide) (fun h61 => absurd h61 (by decide)) (fun h61 => ?_)
            refine V.iconst C (x := 1) dX6_act_64 (by decide) ?_
            refine V.goto C (tgt := 69) dX6_act_65 (by decide) ?_
            refine V.zastM C hM hF 8 (N := 15) (by decide) rfl rfl rfl (by decide) (Or.inr rfl) dX6_act_69 (by omega) (fun L hM hF => ?_)
            refine V.goto C (tgt := 89) dX6_act_70 (by decide) ?_
            refine V.iconst C (x := 1) dX6_act_89 (by decide) ?_
            exact V.iret X dX6_act_90 rfl (by decide) (by decide) (by unfold S_act; rw [ok1_t hw (by omega), ok1_t hc (by omega), ok1_t hj (by omega), cI_t ((nng_le (atT_nn A d w _ j)).mp h43), show acA A 0 j = up2 A 8 j 1 from (by unfold acA; rw [cI_t (by decide), b2_t rfl])]; exact ⟨rfl, hM, hF⟩)
          · skip
            refine V.ild_n C dX6_act_50 rfl ?_
            refine V.iconst C (x := 2) dX6_act_51 (by decide) ?_
            refine V.icmp_ge C (tgt := 73) dX6_act_52 (by decide) (fun h52 => absurd h52 (by decide)) (fun h52 => ?_)
            refine V.ald_n C dX6_act_55 rfl ?_
            refine V.get C fg_RX6_25 dX6_act_56 hM.1 rfl ?_
            refine V.ild_n C dX6_act_59 rfl ?_
            refine V.ild_n C dX6_act_60 rfl ?_
            refine V.if_ne C (tgt := 68) dX6_act_61 (by decide) (fun h61 => ?_) (fun h61 => absurd h61 (by decide))
            refine V.iconst C (x := 0) dX6_act_68 (by decide) ?_
            refine V.zastM C hM hF 8 (N := 15) (by decide) rfl rfl rfl (by decide) (Or.inl rfl) dX6_act_69 (by omega) (fun L hM hF => ?_)
            refine V.goto C (tgt := 89) dX6_act_70 (by decide) ?_
            refine V.iconst C (x := 1) dX6_act_89 (by decide) ?_
            exact V.iret X dX6_act_90 rfl (by decide) (by decide) (by unfold S_act; rw [ok1_t hw (by omega), ok1_t hc (by omega), ok1_t hj (by omega), cI_t ((nng_le (atT_nn A d w _ j)).mp h43), show acA A 1 j = up2 A 8 j 0 from (by unfold acA; rw [cI_t (by decide), b2_f (by decide)])]; exact ⟨rfl, hM, hF⟩)
          · skip
            refine V.ild_n C dX6_act_50 rfl ?_
            refine V.iconst C (x := 2) dX6_act_51 (by decide) ?_
            refine V.icmp_ge C (tgt := 73) dX6_act_52 (by decide) (fun h52 => ?_) (fun h52 => absurd h52 (by decide))
            refine V.ald_n C dX6_act_73 rfl ?_
            refine V.get C fg_RX6_29 dX6_act_74 hM.1 rfl ?_
            refine V.ild_n C dX6_act_77 rfl ?_
            refine V.ild_n C dX6_act_78 rfl ?_
            refine V.iconst C (x := 2) dX6_act_79 (by decide) ?_
            refine V.icmp_ne C (tgt := 87) dX6_act_80 (by decide) (fun h80 => absurd h80 (by decide)) (fun h80 => ?_)
            refine V.iconst C (x := 1) dX6_act_83 (by decide) ?_
            refine V.goto C (tgt := 88) dX6_act_84 (by decide) ?_
            refine V.zastM C hM hF 9 (N := 15) (by decide) rfl rfl rfl (by decide) (Or.inr rfl) dX6_act_88 (by omega) (fun L hM hF => ?_)
            refine V.iconst C (x := 1) dX6_act_89 (by decide) ?_
            exact V.iret X dX6_act_90 rfl (by decide) (by decide) (by unfold S_act; rw [ok1_t hw (by omega), ok1_t hc (by omega), ok1_t hj (by omega), cI_t ((nng_le (atT_nn A d w _ j)).mp h43), show acA A 2 j = up2 A 9 j 1 from (by unfold acA; rw [cI_f (by decide), b2_t rfl])]; exact ⟨rfl, hM, hF⟩)
          · skip
            refine V.ild_n C dX6_act_50 rfl ?_
            refine V.iconst C (x := 2) dX6_act_51 (by decide) ?_
            refine V.icmp_ge C (tgt := 73) dX6_act_52 (by decide) (fun h52 => ?_) (fun h52 => absurd h52 (by decide))
            refine V.ald_n C dX6_act_73 rfl ?_
            refine V.get C fg_RX6_29 dX6_act_74 hM.1 rfl ?_
            refine V.ild_n C dX6_act_77 rfl ?_
            refine V.ild_n C dX6_act_78 rfl ?_
            refine V.iconst C (x := 2) dX6_act_79 (by decide) ?_
            refine V.icmp_ne C (tgt := 87) dX6_act_80 (by decide) (fun h80 => ?_) (fun h80 => absurd h80 (by decide))
            refine V.iconst C (x := 0) dX6_act_87 (by decide) ?_
            refine V.zastM C hM hF 9 (N := 15) (by decide) rfl rfl rfl (by decide) (Or.inl rfl) dX6_act_88 (by omega) (fun L hM hF => ?_)
            refine V.iconst C (x := 1) dX6_act_89 (by decide) ?_
            exact V.iret X dX6_act_90 rfl (by decide) (by decide) (by unfold S_act; rw [ok1_t hw (by omega), ok1_t hc (by omega), ok1_t hj (by omega), cI_t ((nng_le (atT_nn A d w _ j)).mp h43), show acA A 3 j = up2 A 9 j 0 from (by unfold acA; rw [cI_f (by decide), b2_f (by decide)])]; exact ⟨rfl, hM, hF⟩)
        · skip
          refine V.ild C dX6_act_46 rfl ?_
          refine V.ineg C dX6_act_48 ?_
          exact V.iret X dX6_act_49 rfl (by decide) (by decide) (by unfold S_act; rw [ok1_t hw (by omega), ok1_t hc (by omega), ok1_t hj (by omega), cI_f (fun q => h43 ((nng_le (atT_nn A d w _ j)).mpr q))]; exact ⟨rfl, hM, hF⟩)
      · skip
        refine V.ald_n C dX6_act_0 rfl ?_
        refine V.iconst C (x := 0) dX6_act_1 (by decide) ?_
        refine V.put C fl_RX6_77 dX6_act_2 hM.1 ⟨rfl, rfl⟩ (Nat.le_of_ble_eq_true rfl) (fun h => by cases h) (set_same hM.1) ?_
        refine V.ald_n C dX6_act_5 rfl ?_
        refine V.ild_n C dX6_act_6 rfl ?_
        refine V.callVp C mo_X6_isBeing im_X6_isBeing se_X6_isBeing ml_RX6_123 (ev_X6_isBeing hM hI _) dX6_act_7 rfl rfl hM.1 rfl rfl (Nat.le_of_ble_eq_true rfl) (RmOk.mk' (by decide) (by decide) (by decide) (by decide)) ⟨rfl, rfl⟩ ?_
        refine V.ifb_eq C (tgt := 30) dX6_act_10 (by decide) (fun h10 => absurd (isN_nI (show w < b by omega) (by omega)) h10) (fun h10 => ?_)
        refine V.ild_n C dX6_act_13 rfl ?_
        refine V.iconst C (x := 0) dX6_act_14 (by decide) ?_
        refine V.iconst C (x := 3) dX6_act_15 (by decide) ?_
        refine V.callSp C mo_X6_in sm_X6_in ml_RX6_84 (ev_X6_in0 _ 4 (by decide)) dX6_act_16 rfl rfl (Nat.le_of_ble_eq_true rfl) (RmOk.mk' (by decide) (by decide) (by decide) (by decide)) ⟨rfl, rfl⟩ ?_
        refine V.ifb_eq C (tgt := 30) dX6_act_19 (by decide) (fun h19 => absurd (isN_nI (show c < 4 by omega) (by omega)) h19) (fun h19 => ?_)
        refine V.ald_n C dX6_act_22 rfl ?_
        refine V.ild_n C dX6_act_23 rfl ?_
        refine V.callVp C mo_X6_isDoor im_X6_isDoor se_X6_isDoor ml_RX6_101 (ev_X6_isDoor hM hI _) dX6_act_24 rfl rfl hM.1 rfl rfl (Nat.le_of_ble_eq_true rfl) (RmOk.mk' (by decide) (by decide) (by decide) (by decide)) ⟨rfl, rfl⟩ ?_
        refine V.ifb_ne C (tgt := 32) dX6_act_27 (by decide) (fun h27 => absurd h27 hj) (fun h27 => ?_)
        refine V.iconst C (x := -1) dX6_act_30 (by decide) ?_
        exact V.iret X dX6_act_31 rfl (by decide) (by decide) (by unfold S_act; rw [ok1_t hw (by omega), ok1_t hc (by omega), ok1_f hj]; exact ⟨rfl, hM, hF⟩)
    · skip
      refine V.ald_n C dX6_act_0 rfl ?_
      refine V.iconst C (x := 0) dX6_act_1 (by decide) ?_
      refine V.put C fl_RX6_77 dX6_act_2 hM.1 ⟨rfl, rfl⟩ (Nat.le_of_ble_eq_true rfl) (fun h => by cases h) (set_same hM.1) ?_
      refine V.ald_n C dX6_act_5 rfl ?_
      refine V.ild_n C dX6_act_6 rfl ?_
      refine V.callVp C mo_X6_isBeing im_X6_isBeing se_X6_isBeing ml_RX6_123 (ev_X6_isBeing hM hI _) dX6_act_7 rfl rfl hM.1 rfl rfl (Nat.le_of_ble_eq_true rfl) (RmOk.mk' (by decide) (by decide) (by decide) (by decide)) ⟨rfl, rfl⟩ ?_
      refine V.ifb_eq C (tgt := 30) dX6_act_10 (by decide) (fun h10 => absurd (isN_nI (show w < b by omega) (by omega)) h10) (fun h10 => ?_)
      refine V.ild_n C dX6_act_13 rfl ?_
      refine V.iconst C (x := 0) dX6_act_14 (by decide) ?_
      refine V.iconst C (x := 3) dX6_act_15 (by decide) ?_
      refine V.callSp C mo_X6_in sm_X6_in ml_RX6_84 (ev_X6_in0 _ 4 (by decide)) dX6_act_16 rfl rfl (Nat.le_of_ble_eq_true rfl) (RmOk.mk' (by decide) (by decide) (by decide) (by decide)) ⟨rfl, rfl⟩ ?_
      refine V.ifb_eq C (tgt := 30) dX6_act_19 (by decide) (fun h19 => ?_) (fun h19 => absurd h19 hc)
      refine V.iconst C (x := -1) dX6_act_30 (by decide) ?_
      exact V.iret X dX6_act_31 rfl (by decide) (by decide) (by unfold S_act; rw [ok1_t hw (by omega), ok1_f hc]; exact ⟨rfl, hM, hF⟩)
  · skip
    refine V.ald_n C dX6_act_0 rfl ?_
    refine V.iconst C (x := 0) dX6_act_1 (by decide) ?_
    refine V.put C fl_RX6_77 dX6_act_2 hM.1 ⟨rfl, rfl⟩ (Nat.le_of_ble_eq_true rfl) (fun h => by cases h) (set_same hM.1) ?_
    refine V.ald_n C dX6_act_5 rfl ?_
    refine V.ild_n C dX6_act_6 rfl ?_
    refine V.callVp C mo_X6_isBeing im_X6_isBeing se_X6_isBeing ml_RX6_123 (ev_X6_isBeing hM hI _) dX6_act_7 rfl rfl hM.1 rfl rfl (Nat.le_of_ble_eq_true rfl) (RmOk.mk' (by decide) (by decide) (by decide) (by decide)) ⟨rfl, rfl⟩ ?_
    refine V.ifb_eq C (tgt := 30) dX6_act_10 (by decide) (fun h10 => ?_) (fun h10 => absurd h10 hw)
    refine V.iconst C (x := -1) dX6_act_30 (by decide) ?_
    exact V.iret X dX6_act_31 rfl (by decide) (by decide) (by unfold S_act; rw [ok1_f hw]; exact ⟨rfl, hM, hF⟩)
theorem ev_X6_handle {g : GD} {r d t b : Nat} {A : ST} {L : List AE} (hM : MR r d t b A L) (hI : Inv r d t b A) (x y z : Int32) : Ev g mX6_handle [aR 23, aI x, aI y, aI z] L (MQt L (S_handle r d t b A x y z)) := by
  refine Ev.of [some (aR 23), some (aI x), some (aI y), some (aI z), none] (by decide) rfl (Nat.le_of_ble_eq_true rfl) fun Z H0 C X => ?_
  have hN := hI.cn
  have hF : FrM L L := FrM.rf
  rcases isN_cases x b (by omega) with ⟨w, hw, rfl⟩ | hw
  · skip
    rcases isN_cases y 5 (by omega) with ⟨c, hc, rfl⟩ | hc
    · skip
      rcases isN_cases z t (by omega) with ⟨j, hj, rfl⟩ | hj
      · skip
        refine V.ald_n C dX6_handle_0 rfl ?_
        refine V.iconst C (x := 0) dX6_handle_1 (by decide) ?_
        refine V.put C fl_RX6_77 dX6_handle_2 hM.1 ⟨rfl, rfl⟩ (Nat.le_of_ble_eq_true rfl) (fun h => by cases h) (set_same hM.1) ?_
        refine V.ald_n C dX6_handle_5 rfl ?_
        refine V.ild_n C dX6_handle_6 rfl ?_
        refine V.callVp C mo_X6_isBeing im_X6_isBeing se_X6_isBeing ml_RX6_123 (ev_X6_isBeing hM hI _) dX6_handle_7 rfl rfl hM.1 rfl rfl (Nat.le_of_ble_eq_true rfl) (RmOk.mk' (by decide) (by decide) (by decide) (by decide)) ⟨rfl, rfl⟩ ?_
        refine V.ifb_eq C (tgt := 30) dX6_handle_10 (by decide) (fun h10 => absurd (isN_nI (show w < b by omega) (by omega)) h10) (fun h10 => ?_)
        refine V.ild_n C dX6_handle_13 rfl ?_
        refine V.iconst C (x := 0) dX6_handle_14 (by decide) ?_
        refine V.iconst C (x := 4) dX6_handle_15 (by decide) ?_
        refine V.callSp C mo_X6_in sm_X6_in ml_RX6_84 (ev_X6_in0 _ 5 (by decide)) dX6_handle_16 rfl rfl (Nat.le_of_ble_eq_true rfl) (RmOk.mk' (by decide) (by decide) (by decide) (by decide)) ⟨rfl, rfl⟩ ?_
        refine V.ifb_eq C (tgt := 30) dX6_handle_19 (by decide) (fun h19 => absurd (isN_nI (show c < 5 by omega) (by omega)) h19) (fun h19 => ?_)
        refine V.ald_n C dX6_handle_22 rfl ?_
        refine V.ild_n C dX6_handle_23 rfl ?_
        refine V.callVp C mo_X6_isThing im_X6_isThing se_X6_isThing ml_RX6_111 (ev_X6_isThing hM hI _) dX6_handle_24 rfl rfl hM.1 rfl rfl (Nat.le_of_ble_eq_true rfl) (RmOk.mk' (by decide) (by decide) (by decide) (by decide)) ⟨rfl, rfl⟩ ?_
        refine V.ifb_ne C (tgt := 32) dX6_handle_27 (by decide) (fun h27 => ?_) (fun h27 => absurd (isN_nI (show j < t by omega) (by omega)) h27)
        refine V.ald_n C dX6_handle_32 rfl ?_
        refine V.ild_n C dX6_handle_33 rfl ?_
        refine V.ild_n C dX6_handle_34 rfl ?_
        refine V.ild_n C dX6_handle_35 rfl ?_
        refine V.callVp C mo_X6_handleText im_X6_handleText se_X6_handleText ml_RX6_143 (ev_X6_handleText hM hI (by omega) (by omega) (by omega)) dX6_handle_36 rfl rfl hM.1 rfl rfl (Nat.le_of_ble_eq_true rfl) (RmOk.mk' (by decide) (by decide) (by decide) (by decide)) ⟨rfl, rfl⟩ ?_
        refine V.ist C dX6_handle_39 (Nat.le_of_ble_eq_true rfl) rfl ?_
        refine V.ild C dX6_handle_41 rfl ?_
        refine V.if_le C (tgt := 50) dX6_handle_43 (by decide) (fun h43 => ?_) (fun h43 => ?_)
        · skip
          obtain rfl | rfl | rfl | rfl | rfl : c = 0 ∨ c = 1 ∨ c = 2 ∨ c = 3 ∨ c = 4 := by omega
          · skip
            refine V.ild_n C dX6_handle_50 rfl ?_
            refine V.iconst C (x := 2) dX6_handle_51 (by decide) ?_
            refine V.icmp_ge C (tgt := 81) dX6_handle_52 (by decide) (fun h52 => absurd h52 (by decide)) (fun h52 => ?_)
            refine V.ald_n C dX6_handle_55 rfl ?_
            refine V.get C fg_RX6_38 dX6_handle_56 hM.1 rfl ?_
            refine V.ild_n C dX6_handle_59 rfl ?_
            refine V.ild_n C dX6_handle_60 rfl ?_
            refine V.if_ne C (tgt := 71) dX6_handle_61 (by decide) (fun h61 => absurd h61 (by decide)) (fun h61 => ?_)
            refine V.bipush C (x := 100) dX6_handle_64 (by decide) ?_
            refine V.ild_n C dX6_handle_66 rfl ?_
            refine V.iadd C dX6_handle_67 ?_
            refine V.top (nI_add 100 w) ?_
            refine V.goto C (tgt := 77) dX6_handle_68 (by decide) ?_
            refine V.iastM C hM hF 13 (N := 30) (by decide) rfl rfl rfl (by decide) dX6_handle_77 (by omega) (fun L hM hF => ?_)
            refine V.goto C (tgt := 112) dX6_handle_78 (by decide) ?_
            refine V.iconst C (x := 1) dX6_handle_112 (by decide) ?_
            exact V.iret X dX6_handle_113 rfl (by decide) (by decide) (by unfold S_handle; rw [ok1_t hw (by omega), ok1_t hc (by omega), ok1_t hj (by omega), cI_t ((nng_le (hdT_nn A t w _ j)).mp h43), show hdA A w 0 j = up2 A 13 j (nI (100 + w)) from (by unfold hdA; rw [cI_t rfl])]; exact ⟨rfl, hM, hF⟩)
          · skip
            refine V.ild_n C dX6_handle_50 rfl ?_
            refine V.iconst C (x := 2) dX6_handle_51 (by decide) ?_
            refine V.icmp_ge C (tgt := 81) dX6_handle_52 (by decide) (fun h52 => absurd h52 (by decide)) (fun h52 => ?_)
            refine V.ald_n C dX6_handle_55 rfl ?_
            refine V.get C fg_RX6_38 dX6_handle_56 hM.1 rfl ?_
            refine V.ild_n C dX6_handle_59 rfl ?_
            refine V.ild_n C dX6_handle_60 rfl ?_
            refine V.if_ne C (tgt := 71) dX6_handle_61 (by decide) (fun h61 => ?_) (fun h61 => absurd h61 (by decide))
            refine V.ald_n C dX6_handle_71 rfl ?_
            refine V.get C fg_RX6_47 dX6_handle_72 hM.1 rfl ?_
            refine V.ild_n C dX6_handle_75 rfl ?_
            refine V.ialdN C (N := 6) dX6_handle_76 (hM.2 17 (by decide)) (by omega) (by decide) ?_
            refine V.iastM C hM hF 13 (N := 30) (by decide) rfl rfl rfl (by decide) dX6_handle_77 (by omega) (fun L hM hF => ?_)
            refine V.goto C (tgt := 112) dX6_handle_78 (by decide) ?_
            refine V.iconst C (x := 1) dX6_handle_112 (by decide) ?_
            exact V.iret X dX6_handle_113 rfl (by decide) (by decide) (by unfold S_handle; rw [ok1_t hw (by omega), ok1_t hc (by omega), ok1_t hj (by omega), cI_t ((nng_le (hdT_nn A t w _ j)).mp h43), show hdA A w 1 j = up2 A 13 j (A 17 w) from (by unfold hdA; rw [cI_f (by decide), cI_t rfl])]; exact ⟨rfl, hM, hF⟩)
          · skip
            refine V.ild_n C dX6_handle_50 rfl ?_
            refine V.iconst C (x := 2) dX6_handle_51 (by decide) ?_
            refine V.icmp_ge C (tgt := 81) dX6_handle_52 (by decide) (fun h52 => ?_) (fun h52 => absurd h52 (by decide))
            refine V.ild_n C dX6_handle_81 rfl ?_
            refine V.iconst C (x := 2) dX6_handle_82 (by decide) ?_
            refine V.icmp_ne C (tgt := 96) dX6_handle_83 (by decide) (fun h83 => absurd h83 (by decide)) (fun h83 => ?_)
            refine V.ald_n C dX6_handle_86 rfl ?_
            refine V.get C fg_RX6_50 dX6_handle_87 hM.1 rfl ?_
            refine V.ild_n C dX6_handle_90 rfl ?_
            refine V.ild_n C dX6_handle_91 rfl ?_
            refine V.iastM C hM hF 18 (N := 6) (by decide) rfl rfl rfl (by decide) dX6_handle_92 (by omega) (fun L hM hF => ?_)
            refine V.goto C (tgt := 112) dX6_handle_93 (by decide) ?_
            refine V.iconst C (x := 1) dX6_handle_112 (by decide) ?_
            exact V.iret X dX6_handle_113 rfl (by decide) (by decide) (by unfold S_handle; rw [ok1_t hw (by omega), ok1_t hc (by omega), ok1_t hj (by omega), cI_t ((nng_le (hdT_nn A t w _ j)).mp h43), show hdA A w 2 j = up2 A 18 w (nI j) from (by unfold hdA; rw [cI_f (by decide), cI_f (by decide), cI_t rfl])]; exact ⟨rfl, hM, hF⟩)
          · skip
            refine V.ild_n C dX6_handle_50 rfl ?_
            refine V.iconst C (x := 2) dX6_handle_51 (by decide) ?_
            refine V.icmp_ge C (tgt := 81) dX6_handle_52 (by decide) (fun h52 => ?_) (fun h52 => absurd h52 (by decide))
            refine V.ild_n C dX6_handle_81 rfl ?_
            refine V.iconst C (x := 2) dX6_handle_82 (by decide) ?_
            refine V.icmp_ne C (tgt := 96) dX6_handle_83 (by decide) (fun h83 => ?_) (fun h83 => absurd h83 (by decide))
            refine V.ald_n C dX6_handle_96 rfl ?_
            refine V.get C fg_RX6_44 dX6_handle_97 hM.1 rfl ?_
            refine V.ild_n C dX6_handle_100 rfl ?_
            refine V.ild_n C dX6_handle_101 rfl ?_
            refine V.iconst C (x := 4) dX6_handle_102 (by decide) ?_
            refine V.icmp_ne C (tgt := 110) dX6_handle_103 (by decide) (fun h103 => ?_) (fun h103 => absurd h103 (by decide))
            refine V.iconst C (x := 0) dX6_handle_110 (by decide) ?_
            refine V.zastM C hM hF 15 (N := 30) (by decide) rfl rfl rfl (by decide) (Or.inl rfl) dX6_handle_111 (by omega) (fun L hM hF => ?_)
            refine V.iconst C (x := 1) dX6_handle_112 (by decide) ?_
            exact V.iret X dX6_handle_113 rfl (by decide) (by decide) (by unfold S_handle; rw [ok1_t hw (by omega), ok1_t hc (by omega), ok1_t hj (by omega), cI_t ((nng_le (hdT_nn A t w _ j)).mp h43), show hdA A w 3 j = up2 A 15 j 0 from (by unfold hdA; rw [cI_f (by decide), cI_f (by decide), cI_f (by decide), b2_f (by decide)])]; exact ⟨rfl, hM, hF⟩)
          · skip
            refine V.ild_n C dX6_handle_50 rfl ?_
            refine V.iconst C (x := 2) dX6_handle_51 (by decide) ?_
            refine V.icmp_ge C (tgt := 81) dX6_handle_52 (by decide) (fun h52 => ?_) (fun h52 => absurd h52 (by decide))
            refine V.ild_n C dX6_handle_81 rfl ?_
            refine V.iconst C (x := 2) dX6_handle_82 (by decide) ?_
            refine V.icmp_ne C (tgt := 96) dX6_handle_83 (by decide) (fun h83 => ?_) (fun h83 => absurd h83 (by decide))
            refine V.ald_n C dX6_handle_96 rfl ?_
            refine V.get C fg_RX6_44 dX6_handle_97 hM.1 rfl ?_
            refine V.ild_n C dX6_handle_100 rfl ?_
            refine V.ild_n C dX6_handle_101 rfl ?_
            refine V.iconst C (x := 4) dX6_handle_102 (by decide) ?_
            refine V.icmp_ne C (tgt := 110) dX6_handle_103 (by decide) (fun h103 => absurd h103 (by decide)) (fun h103 => ?_)
            refine V.iconst C (x := 1) dX6_handle_106 (by decide) ?_
            refine V.goto C (tgt := 111) dX6_handle_107 (by decide) ?_
            refine V.zastM C hM hF 15 (N := 30) (by decide) rfl rfl rfl (by decide) (Or.inr rfl) dX6_handle_111 (by omega) (fun L hM hF => ?_)
            refine V.iconst C (x := 1) dX6_handle_112 (by decide) ?_
            exact V.iret X dX6_handle_113 rfl (by decide) (by decide) (by unfold S_handle; rw [ok1_t hw (by omega), ok1_t hc (by omega), ok1_t hj (by omega), cI_t ((nng_le (hdT_nn A t w _ j)).mp h43), show hdA A w 4 j = up2 A 15 j 1 from (by unfold hdA; rw [cI_f (by decide), cI_f (by decide), cI_f (by decide), b2_t rfl])]; exact ⟨rfl, hM, hF⟩)
        · skip
          refine V.ild C dX6_handle_46 rfl ?_
          refine V.ineg C dX6_handle_48 ?_
          exact V.iret X dX6_handle_49 rfl (by decide) (by decide) (by unfold S_handle; rw [ok1_t hw (by omega), ok1_t hc (by omega), ok1_t hj (by omega), cI_f (fun q => h43 ((nng_le (hdT_nn A t w _ j)).mpr q))]; exact ⟨rfl, hM, hF⟩)
      · skip
        refine V.ald_n C dX6_handle_0 rfl ?_
        refine V.iconst C (x := 0) dX6_handle_1 (by decide) ?_
        refine V.put C fl_RX6_77 dX6_handle_2 hM.1 ⟨rfl, rfl⟩ (Nat.le_of_ble_eq_true rfl) (fun h => by cases h) (set_same hM.1) ?_
        refine V.ald_n C dX6_handle_5 rfl ?_
        refine V.ild_n C dX6_handle_6 rfl ?_
        refine V.callVp C mo_X6_isBeing im_X6_isBeing se_X6_isBeing ml_RX6_123 (ev_X6_isBeing hM hI _) dX6_handle_7 rfl rfl hM.1 rfl rfl (Nat.le_of_ble_eq_true rfl) (RmOk.mk' (by decide) (by decide) (by decide) (by decide)) ⟨rfl, rfl⟩ ?_
        refine V.ifb_eq C (tgt := 30) dX6_handle_10 (by decide) (fun h10 => absurd (isN_nI (show w < b by omega) (by omega)) h10) (fun h10 => ?_)
        refine V.ild_n C dX6_handle_13 rfl ?_
        refine V.iconst C (x := 0) dX6_handle_14 (by decide) ?_
        refine V.iconst C (x := 4) dX6_handle_15 (by decide) ?_
        refine V.callSp C mo_X6_in sm_X6_in ml_RX6_84 (ev_X6_in0 _ 5 (by decide)) dX6_handle_16 rfl rfl (Nat.le_of_ble_eq_true rfl) (RmOk.mk' (by decide) (by decide) (by decide) (by decide)) ⟨rfl, rfl⟩ ?_
        refine V.ifb_eq C (tgt := 30) dX6_handle_19 (by decide) (fun h19 => absurd (isN_nI (show c < 5 by omega) (by omega)) h19) (fun h19 => ?_)
        refine V.ald_n C dX6_handle_22 rfl ?_
        refine V.ild_n C dX6_handle_23 rfl ?_
        refine V.callVp C mo_X6_isThing im_X6_isThing se_X6_isThing ml_RX6_111 (ev_X6_isThing hM hI _) dX6_handle_24 rfl rfl hM.1 rfl rfl (Nat.le_of_ble_eq_true rfl) (RmOk.mk' (by decide) (by decide) (by decide) (by decide)) ⟨rfl, rfl⟩ ?_
        refine V.ifb_ne C (tgt := 32) dX6_handle_27 (by decide) (fun h27 => absurd h27 hj) (fun h27 => ?_)
        refine V.iconst C (x := -1) dX6_handle_30 (by decide) ?_
        exact V.iret X dX6_handle_31 rfl (by decide) (by decide) (by unfold S_handle; rw [ok1_t hw (by omega), ok1_t hc (by omega), ok1_f hj]; exact ⟨rfl, hM, hF⟩)
    · skip
      refine V.ald_n C dX6_handle_0 rfl ?_
      refine V.iconst C (x := 0) dX6_handle_1 (by decide) ?_
      refine V.put C fl_RX6_77 dX6_handle_2 hM.1 ⟨rfl, rfl⟩ (Nat.le_of_ble_eq_true rfl) (fun h => by cases h) (set_same hM.1) ?_
      refine V.ald_n C dX6_handle_5 rfl ?_
      refine V.ild_n C dX6_handle_6 rfl ?_
      refine V.callVp C mo_X6_isBeing im_X6_isBeing se_X6_isBeing ml_RX6_123 (ev_X6_isBeing hM hI _) dX6_handle_7 rfl rfl hM.1 rfl rfl (Nat.le_of_ble_eq_true rfl) (RmOk.mk' (by decide) (by decide) (by decide) (by decide)) ⟨rfl, rfl⟩ ?_
      refine V.ifb_eq C (tgt := 30) dX6_handle_10 (by decide) (fun h10 => absurd (isN_nI (show w < b by omega) (by omega)) h10) (fun h10 => ?_)
      refine V.ild_n C dX6_handle_13 rfl ?_
      refine V.iconst C (x := 0) dX6_handle_14 (by decide) ?_
      refine V.iconst C (x := 4) dX6_handle_15 (by decide) ?_
      refine V.callSp C mo_X6_in sm_X6_in ml_RX6_84 (ev_X6_in0 _ 5 (by decide)) dX6_handle_16 rfl rfl (Nat.le_of_ble_eq_true rfl) (RmOk.mk' (by decide) (by decide) (by decide) (by decide)) ⟨rfl, rfl⟩ ?_
      refine V.ifb_eq C (tgt := 30) dX6_handle_19 (by decide) (fun h19 => ?_) (fun h19 => absurd h19 hc)
      refine V.iconst C (x := -1) dX6_handle_30 (by decide) ?_
      exact V.iret X dX6_handle_31 rfl (by decide) (by decide) (by unfold S_handle; rw [ok1_t hw (by omega), ok1_f hc]; exact ⟨rfl, hM, hF⟩)
  · skip
    refine V.ald_n C dX6_handle_0 rfl ?_
    refine V.iconst C (x := 0) dX6_handle_1 (by decide) ?_
    refine V.put C fl_RX6_77 dX6_handle_2 hM.1 ⟨rfl, rfl⟩ (Nat.le_of_ble_eq_true rfl) (fun h => by cases h) (set_same hM.1) ?_
    refine V.ald_n C dX6_handle_5 rfl ?_
    refine V.ild_n C dX6_handle_6 rfl ?_
    refine V.callVp C mo_X6_isBeing im_X6_isBeing se_X6_isBeing ml_RX6_123 (ev_X6_isBeing hM hI _) dX6_handle_7 rfl rfl hM.1 rfl rfl (Nat.le_of_ble_eq_true rfl) (RmOk.mk' (by decide) (by decide) (by decide) (by decide)) ⟨rfl, rfl⟩ ?_
    refine V.ifb_eq C (tgt := 30) dX6_handle_10 (by decide) (fun h10 => ?_) (fun h10 => absurd h10 hw)
    refine V.iconst C (x := -1) dX6_handle_30 (by decide) ?_
    exact V.iret X dX6_handle_31 rfl (by decide) (by decide) (by unfold S_handle; rw [ok1_f hw]; exact ⟨rfl, hM, hF⟩)
theorem ev_X6_leave {g : GD} {r d t b : Nat} {A : ST} {L : List AE} (hM : MR r d t b A L) (hI : Inv r d t b A) (x : Int32) : Ev g mX6_leave [aR 23, aI x] L (MQt L (S_leave r d t b A x)) := by
  refine Ev.of [some (aR 23), some (aI x)] (by decide) rfl (Nat.le_of_ble_eq_true rfl) fun Z H0 C X => ?_
  have hN := hI.cn
  have hF : FrM L L := FrM.rf
  rcases isN_cases x b (by omega) with ⟨w, hw, rfl⟩ | hw
  · skip
    refine V.ald_n C dX6_leave_0 rfl ?_
    refine V.iconst C (x := 0) dX6_leave_1 (by decide) ?_
    refine V.put C fl_RX6_77 dX6_leave_2 hM.1 ⟨rfl, rfl⟩ (Nat.le_of_ble_eq_true rfl) (fun h => by cases h) (set_same hM.1) ?_
    refine V.ald_n C dX6_leave_5 rfl ?_
    refine V.ild_n C dX6_leave_6 rfl ?_
    refine V.callVp C mo_X6_isBeing im_X6_isBeing se_X6_isBeing ml_RX6_123 (ev_X6_isBeing hM hI _) dX6_leave_7 rfl rfl hM.1 rfl rfl (Nat.le_of_ble_eq_true rfl) (RmOk.mk' (by decide) (by decide) (by decide) (by decide)) ⟨rfl, rfl⟩ ?_
    refine V.ifb_ne C (tgt := 15) dX6_leave_10 (by decide) (fun h10 => ?_) (fun h10 => absurd (isN_nI (show w < b by omega) (by omega)) h10)
    rcases (hI.cb hw).2.1 with hf | ⟨k, hk, hf, -⟩
    · skip
      refine V.ald_n C dX6_leave_15 rfl ?_
      refine V.get C fg_RX6_50 dX6_leave_16 hM.1 rfl ?_
      refine V.ild_n C dX6_leave_19 rfl ?_
      refine V.ialdN C (N := 6) dX6_leave_20 (hM.2 18 (by decide)) (by omega) (by decide) ?_
      refine V.top hf ?_
      refine V.if_ge C (tgt := 27) dX6_leave_21 (by decide) (fun h21 => absurd h21 (by decide)) (fun h21 => ?_)
      refine V.bipush C (x := -23) dX6_leave_24 (by decide) ?_
      exact V.iret X dX6_leave_26 rfl (by decide) (by decide) (by unfold S_leave; rw [ok1_t hw (by omega), cI_t hf]; exact ⟨rfl, hM, hF⟩)
    · skip
      refine V.ald_n C dX6_leave_15 rfl ?_
      refine V.get C fg_RX6_50 dX6_leave_16 hM.1 rfl ?_
      refine V.ild_n C dX6_leave_19 rfl ?_
      refine V.ialdN C (N := 6) dX6_leave_20 (hM.2 18 (by decide)) (by omega) (by decide) ?_
      refine V.top hf ?_
      refine V.if_ge C (tgt := 27) dX6_leave_21 (by decide) (fun h21 => ?_) (fun h21 => absurd (nI_pos' (by omega)) h21)
      refine V.ald_n C dX6_leave_27 rfl ?_
      refine V.get C fg_RX6_44 dX6_leave_28 hM.1 rfl ?_
      refine V.ald_n C dX6_leave_31 rfl ?_
      refine V.get C fg_RX6_50 dX6_leave_32 hM.1 rfl ?_
      refine V.ild_n C dX6_leave_35 rfl ?_
      refine V.ialdN C (N := 6) dX6_leave_36 (hM.2 18 (by decide)) (by omega) (by decide) ?_
      refine V.top hf ?_
      refine V.zaldN C (N := 30) dX6_leave_37 (hM.2 15 (by decide)) (by omega) (by decide) ?_
      refine V.if_eq C (tgt := 44) dX6_leave_38 (by decide) (fun h38 => ?_) (fun h38 => ?_)
      · skip
        refine V.ald_n C dX6_leave_44 rfl ?_
        refine V.get C fg_RX6_50 dX6_leave_45 hM.1 rfl ?_
        refine V.ild_n C dX6_leave_48 rfl ?_
        refine V.iconst C (x := -1) dX6_leave_49 (by decide) ?_
        refine V.iastM C hM hF 18 (N := 6) (by decide) rfl rfl rfl (by decide) dX6_leave_50 (by omega) (fun L hM hF => ?_)
        refine V.iconst C (x := 1) dX6_leave_51 (by decide) ?_
        exact V.iret X dX6_leave_52 rfl (by decide) (by decide) (by unfold S_leave; rw [ok1_t hw (by omega), cI_f (fun q => nI_neg (show k < 2 ^ 31 by omega) (hf.symm.trans q)), cI_f (fun q => by rw [shIn_k hf (by omega), h38] at q; exact absurd q (by decide))]; exact ⟨rfl, hM, hF⟩)
      · skip
        refine V.bipush C (x := -21) dX6_leave_41 (by decide) ?_
        exact V.iret X dX6_leave_43 rfl (by decide) (by decide) (by unfold S_leave; rw [ok1_t hw (by omega), cI_f (fun q => nI_neg (show k < 2 ^ 31 by omega) (hf.symm.trans q)), cI_t ((shIn_k hf (by omega)).mpr ((hI.ct hk).2.2.2.1.resolve_left h38))]; exact ⟨rfl, hM, hF⟩)
  · skip
    refine V.ald_n C dX6_leave_0 rfl ?_
    refine V.iconst C (x := 0) dX6_leave_1 (by decide) ?_
    refine V.put C fl_RX6_77 dX6_leave_2 hM.1 ⟨rfl, rfl⟩ (Nat.le_of_ble_eq_true rfl) (fun h => by cases h) (set_same hM.1) ?_
    refine V.ald_n C dX6_leave_5 rfl ?_
    refine V.ild_n C dX6_leave_6 rfl ?_
    refine V.callVp C mo_X6_isBeing im_X6_isBeing se_X6_isBeing ml_RX6_123 (ev_X6_isBeing hM hI _) dX6_leave_7 rfl rfl hM.1 rfl rfl (Nat.le_of_ble_eq_true rfl) (RmOk.mk' (by decide) (by decide) (by decide) (by decide)) ⟨rfl, rfl⟩ ?_
    refine V.ifb_ne C (tgt := 15) dX6_leave_10 (by decide) (fun h10 => absurd h10 hw) (fun h10 => ?_)
    refine V.iconst C (x := -1) dX6_leave_13 (by decide) ?_
    exact V.iret X dX6_leave_14 rfl (by decide) (by decide) (by unfold S_leave; rw [ok1_f hw]; exact ⟨rfl, hM, hF⟩)
